theorem ob2_s {α β ρ : Type} (a : α) (b : β) (g : α → β → Option ρ) : ob2 (some (a, b)) g = g a b := rfl
theorem ob3_s {α β γ ρ : Type} (a : α) (b : β) (c : γ) (g : α → β → γ → Option ρ) : ob3 (some (a, b, c)) g = g a b c := rfl
theorem le_n {a b : Nat} (ha : a < 2 ^ 31) (hb : b < 2 ^ 31) : nI a ≤ nI b ↔ a ≤ b := by
  rw [Int32.le_iff_toInt_le, nI_toInt ha, nI_toInt hb]; omega
theorem lt_n {a b : Nat} (ha : a < 2 ^ 31) (hb : b < 2 ^ 31) : nI a < nI b ↔ a < b := by
  rw [Int32.lt_iff_toInt_lt, nI_toInt ha, nI_toInt hb]; omega
theorem in_iff (x : Int32) (m : Nat) (hm : m + 1 < 2 ^ 31) : ((0 : Int32) ≤ x ∧ x ≤ nI m) ↔ ¬ (x < 0 ∨ nI (m + 1) ≤ x) := by
  rw [Int32.le_iff_toInt_le, Int32.le_iff_toInt_le, Int32.le_iff_toInt_le, Int32.lt_iff_toInt_lt, nI_toInt hm, nI_toInt (show m < 2 ^ 31 by omega)]
  have e : (0 : Int32).toInt = 0 := rfl
  rw [e]
  omega
theorem tP_ag {P : Nat} {L : Nat → Nat → Nat} (hP : P ≤ 6) (hd : L 0 0 ≤ 12) {g g' : Nat → Int32} {o o' : Nat} (h : tP P L g o) (e : ∀ x, x < 68 → g' (o' + x) = g (o + x)) : tP P L g' o' := by
  obtain ⟨h1, h2, h3, h4⟩ := h
  refine ⟨fun p hp => ⟨?_, ?_, ?_⟩, fun j hj => ⟨?_, ?_, ?_, ?_⟩, ?_, ?_⟩
  · rw [e p (by omega)]; exact (h1 p hp).1
  · rw [Nat.add_assoc, e (6 + p) (by omega), ← Nat.add_assoc]; exact (h1 p hp).2.1
  · rw [Nat.add_assoc, e (12 + p) (by omega), ← Nat.add_assoc]; exact (h1 p hp).2.2
  · rw [Nat.add_assoc, e (18 + j) (by omega), ← Nat.add_assoc]; exact (h2 j hj).1
  · rw [Nat.add_assoc, e (30 + j) (by omega), ← Nat.add_assoc]; exact (h2 j hj).2.1
  · rw [Nat.add_assoc, e (42 + j) (by omega), ← Nat.add_assoc]; exact (h2 j hj).2.2.1
  · rw [Nat.add_assoc, e (54 + j) (by omega), ← Nat.add_assoc]; exact (h2 j hj).2.2.2
  · rw [e 66 (by omega)]; exact h3
  · rw [e 67 (by omega)]; exact h4
theorem S_keep {f : Nat} (hf : 100 ≤ f) : Sim_keep Rel f := by
  intro SI SV LaI LaV LsI LsV I V a0 h
  have h0 := h
  obtain ⟨P, hP, i4, ⟨L, hok, hM, hL⟩, hT, hA, hSl, hDa, z0, z1⟩ := h
  by_cases c : a0 < 0 ∨ nI 2 ≤ a0
  · refine ⟨-1, SV 3, LsI, LsV, va_up I 0 0, V, ?_, ?_, ?_⟩
    · unfold X_keep
      by_cases c0 : a0 < 0
      · rw [if_pos c0]
      · rw [if_neg c0, if_neg]
        intro q
        rcases c with c | c
        · exact c0 c
        · exact absurd (Int32.lt_iff_toInt_lt.mp q) (by have := Int32.le_iff_toInt_le.mp c; have e : (nI 2).toInt = (2 : Int32).toInt := rfl; omega)
    · unfold M_keep
      simp only [nm]
      rw [show M_in f a0.toInt64 0 1 = some (if (0 : Int32) ≤ a0 ∧ a0 ≤ nI 1 then 1 else 0) from in_c f a0 0 1, if_neg (fun q => (in_iff a0 1 (by decide)).mp q c)]
      rfl
    · rw [up_id]; exact Rel_ag h0 (agI_0 I 0) (agV_rf V)
  · obtain ⟨s, hs, rfl⟩ := one_of (by decide) c
    obtain ⟨J, W, q1, q2⟩ := copy_eq f (LsI s) (LsV s) hP hok.1 hL
    have hM3 : tM P L (va_up I 0 0) (va_up V 26 (upd (V 26) s (vp_nar .boolean 1))) := hM
    obtain ⟨g', q3, q4, q5⟩ := layk_eq hf hP hok hM3 (o := 74 * s) (by omega)
    refine ⟨nI (L 0 0), va_up (SV 3) 1 (upd (SV 3 1) s (vp_nar .boolean 1)), va_up LsI s J, va_up LsV s W, va_up I 0 0, va_up (va_up V 26 (upd (V 26) s (vp_nar .boolean 1))) 25 g', ?_, ?_, ?_⟩
    · unfold X_keep Slt_put
      simp only [nm]
      rw [if_neg (nI_pos (by omega)), if_pos (show nI s < 2 from nI_lt hs (by decide))]
      simp only [gd_nI hs (show 2 < 2 ^ 31 by decide)]
      simp only [cl_nI (show s < 2 ^ 31 by omega), q1, ob2_s, ob3_s]
      rw [hL.2.1]
    · unfold M_keep
      simp only [nm]
      rw [show M_in f (nI s).toInt64 0 1 = some (if (0 : Int32) ≤ nI s ∧ nI s ≤ nI 1 then 1 else 0) from in_c f (nI s) 0 1, if_pos ((in_iff _ 1 (by decide)).mpr c), ob1_s, if_neg (by decide), gd_nI hs (by decide), cl_nI (by omega), show (74 : Int32) * nI s = nI (74 * s) from pk_mul 74 s, q3, ob2_s, show va_up I 0 0 9 = nI (L 0 0) from hM.1]
    · refine ⟨P, hP, i4, ⟨L, hok, hM, hL⟩, hT, hA, fun s' hs' => ?_, hDa, z0, z1⟩
      by_cases e : s' = s
      · subst e
        refine ⟨1, by omega, upd_s _ _ _, upd_s _ _ _, fun _ => ⟨L, hok, q4, ?_⟩⟩
        rw [va_up_self, va_up_self]; exact q2
      · obtain ⟨u, hu, e1, e2, e3⟩ := hSl s' hs'
        refine ⟨u, hu, (upd_n _ _ e).trans e1, (upd_n _ _ e).trans e2, fun hu1 => ?_⟩
        obtain ⟨L', o1, o2, o3⟩ := e3 hu1
        refine ⟨L', o1, tP_ag hP o1.1 o2 (fun x hx => ?_), ?_⟩
        · exact q5 _ (by omega)
        · rw [va_up_ne _ _ e, va_up_ne _ _ e]; exact o3
theorem S_again {f : Nat} (hf : 100 ≤ f) : Sim_again Rel f := by
  intro SI SV LaI LaV LsI LsV I V a0 h
  have h0 := h
  obtain ⟨P, hP, i4, ⟨L, hok, hM, hL⟩, hT, hA, hSl, hDa, z0, z1⟩ := h
  have hRel : Rel (va_up (va_up SI 1 (SI 1)) 2 (SI 2)) (va_up SV 1 (SV 1)) LaI LaV LsI LsV (va_up I 0 0) V := by rw [up_id, up_id, up_id]; exact Rel_ag h0 (agI_0 I 0) (agV_rf V)
  by_cases c : a0 < 0 ∨ nI 2 ≤ a0
  · refine ⟨-1, SI 1, SV 1, SI 2, va_up I 0 0, V, ?_, ?_, hRel⟩
    · unfold X_again
      by_cases c0 : a0 < 0
      · rw [if_pos c0]
      · rw [if_neg c0, if_neg]
        intro q
        rcases c with c | c
        · exact c0 c
        · exact absurd (Int32.lt_iff_toInt_lt.mp q) (by have := Int32.le_iff_toInt_le.mp c; have e : (nI 2).toInt = (2 : Int32).toInt := rfl; omega)
    · unfold M_again
      simp only [nm]
      rw [show M_in f a0.toInt64 0 1 = some (if (0 : Int32) ≤ a0 ∧ a0 ≤ nI 1 then 1 else 0) from in_c f a0 0 1, if_neg (fun q => (in_iff a0 1 (by decide)).mp q c)]
      rfl
  · obtain ⟨s, hs, rfl⟩ := one_of (by decide) c
    obtain ⟨u, hu, e1, e2, e3⟩ := hSl s hs
    have hx : X_again f (nI s) (SI 99) (SV 99) (SI 3) (SV 3) (SI 1) (SV 1) LsI LsV (SI 2) (SV 2) = (if nI u = 0 then some ((-3), SI 1, SV 1, SI 2) else ob2 (Led_copyFrom f (SI 1) (SV 1) (LsI s) (LsV s)) (fun I2 V3 => ob1 (Act_clear f (SI 2) (SV 2)) (fun I5 => some ((I2 1), I2, V3, I5)))) := by
      unfold X_again
      rw [if_neg (nI_pos (by omega)), if_pos (show nI s < 2 from nI_lt hs (by decide)), gd_nI hs (by decide), gd_nI hs (by decide), cl_nI (by omega), e2]
    have hm : M_again f (nI s) I V = (if nI u = 0 then some ((-3), va_up I 0 0, V) else ob2 (M_takePage_kept f (nI (74 * s)) (va_up I 0 0) V) (fun I4 V5 => some ((va_up I4 24 0) 9, va_up I4 24 0, V5))) := by
      unfold M_again
      simp only [nm]
      rw [show M_in f (nI s).toInt64 0 1 = some (if (0 : Int32) ≤ nI s ∧ nI s ≤ nI 1 then 1 else 0) from in_c f (nI s) 0 1, if_pos ((in_iff _ 1 (by decide)).mpr c), ob1_s, if_neg (by decide), gd_nI hs (by decide), cl_nI (by omega), show (74 : Int32) * nI s = nI (74 * s) from pk_mul 74 s, e1]
    rw [hx, hm]
    by_cases u0 : u = 0
    · subst u0
      exact ⟨-3, SI 1, SV 1, SI 2, va_up I 0 0, V, rfl, rfl, hRel⟩
    · obtain ⟨L', o1, o2, o3⟩ := e3 (by omega)
      obtain ⟨J, W, q1, q2⟩ := copy_eq f (SI 1) (SV 1) hP o1.1 o3
      obtain ⟨W', q3, q4, q5⟩ := takek_eq hf (va_up I 0 0) hP o1 (o := 74 * s) (by omega) o2
      have hu1 : ¬ nI u = 0 := nI_ne0 (by omega) (by omega)
      refine ⟨nI (L' 0 0), J, W, va_up (va_up (SI 2) 1 0) 2 0, va_up (va_up (va_up (va_up I 0 0) 9 (nI (L' 0 0))) 14 (nI (L' 0 1))) 24 0, W', ?_, ?_, ?_⟩
      · rw [if_neg hu1, q1, ob2_s]
        unfold Act_clear
        simp only [nm, ob1_s]
        rw [q2.2.1]
      · rw [if_neg hu1, q3, ob2_s]
        rfl
      · have r1 := q5 1 (by decide) (by decide) (by decide) (by decide) (by decide) (by decide) (by decide) (by decide)
        have r25 := q5 25 (by decide) (by decide) (by decide) (by decide) (by decide) (by decide) (by decide) (by decide)
        have r26 := q5 26 (by decide) (by decide) (by decide) (by decide) (by decide) (by decide) (by decide) (by decide)
        have r28 := q5 28 (by decide) (by decide) (by decide) (by decide) (by decide) (by decide) (by decide) (by decide)
        have r29 := q5 29 (by decide) (by decide) (by decide) (by decide) (by decide) (by decide) (by decide) (by decide)
        have r30 := q5 30 (by decide) (by decide) (by decide) (by decide) (by decide) (by decide) (by decide) (by decide)
        refine ⟨P, hP, i4, ⟨L', o1, q4, q2⟩, ?_, ⟨0, 0, by omega, by omega, rfl, rfl, rfl, fun j hj => absurd hj (Nat.not_lt_zero _)⟩, ?_, ?_, z0, z1⟩
        · unfold rTxt; rw [r1]; exact hT
        · unfold rSlt; rw [r25, r26]; exact hSl
        · unfold rDay; rw [r28, r29, r30]; exact hDa
theorem shift11 {ρ : Type} (f : Nat) (V : FV) (k : FV → Option ρ) : ∀ (n i : Nat) (g : Nat → Int32), i ≤ 666 → 666 - i < n → ∃ g', M_note_L11 f k n (nI i) (va_up V 23 g) = k (va_up V 23 g') ∧ (∀ x, i ≤ x → x < 666 → g' x = g (x + 74)) ∧ ∀ x, x < i → g' x = g x := by
  intro n
  induction n with
  | zero => intro i g h1 h2; omega
  | succ n ih =>
    intro i g h1 h2
    rw [M_note_L11]
    by_cases e : i = 666
    · subst e
      exact ⟨g, if_pos (by decide), fun x h3 h4 => by omega, fun _ _ => rfl⟩
    · obtain ⟨g', q1, q2, q3⟩ := ih (i + 1) (upd g i (g (i + 74))) (by omega) (by omega)
      refine ⟨g', ?_, fun x h3 h4 => ?_, fun x h3 => ?_⟩
      · rw [if_neg (show ¬ (666 : Int32) ≤ nI i from nI_ge (b := 666) (by omega) (by decide)), show nI i + 74 = nI (i + 74) from nI_add i 74, gd_nI (by omega) (by decide), gd_nI (by omega) (by decide), cl_nI (by omega), cl_nI (by omega), va_up_self]
        simp only [nm, bx_uu, nI_1]
        exact q1
      · by_cases ex : x = i
        · subst ex
          rw [q3 x (by omega), upd_s]
        · rw [q2 x (by omega) h4, upd_n _ _ (by omega)]
      · rw [q3 x (by omega), upd_n _ _ (by omega)]
theorem place_eq (f : Nat) {I : FI} (V : FV) {F K : Nat} {x : Int32} (hF : F < 100) (hK : K < 100) (e : I 1 = nI F) (ex : x = nI K) : Act_placeOf f x I V = some (nI ((F + K) % 10)) := by
  unfold Act_placeOf
  rw [e, ex, nI_add, show (10 : Int32) = nI 10 from rfl, pk_rem (by omega) (by decide) (by decide)]
theorem note_eq {f : Nat} (hf : 1000 ≤ f) {Ia : FI} (Va : FV) {LaI : Nat → FI} {LaV : Nat → FV} {I Ig : FI} {V Vg : FV} {P : Nat} {L : Nat → Nat → Nat} (hP : P ≤ 6) (hok : okT P L) (hM : tM P L I V) (hL : tL P L Ig Vg) (hA : rAct P Ia LaI LaV I V) : ∃ Ia' LaI' LaV' a g, Act_remember f Ia Va LaI LaV Ig Vg = some (Ia', LaI', LaV') ∧ M_note f I V = some (va_up I 24 a, va_up V 23 g) ∧ rAct P Ia' LaI' LaV' (va_up I 24 a) (va_up V 23 g) := by
  obtain ⟨K, F, hK, hF, k1, k2, k3, hb⟩ := hA
  by_cases e : K = 10
  · subst e
    obtain ⟨J, W, q1, q2⟩ := copy_eq f (LaI F) (LaV F) hP hok.1 hL
    obtain ⟨g1, s1, s2, s3⟩ := shift11 f V (fun (Vm_11 : FV) => ob2 (M_layPage_book f (74 * (va_up I 24 ((I 24) - 1)) 24) (va_up I 24 ((I 24) - 1)) Vm_11) (fun I2 V3 => some (va_up I2 24 ((I2 24) + 1), V3))) f 0 (V 23) (by omega) (by omega)
    have hM3 : tM P L (va_up I 24 (I 24 - 1)) (va_up V 23 g1) := hM
    obtain ⟨g', q3, q4, q5⟩ := lay_eq (f := f) (by omega) hP hok hM3 (o := 666) (by omega)
    refine ⟨va_up (va_up Ia 1 (nI ((F + 1) % 10))) 2 (nI 10), va_up LaI F J, va_up LaV F W, nI 10, g', ?_, ?_, ?_⟩
    · unfold Act_remember
      simp only [nm]
      rw [if_pos (by rw [k3]; rfl), show Act_placeOf f 1 Ia Va = some (nI ((F + 1) % 10)) from place_eq f Va (K := 1) (by omega) (by decide) k2 rfl, ob1_s]
      have e2 : ((va_up Ia 1 (nI ((F + 1) % 10))) 2 - 1) = nI 9 := by show Ia 2 - 1 = _; rw [k3]; decide
      rw [e2, va_up_self, place_eq f Va (I := va_up (va_up Ia 1 (nI ((F + 1) % 10))) 2 (nI 9)) (F := (F + 1) % 10) (K := 9) (by omega) (by omega) rfl rfl, show ((F + 1) % 10 + 9) % 10 = F by omega, ob1_s, gd_nI hF (by decide), cl_nI (by omega), q1, ob2_s, bx_uu]
      rfl
    · unfold M_note
      simp only [nm]
      rw [if_pos (by rw [k1]; rfl)]
      rw [up_id] at s1
      refine Eq.trans s1 ?_
      have e9 : (va_up I 24 (I 24 - 1)) 24 = nI 9 := by rw [va_up_self, k1]; decide
      rw [e9, show (74 : Int32) * nI 9 = nI 666 from by decide, q3, ob2_s, bx_uu, bx_uu, va_up_self, k1]
      rfl
    · refine ⟨10, (F + 1) % 10, by omega, by omega, rfl, rfl, rfl, fun j hj => ?_⟩
      by_cases e9 : j = 9
      · subst e9
        refine ⟨L, hok, q4, ?_⟩
        rw [show ((F + 1) % 10 + 9) % 10 = F by omega, va_up_self, va_up_self]
        exact q2
      · obtain ⟨L', o1, o2, o3⟩ := hb (j + 1) (by omega)
        refine ⟨L', o1, tP_ag hP o1.1 o2 (fun x hx => ?_), ?_⟩
        · show g' (74 * j + x) = _
          rw [q5 _ (by omega)]
          show g1 (74 * j + x) = _
          rw [s2 _ (by omega) (by omega)]
          congr 1
          omega
        · rw [show ((F + 1) % 10 + j) % 10 = (F + (j + 1)) % 10 by omega, va_up_ne _ _ (show (F + (j + 1)) % 10 ≠ F by omega), va_up_ne _ _ (show (F + (j + 1)) % 10 ≠ F by omega)]
          exact o3
  · have hK9 : K < 10 := by omega
    have hr : (F + K) % 10 < 10 := Nat.mod_lt _ (by decide)
    obtain ⟨J, W, q1, q2⟩ := copy_eq f (LaI ((F + K) % 10)) (LaV ((F + K) % 10)) hP hok.1 hL
    obtain ⟨g', q3, q4, q5⟩ := lay_eq (f := f) (by omega) hP hok hM (o := 74 * K) (by omega)
    refine ⟨va_up Ia 2 (nI (K + 1)), va_up LaI ((F + K) % 10) J, va_up LaV ((F + K) % 10) W, nI (K + 1), g', ?_, ?_, ?_⟩
    · unfold Act_remember
      simp only [nm]
      rw [if_neg (by rw [k3]; exact fun q => e (nI_inj (b := 10) (by omega) (by decide) q)), place_eq f Va (by omega) (by omega) k2 k3, ob1_s, gd_nI hr (by decide), cl_nI (by omega), q1, ob2_s, k3, nI_1]
    · unfold M_note
      simp only [nm]
      rw [if_neg (by rw [k1]; exact fun q => e (nI_inj (b := 10) (by omega) (by decide) q)), k1, show (74 : Int32) * nI K = nI (74 * K) from pk_mul 74 K, q3, ob2_s, k1, nI_1]
    · refine ⟨K + 1, F, by omega, hF, rfl, k2, rfl, fun j hj => ?_⟩
      by_cases ej : j = K
      · subst ej
        refine ⟨L, hok, q4, ?_⟩
        rw [va_up_self, va_up_self]
        exact q2
      · obtain ⟨L', o1, o2, o3⟩ := hb j (by omega)
        refine ⟨L', o1, tP_ag hP o1.1 o2 (fun x hx => ?_), ?_⟩
        · exact q5 _ (by omega)
        · rw [va_up_ne _ _ (show (F + j) % 10 ≠ (F + K) % 10 by omega), va_up_ne _ _ (show (F + j) % 10 ≠ (F + K) % 10 by omega)]
          exact o3
theorem S_undo {f : Nat} (hf : 100 ≤ f) : Sim_undo Rel f := by
  intro SI SV LaI LaV LsI LsV I V h
  have h0 := h
  obtain ⟨P, hP, i4, ⟨L, hok, hM, hL⟩, hT, ⟨K, F, hK, hF, k1, k2, k3, hb⟩, hSl, hDa, z0, z1⟩ := h
  by_cases e : K = 0
  · subst e
    refine ⟨-3, SI 2, SI 1, SV 1, va_up I 0 0, V, ?_, ?_, ?_⟩
    · unfold X_undo
      rw [if_pos (by rw [k3]; rfl)]
    · unfold M_undo
      simp only [nm]
      rw [if_pos (show va_up I 0 0 24 = 0 from k1)]
    · rw [up_id, up_id, up_id]; exact Rel_ag h0 (agI_0 I 0) (agV_rf V)
  · obtain ⟨K, rfl⟩ : ∃ k, K = k + 1 := ⟨K - 1, by omega⟩
    obtain ⟨L', o1, o2, o3⟩ := hb K (by omega)
    obtain ⟨J, W, q1, q2⟩ := copy_eq f (SI 1) (SV 1) hP o1.1 o3
    obtain ⟨W', q3, q4, q5⟩ := take_eq hf (va_up (va_up I 0 0) 24 (nI K)) hP o1 (o := 74 * K) (by omega) o2
    have hr : (F + K) % 10 < 10 := Nat.mod_lt _ (by decide)
    refine ⟨nI K, va_up (SI 2) 2 (nI K), J, W, va_up (va_up (va_up (va_up I 0 0) 24 (nI K)) 9 (nI (L' 0 0))) 14 (nI (L' 0 1)), W', ?_, ?_, ?_⟩
    · unfold X_undo Act_takeBack
      simp only [nm]
      rw [k3, if_neg (nI_ne0 (by omega) (by omega)), nI_pred, va_up_self, place_eq f (SV 2) (I := va_up (SI 2) 2 (nI K)) (F := F) (K := K) (by omega) (by omega) k2 rfl, ob1_s, gd_nI hr (by decide), cl_nI (by omega), q1, ob2_s, ob3_s]
      rfl
    · unfold M_undo
      simp only [nm]
      rw [show va_up I 0 0 24 = nI (K + 1) from k1, if_neg (nI_ne0 (by omega) (by omega)), nI_pred, va_up_self, show (74 : Int32) * nI K = nI (74 * K) from pk_mul 74 K, q3, ob2_s]
      rfl
    · have r1 := q5 1 (by decide) (by decide) (by decide) (by decide) (by decide) (by decide) (by decide) (by decide)
      have r23 := q5 23 (by decide) (by decide) (by decide) (by decide) (by decide) (by decide) (by decide) (by decide)
      have r25 := q5 25 (by decide) (by decide) (by decide) (by decide) (by decide) (by decide) (by decide) (by decide)
      have r26 := q5 26 (by decide) (by decide) (by decide) (by decide) (by decide) (by decide) (by decide) (by decide)
      have r28 := q5 28 (by decide) (by decide) (by decide) (by decide) (by decide) (by decide) (by decide) (by decide)
      have r29 := q5 29 (by decide) (by decide) (by decide) (by decide) (by decide) (by decide) (by decide) (by decide)
      have r30 := q5 30 (by decide) (by decide) (by decide) (by decide) (by decide) (by decide) (by decide) (by decide)
      refine ⟨P, hP, i4, ⟨L', o1, q4, q2⟩, ?_, ⟨K, F, by omega, hF, rfl, k2, rfl, fun j hj => ?_⟩, ?_, ?_, z0, z1⟩
      · unfold rTxt; rw [r1]; exact hT
      · rw [r23]; exact hb j (by omega)
      · unfold rSlt; rw [r25, r26]; exact hSl
      · unfold rDay; rw [r28, r29, r30]; exact hDa
theorem bm_zero (q : Nat → Bool) : ∀ P, (∀ p, p < P → q p = false) → bm q P = 0
  | 0, _ => rfl
  | P + 1, h => by
    rw [bm, bm_zero q P (fun p hp => h p (by omega)), h P (by omega)]
    rfl
theorem jub21 {ρ : Type} (f : Nat) {I5 : FI} {P : Nat} (hP : P ≤ 6) (i4 : I5 4 = nI P) (V : FV) (k : FV → Option ρ) : ∀ (n i : Nat) (g : Nat → Int32), i ≤ P → P - i < n → ∃ g', M_jubilee_L21 f I5 k n (nI i) (va_up V 8 g) = k (va_up V 8 g') ∧ (∀ x, i ≤ x → x < P → g' x = 0) ∧ ∀ x, x < i → g' x = g x := by
  intro n
  induction n with
  | zero => intro i g h1 h2; omega
  | succ n ih =>
    intro i g h1 h2
    rw [M_jubilee_L21, i4]
    by_cases e : i = P
    · subst e
      exact ⟨g, if_pos (nI_le (Nat.le_refl _) (by omega)), fun x h3 h4 => by omega, fun _ _ => rfl⟩
    · obtain ⟨g', q1, q2, q3⟩ := ih (i + 1) (upd g i 0) (by omega) (by omega)
      refine ⟨g', ?_, fun x h3 h4 => ?_, fun x h3 => ?_⟩
      · rw [if_neg (nI_ge (by omega) (by omega)), gd_nI (by omega) (by decide), cl_nI (by omega), va_up_self]
        simp only [nm, bx_uu, nI_1]
        exact q1
      · by_cases ex : x = i
        · subst ex
          rw [q3 x (by omega), upd_s]
        · exact q2 x (by omega) h4
      · rw [q3 x (by omega), upd_n _ _ (by omega)]
theorem S_jubilee {f : Nat} (hf : 1000 ≤ f) : Sim_jubilee Rel f := by
  intro SI SV LaI LaV LsI LsV I V h
  have h0 := h
  obtain ⟨P, hP, i4, ⟨L, hok, hM, hL⟩, hT, hA, hSl, hDa, z0, z1⟩ := h
  have hM1 : tM P L (va_up I 0 0) V := hM
  have hA1 : rAct P (SI 2) LaI LaV (va_up I 0 0) V := hA
  obtain ⟨Ia', LaI', LaV', a, g, n1, n2, n3⟩ := note_eq hf (SV 2) hP hok hM1 hL hA1
  obtain ⟨g', q1, q2, q3⟩ := jub21 f (I5 := va_up (va_up (va_up I 0 0) 24 a) 9 0) hP i4 (va_up V 23 g) (fun (Vm_21 : FV) => some (nI (L 0 0), va_up (va_up (va_up I 0 0) 24 a) 9 0, Vm_21)) f 0 (va_up V 23 g 8) (by omega) (by omega)
  refine ⟨nI (L 0 0), Ia', va_up (va_up (SI 1) 1 0) 4 0, LaI', LaV', va_up (va_up (va_up I 0 0) 24 a) 9 0, va_up (va_up V 23 g) 8 g', ?_, ?_, ?_⟩
  · unfold X_jubilee Led_forgive
    simp only [nm]
    rw [n1, ob3_s, ob2_s, hL.2.1]
  · unfold M_jubilee
    simp only [nm]
    rw [n2, ob2_s, show va_up (va_up I 0 0) 24 a 9 = nI (L 0 0) from hM.1]
    rw [up_id] at q1
    exact q1
  · obtain ⟨m9, m14, mp, md⟩ := id hM
    obtain ⟨l0, l1, l2, l3, l4, lp, ld⟩ := id hL
    refine ⟨P, hP, i4, ⟨fun a b => if a = 0 ∧ b = 0 then 0 else if a = 8 then 0 else L a b, ⟨?_, ?_, ?_, ?_⟩, ⟨?_, ?_, ?_, ?_⟩, ⟨?_, ?_, ?_, ?_, ?_, ?_, ?_⟩⟩, hT, n3, hSl, hDa, z0, z1⟩
    · exact Nat.zero_le _
    · exact hok.2.1
    · exact fun p hp => ⟨(hok.2.2.1 p hp).1, (hok.2.2.1 p hp).2.1, Nat.zero_le _⟩
    · exact fun j hj => absurd hj (Nat.not_lt_zero _)
    · rfl
    · exact m14
    · exact fun p hp => ⟨(mp p hp).1, (mp p hp).2.1, (mp p hp).2.2.1, q2 p (Nat.zero_le _) hp⟩
    · exact fun j hj => absurd hj (Nat.not_lt_zero _)
    · exact l0
    · rfl
    · exact l2
    · exact l3
    · exact congrArg nI (bm_zero (fun p => (0 == 1)) P (fun p _ => rfl)).symm
    · exact lp
    · exact fun j hj => absurd hj (Nat.not_lt_zero _)
