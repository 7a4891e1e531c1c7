theorem nI_or (a b : Nat) : nI a ||| nI b = nI (a ||| b) := by
  apply Int32.toBitVec_inj.mp
  exact (BitVec.ofNat_or).symm
theorem nI_and (a b : Nat) : nI a &&& nI b = nI (a &&& b) := by
  apply Int32.toBitVec_inj.mp
  exact (BitVec.ofNat_and).symm
theorem sh1 : ∀ p, p < 31 → (1 : Int32) <<< (nI p &&& 31) = nI (2 ^ p) := by decide +kernel
theorem or_pow {a n : Nat} (h : a < 2 ^ n) : a ||| 2 ^ n = a + 2 ^ n := by
  have := Nat.two_pow_add_eq_or_of_lt h 1
  rw [Nat.mul_one] at this
  rw [Nat.or_comm, ← this, Nat.add_comm]
theorem bm_or (q : Nat → Bool) (n : Nat) (hn : n < 31) : nI (bm q n) ||| (if q n then (1 : Int32) <<< (nI n &&& 31) else 0) = nI (bm q (n + 1)) := by
  rw [bm, sh1 n hn]
  by_cases c : q n = true
  · rw [if_pos c, if_pos c, nI_or, or_pow (bm_lt q n)]
  · rw [if_neg c, if_neg c, Nat.add_zero, show (0 : Int32) = nI 0 from rfl, nI_or, Nat.or_zero]
theorem sm_add (g h : Nat → Nat) : ∀ n, sm (fun i => g i + h i) n = sm g n + sm h n
  | 0 => rfl
  | n + 1 => by rw [sm, sm, sm, sm_add g h n]; omega
theorem sm_zero : ∀ n, sm (fun _ => 0) n = 0
  | 0 => rfl
  | n + 1 => by rw [sm, sm_zero n]
theorem sm_congr {g h : Nat → Nat} : ∀ n, (∀ i, i < n → g i = h i) → sm g n = sm h n
  | 0, _ => rfl
  | n + 1, e => by rw [sm, sm, sm_congr n (fun i hi => e i (by omega)), e n (by omega)]
theorem sm_one (x v : Nat) : ∀ n, x < n → sm (fun p => if x = p then v else 0) n = v := by
  intro n
  induction n with
  | zero => intro h; omega
  | succ n ih =>
    intro h
    rw [sm]
    by_cases e : x = n
    · subst e
      rw [if_pos rfl, sm_congr (h := fun _ => 0) x (fun i hi => if_neg (by omega)), sm_zero]
      omega
    · rw [if_neg e, ih (by omega)]
      omega
theorem sm_swap (q : Nat → Nat) (v : Nat → Nat) (P : Nat) : ∀ D, (∀ j, j < D → q j < P) → sm (fun p => sm (fun j => if q j = p then v j else 0) D) P = sm v D
  | 0, _ => sm_zero P
  | D + 1, h => by
    have ih := sm_swap q v P D (fun j hj => h j (by omega))
    have e : (fun p => sm (fun j => if q j = p then v j else 0) (D + 1)) = fun p => sm (fun j => if q j = p then v j else 0) D + (if q D = p then v D else 0) := rfl
    rw [e, sm_add, ih, sm_one _ _ _ (h D (by omega)), sm]
theorem ow_sum {P : Nat} {L : Nat → Nat → Nat} (hok : okT P L) : sm (fun p => owS L p) P = sm (L 12) (L 0 0) := sm_swap (L 11) (L 12) P (L 0 0) (fun j hj => (hok.2.2.2 j hj).2.1)
theorem about18 {ρ : Type} {f : Nat} (hf : 100 ≤ f) {I : FI} {V : FV} {P : Nat} {L : Nat → Nat → Nat} (hP : P ≤ 6) (hok : okT P L) (i4 : I 4 = nI P) (hM : tM P L I V) (k : Int32 → Int32 → Int32 → Int32 → Option ρ) : ∀ n i : Nat, i ≤ P → P - i < n → M_about_L18 f I V k n (nI (bm (fun p => L 7 p == 0) i)) (nI (bm (fun p => L 8 p == 1) i)) (nI (sm (L 5) i)) (nI (sm (fun p => owS L p) i)) (nI i) = k (nI (bm (fun p => L 7 p == 0) P)) (nI (bm (fun p => L 8 p == 1) P)) (nI (sm (L 5) P)) (nI (sm (fun p => owS L p) P)) := by
  obtain ⟨m9, m14, mp, md⟩ := id hM
  intro n
  induction n with
  | zero => intro i h1 h2; omega
  | succ n ih =>
    intro i h1 h2
    rw [M_about_L18, i4]
    by_cases e : i = P
    · subst e
      rw [if_pos (nI_le (Nat.le_refl _) (by omega))]
    · have hi : i < P := by omega
      obtain ⟨b1, b2, b3, b4⟩ := mp i hi
      have o1 := hok.2.2.1 i hi
      rw [if_neg (nI_ge hi (by omega))]
      simp only [nm, gd_nI (show i < 6 by omega) (show 6 < 2 ^ 31 by decide)]
      simp only [cl_nI (show i < 2 ^ 31 by omega), M_owesAll_eq hf hP hok hM (show i < 6 by omega), ob1_s, b1, b3, b4, nI_1]
      have ih2 := ih (i + 1) (by omega) (by omega)
      rw [← bm_or _ i (by omega), ← bm_or _ i (by omega), sm, sm, ← nI_add, ← nI_add] at ih2
      have e7 : (nI (L 7 i) = 0) ↔ L 7 i = 0 := by rw [← nI_0]; exact nI_eq (by omega) (by omega)
      have e8 : (nI (L 8 i) = 0) ↔ ¬ L 8 i = 1 := by rw [← nI_0, nI_eq (by omega) (by omega)]; omega
      by_cases c7 : L 7 i = 0
      · rw [if_pos (e7.mpr c7)]
        rw [if_pos (by simp [c7])] at ih2
        by_cases c8 : L 8 i = 1
        · rw [if_neg (fun q => e8.mp q c8)]
          rw [if_pos (by simp [c8])] at ih2
          exact ih2
        · rw [if_pos (e8.mpr c8)]
          rw [if_neg (by simp [c8])] at ih2
          exact ih2
      · rw [if_neg (fun q => c7 (e7.mp q))]
        rw [if_neg (by simp [c7])] at ih2
        by_cases c8 : L 8 i = 1
        · rw [if_neg (fun q => e8.mp q c8)]
          rw [if_pos (by simp [c8])] at ih2
          exact ih2
        · rw [if_pos (e8.mpr c8)]
          rw [if_neg (by simp [c8])] at ih2
          exact ih2
theorem allM4 {ρ : Type} (f : Nat) {I : FI} {V : FV} {P : Nat} {L : Nat → Nat → Nat} (hP : P ≤ 6) (hL : tL P L I V) (k : Int32 → Option ρ) : ∀ n i : Nat, i ≤ P → P - i < n → Led_allMornings_L4 f I V k n (nI (sm (L 5) i)) (nI i) = k (nI (sm (L 5) P)) := by
  obtain ⟨l0, l1, l2, l3, l4, lp, ld⟩ := hL
  intro n
  induction n with
  | zero => intro i h1 h2; omega
  | succ n ih =>
    intro i h1 h2
    rw [Led_allMornings_L4, l0]
    by_cases e : i = P
    · subst e
      rw [if_pos (nI_le (Nat.le_refl _) (by omega))]
    · have hi : i < P := by omega
      rw [if_neg (nI_ge hi (by omega)), gd_nI (show i < 6 by omega) (by decide), cl_nI (by omega), (lp i hi).1, nI_1]
      have ih2 := ih (i + 1) (by omega) (by omega)
      rw [sm, ← nI_add] at ih2
      exact ih2
theorem allO4 {ρ : Type} (f : Nat) {I : FI} {V : FV} {P : Nat} {L : Nat → Nat → Nat} (hd : L 0 0 ≤ 12) (hL : tL P L I V) (k : Int32 → Option ρ) : ∀ n i : Nat, i ≤ L 0 0 → L 0 0 - i < n → Led_allOwed_L4 f I V k n (nI (sm (L 12) i)) (nI i) = k (nI (sm (L 12) (L 0 0))) := by
  obtain ⟨l0, l1, l2, l3, l4, lp, ld⟩ := hL
  intro n
  induction n with
  | zero => intro i h1 h2; omega
  | succ n ih =>
    intro i h1 h2
    rw [Led_allOwed_L4, l1]
    by_cases e : i = L 0 0
    · subst e
      rw [if_pos (nI_le (Nat.le_refl _) (by omega))]
    · have hi : i < L 0 0 := by omega
      rw [if_neg (nI_ge hi (by omega)), gd_nI (show i < 12 by omega) (by decide), cl_nI (by omega), (ld i hi).2.2.1, nI_1]
      have ih2 := ih (i + 1) (by omega) (by omega)
      rw [sm, ← nI_add] at ih2
      exact ih2
theorem S_about {f : Nat} (hf : 100 ≤ f) : Sim_about Rel f := by
  intro SI SV LaI LaV LsI LsV I V a0 h
  have h0 := h
  obtain ⟨P, hP, i4, ⟨L, hok, hM, hL⟩, ⟨t, ht, t1, t2, t3⟩, ⟨K, F, hK, hF, k1, k2, k3, hb⟩, hSl, ⟨n, hn, e1, e2, e3⟩, z0, z1⟩ := h
  have hRel : Rel SI SV LaI LaV LsI LsV (va_up I 0 0) V := Rel_ag h0 (agI_0 I 0) (agV_rf V)
  obtain ⟨m9, m14, mp, md⟩ := id hM
  obtain ⟨l0, l1, l2, l3, l4, lp, ld⟩ := id hL
  have hd := hok.1
  have hx : X_about f a0 (SI 99) (SV 99) (SI 1) (SV 1) (SI 2) (SV 2) (SI 4) (SV 4) (SI 0) (SV 0) = some (if a0 = 0 then nI P else if a0 = 1 then nI (L 0 0) else if a0 = 2 then nI (L 0 1) else if a0 = 3 then nI K else if a0 = 4 then nI (bm (fun p => L 7 p == 0) P) else if a0 = 5 then nI (bm (fun p => L 8 p == 1) P) else if a0 = 6 then nI (sm (L 5) P) else if a0 = 7 then nI (sm (L 12) (L 0 0)) else if a0 = 8 then nI n else if a0 = 9 then nI t else -2) := by
    unfold X_about
    have q1 : Led_allMornings f (SI 1) (SV 1) = some (nI (sm (L 5) P)) := allM4 f hP hL (fun x => some x) f 0 (by omega) (by omega)
    have q2 : Led_allOwed f (SI 1) (SV 1) = some (nI (sm (L 12) (L 0 0))) := allO4 f hd hL (fun x => some x) f 0 (by omega) (by omega)
    rw [q1, q2, l0, l1, l2, l3, l4, k3, e2, t2, ob1_s, ob1_s]
    simp only [apply_ite some]
  have hm : M_about f a0 I V = some ((if a0 = 0 then nI P else if a0 = 1 then nI (L 0 0) else if a0 = 2 then nI (L 0 1) else if a0 = 3 then nI K else if a0 = 4 then nI (bm (fun p => L 7 p == 0) P) else if a0 = 5 then nI (bm (fun p => L 8 p == 1) P) else if a0 = 6 then nI (sm (L 5) P) else if a0 = 7 then nI (sm (L 12) (L 0 0)) else if a0 = 8 then nI n else if a0 = 9 then nI t else -2), va_up I 0 0, V) := by
    unfold M_about
    simp only [nm]
    refine (about18 hf hP hok (I := va_up I 0 0) i4 hM _ f 0 (by omega) (by omega)).trans ?_
    rw [ow_sum hok, show va_up I 0 0 4 = nI P from i4, show va_up I 0 0 9 = _ from m9, show va_up I 0 0 14 = _ from m14, show va_up I 0 0 24 = _ from k1, show va_up I 0 0 27 = _ from e1, show va_up I 0 0 2 = _ from t1]
    have ap : ∀ (c : Prop) [Decidable c] (x y : Int32), (if c then some (x, va_up I 0 0, V) else some (y, va_up I 0 0, V)) = some ((if c then x else y), va_up I 0 0, V) := by
      intro c _ x y
      by_cases h : c
      · rw [if_pos h, if_pos h]
      · rw [if_neg h, if_neg h]
    simp only [ap]
  exact ⟨_, _, _, hx, hm, hRel⟩
