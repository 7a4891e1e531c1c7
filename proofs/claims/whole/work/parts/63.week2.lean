def wS (P : Nat) (B : Nat → Nat) (L : Nat → Nat → Nat) : Nat := bm (fun p => L 8 p == 1 && !(B p == 1)) P
def payL (L : Nat → Nat → Nat) (p c g b : Nat) : Nat → Nat → Nat := va_up (va_up L 5 (va_up (va_up (L 5) p (L 5 p - g)) c (L 5 c + g))) 8 (va_up (L 8) p b)
theorem wI_pay {P D x c W : Nat} {B : Nat → Nat} {L : Nat → Nat → Nat} {Ig Ig' : FI} {Vg : FV} {Im : FI} {Vm : FV} (h : wI P D x c W B L Ig Vg Im Vm) {p r g b : Nat} (hp : p < P) (hr : r < P) (hpr : p ≠ r) (hg : g ≤ L 5 p) (hb : b = L 8 p ∨ b = 1) (k0 : Ig' 0 = Ig 0) (k1 : Ig' 1 = Ig 1) (k2 : Ig' 2 = Ig 2) (k3 : Ig' 3 = Ig 3) (k4 : Ig' 4 = nI (bm (fun q => va_up (L 8) p b q == 1) P)) : wI P D x c W B (payL L p r g b) Ig' (va_up Vg 5 (upd (upd (Vg 5) p (nI (L 5 p - g))) r (nI (L 5 r + g)))) Im (va_up (va_up Vm 8 (upd (Vm 8) p (nI b))) 5 (upd (upd (Vm 5) p (nI (L 5 p - g))) r (nI (L 5 r + g)))) := by
  obtain ⟨⟨h1, h2, h3⟩, h4, h5, h6, h9, h10, h11, ⟨h12a, h12b, h12c, h12d, h12e⟩, h13, h14⟩ := h
  refine ⟨⟨h1, h2, ?_⟩, fun q hq => ?_, h5, h6, fun q hq => ?_, h10, h11, ⟨k0.trans h12a, k1.trans h12b, k2.trans h12c, k3.trans h12d, k4⟩, fun q hq => ?_, h14⟩
  · show sm (va_up (va_up (L 5) p (L 5 p - g)) r (L 5 r + g)) P ≤ 594
    rw [sm_move (L 5) hp hr hpr hg]
    exact h3
  · refine ⟨(h4 q hq).1, (h4 q hq).2.1, ?_⟩
    show va_up (L 8) p b q ≤ 1 ∧ (B q = 1 → va_up (L 8) p b q = 1)
    by_cases e : q = p
    · subst e
      rw [va_up_self]
      rcases hb with rfl | rfl
      · exact (h4 q hq).2.2
      · exact ⟨Nat.le_refl _, fun _ => rfl⟩
    · rw [va_up_ne _ _ e]
      exact (h4 q hq).2.2
  · obtain ⟨r1, r2, r3, r4⟩ := h9 q hq
    refine ⟨?_, r2, r3, ?_⟩
    · show upd (upd (Vm 5) p (nI (L 5 p - g))) r (nI (L 5 r + g)) q = nI (va_up (va_up (L 5) p (L 5 p - g)) r (L 5 r + g) q)
      by_cases e : q = r
      · subst e; rw [upd_s, va_up_self]
      · rw [upd_n _ _ e, va_up_ne _ _ e]
        by_cases e2 : q = p
        · subst e2; rw [upd_s, va_up_self]
        · rw [upd_n _ _ e2, va_up_ne _ _ e2]; exact r1
    · show upd (Vm 8) p (nI b) q = nI (va_up (L 8) p b q)
      by_cases e2 : q = p
      · subst e2; rw [upd_s, va_up_self]
      · rw [upd_n _ _ e2, va_up_ne _ _ e2]; exact r4
  · refine ⟨?_, (h13 q hq).2⟩
    show upd (upd (Vg 5) p (nI (L 5 p - g))) r (nI (L 5 r + g)) q = nI (va_up (va_up (L 5) p (L 5 p - g)) r (L 5 r + g) q)
    by_cases e : q = r
    · subst e; rw [upd_s, va_up_self]
    · rw [upd_n _ _ e, va_up_ne _ _ e]
      by_cases e2 : q = p
      · subst e2; rw [upd_s, va_up_self]
      · rw [upd_n _ _ e2, va_up_ne _ _ e2]; exact (h13 q hq).1
/-- the reference pays -/
theorem week23_pay {ρ : Type} (f : Nat) {Im : FI} {Vm : FV} {N c p r a mp mr b S : Nat} (hc : c < N) (hN : N ≤ 12) (i9 : Im 9 = nI N) (hp : p < 6) (hr : r < 6) (hpr : p ≠ r) (ha : a ≤ 99) (hm : mp ≤ 594) (hb : b ≤ 1) (v13 : Vm 13 c = Im 14) (v11 : Vm 11 c = nI p) (v10 : Vm 10 c = nI r) (v12 : Vm 12 c = nI a) (v5 : Vm 5 p = nI mp) (v5r : Vm 5 r = nI mr) (v8 : Vm 8 p = nI b) (k : Int32 → FI → FV → Option ρ) (n : Nat) : M_week_L23 f k (n + 1) (nI S) (nI c) Im Vm = ob2 (M_drop f (nI c) Im (va_up (va_up Vm 8 (upd (Vm 8) p (nI (if mp < a then 1 else b)))) 5 (upd (upd (Vm 5) p (nI (mp - (if mp < a then mp else a)))) r (nI (mr + (if mp < a then mp else a)))))) (fun I11 V12 => M_week_L23 f k n (nI (S ||| (if mp < a ∧ b = 0 then 2 ^ p else 0))) (nI c) I11 V12) := by
  rw [M_week_L23, i9, if_neg (nI_ge hc (by omega))]
  simp only [nm, gd_nI (show c < 12 by omega) (show 12 < 2 ^ 31 by decide)]
  simp only [cl_nI (show c < 2 ^ 31 by omega), v13, v11, v12]
  have w10 : ∀ g h, va_up (va_up Vm 8 g) 5 h 10 = Vm 10 := fun _ _ => rfl
  have w5 : ∀ g, va_up Vm 8 g 5 = Vm 5 := fun _ => rfl
  simp only [w10, v10, gd_nI hp (show 6 < 2 ^ 31 by decide), gd_nI hr (show 6 < 2 ^ 31 by decide)]
  simp only [cl_nI (show p < 2 ^ 31 by omega), cl_nI (show r < 2 ^ 31 by omega), w5, v5, v8, va_up_self, upd_n _ _ (show r ≠ p from fun q => hpr q.symm), v5r, bx_uu, sh1 p (by omega), le_n (show a < 2 ^ 31 by omega) (show mp < 2 ^ 31 by omega), le_n (show a < 2 ^ 31 by omega) (show a < 2 ^ 31 by omega)]
  have e8 : (nI b = 0) ↔ b = 0 := by rw [← nI_0]; exact nI_eq (by omega) (by omega)
  by_cases cA : mp < a
  · rw [if_pos trivial, if_neg (show ¬ a ≤ mp by omega), if_neg (show ¬ a ≤ mp by omega), if_pos cA, if_pos cA, pk_sub (Nat.le_refl _), nI_add]
    by_cases c0 : b = 0
    · rw [if_pos (e8.mpr c0), if_pos (e8.mpr c0), if_neg (show ¬ a ≤ mp by omega), if_pos ⟨cA, c0⟩, nI_or]
      rfl
    · rw [if_neg (fun q => c0 (e8.mp q)), if_neg (fun q => c0 (e8.mp q)), if_neg (fun q => c0 q.2), Int32.or_zero, Nat.or_zero]
      rfl
  · rw [if_pos trivial, if_pos (show a ≤ mp by omega), if_pos (Nat.le_refl _), if_neg cA, if_neg cA, pk_sub (by omega), nI_add, if_neg (show ¬ (mp < a ∧ b = 0) from fun q => cA q.1), Nat.or_zero]
    by_cases c0 : b = 0
    · rw [if_pos (e8.mpr c0), if_pos (Nat.le_refl _), c0, Int32.or_zero]
      rfl
    · have b1 : b = 1 := by omega
      rw [if_neg (fun q => c0 (e8.mp q)), b1, Int32.or_zero]
      rfl
theorem wS_pay {P : Nat} {B : Nat → Nat} {L : Nat → Nat → Nat} {p r g a : Nat} (hp : p < P) (hb : L 8 p ≤ 1) (hB : B p = 1 → L 8 p = 1) : wS P B (payL L p r g (if L 5 p < a then 1 else L 8 p)) = wS P B L ||| (if L 5 p < a ∧ L 8 p = 0 then 2 ^ p else 0) := by
  unfold wS
  by_cases cA : L 5 p < a
  · rw [if_pos cA]
    by_cases c0 : L 8 p = 0
    · rw [if_pos ⟨cA, c0⟩]
      refine bm_set _ _ hp ?_ (fun x hx => ?_)
      · show (va_up (L 8) p 1 p == 1 && !(B p == 1)) = true
        rw [va_up_self]
        have : ¬ B p = 1 := fun q => by have := hB q; omega
        simp [this]
      · show (va_up (L 8) p 1 x == 1 && !(B x == 1)) = _
        rw [va_up_ne _ _ hx]
    · rw [if_neg (fun q => c0 q.2), Nat.or_zero]
      have e : payL L p r g 1 8 = L 8 := by
        show va_up (L 8) p 1 = L 8
        rw [show (1 : Nat) = L 8 p by omega, up_id]
      rw [e]
  · rw [if_neg cA, if_neg (fun q => cA q.1), Nat.or_zero]
    have e : payL L p r g (L 8 p) 8 = L 8 := up_id _ _
    rw [e]
theorem week_loop {ρ σ : Type} {f : Nat} (hf : 100 ≤ f) {P D W : Nat} (hP : P ≤ 6) (hD : D ≤ 12) {B : Nat → Nat} (kX : Int32 → FI → FV → Option ρ) (kM : Int32 → FI → FV → Option σ) : ∀ (n x c : Nat) (L : Nat → Nat → Nat) (Ig : FI) (Vg : FV) (Im : FI) (Vm : FV), wI P D x c W B L Ig Vg Im Vm → D - x < n → ∃ (c' : Nat) (L' : Nat → Nat → Nat) (Ig' : FI) (Vg' : FV) (Im' : FI) (Vm' : FV), wI P D D c' W B L' Ig' Vg' Im' Vm' ∧ (∀ s, s ≠ 9 → Im' s = Im s) ∧ (∀ s, s ≠ 5 → s ≠ 8 → s ≠ 10 → s ≠ 11 → s ≠ 12 → s ≠ 13 → Vm' s = Vm s) ∧ Led_passWeek_L19 f kX n (nI c) (nI x) Ig Vg = kX (nI c') Ig' Vg' ∧ M_week_L23 f kM n (nI (wS P B L)) (nI c) Im Vm = kM (nI (wS P B L')) Im' Vm' := by
  intro n
  induction n with
  | zero => intro x c L Ig Vg Im Vm h1 h2; omega
  | succ n ih =>
    intro x c L Ig Vg Im Vm h h2
    obtain ⟨⟨g1, g2, g3⟩, g4, g5, ⟨g6, g7, g8⟩, g9, g10, g11, ⟨x0, x1, x2, x3, x4⟩, g13, g14⟩ := id h
    by_cases e : x = D
    · subst e
      refine ⟨c, L, Ig, Vg, Im, Vm, h, fun _ _ => rfl, fun _ _ _ _ _ _ _ => rfl, ?_, ?_⟩
      · rw [Led_passWeek_L19, x1, if_pos (nI_le (Nat.le_refl _) (by omega))]
      · rw [M_week_L23, g7, if_pos (nI_le (by omega) (by omega))]
    · have hx : x < D := by omega
      obtain ⟨a1, a2, a3, a4, a5⟩ := g5 x (Or.inr ⟨Nat.le_refl _, hx⟩)
      obtain ⟨b1, b2, b3, b4⟩ := g14 x (Or.inr ⟨Nat.le_refl _, hx⟩)
      obtain ⟨d1, d2, d3, d4⟩ := g11 0 (by omega)
      rw [Nat.add_zero, Nat.add_zero] at d1 d2 d3 d4
      rw [Led_passWeek_L19, x1, if_neg (nI_ge hx (by omega))]
      simp only [nm, gd_nI (show x < 12 by omega) (show 12 < 2 ^ 31 by decide)]
      rw [cl_nI (show x < 2 ^ 31 by omega), b4, x2]
      by_cases cd : nI (L 13 x) = nI W
      · rw [if_pos cd]
        have m1 := sm_le (L 5) P (L 11 x) a2
        have m2 := sm_le (L 5) P (L 10 x) a1
        have o1 := g4 (L 11 x) a2
        obtain ⟨g, hg⟩ : ∃ g, g = (if L 5 (L 11 x) < L 12 x then L 5 (L 11 x) else L 12 x) := ⟨_, rfl⟩
        obtain ⟨b, hb⟩ : ∃ b, b = (if L 5 (L 11 x) < L 12 x then 1 else L 8 (L 11 x)) := ⟨_, rfl⟩
        have hgl : g ≤ L 5 (L 11 x) := by rw [hg]; split <;> omega
        have hpay := pay_eq f Ig (V := Vg) (x := x) (b := L 11 x) (c := L 10 x) (a := L 12 x) (mb := L 5 (L 11 x)) (mc := L 5 (L 10 x)) (by omega) (by omega) (by omega) (fun q => a3 q.symm) (by omega) (by omega) b2 b1 b3 (g13 _ a2).1 (g13 _ a1).1
        have hM := week23_pay f (Im := Im) (Vm := Vm) (N := c + (D - x)) (c := c) (p := L 11 x) (r := L 10 x) (a := L 12 x) (mp := L 5 (L 11 x)) (mr := L 5 (L 10 x)) (b := L 8 (L 11 x)) (S := wS P B L) (by omega) (by omega) g7 (by omega) (by omega) (fun q => a3 q.symm) (by omega) (by omega) (by omega) (by rw [d4, g8, cd]) d2 d1 d3 (g9 _ a2).1 (g9 _ a1).1 (g9 _ a2).2.2.2 kM n
        rw [← hg] at hpay hM
        rw [← hb] at hM
        rw [hpay, ob2_s, hM]
        obtain ⟨U, q1, q2, q3, q4⟩ := drop_eq hf (I := Im) (va_up (va_up Vm 8 (upd (Vm 8) (L 11 x) (nI b))) 5 (upd (upd (Vm 5) (L 11 x) (nI (L 5 (L 11 x) - g))) (L 10 x) (nI (L 5 (L 10 x) + g)))) (d := c) (N := c + (D - x) - 1) (by omega) (by omega) (by rw [g7]; congr 1; omega)
        rw [q1, ob2_s]
        have hI4 : (if L 12 x ≤ g then Ig else va_up Ig 4 (Ig 4 ||| nI (2 ^ L 11 x))) 4 = nI (bm (fun q => va_up (L 8) (L 11 x) b q == 1) P) := by
          by_cases cA : L 5 (L 11 x) < L 12 x
          · rw [if_neg (show ¬ L 12 x ≤ g by rw [hg, if_pos cA]; omega), va_up_self, x4, nI_or, hb, if_pos cA]
            congr 1
            refine (bm_set _ _ a2 ?_ (fun y hy => ?_)).symm
            · rw [va_up_self]; rfl
            · rw [va_up_ne _ _ hy]
          · rw [if_pos (show L 12 x ≤ g by rw [hg, if_neg cA]; omega), x4, hb, if_neg cA, up_id]
        have hk : ∀ s, s ≠ 4 → (if L 12 x ≤ g then Ig else va_up Ig 4 (Ig 4 ||| nI (2 ^ L 11 x))) s = Ig s := by
          intro s hs
          split
          · rfl
          · exact va_up_ne _ _ hs
        have w1 := wI_pay h (p := L 11 x) (r := L 10 x) (g := g) (b := b) a2 a1 (fun q => a3 q.symm) hgl (by rw [hb]; split <;> simp) (hk 0 (by decide)) (hk 1 (by decide)) (hk 2 (by decide)) (hk 3 (by decide)) hI4
        have w2 := wI_drop w1 hx q2 q3 q4
        obtain ⟨c', L', Ig', Vg', Im', Vm', r1, r2, r3, r4, r5⟩ := ih (x + 1) c _ _ _ _ _ w2 (by omega)
        refine ⟨c', L', Ig', Vg', Im', Vm', r1, fun s hs => ?_, fun s s1 s2 s3 s4 s5 s6 => ?_, ?_, ?_⟩
        · rw [r2 s hs, va_up_ne _ _ hs]
        · rw [r3 s s1 s2 s3 s4 s5 s6, q2 s s3 s4 s5 s6, va_up_ne _ _ s1, va_up_ne _ _ s2]
        · rw [nI_1]
          exact r4
        · rw [hb, wS_pay a2 o1.2.2.1 o1.2.2.2] at r5
          exact r5
      · rw [if_neg cd, move_eq f Ig Vg (by omega) (by omega), ob1_s]
        have w2 := wI_keep h hx
        obtain ⟨c', L', Ig', Vg', Im', Vm', r1, r2, r3, r4, r5⟩ := ih (x + 1) (c + 1) _ _ _ _ _ w2 (by omega)
        refine ⟨c', L', Ig', Vg', Im', Vm', r1, r2, r3, ?_, ?_⟩
        · rw [nI_1, nI_1]
          exact r4
        · rw [M_week_L23, g7, if_neg (nI_ge (by omega) (by omega)), gd_nI (by omega) (by decide), cl_nI (show c < 2 ^ 31 by omega), d4, g8, if_neg cd, nI_1]
          exact r5
def spr (b : Bool) (m : Nat) : Nat := if b = true ∧ 20 < m then 20 else m
theorem week187 {ρ : Type} (f : Nat) {I : FI} {P : Nat} (hP : P ≤ 6) (i4 : I 4 = nI P) (V : FV) (k : FV → Option ρ) (m : Nat → Nat) (hm : ∀ p, p < P → m p ≤ 594) : ∀ (n i : Nat) (g : Nat → Int32), i ≤ P → P - i < n → (∀ p, p < i → g p = nI (spr (decide ((I 14) - (I 14) / 4 * 4 = 0)) (m p))) → (∀ p, i ≤ p → p < P → g p = nI (m p)) → ∃ g', M_week_L187 f I k n (nI i) (va_up V 5 g) = k (va_up V 5 g') ∧ ∀ p, p < P → g' p = nI (spr (decide ((I 14) - (I 14) / 4 * 4 = 0)) (m p)) := by
  intro n
  induction n with
  | zero => intro i g h1 h2; omega
  | succ n ih =>
    intro i g h1 h2 h3 h4
    rw [M_week_L187, i4]
    by_cases e : i = P
    · subst e
      exact ⟨g, if_pos (nI_le (Nat.le_refl _) (by omega)), h3⟩
    · have hi : i < P := by omega
      have hmi := hm i hi
      obtain ⟨g', q1, q2⟩ := ih (i + 1) (upd g i (nI (spr (decide ((I 14) - (I 14) / 4 * 4 = 0)) (m i)))) (by omega) (by omega) (fun p hp => by
        by_cases ep : p = i
        · subst ep; rw [upd_s]
        · rw [upd_n _ _ ep]; exact h3 p (by omega)) (fun p hp1 hp2 => by rw [upd_n _ _ (show p ≠ i by omega)]; exact h4 p (by omega) hp2)
      refine ⟨g', ?_, q2⟩
      rw [← q1, if_neg (nI_ge hi (by omega))]
      simp only [nm, gd_nI (show i < 6 by omega) (show 6 < 2 ^ 31 by decide)]
      simp only [cl_nI (show i < 2 ^ 31 by omega), va_up_self, h4 i (Nat.le_refl _) hi, bx_uu, nI_1]
      unfold spr
      by_cases c : (I 14) - (I 14) / 4 * 4 = 0
      · rw [if_pos c]
        by_cases c2 : 20 < m i
        · rw [if_neg (show ¬ nI (m i) ≤ 20 from fun q => by have := (le_n (b := 20) (by omega) (by decide)).mp q; omega), if_pos ⟨by simp [c], c2⟩]
          rfl
        · rw [if_pos (show nI (m i) ≤ 20 from (le_n (b := 20) (by omega) (by decide)).mpr (by omega)), if_neg (fun q => c2 q.2)]
      · rw [if_neg c, if_neg (fun q => by simp [c] at q)]
theorem goBad2 {ρ : Type} (f : Nat) {I : FI} {P : Nat} (hP : P ≤ 6) (i0 : I 0 = nI P) (V : FV) (k : FV → Option ρ) (m : Nat → Nat) (hm : ∀ p, p < P → m p ≤ 594) : ∀ (n i : Nat) (g : Nat → Int32), i ≤ P → P - i < n → (∀ p, p < i → g p = nI (spr true (m p))) → (∀ p, i ≤ p → p < P → g p = nI (m p)) → ∃ g', Led_goBad_L2 f I k n (nI i) (va_up V 5 g) = k (va_up V 5 g') ∧ ∀ p, p < P → g' p = nI (spr true (m p)) := by
  intro n
  induction n with
  | zero => intro i g h1 h2; omega
  | succ n ih =>
    intro i g h1 h2 h3 h4
    rw [Led_goBad_L2, i0]
    by_cases e : i = P
    · subst e
      exact ⟨g, if_pos (nI_le (Nat.le_refl _) (by omega)), h3⟩
    · have hi : i < P := by omega
      have hmi := hm i hi
      obtain ⟨g', q1, q2⟩ := ih (i + 1) (upd g i (nI (spr true (m i)))) (by omega) (by omega) (fun p hp => by
        by_cases ep : p = i
        · subst ep; rw [upd_s]
        · rw [upd_n _ _ ep]; exact h3 p (by omega)) (fun p hp1 hp2 => by rw [upd_n _ _ (show p ≠ i by omega)]; exact h4 p (by omega) hp2)
      refine ⟨g', ?_, q2⟩
      rw [← q1, if_neg (nI_ge hi (by omega))]
      simp only [nm, gd_nI (show i < 6 by omega) (show 6 < 2 ^ 31 by decide)]
      simp only [cl_nI (show i < 2 ^ 31 by omega), va_up_self, h4 i (Nat.le_refl _) hi, bx_uu, nI_1]
      unfold spr
      by_cases c2 : 20 < m i
      · rw [if_pos (show (20 : Int32) < nI (m i) from (lt_n (a := 20) (by decide) (by omega)).mpr c2), if_pos ⟨rfl, c2⟩]
        rfl
      · rw [if_neg (show ¬ (20 : Int32) < nI (m i) from fun q => c2 ((lt_n (a := 20) (by decide) (by omega)).mp q)), if_neg (fun q => c2 q.2)]
theorem sm_mono {g h : Nat → Nat} : ∀ n, (∀ i, i < n → g i ≤ h i) → sm g n ≤ sm h n
  | 0, _ => Nat.le_refl _
  | n + 1, e => by
    have h1 := sm_mono n (fun i hi => e i (by omega))
    have h2 := e n (by omega)
    rw [sm, sm]
    omega
theorem spr_le (b : Bool) (m : Nat) : spr b m ≤ m := by unfold spr; split <;> omega
theorem S_week {f : Nat} (hf : 1000 ≤ f) : Sim_week Rel f := by
  intro SI SV LaI LaV LsI LsV I V h
  have h0 := h
  obtain ⟨P, hP, i4, ⟨L, hok, hM, hL⟩, hT, hA, hSl, hDa, z0, z1⟩ := h
  have hM1 : tM P L (va_up I 0 0) V := hM
  have hA1 : rAct P (SI 2) LaI LaV (va_up I 0 0) V := hA
  obtain ⟨Ia', LaI', LaV', aa, g, n1, n2, n3⟩ := note_eq hf (SV 2) hP hok hM1 hL hA1
  obtain ⟨m9, m14, mp, md⟩ := id hM
  obtain ⟨l0, l1, l2, l3, l4, lp, ld⟩ := id hL
  have hd := hok.1
  have w0 : wI P (L 0 0) 0 0 (L 0 1 + 1) (L 8) L (va_up (SI 1) 2 (nI (L 0 1 + 1))) (SV 1) (va_up (va_up (va_up I 0 0) 24 aa) 14 (nI (L 0 1 + 1))) (va_up V 23 g) := by
    refine ⟨⟨Nat.le_refl _, Nat.zero_le _, hok.2.1⟩, fun p hp => ⟨(hok.2.2.1 p hp).1, (hok.2.2.1 p hp).2.1, (hok.2.2.1 p hp).2.2, fun q => q⟩, fun y hy => hok.2.2.2 y (by omega), ⟨i4, ?_, rfl⟩, mp, fun y hy => absurd hy (Nat.not_lt_zero _), fun t ht => ?_, ⟨l0, l1, rfl, l3, l4⟩, lp, fun y hy => ld y (by omega)⟩
    · show I 9 = _
      rw [m9]
      congr 1
      omega
    · rw [Nat.zero_add]
      exact md t (by omega)
  obtain ⟨c', L', Ig', Vg', Im', Vm', r1, r2, r3, r4, r5⟩ := week_loop (f := f) (by omega) hP hd (fun (x2_19 : Int32) (Ig_19 : FI) (Vg_19 : FV) => (if ((va_up Ig_19 1 x2_19) 2 - (va_up Ig_19 1 x2_19) 2 / 4 * 4) = 0 then ob1 (Led_goBad f (va_up Ig_19 1 x2_19) Vg_19) (fun V10 => some (((va_up Ig_19 1 x2_19) 4 &&& (nI (bm (fun p => L 8 p == 1) P) ^^^ (-1))), va_up Ig_19 1 x2_19, V10)) else some (((va_up Ig_19 1 x2_19) 4 &&& (nI (bm (fun p => L 8 p == 1) P) ^^^ (-1))), va_up Ig_19 1 x2_19, Vg_19))) (fun (x1_23 : Int32) (Im_23 : FI) (Vm_23 : FV) => (M_week_L187 f Im_23 (fun (Vm_187 : FV) => some (x1_23, Im_23, Vm_187)) f 0 Vm_23)) f 0 0 L _ _ _ _ w0 (by omega)
  obtain ⟨⟨g1, g2, g3⟩, g4, g5, ⟨g6, g7, g8⟩, g9, g10, g11, ⟨x0, x1, x2, x3, x4⟩, g13, g14⟩ := id r1
  obtain ⟨bb, hbb⟩ : ∃ b : Bool, b = decide ((Im' 14) - (Im' 14) / 4 * 4 = 0) := ⟨_, rfl⟩
  have hm594 : ∀ p, p < P → L' 5 p ≤ 594 := fun p hp => Nat.le_trans (sm_le (L' 5) P p hp) g3
  obtain ⟨gm, q1, q2⟩ := week187 f hP g6 Vm' (fun (Vm_187 : FV) => some (nI (wS P (L 8) L'), Im', Vm_187)) (L' 5) hm594 f 0 (Vm' 5) (by omega) (by omega) (fun p hp => absurd hp (Nat.not_lt_zero _)) (fun p _ hp => (g9 p hp).1)
  rw [up_id] at q1
  rw [← hbb] at q2
  obtain ⟨Vx, hVx, gx, hx5, hxr⟩ : ∃ Vx : FV, (if ((va_up Ig' 1 (nI c')) 2 - (va_up Ig' 1 (nI c')) 2 / 4 * 4) = 0 then ob1 (Led_goBad f (va_up Ig' 1 (nI c')) Vg') (fun V10 => some (((va_up Ig' 1 (nI c')) 4 &&& (nI (bm (fun p => L 8 p == 1) P) ^^^ (-1))), va_up Ig' 1 (nI c'), V10)) else some (((va_up Ig' 1 (nI c')) 4 &&& (nI (bm (fun p => L 8 p == 1) P) ^^^ (-1))), va_up Ig' 1 (nI c'), Vg')) = some (((va_up Ig' 1 (nI c')) 4 &&& (nI (bm (fun p => L 8 p == 1) P) ^^^ (-1))), va_up Ig' 1 (nI c'), Vx) ∧ ∃ gx, Vx = va_up Vg' 5 gx ∧ ∀ p, p < P → gx p = nI (spr bb (L' 5 p)) := by
    have e2 : (va_up Ig' 1 (nI c')) 2 = Im' 14 := by rw [g8]; exact x2
    rw [e2]
    by_cases c : (Im' 14) - (Im' 14) / 4 * 4 = 0
    · obtain ⟨gx, p1, p2⟩ := goBad2 f (I := va_up Ig' 1 (nI c')) hP x0 Vg' (fun (Vg_2 : FV) => some Vg_2) (L' 5) hm594 f 0 (Vg' 5) (by omega) (by omega) (fun p hp => absurd hp (Nat.not_lt_zero _)) (fun p _ hp => (g13 p hp).1)
      rw [up_id] at p1
      have p1' : Led_goBad f (va_up Ig' 1 (nI c')) Vg' = some (va_up Vg' 5 gx) := p1
      refine ⟨va_up Vg' 5 gx, ?_, gx, rfl, fun p hp => ?_⟩
      · rw [if_pos c, p1', ob1_s]
      · rw [p2 p hp, hbb]; simp [c]
    · refine ⟨Vg', if_neg c, Vg' 5, (up_id _ _).symm, fun p hp => ?_⟩
      rw [(g13 p hp).1, hbb]
      unfold spr
      rw [if_neg (fun q => by simp [c] at q)]
  refine ⟨nI (wS P (L 8) L'), Ia', va_up Ig' 1 (nI c'), Vx, LaI', LaV', Im', va_up Vm' 5 gm, ?_, ?_, ?_⟩
  · unfold X_week Led_passWeek
    simp only [nm]
    rw [n1, ob3_s, l2, nI_1, l4]
    have := r4.trans hVx
    rw [show Led_passWeek_L19 f _ f 0 0 (va_up (SI 1) 2 (nI (L 0 1 + 1))) (SV 1) = _ from this, ob3_s]
    have e4 : (va_up Ig' 1 (nI c')) 4 = nI (bm (fun p => L' 8 p == 1) P) := x4
    rw [e4, bm_andn _ _ hP]
    rfl
  · unfold M_week
    simp only [nm]
    rw [n2, ob2_s, show va_up (va_up I 0 0) 24 aa 14 = nI (L 0 1) from m14, nI_1]
    have e0 : wS P (L 8) L = 0 := bm_zero _ P (fun p _ => by by_cases e : L 8 p = 1 <;> simp [e])
    rw [e0] at r5
    exact r5.trans q1
  · have f4 : ∀ s, s ≠ 9 → s ≠ 14 → s ≠ 24 → s ≠ 0 → Im' s = I s := fun s s1 s2 s3 s4 => by rw [r2 s s1, va_up_ne _ _ s2, va_up_ne _ _ s3, va_up_ne _ _ s4]
    have fV : ∀ s, s ≠ 5 → s ≠ 8 → s ≠ 10 → s ≠ 11 → s ≠ 12 → s ≠ 13 → s ≠ 23 → va_up Vm' 5 gm s = V s := fun s s1 s2 s3 s4 s5 s6 s7 => by rw [va_up_ne _ _ s1, r3 s s1 s2 s3 s4 s5 s6, va_up_ne _ _ s7]
    rw [hx5]
    refine ⟨P, hP, g6, ⟨va_up (va_up L' 0 (va_up (fun _ => c') 1 (L 0 1 + 1))) 5 (fun p => spr bb (L' 5 p)), ⟨?_, ?_, ?_, ?_⟩, ⟨?_, ?_, ?_, ?_⟩, ⟨?_, ?_, ?_, ?_, ?_, ?_, ?_⟩⟩, ?_, ?_, ?_, ?_, z0, z1⟩
    · show c' ≤ 12
      omega
    · show sm (fun p => spr bb (L' 5 p)) P ≤ 594
      exact Nat.le_trans (sm_mono P (fun i _ => spr_le bb (L' 5 i))) g3
    · exact fun p hp => ⟨(g4 p hp).1, (g4 p hp).2.1, (g4 p hp).2.2.1⟩
    · exact fun j hj => g5 j (Or.inl hj)
    · show Im' 9 = nI c'
      rw [g7]; congr 1; omega
    · exact g8
    · exact fun p hp => ⟨q2 p hp, (g9 p hp).2.1, (g9 p hp).2.2.1, (g9 p hp).2.2.2⟩
    · exact fun j hj => g10 j hj
    · exact x0
    · rfl
    · exact x2
    · exact x3
    · exact x4
    · exact fun p hp => ⟨hxr p hp, (g13 p hp).2⟩
    · exact fun j hj => g14 j (Or.inl hj)
    · unfold rTxt
      rw [f4 2 (by decide) (by decide) (by decide) (by decide), fV 1 (by decide) (by decide) (by decide) (by decide) (by decide) (by decide) (by decide)]
      exact hT
    · obtain ⟨K, F, a1, a2, a3, a4, a5, a6⟩ := n3
      refine ⟨K, F, a1, a2, ?_, a4, a5, ?_⟩
      · rw [r2 24 (by decide)]; exact a3
      · rw [va_up_ne _ _ (show (23 : Nat) ≠ 5 by decide), r3 23 (by decide) (by decide) (by decide) (by decide) (by decide) (by decide)]
        exact a6
    · unfold rSlt
      rw [fV 25 (by decide) (by decide) (by decide) (by decide) (by decide) (by decide) (by decide), fV 26 (by decide) (by decide) (by decide) (by decide) (by decide) (by decide) (by decide)]
      exact hSl
    · unfold rDay
      rw [f4 27 (by decide) (by decide) (by decide) (by decide), fV 28 (by decide) (by decide) (by decide) (by decide) (by decide) (by decide) (by decide), fV 29 (by decide) (by decide) (by decide) (by decide) (by decide) (by decide) (by decide), fV 30 (by decide) (by decide) (by decide) (by decide) (by decide) (by decide) (by decide)]
      exact hDa
