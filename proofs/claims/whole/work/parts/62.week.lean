theorem bm_set (q q' : Nat → Bool) {P p : Nat} (hp : p < P) (h1 : q' p = true) (h2 : ∀ x, x ≠ p → q' x = q x) : bm q' P = bm q P ||| 2 ^ p := by
  apply Nat.eq_of_testBit_eq
  intro i
  rw [Nat.testBit_or, bm_bit, bm_bit, Nat.testBit_two_pow]
  by_cases e : i = p
  · subst e
    simp [hp, h1]
  · rw [h2 i e]
    simp [show ¬ p = i from fun q => e q.symm]
theorem bm_congr {q q' : Nat → Bool} {P : Nat} (h : ∀ x, x < P → q' x = q x) : bm q' P = bm q P := by
  apply Nat.eq_of_testBit_eq
  intro i
  rw [bm_bit, bm_bit]
  by_cases e : i < P
  · rw [h i e]
  · simp [e]
theorem andn : ∀ a, a < 64 → ∀ b, b < 64 → nI a &&& (nI b ^^^ (-1)) = nI (a &&& (63 ^^^ b)) := by decide +kernel
theorem bm_andn (q r : Nat → Bool) {P : Nat} (hP : P ≤ 6) : nI (bm q P) &&& (nI (bm r P) ^^^ (-1)) = nI (bm (fun p => q p && !r p) P) := by
  rw [andn _ (bm64 q hP) _ (bm64 r hP)]
  congr 1
  apply Nat.eq_of_testBit_eq
  intro i
  rw [Nat.testBit_and, Nat.testBit_xor, bm_bit, bm_bit, bm_bit, show (63 : Nat) = 2 ^ 6 - 1 from rfl, Nat.testBit_two_pow_sub_one]
  by_cases e : i < P
  · simp [e, show i < 6 by omega]
  · simp [e]
theorem move_eq (f : Nat) (I : FI) (V : FV) {x c : Nat} (hx : x < 12) (hc : c < 12) : Led_moveDebt f (nI x) (nI c) I V = some (va_up (va_up (va_up (va_up V 7 (upd (V 7) c (V 7 x))) 8 (upd (V 8) c (V 8 x))) 9 (upd (V 9) c (V 9 x))) 10 (upd (V 10) c (V 10 x))) := by
  unfold Led_moveDebt
  simp only [nm, gd_nI hx (show 12 < 2 ^ 31 by decide), gd_nI hc (show 12 < 2 ^ 31 by decide)]
  simp only [cl_nI (show x < 2 ^ 31 by omega), cl_nI (show c < 2 ^ 31 by omega)]
  rfl
theorem pay_eq (f : Nat) (I : FI) {V : FV} {x b c a mb mc : Nat} (hx : x < 12) (hb : b < 6) (hc : c < 6) (hbc : b ≠ c) (ha : a ≤ 99) (hmb : mb ≤ 594) (vb : V 8 x = nI b) (vc : V 7 x = nI c) (va : V 9 x = nI a) (vmb : V 5 b = nI mb) (vmc : V 5 c = nI mc) : Led_pay f (nI x) I V = some ((if a ≤ (if mb < a then mb else a) then I else va_up I 4 (I 4 ||| nI (2 ^ b))), va_up V 5 (upd (upd (V 5) b (nI (mb - (if mb < a then mb else a)))) c (nI (mc + (if mb < a then mb else a))))) := by
  unfold Led_pay
  simp only [nm, gd_nI hx (show 12 < 2 ^ 31 by decide)]
  simp only [cl_nI (show x < 2 ^ 31 by omega), vb, va]
  have v7 : ∀ g, va_up V 5 g 7 = V 7 := fun _ => rfl
  simp only [gd_nI hb (show 6 < 2 ^ 31 by decide), v7, vc, gd_nI hc (show 6 < 2 ^ 31 by decide)]
  simp only [cl_nI (show b < 2 ^ 31 by omega), cl_nI (show c < 2 ^ 31 by omega), vmb, va_up_self, upd_n _ _ (show c ≠ b from fun q => hbc q.symm), vmc, bx_uu, sh1 b (by omega), lt_n (show mb < 2 ^ 31 by omega) (show a < 2 ^ 31 by omega)]
  obtain ⟨g, hg⟩ : ∃ g, g = (if mb < a then mb else a) := ⟨_, rfl⟩
  have hg2 : (if mb < a then nI mb else nI a) = nI g := by rw [hg]; split <;> rfl
  have hgl : g ≤ mb := by rw [hg]; split <;> omega
  rw [← hg, hg2]
  rw [pk_sub hgl, nI_add]
  by_cases c1 : a ≤ g
  · rw [if_pos ((le_n (by omega) (by omega)).mpr c1), if_pos c1]
  · rw [if_neg (fun q => c1 ((le_n (by omega) (by omega)).mp q)), if_neg c1]
theorem drop12 {ρ : Type} (f : Nat) {I : FI} {N : Nat} (hN : N < 12) (h9 : I 9 = nI N) (k : FV → Option ρ) : ∀ (n d : Nat) (V : FV), d ≤ N → N - d < n → ∃ W : FV, M_drop_L12 f I k n (nI d) V = k W ∧ (∀ s, s ≠ 10 → s ≠ 11 → s ≠ 12 → s ≠ 13 → W s = V s) ∧ (∀ y, d ≤ y → y < N → W 10 y = V 10 (y + 1) ∧ W 11 y = V 11 (y + 1) ∧ W 12 y = V 12 (y + 1) ∧ W 13 y = V 13 (y + 1)) ∧ ∀ y, y < d → W 10 y = V 10 y ∧ W 11 y = V 11 y ∧ W 12 y = V 12 y ∧ W 13 y = V 13 y := by
  intro n
  induction n with
  | zero => intro d V h1 h2; omega
  | succ n ih =>
    intro d V h1 h2
    rw [M_drop_L12, h9]
    by_cases e : d = N
    · subst e
      exact ⟨V, if_pos (nI_le (Nat.le_refl _) (by omega)), fun _ _ _ _ _ => rfl, fun y h3 h4 => by omega, fun _ _ => ⟨rfl, rfl, rfl, rfl⟩⟩
    · obtain ⟨W, q1, q2, q3, q4⟩ := ih (d + 1) (va_up (va_up (va_up (va_up V 10 (upd (V 10) d (V 10 (d + 1)))) 11 (upd (V 11) d (V 11 (d + 1)))) 12 (upd (V 12) d (V 12 (d + 1)))) 13 (upd (V 13) d (V 13 (d + 1)))) (by omega) (by omega)
      refine ⟨W, ?_, fun s a1 a2 a3 a4 => ?_, fun y h3 h4 => ?_, fun y h3 => ?_⟩
      · rw [if_neg (nI_ge (by omega) (by omega))]
        simp only [nm, nI_1, gd_nI (show d < 12 by omega) (show 12 < 2 ^ 31 by decide), gd_nI (show d + 1 < 12 by omega) (show 12 < 2 ^ 31 by decide)]
        simp only [cl_nI (show d < 2 ^ 31 by omega), cl_nI (show d + 1 < 2 ^ 31 by omega)]
        exact q1
      · rw [q2 s a1 a2 a3 a4, va_up_ne _ _ a4, va_up_ne _ _ a3, va_up_ne _ _ a2, va_up_ne _ _ a1]
      · by_cases ey : y = d
        · subst ey
          obtain ⟨r1, r2, r3, r4⟩ := q4 y (by omega)
          rw [r1, r2, r3, r4]
          exact ⟨upd_s _ _ _, upd_s _ _ _, upd_s _ _ _, upd_s _ _ _⟩
        · obtain ⟨r1, r2, r3, r4⟩ := q3 y (by omega) h4
          rw [r1, r2, r3, r4]
          exact ⟨upd_n _ _ (by omega), upd_n _ _ (by omega), upd_n _ _ (by omega), upd_n _ _ (by omega)⟩
      · obtain ⟨r1, r2, r3, r4⟩ := q4 y (by omega)
        rw [r1, r2, r3, r4]
        exact ⟨upd_n _ _ (by omega), upd_n _ _ (by omega), upd_n _ _ (by omega), upd_n _ _ (by omega)⟩
theorem drop_eq {f : Nat} (hf : 100 ≤ f) {I : FI} (V : FV) {d N : Nat} (hd : d ≤ N) (hN : N < 12) (h9 : I 9 = nI (N + 1)) : ∃ W : FV, M_drop f (nI d) I V = some (va_up I 9 (nI N), W) ∧ (∀ s, s ≠ 10 → s ≠ 11 → s ≠ 12 → s ≠ 13 → W s = V s) ∧ (∀ y, d ≤ y → y < N → W 10 y = V 10 (y + 1) ∧ W 11 y = V 11 (y + 1) ∧ W 12 y = V 12 (y + 1) ∧ W 13 y = V 13 (y + 1)) ∧ ∀ y, y < d → W 10 y = V 10 y ∧ W 11 y = V 11 y ∧ W 12 y = V 12 y ∧ W 13 y = V 13 y := by
  obtain ⟨W, q1, q2⟩ := drop12 f (I := va_up I 9 (nI N)) hN (va_up_self _ _ _) (fun (Vm_12 : FV) => some (va_up I 9 (nI N), Vm_12)) f d V hd (by omega)
  refine ⟨W, ?_, q2⟩
  unfold M_drop
  simp only [nm]
  rw [h9, nI_pred]
  exact q1
/-- debts that are gone through: those at 0..c are kept, those from x on are still to come -/
def wI (P D x c W : Nat) (B : Nat → Nat) (L : Nat → Nat → Nat) (Ig : FI) (Vg : FV) (Im : FI) (Vm : FV) : Prop :=
  (c ≤ x ∧ x ≤ D ∧ sm (L 5) P ≤ 594) ∧ (∀ p, p < P → L 6 p ≤ 9 ∧ L 7 p ≤ 1 ∧ L 8 p ≤ 1 ∧ (B p = 1 → L 8 p = 1)) ∧
  (∀ y, (y < c ∨ (x ≤ y ∧ y < D)) → L 10 y < P ∧ L 11 y < P ∧ L 10 y ≠ L 11 y ∧ 1 ≤ L 12 y ∧ L 12 y ≤ 99) ∧
  (Im 4 = nI P ∧ Im 9 = nI (c + (D - x)) ∧ Im 14 = nI W) ∧ (∀ p, p < P → Vm 5 p = nI (L 5 p) ∧ Vm 6 p = nI (L 6 p) ∧ Vm 7 p = nI (L 7 p) ∧ Vm 8 p = nI (L 8 p)) ∧
  (∀ y, y < c → Vm 10 y = nI (L 10 y) ∧ Vm 11 y = nI (L 11 y) ∧ Vm 12 y = nI (L 12 y) ∧ Vm 13 y = nI (L 13 y)) ∧
  (∀ t, t < D - x → Vm 10 (c + t) = nI (L 10 (x + t)) ∧ Vm 11 (c + t) = nI (L 11 (x + t)) ∧ Vm 12 (c + t) = nI (L 12 (x + t)) ∧ Vm 13 (c + t) = nI (L 13 (x + t))) ∧
  (Ig 0 = nI P ∧ Ig 1 = nI D ∧ Ig 2 = nI W ∧ Ig 3 = nI (bm (fun p => L 7 p == 0) P) ∧ Ig 4 = nI (bm (fun p => L 8 p == 1) P)) ∧ (∀ p, p < P → Vg 5 p = nI (L 5 p) ∧ Vg 6 p = nI (L 6 p)) ∧
  (∀ y, (y < c ∨ (x ≤ y ∧ y < D)) → Vg 7 y = nI (L 10 y) ∧ Vg 8 y = nI (L 11 y) ∧ Vg 9 y = nI (L 12 y) ∧ Vg 10 y = nI (L 13 y))
/-- a debt is kept -/
theorem wI_keep {P D x c W : Nat} {B : Nat → Nat} {L : Nat → Nat → Nat} {Ig : FI} {Vg : FV} {Im : FI} {Vm : FV} (h : wI P D x c W B L Ig Vg Im Vm) (hx : x < D) : wI P D (x + 1) (c + 1) W B (va_up (va_up (va_up (va_up L 10 (va_up (L 10) c (L 10 x))) 11 (va_up (L 11) c (L 11 x))) 12 (va_up (L 12) c (L 12 x))) 13 (va_up (L 13) c (L 13 x))) Ig (va_up (va_up (va_up (va_up Vg 7 (upd (Vg 7) c (Vg 7 x))) 8 (upd (Vg 8) c (Vg 8 x))) 9 (upd (Vg 9) c (Vg 9 x))) 10 (upd (Vg 10) c (Vg 10 x))) Im Vm := by
  obtain ⟨⟨h1, h2, h3⟩, h4, h5, ⟨h6, h7, h8⟩, h9, h10, h11, h12, h13, h14⟩ := h
  refine ⟨⟨by omega, by omega, h3⟩, h4, fun y hy => ?_, ⟨h6, ?_, h8⟩, h9, fun y hy => ?_, fun t ht => ?_, h12, h13, fun y hy => ?_⟩
  · show va_up (L 10) c (L 10 x) y < P ∧ va_up (L 11) c (L 11 x) y < P ∧ va_up (L 10) c (L 10 x) y ≠ va_up (L 11) c (L 11 x) y ∧ 1 ≤ va_up (L 12) c (L 12 x) y ∧ va_up (L 12) c (L 12 x) y ≤ 99
    by_cases e : y = c
    · subst e
      simp only [va_up_self]
      exact h5 x (Or.inr ⟨Nat.le_refl _, hx⟩)
    · simp only [va_up_ne _ _ e]
      exact h5 y (by omega)
  · rw [h7]; congr 1; omega
  · show Vm 10 y = nI (va_up (L 10) c (L 10 x) y) ∧ Vm 11 y = nI (va_up (L 11) c (L 11 x) y) ∧ Vm 12 y = nI (va_up (L 12) c (L 12 x) y) ∧ Vm 13 y = nI (va_up (L 13) c (L 13 x) y)
    by_cases e : y = c
    · subst e
      simp only [va_up_self]
      exact h11 0 (by omega)
    · simp only [va_up_ne _ _ e]
      exact h10 y (by omega)
  · show Vm 10 (c + 1 + t) = nI (va_up (L 10) c (L 10 x) (x + 1 + t)) ∧ Vm 11 (c + 1 + t) = nI (va_up (L 11) c (L 11 x) (x + 1 + t)) ∧ Vm 12 (c + 1 + t) = nI (va_up (L 12) c (L 12 x) (x + 1 + t)) ∧ Vm 13 (c + 1 + t) = nI (va_up (L 13) c (L 13 x) (x + 1 + t))
    have e : x + 1 + t ≠ c := by omega
    simp only [va_up_ne _ _ e]
    rw [show c + 1 + t = c + (t + 1) by omega, show x + 1 + t = x + (t + 1) by omega]
    exact h11 (t + 1) (by omega)
  · show upd (Vg 7) c (Vg 7 x) y = nI (va_up (L 10) c (L 10 x) y) ∧ upd (Vg 8) c (Vg 8 x) y = nI (va_up (L 11) c (L 11 x) y) ∧ upd (Vg 9) c (Vg 9 x) y = nI (va_up (L 12) c (L 12 x) y) ∧ upd (Vg 10) c (Vg 10 x) y = nI (va_up (L 13) c (L 13 x) y)
    by_cases e : y = c
    · subst e
      simp only [va_up_self, upd_s]
      exact h14 x (Or.inr ⟨Nat.le_refl _, hx⟩)
    · simp only [va_up_ne _ _ e, upd_n _ _ e]
      exact h14 y (by omega)
/-- a debt is gone -/
theorem wI_drop {P D x c W : Nat} {B : Nat → Nat} {L : Nat → Nat → Nat} {Ig : FI} {Vg : FV} {Im : FI} {Vm U : FV} (h : wI P D x c W B L Ig Vg Im Vm) (hx : x < D) (q2 : ∀ s, s ≠ 10 → s ≠ 11 → s ≠ 12 → s ≠ 13 → U s = Vm s) (q3 : ∀ y, c ≤ y → y < c + (D - x) - 1 → U 10 y = Vm 10 (y + 1) ∧ U 11 y = Vm 11 (y + 1) ∧ U 12 y = Vm 12 (y + 1) ∧ U 13 y = Vm 13 (y + 1)) (q4 : ∀ y, y < c → U 10 y = Vm 10 y ∧ U 11 y = Vm 11 y ∧ U 12 y = Vm 12 y ∧ U 13 y = Vm 13 y) : wI P D (x + 1) c W B L Ig Vg (va_up Im 9 (nI (c + (D - x) - 1))) U := by
  obtain ⟨⟨h1, h2, h3⟩, h4, h5, ⟨h6, h7, h8⟩, h9, h10, h11, h12, h13, h14⟩ := h
  refine ⟨⟨by omega, by omega, h3⟩, h4, fun y hy => h5 y (by omega), ⟨h6, ?_, h8⟩, fun p hp => ?_, fun y hy => ?_, fun t ht => ?_, h12, h13, fun y hy => h14 y (by omega)⟩
  · show nI _ = _
    congr 1
    omega
  · rw [q2 5 (by decide) (by decide) (by decide) (by decide), q2 6 (by decide) (by decide) (by decide) (by decide), q2 7 (by decide) (by decide) (by decide) (by decide), q2 8 (by decide) (by decide) (by decide) (by decide)]
    exact h9 p hp
  · obtain ⟨r1, r2, r3, r4⟩ := q4 y hy
    rw [r1, r2, r3, r4]
    exact h10 y hy
  · obtain ⟨r1, r2, r3, r4⟩ := q3 (c + t) (by omega) (by omega)
    rw [r1, r2, r3, r4, show c + t + 1 = c + (t + 1) by omega, show x + 1 + t = x + (t + 1) by omega]
    exact h11 (t + 1) (by omega)
