def owS (L : Nat → Nat → Nat) (p : Nat) : Nat := sm (fun j => if L 11 j = p then L 12 j else 0) (L 0 0)
def oTS (L : Nat → Nat → Nat) (p : Nat) : Nat := sm (fun j => if L 10 j = p then L 12 j else 0) (L 0 0)
theorem M_owesAll_loop {ρ : Type} (f : Nat) {I : FI} {V : FV} {P : Nat} {L : Nat → Nat → Nat} (hP : P ≤ 6) (hok : okT P L) (hM : tM P L I V) {p : Nat} (hp : p < 6) (k : Int32 → Option ρ) : ∀ n j : Nat, j ≤ L 0 0 → L 0 0 - j < n → M_owesAll_L4 f I V (nI p) k n (nI (sm (fun j => if L 11 j = p then L 12 j else 0) j)) (nI j) = k (nI (sm (fun j => if L 11 j = p then L 12 j else 0) (L 0 0))) := by
  obtain ⟨m9, m14, mp, md⟩ := hM
  have hd : L 0 0 ≤ 12 := hok.1
  intro n
  induction n with
  | zero => intro j h1 h2; omega
  | succ n ih =>
    intro j h1 h2
    rw [M_owesAll_L4, m9]
    by_cases e : j = L 0 0
    · subst e
      rw [if_pos (nI_le (Nat.le_refl _) (by omega))]
    · have hj : j < L 0 0 := by omega
      have o1 := hok.2.2.2 j hj
      obtain ⟨d1, d2, d3, d4⟩ := md j hj
      rw [if_neg (nI_ge hj (by omega)), gd_nI (by omega) (by decide)]
      show (if V 11 (nI j).toNatClampNeg = nI p then (if nI j < 0 ∨ 12 ≤ (nI j).toNatClampNeg then none else M_owesAll_L4 f I V (nI p) k n (_ + V 12 (nI j).toNatClampNeg) (nI j + 1)) else M_owesAll_L4 f I V (nI p) k n (_ + 0) (nI j + 1)) = _
      rw [gd_nI (by omega) (by decide), cl_nI (by omega), d2, d3, nI_1 j]
      have ih2 := ih (j + 1) (by omega) (by omega)
      rw [sm] at ih2
      by_cases c : L 11 j = p
      · rw [if_pos (by rw [c]), nI_add]
        rw [if_pos c] at ih2
        exact ih2
      · rw [if_neg (fun q => c (nI_inj (by omega) (by omega) q)), Int32.add_zero]
        rw [if_neg c, Nat.add_zero] at ih2
        exact ih2
theorem M_owesAll_eq {f : Nat} {I : FI} {V : FV} {P : Nat} {L : Nat → Nat → Nat} (hf : 100 ≤ f) (hP : P ≤ 6) (hok : okT P L) (hM : tM P L I V) {p : Nat} (hp : p < 6) : M_owesAll f (nI p) I V = some (nI (owS L p)) := by
  have h := M_owesAll_loop f hP hok hM hp (fun x => some x) f 0 (Nat.zero_le _) (by have := hok.1; omega)
  exact h
theorem M_owedAll_loop {ρ : Type} (f : Nat) {I : FI} {V : FV} {P : Nat} {L : Nat → Nat → Nat} (hP : P ≤ 6) (hok : okT P L) (hM : tM P L I V) {p : Nat} (hp : p < 6) (k : Int32 → Option ρ) : ∀ n j : Nat, j ≤ L 0 0 → L 0 0 - j < n → M_owedAll_L4 f I V (nI p) k n (nI (sm (fun j => if L 10 j = p then L 12 j else 0) j)) (nI j) = k (nI (sm (fun j => if L 10 j = p then L 12 j else 0) (L 0 0))) := by
  obtain ⟨m9, m14, mp, md⟩ := hM
  have hd : L 0 0 ≤ 12 := hok.1
  intro n
  induction n with
  | zero => intro j h1 h2; omega
  | succ n ih =>
    intro j h1 h2
    rw [M_owedAll_L4, m9]
    by_cases e : j = L 0 0
    · subst e
      rw [if_pos (nI_le (Nat.le_refl _) (by omega))]
    · have hj : j < L 0 0 := by omega
      have o1 := hok.2.2.2 j hj
      obtain ⟨d1, d2, d3, d4⟩ := md j hj
      rw [if_neg (nI_ge hj (by omega)), gd_nI (by omega) (by decide)]
      show (if V 10 (nI j).toNatClampNeg = nI p then (if nI j < 0 ∨ 12 ≤ (nI j).toNatClampNeg then none else M_owedAll_L4 f I V (nI p) k n (_ + V 12 (nI j).toNatClampNeg) (nI j + 1)) else M_owedAll_L4 f I V (nI p) k n (_ + 0) (nI j + 1)) = _
      rw [gd_nI (by omega) (by decide), cl_nI (by omega), d1, d3, nI_1 j]
      have ih2 := ih (j + 1) (by omega) (by omega)
      rw [sm] at ih2
      by_cases c : L 10 j = p
      · rw [if_pos (by rw [c]), nI_add]
        rw [if_pos c] at ih2
        exact ih2
      · rw [if_neg (fun q => c (nI_inj (by omega) (by omega) q)), Int32.add_zero]
        rw [if_neg c, Nat.add_zero] at ih2
        exact ih2
theorem M_owedAll_eq {f : Nat} {I : FI} {V : FV} {P : Nat} {L : Nat → Nat → Nat} (hf : 100 ≤ f) (hP : P ≤ 6) (hok : okT P L) (hM : tM P L I V) {p : Nat} (hp : p < 6) : M_owedAll f (nI p) I V = some (nI (oTS L p)) := by
  have h := M_owedAll_loop f hP hok hM hp (fun x => some x) f 0 (Nat.zero_le _) (by have := hok.1; omega)
  exact h
theorem Led_owedBy_loop {ρ : Type} (f : Nat) {I : FI} {V : FV} {P : Nat} {L : Nat → Nat → Nat} (hP : P ≤ 6) (hok : okT P L) (hM : tL P L I V) {p : Nat} (hp : p < 6) (k : Int32 → Option ρ) : ∀ n j : Nat, j ≤ L 0 0 → L 0 0 - j < n → Led_owedBy_L4 f I V (nI p) k n (nI (sm (fun j => if L 11 j = p then L 12 j else 0) j)) (nI j) = k (nI (sm (fun j => if L 11 j = p then L 12 j else 0) (L 0 0))) := by
  obtain ⟨l0, l1, l2, l3, l4, lp, ld⟩ := hM
  have hd : L 0 0 ≤ 12 := hok.1
  intro n
  induction n with
  | zero => intro j h1 h2; omega
  | succ n ih =>
    intro j h1 h2
    rw [Led_owedBy_L4, l1]
    by_cases e : j = L 0 0
    · subst e
      rw [if_pos (nI_le (Nat.le_refl _) (by omega))]
    · have hj : j < L 0 0 := by omega
      have o1 := hok.2.2.2 j hj
      obtain ⟨d1, d2, d3, d4⟩ := ld j hj
      rw [if_neg (nI_ge hj (by omega)), gd_nI (by omega) (by decide)]
      show (if V 8 (nI j).toNatClampNeg = nI p then (if nI j < 0 ∨ 12 ≤ (nI j).toNatClampNeg then none else Led_owedBy_L4 f I V (nI p) k n (_ + V 9 (nI j).toNatClampNeg) (nI j + 1)) else Led_owedBy_L4 f I V (nI p) k n _ (nI j + 1)) = _
      rw [gd_nI (by omega) (by decide), cl_nI (by omega), d2, d3, nI_1 j]
      have ih2 := ih (j + 1) (by omega) (by omega)
      rw [sm] at ih2
      by_cases c : L 11 j = p
      · rw [if_pos (by rw [c]), nI_add]
        rw [if_pos c] at ih2
        exact ih2
      · rw [if_neg (fun q => c (nI_inj (by omega) (by omega) q))]
        rw [if_neg c, Nat.add_zero] at ih2
        exact ih2
theorem Led_owedBy_eq {f : Nat} {I : FI} {V : FV} {P : Nat} {L : Nat → Nat → Nat} (hf : 100 ≤ f) (hP : P ≤ 6) (hok : okT P L) (hM : tL P L I V) {p : Nat} (hp : p < 6) : Led_owedBy f (nI p) I V = some (nI (owS L p)) := by
  have h := Led_owedBy_loop f hP hok hM hp (fun x => some x) f 0 (Nat.zero_le _) (by have := hok.1; omega)
  exact h
theorem Led_owedTo_loop {ρ : Type} (f : Nat) {I : FI} {V : FV} {P : Nat} {L : Nat → Nat → Nat} (hP : P ≤ 6) (hok : okT P L) (hM : tL P L I V) {p : Nat} (hp : p < 6) (k : Int32 → Option ρ) : ∀ n j : Nat, j ≤ L 0 0 → L 0 0 - j < n → Led_owedTo_L4 f I V (nI p) k n (nI (sm (fun j => if L 10 j = p then L 12 j else 0) j)) (nI j) = k (nI (sm (fun j => if L 10 j = p then L 12 j else 0) (L 0 0))) := by
  obtain ⟨l0, l1, l2, l3, l4, lp, ld⟩ := hM
  have hd : L 0 0 ≤ 12 := hok.1
  intro n
  induction n with
  | zero => intro j h1 h2; omega
  | succ n ih =>
    intro j h1 h2
    rw [Led_owedTo_L4, l1]
    by_cases e : j = L 0 0
    · subst e
      rw [if_pos (nI_le (Nat.le_refl _) (by omega))]
    · have hj : j < L 0 0 := by omega
      have o1 := hok.2.2.2 j hj
      obtain ⟨d1, d2, d3, d4⟩ := ld j hj
      rw [if_neg (nI_ge hj (by omega)), gd_nI (by omega) (by decide)]
      show (if V 7 (nI j).toNatClampNeg = nI p then (if nI j < 0 ∨ 12 ≤ (nI j).toNatClampNeg then none else Led_owedTo_L4 f I V (nI p) k n (_ + V 9 (nI j).toNatClampNeg) (nI j + 1)) else Led_owedTo_L4 f I V (nI p) k n _ (nI j + 1)) = _
      rw [gd_nI (by omega) (by decide), cl_nI (by omega), d1, d3, nI_1 j]
      have ih2 := ih (j + 1) (by omega) (by omega)
      rw [sm] at ih2
      by_cases c : L 10 j = p
      · rw [if_pos (by rw [c]), nI_add]
        rw [if_pos c] at ih2
        exact ih2
      · rw [if_neg (fun q => c (nI_inj (by omega) (by omega) q))]
        rw [if_neg c, Nat.add_zero] at ih2
        exact ih2
theorem Led_owedTo_eq {f : Nat} {I : FI} {V : FV} {P : Nat} {L : Nat → Nat → Nat} (hf : 100 ≤ f) (hP : P ≤ 6) (hok : okT P L) (hM : tL P L I V) {p : Nat} (hp : p < 6) : Led_owedTo f (nI p) I V = some (nI (oTS L p)) := by
  have h := Led_owedTo_loop f hP hok hM hp (fun x => some x) f 0 (Nat.zero_le _) (by have := hok.1; omega)
  exact h
/-! bits of people -/
theorem bm_lt (q : Nat → Bool) : ∀ n, bm q n < 2 ^ n
  | 0 => by simp [bm]
  | n + 1 => by
    have h := bm_lt q n
    rw [bm, Nat.pow_succ]
    by_cases c : q n = true
    · rw [if_pos c]; omega
    · rw [if_neg c]; omega
theorem bm_bit (q : Nat → Bool) : ∀ n p, (bm q n).testBit p = (decide (p < n) && q p)
  | 0, p => by simp [bm]
  | n + 1, p => by
    have h := bm_lt q n
    have ih := bm_bit q n p
    rw [bm]
    by_cases c : q n = true
    · rw [if_pos c, Nat.add_comm]
      by_cases e : p = n
      · subst e
        rw [Nat.testBit_two_pow_add_eq, Nat.testBit_lt_two_pow h]
        simp [c]
      · rcases Nat.lt_or_ge p n with hl | hg
        · rw [Nat.testBit_two_pow_add_gt hl, ih]
          simp [hl, Nat.lt_succ_of_lt hl]
        · have h2 : 2 ^ n + bm q n < 2 ^ p := by
            have : 2 ^ (n + 1) ≤ 2 ^ p := Nat.pow_le_pow_right (by decide) (by omega)
            rw [Nat.pow_succ] at this
            omega
          rw [Nat.testBit_lt_two_pow h2]
          simp [show ¬ p < n + 1 by omega]
    · rw [if_neg c, Nat.add_zero, ih]
      by_cases e : p = n
      · subst e
        simp [c]
      · by_cases hl : p < n
        · simp [hl, Nat.lt_succ_of_lt hl]
        · simp [hl, show ¬ p < n + 1 by omega]
theorem s31 : ∀ n, n < 32 → ((nI n &&& 31).toBitVec.smod 32).toNat = n := by decide +kernel
/-- one bit of a small set -/
theorem bit_of {m p : Nat} (hm : m < 64) (hp : p < 6) : ((nI m >>> (nI p &&& 31)) &&& 1) = nI (m / 2 ^ p % 2) := by
  rw [pk_shrN (by omega) _ p (s31 p (by omega))]
  exact pk_andN (by have := Nat.div_le_self m (2 ^ p); omega) 1 (by decide)
theorem isIn_eq (f : Nat) {m p : Nat} (hm : m < 64) (hp : p < 6) : X_isIn f (nI m) (nI p) = some (if m.testBit p then 1 else 0) := by
  unfold X_isIn
  rw [bit_of hm hp, Nat.testBit_eq_decide_div_mod_eq]
  rcases Nat.mod_two_eq_zero_or_one (m / 2 ^ p) with h | h
  · rw [h]; rfl
  · rw [h]; rfl
theorem mhas_eq (f : Nat) {m p : Nat} (hm : m < 64) (hp : p < 6) : M_has f (nI m) (nI p) = some (if m.testBit p then 1 else 0) := by
  unfold M_has
  rw [bit_of hm hp, Nat.testBit_eq_decide_div_mod_eq]
  rcases Nat.mod_two_eq_zero_or_one (m / 2 ^ p) with h | h
  · rw [h]; rfl
  · rw [h]; rfl
theorem bm64 (q : Nat → Bool) {P : Nat} (hP : P ≤ 6) : bm q P < 64 := Nat.lt_of_lt_of_le (bm_lt q P) (Nat.pow_le_pow_right (n := 2) (by decide) hP)
theorem alive_eq (f : Nat) {I : FI} {V : FV} {P : Nat} {L : Nat → Nat → Nat} (hP : P ≤ 6) (hM : tL P L I V) {p : Nat} (hp : p < P) : Led_isAlive f (nI p) I V = some (if L 7 p = 0 then 1 else 0) := by
  unfold Led_isAlive
  rw [hM.2.2.2.1, isIn_eq f (bm64 _ hP) (by omega), bm_bit]
  by_cases c : L 7 p = 0
  · simp [hp, c, ob1]
  · simp [hp, c, ob1]
theorem broken_eq (f : Nat) {I : FI} {V : FV} {P : Nat} {L : Nat → Nat → Nat} (hP : P ≤ 6) (hM : tL P L I V) {p : Nat} (hp : p < P) : Led_isBroken f (nI p) I V = some (if L 8 p = 1 then 1 else 0) := by
  unfold Led_isBroken
  rw [hM.2.2.2.2.1, isIn_eq f (bm64 _ hP) (by omega), bm_bit]
  by_cases c : L 8 p = 1
  · simp [hp, c, ob1]
  · simp [hp, c, ob1]
