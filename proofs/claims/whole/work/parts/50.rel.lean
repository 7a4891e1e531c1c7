/-! ===== the relation between the class's state and the reference's ===== -/
/-- a set of people as bits -/
def bm (q : Nat → Bool) : Nat → Nat
  | 0 => 0
  | n + 1 => bm q n + (if q n then 2 ^ n else 0)
/-- sums over the first n -/
def sm (g : Nat → Nat) : Nat → Nat
  | 0 => 0
  | n + 1 => sm g n + g n
/-- a table: debts L 0 0, week L 0 1; mornings L 5, asks L 6, dead L 7, broken L 8 by person; owed L 10, owes L 11, much L 12, due L 13 by debt -/
def okT (P : Nat) (L : Nat → Nat → Nat) : Prop := L 0 0 ≤ 12 ∧ sm (L 5) P ≤ 594 ∧ (∀ p, p < P → L 6 p ≤ 9 ∧ L 7 p ≤ 1 ∧ L 8 p ≤ 1) ∧ ∀ j, j < L 0 0 → L 10 j < P ∧ L 11 j < P ∧ L 10 j ≠ L 11 j ∧ 1 ≤ L 12 j ∧ L 12 j ≤ 99
def tM (P : Nat) (L : Nat → Nat → Nat) (I : FI) (V : FV) : Prop := I 9 = nI (L 0 0) ∧ I 14 = nI (L 0 1) ∧ (∀ p, p < P → V 5 p = nI (L 5 p) ∧ V 6 p = nI (L 6 p) ∧ V 7 p = nI (L 7 p) ∧ V 8 p = nI (L 8 p)) ∧ ∀ j, j < L 0 0 → V 10 j = nI (L 10 j) ∧ V 11 j = nI (L 11 j) ∧ V 12 j = nI (L 12 j) ∧ V 13 j = nI (L 13 j)
def tP (P : Nat) (L : Nat → Nat → Nat) (g : Nat → Int32) (o : Nat) : Prop := (∀ p, p < P → g (o + p) = nI (L 5 p) ∧ g (o + 6 + p) = nI (L 6 p) ∧ g (o + 12 + p) = nI (L 7 p + 2 * L 8 p)) ∧ (∀ j, j < L 0 0 → g (o + 18 + j) = nI (L 10 j) ∧ g (o + 30 + j) = nI (L 11 j) ∧ g (o + 42 + j) = nI (L 12 j) ∧ g (o + 54 + j) = nI (L 13 j)) ∧ g (o + 66) = nI (L 0 0) ∧ g (o + 67) = nI (L 0 1)
def tL (P : Nat) (L : Nat → Nat → Nat) (I : FI) (V : FV) : Prop := I 0 = nI P ∧ I 1 = nI (L 0 0) ∧ I 2 = nI (L 0 1) ∧ I 3 = nI (bm (fun p => L 7 p == 0) P) ∧ I 4 = nI (bm (fun p => L 8 p == 1) P) ∧ (∀ p, p < P → V 5 p = nI (L 5 p) ∧ V 6 p = nI (L 6 p)) ∧ ∀ j, j < L 0 0 → V 7 j = nI (L 10 j) ∧ V 8 j = nI (L 11 j) ∧ V 9 j = nI (L 12 j) ∧ V 10 j = nI (L 13 j)
def rTxt (It : FI) (Vt : FV) (I : FI) (V : FV) : Prop := ∃ t : Nat, t ≤ 80 ∧ I 2 = nI t ∧ It 1 = nI t ∧ ∀ i, i < t → ∃ b : Nat, b < 256 ∧ V 1 i = nI b ∧ Vt 0 i = (nI b).toInt8.toInt32
def rAct (P : Nat) (Ia : FI) (LaI : Nat → FI) (LaV : Nat → FV) (I : FI) (V : FV) : Prop := ∃ K F : Nat, K ≤ 10 ∧ F < 10 ∧ I 24 = nI K ∧ Ia 1 = nI F ∧ Ia 2 = nI K ∧ ∀ j, j < K → ∃ L, okT P L ∧ tP P L (V 23) (74 * j) ∧ tL P L (LaI ((F + j) % 10)) (LaV ((F + j) % 10))
def rSlt (P : Nat) (Vs : FV) (LsI : Nat → FI) (LsV : Nat → FV) (V : FV) : Prop := ∀ s, s < 2 → ∃ u : Nat, u ≤ 1 ∧ V 26 s = nI u ∧ Vs 1 s = nI u ∧ (u = 1 → ∃ L, okT P L ∧ tP P L (V 25) (74 * s) ∧ tL P L (LsI s) (LsV s))
def rDay (Id : FI) (Vd : FV) (I : FI) (V : FV) : Prop := ∃ n : Nat, n ≤ 12 ∧ I 27 = nI n ∧ Id 3 = nI n ∧ ∀ j, j < n → ∃ w d z : Nat, w < 6 ∧ d ≤ 99 ∧ z ≤ 1 ∧ V 28 j = nI w ∧ V 29 j = nI d ∧ V 30 j = nI z ∧ Vd 0 j = nI w ∧ Vd 1 j = nI d ∧ Vd 2 j = nI z
def Rel (SI : Nat → FI) (SV : Nat → FV) (LaI : Nat → FI) (LaV : Nat → FV) (LsI : Nat → FI) (LsV : Nat → FV) (I : FI) (V : FV) : Prop :=
  ∃ P : Nat, P ≤ 6 ∧ I 4 = nI P ∧ (∃ L, okT P L ∧ tM P L I V ∧ tL P L (SI 1) (SV 1)) ∧ rTxt (SI 0) (SV 0) I V ∧ rAct P (SI 2) LaI LaV I V ∧ rSlt P (SV 3) LsI LsV V ∧ rDay (SI 4) (SV 4) I V ∧ SV 5 0 0 = 0 ∧ SV 5 1 0 = 0
/-- what the relation reads of the reference -/
def agI (I I' : FI) : Prop := I' 2 = I 2 ∧ I' 4 = I 4 ∧ I' 9 = I 9 ∧ I' 14 = I 14 ∧ I' 24 = I 24 ∧ I' 27 = I 27
def agV (V V' : FV) : Prop := V' 1 = V 1 ∧ V' 5 = V 5 ∧ V' 6 = V 6 ∧ V' 7 = V 7 ∧ V' 8 = V 8 ∧ V' 10 = V 10 ∧ V' 11 = V 11 ∧ V' 12 = V 12 ∧ V' 13 = V 13 ∧ V' 23 = V 23 ∧ V' 25 = V 25 ∧ V' 26 = V 26 ∧ V' 28 = V 28 ∧ V' 29 = V 29 ∧ V' 30 = V 30
theorem Rel_ag {SI : Nat → FI} {SV : Nat → FV} {LaI : Nat → FI} {LaV : Nat → FV} {LsI : Nat → FI} {LsV : Nat → FV} {I I' : FI} {V V' : FV} (h : Rel SI SV LaI LaV LsI LsV I V) (hI : agI I I') (hV : agV V V') : Rel SI SV LaI LaV LsI LsV I' V' := by
  obtain ⟨i2, i4, i9, i14, i24, i27⟩ := hI
  obtain ⟨v1, v5, v6, v7, v8, v10, v11, v12, v13, v23, v25, v26, v28, v29, v30⟩ := hV
  unfold Rel rTxt rAct rSlt rDay tM at *
  rw [i2, i4, i9, i14, i24, i27, v1, v5, v6, v7, v8, v10, v11, v12, v13, v23, v25, v26, v28, v29, v30]
  exact h
theorem agV_rf (V : FV) : agV V V := ⟨rfl, rfl, rfl, rfl, rfl, rfl, rfl, rfl, rfl, rfl, rfl, rfl, rfl, rfl, rfl⟩
theorem agI_0 (I : FI) (x : Int32) : agI I (va_up I 0 x) := ⟨rfl, rfl, rfl, rfl, rfl, rfl⟩
theorem R0 : Rel SI0 (fun _ _ _ => 0) (fun _ _ => 0) (fun _ _ _ => 0) (fun _ _ => 0) (fun _ _ _ => 0) (fun _ => 0) (fun _ _ => 0) := by
  refine ⟨0, by omega, rfl, ⟨fun _ _ => 0, ⟨Nat.zero_le _, Nat.zero_le _, fun p h => absurd h (Nat.not_lt_zero _), fun j h => absurd h (Nat.not_lt_zero _)⟩, ⟨rfl, rfl, fun p h => absurd h (Nat.not_lt_zero _), fun j h => absurd h (Nat.not_lt_zero _)⟩, ⟨rfl, rfl, rfl, rfl, rfl, fun p h => absurd h (Nat.not_lt_zero _), fun j h => absurd h (Nat.not_lt_zero _)⟩⟩, ⟨0, by omega, rfl, rfl, fun i h => absurd h (Nat.not_lt_zero _)⟩, ⟨0, 0, by omega, by omega, rfl, rfl, rfl, fun j h => absurd h (Nat.not_lt_zero _)⟩, fun s _ => ⟨0, by omega, rfl, rfl, fun h => by omega⟩, ⟨0, by omega, rfl, rfl, fun j h => absurd h (Nat.not_lt_zero _)⟩, rfl, rfl⟩
/-! ===== small things ===== -/
theorem nI_inj {a b : Nat} (ha : a < 2 ^ 31) (hb : b < 2 ^ 31) (h : nI a = nI b) : a = b := (nI_eq ha hb).mp h
theorem wide_le (a b : Int32) : a.toInt64 ≤ b.toInt64 ↔ a ≤ b := by
  rw [Int64.le_iff_toInt_le, Int32.le_iff_toInt_le, Int32.toInt_toInt64, Int32.toInt_toInt64]
theorem lg_neg (x a : Int64) : lg_cmp x a < 0 ↔ x < a := by
  unfold lg_cmp
  by_cases h1 : x > a
  · rw [if_pos h1]
    constructor
    · intro h; exact absurd h (by decide)
    · intro h
      have q1 := Int64.lt_iff_toInt_lt.mp h
      have q2 := Int64.lt_iff_toInt_lt.mp h1
      omega
  · rw [if_neg h1]
    by_cases h2 : x = a
    · rw [if_pos h2]
      constructor
      · intro h; exact absurd h (by decide)
      · intro h
        have q1 := Int64.lt_iff_toInt_lt.mp h
        rw [h2] at q1
        omega
    · rw [if_neg h2]
      constructor
      · intro _
        have q1 : ¬ a.toInt < x.toInt := fun q => h1 (Int64.lt_iff_toInt_lt.mpr q)
        have q2 : x.toInt ≠ a.toInt := fun q => h2 (Int64.toInt_inj.mp q)
        exact Int64.lt_iff_toInt_lt.mpr (by omega)
      · intro _; decide
theorem lg_pos (x a : Int64) : 0 < lg_cmp x a ↔ a < x := by
  unfold lg_cmp
  by_cases h1 : x > a
  · rw [if_pos h1]
    exact ⟨fun _ => h1, fun _ => by decide⟩
  · rw [if_neg h1]
    by_cases h2 : x = a
    · rw [if_pos h2]
      exact ⟨fun h => absurd h (by decide), fun h => absurd h h1⟩
    · rw [if_neg h2]
      exact ⟨fun h => absurd h (by decide), fun h => absurd h h1⟩
theorem in_eq (f : Nat) (x a b : Int64) : M_in f x a b = some (if a ≤ x ∧ x ≤ b then 1 else 0) := by
  unfold M_in
  by_cases h1 : x < a
  · rw [if_pos ((lg_neg x a).mpr h1), if_neg]
    intro h
    have q1 := Int64.lt_iff_toInt_lt.mp h1
    have q2 := Int64.le_iff_toInt_le.mp h.1
    omega
  · rw [if_neg (fun h => h1 ((lg_neg x a).mp h))]
    have q1 : ¬ x.toInt < a.toInt := fun q => h1 (Int64.lt_iff_toInt_lt.mpr q)
    by_cases h2 : b < x
    · rw [if_pos ((lg_pos x b).mpr h2), if_neg]
      intro h
      have q2 := Int64.lt_iff_toInt_lt.mp h2
      have q3 := Int64.le_iff_toInt_le.mp h.2
      omega
    · rw [if_neg (fun h => h2 ((lg_pos x b).mp h)), if_pos]
      have q2 : ¬ b.toInt < x.toInt := fun q => h2 (Int64.lt_iff_toInt_lt.mpr q)
      exact ⟨Int64.le_iff_toInt_le.mpr (by omega), Int64.le_iff_toInt_le.mpr (by omega)⟩
/-- a number among the first P -/
theorem noOne_eq (f : Nat) (x : Int32) {I : FI} (V : FV) {P : Nat} (hP : P ≤ 6) (h : I 4 = nI P) : M_noOne f x I V = some (if x < 0 ∨ nI P ≤ x then 1 else 0) := by
  unfold M_noOne
  rw [in_eq]
  show (if (if (0 : Int64) ≤ x.toInt64 ∧ x.toInt64 ≤ (I 4 - 1).toInt64 then (1 : Int32) else 0) = 0 then some (1 : Int32) else some 0) = _
  rw [h]
  have e : (nI P - 1).toInt = (P : Int) - 1 := pk_sub_toInt (a := P) (b := 1) (by omega) (by decide)
  have eP : (nI P).toInt = (P : Int) := nI_toInt (by omega)
  have k1 : ((0 : Int64) ≤ x.toInt64) ↔ 0 ≤ x.toInt := by rw [Int64.le_iff_toInt_le, Int32.toInt_toInt64]; exact Iff.rfl
  have k2 : (x.toInt64 ≤ (nI P - 1).toInt64) ↔ x.toInt ≤ (P : Int) - 1 := by rw [wide_le, Int32.le_iff_toInt_le, e]
  have k3 : (x < 0) ↔ x.toInt < 0 := by rw [Int32.lt_iff_toInt_lt]; exact Iff.rfl
  have k4 : (nI P ≤ x) ↔ (P : Int) ≤ x.toInt := by rw [Int32.le_iff_toInt_le, eP]
  by_cases c : x < 0 ∨ nI P ≤ x
  · rw [if_pos c]
    have : ¬ ((0 : Int64) ≤ x.toInt64 ∧ x.toInt64 ≤ (nI P - 1).toInt64) := by
      rw [k1, k2]
      rw [k3, k4] at c
      omega
    rw [if_neg this, if_pos rfl]
  · rw [if_neg c]
    have : ((0 : Int64) ≤ x.toInt64 ∧ x.toInt64 ≤ (nI P - 1).toInt64) := by
      rw [k1, k2]
      rw [k3, k4] at c
      omega
    rw [if_pos this, if_neg (by decide)]
/-- then it is one of them -/
theorem one_of {x : Int32} {P : Nat} (hP : P < 2 ^ 31) (c : ¬ (x < 0 ∨ nI P ≤ x)) : ∃ p : Nat, p < P ∧ x = nI p := by
  rcases pk_ix x hP with h | h | h
  · exact absurd (Or.inl h) c
  · exact absurd (Or.inr h) c
  · exact h
theorem has_eq (f : Nat) (x : Int32) {I : FI} (V : FV) {P : Nat} (hP : P ≤ 6) (h : I 0 = nI P) : Led_has f x I V = some (if x < 0 ∨ nI P ≤ x then 0 else 1) := by
  unfold Led_has
  rw [h]
  have eP : (nI P).toInt = (P : Int) := nI_toInt (by omega)
  by_cases c : x < 0 ∨ nI P ≤ x
  · rw [if_pos c]
    rcases c with c | c
    · rw [if_pos c]
    · by_cases c0 : x < 0
      · rw [if_pos c0]
      · rw [if_neg c0, if_pos c]
  · rw [if_neg c, if_neg (fun q => c (Or.inl q)), if_neg (fun q => c (Or.inr q))]
    obtain ⟨p, hp, rfl⟩ := one_of (by omega) c
    rw [if_neg]
    rw [Int32.le_iff_toInt_le, nI_toInt (by omega)]
    show ¬ (6 : Int) ≤ p
    omega
