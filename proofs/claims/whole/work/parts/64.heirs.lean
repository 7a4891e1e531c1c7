def bc (h : Nat) : Nat → Nat
  | 0 => 0
  | n + 1 => bc h n + (if h.testBit n then 1 else 0)
theorem bc_mono (h : Nat) : ∀ {k n : Nat}, k ≤ n → bc h k ≤ bc h n := by
  intro k n
  induction n with
  | zero => intro e; rw [show k = 0 by omega]; exact Nat.le_refl _
  | succ n ih =>
    intro e
    by_cases c : k = n + 1
    · rw [c]; exact Nat.le_refl _
    · have := ih (by omega)
      rw [bc]
      omega
theorem bc_le (h : Nat) : ∀ n, bc h n ≤ n
  | 0 => Nat.le_refl _
  | n + 1 => by have := bc_le h n; rw [bc]; split <;> omega
theorem bc_P {h P : Nat} (hh : h < 2 ^ P) : ∀ n, P ≤ n → bc h n = bc h P := by
  intro n
  induction n with
  | zero => intro e; rw [show P = 0 by omega]
  | succ n ih =>
    intro e
    by_cases c : P = n + 1
    · rw [c]
    · rw [bc, ih (by omega), Nat.testBit_lt_two_pow (Nat.lt_of_lt_of_le hh (Nat.pow_le_pow_right (by decide) (by omega)))]
      simp
theorem bitc : ∀ h, h < 64 → Jint_bitCount_0f7a4 0 (nI h) = some (nI (bc h 6)) := by decide +kernel
theorem bitc_f (f : Nat) {h : Nat} (hh : h < 64) : Jint_bitCount_0f7a4 f (nI h) = some (nI (bc h 6)) := bitc h hh
theorem split_m (x m : Int32) : x = (x &&& m) ||| (x &&& (m ^^^ (-1))) := by
  apply Int32.toBitVec_inj.mp
  show x.toBitVec = (x.toBitVec &&& m.toBitVec) ||| (x.toBitVec &&& (m.toBitVec ^^^ (-1 : Int32).toBitVec))
  have e : (-1 : Int32).toBitVec = BitVec.allOnes 32 := by decide
  rw [e]
  apply BitVec.eq_of_getLsbD_eq
  intro i hi
  rw [BitVec.getLsbD_or, BitVec.getLsbD_and, BitVec.getLsbD_and, BitVec.getLsbD_xor, BitVec.getLsbD_allOnes, decide_eq_true hi]
  cases x.toBitVec.getLsbD i <;> cases m.toBitVec.getLsbD i <;> rfl
theorem m_bv : ∀ P, P < 7 → (nI (2 ^ P - 1)).toBitVec.toNat = 2 ^ P - 1 := by decide
theorem set_iff {P : Nat} (hP : P ≤ 6) (x : Int32) : (x &&& (nI (2 ^ P - 1) ^^^ (-1))) = 0 ↔ ∃ h, h < 2 ^ P ∧ x = nI h := by
  constructor
  · intro q
    refine ⟨x.toBitVec.toNat % 2 ^ P, Nat.mod_lt _ (Nat.two_pow_pos P), ?_⟩
    have e := split_m x (nI (2 ^ P - 1))
    rw [q, Int32.or_zero, pk_and x P (m_bv P (by omega))] at e
    exact e
  · rintro ⟨h, h1, rfl⟩
    have h2 : (2 : Nat) ^ P ≤ 2 ^ 6 := Nat.pow_le_pow_right (by decide) hP
    rw [andn h (by omega) _ (by omega)]
    have : h &&& (63 ^^^ (2 ^ P - 1)) = 0 := by
      apply Nat.eq_of_testBit_eq
      intro i
      rw [Nat.testBit_and, Nat.testBit_xor, show (63 : Nat) = 2 ^ 6 - 1 from rfl, Nat.testBit_two_pow_sub_one, Nat.testBit_two_pow_sub_one, Nat.zero_testBit]
      by_cases e : i < P
      · simp [e, show i < 6 by omega]
      · rw [Nat.testBit_lt_two_pow (Nat.lt_of_lt_of_le h1 (Nat.pow_le_pow_right (by decide) (by omega)))]
        rfl
    rw [this]
    rfl
theorem areAll_eq (f : Nat) (x : Int32) {I : FI} (V : FV) {P : Nat} (hP : P ≤ 6) (l0 : I 0 = nI P) : Led_areAllPeople f x I V = if (x &&& (nI (2 ^ P - 1) ^^^ (-1))) = 0 then some 1 else some 0 := by
  unfold Led_areAllPeople
  rw [all_eq f V hP l0, ob1_s]
theorem rng_h {P : Nat} (hP : P ≤ 6) (x : Int32) : ((1 : Int32) ≤ x ∧ x ≤ nI (2 ^ P - 1)) ↔ ∃ h, 1 ≤ h ∧ h < 2 ^ P ∧ x = nI h := by
  have h2 : (2 : Nat) ^ P ≤ 2 ^ 6 := Nat.pow_le_pow_right (by decide) hP
  have h3 := Nat.two_pow_pos P
  rw [rng1 (by omega)]
  constructor
  · rintro ⟨r, r1, r2, r3⟩; exact ⟨r, r1, by omega, r3⟩
  · rintro ⟨r, r1, r2, r3⟩; exact ⟨r, r1, by omega, r3⟩
/-- the least one of a set -/
theorem least_ex {h P : Nat} (h1 : 1 ≤ h) (h2 : h < 2 ^ P) : ∃ y, y < P ∧ h.testBit y = true ∧ ∀ z, z < y → h.testBit z = false := by
  have key : ∀ n, (∃ y, y < n ∧ h.testBit y = true ∧ ∀ z, z < y → h.testBit z = false) ∨ ∀ z, z < n → h.testBit z = false := by
    intro n
    induction n with
    | zero => exact Or.inr (fun z hz => absurd hz (Nat.not_lt_zero _))
    | succ n ih =>
      rcases ih with ⟨y, a, b, c⟩ | ih
      · exact Or.inl ⟨y, by omega, b, c⟩
      · by_cases e : h.testBit n = true
        · exact Or.inl ⟨n, by omega, e, ih⟩
        · refine Or.inr (fun z hz => ?_)
          by_cases ez : z = n
          · subst ez; simpa using e
          · exact ih z (by omega)
  rcases key P with q | q
  · exact q
  · exfalso
    have : h = 0 := by
      apply Nat.eq_of_testBit_eq
      intro i
      rw [Nat.zero_testBit]
      by_cases e : i < P
      · exact q i e
      · exact Nat.testBit_lt_two_pow (Nat.lt_of_lt_of_le h2 (Nat.pow_le_pow_right (by decide) (by omega)))
    omega
theorem least2 (f : Nat) {I : FI} {P h y : Nat} (hP : P ≤ 6) (l0 : I 0 = nI P) (hh : h < 64) (hy : y < P) (hb : h.testBit y = true) (hz : ∀ z, z < y → h.testBit z = false) (k : Unit → Option Int32) : ∀ n i, i ≤ y → y - i < n → Led_leastOf_L2 f I (nI h) k n (nI i) = some (nI y) := by
  intro n
  induction n with
  | zero => intro i h1 h2; omega
  | succ n ih =>
    intro i h1 h2
    rw [Led_leastOf_L2, l0, if_neg (nI_ge (by omega) (by omega)), isIn_eq f hh (by omega), ob1_s]
    by_cases e : i = y
    · subst e
      rw [if_pos hb, if_neg (by decide)]
    · rw [hz i (by omega), if_pos (by decide), nI_1]
      exact ih (i + 1) (by omega) (by omega)
/-- heirs counted from the last -/
theorem heirs66 {ρ : Type} (f : Nat) {V : FV} {P h : Nat} {d : Nat → Nat} (hP : P ≤ 6) (hh : h < 64) (hV : ∀ p, p < P → d p ≤ 1 ∧ V 7 p = nI (d p)) (k : Int32 → Int32 → Int32 → Option ρ) (b0 : Nat) : ∀ n i : Nat, ∀ (x4 : Int32) (b : Nat), i ≤ P → i < n → b ≤ 1 → ((∃ y, i ≤ y ∧ y < P ∧ h.testBit y = true ∧ (∀ z, i ≤ z → z < y → h.testBit z = false) ∧ x4 = nI y) ∨ (∀ z, i ≤ z → z < P → h.testBit z = false)) → (b = 0 ↔ b0 = 0 ∧ ∀ z, i ≤ z → z < P → h.testBit z = true → d z = 0) → ∃ (x4' : Int32) (b' : Nat), M_heirs_L66 f (nI h) V k n (nI (bc h P - bc h i)) x4 (nI b) (nI i - 1) = k (nI (bc h P)) x4' (nI b') ∧ b' ≤ 1 ∧ ((∃ y, y < P ∧ h.testBit y = true ∧ (∀ z, z < y → h.testBit z = false) ∧ x4' = nI y) ∨ (∀ z, z < P → h.testBit z = false)) ∧ (b' = 0 ↔ b0 = 0 ∧ ∀ z, z < P → h.testBit z = true → d z = 0) := by
  intro n
  induction n with
  | zero => intro i x4 b h1 h2; omega
  | succ n ih =>
    intro i x4 b h1 h2 h3 h4 h5
    rw [M_heirs_L66]
    rcases i with _ | i
    · refine ⟨x4, b, ?_, h3, ?_, ?_⟩
      · rw [if_pos (by decide)]
        rfl
      · rcases h4 with ⟨y, y1, y2, y3, y4, y5⟩ | h4
        · exact Or.inl ⟨y, y2, y3, fun z hz => y4 z (Nat.zero_le _) hz, y5⟩
        · exact Or.inr (fun z hz => h4 z (Nat.zero_le _) hz)
      · rw [h5]
        exact ⟨fun q => ⟨q.1, fun z hz => q.2 z (Nat.zero_le _) hz⟩, fun q => ⟨q.1, fun z _ hz => q.2 z hz⟩⟩
    · have hi : i < P := by omega
      obtain ⟨v1, v2⟩ := hV i hi
      rw [nI_pred, if_neg (nI_pos (by omega)), mhas_eq f hh (by omega), ob1_s]
      simp only [nm, gd_nI (show i < 6 by omega) (show 6 < 2 ^ 31 by decide)]
      simp only [cl_nI (show i < 2 ^ 31 by omega), v2]
      have hbm := bc_mono h (k := i + 1) (n := P) (by omega)
      have eb : (nI b = 0) ↔ b = 0 := by rw [← nI_0]; exact nI_eq (by omega) (by omega)
      have ed : (nI (d i) = 0) ↔ d i = 0 := by rw [← nI_0]; exact nI_eq (by omega) (by omega)
      by_cases c : h.testBit i = true
      · rw [if_pos c, if_neg (by decide)]
        obtain ⟨b2, hb2⟩ : ∃ b2, b2 = (if b = 0 ∧ d i = 0 then 0 else 1) := ⟨_, rfl⟩
        have hb3 : b2 ≤ 1 := by rw [hb2]; split <;> omega
        have hb4 : b2 = 0 ↔ b = 0 ∧ d i = 0 := by rw [hb2]; split <;> simp_all
        obtain ⟨x', b', q1, q2, q3, q4⟩ := ih i (nI i) b2 (by omega) (by omega) hb3 (Or.inl ⟨i, Nat.le_refl _, hi, c, fun z z1 z2 => by omega, rfl⟩) (by
          rw [hb4, h5]
          constructor
          · rintro ⟨⟨r1, r2⟩, r3⟩
            refine ⟨r1, fun z z1 z2 z3 => ?_⟩
            by_cases ez : z = i
            · rw [ez]; exact r3
            · exact r2 z (by omega) z2 z3
          · rintro ⟨r1, r2⟩
            exact ⟨⟨r1, fun z z1 z2 z3 => r2 z (by omega) z2 z3⟩, r2 i (Nat.le_refl _) hi c⟩)
        refine ⟨x', b', ?_, q2, q3, q4⟩
        have hbc : bc h (i + 1) = bc h i + 1 := by rw [bc, if_pos c]
        rw [Int32.sub_eq_add_neg, show bc h P - bc h i = bc h P - bc h (i + 1) + 1 by omega, ← nI_1] at q1
        by_cases c1 : b = 0
        · rw [if_pos (eb.mpr c1)]
          by_cases c2 : d i = 0
          · rw [if_pos (ed.mpr c2)]
            rw [hb2, if_pos ⟨c1, c2⟩] at q1
            exact q1
          · rw [if_neg (fun q => c2 (ed.mp q))]
            rw [hb2, if_neg (fun q => c2 q.2)] at q1
            exact q1
        · rw [if_neg (fun q => c1 (eb.mp q))]
          rw [hb2, if_neg (fun q => c1 q.1)] at q1
          exact q1
      · have c' : h.testBit i = false := by simpa using c
        rw [if_neg c, if_pos rfl]
        have hbc : bc h (i + 1) = bc h i := by rw [bc, if_neg c]; rfl
        obtain ⟨x', b', q1, q2, q3, q4⟩ := ih i x4 b (by omega) (by omega) h3 (by
          rcases h4 with ⟨y, y1, y2, y3, y4, y5⟩ | h4
          · refine Or.inl ⟨y, by omega, y2, y3, fun z z1 z2 => ?_, y5⟩
            by_cases ez : z = i
            · rw [ez]; exact c'
            · exact y4 z (by omega) z2
          · refine Or.inr (fun z z1 z2 => ?_)
            by_cases ez : z = i
            · rw [ez]; exact c'
            · exact h4 z (by omega) z2) (by
          rw [h5]
          constructor
          · rintro ⟨r1, r2⟩
            refine ⟨r1, fun z z1 z2 z3 => ?_⟩
            by_cases ez : z = i
            · subst ez; exact absurd z3 c
            · exact r2 z (by omega) z2 z3
          · rintro ⟨r1, r2⟩
            exact ⟨r1, fun z z1 z2 z3 => r2 z (by omega) z2 z3⟩)
        refine ⟨x', b', ?_, q2, q3, q4⟩
        rw [hbc]
        rw [Int32.sub_eq_add_neg] at q1
        exact q1
theorem passOn41 {ρ : Type} (f : Nat) {I : FI} {P h y s r : Nat} (hP : P ≤ 6) (l0 : I 0 = nI P) (hh : h < 64) (hy : y < P) (V : FV) (m : Nat → Nat) (k : FV → Option ρ) : ∀ (n i : Nat) (g : Nat → Int32), i ≤ P → P - i < n → (∀ p, p < i → g p = nI (m p + (if h.testBit p then s + (if p = y then r else 0) else 0))) → (∀ p, i ≤ p → p < P → g p = nI (m p)) → ∃ g', Led_passOn_L41 f I (nI h) (nI y) (nI s) (nI r) k n (nI i) (va_up V 5 g) = k (va_up V 5 g') ∧ ∀ p, p < P → g' p = nI (m p + (if h.testBit p then s + (if p = y then r else 0) else 0)) := by
  intro n
  induction n with
  | zero => intro i g h1 h2; omega
  | succ n ih =>
    intro i g h1 h2 h3 h4
    rw [Led_passOn_L41, l0]
    by_cases e : i = P
    · subst e
      exact ⟨g, if_pos (nI_le (Nat.le_refl _) (by omega)), h3⟩
    · have hi : i < P := by omega
      rw [if_neg (nI_ge hi (by omega)), isIn_eq f hh (by omega), ob1_s]
      simp only [nm, gd_nI (show i < 6 by omega) (show 6 < 2 ^ 31 by decide)]
      simp only [cl_nI (show i < 2 ^ 31 by omega), va_up_self, h4 i (Nat.le_refl _) hi, bx_uu, nI_1, nI_eq (show i < 2 ^ 31 by omega) (show y < 2 ^ 31 by omega), nI_add]
      by_cases c : h.testBit i = true
      · obtain ⟨g', q1, q2⟩ := ih (i + 1) (upd g i (nI (m i + (s + (if i = y then r else 0))))) (by omega) (by omega) (fun p hp => by
          by_cases ep : p = i
          · subst ep; rw [upd_s, if_pos c]
          · rw [upd_n _ _ ep]; exact h3 p (by omega)) (fun p hp1 hp2 => by rw [upd_n _ _ (show p ≠ i by omega)]; exact h4 p (by omega) hp2)
        refine ⟨g', ?_, q2⟩
        rw [← q1, if_pos c, if_neg (by decide)]
        by_cases cy : i = y
        · rw [if_pos cy, if_pos cy]
        · rw [if_neg cy, if_neg cy]
          rfl
      · obtain ⟨g', q1, q2⟩ := ih (i + 1) g (by omega) (by omega) (fun p hp => by
          by_cases ep : p = i
          · subst ep; rw [if_neg c, Nat.add_zero]; exact h4 p (by omega) hi
          · exact h3 p (by omega)) (fun p hp1 hp2 => h4 p (by omega) hp2)
        refine ⟨g', ?_, q2⟩
        rw [← q1, if_neg c, if_pos rfl]
theorem heirs158 {ρ : Type} (f : Nat) {I : FI} {P h s : Nat} (hP : P ≤ 6) (i4 : I 4 = nI P) (hh : h < 64) (V : FV) (m : Nat → Nat) (k : FV → Option ρ) : ∀ (n i : Nat) (g : Nat → Int32), i ≤ P → P - i < n → (∀ p, p < i → g p = nI (m p + (if h.testBit p then s else 0))) → (∀ p, i ≤ p → p < P → g p = nI (m p)) → ∃ g', M_heirs_L158 f I (nI h) (nI s) k n (nI i) (va_up V 5 g) = k (va_up V 5 g') ∧ ∀ p, p < P → g' p = nI (m p + (if h.testBit p then s else 0)) := by
  intro n
  induction n with
  | zero => intro i g h1 h2; omega
  | succ n ih =>
    intro i g h1 h2 h3 h4
    rw [M_heirs_L158, i4]
    by_cases e : i = P
    · subst e
      exact ⟨g, if_pos (nI_le (Nat.le_refl _) (by omega)), h3⟩
    · have hi : i < P := by omega
      rw [if_neg (nI_ge hi (by omega)), mhas_eq f hh (by omega), ob1_s]
      simp only [nm, gd_nI (show i < 6 by omega) (show 6 < 2 ^ 31 by decide)]
      simp only [cl_nI (show i < 2 ^ 31 by omega), va_up_self, h4 i (Nat.le_refl _) hi, bx_uu, nI_1]
      obtain ⟨g', q1, q2⟩ := ih (i + 1) (upd g i (nI (m i + (if h.testBit i then s else 0)))) (by omega) (by omega) (fun p hp => by
        by_cases ep : p = i
        · subst ep; rw [upd_s]
        · rw [upd_n _ _ ep]; exact h3 p (by omega)) (fun p hp1 hp2 => by rw [upd_n _ _ (show p ≠ i by omega)]; exact h4 p (by omega) hp2)
      refine ⟨g', ?_, q2⟩
      rw [← q1]
      by_cases c : h.testBit i = true
      · rw [if_pos c, if_pos c, if_neg (by decide), nI_add]
      · rw [if_neg c, if_neg c, if_pos rfl, Int32.add_zero]
        rfl
