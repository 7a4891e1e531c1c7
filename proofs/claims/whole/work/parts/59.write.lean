theorem sh64 : ∀ k, k < 8 → (((8 * nI k).toInt64 &&& 63).toBitVec.smod 64).toNat = 8 * k := by decide +kernel
theorem sh64u : ∀ k, k < 8 → (((8 * nI k).toInt64.toUInt64 &&& Int64.toUInt64 63).toBitVec % 64).toNat = 8 * k := by decide +kernel
theorem byteM (x : Int64) {k : Nat} (hk : k < 8) : ((x >>> ((8 * nI k).toInt64 &&& 63)).toInt32) &&& 255 = nI (x.toBitVec.toNat / 2 ^ (8 * k) % 256) := by
  rw [pk_and _ 8 (by decide)]
  congr 1
  rw [Int64.toBitVec_toInt32, Int64.toBitVec_shiftRight, BitVec.sshiftRight_eq', sh64 k hk, BitVec.signExtend_eq_setWidth_of_le _ (by decide)]
  apply Nat.eq_of_testBit_eq
  intro i
  rw [show (256 : Nat) = 2 ^ 8 from rfl, Nat.testBit_mod_two_pow, Nat.testBit_mod_two_pow, ← Nat.shiftRight_eq_div_pow, Nat.testBit_shiftRight]
  by_cases hi : i < 8
  · rw [BitVec.testBit_toNat, BitVec.testBit_toNat, BitVec.getLsbD_setWidth, BitVec.getLsbD_sshiftRight]
    simp [hi, show i < 32 by omega, show ¬ 64 ≤ i by omega, show 8 * k + i < 64 by omega]
  · simp [hi]
theorem byteX (x : Int64) {k : Nat} (hk : k < 8) : vp_nar .byte ((((x.toUInt64 >>> ((8 * nI k).toInt64.toUInt64 &&& Int64.toUInt64 63)).toInt64).toInt32).toInt8.toInt32) = (nI (x.toBitVec.toNat / 2 ^ (8 * k) % 256)).toInt8.toInt32 := by
  rw [pk_vb]
  congr 1
  apply Int8.toBitVec_inj.mp
  rw [Int32.toBitVec_toInt8, Int32.toBitVec_toInt8, Int64.toBitVec_toInt32]
  rw [BitVec.signExtend_eq_setWidth_of_le _ (by decide), BitVec.signExtend_eq_setWidth_of_le _ (by decide), BitVec.signExtend_eq_setWidth_of_le _ (by decide)]
  show BitVec.setWidth 8 (BitVec.setWidth 32 ((x.toUInt64 >>> _).toBitVec)) = _
  rw [UInt64.toBitVec_shiftRight]
  apply BitVec.eq_of_toNat_eq
  apply Nat.eq_of_testBit_eq
  intro i
  rw [BitVec.toNat_setWidth, BitVec.toNat_setWidth, BitVec.toNat_setWidth, pk_tn (by omega), Nat.testBit_mod_two_pow, Nat.testBit_mod_two_pow, Nat.testBit_mod_two_pow, show (256 : Nat) = 2 ^ 8 from rfl, Nat.testBit_mod_two_pow, ← Nat.shiftRight_eq_div_pow, Nat.testBit_shiftRight]
  rw [show (x.toUInt64.toBitVec >>> (((8 * nI k).toInt64.toUInt64 &&& Int64.toUInt64 63).toBitVec % 64)) = x.toUInt64.toBitVec >>> (8 * k) from by rw [BitVec.ushiftRight_eq', sh64u k hk], BitVec.toNat_ushiftRight, Nat.testBit_shiftRight]
  by_cases hi : i < 8
  · simp [hi, show i < 32 by omega]
  · simp [hi]
theorem write39 {ρ : Type} (f : Nat) (x : Int64) (I : FI) (V : FV) (k : FI → FV → Option ρ) : ∀ (n m t : Nat) (g : Nat → Int32), m ≤ 8 → t + m ≤ 80 → m < n → ∃ g', M_write_L39 f x k n (nI m - 1) (va_up I 2 (nI t)) (va_up V 1 g) = k (va_up I 2 (nI (t + m))) (va_up V 1 g') ∧ (∀ i, i < t → g' i = g i) ∧ ∀ i, i < m → g' (t + i) = nI (x.toBitVec.toNat / 2 ^ (8 * (m - 1 - i)) % 256) := by
  intro n
  induction n with
  | zero => intro m t g h1 h2 h3; omega
  | succ n ih =>
    intro m t g h1 h2 h3
    rw [M_write_L39]
    rcases m with _ | m
    · exact ⟨g, if_pos (by decide), fun _ _ => rfl, fun i hi => absurd hi (Nat.not_lt_zero _)⟩
    · obtain ⟨g', q1, q2, q3⟩ := ih m (t + 1) (upd g t (nI (x.toBitVec.toNat / 2 ^ (8 * m) % 256))) (by omega) (by omega) (by omega)
      refine ⟨g', ?_, fun i hi => ?_, fun i hi => ?_⟩
      · rw [nI_pred, if_neg (nI_pos (by omega)), va_up_self, gd_nI (by omega) (by decide), cl_nI (by omega), va_up_self, byteM x (by omega)]
        simp only [nm, bx_uu, nI_1]
        rw [show t + (m + 1) = t + 1 + m by omega]
        rw [Int32.sub_eq_add_neg] at q1
        exact q1
      · rw [q2 i (by omega), upd_n _ _ (by omega)]
      · by_cases e : i = 0
        · subst e
          rw [Nat.add_zero, q2 t (by omega), upd_s]
          rfl
        · have := q3 (i - 1) (by omega)
          rw [show t + 1 + (i - 1) = t + i by omega, show m - 1 - (i - 1) = m + 1 - 1 - i by omega] at this
          exact this
theorem append18 {ρ : Type} (f : Nat) (x : Int64) (I : FI) (V : FV) (k : FI → FV → Option ρ) : ∀ (n m t : Nat) (g : Nat → Int32), m ≤ 8 → t + m ≤ 80 → m < n → ∃ g', Txt_append_L18 f x k n (nI m - 1) (va_up I 1 (nI t)) (va_up V 0 g) = k (va_up I 1 (nI (t + m))) (va_up V 0 g') ∧ (∀ i, i < t → g' i = g i) ∧ ∀ i, i < m → g' (t + i) = (nI (x.toBitVec.toNat / 2 ^ (8 * (m - 1 - i)) % 256)).toInt8.toInt32 := by
  intro n
  induction n with
  | zero => intro m t g h1 h2 h3; omega
  | succ n ih =>
    intro m t g h1 h2 h3
    rw [Txt_append_L18]
    rcases m with _ | m
    · exact ⟨g, if_pos (by decide), fun _ _ => rfl, fun i hi => absurd hi (Nat.not_lt_zero _)⟩
    · obtain ⟨g', q1, q2, q3⟩ := ih m (t + 1) (upd g t (nI (x.toBitVec.toNat / 2 ^ (8 * m) % 256)).toInt8.toInt32) (by omega) (by omega) (by omega)
      refine ⟨g', ?_, fun i hi => ?_, fun i hi => ?_⟩
      · rw [nI_pred, if_neg (nI_pos (by omega)), va_up_self, gd_nI (by omega) (by decide), cl_nI (by omega), va_up_self, byteX x (by omega)]
        simp only [nm, bx_uu, nI_1]
        rw [show t + (m + 1) = t + 1 + m by omega]
        rw [Int32.sub_eq_add_neg] at q1
        exact q1
      · rw [q2 i (by omega), upd_n _ _ (by omega)]
      · by_cases e : i = 0
        · subst e
          rw [Nat.add_zero, q2 t (by omega), upd_s]
          rfl
        · have := q3 (i - 1) (by omega)
          rw [show t + 1 + (i - 1) = t + i by omega, show m - 1 - (i - 1) = m + 1 - 1 - i by omega] at this
          exact this
/-- a number from 1 to m -/
theorem rng1 {x : Int32} {m : Nat} (hm : m < 2 ^ 30) : ((1 : Int32) ≤ x ∧ x ≤ nI m) ↔ ∃ r : Nat, 1 ≤ r ∧ r ≤ m ∧ x = nI r := by
  constructor
  · intro h
    have h1 := Int32.le_iff_toInt_le.mp h.1
    have e1 : (1 : Int32).toInt = 1 := rfl
    have e0 : (0 : Int32).toInt = 0 := rfl
    obtain ⟨r, hr, e⟩ := rng_of (x := x) (m := m) (by omega) ⟨Int32.le_iff_toInt_le.mpr (by omega), h.2⟩
    refine ⟨r, ?_, hr, e⟩
    rw [e, nI_toInt (by omega)] at h1
    omega
  · rintro ⟨r, h1, h2, rfl⟩
    exact ⟨(le_n (a := 1) (by omega) (by omega)).mpr h1, (le_n (by omega) (by omega)).mpr h2⟩
theorem lt1_iff (x : Int32) : x < 1 ↔ ¬ (1 : Int32) ≤ x := by
  rw [Int32.lt_iff_toInt_lt, Int32.le_iff_toInt_le]; omega
theorem nle_lt (x y : Int32) : x < y ↔ ¬ y ≤ x := by
  rw [Int32.lt_iff_toInt_lt, Int32.le_iff_toInt_le]; omega
theorem S_write {f : Nat} (hf : 100 ≤ f) : Sim_write Rel f := by
  intro SI SV LaI LaV LsI LsV I V a0 a1 h
  have h0 := h
  obtain ⟨P, hP, i4, hLL, ⟨t, ht, t1, t2, t3⟩, hA, hSl, hDa, z0, z1⟩ := h
  have hRel : Rel (va_up SI 0 (SI 0)) (va_up SV 0 (SV 0)) LaI LaV LsI LsV (va_up I 0 0) V := by rw [up_id, up_id]; exact Rel_ag h0 (agI_0 I 0) (agV_rf V)
  have hin : M_in f a0.toInt64 1 8 = some (if (1 : Int32) ≤ a0 ∧ a0 ≤ nI 8 then 1 else 0) := in_c f a0 1 8
  by_cases c : (1 : Int32) ≤ a0 ∧ a0 ≤ nI 8
  · have hx : X_write f a0 a1 (SI 99) (SV 99) (SI 0) (SV 0) = ob3 (Txt_append f a0 a1 (SI 0) (SV 0)) (fun zr1 I2 V3 => (if zr1 = 0 then some ((-4), I2, V3) else some ((I2 1), I2, V3))) := by
      unfold X_write
      rw [if_neg (fun q => (lt1_iff a0).mp q c.1), if_pos (show a0 ≤ 8 from c.2)]
    have hm : M_write f a0 a1 I V = (if ((va_up I 0 0 2) + a0) ≤ 80 then (M_write_L39 f a1 (fun (Im_39 : FI) (Vm_39 : FV) => some ((Im_39 2), Im_39, Vm_39)) f (a0 - 1) (va_up I 0 0) V) else some ((-4), va_up I 0 0, V)) := by
      unfold M_write
      simp only [nm]
      rw [hin, if_pos c, ob1_s, if_neg (by decide)]
    rw [hx, hm]
    unfold Txt_append
    rw [t2, show va_up I 0 0 2 = nI t from t1]
    obtain ⟨r, r1, r2, rfl⟩ := (rng1 (m := 8) (by decide)).mp c
    rw [nI_add]
    by_cases c2 : t + r ≤ 80
    · have c3 : nI (t + r) ≤ 80 := (le_n (b := 80) (by omega) (by decide)).mpr c2
      obtain ⟨g1, q1, q2, q3⟩ := write39 f a1 (va_up I 0 0) V (fun (Im_39 : FI) (Vm_39 : FV) => some ((Im_39 2), Im_39, Vm_39)) f r t (V 1) (by omega) (by omega) (by omega)
      obtain ⟨g2, p1, p2, p3⟩ := append18 f a1 (SI 0) (SV 0) (fun (Itxt_18 : FI) (Vtxt_18 : FV) => some ((1 : Int32), Itxt_18, Vtxt_18)) f r t (SV 0 0) (by omega) (by omega) (by omega)
      have u1 : va_up (va_up I 0 0) 2 (nI t) = va_up I 0 0 := by rw [show nI t = va_up I 0 0 2 from t1.symm, up_id]
      have u2 : va_up (SI 0) 1 (nI t) = SI 0 := by rw [← t2, up_id]
      rw [u1, up_id] at q1
      rw [u2, up_id] at p1
      refine ⟨nI (t + r), va_up (SI 0) 1 (nI (t + r)), va_up (SV 0) 0 g2, va_up (va_up I 0 0) 2 (nI (t + r)), va_up V 1 g1, ?_, ?_, ?_⟩
      · rw [if_pos c3, p1, ob3_s, if_neg (by decide)]
        rfl
      · rw [if_pos c3, q1]
        rfl
      · refine ⟨P, hP, i4, hLL, ⟨t + r, c2, rfl, rfl, fun i hi => ?_⟩, hA, hSl, hDa, z0, z1⟩
        by_cases ci : i < t
        · obtain ⟨b, b1, b2, b3⟩ := t3 i ci
          exact ⟨b, b1, (q2 i ci).trans b2, (p2 i ci).trans b3⟩
        · obtain ⟨d, rfl⟩ : ∃ d, i = t + d := ⟨i - t, by omega⟩
          exact ⟨_, Nat.mod_lt _ (by decide), q3 d (by omega), p3 d (by omega)⟩
    · have c3 : ¬ nI (t + r) ≤ 80 := fun q => c2 ((le_n (b := 80) (by omega) (by decide)).mp q)
      refine ⟨-4, SI 0, SV 0, va_up I 0 0, V, ?_, ?_, hRel⟩
      · rw [if_neg c3]
        rfl
      · rw [if_neg c3]
  · refine ⟨-2, SI 0, SV 0, va_up I 0 0, V, ?_, ?_, hRel⟩
    · unfold X_write
      by_cases d : a0 < 1
      · rw [if_pos d]
      · rw [if_neg d, if_neg]
        intro q
        refine c ⟨?_, q⟩
        apply Decidable.byContradiction
        intro q2
        exact d ((lt1_iff a0).mpr q2)
    · unfold M_write
      simp only [nm]
      rw [hin, if_neg c]
      rfl
