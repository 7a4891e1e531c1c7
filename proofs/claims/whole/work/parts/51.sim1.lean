theorem S_wipe (f : Nat) : Sim_wipe Rel f := by
  intro SI SV LaI LaV LsI LsV I V h
  obtain ⟨P, hP, i4, hL, ⟨t, ht, e1, e2, e3⟩, hA, hSl, hDa, z0, z1⟩ := h
  refine ⟨SI 0 1, va_up (SI 0) 1 0, va_up (va_up I 0 0) 2 0, V, rfl, ?_, ?_⟩
  · show some (I 2, _, _) = _
    rw [e1, e2]
  · exact ⟨P, hP, i4, hL, ⟨0, by omega, rfl, rfl, fun i h => absurd h (Nat.not_lt_zero _)⟩, hA, hSl, hDa, z0, z1⟩
theorem S_forget (f : Nat) : Sim_forget Rel f := by
  intro SI SV LaI LaV LsI LsV I V h
  obtain ⟨P, hP, i4, hL, hT, hA, hSl, ⟨n, hn, e1, e2, e3⟩, z0, z1⟩ := h
  refine ⟨SI 4 3, va_up (SI 4) 3 0, va_up (va_up I 0 0) 27 0, V, rfl, ?_, ?_⟩
  · show some (I 27, _, _) = _
    rw [e1, e2]
  · exact ⟨P, hP, i4, hL, hT, hA, hSl, ⟨0, by omega, rfl, rfl, fun i h => absurd h (Nat.not_lt_zero _)⟩, z0, z1⟩
theorem cl_nI {n : Nat} (h : n < 2 ^ 31) : (nI n).toNatClampNeg = n := nI_clamp h
theorem gd_nI {α : Type} {n N : Nat} (h : n < N) (hN : N < 2 ^ 31) (x : Option α) : (if nI n < 0 ∨ N ≤ (nI n).toNatClampNeg then none else x) = x := if_neg (vp_in_nI h hN)
theorem nI_lt6 {p : Nat} (h : p < 6) : ¬ (6 : Int32) ≤ nI p := by
  rw [Int32.le_iff_toInt_le, nI_toInt (by omega)]
  show ¬ (6 : Int) ≤ p
  omega
theorem S_debt (f : Nat) : Sim_debt Rel f := by
  intro SI SV LaI LaV LsI LsV I V a0 a1 h
  have h0 := h
  obtain ⟨P, hP, i4, ⟨L, hok, ⟨m9, m14, mp, md⟩, ⟨l0, l1, l2, l3, l4, lp, ld⟩⟩, hT, hA, hSl, hDa, z0, z1⟩ := h
  have hd : L 0 0 ≤ 12 := hok.1
  have hRel : Rel SI SV LaI LaV LsI LsV (va_up I 0 0) V := Rel_ag h0 (agI_0 I 0) (agV_rf V)
  have eD : (nI (L 0 0) - 1).toInt = (L 0 0 : Int) - 1 := pk_sub_toInt (a := L 0 0) (b := 1) (by omega) (by decide)
  have eP : (nI (L 0 0)).toInt = (L 0 0 : Int) := nI_toInt (by omega)
  have k1 : ((0 : Int64) ≤ a0.toInt64) ↔ 0 ≤ a0.toInt := by rw [Int64.le_iff_toInt_le, Int32.toInt_toInt64]; exact Iff.rfl
  have k2 : (a0.toInt64 ≤ (nI (L 0 0) - 1).toInt64) ↔ a0.toInt ≤ (L 0 0 : Int) - 1 := by rw [wide_le, Int32.le_iff_toInt_le, eD]
  have k3 : (a0 < 0) ↔ a0.toInt < 0 := by rw [Int32.lt_iff_toInt_lt]; exact Iff.rfl
  have k4 : (nI (L 0 0) ≤ a0) ↔ (L 0 0 : Int) ≤ a0.toInt := by rw [Int32.le_iff_toInt_le, eP]
  have hM : ∀ r, (if a0 < 0 ∨ nI (L 0 0) ≤ a0 then some ((-1 : Int32), va_up I 0 0, V) else (if a1 = 0 then if a0 < 0 ∨ 12 ≤ a0.toNatClampNeg then none else some (V 10 a0.toNatClampNeg, va_up I 0 0, V) else (if a1 = 1 then if a0 < 0 ∨ 12 ≤ a0.toNatClampNeg then none else some (V 11 a0.toNatClampNeg, va_up I 0 0, V) else (if a1 = 2 then if a0 < 0 ∨ 12 ≤ a0.toNatClampNeg then none else some (V 12 a0.toNatClampNeg, va_up I 0 0, V) else (if a1 = 3 then if a0 < 0 ∨ 12 ≤ a0.toNatClampNeg then none else some (V 13 a0.toNatClampNeg, va_up I 0 0, V) else some ((-2 : Int32), va_up I 0 0, V)))))) = some r → M_debt f a0 a1 I V = some r := by
    intro r hr
    unfold M_debt
    show ob1 (M_in f a0.toInt64 0 ((I 9) - 1).toInt64) _ = _
    rw [in_eq, m9]
    by_cases c : a0 < 0 ∨ nI (L 0 0) ≤ a0
    · have c2 : ¬ ((0 : Int64) ≤ a0.toInt64 ∧ a0.toInt64 ≤ (nI (L 0 0) - 1).toInt64) := by rw [k1, k2]; rw [k3, k4] at c; omega
      rw [if_pos c] at hr
      rw [if_neg c2]
      exact hr
    · have c2 : (0 : Int64) ≤ a0.toInt64 ∧ a0.toInt64 ≤ (nI (L 0 0) - 1).toInt64 := by rw [k1, k2]; rw [k3, k4] at c; omega
      rw [if_neg c] at hr
      rw [if_pos c2]
      exact hr
  by_cases c : a0 < 0 ∨ nI (L 0 0) ≤ a0
  · refine ⟨-1, va_up I 0 0, V, ?_, hM _ (if_pos c), hRel⟩
    unfold X_debt
    rw [l1]
    rcases c with c | c
    · rw [if_pos c]
    · by_cases c0 : a0 < 0
      · rw [if_pos c0]
      · rw [if_neg c0, if_pos c]
  · obtain ⟨j, hj, rfl⟩ := one_of (by omega) c
    have hj12 : j < 12 := by omega
    obtain ⟨d1, d2, d3, d4⟩ := md j hj
    obtain ⟨g1, g2, g3, g4⟩ := ld j hj
    have x0 : X_debt f (nI j) a1 (SI 99) (SV 99) (SI 1) (SV 1) = (if a1 = 0 then some (SV 1 7 j) else if a1 = 1 then some (SV 1 8 j) else if a1 = 2 then some (SV 1 9 j) else if a1 = 3 then some (SV 1 10 j) else some (-2)) := by
      unfold X_debt
      rw [l1, if_neg (fun q => c (Or.inl q)), if_neg (fun q => c (Or.inr q)), if_pos (show nI j < 12 from nI_lt hj12 (by decide))]
      rw [gd_nI hj12 (by decide), gd_nI hj12 (by decide), gd_nI hj12 (by decide), gd_nI hj12 (by decide), cl_nI (by omega)]
    have hM2 : ∀ r, (if a1 = 0 then some (V 10 j, va_up I 0 0, V) else if a1 = 1 then some (V 11 j, va_up I 0 0, V) else if a1 = 2 then some (V 12 j, va_up I 0 0, V) else if a1 = 3 then some (V 13 j, va_up I 0 0, V) else some ((-2 : Int32), va_up I 0 0, V)) = some r → M_debt f (nI j) a1 I V = some r := by
      intro r hr
      apply hM
      rw [if_neg c, gd_nI hj12 (by decide), gd_nI hj12 (by decide), gd_nI hj12 (by decide), gd_nI hj12 (by decide), cl_nI (by omega)]
      exact hr
    rw [x0]
    by_cases b0 : a1 = 0
    · exact ⟨SV 1 7 j, va_up I 0 0, V, if_pos b0, hM2 _ (by rw [if_pos b0, d1, g1]), hRel⟩
    by_cases b1 : a1 = 1
    · exact ⟨SV 1 8 j, va_up I 0 0, V, by rw [if_neg b0, if_pos b1], hM2 _ (by rw [if_neg b0, if_pos b1, d2, g2]), hRel⟩
    by_cases b2 : a1 = 2
    · exact ⟨SV 1 9 j, va_up I 0 0, V, by rw [if_neg b0, if_neg b1, if_pos b2], hM2 _ (by rw [if_neg b0, if_neg b1, if_pos b2, d3, g3]), hRel⟩
    by_cases b3 : a1 = 3
    · exact ⟨SV 1 10 j, va_up I 0 0, V, by rw [if_neg b0, if_neg b1, if_neg b2, if_pos b3], hM2 _ (by rw [if_neg b0, if_neg b1, if_neg b2, if_pos b3, d4, g4]), hRel⟩
    · exact ⟨-2, va_up I 0 0, V, by rw [if_neg b0, if_neg b1, if_neg b2, if_neg b3], hM2 _ (by rw [if_neg b0, if_neg b1, if_neg b2, if_neg b3]), hRel⟩
