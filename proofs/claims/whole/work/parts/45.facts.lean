theorem tm_0 : (Cond.instantiable RX0 3) ∈ lw_tbl := List.mem_of_getElem? (i := 152) (by decide +kernel)
theorem tm_1 : (Cond.instantiable RX1 4) ∈ lw_tbl := List.mem_of_getElem? (i := 248) (by decide +kernel)
theorem tm_2 : (Cond.instantiable RX2 4) ∈ lw_tbl := List.mem_of_getElem? (i := 190) (by decide +kernel)
theorem tm_3 : (Cond.instantiable RX3 11) ∈ lw_tbl := List.mem_of_getElem? (i := 82) (by decide +kernel)
theorem tm_4 : (Cond.instantiable RX4 2) ∈ lw_tbl := List.mem_of_getElem? (i := 233) (by decide +kernel)
theorem tm_5 : (Cond.instantiable RX5 1) ∈ lw_tbl := List.mem_of_getElem? (i := 223) (by decide +kernel)
theorem tm_6 : (Cond.instantiable RX6 2) ∈ lw_tbl := List.mem_of_getElem? (i := 210) (by decide +kernel)
theorem tm_7 : (Cond.instantiable RX7 2) ∈ lw_tbl := List.mem_of_getElem? (i := 172) (by decide +kernel)
theorem tm_8 : (Cond.instantiable RX8 2) ∈ lw_tbl := List.mem_of_getElem? (i := 67) (by decide +kernel)
theorem tm_9 : (Cond.instantiable RX9 9) ∈ lw_tbl := List.mem_of_getElem? (i := 59) (by decide +kernel)
theorem tm_10 : (Cond.instantiable RX10 38) ∈ lw_tbl := List.mem_of_getElem? (i := 698) (by decide +kernel)
theorem tm_11 : (Cond.arrayClass .int) ∈ lw_tbl := List.mem_of_getElem? (i := 150) (by decide +kernel)
theorem tm_12 : (Cond.arrayClass .boolean) ∈ lw_tbl := List.mem_of_getElem? (i := 188) (by decide +kernel)
theorem tm_13 : (Cond.arrayClass .byte) ∈ lw_tbl := List.mem_of_getElem? (i := 80) (by decide +kernel)
theorem tm_14 : (Cond.arrayOver (.object "DaysLent$Ledger")) ∈ lw_tbl := List.mem_of_getElem? (i := 158) (by decide +kernel)
theorem tm_15 : (Cond.arrayOver (.array .int)) ∈ lw_tbl := List.mem_of_getElem? (i := 239) (by decide +kernel)
theorem tm_16 : (Cond.methodLinkNest RX3 60 yX9_isIn "DaysLent") ∈ lw_tbl := List.mem_of_getElem? (i := 391) (by decide +kernel)
theorem tm_17 : (Cond.methodLinkNest RX3 81 yX9_askedFor "DaysLent") ∈ lw_tbl := List.mem_of_getElem? (i := 437) (by decide +kernel)
theorem tm_18 : (Cond.methodLinkNest RX4 41 yX9_askedFor "DaysLent") ∈ lw_tbl := List.mem_of_getElem? (i := 609) (by decide +kernel)
theorem tm_19 : (Cond.methodLinkNest RX6 32 yX9_isIn "DaysLent") ∈ lw_tbl := List.mem_of_getElem? (i := 543) (by decide +kernel)
theorem tm_20 : (Cond.methodLinkNest RX9 9 yX8_init "DaysLent") ∈ lw_tbl := List.mem_of_getElem? (i := 68) (by decide +kernel)
theorem tm_21 : (Cond.methodLinkNest RX9 18 yX3_init "DaysLent") ∈ lw_tbl := List.mem_of_getElem? (i := 83) (by decide +kernel)
theorem tm_22 : (Cond.methodLinkNest RX0 24 yX3_init "DaysLent") ∈ lw_tbl := List.mem_of_getElem? (i := 159) (by decide +kernel)
theorem tm_23 : (Cond.methodLinkNest RX7 21 yX3_init "DaysLent") ∈ lw_tbl := List.mem_of_getElem? (i := 178) (by decide +kernel)
theorem tm_24 : (Cond.methodLinkNest RX9 39 yX2_init "DaysLent") ∈ lw_tbl := List.mem_of_getElem? (i := 191) (by decide +kernel)
theorem tm_25 : (Cond.methodLinkNest RX9 46 yX6_init "DaysLent") ∈ lw_tbl := List.mem_of_getElem? (i := 211) (by decide +kernel)
theorem tm_26 : (Cond.methodLinkNest RX9 53 yX5_init "DaysLent") ∈ lw_tbl := List.mem_of_getElem? (i := 224) (by decide +kernel)
theorem tm_27 : (Cond.methodLinkNest RX9 60 yX4_init "DaysLent") ∈ lw_tbl := List.mem_of_getElem? (i := 234) (by decide +kernel)
theorem tm_28 : (Cond.methodLinkNest RX9 67 yX1_init "DaysLent") ∈ lw_tbl := List.mem_of_getElem? (i := 249) (by decide +kernel)
theorem tm_29 : (Cond.classLink RL 7 RX9) ∈ lw_tbl := List.mem_of_getElem? (i := 58) (by decide +kernel)
theorem tm_30 : (Cond.initialized RX9) ∈ lw_tbl := List.mem_of_getElem? (i := 44) (by decide +kernel)
theorem tm_31 : (Cond.methodLink RL 9 yX9_init) ∈ lw_tbl := List.mem_of_getElem? (i := 60) (by decide +kernel)
theorem tm_32 : (Cond.instanceMethod yX9_init) ∈ lw_tbl := List.mem_of_getElem? (i := 61) (by decide +kernel)
theorem tm_33 : (Cond.classLink RL 10 RX10) ∈ lw_tbl := List.mem_of_getElem? (i := 697) (by decide +kernel)
theorem tm_34 : (Cond.initialized RX10) ∈ lw_tbl := List.mem_of_getElem? (i := 54) (by decide +kernel)
theorem tm_35 : (Cond.methodLink RL 12 yX10_init) ∈ lw_tbl := List.mem_of_getElem? (i := 699) (by decide +kernel)
theorem tm_36 : (Cond.instanceMethod yX10_init) ∈ lw_tbl := List.mem_of_getElem? (i := 700) (by decide +kernel)
set_option maxHeartbeats 16000000 in
set_option maxRecDepth 100000 in
theorem start_facts {s : State} {b : Nat} (htsT : ∀ w ∈ lw_tbl, w.before #[Value.ref b] s = true) : ∃ (D : va_G) (cs : Nat → ClassId), va_K D vwCl (tyA cs) s ∧ yN s ∧ zN s := by
  have hts : ∀ w ∈ wsL_law, w.before #[Value.ref b] s = true := fun w h => htsT w (t_wsL_law w h).1
  obtain ⟨c0, i0, hK0⟩ := u_known (C := RX0) (T := TX0) (N := 3) (n := 3) hts inlX0 (htsT _ tm_0)
  obtain ⟨c1, i1, hK1⟩ := u_known (C := RX1) (T := TX1) (N := 4) (n := 4) hts inlX1 (htsT _ tm_1)
  obtain ⟨c2, i2, hK2⟩ := u_known (C := RX2) (T := TX2) (N := 4) (n := 4) hts inlX2 (htsT _ tm_2)
  obtain ⟨c3, i3, hK3⟩ := u_known (C := RX3) (T := TX3) (N := 11) (n := 11) hts inlX3 (htsT _ tm_3)
  obtain ⟨c4, i4, hK4⟩ := u_known (C := RX4) (T := TX4) (N := 2) (n := 2) hts inlX4 (htsT _ tm_4)
  obtain ⟨c5, i5, hK5⟩ := u_known (C := RX5) (T := TX5) (N := 1) (n := 1) hts inlX5 (htsT _ tm_5)
  obtain ⟨c6, i6, hK6⟩ := u_known (C := RX6) (T := TX6) (N := 2) (n := 2) hts inlX6 (htsT _ tm_6)
  obtain ⟨c7, i7, hK7⟩ := u_known (C := RX7) (T := TX7) (N := 2) (n := 2) hts inlX7 (htsT _ tm_7)
  obtain ⟨c8, i8, hK8⟩ := u_known (C := RX8) (T := TX8) (N := 2) (n := 2) hts inlX8 (htsT _ tm_8)
  obtain ⟨c9, i9, hK9⟩ := u_known (C := RX9) (T := TX9) (N := 9) (n := 9) hts inlX9 (htsT _ tm_9)
  obtain ⟨c10, i10, hK10⟩ := u_known (C := RX10) (T := TX10) (N := 38) (n := 38) hts inlX10 (htsT _ tm_10)
  obtain ⟨D, hKc⟩ : ∃ D : va_G, ∀ (k : Nat) (q : vw_C), vwCl[k]? = some q → u_Kn s q.1 q.2.1 q.2.2 (D.1 k) (D.2 k) := by
    refine ⟨(fun k => match k with | 0 => c0 | 1 => c1 | 2 => c2 | 3 => c3 | 4 => c4 | 5 => c5 | 6 => c6 | 7 => c7 | 8 => c8 | 9 => c9 | _ => c10, fun k => match k with | 0 => i0 | 1 => i1 | 2 => i2 | 3 => i3 | 4 => i4 | 5 => i5 | 6 => i6 | 7 => i7 | 8 => i8 | 9 => i9 | _ => i10), ?_⟩
    intro k q hq
    match k, hq with
    | 0, hq => cases hq; exact hK0
    | 1, hq => cases hq; exact hK1
    | 2, hq => cases hq; exact hK2
    | 3, hq => cases hq; exact hK3
    | 4, hq => cases hq; exact hK4
    | 5, hq => cases hq; exact hK5
    | 6, hq => cases hq; exact hK6
    | 7, hq => cases hq; exact hK7
    | 8, hq => cases hq; exact hK8
    | 9, hq => cases hq; exact hK9
    | 10, hq => cases hq; exact hK10
    | k + 11, hq => simp [vwCl] at hq
  obtain ⟨cI, kI, pI, I1, I2, I3⟩ := Cond.arrayClass_spec (htsT _ tm_11)
  obtain ⟨cZ, kZ, pZ, Z1, Z2, Z3⟩ := Cond.arrayClass_spec (htsT _ tm_12)
  obtain ⟨cB, kB, pB, B1, B2, B3⟩ := Cond.arrayClass_spec (htsT _ tm_13)
  have hAO : va_AO "DaysLent$Ledger" s := va_AO.of (htsT _ tm_14)
  have hAA : va_AOA .int s := va_AOA.of (htsT _ tm_15)
  obtain ⟨pO, cO, kO, O1, O2, O3, O4, O5⟩ := Cond.arrayOver_spec hAO
  obtain ⟨pA, cA, kA, A1, A3, A4, A5⟩ := Cond.arrayOver_specA hAA
  obtain ⟨cs, ecs⟩ : ∃ cs : Nat → ClassId, cs = fun k => match k with | 0 => cI | 1 => cZ | 2 => cB | 3 => cO | _ => cA := ⟨_, rfl⟩
  have e0 : cs 0 = cI := congrFun ecs 0
  have e1 : cs 1 = cZ := congrFun ecs 1
  have e2 : cs 2 = cB := congrFun ecs 2
  have e3 : cs 3 = cO := congrFun ecs 3
  have e4 : cs 4 = cA := congrFun ecs 4
  have hK : va_K D vwCl (tyA cs) s := by
    refine ⟨hKc, fun k q h => ?_⟩
    match k, h with
    | 0, h => cases h; rw [e0]; exact ⟨fun n z => ⟨fun k h => (by cases h), kI, I2, pI, I3⟩, I1⟩
    | 1, h => cases h; rw [e1]; exact ⟨fun n z => ⟨fun k h => (by cases h), kZ, Z2, pZ, Z3⟩, Z1⟩
    | 2, h => cases h; rw [e2]; exact ⟨fun n z => ⟨fun k h => (by cases h), kB, B2, pB, B3⟩, B1⟩
    | 3, h => cases h; rw [e3]; exact ⟨fun n z => ⟨fun k h => (by cases h), kO, O3, pO, O4⟩, kO, pO, O3, O4, O1, O5⟩
    | 4, h => cases h; rw [e4]; exact ⟨fun n z => ⟨fun k h => (by cases h), kA, A3, pA, A4⟩, A5⟩
    | k + 5, h => simp at h
  have hN : yN s := ⟨va_Nw.of rfl (htsT _ tm_16), va_Nw.of rfl (htsT _ tm_17), va_Nw.of rfl (htsT _ tm_18), va_Nw.of rfl (htsT _ tm_19)⟩
  have hZ : zN s := ⟨va_Nw.of rfl (htsT _ tm_20), va_Nw.of rfl (htsT _ tm_21), va_Nw.of rfl (htsT _ tm_22), va_Nw.of rfl (htsT _ tm_23), va_Nw.of rfl (htsT _ tm_24), va_Nw.of rfl (htsT _ tm_25), va_Nw.of rfl (htsT _ tm_26), va_Nw.of rfl (htsT _ tm_27), va_Nw.of rfl (htsT _ tm_28), hAO, hAA⟩
  exact ⟨D, cs, hK, hN, hZ⟩
