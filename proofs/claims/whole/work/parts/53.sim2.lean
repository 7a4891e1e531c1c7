theorem ob1_s {α ρ : Type} (a : α) (g : α → Option ρ) : ob1 (some a) g = g a := rfl
theorem S_person {f : Nat} (hf : 100 ≤ f) : Sim_person Rel f := by
  intro SI SV LaI LaV LsI LsV I V a0 a1 h
  have h0 := h
  obtain ⟨P, hP, i4, ⟨L, hok, hM, hL⟩, hT, hA, hSl, hDa, z0, z1⟩ := h
  have hRel : Rel SI SV LaI LaV LsI LsV (va_up I 0 0) V := Rel_ag h0 (agI_0 I 0) (agV_rf V)
  have hM1 : tM P L (va_up I 0 0) V := hM
  obtain ⟨m9, m14, mp, md⟩ := id hM
  obtain ⟨l0, l1, l2, l3, l4, lp, ld⟩ := id hL
  by_cases c : a0 < 0 ∨ nI P ≤ a0
  · refine ⟨-1, va_up I 0 0, V, ?_, ?_, hRel⟩
    · unfold X_person
      rw [has_eq f a0 _ hP l0, if_pos c]
      rfl
    · unfold M_person
      show ob1 (M_noOne f a0 (va_up I 0 0) V) _ = _
      rw [noOne_eq f a0 V hP (show va_up I 0 0 4 = nI P from i4), if_pos c]
      rfl
  · obtain ⟨p, hp, rfl⟩ := one_of (by omega) c
    have hp6 : p < 6 := by omega
    obtain ⟨b1, b2, b3, b4⟩ := mp p hp
    obtain ⟨g1, g2⟩ := lp p hp
    have o1 := hok.2.2.1 p hp
    have hx : X_person f (nI p) a1 (SI 99) (SV 99) (SI 1) (SV 1) = (if a1 = 0 then some (nI (L 5 p)) else if a1 = 1 then some (nI (L 6 p)) else if a1 = 2 then some (if L 7 p = 0 then 1 else 0) else if a1 = 3 then some (if L 8 p = 1 then 1 else 0) else if a1 = 4 then some (nI (owS L p)) else if a1 = 5 then some (nI (oTS L p)) else if a1 = 6 then some (nI (oTS L p) - nI (owS L p) + 10000) else some (-2)) := by
      unfold X_person
      rw [has_eq f _ _ hP l0, if_neg c]
      show (if (1 : Int32) = 0 then some (-1) else _) = _
      rw [if_neg (by decide), gd_nI hp6 (by decide), gd_nI hp6 (by decide), cl_nI (by omega), g1, g2, alive_eq f hP hL hp, broken_eq f hP hL hp, Led_owedBy_eq hf hP hok hL hp6, Led_owedTo_eq hf hP hok hL hp6]
      unfold Led_netOf
      rw [Led_owedBy_eq hf hP hok hL hp6, Led_owedTo_eq hf hP hok hL hp6]
      have q1 : ob1 (some (if L 7 p = 0 then (1 : Int32) else 0)) (fun z => if z = 0 then some (0 : Int32) else some 1) = some (if L 7 p = 0 then 1 else 0) := by
        by_cases e : L 7 p = 0
        · rw [if_pos e]; rfl
        · rw [if_neg e]; rfl
      have q2 : ob1 (some (if L 8 p = 1 then (1 : Int32) else 0)) (fun z => if z = 0 then some (0 : Int32) else some 1) = some (if L 8 p = 1 then 1 else 0) := by
        by_cases e : L 8 p = 1
        · rw [if_pos e]; rfl
        · rw [if_neg e]; rfl
      rw [q1, q2]
      rfl
    have hm : M_person f (nI p) a1 I V = ob1 (if a1 = 0 then some (nI (L 5 p)) else if a1 = 1 then some (nI (L 6 p)) else if a1 = 2 then some (if L 7 p = 0 then 1 else 0) else if a1 = 3 then some (if L 8 p = 1 then 1 else 0) else if a1 = 4 then some (nI (owS L p)) else if a1 = 5 then some (nI (oTS L p)) else if a1 = 6 then some (nI (oTS L p) - nI (owS L p) + 10000) else some (-2)) (fun r => some (r, va_up I 0 0, V)) := by
      unfold M_person
      show ob1 (M_noOne f (nI p) (va_up I 0 0) V) _ = _
      rw [noOne_eq f _ V hP (show va_up I 0 0 4 = nI P from i4), if_neg c]
      rw [ob1_s, if_pos rfl, gd_nI hp6 (by decide), gd_nI hp6 (by decide), gd_nI hp6 (by decide), gd_nI hp6 (by decide), cl_nI (by omega), b1, b2, b3, b4, M_owesAll_eq hf hP hok hM1 hp6, M_owedAll_eq hf hP hok hM1 hp6]
      have e7 : (nI (L 7 p) = 0) ↔ L 7 p = 0 := by rw [← nI_0]; exact nI_eq (by omega) (by omega)
      have e8 : (nI (L 8 p) = 0) ↔ ¬ L 8 p = 1 := by rw [← nI_0, nI_eq (by omega) (by omega)]; omega
      by_cases d0 : a1 = 0
      · rw [if_pos d0, if_pos d0]; rfl
      rw [if_neg d0, if_neg d0]
      by_cases d1 : a1 = 1
      · rw [if_pos d1, if_pos d1]; rfl
      rw [if_neg d1, if_neg d1]
      by_cases d2 : a1 = 2
      · rw [if_pos d2, if_pos d2]
        by_cases e : L 7 p = 0
        · rw [if_pos (e7.mpr e), if_pos e]; rfl
        · rw [if_neg (fun q => e (e7.mp q)), if_neg e]; rfl
      rw [if_neg d2, if_neg d2]
      by_cases d3 : a1 = 3
      · rw [if_pos d3, if_pos d3]
        by_cases e : L 8 p = 1
        · rw [if_neg (fun q => e8.mp q e), if_pos e]; rfl
        · rw [if_pos (e8.mpr e), if_neg e]; rfl
      rw [if_neg d3, if_neg d3]
      by_cases d4 : a1 = 4
      · rw [if_pos d4, if_pos d4]
      rw [if_neg d4, if_neg d4]
      by_cases d5 : a1 = 5
      · rw [if_pos d5, if_pos d5]
      rw [if_neg d5, if_neg d5]
      by_cases d6 : a1 = 6
      · rw [if_pos d6, if_pos d6]
        show some (10000 + nI (oTS L p) - nI (owS L p), _, _) = some (nI (oTS L p) - nI (owS L p) + 10000, _, _)
        rw [Int32.sub_eq_add_neg, Int32.sub_eq_add_neg, Int32.add_comm 10000, Int32.add_assoc, Int32.add_comm 10000, ← Int32.add_assoc]
      rw [if_neg d6, if_neg d6]
      rfl
    rw [hx, hm]
    obtain ⟨r, hr⟩ : ∃ r, (if a1 = 0 then some (nI (L 5 p)) else if a1 = 1 then some (nI (L 6 p)) else if a1 = 2 then some (if L 7 p = 0 then (1 : Int32) else 0) else if a1 = 3 then some (if L 8 p = 1 then (1 : Int32) else 0) else if a1 = 4 then some (nI (owS L p)) else if a1 = 5 then some (nI (oTS L p)) else if a1 = 6 then some (nI (oTS L p) - nI (owS L p) + 10000) else some (-2)) = some r := by
      by_cases d0 : a1 = 0
      · exact ⟨_, if_pos d0⟩
      rw [if_neg d0]
      by_cases d1 : a1 = 1
      · exact ⟨_, if_pos d1⟩
      rw [if_neg d1]
      by_cases d2 : a1 = 2
      · exact ⟨_, if_pos d2⟩
      rw [if_neg d2]
      by_cases d3 : a1 = 3
      · exact ⟨_, if_pos d3⟩
      rw [if_neg d3]
      by_cases d4 : a1 = 4
      · exact ⟨_, if_pos d4⟩
      rw [if_neg d4]
      by_cases d5 : a1 = 5
      · exact ⟨_, if_pos d5⟩
      rw [if_neg d5]
      by_cases d6 : a1 = 6
      · exact ⟨_, if_pos d6⟩
      exact ⟨_, if_neg d6⟩
    rw [hr]
    exact ⟨r, va_up I 0 0, V, rfl, rfl, hRel⟩
