theorem up_id {α : Type} (g : Nat → α) (k : Nat) : va_up g k (g k) = g := by
  funext j
  by_cases e : j = k
  · subst e; rw [va_up_self]
  · rw [va_up_ne _ _ e]
theorem in_c (f : Nat) (x a b : Int32) : M_in f x.toInt64 a.toInt64 b.toInt64 = some (if a ≤ x ∧ x ≤ b then 1 else 0) := by
  rw [in_eq]
  simp only [wide_le]
theorem upd_s (g : Nat → Int32) (k : Nat) (x : Int32) : upd g k x k = x := pk_us
theorem upd_n (g : Nat → Int32) {k j : Nat} (x : Int32) (h : j ≠ k) : upd g k x j = g j := pk_un h
/-- a number from 0 to m -/
theorem rng_of {x : Int32} {m : Nat} (hm : m < 2 ^ 31) (h : (0 : Int32) ≤ x ∧ x ≤ nI m) : ∃ r : Nat, r ≤ m ∧ x = nI r := by
  have h1 : ¬ x < 0 := by
    have := Int32.le_iff_toInt_le.mp h.1
    rw [Int32.lt_iff_toInt_lt]
    omega
  obtain ⟨r, hr, e⟩ := nI_of2 (M := nI m) (n := m) (nI_toInt hm) h1 h.2
  exact ⟨r, hr, e⟩
theorem S_ask {f : Nat} : Sim_ask Rel f := by
  intro SI SV LaI LaV LsI LsV I V a0 a1 h
  have h0 := h
  obtain ⟨P, hP, i4, ⟨L, hok, hM, hL⟩, hT, hA, hSl, hDa, z0, z1⟩ := h
  have hRel : Rel SI (va_up SV 1 (SV 1)) LaI LaV LsI LsV (va_up I 0 0) V := by rw [up_id]; exact Rel_ag h0 (agI_0 I 0) (agV_rf V)
  obtain ⟨m9, m14, mp, md⟩ := id hM
  obtain ⟨l0, l1, l2, l3, l4, lp, ld⟩ := id hL
  by_cases c : a0 < 0 ∨ nI P ≤ a0
  · refine ⟨-1, SV 1, va_up I 0 0, V, ?_, ?_, hRel⟩
    · unfold X_ask
      rw [has_eq f a0 _ hP l0, if_pos c]
      rfl
    · unfold M_ask
      show ob1 (M_noOne f a0 (va_up I 0 0) V) _ = _
      rw [noOne_eq f a0 V hP (show va_up I 0 0 4 = nI P from i4), if_pos c]
      rfl
  · obtain ⟨p, hp, rfl⟩ := one_of (by omega) c
    have hp6 : p < 6 := by omega
    obtain ⟨b1, b2, b3, b4⟩ := mp p hp
    obtain ⟨g1, g2⟩ := lp p hp
    by_cases c2 : (0 : Int32) ≤ a1 ∧ a1 ≤ 9
    · obtain ⟨r, hr, rfl⟩ := rng_of (m := 9) (by decide) c2
      refine ⟨nI (L 6 p), va_up (SV 1) 6 (upd (SV 1 6) p (nI r)), va_up I 0 0, va_up V 6 (upd (V 6) p (nI r)), ?_, ?_, ?_⟩
      · unfold X_ask
        simp only [nm]
        rw [has_eq f _ _ hP l0, if_neg c, ob1_s, if_neg (by decide), if_neg (nI_pos (by omega)), if_pos c2.2, gd_nI hp6 (by decide), gd_nI hp6 (by decide), cl_nI (by omega), g2]
      · unfold M_ask
        simp only [nm]
        rw [noOne_eq f _ V hP (show va_up I 0 0 4 = nI P from i4), if_neg c, ob1_s, if_pos rfl]
        rw [show M_in f (nI r).toInt64 0 9 = some (if (0 : Int32) ≤ nI r ∧ nI r ≤ 9 then 1 else 0) from in_c f (nI r) 0 9, if_pos c2, ob1_s, if_neg (by decide), gd_nI hp6 (by decide), gd_nI hp6 (by decide), cl_nI (by omega), b2]
      · refine ⟨P, hP, i4, ⟨va_up L 6 (va_up (L 6) p r), ⟨hok.1, hok.2.1, fun q hq => ?_, hok.2.2.2⟩, ⟨m9, m14, fun q hq => ?_, md⟩, ⟨l0, l1, l2, l3, l4, fun q hq => ?_, ld⟩⟩, hT, hA, hSl, hDa, z0, z1⟩
        · refine ⟨?_, (hok.2.2.1 q hq).2⟩
          show va_up (L 6) p r q ≤ 9
          by_cases e : q = p
          · subst e; rw [va_up_self]; exact hr
          · rw [va_up_ne _ _ e]; exact (hok.2.2.1 q hq).1
        · refine ⟨(mp q hq).1, ?_, (mp q hq).2.2⟩
          show upd (V 6) p (nI r) q = nI (va_up (L 6) p r q)
          by_cases e : q = p
          · subst e; rw [upd_s, va_up_self]
          · rw [upd_n _ _ e, va_up_ne _ _ e]; exact (mp q hq).2.1
        · refine ⟨(lp q hq).1, ?_⟩
          show upd (SV 1 6) p (nI r) q = nI (va_up (L 6) p r q)
          by_cases e : q = p
          · subst e; rw [upd_s, va_up_self]
          · rw [upd_n _ _ e, va_up_ne _ _ e]; exact (lp q hq).2
    · refine ⟨-2, SV 1, va_up I 0 0, V, ?_, ?_, hRel⟩
      · unfold X_ask
        rw [has_eq f _ _ hP l0, if_neg c, ob1_s, if_neg (by decide)]
        by_cases d : a1 < 0
        · rw [if_pos d]
        · rw [if_neg d, if_neg]
          intro q
          refine c2 ⟨?_, q⟩
          rw [Int32.le_iff_toInt_le]
          rw [Int32.lt_iff_toInt_lt] at d
          omega
      · unfold M_ask
        simp only [nm]
        rw [noOne_eq f _ V hP (show va_up I 0 0 4 = nI P from i4), if_neg c, ob1_s, if_pos rfl]
        rw [show M_in f a1.toInt64 0 9 = some (if (0 : Int32) ≤ a1 ∧ a1 ≤ 9 then 1 else 0) from in_c f a1 0 9, if_neg c2]
        rfl
theorem nar01 {z : Nat} (h : z ≤ 1) : vp_nar .boolean (nI z) = nI z := by
  rcases (show z = 0 ∨ z = 1 by omega) with rfl | rfl <;> decide
theorem S_day {f : Nat} : Sim_day Rel f := by
  intro SI SV LaI LaV LsI LsV I V a0 a1 a2 h hz
  have h0 := h
  obtain ⟨P, hP, i4, hLL, hT, hA, hSl, ⟨n, hn, e1, e2, e3⟩, z0, z1⟩ := h
  obtain ⟨L, hok, hM, hL⟩ := id hLL
  have hRel : Rel (va_up SI 4 (SI 4)) (va_up SV 4 (SV 4)) LaI LaV LsI LsV (va_up I 0 0) V := by rw [up_id, up_id]; exact Rel_ag h0 (agI_0 I 0) (agV_rf V)
  obtain ⟨z, hz1, rfl⟩ : ∃ z : Nat, z ≤ 1 ∧ a2 = nI z := by
    rcases hz with rfl | rfl
    · exact ⟨0, by omega, rfl⟩
    · exact ⟨1, by omega, rfl⟩
  have l0 := hL.1
  by_cases c : a0 < 0 ∨ nI P ≤ a0
  · refine ⟨-1, SI 4, SV 4, va_up I 0 0, V, ?_, ?_, hRel⟩
    · unfold X_day
      rw [has_eq f a0 _ hP l0, if_pos c]
      rfl
    · unfold M_day
      simp only [nm]
      rw [noOne_eq f a0 V hP (show va_up I 0 0 4 = nI P from i4), if_pos c]
      rfl
  · obtain ⟨p, hp, rfl⟩ := one_of (by omega) c
    have hp6 : p < 6 := by omega
    by_cases c2 : (0 : Int32) ≤ a1 ∧ a1 ≤ 99
    · obtain ⟨r, hr, rfl⟩ := rng_of (m := 99) (by decide) c2
      have hx : X_day f (nI p) (nI r) (nI z) (SI 99) (SV 99) (SI 1) (SV 1) (SI 4) (SV 4) = ob3 (Day_append f (nI p) (nI r) (nI z) (SI 4) (SV 4)) (fun zr2 I3 V4 => (if zr2 = 0 then some ((-4), I3, V4) else some ((I3 3), I3, V4))) := by
        unfold X_day
        rw [has_eq f _ _ hP l0, if_neg c, ob1_s, if_neg (by decide), if_neg (nI_pos (by omega)), if_pos c2.2]
      rw [hx]
      by_cases e : n = 12
      · subst e
        refine ⟨-4, SI 4, SV 4, va_up I 0 0, V, ?_, ?_, hRel⟩
        · unfold Day_append
          rw [e2, if_neg (by decide)]
          rfl
        · unfold M_day
          simp only [nm]
          rw [noOne_eq f _ V hP (show va_up I 0 0 4 = nI P from i4), if_neg c, ob1_s, if_pos rfl]
          rw [show M_in f (nI r).toInt64 0 99 = some (if (0 : Int32) ≤ nI r ∧ nI r ≤ 99 then 1 else 0) from in_c f (nI r) 0 99, if_pos c2, ob1_s, if_neg (by decide), show va_up I 0 0 27 = nI 12 from e1, if_pos (by decide)]
      · have hn12 : n < 12 := by omega
        refine ⟨nI (n + 1), va_up (SI 4) 3 (nI (n + 1)), va_up (va_up (va_up (SV 4) 0 (upd (SV 4 0) n (nI p))) 1 (upd (SV 4 1) n (nI r))) 2 (upd (SV 4 2) n (nI z)), va_up (va_up I 0 0) 27 (nI (n + 1)), va_up (va_up (va_up V 28 (upd (V 28) n (nI p))) 29 (upd (V 29) n (nI r))) 30 (upd (V 30) n (nI z)), ?_, ?_, ?_⟩
        · unfold Day_append
          simp only [nm]
          rw [e2, if_pos (show nI n < 12 from nI_lt hn12 (by decide)), gd_nI hn12 (by decide), gd_nI hn12 (by decide), gd_nI hn12 (by decide), cl_nI (by omega), nar01 hz1, nI_1]
          rfl
        · unfold M_day
          simp only [nm]
          rw [noOne_eq f _ V hP (show va_up I 0 0 4 = nI P from i4), if_neg c, ob1_s, if_pos rfl]
          rw [show M_in f (nI r).toInt64 0 99 = some (if (0 : Int32) ≤ nI r ∧ nI r ≤ 99 then 1 else 0) from in_c f (nI r) 0 99, if_pos c2, ob1_s, if_neg (by decide), show va_up I 0 0 27 = nI n from e1, if_neg (show ¬ nI n = 12 from fun q => e (nI_inj (b := 12) (by omega) (by decide) q)), gd_nI hn12 (by decide), gd_nI hn12 (by decide), gd_nI hn12 (by decide), cl_nI (by omega), nar01 hz1, nI_1]
          rfl
        · refine ⟨P, hP, i4, hLL, hT, hA, hSl, ⟨n + 1, by omega, rfl, rfl, fun j hj => ?_⟩, z0, z1⟩
          by_cases ej : j = n
          · subst ej
            exact ⟨p, r, z, hp6, hr, hz1, upd_s _ _ _, upd_s _ _ _, upd_s _ _ _, upd_s _ _ _, upd_s _ _ _, upd_s _ _ _⟩
          · obtain ⟨w, d, z', q1, q2, q3, q4, q5, q6, q7, q8, q9⟩ := e3 j (by omega)
            exact ⟨w, d, z', q1, q2, q3, (upd_n _ _ ej).trans q4, (upd_n _ _ ej).trans q5, (upd_n _ _ ej).trans q6, (upd_n _ _ ej).trans q7, (upd_n _ _ ej).trans q8, (upd_n _ _ ej).trans q9⟩
    · refine ⟨-2, SI 4, SV 4, va_up I 0 0, V, ?_, ?_, hRel⟩
      · unfold X_day
        rw [has_eq f _ _ hP l0, if_neg c, ob1_s, if_neg (by decide)]
        by_cases d : a1 < 0
        · rw [if_pos d]
        · rw [if_neg d, if_neg]
          intro q
          refine c2 ⟨?_, q⟩
          rw [Int32.le_iff_toInt_le]
          rw [Int32.lt_iff_toInt_lt] at d
          omega
      · unfold M_day
        simp only [nm]
        rw [noOne_eq f _ V hP (show va_up I 0 0 4 = nI P from i4), if_neg c, ob1_s, if_pos rfl]
        rw [show M_in f a1.toInt64 0 99 = some (if (0 : Int32) ≤ a1 ∧ a1 ≤ 99 then 1 else 0) from in_c f a1 0 99, if_neg c2]
        rfl
