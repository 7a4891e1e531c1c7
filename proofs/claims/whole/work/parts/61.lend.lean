theorem sm_up (g : Nat → Nat) (p x : Nat) : ∀ n, p < n → sm (va_up g p x) n + g p = sm g n + x := by
  intro n
  induction n with
  | zero => intro h; omega
  | succ n ih =>
    intro h
    rw [sm, sm]
    by_cases e : p = n
    · subst e
      rw [va_up_self, sm_congr (h := g) p (fun i hi => va_up_ne _ _ (by omega))]
      omega
    · rw [va_up_ne _ _ (show n ≠ p by omega)]
      have := ih (by omega)
      omega
theorem sm_le (g : Nat → Nat) : ∀ n p, p < n → g p ≤ sm g n := by
  intro n
  induction n with
  | zero => intro p h; omega
  | succ n ih =>
    intro p h
    rw [sm]
    by_cases e : p = n
    · subst e; omega
    · have := ih p (by omega); omega
theorem sm_move (g : Nat → Nat) {P i j a : Nat} (hi : i < P) (hj : j < P) (hij : i ≠ j) (ha : a ≤ g i) : sm (va_up (va_up g i (g i - a)) j (g j + a)) P = sm g P := by
  have h1 := sm_up g i (g i - a) P hi
  have h2 := sm_up (va_up g i (g i - a)) j (g j + a) P hj
  rw [va_up_ne _ _ (show j ≠ i from fun q => hij q.symm)] at h2
  omega
theorem noOne_p (f : Nat) {I : FI} (V : FV) {P p : Nat} (hP : P ≤ 6) (h : I 4 = nI P) (hp : p < P) : M_noOne f (nI p) I V = some 0 := by
  rw [noOne_eq f _ V hP h, if_neg]
  intro q
  rcases q with q | q
  · exact nI_pos (by omega) q
  · have := (le_n (by omega) (by omega)).mp q; omega
theorem has_p (f : Nat) {I : FI} (V : FV) {P p : Nat} (hP : P ≤ 6) (h : I 0 = nI P) (hp : p < P) : Led_has f (nI p) I V = some 1 := by
  rw [has_eq f _ V hP h, if_neg]
  intro q
  rcases q with q | q
  · exact nI_pos (by omega) q
  · have := (le_n (by omega) (by omega)).mp q; omega
def lendOK (L : Nat → Nat → Nat) (i j a w : Nat) : Prop := ¬ L 5 i < a ∧ L 7 i = 0 ∧ L 7 j = 0 ∧ ¬ L 8 j = 1 ∧ owS L j + w ≤ 80
theorem owS_le {P : Nat} {L : Nat → Nat → Nat} (hok : okT P L) (p : Nat) : owS L p ≤ 12 * 99 := by
  have h : ∀ n, n ≤ L 0 0 → sm (fun j => if L 11 j = p then L 12 j else 0) n ≤ n * 99 := by
    intro n
    induction n with
    | zero => intro _; exact Nat.le_refl _
    | succ n ih =>
      intro hn
      have i2 := ih (by omega)
      have o := hok.2.2.2 n (by omega)
      rw [sm]
      split <;> omega
  have := h _ (Nat.le_refl _)
  have := hok.1
  unfold owS
  omega
theorem S_lend {f : Nat} (hf : 1000 ≤ f) : Sim_lend Rel f := by
  intro SI SV LaI LaV LsI LsV I V a0 a1 a2 a3 h
  have h0 := h
  obtain ⟨P, hP, i4, ⟨L, hok, hM, hL⟩, hT, hA, hSl, hDa, z0, z1⟩ := h
  have hRel : Rel (va_up (va_up SI 1 (SI 1)) 2 (SI 2)) (va_up SV 1 (SV 1)) LaI LaV LsI LsV (va_up I 0 0) V := by rw [up_id, up_id, up_id]; exact Rel_ag h0 (agI_0 I 0) (agV_rf V)
  obtain ⟨m9, m14, mp, md⟩ := id hM
  obtain ⟨l0, l1, l2, l3, l4, lp, ld⟩ := id hL
  have hd := hok.1
  have j4 : va_up I 0 0 4 = nI P := i4
  by_cases c : a0 < 0 ∨ nI P ≤ a0
  · refine ⟨-1, SI 1, SV 1, SI 2, LaI, LaV, va_up I 0 0, V, ?_, ?_, hRel⟩
    · unfold X_lend
      rw [has_eq f a0 _ hP l0, if_pos c]
      rfl
    · unfold M_lend
      simp only [nm]
      rw [noOne_eq f a0 V hP j4, if_pos c]
      rfl
  obtain ⟨i, hi, rfl⟩ := one_of (by omega) c
  by_cases c2 : a1 < 0 ∨ nI P ≤ a1
  · refine ⟨-1, SI 1, SV 1, SI 2, LaI, LaV, va_up I 0 0, V, ?_, ?_, hRel⟩
    · unfold X_lend
      rw [has_p f _ hP l0 hi, has_eq f a1 _ hP l0, if_pos c2]
      rfl
    · unfold M_lend
      simp only [nm]
      rw [noOne_p f V hP j4 hi, noOne_eq f a1 V hP j4, if_pos c2]
      rfl
  obtain ⟨j, hj, rfl⟩ := one_of (by omega) c2
  have hx0 : X_lend f (nI i) (nI j) a2 a3 (SI 99) (SV 99) (SI 1) (SV 1) (SI 2) (SV 2) LaI LaV = (if nI i = nI j then some ((-2), SI 1, SV 1, SI 2, LaI, LaV) else ob1 (X_isLoan f a2) (fun zr3 => (if zr3 = 0 then some ((-2), SI 1, SV 1, SI 2, LaI, LaV) else (if a3 < 1 then some ((-2), SI 1, SV 1, SI 2, LaI, LaV) else (if a3 ≤ 9 then ob1 (Led_mayLend f (nI i) (nI j) a2 (SI 1) (SV 1)) (fun zr4 => (if zr4 = 0 then some ((-3), SI 1, SV 1, SI 2, LaI, LaV) else (if (SI 1 1) < 12 then ob3 (Act_remember f (SI 2) (SV 2) LaI LaV (SI 1) (SV 1)) (fun I6 I7 V8 => ob3 (Led_giveAsLoan f (nI i) (nI j) a2 a3 (SI 1) (SV 1)) (fun zr9 I10 V11 => some (zr9, I10, V11, I6, I7, V8))) else some ((-4), SI 1, SV 1, SI 2, LaI, LaV)))) else some ((-2), SI 1, SV 1, SI 2, LaI, LaV)))))) := by
    unfold X_lend
    rw [has_p f _ hP l0 hi, ob1_s, if_neg (by decide), has_p f _ hP l0 hj, ob1_s, if_neg (by decide)]
  have hin2 : M_in f a2.toInt64 1 99 = some (if (1 : Int32) ≤ a2 ∧ a2 ≤ nI 99 then 1 else 0) := in_c f a2 1 99
  have hin3 : M_in f a3.toInt64 1 9 = some (if (1 : Int32) ≤ a3 ∧ a3 ≤ nI 9 then 1 else 0) := in_c f a3 1 9
  have hlo : X_isLoan f a2 = some (if (1 : Int32) ≤ a2 ∧ a2 ≤ nI 99 then 1 else 0) := by
    unfold X_isLoan
    by_cases d : a2 < 1
    · rw [if_pos d, if_neg (fun q => (lt1_iff a2).mp d q.1)]
    · rw [if_neg d]
      have d1 : (1 : Int32) ≤ a2 := Decidable.byContradiction (fun q => d ((lt1_iff a2).mpr q))
      by_cases e : (99 : Int32) < a2
      · rw [if_pos e, if_neg (fun q => (nle_lt 99 a2).mp e q.2)]
      · rw [if_neg e, if_pos ⟨d1, Decidable.byContradiction (fun q => e ((nle_lt 99 a2).mpr q))⟩]
  obtain ⟨m0, hm⟩ : ∃ m, M_lend f (nI i) (nI j) a2 a3 I V = m := ⟨_, rfl⟩
  obtain ⟨x0, hx⟩ : ∃ x, X_lend f (nI i) (nI j) a2 a3 (SI 99) (SV 99) (SI 1) (SV 1) (SI 2) (SV 2) LaI LaV = x := ⟨_, rfl⟩
  rw [hm, hx]
  rw [hx0, hlo] at hx
  clear hx0
  unfold M_lend at hm
  simp only [nm] at hm
  rw [noOne_p f V hP j4 hi, ob1_s, if_pos rfl, noOne_p f V hP j4 hj, ob1_s, if_pos rfl, hin2, hin3] at hm
  by_cases cij : i = j
  · subst cij
    rw [if_pos rfl] at hm hx
    exact ⟨-2, SI 1, SV 1, SI 2, LaI, LaV, va_up I 0 0, V, hx.symm, hm.symm, hRel⟩
  rw [if_neg (fun q => cij (nI_inj (by omega) (by omega) q))] at hm hx
  by_cases ca : (1 : Int32) ≤ a2 ∧ a2 ≤ nI 99
  rotate_left
  · rw [if_neg ca, ob1_s, if_pos rfl] at hm hx
    exact ⟨-2, SI 1, SV 1, SI 2, LaI, LaV, va_up I 0 0, V, hx.symm, hm.symm, hRel⟩
  rw [if_pos ca, ob1_s, if_neg (by decide)] at hm hx
  obtain ⟨a, ha1, ha2, rfl⟩ := (rng1 (by decide)).mp ca
  by_cases cw : (1 : Int32) ≤ a3 ∧ a3 ≤ nI 9
  rotate_left
  · rw [if_neg cw, ob1_s, if_pos rfl] at hm
    refine ⟨-2, SI 1, SV 1, SI 2, LaI, LaV, va_up I 0 0, V, ?_, hm.symm, hRel⟩
    rw [← hx]
    by_cases d : a3 < 1
    · rw [if_pos d]
    · rw [if_neg d, if_neg (show ¬ a3 ≤ 9 from fun q => cw ⟨Decidable.byContradiction (fun q => d ((lt1_iff a3).mpr q)), q⟩)]
  rw [if_pos cw, ob1_s, if_neg (by decide)] at hm
  rw [if_neg (fun q => (lt1_iff a3).mp q cw.1), if_pos (show a3 ≤ 9 from cw.2)] at hx
  obtain ⟨wk, hw1, hw2, rfl⟩ := (rng1 (by decide)).mp cw
  obtain ⟨b1, b2, b3, b4⟩ := mp i hi
  obtain ⟨d1, d2, d3, d4⟩ := mp j hj
  have oi := hok.2.2.1 i hi
  have oj := hok.2.2.1 j hj
  have hmi := sm_le (L 5) P i hi
  have hmj := sm_le (L 5) P j hj
  have hsum := hok.2.1
  have how := owS_le hok j
  obtain ⟨w, hw⟩ : ∃ w, w = a + (a + 1) / 2 * L 6 i := ⟨_, rfl⟩
  have hpr : (a + 1) / 2 * L 6 i ≤ 50 * 9 := Nat.mul_le_mul (by omega) oi.1
  have hdiv : (nI a + 1) / 2 = nI ((a + 1) / 2) := by
    rw [nI_1]
    exact pk_div (d := 2) (by omega) (by decide) (by decide)
  have hM1 : tM P L (va_up I 0 0) V := hM
  have hprice : M_priceOf f (nI i) (nI a) (va_up I 0 0) V = some (nI ((a + 1) / 2 * L 6 i)) := by
    unfold M_priceOf
    rw [gd_nI (by omega) (by decide), cl_nI (by omega), b2, hdiv, pk_mul, Nat.mul_comm]
  have hloan : Led_loanWithAsked f (nI i) (nI a) (SI 1) (SV 1) = some (nI w) := by
    unfold Led_loanWithAsked X_askedFor
    rw [gd_nI (by omega) (by decide), cl_nI (by omega), (lp i hi).2, hdiv, pk_mul, ob1_s, nI_add, ← hw]
  have hadd : nI a + nI ((a + 1) / 2 * L 6 i) = nI w := by rw [nI_add, ← hw]
  have e7i : (nI (L 7 i) = 0) ↔ L 7 i = 0 := by rw [← nI_0]; exact nI_eq (by omega) (by omega)
  have e7j : (nI (L 7 j) = 0) ↔ L 7 j = 0 := by rw [← nI_0]; exact nI_eq (by omega) (by omega)
  have e8j : (nI (L 8 j) = 0) ↔ ¬ L 8 j = 1 := by rw [← nI_0, nI_eq (by omega) (by omega)]; omega
  have elt : (nI (L 5 i) < nI a) ↔ L 5 i < a := lt_n (by omega) (by omega)
  have e80 : (nI (owS L j) + nI w ≤ 80) ↔ owS L j + w ≤ 80 := by rw [nI_add]; exact le_n (b := 80) (by omega) (by decide)
  have e80' : ((80 : Int32) < nI (owS L j) + nI w) ↔ ¬ owS L j + w ≤ 80 := by
    rw [nI_add]
    refine (lt_n (a := 80) (by decide) (by omega)).trans ?_
    omega
  have hmay : Led_mayLend f (nI i) (nI j) (nI a) (SI 1) (SV 1) = some (if ¬ L 5 i < a ∧ L 7 i = 0 ∧ L 7 j = 0 ∧ ¬ L 8 j = 1 ∧ owS L j + w ≤ 80 then 1 else 0) := by
    unfold Led_mayLend
    rw [gd_nI (by omega) (by decide), cl_nI (by omega), (lp i hi).1, alive_eq f hP hL hi, alive_eq f hP hL hj, broken_eq f hP hL hj, Led_owedBy_eq (by omega) hP hok hL (by omega), hloan]
    simp only [ob1_s, elt]
    by_cases k1 : L 5 i < a
    · rw [if_pos k1, if_neg (fun q => q.1 k1)]
    rw [if_neg k1]
    by_cases k2 : L 7 i = 0
    rotate_left
    · rw [if_neg k2, if_pos rfl, if_neg (fun q => k2 q.2.1)]
    rw [if_pos k2, if_neg (by decide)]
    by_cases k3 : L 7 j = 0
    rotate_left
    · rw [if_neg k3, if_pos rfl, if_neg (fun q => k3 q.2.2.1)]
    rw [if_pos k3, if_neg (by decide)]
    by_cases k4 : L 8 j = 1
    · rw [if_pos k4, if_neg (by decide), if_neg (fun q => q.2.2.2.1 k4)]
    rw [if_neg k4, if_pos rfl]
    by_cases k5 : owS L j + w ≤ 80
    · rw [if_neg (fun q => e80'.mp q k5), if_pos ⟨k1, k2, k3, k4, k5⟩]
    · rw [if_pos (e80'.mpr k5), if_neg (fun q => k5 q.2.2.2.2)]
  rw [hmay, ob1_s] at hx
  rw [hprice, ob1_s] at hm
  simp only [gd_nI (show i < 6 by omega) (show 6 < 2 ^ 31 by decide), gd_nI (show j < 6 by omega) (show 6 < 2 ^ 31 by decide)] at hm
  rw [cl_nI (show i < 2 ^ 31 by omega), cl_nI (show j < 2 ^ 31 by omega), b1, b3, d3, d4, M_owesAll_eq (by omega) hP hok hM1 (by omega), ob1_s, hadd] at hm
  by_cases cOK : ¬ L 5 i < a ∧ L 7 i = 0 ∧ L 7 j = 0 ∧ ¬ L 8 j = 1 ∧ owS L j + w ≤ 80
  rotate_left
  · rw [if_neg cOK, if_pos rfl] at hx
    refine ⟨-3, SI 1, SV 1, SI 2, LaI, LaV, va_up I 0 0, V, hx.symm, ?_, hRel⟩
    rw [← hm]
    by_cases k1 : L 5 i < a
    · rw [if_pos (elt.mpr k1)]
    rw [if_neg (fun q => k1 (elt.mp q))]
    by_cases k2 : L 7 i = 0
    rotate_left
    · rw [if_neg (fun q => k2 (e7i.mp q))]
    rw [if_pos (e7i.mpr k2)]
    by_cases k3 : L 7 j = 0
    rotate_left
    · rw [if_neg (fun q => k3 (e7j.mp q))]
    rw [if_pos (e7j.mpr k3)]
    by_cases k4 : L 8 j = 1
    · rw [if_neg (fun q => e8j.mp q k4)]
    rw [if_pos (e8j.mpr k4)]
    by_cases k5 : owS L j + w ≤ 80
    · exact absurd ⟨k1, k2, k3, k4, k5⟩ cOK
    · rw [if_neg (fun q => k5 (e80.mp q))]
  rw [if_pos cOK, if_neg (by decide), l1] at hx
  obtain ⟨k1, k2, k3, k4, k5⟩ := cOK
  rw [if_neg (fun q => k1 (elt.mp q)), if_pos (e7i.mpr k2), if_pos (e7j.mpr k3), if_pos (e8j.mpr k4), if_pos (e80.mpr k5), show va_up I 0 0 9 = nI (L 0 0) from m9] at hm
  by_cases cD : L 0 0 = 12
  · have cD' : nI (L 0 0) = 12 := by rw [cD]; rfl
    rw [cD', if_neg (by decide)] at hx
    rw [if_pos cD'] at hm
    exact ⟨-4, SI 1, SV 1, SI 2, LaI, LaV, va_up I 0 0, V, hx.symm, hm.symm, hRel⟩
  have hD : L 0 0 < 12 := by omega
  have cD' : ¬ nI (L 0 0) = 12 := fun q => cD (nI_inj (b := 12) (by omega) (by decide) q)
  rw [if_neg cD'] at hm
  rw [if_pos (show nI (L 0 0) < 12 from nI_lt (b := 12) hD (by decide))] at hx
  have hA1 : rAct P (SI 2) LaI LaV (va_up I 0 0) V := hA
  obtain ⟨Ia', LaI', LaV', aa, g, n1, n2, n3⟩ := note_eq hf (SV 2) hP hok hM1 hL hA1
  obtain ⟨D, eD⟩ : ∃ D, D = L 0 0 := ⟨_, rfl⟩
  rw [← eD] at hD m9 l1
  have hsub : nI (L 5 i) - nI a = nI (L 5 i - a) := pk_sub (by omega)
  refine ⟨nI w, va_up (SI 1) 1 (nI (D + 1)), va_up (va_up (va_up (va_up (va_up (SV 1) 5 (upd (upd (SV 1 5) i (nI (L 5 i - a))) j (nI (L 5 j + a)))) 7 (upd (SV 1 7) D (nI i))) 8 (upd (SV 1 8) D (nI j))) 9 (upd (SV 1 9) D (nI w))) 10 (upd (SV 1 10) D (nI (L 0 1 + wk))), Ia', LaI', LaV', va_up (va_up (va_up I 0 0) 24 aa) 9 (nI (D + 1)), va_up (va_up (va_up (va_up (va_up (va_up V 23 g) 5 (upd (upd (V 5) i (nI (L 5 i - a))) j (nI (L 5 j + a)))) 10 (upd (V 10) D (nI i))) 11 (upd (V 11) D (nI j))) 12 (upd (V 12) D (nI w))) 13 (upd (V 13) D (nI (L 0 1 + wk))), ?_, ?_, ?_⟩
  · rw [← hx, n1, ob3_s]
    unfold Led_giveAsLoan
    rw [hloan, ob1_s]
    simp only [nm, gd_nI (show i < 6 by omega) (show 6 < 2 ^ 31 by decide), gd_nI (show j < 6 by omega) (show 6 < 2 ^ 31 by decide)]
    simp only [cl_nI (show i < 2 ^ 31 by omega), cl_nI (show j < 2 ^ 31 by omega), va_up_self, (lp i hi).1, upd_n _ _ (show j ≠ i from fun q => cij q.symm), (lp j hj).1, hsub, nI_add, bx_uu, l2]
    unfold Led_addDebt
    rw [l1, if_neg (show ¬ (12 : Int32) ≤ nI D from nI_ge (b := 12) hD (by decide)), has_p f _ hP l0 hi, ob1_s, if_neg (by decide), has_p f _ hP l0 hj, ob1_s, if_neg (by decide)]
    simp only [nm, gd_nI hD (show 12 < 2 ^ 31 by decide)]
    simp only [cl_nI (show D < 2 ^ 31 by omega), nI_1, ob2_s, ob3_s]
    rfl
  · rw [← hm, n2, ob2_s]
    have u9 : va_up (va_up I 0 0) 24 aa 9 = nI D := m9
    have u14 : va_up (va_up I 0 0) 24 aa 14 = nI (L 0 1) := m14
    have u5 : va_up V 23 g 5 = V 5 := rfl
    rw [u9, u14, u5]
    simp only [gd_nI hD (show 12 < 2 ^ 31 by decide)]
    simp only [cl_nI (show D < 2 ^ 31 by omega), va_up_self, b1, upd_n _ _ (show j ≠ i from fun q => cij q.symm), d1, hsub, nI_add, bx_uu, nI_1]
    rfl
  · refine ⟨P, hP, i4, ⟨va_up (va_up (va_up (va_up (va_up (va_up L 0 (va_up (L 0) 0 (D + 1))) 5 (va_up (va_up (L 5) i (L 5 i - a)) j (L 5 j + a))) 10 (va_up (L 10) D i)) 11 (va_up (L 11) D j)) 12 (va_up (L 12) D w)) 13 (va_up (L 13) D (L 0 1 + wk)), ⟨?_, ?_, ?_, ?_⟩, ⟨?_, ?_, ?_, ?_⟩, ⟨?_, ?_, ?_, ?_, ?_, ?_, ?_⟩⟩, hT, n3, hSl, hDa, z0, z1⟩
    · show D + 1 ≤ 12
      omega
    · show sm (va_up (va_up (L 5) i (L 5 i - a)) j (L 5 j + a)) P ≤ 594
      rw [sm_move (L 5) hi hj cij (by omega)]
      exact hsum
    · exact hok.2.2.1
    · intro x hx
      have hx : x < D + 1 := hx
      show va_up (L 10) D i x < P ∧ va_up (L 11) D j x < P ∧ va_up (L 10) D i x ≠ va_up (L 11) D j x ∧ 1 ≤ va_up (L 12) D w x ∧ va_up (L 12) D w x ≤ 99
      by_cases e : x = D
      · subst e
        rw [va_up_self, va_up_self, va_up_self]
        exact ⟨hi, hj, cij, by omega, by omega⟩
      · rw [va_up_ne _ _ e, va_up_ne _ _ e, va_up_ne _ _ e]
        exact hok.2.2.2 x (by omega)
    · rfl
    · exact m14
    · intro p hp
      refine ⟨?_, (mp p hp).2⟩
      show upd (upd (V 5) i (nI (L 5 i - a))) j (nI (L 5 j + a)) p = nI (va_up (va_up (L 5) i (L 5 i - a)) j (L 5 j + a) p)
      by_cases ej : p = j
      · subst ej; rw [upd_s, va_up_self]
      · rw [upd_n _ _ ej, va_up_ne _ _ ej]
        by_cases ei : p = i
        · subst ei; rw [upd_s, va_up_self]
        · rw [upd_n _ _ ei, va_up_ne _ _ ei]; exact (mp p hp).1
    · intro x hx
      have hx : x < D + 1 := hx
      show upd (V 10) D (nI i) x = nI (va_up (L 10) D i x) ∧ upd (V 11) D (nI j) x = nI (va_up (L 11) D j x) ∧ upd (V 12) D (nI w) x = nI (va_up (L 12) D w x) ∧ upd (V 13) D (nI (L 0 1 + wk)) x = nI (va_up (L 13) D (L 0 1 + wk) x)
      by_cases e : x = D
      · subst e
        simp only [va_up_self, upd_s, and_self]
      · simp only [va_up_ne _ _ e, upd_n _ _ e]
        exact md x (by omega)
    · exact l0
    · rfl
    · exact l2
    · exact l3
    · exact l4
    · intro p hp
      refine ⟨?_, (lp p hp).2⟩
      show upd (upd (SV 1 5) i (nI (L 5 i - a))) j (nI (L 5 j + a)) p = nI (va_up (va_up (L 5) i (L 5 i - a)) j (L 5 j + a) p)
      by_cases ej : p = j
      · subst ej; rw [upd_s, va_up_self]
      · rw [upd_n _ _ ej, va_up_ne _ _ ej]
        by_cases ei : p = i
        · subst ei; rw [upd_s, va_up_self]
        · rw [upd_n _ _ ei, va_up_ne _ _ ei]; exact (lp p hp).1
    · intro x hx
      have hx : x < D + 1 := hx
      show upd (SV 1 7) D (nI i) x = nI (va_up (L 10) D i x) ∧ upd (SV 1 8) D (nI j) x = nI (va_up (L 11) D j x) ∧ upd (SV 1 9) D (nI w) x = nI (va_up (L 12) D w x) ∧ upd (SV 1 10) D (nI (L 0 1 + wk)) x = nI (va_up (L 13) D (L 0 1 + wk) x)
      by_cases e : x = D
      · subst e
        simp only [va_up_self, upd_s, and_self]
      · simp only [va_up_ne _ _ e, upd_n _ _ e]
        exact ld x (by omega)
