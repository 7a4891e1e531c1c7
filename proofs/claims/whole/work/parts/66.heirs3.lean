theorem sm_bit (h s : Nat) : ∀ n, sm (fun q => if h.testBit q then s else 0) n = s * bc h n
  | 0 => rfl
  | n + 1 => by
    rw [sm, sm_bit h s n, bc, Nat.mul_add]
    by_cases c : h.testBit n = true
    · rw [if_pos c, if_pos c, Nat.mul_one]
    · rw [if_neg c, if_neg c, Nat.mul_zero]
theorem bc_pos {h P y : Nat} (hy : y < P) (hb : h.testBit y = true) : 1 ≤ bc h P := by
  have h1 := bc_mono h (k := y + 1) (n := P) (by omega)
  rw [bc, if_pos hb] at h1
  omega
/-- what each has after the heirs got their shares -/
def hrS (h y s r : Nat) (m : Nat → Nat) (q : Nat) : Nat := m q + (if h.testBit q then s + (if q = y then r else 0) else 0)
theorem hrS_sum {h y s r P : Nat} {m : Nat → Nat} (hy : y < P) (hb : h.testBit y = true) : sm (hrS h y s r m) P = sm m P + (s * bc h P + r) := by
  have e : hrS h y s r m = fun q => m q + ((if h.testBit q then s else 0) + (if y = q then r else 0)) := by
    funext q
    unfold hrS
    by_cases c : h.testBit q = true
    · rw [if_pos c, if_pos c]
      by_cases c2 : q = y
      · rw [if_pos c2, if_pos c2.symm]
      · rw [if_neg c2, if_neg (fun q => c2 q.symm)]
    · rw [if_neg c, if_neg c, if_neg]
      intro q2
      rw [q2] at hb
      exact c hb
  rw [e, sm_add, sm_add, sm_bit, sm_one y r P hy]
theorem late_iff {h P : Nat} {L : Nat → Nat → Nat} (hP : P ≤ 6) (hh : h < 2 ^ P) : (nI h &&& (nI (bm (fun p => L 7 p == 0) P) ^^^ (-1))) = 0 ↔ ∀ z, z < P → h.testBit z = true → L 7 z = 0 := by
  have h2 : (2 : Nat) ^ P ≤ 2 ^ 6 := Nat.pow_le_pow_right (by decide) hP
  rw [andn h (by omega) _ (bm64 _ hP)]
  have hlt : h &&& (63 ^^^ bm (fun p => L 7 p == 0) P) < 2 ^ 31 := Nat.lt_of_le_of_lt Nat.and_le_left (by omega)
  have e0 : (nI (h &&& (63 ^^^ bm (fun p => L 7 p == 0) P)) = 0) ↔ h &&& (63 ^^^ bm (fun p => L 7 p == 0) P) = 0 := by
    rw [← nI_0]; exact nI_eq hlt (by decide)
  rw [e0]
  have hbit : ∀ i, (h &&& (63 ^^^ bm (fun p => L 7 p == 0) P)).testBit i = (h.testBit i && (decide (i < 6) ^^ (decide (i < P) && (L 7 i == 0)))) := by
    intro i
    rw [Nat.testBit_and, Nat.testBit_xor, bm_bit, show (63 : Nat) = 2 ^ 6 - 1 from rfl, Nat.testBit_two_pow_sub_one]
  constructor
  · intro q z hz hb
    have := hbit z
    rw [q, Nat.zero_testBit, hb] at this
    simp [hz, show z < 6 by omega] at this
    exact this
  · intro q
    apply Nat.eq_of_testBit_eq
    intro i
    rw [hbit, Nat.zero_testBit]
    by_cases e : i < P
    · by_cases hb : h.testBit i = true
      · simp [e, show i < 6 by omega, q i e hb]
      · simp [hb]
    · rw [Nat.testBit_lt_two_pow (Nat.lt_of_lt_of_le hh (Nat.pow_le_pow_right (by decide) (by omega)))]
      rfl
theorem S_heirs {f : Nat} (hf : 1000 ≤ f) : Sim_heirs Rel f := by
  intro SI SV LaI LaV LsI LsV I V a0 a1 h
  have h0 := h
  obtain ⟨P, hP, i4, ⟨L, hok, hM, hL⟩, hT, hA, hSl, hDa, z0, z1⟩ := h
  have hRel : Rel (va_up (va_up SI 1 (SI 1)) 2 (SI 2)) (va_up SV 1 (SV 1)) LaI LaV LsI LsV (va_up I 0 0) V := by rw [up_id, up_id, up_id]; exact Rel_ag h0 (agI_0 I 0) (agV_rf V)
  obtain ⟨m9, m14, mp, md⟩ := id hM
  obtain ⟨l0, l1, l2, l3, l4, lp, ld⟩ := id hL
  have hd := hok.1
  have j4 : va_up I 0 0 4 = nI P := i4
  have h2P : (2 : Nat) ^ P ≤ 2 ^ 6 := Nat.pow_le_pow_right (by decide) hP
  have h1P := Nat.two_pow_pos P
  by_cases c : a0 < 0 ∨ nI P ≤ a0
  · refine ⟨-1, SI 1, SV 1, SI 2, LaI, LaV, va_up I 0 0, V, ?_, ?_, hRel⟩
    · unfold X_heirs
      rw [has_eq f a0 _ hP l0, if_pos c]
      rfl
    · unfold M_heirs
      simp only [nm]
      rw [noOne_eq f a0 V hP j4, if_pos c]
      rfl
  obtain ⟨p, hp, rfl⟩ := one_of (by omega) c
  have hin : M_in f a1.toInt64 1 (((1 : Int32) <<< ((va_up I 0 0 4) &&& 31)) - 1).toInt64 = some (if (1 : Int32) ≤ a1 ∧ a1 ≤ nI (2 ^ P - 1) then 1 else 0) := by
    rw [j4, sh1 P (by omega)]
    rw [show nI (2 ^ P) - 1 = nI (2 ^ P - 1) from pk_sub (b := 1) (Nat.one_le_two_pow)]
    exact in_c f a1 1 (nI (2 ^ P - 1))
  obtain ⟨m0, hm⟩ : ∃ m, M_heirs f (nI p) a1 I V = m := ⟨_, rfl⟩
  obtain ⟨x0, hx⟩ : ∃ x, X_heirs f (nI p) a1 (SI 99) (SV 99) (SI 1) (SV 1) (SI 2) (SV 2) LaI LaV = x := ⟨_, rfl⟩
  rw [hm, hx]
  unfold X_heirs at hx
  rw [has_p f _ hP l0 hp, ob1_s, if_neg (by decide), areAll_eq f a1 _ hP l0] at hx
  unfold M_heirs at hm
  simp only [nm] at hm
  rw [noOne_p f V hP j4 hp, ob1_s, if_pos rfl, hin] at hm
  by_cases cr : (1 : Int32) ≤ a1 ∧ a1 ≤ nI (2 ^ P - 1)
  rotate_left
  · rw [if_neg cr, ob1_s, if_pos rfl] at hm
    refine ⟨-2, SI 1, SV 1, SI 2, LaI, LaV, va_up I 0 0, V, ?_, hm.symm, hRel⟩
    rw [← hx]
    by_cases cs : (a1 &&& (nI (2 ^ P - 1) ^^^ (-1))) = 0
    · rw [if_pos cs, ob1_s, if_neg (by decide), if_pos]
      obtain ⟨w, hw, rfl⟩ := (set_iff hP a1).mp cs
      by_cases e : w = 0
      · rw [e]; rfl
      · exact absurd ((rng_h hP (nI w)).mpr ⟨w, by omega, hw, rfl⟩) cr
    · rw [if_neg cs, ob1_s, if_pos rfl]
  rw [if_pos cr, ob1_s, if_neg (by decide)] at hm
  obtain ⟨w, hw1, hw2, rfl⟩ := (rng_h hP a1).mp cr
  have hw64 : w < 64 := by omega
  rw [if_pos ((set_iff hP (nI w)).mpr ⟨w, hw2, rfl⟩), ob1_s, if_neg (by decide), if_neg (show ¬ nI w = 0 from fun q => by have := nI_inj (b := 0) (by omega) (by decide) q; omega), isIn_eq f hw64 (by omega), ob1_s] at hx
  rw [mhas_eq f hw64 (by omega), ob1_s] at hm
  by_cases cb : w.testBit p = true
  · rw [if_pos cb, if_neg (by decide)] at hm hx
    exact ⟨-2, SI 1, SV 1, SI 2, LaI, LaV, va_up I 0 0, V, hx.symm, hm.symm, hRel⟩
  rw [if_neg cb, if_pos rfl] at hm hx
  obtain ⟨b1, b2, b3, b4⟩ := mp p hp
  have op := hok.2.2.1 p hp
  have b3' : V 7 (nI p).toNatClampNeg = nI (L 7 p) := by rw [cl_nI (by omega)]; exact b3
  rw [gd_nI (by omega) (by decide), b3', j4] at hm
  obtain ⟨x4, b', q1, q2, q3, q4⟩ := heirs66 f (V := V) (d := L 7) hP hw64 (fun q hq => ⟨(hok.2.2.1 q hq).2.1, (mp q hq).2.2.1⟩) (fun (x3_66 : Int32) (x4_66 : Int32) (x5_66 : Int32) => (if x5_66 = 0 then ob2 (M_note f (va_up I 0 0) V) (fun I8 V9 => if nI p < 0 ∨ 6 ≤ (nI p).toNatClampNeg then none else (if x3_66 = 0 then none else (if x4_66 < 0 ∨ 6 ≤ x4_66.toNatClampNeg then none else (if nI p < 0 ∨ 6 ≤ (nI p).toNatClampNeg then none else (if x3_66 = 0 then none else (if x4_66 < 0 ∨ 6 ≤ x4_66.toNatClampNeg then none else (M_heirs_L158 f I8 (nI w) (((V9 5) (nI p).toNatClampNeg) / x3_66) (fun (Vm_158 : FV) => if nI p < 0 ∨ 6 ≤ (nI p).toNatClampNeg then none else (if nI p < 0 ∨ 6 ≤ (nI p).toNatClampNeg then none else (M_heirs_L218 f (nI p) x4_66 (fun (x7_218 : Int32) (Im_218 : FI) (Vm_218 : FV) => some (x7_218, Im_218, Vm_218)) f 0 0 I8 (va_up (va_up Vm_158 5 (upd (Vm_158 5) (nI p).toNatClampNeg 0)) 7 (upd ((va_up Vm_158 5 (upd (Vm_158 5) (nI p).toNatClampNeg 0)) 7) (nI p).toNatClampNeg (vp_nar .boolean 1)))))) f 0 (va_up V9 5 (upd (V9 5) x4_66.toNatClampNeg (((V9 5) x4_66.toNatClampNeg) + (((V9 5) (nI p).toNatClampNeg) - ((V9 5) (nI p).toNatClampNeg) / x3_66 * x3_66))))))))))) else some ((-3), va_up I 0 0, V))) (L 7 p) f P (-9) (L 7 p) (Nat.le_refl _) (by omega) op.2.1 (Or.inr (fun z z1 z2 => by omega)) (by
    constructor
    · intro q; exact ⟨q, fun z z1 z2 => by omega⟩
    · intro q; exact q.1)
  rw [Nat.sub_self] at q1
  have hm2 := q1.symm.trans hm
  clear hm q1
  rw [alive_eq f hP hL hp, ob1_s, l3] at hx
  have eb : (nI b' = 0) ↔ b' = 0 := by rw [← nI_0]; exact nI_eq (by omega) (by omega)
  by_cases cl : b' = 0
  rotate_left
  · rw [if_neg (fun q => cl (eb.mp q))] at hm2
    refine ⟨-3, SI 1, SV 1, SI 2, LaI, LaV, va_up I 0 0, V, ?_, hm2.symm, hRel⟩
    rw [← hx]
    by_cases k1 : L 7 p = 0
    · rw [if_pos k1, if_neg (by decide), if_neg]
      intro q
      exact cl (q4.mpr ⟨k1, (late_iff hP hw2).mp q⟩)
    · rw [if_neg k1, if_pos rfl]
  rw [if_pos (eb.mpr cl)] at hm2
  obtain ⟨k1, k2⟩ := q4.mp cl
  rw [if_pos k1, if_neg (by decide), if_pos ((late_iff hP hw2).mpr k2)] at hx
  obtain ⟨y, hy, yb, yz⟩ := least_ex hw1 hw2
  have hx4 : x4 = nI y := by
    rcases q3 with ⟨y', a1, a2, a3, a4⟩ | q3
    · rw [a4]
      congr 1
      rcases Nat.lt_trichotomy y y' with e | e | e
      · have := a3 y e; rw [yb] at this; exact absurd this (by decide)
      · exact e.symm
      · have := yz y' e; rw [a2] at this; exact absurd this (by decide)
    · have := q3 y hy; rw [yb] at this; exact absurd this (by decide)
  subst hx4
  have hyp : y ≠ p := fun q => by rw [q] at yb; exact cb yb
  have hM1 : tM P L (va_up I 0 0) V := hM
  have hA1 : rAct P (SI 2) LaI LaV (va_up I 0 0) V := hA
  obtain ⟨Ia', LaI', LaV', aa, g, n1, n2, n3⟩ := note_eq hf (SV 2) hP hok hM1 hL hA1
  obtain ⟨s0, hs0⟩ : ∃ s0, s0 = bc w P := ⟨_, rfl⟩
  have s0pos : 1 ≤ s0 := by rw [hs0]; exact bc_pos hy yb
  have s0le : s0 ≤ 6 := by rw [hs0]; have := bc_le w P; omega
  have hmp := sm_le (L 5) P p hp
  have hsum := hok.2.1
  obtain ⟨s, hs⟩ : ∃ s, s = L 5 p / s0 := ⟨_, rfl⟩
  obtain ⟨r, hr⟩ : ∃ r, r = L 5 p % s0 := ⟨_, rfl⟩
  have hsr : s * s0 + r = L 5 p := by rw [hs, hr, Nat.mul_comm]; exact Nat.div_add_mod _ _
  have ndiv : nI (L 5 p) / nI s0 = nI s := by rw [hs]; exact pk_div (by omega) (by omega) (by omega)
  have nrem : nI (L 5 p) - nI (L 5 p) / nI s0 * nI s0 = nI r := by rw [hr]; exact pk_rem (by omega) (by omega) (by omega)
  have ns0 : ¬ nI s0 = 0 := fun q => by have := nI_inj (b := 0) (by omega) (by decide) q; omega
  -- the reference
  rw [n2, ob2_s, ← hs0] at hm2
  have u5 : va_up V 23 g 5 = V 5 := rfl
  rw [gd_nI (show p < 6 by omega) (by decide), if_neg ns0, gd_nI (show y < 6 by omega) (by decide), gd_nI (show p < 6 by omega) (by decide), if_neg ns0, gd_nI (show y < 6 by omega) (by decide), u5] at hm2
  rw [cl_nI (show p < 2 ^ 31 by omega), cl_nI (show y < 2 ^ 31 by omega), b1, (mp y hy).1, nrem, ndiv, nI_add] at hm2
  obtain ⟨gm, p1, p2⟩ := heirs158 f (I := va_up (va_up I 0 0) 24 aa) (s := s) hP i4 hw64 (va_up V 23 g) (fun q => if q = y then L 5 y + r else L 5 q) (fun (Vm_158 : FV) => if nI p < 0 ∨ 6 ≤ p then none else (if nI p < 0 ∨ 6 ≤ p then none else (M_heirs_L218 f (nI p) (nI y) (fun (x7_218 : Int32) (Im_218 : FI) (Vm_218 : FV) => some (x7_218, Im_218, Vm_218)) f 0 0 (va_up (va_up I 0 0) 24 aa) (va_up (va_up Vm_158 5 (upd (Vm_158 5) p 0)) 7 (upd ((va_up Vm_158 5 (upd (Vm_158 5) p 0)) 7) p (vp_nar .boolean 1)))))) f 0 (upd (V 5) y (nI (L 5 y + r))) (by omega) (by omega) (fun q hq => absurd hq (Nat.not_lt_zero _)) (fun q _ hq => by
    by_cases e : q = y
    · rw [e, upd_s, if_pos rfl]
    · rw [upd_n _ _ e, if_neg e]; exact (mp q hq).1)
  have hm3 := p1.symm.trans hm2
  clear hm2 p1
  have g6 : ¬ (nI p < 0 ∨ 6 ≤ p) := by
    rintro (z | z)
    · exact nI_pos (by omega) z
    · omega
  rw [if_neg g6, if_neg g6, va_up_self] at hm3
  have p3 : ∀ q, q < P → gm q = nI (hrS w y s r (L 5) q) := by
    intro q hq
    rw [p2 q hq]
    congr 1
    unfold hrS
    by_cases e : q = y
    · rw [e, if_pos rfl, if_pos yb, if_pos yb, if_pos rfl]; omega
    · rw [if_neg e]
      by_cases e2 : w.testBit q = true
      · rw [if_pos e2, if_pos e2, if_neg e, Nat.add_zero]
      · rw [if_neg e2, if_neg e2]
  -- the class
  rw [n1, ob3_s] at hx
  unfold Led_passOn at hx
  have hleast : Led_leastOf f (nI w) (SI 1) (SV 1) = some (nI y) := least2 f hP l0 hw64 hy yb yz _ f 0 (by omega) (by omega)
  have hbc6 : bc w 6 = s0 := by rw [hs0]; exact bc_P hw2 6 hP
  rw [bitc_f f hw64, ob1_s, hbc6, if_neg ns0, hleast, ob1_s] at hx
  simp only [nm] at hx
  rw [gd_nI (show p < 6 by omega) (by decide), if_neg ns0, gd_nI (show p < 6 by omega) (by decide), if_neg ns0, cl_nI (show p < 2 ^ 31 by omega), (lp p hp).1, nrem, ndiv] at hx
  obtain ⟨gx, t1, t2⟩ := passOn41 f (I := SI 1) (s := s) (r := r) hP l0 hw64 hy (SV 1) (L 5) (fun (Vg_41 : FV) => if nI p < 0 ∨ 6 ≤ p then none else (ob3 (Led_passDebtsOn f (nI p) (nI y) (va_up (SI 1) 3 ((SI 1 3) &&& ((1 <<< (nI p &&& 31)) ^^^ (-1)))) (va_up Vg_41 5 (upd (Vg_41 5) p 0))) (fun zr9 I10 V11 => some (zr9, I10, V11)))) f 0 (SV 1 5) (by omega) (by omega) (fun q hq => absurd hq (Nat.not_lt_zero _)) (fun q _ hq => (lp q hq).1)
  rw [up_id] at t1
  have hx3 := (congrArg (fun z => ob3 z (fun zr9 I10 V11 => some (zr9, I10, V11, Ia', LaI', LaV'))) t1.symm).trans hx
  clear hx t1
  try dsimp only at hx3
  rw [if_neg g6, va_up_self] at hx3
  unfold Led_passDebtsOn at hx3
  simp only [nm] at hx3
  rw [l3, sh1 p (by omega), andn _ (bm64 _ hP) _ (show 2 ^ p < 64 from Nat.pow_lt_pow_right (n := 6) (by decide) (by omega))] at hx3
  have hbm : bm (fun p => L 7 p == 0) P &&& (63 ^^^ 2 ^ p) = bm (fun q => va_up (L 7) p 1 q == 0) P := by
    apply Nat.eq_of_testBit_eq
    intro i
    rw [Nat.testBit_and, Nat.testBit_xor, bm_bit, bm_bit, show (63 : Nat) = 2 ^ 6 - 1 from rfl, Nat.testBit_two_pow_sub_one, Nat.testBit_two_pow]
    by_cases e : i < P
    · by_cases e2 : i = p
      · rw [e2, va_up_self]; simp [show p < 6 by omega]
      · rw [va_up_ne _ _ e2]; simp [e, show i < 6 by omega, show ¬ p = i from fun q => e2 q.symm]
    · simp [e]
  rw [hbm] at hx3
  obtain ⟨L1, eL1⟩ : ∃ L1, L1 = va_up (va_up L 5 (va_up (hrS w y s r (L 5)) p 0)) 7 (va_up (L 7) p 1) := ⟨_, rfl⟩
  have hrp : hrS w y s r (L 5) p = L 5 p := by unfold hrS; rw [if_neg cb, Nat.add_zero]
  have hsm : sm (va_up (hrS w y s r (L 5)) p 0) P ≤ 594 := by
    have a1 := sm_up (hrS w y s r (L 5)) p 0 P hp
    rw [hrS_sum hy yb, ← hs0, hsr, hrp] at a1
    omega
  have wI0 : wI P (L 0 0) 0 0 (L 0 1) (fun _ => 0) L1 (va_up (SI 1) 3 (nI (bm (fun q => va_up (L 7) p 1 q == 0) P))) (va_up (va_up (SV 1) 5 gx) 5 (upd gx p 0)) (va_up (va_up I 0 0) 24 aa) (va_up (va_up (va_up (va_up V 23 g) 5 gm) 5 (upd gm p 0)) 7 (upd ((va_up (va_up (va_up V 23 g) 5 gm) 5 (upd gm p 0)) 7) p (vp_nar .boolean 1))) := by
    rw [eL1]
    refine ⟨⟨Nat.le_refl _, Nat.zero_le _, hsm⟩, fun q hq => ⟨(hok.2.2.1 q hq).1, ?_, (hok.2.2.1 q hq).2.2, fun e => absurd (show (0 : Nat) = 1 from e) (by decide)⟩, fun z hz => hok.2.2.2 z (by omega), ⟨i4, ?_, m14⟩, fun q hq => ?_, fun z hz => absurd hz (Nat.not_lt_zero _), fun t ht => ?_, ⟨l0, l1, l2, rfl, l4⟩, fun q hq => ?_, fun z hz => ld z (by omega)⟩
    · show va_up (L 7) p 1 q ≤ 1
      by_cases e : q = p
      · rw [e, va_up_self]; exact Nat.le_refl _
      · rw [va_up_ne _ _ e]; exact (hok.2.2.1 q hq).2.1
    · show I 9 = _
      rw [m9]
      congr 1
      omega
    · refine ⟨?_, (mp q hq).2.1, ?_, (mp q hq).2.2.2⟩
      · show upd gm p 0 q = nI (va_up (hrS w y s r (L 5)) p 0 q)
        by_cases e : q = p
        · rw [e, va_up_self, upd_s]; rfl
        · rw [va_up_ne _ _ e, upd_n _ _ e]; exact p3 q hq
      · show upd (V 7) p (vp_nar .boolean 1) q = nI (va_up (L 7) p 1 q)
        by_cases e : q = p
        · rw [e, va_up_self, upd_s]; rfl
        · rw [va_up_ne _ _ e, upd_n _ _ e]; exact (mp q hq).2.2.1
    · rw [Nat.zero_add]
      exact md t (by omega)
    · refine ⟨?_, (lp q hq).2⟩
      show upd gx p 0 q = nI (va_up (hrS w y s r (L 5)) p 0 q)
      by_cases e : q = p
      · rw [e, va_up_self, upd_s]; rfl
      · rw [va_up_ne _ _ e, upd_n _ _ e]; exact t2 q hq
  obtain ⟨c', L', Vg', Im', Vm', r1, r2, r3, r4, r5⟩ := heirs_loop (f := f) (by omega) hP hd hp hy (fun (x4_11 : Int32) (Vg_11 : FV) => some ((nI (L 0 0) - x4_11), va_up (va_up (SI 1) 3 (nI (bm (fun q => va_up (L 7) p 1 q == 0) P))) 1 x4_11, Vg_11)) (fun (x7_218 : Int32) (Im_218 : FI) (Vm_218 : FV) => some (x7_218, Im_218, Vm_218)) f 0 0 L1 _ _ _ wI0 (by omega)
  obtain ⟨⟨g1, g2, g3⟩, g4, g5, ⟨g6, g7, g8⟩, g9, g10, g11, ⟨y0, y1, y2, y3, y4⟩, g13, g14⟩ := id r1
  have u1 : va_up (SI 1) 3 (nI (bm (fun q => va_up (L 7) p 1 q == 0) P)) 1 = nI (L 0 0) := l1
  rw [u1] at hx3
  have hx4 := (congrArg (fun z => ob3 (ob3 z (fun zr9 I10 V11 => some (zr9, I10, V11))) (fun zr9 I10 V11 => some (zr9, I10, V11, Ia', LaI', LaV'))) r4.symm).trans hx3
  have hm4 := r5.symm.trans hm3
  refine ⟨nI (L 0 0 - c'), va_up (va_up (SI 1) 3 (nI (bm (fun q => va_up (L 7) p 1 q == 0) P))) 1 (nI c'), Vg', Ia', LaI', LaV', Im', Vm', ?_, hm4.symm, ?_⟩
  · rw [← hx4]
    show some (nI (L 0 0) - nI c', _, _, _, _, _) = _
    rw [pk_sub (by omega)]
  · have f4 : ∀ s, s ≠ 9 → s ≠ 24 → s ≠ 0 → Im' s = I s := fun s s1 s3 s4 => by rw [r2 s s1, va_up_ne _ _ s3, va_up_ne _ _ s4]
    have fV : ∀ s, s ≠ 5 → s ≠ 7 → s ≠ 10 → s ≠ 11 → s ≠ 12 → s ≠ 13 → s ≠ 23 → Vm' s = V s := fun s s1 s2 s3 s4 s5 s6 s7 => by rw [r3 s s3 s4 s5 s6, va_up_ne _ _ s2, va_up_ne _ _ s1, va_up_ne _ _ s1, va_up_ne _ _ s7]
    refine ⟨P, hP, g6, ⟨va_up L' 0 (va_up (fun _ => c') 1 (L 0 1)), ⟨?_, ?_, ?_, ?_⟩, ⟨?_, ?_, ?_, ?_⟩, ⟨?_, ?_, ?_, ?_, ?_, ?_, ?_⟩⟩, ?_, ?_, ?_, ?_, z0, z1⟩
    · show c' ≤ 12
      omega
    · exact g3
    · exact fun q hq => ⟨(g4 q hq).1, (g4 q hq).2.1, (g4 q hq).2.2.1⟩
    · exact fun j hj => g5 j (Or.inl hj)
    · show Im' 9 = nI c'
      rw [g7]; congr 1; omega
    · exact g8
    · exact g9
    · exact fun j hj => g10 j hj
    · exact y0
    · rfl
    · exact y2
    · exact y3
    · exact y4
    · exact g13
    · exact fun j hj => g14 j (Or.inl hj)
    · unfold rTxt
      rw [f4 2 (by decide) (by decide) (by decide), fV 1 (by decide) (by decide) (by decide) (by decide) (by decide) (by decide) (by decide)]
      exact hT
    · obtain ⟨K, F, a1, a2, a3, a4, a5, a6⟩ := n3
      refine ⟨K, F, a1, a2, ?_, a4, a5, ?_⟩
      · rw [r2 24 (by decide)]; exact a3
      · rw [r3 23 (by decide) (by decide) (by decide) (by decide)]
        exact a6
    · unfold rSlt
      rw [fV 25 (by decide) (by decide) (by decide) (by decide) (by decide) (by decide) (by decide), fV 26 (by decide) (by decide) (by decide) (by decide) (by decide) (by decide) (by decide)]
      exact hSl
    · unfold rDay
      rw [f4 27 (by decide) (by decide) (by decide), fV 28 (by decide) (by decide) (by decide) (by decide) (by decide) (by decide) (by decide), fV 29 (by decide) (by decide) (by decide) (by decide) (by decide) (by decide) (by decide), fV 30 (by decide) (by decide) (by decide) (by decide) (by decide) (by decide) (by decide)]
      exact hDa
