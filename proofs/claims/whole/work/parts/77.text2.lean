theorem part_D (f : Nat) {t s p d : Nat} {b : Nat → Nat} {It : FI} {Vt : FV} {I : FI} {V : FV} (h : okB t b It Vt I V) (hs : s < t) (hp2 : 2 ≤ p) (hp : p ≤ 6) (hd : d < 8) (h68 : b s = 68) (i15 : I 15 = nI p) (i16 : I 16 = nI d) : (∃ r, r < 2 ^ 30 ∧ (∀ n, Txt_firstFault_L9 f It Vt (kF It) (n + 6) (nI p) (nI d) (nI s) (nI s) = some (nI r)) ∧ M_readPart f (va_up I 3 (nI s)) V = some (0, va_up I 3 (nI r), V)) ∨ (s + 6 ≤ t ∧ ∃ c e m w, c < p ∧ e < p ∧ c ≠ e ∧ 1 ≤ m ∧ m ≤ 99 ∧ (∀ n, Txt_firstFault_L9 f It Vt (kF It) (n + 6) (nI p) (nI d) (nI s) (nI s) = Txt_firstFault_L9 f It Vt (kF It) n (nI p) (nI (d + 1)) (nI (s + 6)) (nI (s + 6))) ∧ M_readPart f (va_up I 3 (nI s)) V = some (1, va_up (va_up I 3 (nI (s + 6))) 16 (nI (d + 1)), VD V d c e m w) ∧ Txt_digitAt f (nI (s + 1)) It Vt = some (nI c) ∧ Txt_digitAt f (nI (s + 2)) It Vt = some (nI e) ∧ Txt_twoDigitsAt f (nI (s + 3)) It Vt = some (nI m) ∧ Txt_digitAt f (nI (s + 5)) It Vt = some (nI w)) := by
  have h0 := h
  obtain ⟨t1, t2, t3, t4⟩ := h
  obtain ⟨b1, b2, b3⟩ := t4 s hs
  have hR : M_readPart f (va_up I 3 (nI s)) V = ob3 (M_readDebt f (va_up I 3 (nI (s + 1))) V) (fun zr7 I8 V9 => if zr7 &&& 1 = zr7 then some (zr7, I8, V9) else none) := by
    unfold M_readPart
    rw [va_up_self, gd_nI (show s < 80 by omega) (by decide), cl_nI (by omega), b2]
    refine nmq (nmq ?_)
    rw [if_neg (show ¬ nI (b s) = 80 by rw [h68]; decide), if_pos (show nI (b s) = 68 by rw [h68]; rfl), show va_up I 3 (nI s) 16 = nI d from i16, if_neg (show ¬ (8 : Int32) ≤ nI _ from nI_ge (b := 8) hd (by decide)), show va_up I 3 (nI s) 15 = nI p from i15, if_neg (show ¬ nI p ≤ 1 from nI_ge (a := 1) (b := p) (by omega) (by omega))]
    refine nmq ?_
    rw [bx_uu, nI_1]
  have st : ∀ n, Txt_firstFault_L9 f It Vt (kF It) (n + 1) (nI p) (nI d) (nI s) (nI s) = Txt_firstFault_L9 f It Vt (kF It) n (nI p) (nI d) (nI s) (nI (s + 1)) := fun n => by
    rw [ff_0 f h0 hs (by omega) (by omega), if_pos (Or.inr ⟨h68, hp2, hd⟩)]
  have eP : ∀ q, (va_up I 3 (nI q) 15 - 1).toInt = ((p - 1 : Nat) : Int) := fun q => by
    rw [show va_up I 3 (nI q) 15 = nI p from i15, show (nI p - 1).toInt = (p : Int) - 1 from pk_sub_toInt (a := p) (b := 1) (by omega) (by decide)]
    omega
  have nz1 : ∀ q, dgt b t q → ¬ nI (b q - 48) = -9 := fun q h => m9 (by have := h.2; omega)
  rw [hR]
  -- the one it is owed
  by_cases d1 : dgt b t (s + 1) ∧ b (s + 1) - 48 < p
  rotate_left
  · left
    have hq : M_readDebt f (va_up I 3 (nI (s + 1))) V = some (0, va_up I 3 (nI (s + 1)), V) := by
      unfold M_readDebt
      rw [fig_n f h0 z0t (eP _) (by omega) (fun z => d1 ⟨⟨z.1, by omega, by omega⟩, by omega⟩), ob3_s]
      exact nmq (nmq (ifp rfl (nmq (ifp rfl (nmq (ifp rfl (nmq (ifp rfl (ifp rfl rfl)))))))))
    refine ⟨s + 1, by omega, fun n => ?_, ?_⟩
    · by_cases dd : dgt b t (s + 1)
      · have hz : Txt_mayStandInDebt f (nI (s + 1)) (nI 1) (nI (b (s + 1) - 48)) (nI p) It Vt = some 0 := by
          unfold Txt_mayStandInDebt
          rw [if_pos (by decide), if_pos (nI_le (by omega) (by have := dd.2; omega))]
        rw [st, ff_D f h0 (o := 1) rfl (by omega) h68 dd hz (Or.inl rfl), if_pos rfl]
      · rw [st, ff_no f h0 (by omega) (by omega) dd]
    · rw [hq, ob3_s, if_pos (by decide)]
  obtain ⟨d1, d1p⟩ := d1
  have s1 : ∀ n, Txt_firstFault_L9 f It Vt (kF It) (n + 1 + 1) (nI p) (nI d) (nI s) (nI s) = Txt_firstFault_L9 f It Vt (kF It) n (nI p) (nI d) (nI s) (nI (s + 2)) := fun n => by
    have hz : Txt_mayStandInDebt f (nI (s + 1)) (nI 1) (nI (b (s + 1) - 48)) (nI p) It Vt = some 1 := by
      unfold Txt_mayStandInDebt
      rw [if_pos (by decide), if_neg (nI_ge d1p (by omega))]
    rw [st, ff_D f h0 (o := 1) rfl (by omega) h68 d1 hz (Or.inr rfl), if_neg (by decide), if_neg (by omega)]
  -- the one that owes
  have sameb : ∀ q, q < t → ((V 1 q - 48 = nI (b (s + 1) - 48)) ↔ b q = b (s + 1)) := fun q hq => by
    obtain ⟨c1, c2, c3⟩ := t4 q hq
    have k1 : (nI (b q) - 48).toInt = (b q : Int) - 48 := pk_sub_toInt (a := b q) (b := 48) (by omega) (by decide)
    have k2 : (nI (b (s + 1) - 48)).toInt = ((b (s + 1) - 48 : Nat) : Int) := nI_toInt (by have := d1.2; omega)
    have := d1.2
    rw [c2]
    constructor
    · intro z
      rw [z, k2] at k1
      omega
    · intro z
      apply Int32.toInt_inj.mp
      rw [k1, k2]
      omega
  by_cases d2 : dgt b t (s + 2) ∧ b (s + 2) - 48 < p ∧ b (s + 2) ≠ b (s + 1)
  rotate_left
  · left
    have hq : M_readDebt f (va_up I 3 (nI (s + 1))) V = some (0, va_up I 3 (nI (s + 2)), V) := by
      unfold M_readDebt
      rw [fig_y f h0 z0t (eP _) d1.1 (by have := d1.2; omega) (by have := d1.2; omega), ob3_s]
      refine nmq (nmq ?_)
      rw [if_neg (nz1 _ d1)]
      refine nmq ?_
      rw [show va_up I 3 (nI (s + 1 + 1)) 2 = nI t from t2, va_up_self]
      by_cases e1 : t ≤ s + 2
      · rw [if_pos (nI_le e1 (by omega)), fig_n f h0 z0t (eP _) (by have := d1.1; omega) (fun z => by have := z.1; omega), ob3_s]
        exact nmq (ifp rfl (nmq (ifp rfl (nmq (ifp rfl (ifp rfl rfl))))))
      · have e1' : s + 2 < t := by omega
        rw [if_neg (nI_ge e1' (by omega)), gd_nI (show s + 1 + 1 < 80 by omega) (by decide), cl_nI (by omega)]
        by_cases e2 : b (s + 2) = b (s + 1)
        · rw [if_pos ((sameb (s + 2) e1').mpr e2)]
          exact nmq (ifp rfl (nmq (ifp rfl (nmq (ifp rfl (ifp rfl rfl))))))
        · rw [if_neg (fun z => e2 ((sameb (s + 2) e1').mp z)), fig_n f h0 z0t (eP _) (by omega) (fun z => by
            have z : s + 2 < t ∧ 0 + 48 ≤ b (s + 2) ∧ b (s + 2) ≤ p - 1 + 48 := z
            exact d2 ⟨⟨e1', by omega, by omega⟩, by omega, e2⟩), ob3_s]
          exact nmq (ifp rfl (nmq (ifp rfl (nmq (ifp rfl (ifp rfl rfl))))))
    refine ⟨s + 2, by omega, fun n => ?_, ?_⟩
    · by_cases dd : dgt b t (s + 2)
      · have hz : Txt_mayStandInDebt f (nI (s + 2)) (nI 2) (nI (b (s + 2) - 48)) (nI p) It Vt = some 0 := by
          unfold Txt_mayStandInDebt
          rw [if_neg (by decide), if_pos (by decide)]
          by_cases e3 : b (s + 2) - 48 < p
          · have e4 : b (s + 2) = b (s + 1) := Decidable.byContradiction (fun z => d2 ⟨dd, e3, z⟩)
            rw [if_neg (nI_ge e3 (by omega)), show nI (s + 2) - 1 = nI (s + 1) from nI_pred (s + 1), dig_y f h0 d1, ob1_s, e4, if_pos rfl]
          · rw [if_pos (nI_le (by omega) (by have := dd.2; omega))]
        rw [show n + 6 = n + 4 + 1 + 1 from rfl, s1, ff_D f h0 (o := 2) rfl (by omega) h68 dd hz (Or.inl rfl), if_pos rfl]
      · rw [show n + 6 = n + 4 + 1 + 1 from rfl, s1, ff_no f h0 (by omega) (by have := d1.1; omega) dd]
    · rw [hq, ob3_s, if_pos (by decide)]
  obtain ⟨d2, d2p, d2n⟩ := d2
  have s2 : ∀ n, Txt_firstFault_L9 f It Vt (kF It) (n + 1 + 1 + 1) (nI p) (nI d) (nI s) (nI s) = Txt_firstFault_L9 f It Vt (kF It) n (nI p) (nI d) (nI s) (nI (s + 3)) := fun n => by
    have hz : Txt_mayStandInDebt f (nI (s + 2)) (nI 2) (nI (b (s + 2) - 48)) (nI p) It Vt = some 1 := by
      unfold Txt_mayStandInDebt
      rw [if_neg (by decide), if_pos (by decide), if_neg (nI_ge d2p (by omega)), show nI (s + 2) - 1 = nI (s + 1) from nI_pred (s + 1), dig_y f h0 d1, ob1_s, if_neg (fun z => by have := nI_inj (by have := d2.2; omega) (by have := d1.2; omega) z; have := d1.2; have := d2.2; omega)]
    rw [s1, ff_D f h0 (o := 2) rfl (by omega) h68 d2 hz (Or.inr rfl), if_neg (by decide), if_neg (by omega)]
  -- the reference up to there
  have r2 : ∀ r, nm (fun (t0_80 : Int32) (Im_80 : FI) (Vm_80 : FV) => (nm (fun (t0_107 : Int32) (Im_107 : FI) (Vm_107 : FV) => (nm (fun (t0_128 : Int32) (Im_128 : FI) (Vm_128 : FV) => (if t0_128 = (-9) then some ((0 : Int32), Im_128, Vm_128) else if (Im_128 16) < 0 ∨ 8 ≤ (Im_128 16).toNatClampNeg then none else (nm (va_up Vm_128 19 (upd (Vm_128 19) (Im_128 16).toNatClampNeg (nI (b (s + 1) - 48)))) (fun V4 => if (Im_128 16) < 0 ∨ 8 ≤ (Im_128 16).toNatClampNeg then none else (nm (va_up V4 20 (upd (V4 20) (Im_128 16).toNatClampNeg (nI (b (s + 2) - 48)))) (fun V5 => if (Im_128 16) < 0 ∨ 8 ≤ (Im_128 16).toNatClampNeg then none else (nm (va_up V5 21 (upd (V5 21) (Im_128 16).toNatClampNeg ((10 * t0_80) + t0_107))) (fun V6 => if (Im_128 16) < 0 ∨ 8 ≤ (Im_128 16).toNatClampNeg then none else (nm (va_up V6 22 (upd (V6 22) (Im_128 16).toNatClampNeg t0_128)) (fun V7 => nm (va_up Im_128 16 ((Im_128 16) + 1)) (fun I8 => some (1, I8, V7)))))))))))) (fun j128 => (if t0_107 = (-9) then (j128 (-9) Im_107 Vm_107) else ob3 (M_figure f 1 9 Im_107 Vm_107) (fun zr9 I10 V11 => (j128 zr9 I10 V11)))))) (fun j107 => (if t0_80 = (-9) then (j107 (-9) Im_80 Vm_80) else (nm (fun (t1_102 : Int32) => ob3 (M_figure f t1_102 9 Im_80 Vm_80) (fun zr12 I13 V14 => (j107 zr12 I13 V14))) (fun j102 => (if t0_80 = 0 then (j102 1) else (j102 0)))))))) (fun j80 => ob3 (M_figure f 0 9 (va_up I 3 (nI (s + 3))) V) (fun zr15 I16 V17 => (j80 zr15 I16 V17))) = r → M_readDebt f (va_up I 3 (nI (s + 1))) V = r := by
    intro r hr
    unfold M_readDebt
    rw [fig_y f h0 z0t (eP _) d1.1 (by have := d1.2; omega) (by have := d1.2; omega), ob3_s]
    refine nmq (nmq ?_)
    rw [if_neg (nz1 _ d1)]
    refine nmq ?_
    rw [show va_up I 3 (nI (s + 1 + 1)) 2 = nI t from t2, va_up_self, if_neg (nI_ge (show s + 1 + 1 < t from d2.1) (by omega)), gd_nI (show s + 1 + 1 < 80 by have := d2.1; omega) (by decide), cl_nI (by omega), if_neg (fun z => d2n ((sameb (s + 2) d2.1).mp z)), fig_y f h0 z0t (eP _) d2.1 (by have := d2.2; omega) (by have := d2.2; omega), ob3_s]
    exact nmq (ifn (nz1 _ d2) hr)
  -- tens
  by_cases d3 : dgt b t (s + 3)
  rotate_left
  · left
    have hq : M_readDebt f (va_up I 3 (nI (s + 1))) V = some (0, va_up I 3 (nI (s + 3)), V) := by
      refine r2 _ ?_
      refine nmq ?_
      rw [fig_n f h0 z0t z9t (by have := d2.1; omega) d3, ob3_s]
      exact nmq (ifp rfl (nmq (ifp rfl (ifp rfl rfl))))
    refine ⟨s + 3, by omega, fun n => ?_, ?_⟩
    · rw [show n + 6 = n + 3 + 1 + 1 + 1 from rfl, s2, ff_no f h0 (by omega) (by have := d2.1; omega) d3]
    · rw [hq, ob3_s, if_pos (by decide)]
  have s3 : ∀ n, Txt_firstFault_L9 f It Vt (kF It) (n + 1 + 1 + 1 + 1) (nI p) (nI d) (nI s) (nI s) = Txt_firstFault_L9 f It Vt (kF It) n (nI p) (nI d) (nI s) (nI (s + 4)) := fun n => by
    have hz : Txt_mayStandInDebt f (nI (s + 3)) (nI 3) (nI (b (s + 3) - 48)) (nI p) It Vt = some 1 := by
      unfold Txt_mayStandInDebt
      rw [if_neg (by decide), if_neg (by decide), if_pos (by decide)]
    rw [s2, ff_D f h0 (o := 3) rfl (by omega) h68 d3 hz (Or.inr rfl), if_neg (by decide), if_neg (by omega)]
  -- ones
  obtain ⟨lo, hlo⟩ : ∃ lo, lo = if b (s + 3) = 48 then 1 else 0 := ⟨_, rfl⟩
  have z48 : (nI (b (s + 3) - 48) = 0) ↔ b (s + 3) = 48 := by
    have := d3.2
    rw [← nI_0, nI_eq (by omega) (by decide)]
    omega
  by_cases d4 : dgt b t (s + 4) ∧ lo + 48 ≤ b (s + 4)
  rotate_left
  · left
    have hq : M_readDebt f (va_up I 3 (nI (s + 1))) V = some (0, va_up I 3 (nI (s + 4)), V) := by
      refine r2 _ ?_
      refine nmq ?_
      rw [fig_y f h0 z0t z9t d3.1 (by have := d3.2; omega) (by have := d3.2; omega), ob3_s]
      refine nmq (ifn (nz1 _ d3) (nmq ?_))
      by_cases e : b (s + 3) = 48
      · rw [if_pos e] at hlo
        refine ifp (z48.mpr e) ?_
        show ob3 (M_figure f 1 9 (va_up I 3 (nI (s + 4))) V) _ = _
        rw [fig_n f h0 z1t z9t (by have := d3.1; omega) (fun z => d4 ⟨⟨z.1, by have := z.2; omega, by have := z.2; omega⟩, by have := z.2; omega⟩), ob3_s]
        exact nmq (ifp rfl (ifp rfl rfl))
      · rw [if_neg e] at hlo
        refine ifn (fun z => e (z48.mp z)) ?_
        show ob3 (M_figure f 0 9 (va_up I 3 (nI (s + 4))) V) _ = _
        rw [fig_n f h0 z0t z9t (by have := d3.1; omega) (fun z => d4 ⟨⟨z.1, by have := z.2; omega, by have := z.2; omega⟩, by have := z.2; omega⟩), ob3_s]
        exact nmq (ifp rfl (ifp rfl rfl))
    refine ⟨s + 4, by omega, fun n => ?_, ?_⟩
    · by_cases dd : dgt b t (s + 4)
      · have h48 : b (s + 3) = 48 ∧ b (s + 4) = 48 := by
          have h1 : ¬ lo + 48 ≤ b (s + 4) := fun z => d4 ⟨dd, z⟩
          have h2 := dd.2
          by_cases e : b (s + 3) = 48
          · rw [if_pos e] at hlo; omega
          · rw [if_neg e] at hlo; omega
        have hz : Txt_mayStandInDebt f (nI (s + 4)) (nI 4) (nI (b (s + 4) - 48)) (nI p) It Vt = some 0 := by
          unfold Txt_mayStandInDebt
          rw [if_neg (by decide), if_neg (by decide), if_neg (by decide), if_pos (by decide)]
          refine nmq ?_
          rw [if_pos (by rw [h48.2]; rfl), show nI (s + 4) - 1 = nI (s + 3) from nI_pred (s + 3), dig_y f h0 d3, ob1_s, if_pos (z48.mpr h48.1)]
        rw [show n + 6 = n + 2 + 1 + 1 + 1 + 1 from rfl, s3, ff_D f h0 (o := 4) rfl (by omega) h68 dd hz (Or.inl rfl), if_pos rfl]
      · rw [show n + 6 = n + 2 + 1 + 1 + 1 + 1 from rfl, s3, ff_no f h0 (by omega) (by have := d3.1; omega) dd]
    · rw [hq, ob3_s, if_pos (by decide)]
  obtain ⟨d4, d4l⟩ := d4
  have s4 : ∀ n, Txt_firstFault_L9 f It Vt (kF It) (n + 1 + 1 + 1 + 1 + 1) (nI p) (nI d) (nI s) (nI s) = Txt_firstFault_L9 f It Vt (kF It) n (nI p) (nI d) (nI s) (nI (s + 5)) := fun n => by
    have hz : Txt_mayStandInDebt f (nI (s + 4)) (nI 4) (nI (b (s + 4) - 48)) (nI p) It Vt = some 1 := by
      unfold Txt_mayStandInDebt
      rw [if_neg (by decide), if_neg (by decide), if_neg (by decide), if_pos (by decide)]
      refine nmq ?_
      by_cases e : nI (b (s + 4) - 48) = 0
      · have e2 : b (s + 4) = 48 := by
          rw [← nI_0] at e
          have := nI_inj (by have := d4.2; omega) (by decide) e
          have := d4.2
          omega
        rw [if_pos e, show nI (s + 4) - 1 = nI (s + 3) from nI_pred (s + 3), dig_y f h0 d3, ob1_s, if_neg (fun z => by rw [if_pos (z48.mp z)] at hlo; omega)]
      · rw [if_neg e]
    rw [s3, ff_D f h0 (o := 4) rfl (by omega) h68 d4 hz (Or.inr rfl), if_neg (by decide), if_neg (by omega)]
  have r4 : ∀ r, nm (fun (t0_128 : Int32) (Im_128 : FI) (Vm_128 : FV) => (if t0_128 = (-9) then some ((0 : Int32), Im_128, Vm_128) else if (Im_128 16) < 0 ∨ 8 ≤ (Im_128 16).toNatClampNeg then none else (nm (va_up Vm_128 19 (upd (Vm_128 19) (Im_128 16).toNatClampNeg (nI (b (s + 1) - 48)))) (fun V4 => if (Im_128 16) < 0 ∨ 8 ≤ (Im_128 16).toNatClampNeg then none else (nm (va_up V4 20 (upd (V4 20) (Im_128 16).toNatClampNeg (nI (b (s + 2) - 48)))) (fun V5 => if (Im_128 16) < 0 ∨ 8 ≤ (Im_128 16).toNatClampNeg then none else (nm (va_up V5 21 (upd (V5 21) (Im_128 16).toNatClampNeg ((10 * nI (b (s + 3) - 48)) + nI (b (s + 4) - 48)))) (fun V6 => if (Im_128 16) < 0 ∨ 8 ≤ (Im_128 16).toNatClampNeg then none else (nm (va_up V6 22 (upd (V6 22) (Im_128 16).toNatClampNeg t0_128)) (fun V7 => nm (va_up Im_128 16 ((Im_128 16) + 1)) (fun I8 => some (1, I8, V7)))))))))))) (fun j128 => ob3 (M_figure f 1 9 (va_up I 3 (nI (s + 5))) V) (fun zr9 I10 V11 => (j128 zr9 I10 V11))) = r → M_readDebt f (va_up I 3 (nI (s + 1))) V = r := by
    intro r hr
    refine r2 _ ?_
    refine nmq ?_
    rw [fig_y f h0 z0t z9t d3.1 (by have := d3.2; omega) (by have := d3.2; omega), ob3_s]
    refine nmq (ifn (nz1 _ d3) (nmq ?_))
    by_cases e : b (s + 3) = 48
    · rw [if_pos e] at hlo
      refine ifp (z48.mpr e) ?_
      show ob3 (M_figure f 1 9 (va_up I 3 (nI (s + 4))) V) _ = _
      rw [fig_y f h0 z1t z9t d4.1 (by omega) (by have := d4.2; omega), ob3_s]
      exact nmq (ifn (nz1 _ d4) hr)
    · refine ifn (fun z => e (z48.mp z)) ?_
      show ob3 (M_figure f 0 9 (va_up I 3 (nI (s + 4))) V) _ = _
      rw [fig_y f h0 z0t z9t d4.1 (by have := d4.2; omega) (by have := d4.2; omega), ob3_s]
      exact nmq (ifn (nz1 _ d4) hr)
  -- when
  by_cases d5 : dgt b t (s + 5) ∧ b (s + 5) ≠ 48
  rotate_left
  · left
    have hq : M_readDebt f (va_up I 3 (nI (s + 1))) V = some (0, va_up I 3 (nI (s + 5)), V) := by
      refine r4 _ ?_
      refine nmq ?_
      rw [fig_n f h0 z1t z9t (by have := d4.1; omega) (fun z => d5 ⟨⟨z.1, by have := z.2; omega, by have := z.2; omega⟩, by have := z.2; omega⟩), ob3_s]
      exact ifp rfl rfl
    refine ⟨s + 5, by omega, fun n => ?_, ?_⟩
    · by_cases dd : dgt b t (s + 5)
      · have e : b (s + 5) = 48 := Decidable.byContradiction (fun z => d5 ⟨dd, z⟩)
        have hz : Txt_mayStandInDebt f (nI (s + 5)) (nI 5) (nI (b (s + 5) - 48)) (nI p) It Vt = some 0 := by
          unfold Txt_mayStandInDebt
          rw [if_neg (by decide), if_neg (by decide), if_neg (by decide), if_neg (by decide), if_pos (by rw [e]; rfl)]
        rw [show n + 6 = n + 1 + 1 + 1 + 1 + 1 + 1 from rfl, s4, ff_D f h0 (o := 5) rfl (by omega) h68 dd hz (Or.inl rfl), if_pos rfl]
      · rw [show n + 6 = n + 1 + 1 + 1 + 1 + 1 + 1 from rfl, s4, ff_no f h0 (by omega) (by have := d4.1; omega) dd]
    · rw [hq, ob3_s, if_pos (by decide)]
  obtain ⟨d5, d5n⟩ := d5
  right
  have h1 := d1.2
  have h2 := d2.2
  have h3 := d3.2
  have h4 := d4.2
  have h5 := d5.2
  have hq : M_readDebt f (va_up I 3 (nI (s + 1))) V = some (1, va_up (va_up I 3 (nI (s + 6))) 16 (nI (d + 1)), VD V d (b (s + 1) - 48) (b (s + 2) - 48) (10 * (b (s + 3) - 48) + (b (s + 4) - 48)) (b (s + 5) - 48)) := by
    refine r4 _ ?_
    refine nmq ?_
    rw [fig_y f h0 z1t z9t d5.1 (by omega) (by omega), ob3_s]
    refine ifn (nz1 _ d5) ?_
    rw [show va_up I 3 (nI (s + 5 + 1)) 16 = nI d from i16, gd_nI hd (by decide), cl_nI (by omega)]
    refine nmq ?_
    rw [gz hd (by decide)]
    refine nmq ?_
    rw [gz hd (by decide)]
    refine nmq ?_
    rw [gz hd (by decide)]
    refine nmq (nmq ?_)
    rw [nI_1, show (10 : Int32) * nI (b (s + 3) - 48) = nI (10 * (b (s + 3) - 48)) from pk_mul 10 _, nI_add]
    rfl
  refine ⟨by have := d5.1; omega, b (s + 1) - 48, b (s + 2) - 48, 10 * (b (s + 3) - 48) + (b (s + 4) - 48), b (s + 5) - 48, d1p, d2p, by omega, ?_, by omega, fun n => ?_, ?_, dig_y f h0 d1, dig_y f h0 d2, two_d f h0 d3 d4, dig_y f h0 d5⟩
  · by_cases e : b (s + 3) = 48
    · rw [if_pos e] at hlo; omega
    · omega
  · have hz : Txt_mayStandInDebt f (nI (s + 5)) (nI 5) (nI (b (s + 5) - 48)) (nI p) It Vt = some 1 := by
      unfold Txt_mayStandInDebt
      rw [if_neg (by decide), if_neg (by decide), if_neg (by decide), if_neg (by decide), if_neg (fun z => by
        rw [← nI_0] at z
        have := nI_inj (by omega) (by decide) z
        omega)]
    rw [show n + 6 = n + 1 + 1 + 1 + 1 + 1 + 1 from rfl, s4, ff_D f h0 (o := 5) rfl (by omega) h68 d5 hz (Or.inr rfl), if_neg (by decide), if_pos rfl]
  · rw [hq, ob3_s, if_pos (by decide)]
