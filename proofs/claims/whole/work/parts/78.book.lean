def rd (p : Nat) (L : Nat → Nat → Nat) (V : FV) : Prop := (∀ q, q < p → V 17 q = nI (L 5 q) ∧ V 18 q = nI (L 6 q)) ∧ ∀ j, j < L 0 0 → V 19 j = nI (L 10 j) ∧ V 20 j = nI (L 11 j) ∧ V 21 j = nI (L 12 j) ∧ V 22 j = nI (L 13 j)
def okR (p : Nat) (L : Nat → Nat → Nat) : Prop := p ≤ 6 ∧ L 0 0 ≤ 8 ∧ L 0 1 = 0 ∧ L 7 = (fun _ => 0) ∧ L 8 = (fun _ => 0) ∧ (∀ q, q < p → L 5 q ≤ 99 ∧ L 6 q ≤ 9) ∧ ∀ j, j < L 0 0 → L 10 j < p ∧ L 11 j < p ∧ L 10 j ≠ L 11 j ∧ 1 ≤ L 12 j ∧ L 12 j ≤ 99
theorem okR_T {p : Nat} {L : Nat → Nat → Nat} (h : okR p L) : okT p L := by
  obtain ⟨r1, r2, r3, r4, r5, r6, r7⟩ := h
  refine ⟨by omega, ?_, fun q hq => ⟨(r6 q hq).2, by rw [r4]; exact Nat.zero_le _, by rw [r5]; exact Nat.zero_le _⟩, r7⟩
  have h1 := sm_bd (g := L 5) (b := 99) p (fun i hi => (r6 i hi).1)
  have h2 : p * 99 ≤ 6 * 99 := Nat.mul_le_mul_right _ r1
  omega
theorem upc {α : Type} (g : Nat → α) {a b : Nat} (x y : α) (h : a ≠ b) : va_up (va_up g a x) b y = va_up (va_up g b y) a x := by
  funext i
  unfold va_up
  by_cases e1 : i = b
  · rw [if_pos e1, if_neg (by omega), if_pos e1]
  · rw [if_neg e1]
    by_cases e2 : i = a
    · rw [if_pos e2, if_pos e2]
    · rw [if_neg e2, if_neg e2, if_neg e1]
def LPp (L : Nat → Nat → Nat) (p m a : Nat) : Nat → Nat → Nat := va_up (va_up L 5 (va_up (L 5) p m)) 6 (va_up (L 6) p a)
def LDd (L : Nat → Nat → Nat) (c e m w : Nat) : Nat → Nat → Nat := va_up (va_up (va_up (va_up (va_up L 10 (va_up (L 10) (L 0 0) c)) 11 (va_up (L 11) (L 0 0) e)) 12 (va_up (L 12) (L 0 0) m)) 13 (va_up (L 13) (L 0 0) w)) 0 (va_up (L 0) 0 (L 0 0 + 1))
theorem okR_P {p m a : Nat} {L : Nat → Nat → Nat} (h : okR p L) (hp : p < 6) (hm : m ≤ 99) (ha : a ≤ 9) : okR (p + 1) (LPp L p m a) := by
  obtain ⟨r1, r2, r3, r4, r5, r6, r7⟩ := h
  refine ⟨by omega, r2, r3, r4, r5, fun q hq => ?_, fun j hj => ?_⟩
  · show va_up (L 5) p m q ≤ 99 ∧ va_up (L 6) p a q ≤ 9
    by_cases e : q = p
    · rw [e, va_up_self, va_up_self]; exact ⟨hm, ha⟩
    · rw [va_up_ne _ _ e, va_up_ne _ _ e]; exact r6 q (by omega)
  · have := r7 j hj
    show L 10 j < p + 1 ∧ L 11 j < p + 1 ∧ L 10 j ≠ L 11 j ∧ 1 ≤ L 12 j ∧ L 12 j ≤ 99
    omega
theorem okR_D {p c e m w : Nat} {L : Nat → Nat → Nat} (h : okR p L) (hd : L 0 0 < 8) (hc : c < p) (he : e < p) (hn : c ≠ e) (hm1 : 1 ≤ m) (hm2 : m ≤ 99) : okR p (LDd L c e m w) := by
  obtain ⟨r1, r2, r3, r4, r5, r6, r7⟩ := h
  refine ⟨r1, hd, r3, r4, r5, r6, fun j hj => ?_⟩
  have hj1 : j < L 0 0 + 1 := hj
  show va_up (L 10) (L 0 0) c j < p ∧ va_up (L 11) (L 0 0) e j < p ∧ va_up (L 10) (L 0 0) c j ≠ va_up (L 11) (L 0 0) e j ∧ 1 ≤ va_up (L 12) (L 0 0) m j ∧ va_up (L 12) (L 0 0) m j ≤ 99
  by_cases q : j = L 0 0
  · rw [q, va_up_self, va_up_self, va_up_self]; exact ⟨hc, he, hn, hm1, hm2⟩
  · rw [va_up_ne _ _ q, va_up_ne _ _ q, va_up_ne _ _ q]; exact r7 j (by omega)
theorem addP (f : Nat) {p m a : Nat} {L : Nat → Nat → Nat} {Ig : FI} {Vg : FV} (hp : p < 6) (hR : okR p L) (hL : tL p L Ig Vg) : ∃ Ig' Vg', Led_addPerson f (nI m) (nI a) Ig Vg = some (Ig', Vg') ∧ tL (p + 1) (LPp L p m a) Ig' Vg' := by
  obtain ⟨r1, r2, r3, r4, r5, r6, r7⟩ := hR
  obtain ⟨l0, l1, l2, l3, l4, lp, ld⟩ := hL
  refine ⟨va_up (va_up Ig 3 (Ig 3 ||| ((1 : Int32) <<< (nI p &&& 31)))) 0 (nI (p + 1)), va_up (va_up Vg 5 (upd (Vg 5) p (nI m))) 6 (upd (Vg 6) p (nI a)), ?_, rfl, l1, l2, ?_, ?_, fun q hq => ?_, ld⟩
  · unfold Led_addPerson
    rw [l0, if_pos (show nI p < 6 from nI_lt (b := 6) hp (by decide)), gd_nI hp (by decide), cl_nI (by omega)]
    refine nmq ?_
    rw [gz hp (by decide)]
    refine nmq (nmq (nmq ?_))
    rw [show va_up Ig 3 (Ig 3 ||| ((1 : Int32) <<< (nI p &&& 31))) 0 = nI p from l0, nI_1]
    rfl
  · show Ig 3 ||| ((1 : Int32) <<< (nI p &&& 31)) = nI (bm (fun q => L 7 q == 0) (p + 1))
    have := bm_or (fun q => L 7 q == 0) p (by omega)
    rw [if_pos (by rw [r4]; rfl)] at this
    rw [l3, this]
  · show Ig 4 = nI (bm (fun q => L 8 q == 1) p + (if (L 8 p == 1) = true then 2 ^ p else 0))
    rw [l4, if_neg (by rw [r5]; show ¬ ((0 : Nat) == 1) = true; decide), Nat.add_zero]
  · show upd (Vg 5) p (nI m) q = nI (va_up (L 5) p m q) ∧ upd (Vg 6) p (nI a) q = nI (va_up (L 6) p a q)
    by_cases e : q = p
    · rw [e, upd_s, upd_s, va_up_self, va_up_self]; exact ⟨rfl, rfl⟩
    · rw [upd_n _ _ e, upd_n _ _ e, va_up_ne _ _ e, va_up_ne _ _ e]; exact lp q (by omega)
theorem has_n (f : Nat) {c p : Nat} {Ig : FI} (Vg : FV) (hp : p ≤ 6) (l0 : Ig 0 = nI p) (hc : c < p) : Led_has f (nI c) Ig Vg = some 1 := by
  rw [has_eq f _ _ hp l0, if_neg]
  rintro (z | z)
  · exact nI_pos (by omega) z
  · exact nI_ge hc (by omega) z
theorem addD (f : Nat) {p c e m w : Nat} {L : Nat → Nat → Nat} {Ig : FI} {Vg : FV} (hR : okR p L) (hd : L 0 0 < 8) (hL : tL p L Ig Vg) (hc : c < p) (he : e < p) : ∃ Ig' Vg', Led_addDebt f (nI c) (nI e) (nI m) (nI w) Ig Vg = some (Ig', Vg') ∧ tL p (LDd L c e m w) Ig' Vg' := by
  obtain ⟨r1, r2, r3, r4, r5, r6, r7⟩ := hR
  obtain ⟨l0, l1, l2, l3, l4, lp, ld⟩ := hL
  have g12 : L 0 0 < 12 := by omega
  refine ⟨va_up Ig 1 (nI (L 0 0 + 1)), va_up (va_up (va_up (va_up Vg 7 (upd (Vg 7) (L 0 0) (nI c))) 8 (upd (Vg 8) (L 0 0) (nI e))) 9 (upd (Vg 9) (L 0 0) (nI m))) 10 (upd (Vg 10) (L 0 0) (nI w)), ?_, l0, rfl, l2, l3, l4, lp, fun j hj => ?_⟩
  · unfold Led_addDebt
    rw [l1, if_neg (show ¬ (12 : Int32) ≤ nI _ from nI_ge (b := 12) g12 (by decide)), has_n f Vg r1 l0 hc, ob1_s, if_neg (by decide), has_n f Vg r1 l0 he, ob1_s, if_neg (by decide), gd_nI g12 (by decide), cl_nI (by omega)]
    refine nmq ?_
    rw [gz g12 (by decide)]
    refine nmq ?_
    rw [gz g12 (by decide)]
    refine nmq ?_
    rw [gz g12 (by decide)]
    refine nmq (nmq ?_)
    rw [nI_1]
    rfl
  · have hj1 : j < L 0 0 + 1 := hj
    show upd (Vg 7) (L 0 0) (nI c) j = nI (va_up (L 10) (L 0 0) c j) ∧ upd (Vg 8) (L 0 0) (nI e) j = nI (va_up (L 11) (L 0 0) e j) ∧ upd (Vg 9) (L 0 0) (nI m) j = nI (va_up (L 12) (L 0 0) m j) ∧ upd (Vg 10) (L 0 0) (nI w) j = nI (va_up (L 13) (L 0 0) w j)
    by_cases q : j = L 0 0
    · rw [q, upd_s, upd_s, upd_s, upd_s, va_up_self, va_up_self, va_up_self, va_up_self]; exact ⟨rfl, rfl, rfl, rfl⟩
    · rw [upd_n _ _ q, upd_n _ _ q, upd_n _ _ q, upd_n _ _ q, va_up_ne _ _ q, va_up_ne _ _ q, va_up_ne _ _ q, va_up_ne _ _ q]; exact ld j (by omega)
theorem rd_P {p m a : Nat} {L : Nat → Nat → Nat} {V : FV} (h : rd p L V) : rd (p + 1) (LPp L p m a) (VP V p m a) := by
  refine ⟨fun q hq => ?_, h.2⟩
  show upd (V 17) p (nI m) q = nI (va_up (L 5) p m q) ∧ upd (V 18) p (nI a) q = nI (va_up (L 6) p a q)
  by_cases e : q = p
  · rw [e, upd_s, upd_s, va_up_self, va_up_self]; exact ⟨rfl, rfl⟩
  · rw [upd_n _ _ e, upd_n _ _ e, va_up_ne _ _ e, va_up_ne _ _ e]; exact h.1 q (by omega)
theorem rd_D {p c e m w : Nat} {L : Nat → Nat → Nat} {V : FV} (h : rd p L V) : rd p (LDd L c e m w) (VD V (L 0 0) c e m w) := by
  refine ⟨h.1, fun j hj => ?_⟩
  have hj1 : j < L 0 0 + 1 := hj
  show upd (V 19) (L 0 0) (nI c) j = nI (va_up (L 10) (L 0 0) c j) ∧ upd (V 20) (L 0 0) (nI e) j = nI (va_up (L 11) (L 0 0) e j) ∧ upd (V 21) (L 0 0) (nI m) j = nI (va_up (L 12) (L 0 0) m j) ∧ upd (V 22) (L 0 0) (nI w) j = nI (va_up (L 13) (L 0 0) w j)
  by_cases q : j = L 0 0
  · rw [q, upd_s, upd_s, upd_s, upd_s, va_up_self, va_up_self, va_up_self, va_up_self]; exact ⟨rfl, rfl, rfl, rfl⟩
  · rw [upd_n _ _ q, upd_n _ _ q, upd_n _ _ q, upd_n _ _ q, va_up_ne _ _ q, va_up_ne _ _ q, va_up_ne _ _ q, va_up_ne _ _ q]; exact h.2 j (by omega)
theorem part_X (f : Nat) {t s p d : Nat} {b : Nat → Nat} {It : FI} {Vt : FV} {I : FI} {V : FV} (h : okB t b It Vt I V) (hs : s < t) (hp : p ≤ 6) (hd : d ≤ 8) (i15 : I 15 = nI p) (i16 : I 16 = nI d) (c : ¬ ((b s = 80 ∧ p < 6) ∨ (b s = 68 ∧ 2 ≤ p ∧ d < 8))) : M_readPart f (va_up I 3 (nI s)) V = some (0, va_up I 3 (nI s), V) := by
  obtain ⟨t1, t2, t3, t4⟩ := h
  obtain ⟨b1, b2, b3⟩ := t4 s hs
  have e80 : (nI (b s) = 80) ↔ b s = 80 := nI_eq (b := 80) (by omega) (by decide)
  have e68 : (nI (b s) = 68) ↔ b s = 68 := nI_eq (b := 68) (by omega) (by decide)
  have hlast : (if nI (b s) = 68 then (if (8 : Int32) ≤ va_up I 3 (nI s) 16 then some ((0 : Int32), va_up I 3 (nI s), V) else (if va_up I 3 (nI s) 15 ≤ 1 then some (0, va_up I 3 (nI s), V) else nm (va_up (va_up I 3 (nI s)) 3 (nI s + 1)) (fun I2 => ob3 (M_readDebt f I2 V) (fun zr3 I4 V5 => if zr3 &&& 1 = zr3 then some (zr3, I4, V5) else none)))) else some (0, va_up I 3 (nI s), V)) = some (0, va_up I 3 (nI s), V) := by
    by_cases q : b s = 68
    · rw [if_pos (e68.mpr q), show va_up I 3 (nI s) 16 = nI d from i16, show va_up I 3 (nI s) 15 = nI p from i15]
      by_cases q8 : d < 8
      · rw [if_neg (show ¬ (8 : Int32) ≤ nI _ from nI_ge (b := 8) q8 (by decide)), if_pos (show nI p ≤ 1 from nI_le (b := 1) (by omega) (by decide))]
      · rw [if_pos (show (8 : Int32) ≤ nI d from nI_le (a := 8) (by omega) (by omega))]
    · rw [if_neg (fun z => q (e68.mp z))]
  unfold M_readPart
  rw [va_up_self, gd_nI (show s < 80 by omega) (by decide), cl_nI (by omega), b2]
  refine nmq (nmq ?_)
  by_cases q : b s = 80
  · rw [if_pos (e80.mpr q), if_pos (show (6 : Int32) ≤ va_up I 3 (nI s) 15 by
      rw [show va_up I 3 (nI s) 15 = nI p from i15]
      exact nI_le (a := 6) (by omega) (by omega))]
    exact hlast
  · rw [if_neg (fun z => q (e80.mp z))]
    exact hlast
theorem bk_sim (f : Nat) {t : Nat} {b : Nat → Nat} {It : FI} {Vt : FV} : ∀ (M s p d : Nat) (I : FI) (V : FV) (Ig : FI) (Vg : FV) (L : Nat → Nat → Nat) (n1 n2 n3 : Nat), okB t b It Vt I V → s ≤ t → t - s ≤ M → I 15 = nI p → I 16 = nI d → L 0 0 = d → okR p L → rd p L V → tL p L Ig Vg → t - s + 7 ≤ n1 → t - s + 1 ≤ n2 → t - s + 1 ≤ n3 → ∃ (r : Int32) (I' : FI) (V' : FV), Txt_firstFault_L9 f It Vt (kF It) n1 (nI p) (nI d) (nI s) (nI s) = some r ∧ M_readBook_L15 f (fun Im Vm => some (-9, Im, Vm)) n2 (va_up I 3 (nI s)) V = some (r, I', V') ∧ (∀ k, k ≠ 3 → k ≠ 15 → k ≠ 16 → I' k = I k) ∧ (∀ k, k < 17 ∨ 22 < k → V' k = V k) ∧ (r = -9 → ∃ (P' : Nat) (L' : Nat → Nat → Nat) (Ig' : FI) (Vg' : FV), okR P' L' ∧ I' 15 = nI P' ∧ I' 16 = nI (L' 0 0) ∧ rd P' L' V' ∧ tL P' L' Ig' Vg' ∧ Txt_tellTo_L8 f It Vt (fun a b => some (a, b)) n3 (nI s) (nI (p + d)) Ig Vg = some (Ig', Vg')) := by
  intro M
  induction M with
  | zero =>
    intro s p d I V Ig Vg L n1 n2 n3 hB hs hM i15 i16 h00 hR hrd hL hn1 hn2 hn3
    obtain ⟨t1, t2, t3, t4⟩ := id hB
    have e : s = t := by omega
    obtain ⟨m1, rfl⟩ : ∃ m, n1 = m + 1 := ⟨n1 - 1, by omega⟩
    obtain ⟨m2, rfl⟩ : ∃ m, n2 = m + 1 := ⟨n2 - 1, by omega⟩
    obtain ⟨m3, rfl⟩ : ∃ m, n3 = m + 1 := ⟨n3 - 1, by omega⟩
    refine ⟨-9, va_up I 3 (nI s), V, ?_, ?_, fun k hk _ _ => va_up_ne _ _ hk, fun _ _ => rfl, fun _ => ⟨p, L, Ig, Vg, hR, i15, by rw [h00]; exact i16, hrd, hL, ?_⟩⟩
    · rw [Txt_firstFault_L9, t3, if_pos (nI_le (by omega) (by omega))]
      unfold kF
      rw [t3, if_pos (by rw [e])]
    · rw [M_readBook_L15, va_up_self, show va_up I 3 (nI s) 2 = nI t from t2, if_pos (nI_le (by omega) (by omega))]
    · rw [Txt_tellTo_L8, t3, if_pos (show nI t ≤ nI s from nI_le (by omega) (by omega))]
      split <;> rfl
  | succ M ih =>
    intro s p d I V Ig Vg L n1 n2 n3 hB hs hM i15 i16 h00 hR hrd hL hn1 hn2 hn3
    by_cases e : s = t
    · obtain ⟨t1, t2, t3, t4⟩ := id hB
      obtain ⟨m1, rfl⟩ : ∃ m, n1 = m + 1 := ⟨n1 - 1, by omega⟩
      obtain ⟨m2, rfl⟩ : ∃ m, n2 = m + 1 := ⟨n2 - 1, by omega⟩
      obtain ⟨m3, rfl⟩ : ∃ m, n3 = m + 1 := ⟨n3 - 1, by omega⟩
      refine ⟨-9, va_up I 3 (nI s), V, ?_, ?_, fun k hk _ _ => va_up_ne _ _ hk, fun _ _ => rfl, fun _ => ⟨p, L, Ig, Vg, hR, i15, by rw [h00]; exact i16, hrd, hL, ?_⟩⟩
      · rw [Txt_firstFault_L9, t3, if_pos (nI_le (by omega) (by omega))]
        unfold kF
        rw [t3, if_pos (by rw [e])]
      · rw [M_readBook_L15, va_up_self, show va_up I 3 (nI s) 2 = nI t from t2, if_pos (nI_le (by omega) (by omega))]
      · rw [Txt_tellTo_L8, t3, if_pos (show nI t ≤ nI s from nI_le (by omega) (by omega))]
        split <;> rfl
    · have hst : s < t := by omega
      obtain ⟨t1, t2, t3, t4⟩ := id hB
      obtain ⟨b1, b2, b3⟩ := t4 s hst
      have hp6 := hR.1
      have hd8 : d ≤ 8 := by rw [← h00]; exact hR.2.1
      obtain ⟨m2, rfl⟩ : ∃ m, n2 = m + 1 := ⟨n2 - 1, by omega⟩
      obtain ⟨m3, rfl⟩ : ∃ m, n3 = m + 1 := ⟨n3 - 1, by omega⟩
      have hM2 : ∀ (z : Int32) (J : FI) (W : FV), M_readPart f (va_up I 3 (nI s)) V = some (z, J, W) → M_readBook_L15 f (fun Im Vm => some (-9, Im, Vm)) (m2 + 1) (va_up I 3 (nI s)) V = if z = 0 then some (J 3, J, W) else M_readBook_L15 f (fun Im Vm => some (-9, Im, Vm)) m2 J W := fun z J W q => by
        rw [M_readBook_L15, va_up_self, show va_up I 3 (nI s) 2 = nI t from t2, if_neg (nI_ge hst (by omega)), q, ob3_s]
      have fault : ∀ r, r < 2 ^ 30 → Txt_firstFault_L9 f It Vt (kF It) n1 (nI p) (nI d) (nI s) (nI s) = some (nI r) → M_readPart f (va_up I 3 (nI s)) V = some (0, va_up I 3 (nI r), V) → ∃ (r : Int32) (I' : FI) (V' : FV), Txt_firstFault_L9 f It Vt (kF It) n1 (nI p) (nI d) (nI s) (nI s) = some r ∧ M_readBook_L15 f (fun Im Vm => some (-9, Im, Vm)) (m2 + 1) (va_up I 3 (nI s)) V = some (r, I', V') ∧ (∀ k, k ≠ 3 → k ≠ 15 → k ≠ 16 → I' k = I k) ∧ (∀ k, k < 17 ∨ 22 < k → V' k = V k) ∧ (r = -9 → ∃ (P' : Nat) (L' : Nat → Nat → Nat) (Ig' : FI) (Vg' : FV), okR P' L' ∧ I' 15 = nI P' ∧ I' 16 = nI (L' 0 0) ∧ rd P' L' V' ∧ tL P' L' Ig' Vg' ∧ Txt_tellTo_L8 f It Vt (fun a b => some (a, b)) (m3 + 1) (nI s) (nI (p + d)) Ig Vg = some (Ig', Vg')) := fun r hr q1 q2 => by
        refine ⟨nI r, va_up I 3 (nI r), V, q1, ?_, fun k hk _ _ => va_up_ne _ _ hk, fun _ _ => rfl, fun z => absurd z (m9 (by omega))⟩
        rw [hM2 _ _ _ q2, if_pos rfl, va_up_self]
      by_cases cP : b s = 80 ∧ p < 6
      · rcases part_P f hB hst cP.2 hd8 cP.1 i15 with ⟨r, r0, r1, r2⟩ | ⟨hs4, m, a, hm, ha, q1, q2, q3, q4⟩
        · refine fault r r0 ?_ r2
          obtain ⟨m1, rfl⟩ : ∃ m, n1 = m + 4 := ⟨n1 - 4, by omega⟩
          exact r1 m1
        · obtain ⟨m1, rfl⟩ : ∃ m, n1 = m + 4 := ⟨n1 - 4, by omega⟩
          obtain ⟨Ig1, Vg1, g1, g2⟩ := addP f (m := m) (a := a) cP.2 hR hL
          obtain ⟨r, I', V', x1, x2, x3, x4, x5⟩ := ih (s + 4) (p + 1) d (va_up I 15 (nI (p + 1))) (VP V p m a) Ig1 Vg1 (LPp L p m a) m1 m2 m3 ⟨t1, t2, t3, t4⟩ hs4 (by omega) (va_up_self _ _ _) i16 h00 (okR_P hR cP.2 hm ha) (rd_P hrd) g2 (by omega) (by omega) (by omega)
          refine ⟨r, I', V', by rw [q1]; exact x1, ?_, fun k k1 k2 k3 => (x3 k k1 k2 k3).trans (va_up_ne _ _ k2), fun k hk => ?_, fun z => ?_⟩
          · rw [hM2 _ _ _ q2, if_neg (by decide), upc _ _ _ (show (3 : Nat) ≠ 15 by decide)]
            exact x2
          · rw [x4 k hk]
            unfold VP
            rw [va_up_ne _ _ (by omega), va_up_ne _ _ (by omega)]
          · obtain ⟨P', L', Ig', Vg', y1, y2, y3, y4, y5, y6⟩ := x5 z
            refine ⟨P', L', Ig', Vg', y1, y2, y3, y4, y5, ?_⟩
            rw [Txt_tellTo_L8, t3, if_neg (show ¬ (14 : Int32) ≤ nI _ from nI_ge (b := 14) (show p + d < 14 by omega) (by decide)), if_neg (nI_ge hst (by omega)), gd_nI (show s < 80 by omega) (by decide), cl_nI (by omega), b3]
            refine nmq ?_
            rw [if_pos ((by80 _ b1).mpr cP.1), nI_1, q3, ob1_s, show nI s + 3 = nI (s + 3) from nI_add s 3, q4, ob1_s, g1, ob2_s]
            show ob1 (Txt_bytesOfPart f (nI s) It Vt) (fun zr3 => Txt_tellTo_L8 f It Vt (fun a b => some (a, b)) m3 (nI s + zr3) (nI (p + d) + 1) Ig1 Vg1) = _
            unfold Txt_bytesOfPart
            rw [gd_nI (show s < 80 by omega) (by decide), cl_nI (by omega), b3, if_pos ((by80 _ b1).mpr cP.1), ob1_s, show nI s + 4 = nI (s + 4) from nI_add s 4, nI_1, show p + d + 1 = p + 1 + d by omega]
            exact y6
      · by_cases cD : b s = 68 ∧ 2 ≤ p ∧ d < 8
        · rcases part_D f hB hst cD.2.1 hp6 cD.2.2 cD.1 i15 i16 with ⟨r, r0, r1, r2⟩ | ⟨hs6, c, e', m, w, hc, he, hn, hm1, hm2, q1, q2, q3, q4, q5, q6⟩
          · refine fault r r0 ?_ r2
            obtain ⟨m1, rfl⟩ : ∃ m, n1 = m + 6 := ⟨n1 - 6, by omega⟩
            exact r1 m1
          · obtain ⟨m1, rfl⟩ : ∃ m, n1 = m + 6 := ⟨n1 - 6, by omega⟩
            subst h00
            obtain ⟨Ig1, Vg1, g1, g2⟩ := addD f (m := m) (w := w) hR cD.2.2 hL hc he
            obtain ⟨r, I', V', x1, x2, x3, x4, x5⟩ := ih (s + 6) p (L 0 0 + 1) (va_up I 16 (nI (L 0 0 + 1))) (VD V (L 0 0) c e' m w) Ig1 Vg1 (LDd L c e' m w) m1 m2 m3 ⟨t1, t2, t3, t4⟩ hs6 (by omega) i15 (va_up_self _ _ _) rfl (okR_D hR cD.2.2 hc he hn hm1 hm2) (rd_D hrd) g2 (by omega) (by omega) (by omega)
            refine ⟨r, I', V', by rw [q1]; exact x1, ?_, fun k k1 k2 k3 => (x3 k k1 k2 k3).trans (va_up_ne _ _ k3), fun k hk => ?_, fun z => ?_⟩
            · rw [hM2 _ _ _ q2, if_neg (by decide), upc _ _ _ (show (3 : Nat) ≠ 16 by decide)]
              exact x2
            · rw [x4 k hk]
              unfold VD
              rw [va_up_ne _ _ (by omega), va_up_ne _ _ (by omega), va_up_ne _ _ (by omega), va_up_ne _ _ (by omega)]
            · obtain ⟨P', L', Ig', Vg', y1, y2, y3, y4, y5, y6⟩ := x5 z
              refine ⟨P', L', Ig', Vg', y1, y2, y3, y4, y5, ?_⟩
              have n80 : ¬ (nI (b s)).toInt8.toInt32 = 80 := fun z => by have := (by80 _ b1).mp z; omega
              rw [Txt_tellTo_L8, t3, if_neg (show ¬ (14 : Int32) ≤ nI _ from nI_ge (b := 14) (show p + L 0 0 < 14 by omega) (by decide)), if_neg (nI_ge hst (by omega)), gd_nI (show s < 80 by omega) (by decide), cl_nI (by omega), b3]
              refine nmq ?_
              rw [if_neg n80, nI_1, q3, ob1_s, show nI s + 2 = nI (s + 2) from nI_add s 2, q4, ob1_s, show nI s + 3 = nI (s + 3) from nI_add s 3, q5, ob1_s, show nI s + 5 = nI (s + 5) from nI_add s 5, q6, ob1_s, g1, ob2_s]
              show ob1 (Txt_bytesOfPart f (nI s) It Vt) (fun zr3 => Txt_tellTo_L8 f It Vt (fun a b => some (a, b)) m3 (nI s + zr3) (nI (p + L 0 0) + 1) Ig1 Vg1) = _
              unfold Txt_bytesOfPart
              rw [gd_nI (show s < 80 by omega) (by decide), cl_nI (by omega), b3, if_neg n80, ob1_s, show nI s + 6 = nI (s + 6) from nI_add s 6, nI_1, show p + L 0 0 + 1 = p + (L 0 0 + 1) by omega]
              exact y6
        · have cc : ¬ ((b s = 80 ∧ p < 6) ∨ (b s = 68 ∧ 2 ≤ p ∧ d < 8)) := fun z => z.elim cP cD
          refine fault s (by omega) ?_ (part_X f hB hst hp6 hd8 i15 i16 cc)
          obtain ⟨m1, rfl⟩ : ∃ m, n1 = m + 1 := ⟨n1 - 1, by omega⟩
          rw [ff_0 f hB hst hp6 hd8, if_neg cc]
