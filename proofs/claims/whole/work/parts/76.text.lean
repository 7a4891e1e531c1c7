/-! the text: one part of it, read both ways -/
theorem nmq {α β : Type} {x : α} {g : α → β} {r : β} (h : g x = r) : nm x g = r := h
theorem ifp {c : Prop} [Decidable c] {α : Type} {a b r : α} (h : c) (q : a = r) : (if c then a else b) = r := (if_pos h).trans q
theorem ifn {c : Prop} [Decidable c] {α : Type} {a b r : α} (h : ¬ c) (q : b = r) : (if c then a else b) = r := (if_neg h).trans q
def okB (t : Nat) (b : Nat → Nat) (It : FI) (Vt : FV) (I : FI) (V : FV) : Prop := t ≤ 80 ∧ I 2 = nI t ∧ It 1 = nI t ∧ ∀ i, i < t → b i < 256 ∧ V 1 i = nI (b i) ∧ Vt 0 i = (nI (b i)).toInt8.toInt32
abbrev dgt (b : Nat → Nat) (t q : Nat) : Prop := q < t ∧ 48 ≤ b q ∧ b q ≤ 57
theorem by80 : ∀ b, b < 256 → ((nI b).toInt8.toInt32 = 80 ↔ b = 80) := by decide +kernel
theorem by68 : ∀ b, b < 256 → ((nI b).toInt8.toInt32 = 68 ↔ b = 68) := by decide +kernel
theorem bylo : ∀ b, b < 256 → ((nI b).toInt8.toInt32 < 48 ↔ b < 48 ∨ 128 ≤ b) := by decide +kernel
theorem byhi : ∀ b, b < 256 → (57 < (nI b).toInt8.toInt32 ↔ 57 < b ∧ b < 128) := by decide +kernel
theorem bysub : ∀ b, b < 256 → (48 ≤ b ∧ b ≤ 57 → (nI b).toInt8.toInt32 - 48 = nI (b - 48)) := by decide +kernel
theorem dig_y (f : Nat) {t q : Nat} {b : Nat → Nat} {It : FI} {Vt : FV} {I : FI} {V : FV} (h : okB t b It Vt I V) (d : dgt b t q) : Txt_digitAt f (nI q) It Vt = some (nI (b q - 48)) := by
  obtain ⟨t1, t2, t3, t4⟩ := h
  obtain ⟨d1, d2, d3⟩ := d
  obtain ⟨b1, b2, b3⟩ := t4 q d1
  unfold Txt_digitAt
  rw [if_neg (nI_pos (by omega)), t3, if_pos (nI_lt d1 (by omega)), gd_nI (show q < 80 by omega) (by decide), cl_nI (by omega), b3]
  refine nmq ?_
  rw [if_neg (fun z => by have := (bylo _ b1).mp z; omega), if_neg (fun z => by have := (byhi _ b1).mp z; omega), bysub _ b1 ⟨d2, d3⟩]
theorem dig_n (f : Nat) {t q : Nat} {b : Nat → Nat} {It : FI} {Vt : FV} {I : FI} {V : FV} (h : okB t b It Vt I V) (hq : q < 2 ^ 31) (d : ¬ dgt b t q) : Txt_digitAt f (nI q) It Vt = some (-1) := by
  obtain ⟨t1, t2, t3, t4⟩ := h
  unfold Txt_digitAt
  rw [if_neg (nI_pos hq), t3]
  by_cases d1 : q < t
  · obtain ⟨b1, b2, b3⟩ := t4 q d1
    rw [if_pos (nI_lt d1 (by omega)), gd_nI (show q < 80 by omega) (by decide), cl_nI (by omega), b3]
    refine nmq ?_
    by_cases c : b q < 48 ∨ 128 ≤ b q
    · rw [if_pos ((bylo _ b1).mpr c)]
    · have e : 57 < b q ∧ b q < 128 := by
        have : ¬ (48 ≤ b q ∧ b q ≤ 57) := fun z => d ⟨d1, z⟩
        omega
      rw [if_neg (fun z => c ((bylo _ b1).mp z)), if_pos ((byhi _ b1).mpr e)]
  · rw [if_neg (nI_nlt (by omega) hq)]
/-- one step of the class's walk -/
theorem ff_step (f : Nat) {t s q p d : Nat} {b : Nat → Nat} {It : FI} {Vt : FV} {I : FI} {V : FV} (h : okB t b It Vt I V) (hs : s ≤ q) (hq : q < t) {z : Int32} (hz : Txt_mayStand f (nI s) (nI q) (nI p) (nI d) It Vt = some z) (k : Int32 → Option Int32) (n : Nat) : Txt_firstFault_L9 f It Vt k (n + 1) (nI p) (nI d) (nI s) (nI q) = if z = 0 then some (nI q) else if q + 1 - s = (if b s = 80 then 4 else 6) then (if b s = 80 then Txt_firstFault_L9 f It Vt k n (nI (p + 1)) (nI d) (nI (q + 1)) (nI (q + 1)) else Txt_firstFault_L9 f It Vt k n (nI p) (nI (d + 1)) (nI (q + 1)) (nI (q + 1))) else Txt_firstFault_L9 f It Vt k n (nI p) (nI d) (nI s) (nI (q + 1)) := by
  obtain ⟨t1, t2, t3, t4⟩ := h
  obtain ⟨b1, b2, b3⟩ := t4 s (by omega)
  rw [Txt_firstFault_L9, t3, if_neg (nI_ge hq (by omega)), hz, ob1_s]
  by_cases c : z = 0
  · rw [if_pos c, if_pos c]
  · rw [if_neg c, if_neg c]
    unfold Txt_bytesOfPart
    rw [gd_nI (show s < 80 by omega) (by decide), cl_nI (by omega), b3, nI_1, pk_sub (by omega)]
    by_cases e : b s = 80
    · rw [if_pos ((by80 _ b1).mpr e), if_pos e, if_pos e, ob1_s]
      refine nmq ?_
      by_cases c4 : q + 1 - s = 4
      · rw [if_pos c4, if_pos (by rw [c4]; rfl), gz (show s < 80 by omega) (by decide)]
        refine nmq ?_
        rw [if_pos ((by80 _ b1).mpr e), nI_1]
      · rw [if_neg c4, if_neg (show ¬ nI (q + 1 - s) = 4 from fun y => c4 (nI_inj (b := 4) (by omega) (by decide) y))]
    · rw [if_neg (fun y => e ((by80 _ b1).mp y)), if_neg e, if_neg e, ob1_s]
      refine nmq ?_
      by_cases c6 : q + 1 - s = 6
      · rw [if_pos c6, if_pos (by rw [c6]; rfl), gz (show s < 80 by omega) (by decide)]
        refine nmq ?_
        rw [if_neg (fun y => e ((by80 _ b1).mp y)), nI_1]
      · rw [if_neg c6, if_neg (show ¬ nI (q + 1 - s) = 6 from fun y => c6 (nI_inj (b := 6) (by omega) (by decide) y))]
def kF (It : FI) : Int32 → Option Int32 := fun (x3_9 : Int32) => (if x3_9 = (It 1) then some (-9) else some (It 1))
/-- no digit behind the start: a fault there -/
theorem ff_no (f : Nat) {t s q p d : Nat} {b : Nat → Nat} {It : FI} {Vt : FV} {I : FI} {V : FV} (h : okB t b It Vt I V) (hs : s < q) (hq : q ≤ t) (hd : ¬ dgt b t q) (n : Nat) : Txt_firstFault_L9 f It Vt (kF It) (n + 1) (nI p) (nI d) (nI s) (nI q) = some (nI q) := by
  have h0 := h
  obtain ⟨t1, t2, t3, t4⟩ := h
  by_cases e : q = t
  · subst e
    rw [Txt_firstFault_L9, t3, if_pos (nI_le (Nat.le_refl _) (by omega))]
    unfold kF
    rw [t3, if_neg (fun y => by have := nI_inj (by omega) (by omega) y; omega)]
  · have hm : Txt_mayStand f (nI s) (nI q) (nI p) (nI d) It Vt = some 0 := by
      unfold Txt_mayStand
      rw [if_neg (fun y => by have := nI_inj (by omega) (by omega) y; omega), dig_n f h0 (by omega) hd, ob1_s, if_neg (by decide)]
    rw [ff_step f h0 (by omega) (by omega) hm, if_pos rfl]
theorem ff_P (f : Nat) {t s q p d : Nat} {b : Nat → Nat} {It : FI} {Vt : FV} {I : FI} {V : FV} (h : okB t b It Vt I V) (hs : s < q) (h80 : b s = 80) (hd : dgt b t q) (n : Nat) : Txt_firstFault_L9 f It Vt (kF It) (n + 1) (nI p) (nI d) (nI s) (nI q) = if q + 1 - s = 4 then Txt_firstFault_L9 f It Vt (kF It) n (nI (p + 1)) (nI d) (nI (q + 1)) (nI (q + 1)) else Txt_firstFault_L9 f It Vt (kF It) n (nI p) (nI d) (nI s) (nI (q + 1)) := by
  have h0 := h
  obtain ⟨t1, t2, t3, t4⟩ := h
  obtain ⟨b1, b2, b3⟩ := t4 s (by have := hd.1; omega)
  have hqt := hd.1
  have hm : Txt_mayStand f (nI s) (nI q) (nI p) (nI d) It Vt = some 1 := by
    unfold Txt_mayStand
    rw [if_neg (fun y => by have := nI_inj (by omega) (by omega) y; omega), dig_y f h0 hd, ob1_s, if_pos (show (0 : Int32) ≤ nI (b q - 48) from nI_le (a := 0) (Nat.zero_le _) (by have := hd.2.2; omega)), gd_nI (show s < 80 by omega) (by decide), cl_nI (by omega), b3]
    refine nmq ?_
    rw [if_pos ((by80 _ b1).mpr h80)]
  rw [ff_step f h0 (by omega) hqt hm, if_neg (by decide), if_pos h80, if_pos h80]
theorem ff_D (f : Nat) {t s q p d o : Nat} {b : Nat → Nat} {It : FI} {Vt : FV} {I : FI} {V : FV} (h : okB t b It Vt I V) (ho : q = s + o) (ho1 : 0 < o) (h68 : b s = 68) (hd : dgt b t q) {z : Int32} (hz : Txt_mayStandInDebt f (nI q) (nI o) (nI (b q - 48)) (nI p) It Vt = some z) (hz1 : z = 0 ∨ z = 1) (n : Nat) : Txt_firstFault_L9 f It Vt (kF It) (n + 1) (nI p) (nI d) (nI s) (nI q) = if z = 0 then some (nI q) else if o + 1 = 6 then Txt_firstFault_L9 f It Vt (kF It) n (nI p) (nI (d + 1)) (nI (q + 1)) (nI (q + 1)) else Txt_firstFault_L9 f It Vt (kF It) n (nI p) (nI d) (nI s) (nI (q + 1)) := by
  have h0 := h
  obtain ⟨t1, t2, t3, t4⟩ := h
  have hqt := hd.1
  obtain ⟨b1, b2, b3⟩ := t4 s (by omega)
  have hm : Txt_mayStand f (nI s) (nI q) (nI p) (nI d) It Vt = some z := by
    unfold Txt_mayStand
    rw [if_neg (fun y => by have := nI_inj (by omega) (by omega) y; omega), dig_y f h0 hd, ob1_s, if_pos (show (0 : Int32) ≤ nI (b q - 48) from nI_le (a := 0) (Nat.zero_le _) (by have := hd.2.2; omega)), gd_nI (show s < 80 by omega) (by decide), cl_nI (by omega), b3]
    refine nmq ?_
    rw [if_neg (fun y => by have := (by80 _ b1).mp y; omega), pk_sub (by omega), show q - s = o by omega, hz, ob1_s]
    rcases hz1 with e | e
    · rw [e, if_pos rfl]
    · rw [e, if_neg (by decide)]
  rw [ff_step f h0 (by omega) hqt hm, if_neg (show ¬ b s = 80 by omega), if_neg (show ¬ b s = 80 by omega), show q + 1 - s = o + 1 by omega]
theorem ff_0 (f : Nat) {t s p d : Nat} {b : Nat → Nat} {It : FI} {Vt : FV} {I : FI} {V : FV} (h : okB t b It Vt I V) (hs : s < t) (hp : p ≤ 6) (hd : d ≤ 8) (n : Nat) : Txt_firstFault_L9 f It Vt (kF It) (n + 1) (nI p) (nI d) (nI s) (nI s) = if (b s = 80 ∧ p < 6) ∨ (b s = 68 ∧ 2 ≤ p ∧ d < 8) then Txt_firstFault_L9 f It Vt (kF It) n (nI p) (nI d) (nI s) (nI (s + 1)) else some (nI s) := by
  have h0 := h
  obtain ⟨t1, t2, t3, t4⟩ := h
  obtain ⟨b1, b2, b3⟩ := t4 s hs
  have hm : Txt_mayStand f (nI s) (nI s) (nI p) (nI d) It Vt = some (if (b s = 80 ∧ p < 6) ∨ (b s = 68 ∧ 2 ≤ p ∧ d < 8) then 1 else 0) := by
    unfold Txt_mayStand Txt_mayBegin
    rw [if_pos rfl, gd_nI (show s < 80 by omega) (by decide), cl_nI (by omega), b3]
    by_cases e : b s = 80
    · rw [if_pos ((by80 _ b1).mpr e)]
      by_cases cp : p < 6
      · rw [if_neg (show ¬ (6 : Int32) ≤ nI _ from nI_ge (b := 6) cp (by decide)), if_pos (Or.inl ⟨e, cp⟩)]
        rfl
      · rw [if_pos (show (6 : Int32) ≤ nI p from nI_le (a := 6) (by omega) (by omega)), if_neg (by omega)]
        rfl
    · rw [if_neg (fun y => e ((by80 _ b1).mp y))]
      by_cases e2 : b s = 68
      · rw [if_pos ((by68 _ b1).mpr e2)]
        by_cases c2 : 2 ≤ p
        · rw [if_neg (show ¬ nI p < 2 from nI_nlt (b := 2) c2 (by omega))]
          by_cases c8 : d < 8
          · rw [if_neg (show ¬ (8 : Int32) ≤ nI _ from nI_ge (b := 8) c8 (by decide)), if_pos (Or.inr ⟨e2, c2, c8⟩)]
            rfl
          · rw [if_pos (show (8 : Int32) ≤ nI d from nI_le (a := 8) (by omega) (by omega)), if_neg (by omega)]
            rfl
        · rw [if_pos (show nI p < 2 from nI_lt (b := 2) (by omega) (by decide)), if_neg (by omega)]
          rfl
      · rw [if_neg (fun y => e2 ((by68 _ b1).mp y)), if_neg (by omega)]
        rfl
  rw [ff_step f h0 (Nat.le_refl _) hs hm]
  by_cases c : (b s = 80 ∧ p < 6) ∨ (b s = 68 ∧ 2 ≤ p ∧ d < 8)
  · rw [if_pos c, if_pos c, if_neg (by decide)]
    have e4 : ¬ s + 1 - s = (if b s = 80 then 4 else 6) := by split <;> omega
    rw [if_neg e4]
  · rw [if_neg c, if_neg c, if_pos rfl]
/-- a figure of the reference -/
theorem fig_y (f : Nat) {t q : Nat} {b : Nat → Nat} {It : FI} {Vt : FV} {I : FI} {V : FV} (h : okB t b It Vt I V) {x1 x2 : Int32} {lo hi : Nat} (e1 : x1.toInt = (lo : Int)) (e2 : x2.toInt = (hi : Int)) (hq : q < t) (c1 : lo + 48 ≤ b q) (c2 : b q ≤ hi + 48) : M_figure f x1 x2 (va_up I 3 (nI q)) V = some (nI (b q - 48), va_up I 3 (nI (q + 1)), V) := by
  obtain ⟨t1, t2, t3, t4⟩ := h
  obtain ⟨b1, b2, b3⟩ := t4 q hq
  unfold M_figure
  rw [va_up_self, show va_up I 3 (nI q) 2 = nI t from t2, if_neg (fun y => by have := nI_inj (by omega) (by omega) y; omega), gd_nI (show q < 80 by omega) (by decide), cl_nI (by omega), b2, in_c]
  have k1 : (nI (b q) - 48).toInt = (b q : Int) - 48 := pk_sub_toInt (a := b q) (b := 48) (by omega) (by decide)
  rw [if_pos (show x1 ≤ nI (b q) - 48 ∧ nI (b q) - 48 ≤ x2 by rw [Int32.le_iff_toInt_le, Int32.le_iff_toInt_le, k1, e1, e2]; omega), ob1_s, if_neg (by decide)]
  refine nmq ?_
  rw [va_up_self, bx_uu, nI_1, nI_pred, gd_nI (show q < 80 by omega) (by decide), cl_nI (by omega), b2, show nI (b q) - 48 = nI (b q - 48) from pk_sub (b := 48) (by omega)]
theorem fig_n (f : Nat) {t q : Nat} {b : Nat → Nat} {It : FI} {Vt : FV} {I : FI} {V : FV} (h : okB t b It Vt I V) {x1 x2 : Int32} {lo hi : Nat} (e1 : x1.toInt = (lo : Int)) (e2 : x2.toInt = (hi : Int)) (hq : q ≤ t) (c : ¬ (q < t ∧ lo + 48 ≤ b q ∧ b q ≤ hi + 48)) : M_figure f x1 x2 (va_up I 3 (nI q)) V = some (-9, va_up I 3 (nI q), V) := by
  obtain ⟨t1, t2, t3, t4⟩ := h
  unfold M_figure
  rw [va_up_self, show va_up I 3 (nI q) 2 = nI t from t2]
  by_cases e : q = t
  · rw [if_pos (by rw [e])]
  · obtain ⟨b1, b2, b3⟩ := t4 q (by omega)
    have k1 : (nI (b q) - 48).toInt = (b q : Int) - 48 := pk_sub_toInt (a := b q) (b := 48) (by omega) (by decide)
    rw [if_neg (fun y => by have := nI_inj (by omega) (by omega) y; omega), gd_nI (show q < 80 by omega) (by decide), cl_nI (by omega), b2, in_c, if_neg (show ¬ (x1 ≤ nI (b q) - 48 ∧ nI (b q) - 48 ≤ x2) by rw [Int32.le_iff_toInt_le, Int32.le_iff_toInt_le, k1, e1, e2]; omega), ob1_s, if_pos rfl]
theorem m9 {v : Nat} (hv : v < 2 ^ 31) : ¬ nI v = -9 := by
  intro q
  have q2 := congrArg Int32.toInt q
  rw [nI_toInt hv, show ((-9 : Int32)).toInt = -9 from rfl] at q2
  omega
def VP (V : FV) (p m a : Nat) : FV := va_up (va_up V 17 (upd (V 17) p (nI m))) 18 (upd (V 18) p (nI a))
def VD (V : FV) (d c e m w : Nat) : FV := va_up (va_up (va_up (va_up V 19 (upd (V 19) d (nI c))) 20 (upd (V 20) d (nI e))) 21 (upd (V 21) d (nI m))) 22 (upd (V 22) d (nI w))
theorem two_d (f : Nat) {t q : Nat} {b : Nat → Nat} {It : FI} {Vt : FV} {I : FI} {V : FV} (h : okB t b It Vt I V) (d1 : dgt b t q) (d2 : dgt b t (q + 1)) : Txt_twoDigitsAt f (nI q) It Vt = some (nI (10 * (b q - 48) + (b (q + 1) - 48))) := by
  unfold Txt_twoDigitsAt
  rw [dig_y f h d1, ob1_s, nI_1, dig_y f h d2, ob1_s, show (10 : Int32) * nI (b q - 48) = nI (10 * (b q - 48)) from pk_mul 10 _, nI_add]
theorem z0t : (0 : Int32).toInt = ((0 : Nat) : Int) := rfl
theorem z1t : (1 : Int32).toInt = ((1 : Nat) : Int) := rfl
theorem z9t : (9 : Int32).toInt = ((9 : Nat) : Int) := rfl
theorem part_P (f : Nat) {t s p d : Nat} {b : Nat → Nat} {It : FI} {Vt : FV} {I : FI} {V : FV} (h : okB t b It Vt I V) (hs : s < t) (hp : p < 6) (hd : d ≤ 8) (h80 : b s = 80) (i15 : I 15 = nI p) : (∃ r, r < 2 ^ 30 ∧ (∀ n, Txt_firstFault_L9 f It Vt (kF It) (n + 4) (nI p) (nI d) (nI s) (nI s) = some (nI r)) ∧ M_readPart f (va_up I 3 (nI s)) V = some (0, va_up I 3 (nI r), V)) ∨ (s + 4 ≤ t ∧ ∃ m a, m ≤ 99 ∧ a ≤ 9 ∧ (∀ n, Txt_firstFault_L9 f It Vt (kF It) (n + 4) (nI p) (nI d) (nI s) (nI s) = Txt_firstFault_L9 f It Vt (kF It) n (nI (p + 1)) (nI d) (nI (s + 4)) (nI (s + 4))) ∧ M_readPart f (va_up I 3 (nI s)) V = some (1, va_up (va_up I 3 (nI (s + 4))) 15 (nI (p + 1)), VP V p m a) ∧ Txt_twoDigitsAt f (nI (s + 1)) It Vt = some (nI m) ∧ Txt_digitAt f (nI (s + 3)) It Vt = some (nI a)) := by
  have h0 := h
  obtain ⟨t1, t2, t3, t4⟩ := h
  obtain ⟨b1, b2, b3⟩ := t4 s hs
  have hR : M_readPart f (va_up I 3 (nI s)) V = ob3 (M_readPerson f (va_up I 3 (nI (s + 1))) V) (fun zr7 I8 V9 => if zr7 &&& 1 = zr7 then some (zr7, I8, V9) else none) := by
    unfold M_readPart
    rw [va_up_self, gd_nI (show s < 80 by omega) (by decide), cl_nI (by omega), b2]
    refine nmq (nmq ?_)
    rw [if_pos (show nI (b s) = 80 by rw [h80]; rfl), show va_up I 3 (nI s) 15 = nI p from i15, if_neg (show ¬ (6 : Int32) ≤ nI _ from nI_ge (b := 6) hp (by decide))]
    refine nmq ?_
    rw [bx_uu, nI_1]
  have st : ∀ n, Txt_firstFault_L9 f It Vt (kF It) (n + 1) (nI p) (nI d) (nI s) (nI s) = Txt_firstFault_L9 f It Vt (kF It) n (nI p) (nI d) (nI s) (nI (s + 1)) := fun n => by
    rw [ff_0 f h0 hs (by omega) hd, if_pos (Or.inl ⟨h80, hp⟩)]
  rw [hR]
  have nz1 : ∀ q, dgt b t q → ¬ nI (b q - 48) = -9 := fun q h => m9 (by have := h.2; omega)
  by_cases d1 : dgt b t (s + 1)
  rotate_left
  · left
    have hq : M_readPerson f (va_up I 3 (nI (s + 1))) V = some (0, va_up I 3 (nI (s + 1)), V) := by
      unfold M_readPerson
      rw [fig_n f h0 z0t z9t (by omega) d1, ob3_s]
      exact nmq (ifp rfl (nmq (ifp rfl (ifp rfl rfl))))
    refine ⟨s + 1, by omega, fun n => ?_, ?_⟩
    · rw [st, ff_no f h0 (by omega) (by omega) d1]
    · rw [hq, ob3_s, if_pos (by decide)]
  by_cases d2 : dgt b t (s + 1 + 1)
  rotate_left
  · left
    have hq : M_readPerson f (va_up I 3 (nI (s + 1))) V = some (0, va_up I 3 (nI (s + 1 + 1)), V) := by
      unfold M_readPerson
      rw [fig_y f h0 z0t z9t d1.1 (by omega) (by omega), ob3_s]
      refine nmq ?_
      rw [if_neg (nz1 _ d1), fig_n f h0 z0t z9t (by have := d1.1; omega) d2, ob3_s]
      exact nmq (ifp rfl (ifp rfl rfl))
    refine ⟨s + 1 + 1, by omega, fun n => ?_, ?_⟩
    · rw [st, ff_P f h0 (by omega) h80 d1, if_neg (by omega), ff_no f h0 (by omega) (by have := d1.1; omega) d2]
    · rw [hq, ob3_s, if_pos (by decide)]
  by_cases d3 : dgt b t (s + 1 + 1 + 1)
  rotate_left
  · left
    have hq : M_readPerson f (va_up I 3 (nI (s + 1))) V = some (0, va_up I 3 (nI (s + 1 + 1 + 1)), V) := by
      unfold M_readPerson
      rw [fig_y f h0 z0t z9t d1.1 (by omega) (by omega), ob3_s]
      refine nmq ?_
      rw [if_neg (nz1 _ d1), fig_y f h0 z0t z9t d2.1 (by omega) (by omega), ob3_s]
      refine nmq ?_
      rw [if_neg (nz1 _ d2), fig_n f h0 z0t z9t (by have := d2.1; omega) d3, ob3_s]
      exact ifp rfl rfl
    refine ⟨s + 1 + 1 + 1, by omega, fun n => ?_, ?_⟩
    · rw [st, ff_P f h0 (by omega) h80 d1, if_neg (by omega), ff_P f h0 (by omega) h80 d2, if_neg (by omega), ff_no f h0 (by omega) (by have := d2.1; omega) d3]
    · rw [hq, ob3_s, if_pos (by decide)]
  right
  have h1 := d1.2
  have h2 := d2.2
  have h3 := d3.2
  have hq : M_readPerson f (va_up I 3 (nI (s + 1))) V = some (1, va_up (va_up I 3 (nI (s + 4))) 15 (nI (p + 1)), VP V p (10 * (b (s + 1) - 48) + (b (s + 1 + 1) - 48)) (b (s + 1 + 1 + 1) - 48)) := by
    unfold M_readPerson
    rw [fig_y f h0 z0t z9t d1.1 (by omega) (by omega), ob3_s]
    refine nmq ?_
    rw [if_neg (nz1 _ d1), fig_y f h0 z0t z9t d2.1 (by omega) (by omega), ob3_s]
    refine nmq ?_
    rw [if_neg (nz1 _ d2), fig_y f h0 z0t z9t d3.1 (by omega) (by omega), ob3_s]
    refine ifn (nz1 _ d3) ?_
    rw [show va_up I 3 (nI (s + 1 + 1 + 1 + 1)) 15 = nI p from i15, gd_nI hp (by decide), cl_nI (by omega)]
    refine nmq ?_
    rw [gz hp (by decide)]
    refine nmq (nmq ?_)
    rw [nI_1, show (10 : Int32) * nI (b (s + 1) - 48) = nI (10 * (b (s + 1) - 48)) from pk_mul 10 _, nI_add]
    rfl
  refine ⟨by have := d3.1; omega, 10 * (b (s + 1) - 48) + (b (s + 1 + 1) - 48), b (s + 1 + 1 + 1) - 48, by omega, by omega, fun n => ?_, ?_, two_d f h0 d1 d2, dig_y f h0 d3⟩
  · rw [st, ff_P f h0 (by omega) h80 d1, if_neg (by omega), ff_P f h0 (by omega) h80 d2, if_neg (by omega), ff_P f h0 (by omega) h80 d3, if_pos (by omega)]
  · rw [hq, ob3_s, if_pos (by decide)]
