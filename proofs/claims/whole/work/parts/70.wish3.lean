theorem Rel_s {SI SI' : Nat → FI} {SV SV' : Nat → FV} {LaI : Nat → FI} {LaV : Nat → FV} {LsI : Nat → FI} {LsV : Nat → FV} {I : FI} {V : FV} (h : Rel SI SV LaI LaV LsI LsV I V) (a0 : SI' 0 = SI 0) (a1 : SI' 1 = SI 1) (a2 : SI' 2 = SI 2) (a4 : SI' 4 = SI 4) (b0 : SV' 0 = SV 0) (b1 : SV' 1 = SV 1) (b3 : SV' 3 = SV 3) (b4 : SV' 4 = SV 4) (b5 : SV' 5 = SV 5) : Rel SI' SV' LaI LaV LsI LsV I V := by
  unfold Rel at *
  rw [a0, a1, a2, a4, b0, b1, b3, b4, b5]
  exact h
theorem wish188 {ρ σ : Type} {f : Nat} (hf : 1000 ≤ f) {I : FI} {V : FV} {P : Nat} {L : Nat → Nat → Nat} (hP : P ≤ 6) (hok : okT P L) (hM : tM P L I V) {p a o : Nat} (ha : a ≤ 99) (ho : o < P) (hrow : ∀ k, k ≤ 6 → ∀ s, s ≤ a → V 34 (100 * k + s) = nI (lrow (prW P L) (lmW P L p) 99999 k s)) {Ig Il : FI} {Vg Vl : FV} (hL : tL P L Ig Vg) (hcl : ∀ k, k ≤ P → ∀ t, t ≤ a → Vl (10 + k) t = nI (lrow (prW P L) (lmW P L p) 1000000 k t)) (hlm : ∀ k, k < P → Vl 1 k = nI (lmW P L p k)) (kk : FV → Option ρ) (kX : Int32 → Option σ) : ∀ (n k l : Nat) (g : Nat → Int32), k ≤ 6 → 6 - k < n → l ≤ a → lrow (prW P L) (lmW P L p) 99999 k l < 99999 → ∃ g', M_findWish_L188 f I kk n (nI l) (nI k) (va_up V 35 g) = kk (va_up V 35 g') ∧ (∀ j, j < k → g' j = g j) ∧ (k ≤ o → ∀ (m : Nat) (part : Int32), o + 1 - k < m → Lnd_lentBy_L22 f (nI o) Ig Vg Il Vl kX m (nI l) part (nI k) = kX (g' o)) := by
  intro n
  induction n with
  | zero => intro k l g h1 h2; omega
  | succ n ih =>
    intro k l g h1 h2 h3 h4
    rw [M_findWish_L188]
    by_cases e : k = 6
    · subst e
      exact ⟨g, if_pos (by decide), fun _ _ => rfl, fun q => by omega⟩
    · have hk : k < 6 := by omega
      have q0 := lrow_eq (prW P L) (lmW P L p) 99999 hk l
      rcases mn_first (fun x => prW P L k x + lrow (prW P L) (lmW P L p) 99999 (k + 1) (l - x)) 99999 ((if lmW P L p k < l then lmW P L p k else l) + 1) with q1 | ⟨z, z1, z2, z3⟩
      · omega
      rw [← q0] at z2 z3
      have zl : z ≤ l ∧ z ≤ lmW P L p k := by
        by_cases c : lmW P L p k < l
        · rw [if_pos c] at z1; omega
        · rw [if_neg c] at z1; omega
      have hkz : k < P ∨ z = 0 := by
        by_cases c : k < P
        · exact Or.inl c
        · right
          have := (lmW_out (L := L) p k (show P ≤ k by omega)).1
          omega
      obtain ⟨g', r1, r2, r3⟩ := ih (k + 1) (l - z) (upd g k (nI z)) (by omega) (by omega) (by omega) (by omega)
      refine ⟨g', ?_, fun j hj => ?_, fun hko m part hm => ?_⟩
      · rw [if_neg (show ¬ (6 : Int32) ≤ nI k from nI_ge (b := 6) hk (by decide))]
        have q := wish198 f (I := I) (V := va_up V 35 g) hP hM hk (show l ≤ 99 by omega) zl.1 hkz (lrow (prW P L) (lmW P L p) 99999 (k + 1)) (lrow (prW P L) (lmW P L p) 99999 k) (fun s hs => hrow (k + 1) (by omega) s (by omega)) (hrow k (by omega) l h3) (fun s => lrow_le _ _ _ _ _) (lrow_le _ _ _ _ _) hok z2 z3 (fun (x5_198 : Int32) => if nI k < 0 ∨ 6 ≤ (nI k).toNatClampNeg then none else (nm (va_up (va_up V 35 g) 35 (upd ((va_up V 35 g) 35) (nI k).toNatClampNeg x5_198)) (fun V8 => (M_findWish_L188 f I kk n (nI l - x5_198) (nI k + 1) V8)))) f 0 (by omega) (by omega)
        refine q.trans ?_
        simp only [nm]
        rw [gd_nI hk (by decide), cl_nI (by omega), va_up_self, bx_uu, nI_1, pk_sub zl.1]
        exact r1
      · rw [r2 j (by omega), upd_n _ _ (by omega)]
      · have hkP : k < P := by omega
        obtain ⟨m, rfl⟩ : ∃ m', m = m' + 1 := ⟨m - 1, by omega⟩
        rw [Lnd_lentBy_L22, if_neg (fun q => by have := (lt_n (by omega) (by omega)).mp q; omega), hL.1, if_neg (nI_ge hkP (by omega)), gd_nI hk (by decide), cl_nI (by omega), (hL.2.2.2.2.2.1 k hkP).2]
        have hpr := prW_le hok k z (by omega)
        have epr : ∀ x, prW P L k x = (x + 1) / 2 * L 6 k := fun x => if_pos hkP
        have rel := fun k t ht => lrow_rel (pr := prW P L) (lmW P L p) (fun k x hx => prW_le hok k x hx) k t ht
        have rk := rel k l (by omega)
        have rz := rel (k + 1) (l - z) (by omega)
        unfold RS at rk rz
        have hfew : Lnd_fewestOf f (nI k) (nI (L 6 k)) (nI l) Il Vl = some (nI z) := few3 f hk (by omega) (lmW_le hok p k) (hok.2.2.1 k hkP).1 (hlm k hkP) (lrow (prW P L) (lmW P L p) 1000000 (k + 1)) (lrow (prW P L) (lmW P L p) 1000000 k) (fun t => lrow_le _ _ _ _ _) (lrow_le _ _ _ _ _) (fun t ht => hcl (k + 1) (by omega) t (by omega)) (hcl k (by omega) l h3) zl.1 zl.2 (by
          rw [← epr]; omega) (fun y hy => by
          have a1 := z3 y hy
          have a2 := rel (k + 1) (l - y) (by omega)
          unfold RS at a2
          rw [← epr]
          omega) _ f 0 (by omega) (by omega)
        rw [hfew, ob1_s, pk_sub zl.1, nI_1]
        by_cases eo : k = o
        · subst eo
          obtain ⟨m, rfl⟩ : ∃ m', m = m' + 1 := ⟨m - 1, by omega⟩
          rw [Lnd_lentBy_L22, if_pos ((lt_n (by omega) (by omega)).mpr (by omega)), r2 k (by omega), upd_s]
        · exact r3 (by omega) m (nI z) (by omega)
theorem findWish_eq {f : Nat} (hf : 1000 ≤ f) {I : FI} {V : FV} {P : Nat} {L : Nat → Nat → Nat} (hP : P ≤ 6) (hok : okT P L) (i4 : I 4 = nI P) (hM : tM P L I V) {p a : Nat} (hp : p < 6) (ha : a ≤ 99) : ∃ h, (∀ k, k ≤ 6 → ∀ s, s ≤ a → h (100 * k + s) = nI (lrow (prW P L) (lmW P L p) 99999 k s)) ∧ M_findWish f (nI p) (nI a) I V = if lrow (prW P L) (lmW P L p) 99999 0 a < 99999 then M_findWish_L188 f I (fun (Vm_188 : FV) => some (Vm_188 34 a, I, Vm_188)) f (nI a) 0 (va_up V 34 h) else some ((-9), I, va_up V 34 h) := by
  obtain ⟨h1, a1, a2⟩ := wish2 f V ha (prW P L) (lmW P L p) (fun (Vm_2 : FV) => (M_findWish_L35 f (nI a) (nI p) I (fun (Vm_35 : FV) => if nI a < 0 ∨ 700 ≤ (nI a).toNatClampNeg then none else ((if ((Vm_35 34) (nI a).toNatClampNeg) < 99999 then (M_findWish_L188 f I (fun (Vm_188 : FV) => if nI a < 0 ∨ 700 ≤ (nI a).toNatClampNeg then none else (some (((Vm_188 34) (nI a).toNatClampNeg), I, Vm_188))) f (nI a) 0 Vm_35) else some ((-9), I, Vm_35)))) f 5 Vm_2)) f 0 (V 34) (by omega) (by omega) (fun s hs => absurd hs (Nat.not_lt_zero _))
  rw [up_id] at a1
  obtain ⟨h2, b1, b2⟩ := wish35 hf hP hok i4 hM hp ha (fun (Vm_35 : FV) => if nI a < 0 ∨ 700 ≤ (nI a).toNatClampNeg then none else ((if ((Vm_35 34) (nI a).toNatClampNeg) < 99999 then (M_findWish_L188 f I (fun (Vm_188 : FV) => if nI a < 0 ∨ 700 ≤ (nI a).toNatClampNeg then none else (some (((Vm_188 34) (nI a).toNatClampNeg), I, Vm_188))) f (nI a) 0 Vm_35) else some ((-9), I, Vm_35)))) f 6 h1 (Nat.le_refl _) (by omega) (fun k hk1 hk2 s hs => by
    have ek : k = 6 := by omega
    rw [ek]
    exact a2 s hs)
  refine ⟨h2, b2, ?_⟩
  have hle := lrow_le (prW P L) (lmW P L p) 99999 0 a
  have h0a : h2 a = nI (lrow (prW P L) (lmW P L p) 99999 0 a) := by
    have := b2 0 (by omega) a (Nat.le_refl _)
    rw [show 100 * 0 + a = a by omega] at this
    exact this
  have e1 := a1.trans b1
  refine Eq.trans e1 ?_
  simp only [gd_nI (show a < 700 by omega) (show 700 < 2 ^ 31 by decide)]
  simp only [cl_nI (show a < 2 ^ 31 by omega), va_up_self, h0a]
  by_cases c : lrow (prW P L) (lmW P L p) 99999 0 a < 99999
  · rw [if_pos (show nI _ < 99999 from (lt_n (b := 99999) (by omega) (by decide)).mpr c), if_pos c]
  · rw [if_neg (show ¬ nI _ < 99999 from fun q => c ((lt_n (b := 99999) (by omega) (by decide)).mp q)), if_neg c]
theorem isLoan_eq (f : Nat) (a2 : Int32) : X_isLoan f a2 = some (if (1 : Int32) ≤ a2 ∧ a2 ≤ nI 99 then 1 else 0) := by
  unfold X_isLoan
  by_cases d : a2 < 1
  · rw [if_pos d, if_neg (fun q => (lt1_iff a2).mp d q.1)]
  · rw [if_neg d]
    have d1 : (1 : Int32) ≤ a2 := Decidable.byContradiction (fun q => d ((lt1_iff a2).mpr q))
    by_cases e : (99 : Int32) < a2
    · rw [if_pos e, if_neg (fun q => (nle_lt 99 a2).mp e q.2)]
    · rw [if_neg e, if_pos ⟨d1, Decidable.byContradiction (fun q => e ((nle_lt 99 a2).mpr q))⟩]
theorem cheap_eq (f : Nat) {Il : FI} {V : FV} {a v : Nat} (ha : a ≤ 99) (hv : v ≤ 1000000) (h : V (10 + 0) a = nI v) : Lnd_cheapest f (nI a) Il V = some (if v < 1000000 then nI v else -9) := by
  unfold Lnd_cheapest
  rw [show (0 : Int32).toNatClampNeg = 0 from by decide, gd_nI (show a < 100 by omega) (by decide), gd_nI (show a < 100 by omega) (by decide), cl_nI (by omega), h]
  by_cases c : v < 1000000
  · rw [if_neg (show ¬ (1000000 : Int32) ≤ nI v from nI_ge (b := 1000000) c (by decide)), if_pos c]
  · rw [if_pos (show (1000000 : Int32) ≤ nI v from (le_n (a := 1000000) (by decide) (by omega)).mpr (by omega)), if_neg c]
theorem S_wish {f : Nat} (hf : 1000 ≤ f) : Sim_wish Rel f := by
  intro SI SV LaI LaV LsI LsV I V a0 a1 h
  have h0 := h
  obtain ⟨P, hP, i4, ⟨L, hok, hM, hL⟩, hT, hA, hSl, hDa, z0, z1⟩ := h
  have hRel0 : Rel SI SV LaI LaV LsI LsV (va_up I 0 0) V := Rel_ag h0 (agI_0 I 0) (agV_rf V)
  have hRel : Rel SI (va_up SV 7 (SV 7)) LaI LaV LsI LsV (va_up I 0 0) V := by rw [up_id]; exact hRel0
  have hM1 : tM P L (va_up I 0 0) V := hM
  have l0 := hL.1
  have j4 : va_up I 0 0 4 = nI P := i4
  have hin : M_in f a1.toInt64 1 99 = some (if (1 : Int32) ≤ a1 ∧ a1 ≤ nI 99 then 1 else 0) := in_c f a1 1 99
  unfold X_wish X_refusalOfWish M_wish
  simp only [nm]
  rw [has_eq f a0 _ hP l0, noOne_eq f a0 V hP j4]
  by_cases c : a0 < 0 ∨ nI P ≤ a0
  · rw [if_pos c, if_pos c]
    exact ⟨-1, SV 7, va_up I 0 0, V, rfl, rfl, hRel⟩
  rw [if_neg c, if_neg c, ob1_s, ob1_s, if_neg (by decide), if_pos rfl, hin, isLoan_eq]
  obtain ⟨p, hp, rfl⟩ := one_of (by omega) c
  by_cases c2 : (1 : Int32) ≤ a1 ∧ a1 ≤ nI 99
  rotate_left
  · rw [if_neg c2]
    exact ⟨-2, SV 7, va_up I 0 0, V, rfl, rfl, hRel⟩
  rw [if_pos c2, ob1_s, ob1_s, if_neg (by decide), if_neg (by decide), alive_eq f hP hL hp, ob1_s, gd_nI (show p < 6 by omega) (by decide), cl_nI (by omega), (hM.2.2.1 p hp).2.2.1]
  obtain ⟨a, ha1, ha2, rfl⟩ := (rng1 (by decide)).mp c2
  have o1 := hok.2.2.1 p hp
  have e7 : (nI (L 7 p) = 0) ↔ L 7 p = 0 := by rw [← nI_0]; exact nI_eq (by omega) (by omega)
  by_cases c3 : L 7 p = 0
  rotate_left
  · rw [if_neg c3, if_neg (fun q => c3 (e7.mp q)), if_pos rfl]
    exact ⟨-3, SV 7, va_up I 0 0, V, rfl, rfl, hRel⟩
  rw [if_pos c3, if_pos (e7.mpr c3), if_neg (by decide), ob1_s, if_pos rfl]
  obtain ⟨Vl, w1, w2, w3⟩ := weigh_eq hf (Il := SI 7) (SV 7) hP hok hL (show p < 6 by omega) ha2
  obtain ⟨hh, f1, f2⟩ := findWish_eq hf hP hok j4 hM1 (show p < 6 by omega) ha2
  rw [w1, ob1_s, f2, cheap_eq f ha2 (lrow_le _ _ _ _ _) (w2 0 (by omega) a (Nat.le_refl _)), ob1_s]
  have rel := lrow_rel (pr := prW P L) (lmW P L p) (fun k x hx => prW_le hok k x hx) 0 a ha2
  unfold RS at rel
  have hRel2 : Rel SI (va_up SV 7 Vl) LaI LaV LsI LsV (va_up I 0 0) V := Rel_s hRel0 rfl rfl rfl rfl rfl rfl rfl rfl rfl
  by_cases c4 : lrow (prW P L) (lmW P L p) 99999 0 a < 99999
  · rw [if_pos c4, if_pos (by omega)]
    obtain ⟨g', r1, r2, r3⟩ := wish188 hf (I := va_up I 0 0) (V := va_up V 34 hh) hP hok hM1 (o := 0) ha2 (by omega) f1 hL w2 w3 (Il := SI 7) (fun (Vm_188 : FV) => some (Vm_188 34 a, va_up I 0 0, Vm_188)) (fun x => some x) f 0 a (V 35) (by omega) (by omega) (Nat.le_refl _) c4
    rw [show va_up (va_up V 34 hh) 35 (V 35) = va_up V 34 hh from up_id (va_up V 34 hh) 35] at r1
    rw [show M_findWish_L188 f (va_up I 0 0) _ f (nI a) 0 (va_up V 34 hh) = _ from r1, ob3_s]
    have h0a := f1 0 (by omega) a (Nat.le_refl _)
    rw [show 100 * 0 + a = a by omega] at h0a
    refine ⟨nI (lrow (prW P L) (lmW P L p) 1000000 0 a), Vl, va_up I 0 0, va_up (va_up V 34 hh) 35 g', rfl, ?_, Rel_ag hRel2 ⟨rfl, rfl, rfl, rfl, rfl, rfl⟩ ⟨rfl, rfl, rfl, rfl, rfl, rfl, rfl, rfl, rfl, rfl, rfl, rfl, rfl, rfl, rfl⟩⟩
    show some (hh a, va_up I 0 0, va_up (va_up V 34 hh) 35 g') = _
    rw [h0a, show lrow (prW P L) (lmW P L p) 99999 0 a = lrow (prW P L) (lmW P L p) 1000000 0 a by omega]
  · rw [if_neg c4, if_neg (by omega)]
    exact ⟨-9, Vl, va_up I 0 0, va_up V 34 hh, rfl, rfl, Rel_ag hRel2 ⟨rfl, rfl, rfl, rfl, rfl, rfl⟩ ⟨rfl, rfl, rfl, rfl, rfl, rfl, rfl, rfl, rfl, rfl, rfl, rfl, rfl, rfl, rfl⟩⟩
theorem S_wishBy {f : Nat} (hf : 1000 ≤ f) : Sim_wishBy Rel f := by
  intro SI SV LaI LaV LsI LsV I V a0 a1 a2 h
  have h0 := h
  obtain ⟨P, hP, i4, ⟨L, hok, hM, hL⟩, hT, hA, hSl, hDa, z0, z1⟩ := h
  have hRel0 : Rel SI SV LaI LaV LsI LsV (va_up I 0 0) V := Rel_ag h0 (agI_0 I 0) (agV_rf V)
  have hRel : Rel SI (va_up SV 7 (SV 7)) LaI LaV LsI LsV (va_up I 0 0) V := by rw [up_id]; exact hRel0
  have hM1 : tM P L (va_up I 0 0) V := hM
  have l0 := hL.1
  have j4 : va_up I 0 0 4 = nI P := i4
  have hin : M_in f a1.toInt64 1 99 = some (if (1 : Int32) ≤ a1 ∧ a1 ≤ nI 99 then 1 else 0) := in_c f a1 1 99
  unfold X_wishBy X_refusalOfWish M_wishBy
  simp only [nm]
  rw [has_eq f a0 _ hP l0, noOne_eq f a0 V hP j4, has_eq f a2 _ hP l0, noOne_eq f a2 V hP j4]
  by_cases co : a2 < 0 ∨ nI P ≤ a2
  · rw [if_pos co, if_pos co]
    refine ⟨-1, SV 7, va_up I 0 0, V, rfl, ?_, hRel⟩
    by_cases c : a0 < 0 ∨ nI P ≤ a0
    · rw [if_pos c]; rfl
    · rw [if_neg c]; rfl
  rw [if_neg co, if_neg co, ob1_s, if_neg (by decide)]
  by_cases c : a0 < 0 ∨ nI P ≤ a0
  · rw [if_pos c, if_pos c]
    exact ⟨-1, SV 7, va_up I 0 0, V, rfl, rfl, hRel⟩
  rw [if_neg c, if_neg c, ob1_s, ob1_s, ob1_s, if_neg (by decide), if_pos rfl, if_pos rfl, hin, isLoan_eq]
  obtain ⟨p, hp, rfl⟩ := one_of (by omega) c
  obtain ⟨o, ho, rfl⟩ := one_of (by omega) co
  by_cases c2 : (1 : Int32) ≤ a1 ∧ a1 ≤ nI 99
  rotate_left
  · rw [if_neg c2]
    exact ⟨-2, SV 7, va_up I 0 0, V, rfl, rfl, hRel⟩
  rw [if_pos c2, ob1_s, ob1_s, if_neg (by decide), if_neg (by decide), alive_eq f hP hL hp, ob1_s, gd_nI (show p < 6 by omega) (by decide), cl_nI (show p < 2 ^ 31 by omega), (hM.2.2.1 p hp).2.2.1]
  obtain ⟨a, ha1, ha2, rfl⟩ := (rng1 (by decide)).mp c2
  have o1 := hok.2.2.1 p hp
  have e7 : (nI (L 7 p) = 0) ↔ L 7 p = 0 := by rw [← nI_0]; exact nI_eq (by omega) (by omega)
  by_cases c3 : L 7 p = 0
  rotate_left
  · rw [if_neg c3, if_neg (fun q => c3 (e7.mp q)), if_pos rfl]
    exact ⟨-3, SV 7, va_up I 0 0, V, rfl, rfl, hRel⟩
  rw [if_pos c3, if_pos (e7.mpr c3), if_neg (by decide), ob1_s, if_pos rfl]
  obtain ⟨Vl, w1, w2, w3⟩ := weigh_eq hf (Il := SI 7) (SV 7) hP hok hL (show p < 6 by omega) ha2
  obtain ⟨hh, f1, f2⟩ := findWish_eq hf hP hok j4 hM1 (show p < 6 by omega) ha2
  unfold Lnd_lentBy
  rw [w1, ob1_s, f2, cheap_eq f ha2 (lrow_le _ _ _ _ _) (w2 0 (by omega) a (Nat.le_refl _)), ob1_s]
  have rel := lrow_rel (pr := prW P L) (lmW P L p) (fun k x hx => prW_le hok k x hx) 0 a ha2
  unfold RS at rel
  have hRel2 : Rel SI (va_up SV 7 Vl) LaI LaV LsI LsV (va_up I 0 0) V := Rel_s hRel0 rfl rfl rfl rfl rfl rfl rfl rfl rfl
  by_cases c4 : lrow (prW P L) (lmW P L p) 99999 0 a < 99999
  · rw [if_pos c4, if_pos (show lrow (prW P L) (lmW P L p) 1000000 0 a < 1000000 by omega)]
    have n9 : ∀ v : Nat, v ≤ 2700 → ¬ nI v = -9 := by
      intro v hv q
      have q2 := congrArg Int32.toInt q
      rw [nI_toInt (by omega), show ((-9 : Int32)).toInt = -9 from rfl] at q2
      omega
    obtain ⟨g', r1, r2, r3⟩ := wish188 hf (I := va_up I 0 0) (V := va_up V 34 hh) hP hok hM1 (o := o) ha2 ho f1 hL w2 w3 (Il := SI 7) (fun (Vm_188 : FV) => some (Vm_188 34 a, va_up I 0 0, Vm_188)) (fun x => some x) f 0 a (V 35) (by omega) (by omega) (Nat.le_refl _) c4
    rw [show va_up (va_up V 34 hh) 35 (V 35) = va_up V 34 hh from up_id (va_up V 34 hh) 35] at r1
    rw [show M_findWish_L188 f (va_up I 0 0) _ f (nI a) 0 (va_up V 34 hh) = _ from r1, ob3_s]
    have h0a := f1 0 (by omega) a (Nat.le_refl _)
    rw [show 100 * 0 + a = a by omega] at h0a
    have x1 := r3 (Nat.zero_le _) f 0 (by omega)
    refine ⟨g' o, Vl, va_up I 0 0, va_up (va_up V 34 hh) 35 g', ?_, ?_, Rel_ag hRel2 ⟨rfl, rfl, rfl, rfl, rfl, rfl⟩ ⟨rfl, rfl, rfl, rfl, rfl, rfl, rfl, rfl, rfl, rfl, rfl, rfl, rfl, rfl, rfl⟩⟩
    · rw [if_neg (n9 _ (by omega)), show Lnd_lentBy_L22 f (nI o) (SI 1) (SV 1) (SI 7) Vl _ f (nI a) 0 0 = _ from x1, ob1_s]
    · show (if hh a = -9 then _ else _) = _
      rw [h0a, if_neg (n9 _ (by omega)), gd_nI (show o < 6 by omega) (by decide), cl_nI (by omega), va_up_self]
  · rw [if_neg c4, if_neg (show ¬ lrow (prW P L) (lmW P L p) 1000000 0 a < 1000000 by omega)]
    exact ⟨-9, Vl, va_up I 0 0, va_up V 34 hh, rfl, rfl, Rel_ag hRel2 ⟨rfl, rfl, rfl, rfl, rfl, rfl⟩ ⟨rfl, rfl, rfl, rfl, rfl, rfl, rfl, rfl, rfl, rfl, rfl, rfl, rfl, rfl, rfl⟩⟩
