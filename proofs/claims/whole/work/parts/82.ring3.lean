theorem find_none {f : Nat} (hf : 7000000 ≤ f) {I : FI} {V0 : FV} {P p : Nat} {L : Nat → Nat → Nat} (hP : P ≤ 6) (hok : okT P L) (i4 : I 4 = nI P) (hM : tM P L I V0) (hp : p < P) (hno : ∀ k, 1 ≤ k → ¬ Wk L p k p) (K : FV → Option (Int32 × FI × FV)) : ∀ (N n : Nat) (g : Nat → Int32), 2 ≤ n → n ≤ P + 1 → P + 1 - n < N → ∃ g', M_findRing_L2 f I (nI p) K N (nI n) (va_up V0 32 g) = K (va_up V0 32 g') := by
  intro N
  induction N with
  | zero => intro n g h1 h2 h3; omega
  | succ N ih =>
    intro n g h1 h2 h3
    rw [M_findRing_L2, i4]
    by_cases e : n = P + 1
    · exact ⟨g, if_pos (nI_lt (by omega) (by omega))⟩
    · rw [if_neg (nI_nlt (by omega) (by omega))]
      have hk := KK5 (n - 1) (by omega)
      rcases dfs (f := f) (by omega) hP hok hM hp h1 (by omega) (fun k k1 _ => hno k k1) (fun (Vm_20 : FV) => (M_findRing_L2 f I (nI p) K N (nI n + 1) Vm_20)) (n - 1) 0 (by omega) 13 f 0 (upd g 0 (-9)) (fun _ => 0) (by omega) (Nat.zero_le _) (fun k hk => absurd hk (Nat.not_lt_zero _)) (by rw [upd_s, if_pos rfl]) (fun k hk => by
        have e0 : k = 0 := by omega
        rw [e0]
        exact pre_0 L p) (by omega) with ⟨tr', g', h', y1, y2, y3, y4, y5, y6⟩ | ⟨y1, N1, g1, y2, y3, y4⟩
      · exfalso
        obtain ⟨a1, a2, a3⟩ := y4 0 (Nat.le_refl _) (by omega)
        exact hno (n - 1 - 0 + 1) (by omega) ⟨tr' 0, a1, a2, a3⟩
      · obtain ⟨N2, rfl⟩ : ∃ N2, N1 = N2 + 1 := ⟨N1 - 1, by omega⟩
        obtain ⟨g', q1⟩ := ih (n + 1) g1 (by omega) (by omega) (by omega)
        refine ⟨g', ?_⟩
        refine nmq ?_
        rw [va_up_self, bx_uu, show (0 : Int32).toNatClampNeg = 0 from by decide]
        refine Eq.trans y2 ?_
        rw [M_findRing_L20, if_pos (by decide), nI_1]
        exact q1
theorem find_some {f : Nat} (hf : 7000000 ≤ f) {I : FI} {V0 : FV} {P p F : Nat} {L : Nat → Nat → Nat} (hP : P ≤ 6) (hok : okT P L) (i4 : I 4 = nI P) (hM : tM P L I V0) (hp : p < P) (hF2 : 2 ≤ F) (hFP : F ≤ P) (hF : Wk L p F p) (hmin : ∀ k, 1 ≤ k → k < F → ¬ Wk L p k p) (K : FV → Option (Int32 × FI × FV)) : ∀ (N n : Nat) (g : Nat → Int32), 2 ≤ n → n ≤ F → F - n < N → ∃ (tr : Nat → Nat) (g' h' : Nat → Int32), M_findRing_L2 f I (nI p) K N (nI n) (va_up V0 32 g) = some (nI F, I, va_up (va_up V0 32 g') 33 h') ∧ (∀ k, k < F → h' k = nI (tr k)) ∧ ringF L p F 0 tr ∧ firstF L p F 0 tr := by
  intro N
  induction N with
  | zero => intro n g h1 h2 h3; omega
  | succ N ih =>
    intro n g h1 h2 h3
    rw [M_findRing_L2, i4, if_neg (nI_nlt (by omega) (by omega))]
    have hk := KK5 (n - 1) (by omega)
    rcases dfs (f := f) (by omega) hP hok hM hp h1 (by omega) (fun k k1 k2 => hmin k k1 (by omega)) (fun (Vm_20 : FV) => (M_findRing_L2 f I (nI p) K N (nI n + 1) Vm_20)) (n - 1) 0 (by omega) 13 f 0 (upd g 0 (-9)) (fun _ => 0) (by omega) (Nat.zero_le _) (fun k hk => absurd hk (Nat.not_lt_zero _)) (by rw [upd_s, if_pos rfl]) (fun k hk => by
        have e0 : k = 0 := by omega
        rw [e0]
        exact pre_0 L p) (by omega) with ⟨tr', g', h', y1, y2, y3, y4, y5, y6⟩ | ⟨y1, N1, g1, y2, y3, y4⟩
    · have e : n = F := by
        obtain ⟨a1, a2, a3⟩ := y4 0 (Nat.le_refl _) (by omega)
        rcases Nat.lt_or_ge n F with c | c
        · exact absurd ⟨tr' 0, a1, a2, a3⟩ (hmin (n - 1 - 0 + 1) (by omega) (by omega))
        · omega
      subst e
      refine ⟨tr', g', h', ?_, y2, y4, fun k k1 k2 e e1 => ?_⟩
      · refine nmq ?_
        rw [va_up_self, bx_uu, show (0 : Int32).toNatClampNeg = 0 from by decide]
        exact y1
      · by_cases ek : k = 0
        · rw [ek] at e1 ⊢
          exact y6 e (Nat.zero_le _) e1
        · exact y5 k (by omega) k2 e e1
    · have e : n < F := by
        rcases Nat.lt_or_ge n F with c | c
        · exact c
        · exfalso
          have en : F = n - 1 + 1 := by omega
          rw [en] at hF
          obtain ⟨j, j1, j2, j3⟩ := hF
          exact y1 j (Nat.zero_le _) j1 ⟨j2, j3⟩
      obtain ⟨N2, rfl⟩ : ∃ N2, N1 = N2 + 1 := ⟨N1 - 1, by omega⟩
      obtain ⟨tr, g', h', q1, q2, q3, q4⟩ := ih (n + 1) g1 (by omega) (by omega) (by omega)
      refine ⟨tr, g', h', ?_, q2, q3, q4⟩
      refine nmq ?_
      rw [va_up_self, bx_uu, show (0 : Int32).toNatClampNeg = 0 from by decide]
      refine Eq.trans y2 ?_
      rw [M_findRing_L20, if_pos (by decide), nI_1]
      exact q1
theorem S_ring {f : Nat} (hf : 7000000 ≤ f) : Sim_ring Rel f := by
  intro SI SV LaI LaV LsI LsV I V a0 h
  have h0 := h
  obtain ⟨P, hP, i4, ⟨L, hok, hM, hL⟩, hT, hA, hSl, hDa, z0, z1⟩ := h
  have hRel0 : Rel SI SV LaI LaV LsI LsV (va_up I 0 0) V := Rel_ag h0 (agI_0 I 0) (agV_rf V)
  have hM1 : tM P L (va_up I 0 0) V := hM
  have l0 := hL.1
  have j4 : va_up I 0 0 4 = nI P := i4
  unfold X_ring M_ring
  simp only [nm]
  rw [has_eq f a0 _ hP l0, noOne_eq f a0 V hP j4]
  by_cases c : a0 < 0 ∨ nI P ≤ a0
  · rw [if_pos c, if_pos c]
    refine ⟨-1, SV 6, va_up I 0 0, V, rfl, rfl, ?_⟩
    rw [up_id]
    exact hRel0
  rw [if_neg c, if_neg c, ob1_s, ob1_s, if_neg (by decide), if_pos rfl]
  obtain ⟨p, hp, rfl⟩ := one_of (by omega) c
  obtain ⟨st, g, F, e1, e2, e3, e4, e5⟩ := fewD_eq (f := f) (by omega) hP hok hL hp (SI 6) (SV 6)
  have hRel2 : Rel SI (va_up SV 6 (va_up (SV 6) 0 g)) LaI LaV LsI LsV (va_up I 0 0) V := Rel_s hRel0 rfl rfl rfl rfl rfl rfl rfl rfl rfl
  rw [e1, ob2_s]
  by_cases cF : F < 1000
  · obtain ⟨f1, f2, f3⟩ := e4 cF
    obtain ⟨tr, g', h', q1, q2, q3, q4⟩ := find_some hf (I := va_up I 0 0) (V0 := V) hP hok j4 hM1 hp f1 f2 f3 (fun k k1 k2 z => by have := e5 k k1 z; omega) (fun (Vm_2 : FV) => some ((-9), va_up I 0 0, Vm_2)) f 2 (V 32) (Nat.le_refl _) f1 (by omega)
    rw [up_id] at q1
    rw [if_pos cF, show M_findRing f (nI p) (va_up I 0 0) V = _ from q1, ob3_s]
    exact ⟨nI F, _, _, _, rfl, rfl, Rel_ag hRel2 ⟨rfl, rfl, rfl, rfl, rfl, rfl⟩ ⟨rfl, rfl, rfl, rfl, rfl, rfl, rfl, rfl, rfl, rfl, rfl, rfl, rfl, rfl, rfl⟩⟩
  · obtain ⟨g', q1⟩ := find_none hf (I := va_up I 0 0) (V0 := V) hP hok j4 hM1 hp (fun k k1 z => cF (e5 k k1 z).2) (fun (Vm_2 : FV) => some ((-9), va_up I 0 0, Vm_2)) f 2 (V 32) (Nat.le_refl _) (by omega) (by omega)
    rw [up_id] at q1
    rw [if_neg cF, show M_findRing f (nI p) (va_up I 0 0) V = _ from q1, ob3_s]
    exact ⟨-9, _, _, _, rfl, rfl, Rel_ag hRel2 ⟨rfl, rfl, rfl, rfl, rfl, rfl⟩ ⟨rfl, rfl, rfl, rfl, rfl, rfl, rfl, rfl, rfl, rfl, rfl, rfl, rfl, rfl, rfl⟩⟩
/-! room -/
def mnr (L : Nat → Nat → Nat) (tr : Nat → Nat) (x0 : Nat) : Nat → Nat
  | 0 => x0
  | k + 1 => if L 12 (tr k) < mnr L tr x0 k then L 12 (tr k) else mnr L tr x0 k
theorem mnr_le (L : Nat → Nat → Nat) (tr : Nat → Nat) (x0 : Nat) : ∀ k, mnr L tr x0 k ≤ x0
  | 0 => Nat.le_refl _
  | k + 1 => by
    have := mnr_le L tr x0 k
    rw [mnr]
    split <;> omega
theorem mnr_eq {L : Nat → Nat → Nat} {tr : Nat → Nat} {x y : Nat} (hx : 99 < x) (hy : 99 < y) : ∀ k, (∀ i, i ≤ k → L 12 (tr i) ≤ 99) → mnr L tr x (k + 1) = mnr L tr y (k + 1) ∧ mnr L tr x (k + 1) ≤ 99
  | 0, h => by
    have h0 := h 0 (Nat.le_refl _)
    rw [mnr, mnr]
    show (if L 12 (tr 0) < x then L 12 (tr 0) else x) = (if L 12 (tr 0) < y then L 12 (tr 0) else y) ∧ (if L 12 (tr 0) < x then L 12 (tr 0) else x) ≤ 99
    rw [if_pos (by omega), if_pos (by omega)]
    exact ⟨rfl, h0⟩
  | k + 1, h => by
    obtain ⟨a1, a2⟩ := mnr_eq hx hy k (fun i hi => h i (by omega))
    have h0 := h (k + 1) (Nat.le_refl _)
    rw [mnr, mnr.eq_2 L tr y (k + 1), ← a1]
    refine ⟨rfl, ?_⟩
    split <;> omega
theorem rm38 {ρ : Type} (f : Nat) {V5 : FV} {F D x0 : Nat} {L : Nat → Nat → Nat} {tr : Nat → Nat} (hF : F ≤ 6) (hD : D ≤ 12) (hx : x0 < 2 ^ 31) (h33 : ∀ k, k < F → V5 33 k = nI (tr k) ∧ tr k < D) (h12 : ∀ j, j < D → V5 12 j = nI (L 12 j) ∧ L 12 j < 2 ^ 31) (K : Int32 → Option ρ) : ∀ m i, i ≤ F → F - i < m → M_room_L38 f (nI F) V5 K m (nI (mnr L tr x0 i)) (nI i) = K (nI (mnr L tr x0 F)) := by
  intro m
  induction m with
  | zero => intro i h1 h2; omega
  | succ m ih =>
    intro i h1 h2
    rw [M_room_L38]
    by_cases e : i = F
    · subst e
      rw [if_pos (nI_le (Nat.le_refl _) (by omega))]
    · have hi : i < F := by omega
      obtain ⟨a1, a2⟩ := h33 i hi
      obtain ⟨b1, b2⟩ := h12 _ a2
      have hl := mnr_le L tr x0 i
      have ih2 := ih (i + 1) (by omega) (by omega)
      rw [mnr] at ih2
      rw [if_neg (nI_ge hi (by omega))]
      simp only [nm, gd_nI (show i < 7 by omega) (show 7 < 2 ^ 31 by decide)]
      simp only [cl_nI (show i < 2 ^ 31 by omega), a1]
      simp only [gd_nI (show tr i < 12 by omega) (show 12 < 2 ^ 31 by decide)]
      simp only [cl_nI (show tr i < 2 ^ 31 by omega), b1, nI_1]
      by_cases c : L 12 (tr i) < mnr L tr x0 i
      · rw [if_neg (fun z => by have := (le_n (by omega) b2).mp z; omega)]
        rw [if_pos c] at ih2
        exact ih2
      · rw [if_pos ((le_n (by omega) b2).mpr (by omega))]
        rw [if_neg c] at ih2
        exact ih2
theorem fd3 (f : Nat) {Ig : FI} {Vg : FV} {P : Nat} {L : Nat → Nat → Nat} (hP : P ≤ 6) (hok : okT P L) (hL : tL P L Ig Vg) {w e left : Nat} (hw : w < 6) (hl : left < 2 ^ 31) {Vr : FV} {st : Nat → Nat} (hV : ∀ v, v < 6 → Vr 0 v = nI (st v) ∧ st v < 2 ^ 31) (he : e < L 0 0) (h1 : L 11 e = w) (h2 : st (L 10 e) = left) (h3 : ∀ e', e' < e → ¬ (L 11 e' = w ∧ st (L 10 e') = left)) (K : Unit → Option Int32) : ∀ m j, j ≤ e → e - j < m → Rng_firstDebt_L3 f Ig Vg (nI w) Vr (nI left) K m (nI j) = some (nI e) := by
  obtain ⟨l0, l1, l2, l3, l4, lp, ld⟩ := hL
  have hd := hok.1
  intro m
  induction m with
  | zero => intro j a1 a2; omega
  | succ m ih =>
    intro j a1 a2
    have hj : j < L 0 0 := by omega
    obtain ⟨o1, o2, o3, o4, o5⟩ := hok.2.2.2 j hj
    obtain ⟨d1, d2, d3, d4⟩ := ld j hj
    have c6 : L 10 j < 6 := by omega
    obtain ⟨s1, s2⟩ := hV _ c6
    rw [Rng_firstDebt_L3, l1, if_neg (nI_ge hj (by omega))]
    simp only [nm, gd_nI (show j < 12 by omega) (show 12 < 2 ^ 31 by decide)]
    simp only [cl_nI (show j < 2 ^ 31 by omega), d1, d2, nI_1, nI_eq (show L 11 j < 2 ^ 31 by omega) (show w < 2 ^ 31 by omega)]
    simp only [gd_nI c6 (show 6 < 2 ^ 31 by decide)]
    simp only [cl_nI (show L 10 j < 2 ^ 31 by omega), s1, nI_eq s2 hl]
    by_cases ej : j = e
    · rw [ej, if_pos h1, if_pos h2]
    · have hn := h3 j (by omega)
      by_cases q1 : L 11 j = w
      · rw [if_pos q1, if_neg (fun z => hn ⟨q1, z⟩)]
        exact ih (j + 1) (by omega) (by omega)
      · rw [if_neg q1]
        exact ih (j + 1) (by omega) (by omega)
theorem la27 {f : Nat} (hf : 100 ≤ f) {Ig : FI} {Vg : FV} {P : Nat} {L : Nat → Nat → Nat} (hP : P ≤ 6) (hok : okT P L) (hL : tL P L Ig Vg) {p F : Nat} (hp : p < P) (hF : F ≤ 6) (Ir : FI) {V2 : FV} {st tr : Nat → Nat} (hV : ∀ v, v < 6 → V2 0 v = nI (st v) ∧ st v < 2 ^ 31) (hr : ∀ k, k < F → tr k < L 0 0 ∧ L 11 (tr k) = uu L p tr k ∧ st (L 10 (tr k)) = F - 1 - k ∧ ∀ e, e < tr k → ¬ (L 11 e = uu L p tr k ∧ st (L 10 e) = F - 1 - k)) (K : Int32 → Option (Int32 × FV)) : ∀ m i, i ≤ F → F - i < m → Rng_leastAmount_L27 f Ir V2 Ig Vg K m (nI (F - i)) (nI (uu L p tr i)) (nI (mnr L tr 1000 i)) (nI i) = K (nI (mnr L tr 1000 F)) := by
  have hd := hok.1
  intro m
  induction m with
  | zero => intro i h1 h2; omega
  | succ m ih =>
    intro i h1 h2
    rw [Rng_leastAmount_L27]
    by_cases e : i = F
    · subst e
      rw [Nat.sub_self, if_pos (show nI 0 ≤ 0 by decide)]
      split <;> rfl
    · have hi : i < F := by omega
      obtain ⟨r1, r2, r3, r4⟩ := hr i hi
      have hw : uu L p tr i < 6 := by
        rw [← r2]
        have := (hok.2.2.2 _ r1).2.1
        omega
      have o := hok.2.2.2 _ r1
      obtain ⟨d1, d2, d3, d4⟩ := hL.2.2.2.2.2.2 _ r1
      have hl := mnr_le L tr 1000 i
      have q : Rng_firstDebt f (nI (uu L p tr i)) (nI (F - i) + (-1)) Ir V2 Ig Vg = some (nI (tr i)) := by
        rw [show F - i = F - 1 - i + 1 by omega, pk_m1]
        exact fd3 f hP hok hL hw (by omega) hV r1 r2 r3 r4 (fun (u_3 : Unit) => some (-9)) f 0 (Nat.zero_le _) (by omega)
      have ih2 := ih (i + 1) (by omega) (by omega)
      rw [mnr] at ih2
      rw [if_neg (show ¬ (6 : Int32) ≤ nI _ from nI_ge (b := 6) (show i < 6 by omega) (by decide)), if_neg (nI_nle (show 0 < F - i by omega) (by omega)), q, ob1_s, if_neg (m9 (by omega)), gd_nI (show tr i < 12 by omega) (by decide), cl_nI (by omega), d3]
      refine nmq ?_
      rw [gz (show tr i < 12 by omega) (by decide), d1]
      refine nmq ?_
      rw [show F - i = F - (i + 1) + 1 by omega, pk_m1, nI_1]
      by_cases c : L 12 (tr i) < mnr L tr 1000 i
      · rw [if_pos ((lt_n (by omega) (by omega)).mpr c)]
        rw [if_pos c] at ih2
        exact ih2
      · rw [if_neg (fun z => c ((lt_n (by omega) (by omega)).mp z))]
        rw [if_neg c] at ih2
        exact ih2
theorem S_room {f : Nat} (hf : 7000000 ≤ f) : Sim_room Rel f := by
  intro SI SV LaI LaV LsI LsV I V a0 h
  have h0 := h
  obtain ⟨P, hP, i4, ⟨L, hok, hM, hL⟩, hT, hA, hSl, hDa, z0, z1⟩ := h
  have hRel0 : Rel SI SV LaI LaV LsI LsV (va_up I 0 0) V := Rel_ag h0 (agI_0 I 0) (agV_rf V)
  have hM1 : tM P L (va_up I 0 0) V := hM
  have l0 := hL.1
  have hd := hok.1
  have j4 : va_up I 0 0 4 = nI P := i4
  unfold X_room M_room
  simp only [nm]
  rw [has_eq f a0 _ hP l0, noOne_eq f a0 V hP j4]
  by_cases c : a0 < 0 ∨ nI P ≤ a0
  · rw [if_pos c, if_pos c]
    refine ⟨-1, SV 6, va_up I 0 0, V, rfl, rfl, ?_⟩
    rw [up_id]
    exact hRel0
  rw [if_neg c, if_neg c, ob1_s, ob1_s, if_neg (by decide), if_pos rfl]
  obtain ⟨p, hp, rfl⟩ := one_of (by omega) c
  obtain ⟨st, g, F, e1, e2, e3, e4, e5⟩ := fewD_eq (f := f) (by omega) hP hok hL hp (SI 6) (SV 6)
  have hRel2 : Rel SI (va_up SV 6 (va_up (SV 6) 0 g)) LaI LaV LsI LsV (va_up I 0 0) V := Rel_s hRel0 rfl rfl rfl rfl rfl rfl rfl rfl rfl
  unfold Rng_leastAmount
  rw [e1, ob2_s]
  by_cases cF : F < 1000
  · obtain ⟨f1, f2, f3⟩ := e4 cF
    have hmin : ∀ k, 1 ≤ k → k < F → ¬ Wk L p k p := fun k k1 k2 z => by have := e5 k k1 z; omega
    obtain ⟨tr, g', h', q1, q2, q3, q4⟩ := find_some hf (I := va_up I 0 0) (V0 := V) hP hok j4 hM1 hp f1 f2 f3 hmin (fun (Vm_2 : FV) => some ((-9), va_up I 0 0, Vm_2)) f 2 (V 32) (Nat.le_refl _) f1 (by omega)
    rw [up_id] at q1
    rw [if_pos cF, show M_findRing f (nI p) (va_up I 0 0) V = _ from q1, ob3_s, if_neg (m9 (by omega)), if_neg (m9 (by omega))]
    have hpre : ∀ k, k ≤ F → pre L p k (uu L p tr k) := by
      intro k
      induction k with
      | zero => intro _; exact pre_0 L p
      | succ k ih =>
        intro hk
        obtain ⟨r1, r2, r3⟩ := q3 k (Nat.zero_le _) (by omega)
        exact pre_s (ih (by omega)) r1 r2
    have hst : ∀ k, k < F → ∀ e, e < L 0 0 → L 11 e = uu L p tr k → (st (L 10 e) = F - 1 - k ↔ Wk L p (F - 1 - k) (L 10 e)) := by
      intro k hk e he hu
      obtain ⟨x1, x2, x3⟩ := e3 (L 10 e) (by have := (hok.2.2.2 e he).1; omega)
      constructor
      · intro z
        rw [← z]
        exact x2 (by omega)
      · intro z
        have h1 := x3 _ (by omega) z
        rcases Nat.lt_or_ge (st (L 10 e)) (F - 1 - k) with q | q
        · exfalso
          have h2 := pre_s (hpre k (by omega)) he hu _ (x2 (by omega))
          exact hmin _ (by omega) (by omega) h2
        · omega
    have hr : ∀ k, k < F → tr k < L 0 0 ∧ L 11 (tr k) = uu L p tr k ∧ st (L 10 (tr k)) = F - 1 - k ∧ ∀ e, e < tr k → ¬ (L 11 e = uu L p tr k ∧ st (L 10 e) = F - 1 - k) := by
      intro k hk
      obtain ⟨r1, r2, r3⟩ := q3 k (Nat.zero_le _) hk
      refine ⟨r1, r2, (hst k hk _ r1 r2).mpr r3, fun e he z => ?_⟩
      exact q4 k (Nat.zero_le _) hk e he ⟨z.1, (hst k hk e (by omega) z.1).mp z.2⟩
    have x1 := la27 (f := f) (by omega) hP hok hL hp (show F ≤ 6 by omega) (SI 6) (V2 := va_up (SV 6) 0 g) (st := st) (tr := tr) (fun v hv => ⟨e2 v hv, by have := (e3 v hv).1; omega⟩) hr (fun (x5_27 : Int32) => some (x5_27, va_up (SV 6) 0 g)) f 0 (Nat.zero_le _) (by omega)
    have x2 := rm38 f (V5 := va_up (va_up V 32 g') 33 h') (D := L 0 0) (x0 := 99999) (L := L) (tr := tr) (show F ≤ 6 by omega) hd (by decide) (fun k hk => ⟨q2 k hk, (q3 k (Nat.zero_le _) hk).1⟩) (fun j hj => ⟨(hM.2.2.2 j hj).2.2.1, by have := (hok.2.2.2 j hj).2.2.2.2; omega⟩) (fun (x3_38 : Int32) => some (x3_38, va_up I 0 0, va_up (va_up V 32 g') 33 h')) f 0 (Nat.zero_le _) (by omega)
    obtain ⟨y1, y2⟩ := mnr_eq (L := L) (tr := tr) (x := 1000) (y := 99999) (by decide) (by decide) (F - 1) (fun i hi => (hok.2.2.2 _ (q3 i (Nat.zero_le _) (by omega)).1).2.2.2.2)
    rw [show F - 1 + 1 = F by omega] at y1
    refine ⟨nI (mnr L tr 1000 F), va_up (SV 6) 0 g, va_up I 0 0, va_up (va_up V 32 g') 33 h', ?_, ?_, Rel_ag hRel2 ⟨rfl, rfl, rfl, rfl, rfl, rfl⟩ ⟨rfl, rfl, rfl, rfl, rfl, rfl, rfl, rfl, rfl, rfl, rfl, rfl, rfl, rfl, rfl⟩⟩
    · rw [show Rng_leastAmount_L27 f (SI 6) (va_up (SV 6) 0 g) (SI 1) (SV 1) _ f (nI F) (nI p) 1000 0 = _ from x1, ob2_s]
    · rw [y1]
      exact x2
  · obtain ⟨g', q1⟩ := find_none hf (I := va_up I 0 0) (V0 := V) hP hok j4 hM1 hp (fun k k1 z => cF (e5 k k1 z).2) (fun (Vm_2 : FV) => some ((-9), va_up I 0 0, Vm_2)) f 2 (V 32) (Nat.le_refl _) (by omega) (by omega)
    rw [up_id] at q1
    rw [if_neg cF, show M_findRing f (nI p) (va_up I 0 0) V = _ from q1, ob3_s, if_pos rfl, ob2_s, if_pos rfl]
    obtain ⟨n, rfl⟩ : ∃ n, f = n + 1 := ⟨f - 1, by omega⟩
    refine ⟨-9, _, va_up I 0 0, va_up V 32 g', rfl, ?_, Rel_ag hRel2 ⟨rfl, rfl, rfl, rfl, rfl, rfl⟩ ⟨rfl, rfl, rfl, rfl, rfl, rfl, rfl, rfl, rfl, rfl, rfl, rfl, rfl, rfl, rfl⟩⟩
    rw [M_room_L38, if_pos (by decide)]
