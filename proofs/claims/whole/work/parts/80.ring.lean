/-! rings: walks of debts that lead to p -/
def Wk (L : Nat → Nat → Nat) (p : Nat) : Nat → Nat → Prop
  | 0, v => v = p
  | k + 1, v => ∃ j, j < L 0 0 ∧ L 11 j = v ∧ Wk L p k (L 10 j)
theorem pigeon : ∀ (m n : Nat) (g : Nat → Nat), (∀ i, i < n → g i < m) → (∀ i j, i < n → j < n → g i = g j → i = j) → n ≤ m := by
  intro m
  induction m with
  | zero =>
    intro n g h1 _
    rcases n with _ | n
    · exact Nat.le_refl _
    · exact absurd (h1 0 (by omega)) (Nat.not_lt_zero _)
  | succ m ih =>
    intro n g h1 h2
    rcases n with _ | n
    · exact Nat.zero_le _
    · have := ih n (fun i => if g i = m then g n else g i) (fun i hi => by
        have a1 := h1 i (by omega)
        have a2 := h1 n (by omega)
        show (if g i = m then g n else g i) < m
        by_cases e : g i = m
        · rw [if_pos e]
          by_cases e2 : g n = m
          · have := h2 i n (by omega) (by omega) (by omega); omega
          · omega
        · rw [if_neg e]; omega) (fun i j hi hj q => by
        have q : (if g i = m then g n else g i) = (if g j = m then g n else g j) := q
        by_cases e : g i = m
        · rw [if_pos e] at q
          by_cases e2 : g j = m
          · exact h2 i j (by omega) (by omega) (by omega)
          · rw [if_neg e2] at q
            have := h2 n j (by omega) (by omega) q; omega
        · rw [if_neg e] at q
          by_cases e2 : g j = m
          · rw [if_pos e2] at q
            have := h2 i n (by omega) (by omega) q; omega
          · rw [if_neg e2] at q
            exact h2 i j (by omega) (by omega) q)
      omega
theorem chainW {P : Nat} {L : Nat → Nat → Nat} (hok : okT P L) (p : Nat) : ∀ k v, v < P → Wk L p k v → (∀ k', k' < k → ¬ Wk L p k' v) → ∃ g : Nat → Nat, ∀ i, i ≤ k → g i < P ∧ Wk L p i (g i) ∧ ∀ k', k' < i → ¬ Wk L p k' (g i) := by
  intro k
  induction k with
  | zero =>
    intro v hv h1 h2
    refine ⟨fun _ => v, fun i hi => ?_⟩
    have e : i = 0 := by omega
    rw [e]
    exact ⟨hv, h1, h2⟩
  | succ k ih =>
    intro v hv h1 h2
    obtain ⟨j, j1, j2, j3⟩ := id h1
    have o := (hok.2.2.2 j j1).1
    obtain ⟨g, hg⟩ := ih (L 10 j) o j3 (fun k' hk' q => h2 (k' + 1) (by omega) ⟨j, j1, j2, q⟩)
    refine ⟨fun i => if i = k + 1 then v else g i, fun i hi => ?_⟩
    show (if i = k + 1 then v else g i) < P ∧ Wk L p i (if i = k + 1 then v else g i) ∧ ∀ k', k' < i → ¬ Wk L p k' (if i = k + 1 then v else g i)
    by_cases e : i = k + 1
    · rw [if_pos e, e]; exact ⟨hv, h1, h2⟩
    · rw [if_neg e]; exact hg i (by omega)
/-- a shortest walk is shortW -/
theorem shortW {P : Nat} {L : Nat → Nat → Nat} (hok : okT P L) {p k v : Nat} (hv : v < P) (h : Wk L p k v) : ∃ k', k' < P ∧ k' ≤ k ∧ Wk L p k' v := by
  obtain ⟨k', h1, h2, h3⟩ := least_nat (fun k => Wk L p k v) k h
  obtain ⟨g, hg⟩ := chainW hok p k' v hv h2 h3
  refine ⟨k', ?_, h1, h2⟩
  have := pigeon P (k' + 1) g (fun i hi => (hg i (by omega)).1) (fun i j hi hj e => by
    rcases Nat.lt_trichotomy i j with c | c | c
    · exact absurd (by rw [← e]; exact (hg i (by omega)).2.1) ((hg j (by omega)).2.2 i c)
    · exact c
    · exact absurd (by rw [e]; exact (hg j (by omega)).2.1) ((hg i (by omega)).2.2 j c))
  omega
def Inv (L : Nat → Nat → Nat) (p r : Nat) (st : Nat → Nat) : Prop := ∀ v, v < 6 → st v ≤ 1000 ∧ (st v < 1000 → Wk L p (st v) v) ∧ ∀ k, k ≤ r → Wk L p k v → st v ≤ k
theorem ms2 {ρ : Type} (f : Nat) {p : Nat} (hp : p < 6) (Vr : FV) (K : FV → Option ρ) : ∀ (n i : Nat) (g : Nat → Int32), i ≤ 6 → 6 - i < n → (∀ v, v < i → g v = nI (if v = p then 0 else 1000)) → ∃ g', Rng_measure_L2 f (nI p) K n (nI i) (va_up Vr 0 g) = K (va_up Vr 0 g') ∧ ∀ v, v < 6 → g' v = nI (if v = p then 0 else 1000) := by
  intro n
  induction n with
  | zero => intro i g h1 h2; omega
  | succ n ih =>
    intro i g h1 h2 h3
    rw [Rng_measure_L2]
    by_cases e : i = 6
    · subst e
      exact ⟨g, if_pos (nI_le (a := 6) (b := 6) (Nat.le_refl _) (by decide)), h3⟩
    · have hi : i < 6 := by omega
      obtain ⟨g', q1, q2⟩ := ih (i + 1) (upd g i (nI (if i = p then 0 else 1000))) (by omega) (by omega) (fun v hv => by
        by_cases ev : v = i
        · rw [ev, upd_s]
        · rw [upd_n _ _ ev]; exact h3 v (by omega))
      refine ⟨g', ?_, q2⟩
      rw [if_neg (show ¬ (6 : Int32) ≤ nI _ from nI_ge (b := 6) hi (by decide))]
      simp only [nm, gd_nI hi (show 6 < 2 ^ 31 by decide)]
      simp only [cl_nI (show i < 2 ^ 31 by omega), va_up_self, bx_uu, nI_1]
      by_cases ep : i = p
      · rw [if_pos (by rw [ep])]
        rw [if_pos ep] at q1
        exact q1
      · rw [if_neg (fun z => ep (nI_inj (by omega) (by omega) z))]
        rw [if_neg ep] at q1
        exact q1
theorem ms43 {ρ : Type} (f : Nat) {Ig : FI} {Vg : FV} {P : Nat} {L : Nat → Nat → Nat} (hP : P ≤ 6) (hok : okT P L) (hL : tL P L Ig Vg) {p r : Nat} (Vr : FV) (K : FV → Option ρ) : ∀ (n j : Nat) (st : Nat → Nat) (g : Nat → Int32), j ≤ L 0 0 → L 0 0 - j < n → (∀ v, v < 6 → g v = nI (st v)) → Inv L p r st → (∀ i, i < j → ∀ k, k ≤ r → Wk L p k (L 10 i) → st (L 11 i) ≤ k + 1) → ∃ (st' : Nat → Nat) (g' : Nat → Int32), Rng_measure_L43 f Ig Vg K n (nI j) (va_up Vr 0 g) = K (va_up Vr 0 g') ∧ (∀ v, v < 6 → g' v = nI (st' v)) ∧ Inv L p (r + 1) st' := by
  obtain ⟨l0, l1, l2, l3, l4, lp, ld⟩ := hL
  have hd := hok.1
  intro n
  induction n with
  | zero => intro j st g h1 h2; omega
  | succ n ih =>
    intro j st g h1 h2 h3 h4 h5
    rw [Rng_measure_L43, l1]
    by_cases e : j = L 0 0
    · refine ⟨st, g, if_pos (nI_le (by omega) (by omega)), h3, fun v hv => ⟨(h4 v hv).1, (h4 v hv).2.1, fun k hk hw => ?_⟩⟩
      by_cases ek : k = r + 1
      · rw [ek] at hw
        obtain ⟨i, i1, i2, i3⟩ := hw
        have := h5 i (by omega) r (Nat.le_refl _) i3
        rw [i2] at this
        omega
      · exact (h4 v hv).2.2 k (by omega) hw
    · have hj : j < L 0 0 := by omega
      obtain ⟨o1, o2, o3, o4, o5⟩ := hok.2.2.2 j hj
      obtain ⟨d1, d2, d3, d4⟩ := ld j hj
      have c6 : L 10 j < 6 := by omega
      have b6 : L 11 j < 6 := by omega
      obtain ⟨x1, x2, x3⟩ := h4 (L 10 j) c6
      obtain ⟨y1, y2, y3⟩ := h4 (L 11 j) b6
      obtain ⟨w, hw⟩ : ∃ w, w = if st (L 10 j) + 1 < st (L 11 j) then st (L 10 j) + 1 else st (L 11 j) := ⟨_, rfl⟩
      have hw1 : w ≤ st (L 11 j) ∧ w ≤ st (L 10 j) + 1 := by rw [hw]; split <;> omega
      have hw2 : w < 1000 → Wk L p w (L 11 j) := by
        intro q
        by_cases c : st (L 10 j) + 1 < st (L 11 j)
        · rw [if_pos c] at hw
          rw [hw]
          exact ⟨j, hj, rfl, x2 (by omega)⟩
        · rw [if_neg c] at hw
          rw [hw]
          exact y2 (by omega)
      obtain ⟨st', g', q1, q2, q3⟩ := ih (j + 1) (va_up st (L 11 j) w) (upd g (L 11 j) (nI w)) (by omega) (by omega) (fun v hv => by
        by_cases ev : v = L 11 j
        · rw [ev, upd_s, va_up_self]
        · rw [upd_n _ _ ev, va_up_ne _ _ ev]; exact h3 v hv) (fun v hv => by
        by_cases ev : v = L 11 j
        · rw [ev, va_up_self]
          exact ⟨by omega, hw2, fun k hk q => by have := y3 k hk q; omega⟩
        · rw [va_up_ne _ _ ev]; exact h4 v hv) (fun i hi k hk q => by
        by_cases ei : i = j
        · rw [ei] at q ⊢
          rw [va_up_self]
          have := x3 k hk q
          omega
        · have h6 := h5 i (by omega) k hk q
          by_cases ev : L 11 i = L 11 j
          · rw [ev, va_up_self]
            rw [ev] at h6
            omega
          · rw [va_up_ne _ _ ev]; exact h6)
      refine ⟨st', g', ?_, q2, q3⟩
      rw [if_neg (nI_ge hj (by omega)), gd_nI (show j < 12 by omega) (by decide), cl_nI (by omega), d1, d2]
      refine nmq ?_
      rw [gd_nI b6 (by decide), gz (show j < 12 by omega) (by decide), gd_nI c6 (by decide), gd_nI b6 (by decide), cl_nI (show L 11 j < 2 ^ 31 by omega), cl_nI (show L 10 j < 2 ^ 31 by omega), va_up_self, h3 _ c6, h3 _ b6, nI_1, nI_1]
      refine nmq ?_
      rw [bx_uu]
      have ew : (if nI (st (L 10 j) + 1) < nI (st (L 11 j)) then nI (st (L 10 j) + 1) else nI (st (L 11 j))) = nI w := by
        rw [hw]
        by_cases c : st (L 10 j) + 1 < st (L 11 j)
        · rw [if_pos c, if_pos ((lt_n (by omega) (by omega)).mpr c)]
        · rw [if_neg c, if_neg (fun z => c ((lt_n (by omega) (by omega)).mp z))]
      rw [ew]
      exact q1
theorem ms34 {ρ : Type} {f : Nat} (hf : 100 ≤ f) {Ig : FI} {Vg : FV} {P : Nat} {L : Nat → Nat → Nat} (hP : P ≤ 6) (hok : okT P L) (hL : tL P L Ig Vg) {p : Nat} (Vr : FV) (K : FV → Option ρ) : ∀ (n i : Nat) (st : Nat → Nat) (g : Nat → Int32), i ≤ 5 → 5 - i < n → (∀ v, v < 6 → g v = nI (st v)) → Inv L p i st → ∃ (st' : Nat → Nat) (g' : Nat → Int32), Rng_measure_L34 f Ig Vg K n (nI (i + 1)) (va_up Vr 0 g) = K (va_up Vr 0 g') ∧ (∀ v, v < 6 → g' v = nI (st' v)) ∧ Inv L p 5 st' := by
  have hd := hok.1
  intro n
  induction n with
  | zero => intro i st g h1 h2; omega
  | succ n ih =>
    intro i st g h1 h2 h3 h4
    rw [Rng_measure_L34]
    by_cases e : i = 5
    · subst e
      exact ⟨st, g, if_pos (nI_le (a := 6) (b := 6) (Nat.le_refl _) (by decide)), h3, h4⟩
    · obtain ⟨st1, g1, q1, q2, q3⟩ := ms43 f hP hok hL Vr (fun (Vrng_43 : FV) => (Rng_measure_L34 f Ig Vg K n (nI (i + 1) + 1) Vrng_43)) f 0 st g (Nat.zero_le _) (by omega) h3 h4 (fun i hi => absurd hi (Nat.not_lt_zero _))
      obtain ⟨st2, g2, r1, r2, r3⟩ := ih (i + 1) st1 g1 (by omega) (by omega) q2 q3
      refine ⟨st2, g2, ?_, r2, r3⟩
      rw [if_neg (show ¬ (6 : Int32) ≤ nI _ from nI_ge (b := 6) (show i + 1 < 6 by omega) (by decide))]
      refine Eq.trans q1 ?_
      rw [nI_1]
      exact r1
theorem measure_eq {f : Nat} (hf : 100 ≤ f) {Ig : FI} {Vg : FV} {P : Nat} {L : Nat → Nat → Nat} (hP : P ≤ 6) (hok : okT P L) (hL : tL P L Ig Vg) {p : Nat} (hp : p < 6) (Ir : FI) (Vr : FV) : ∃ (st : Nat → Nat) (g : Nat → Int32), Rng_measure f (nI p) Ir Vr Ig Vg = some (va_up Vr 0 g) ∧ (∀ v, v < 6 → g v = nI (st v)) ∧ Inv L p 5 st := by
  obtain ⟨g, a1, a2⟩ := ms2 f hp Vr (fun (Vrng_2 : FV) => (Rng_measure_L34 f Ig Vg (fun (Vrng_34 : FV) => some Vrng_34) f 1 Vrng_2)) f 0 (Vr 0) (by omega) (by omega) (fun v hv => absurd hv (Nat.not_lt_zero _))
  rw [up_id] at a1
  obtain ⟨st, g', b1, b2, b3⟩ := ms34 hf hP hok hL (p := p) Vr (fun (Vrng_34 : FV) => some Vrng_34) f 0 (fun v => if v = p then 0 else 1000) g (by omega) (by omega) a2 (fun v hv => by
    show (if v = p then 0 else 1000) ≤ 1000 ∧ ((if v = p then 0 else 1000) < 1000 → Wk L p (if v = p then 0 else 1000) v) ∧ ∀ k, k ≤ 0 → Wk L p k v → (if v = p then 0 else 1000) ≤ k
    by_cases e : v = p
    · rw [if_pos e]
      exact ⟨by omega, fun _ => e, fun k _ _ => Nat.zero_le _⟩
    · rw [if_neg e]
      refine ⟨Nat.le_refl _, fun q => absurd q (by omega), fun k hk q => ?_⟩
      have ek : k = 0 := by omega
      rw [ek] at q
      exact absurd q e)
  exact ⟨st, g', a1.trans b1, b2, b3⟩
theorem few13 {ρ : Type} (f : Nat) {Ig : FI} {Vg : FV} {P : Nat} {L : Nat → Nat → Nat} (hP : P ≤ 6) (hok : okT P L) (hL : tL P L Ig Vg) {p : Nat} (hp : p < 6) {V2 : FV} {st : Nat → Nat} (hV : ∀ v, v < 6 → V2 0 v = nI (st v)) (hI : Inv L p 5 st) (K : Int32 → Option ρ) : ∀ n j F : Nat, j ≤ L 0 0 → L 0 0 - j < n → F ≤ 1000 → (F < 1000 → 1 ≤ F ∧ Wk L p F p) → (∀ i, i < j → L 11 i = p → F ≤ st (L 10 i) + 1) → ∃ F', Rng_fewestDebts_L13 f Ig Vg (nI p) V2 K n (nI F) (nI j) = K (nI F') ∧ F' ≤ 1000 ∧ (F' < 1000 → 1 ≤ F' ∧ Wk L p F' p) ∧ ∀ i, i < L 0 0 → L 11 i = p → F' ≤ st (L 10 i) + 1 := by
  obtain ⟨l0, l1, l2, l3, l4, lp, ld⟩ := hL
  have hd := hok.1
  intro n
  induction n with
  | zero => intro j F h1 h2; omega
  | succ n ih =>
    intro j F h1 h2 h3 h4 h5
    rw [Rng_fewestDebts_L13, l1]
    by_cases e : j = L 0 0
    · rw [e] at h5
      exact ⟨F, if_pos (nI_le (by omega) (by omega)), h3, h4, h5⟩
    · have hj : j < L 0 0 := by omega
      obtain ⟨o1, o2, o3, o4, o5⟩ := hok.2.2.2 j hj
      obtain ⟨d1, d2, d3, d4⟩ := ld j hj
      have c6 : L 10 j < 6 := by omega
      obtain ⟨x1, x2, x3⟩ := hI (L 10 j) c6
      rw [if_neg (nI_ge hj (by omega))]
      simp only [nm, gd_nI (show j < 12 by omega) (show 12 < 2 ^ 31 by decide)]
      simp only [cl_nI (show j < 2 ^ 31 by omega), d1, d2, nI_1, nI_eq (show L 11 j < 2 ^ 31 by omega) (show p < 2 ^ 31 by omega)]
      by_cases c1 : L 11 j = p
      · rw [if_pos c1, gd_nI c6 (by decide), cl_nI (by omega), hV _ c6, nI_1]
        by_cases c2 : st (L 10 j) + 1 < F
        · rw [if_pos ((lt_n (by omega) (by omega)).mpr c2)]
          exact ih (j + 1) (st (L 10 j) + 1) (by omega) (by omega) (by omega) (fun _ => ⟨by omega, ⟨j, hj, c1, x2 (by omega)⟩⟩) (fun i hi q => by
            by_cases ei : i = j
            · rw [ei]; exact Nat.le_refl _
            · have := h5 i (by omega) q; omega)
        · rw [if_neg (fun z => c2 ((lt_n (by omega) (by omega)).mp z))]
          exact ih (j + 1) F (by omega) (by omega) h3 h4 (fun i hi q => by
            by_cases ei : i = j
            · rw [ei]; omega
            · exact h5 i (by omega) q)
      · rw [if_neg c1]
        exact ih (j + 1) F (by omega) (by omega) h3 h4 (fun i hi q => by
          by_cases ei : i = j
          · rw [ei] at q; exact absurd q c1
          · exact h5 i (by omega) q)
/-- the class's fewest debts of a ring -/
theorem fewD_eq {f : Nat} (hf : 100 ≤ f) {Ig : FI} {Vg : FV} {P : Nat} {L : Nat → Nat → Nat} (hP : P ≤ 6) (hok : okT P L) (hL : tL P L Ig Vg) {p : Nat} (hp : p < P) (Ir : FI) (Vr : FV) : ∃ (st : Nat → Nat) (g : Nat → Int32) (F : Nat), Rng_fewestDebts f (nI p) Ir Vr Ig Vg = some (if F < 1000 then nI F else -9, va_up Vr 0 g) ∧ (∀ v, v < 6 → g v = nI (st v)) ∧ Inv L p 5 st ∧ (F < 1000 → 2 ≤ F ∧ F ≤ P ∧ Wk L p F p) ∧ ∀ k, 1 ≤ k → Wk L p k p → F ≤ k ∧ F < 1000 := by
  have hd := hok.1
  obtain ⟨st, g, a1, a2, a3⟩ := measure_eq hf hP hok hL (show p < 6 by omega) Ir Vr
  obtain ⟨F, b1, b2, b3, b4⟩ := few13 f hP hok hL (show p < 6 by omega) (V2 := va_up Vr 0 g) a2 a3 (fun (x3_13 : Int32) => (if 1000 ≤ x3_13 then some ((-9 : Int32), va_up Vr 0 g) else some (x3_13, va_up Vr 0 g))) f 0 1000 (Nat.zero_le _) (by omega) (Nat.le_refl _) (fun q => absurd q (by omega)) (fun i hi => absurd hi (Nat.not_lt_zero _))
  have key : ∀ k, 1 ≤ k → Wk L p k p → F ≤ k ∧ F ≤ P := by
    intro k hk hw
    obtain ⟨m, rfl⟩ : ∃ m, k = m + 1 := ⟨k - 1, by omega⟩
    obtain ⟨i, i1, i2, i3⟩ := hw
    have o := (hok.2.2.2 i i1).1
    obtain ⟨k', k1, k2, k3⟩ := shortW hok o i3
    have h1 := (a3 (L 10 i) (by omega)).2.2 k' (by omega) k3
    have h2 := b4 i i1 i2
    omega
  refine ⟨st, g, F, ?_, a2, a3, fun q => ?_, fun k hk hw => ?_⟩
  · unfold Rng_fewestDebts
    rw [a1, ob1_s]
    refine Eq.trans b1 ?_
    by_cases c : F < 1000
    · rw [if_pos c, if_neg (show ¬ (1000 : Int32) ≤ nI _ from nI_ge (b := 1000) c (by decide))]
    · rw [if_neg c, if_pos (show (1000 : Int32) ≤ nI F from nI_le (a := 1000) (by omega) (by omega))]
  · obtain ⟨q1, q2⟩ := b3 q
    refine ⟨?_, (key F q1 q2).2, q2⟩
    rcases Nat.lt_or_ge F 2 with c | c
    · have e : F = 0 + 1 := by omega
      rw [e] at q2
      obtain ⟨i, i1, i2, i3⟩ := q2
      have i3 : L 10 i = p := i3
      have := (hok.2.2.2 i i1).2.2.1
      omega
    · exact c
  · have := key k hk hw
    omega
