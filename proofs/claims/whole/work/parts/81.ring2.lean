/-! the reference's search for a ring -/
def uu (L : Nat → Nat → Nat) (p : Nat) (tr : Nat → Nat) : Nat → Nat
  | 0 => p
  | k + 1 => L 10 (tr k)
def pre (L : Nat → Nat → Nat) (p k u : Nat) : Prop := ∀ i, Wk L p i u → Wk L p (k + i) p
theorem pre_0 (L : Nat → Nat → Nat) (p : Nat) : pre L p 0 p := fun i h => by rw [Nat.zero_add]; exact h
theorem pre_s {L : Nat → Nat → Nat} {p k u d : Nat} (h : pre L p k u) (hd : d < L 0 0) (h1 : L 11 d = u) : pre L p (k + 1) (L 10 d) := fun i hi => by
  have := h (i + 1) ⟨d, hd, h1, hi⟩
  rw [show k + 1 + i = k + (i + 1) by omega]
  exact this
theorem uu_congr {L : Nat → Nat → Nat} {p a : Nat} {tr tr' : Nat → Nat} (h : ∀ k, k < a → tr' k = tr k) : ∀ k, k ≤ a → uu L p tr' k = uu L p tr k
  | 0, _ => rfl
  | k + 1, hk => by
    show L 10 (tr' k) = L 10 (tr k)
    rw [h k (by omega)]
theorem b1 : ∀ z, z ≤ 1 → nI z &&& 1 = nI z := by
  intro z hz
  rcases (show z = 0 ∨ z = 1 by omega) with rfl | rfl <;> decide
theorem mg59 {ρ : Type} (f : Nat) {V : FV} {D at' n d : Nat} {L : Nat → Nat → Nat} {tr : Nat → Nat} (hD : D ≤ 12) (hd : d < D) (hn : n ≤ 6) (ha : at' < n) (hv : ∀ j, j < D → V 10 j = nI (L 10 j) ∧ L 10 j < 6) (htr : ∀ k, k < at' → V 32 k = nI (tr k) ∧ tr k < D) (K : Int32 → Option ρ) : ∀ m i z : Nat, i ≤ at' → at' - i < m → z ≤ 1 → ∃ z', M_mayGo_L59 f (nI at') (nI n) V (nI d) K m (nI z) (nI i) = K (nI z') ∧ z' ≤ 1 ∧ (z' = 1 → z = 1) ∧ (z = 1 → (at' + 1 = n ∨ ∀ k, i ≤ k → k < at' → L 10 (tr k) ≠ L 10 d) → z' = 1) := by
  intro m
  induction m with
  | zero => intro i z h1 h2; omega
  | succ m ih =>
    intro i z h1 h2 h3
    rw [M_mayGo_L59]
    by_cases e : i = at'
    · subst e
      exact ⟨z, if_pos (nI_le (Nat.le_refl _) (by omega)), h3, fun q => q, fun q _ => q⟩
    · have hi : i < at' := by omega
      obtain ⟨t1, t2⟩ := htr i hi
      obtain ⟨v1, v2⟩ := hv (tr i) t2
      obtain ⟨w1, w2⟩ := hv d hd
      rw [if_neg (nI_ge hi (by omega))]
      have e1 : (nI at' = nI n - 1) ↔ at' + 1 = n := by
        obtain ⟨n', rfl⟩ : ∃ n', n = n' + 1 := ⟨n - 1, by omega⟩
        rw [nI_pred, nI_eq (by omega) (by omega)]
        omega
      simp only [nm]
      by_cases c0 : z = 0
      · obtain ⟨z', q1, q2, q3, q4⟩ := ih (i + 1) 0 (by omega) (by omega) (by omega)
        refine ⟨z', ?_, q2, fun q => absurd (q3 q) (by omega), fun q => by omega⟩
        rw [c0, if_pos nI_0, nI_1]
        exact q1
      · have c1 : z = 1 := by omega
        rw [c1, if_neg (show ¬ nI 1 = 0 by decide)]
        by_cases c2 : at' + 1 = n
        · obtain ⟨z', q1, q2, q3, q4⟩ := ih (i + 1) 1 (by omega) (by omega) (by omega)
          refine ⟨z', ?_, q2, fun _ => rfl, fun _ _ => q4 rfl (Or.inl c2)⟩
          rw [if_pos (e1.mpr c2), nI_1]
          exact q1
        · rw [if_neg (fun z => c2 (e1.mp z)), gd_nI (show i < 7 by omega) (by decide), cl_nI (by omega), t1, gd_nI (show tr i < 12 by omega) (by decide), gd_nI (show d < 12 by omega) (by decide), cl_nI (by omega), cl_nI (by omega), v1, w1, nI_1]
          by_cases c3 : L 10 (tr i) = L 10 d
          · obtain ⟨z', q1, q2, q3, q4⟩ := ih (i + 1) 0 (by omega) (by omega) (by omega)
            refine ⟨z', ?_, q2, fun _ => rfl, fun _ q => ?_⟩
            · rw [if_pos (by rw [c3])]
              exact q1
            · rcases q with q | q
              · exact absurd q c2
              · exact absurd c3 (q i (Nat.le_refl _) hi)
          · obtain ⟨z', q1, q2, q3, q4⟩ := ih (i + 1) 1 (by omega) (by omega) (by omega)
            refine ⟨z', ?_, q2, fun _ => rfl, fun _ q => q4 rfl ?_⟩
            · rw [if_neg (fun z => c3 (nI_inj (by omega) (by omega) z))]
              exact q1
            · rcases q with q | q
              · exact Or.inl q
              · exact Or.inr (fun k k1 k2 => q k (by omega) k2)
theorem mg_eq {f : Nat} (hf : 100 ≤ f) {I : FI} {V : FV} {D at' n d p w : Nat} {L : Nat → Nat → Nat} {tr : Nat → Nat} (hD : D ≤ 12) (hd : d < D) (hn : n ≤ 6) (ha : at' < n) (hp : p < 6) (hw : w < 6) (hv : ∀ j, j < D → V 10 j = nI (L 10 j) ∧ L 10 j < 6) (hv1 : ∀ j, j < D → V 11 j = nI (L 11 j) ∧ L 11 j < 6) (htr : ∀ k, k < at' → V 32 k = nI (tr k) ∧ tr k < D) : ∃ z, M_mayGo f (nI p) (nI w) (nI d) (nI at') (nI n) I V = some (nI z) ∧ z ≤ 1 ∧ (z = 1 → L 11 d = w ∧ (at' + 1 = n → L 10 d = p)) ∧ (L 11 d = w → (at' + 1 = n → L 10 d = p) → (¬ at' + 1 = n → L 10 d ≠ p ∧ ∀ k, k < at' → L 10 (tr k) ≠ L 10 d) → z = 1) := by
  obtain ⟨v1, v2⟩ := hv d hd
  obtain ⟨u1, u2⟩ := hv1 d hd
  have e1 : (nI at' = nI n - 1) ↔ at' + 1 = n := by
    obtain ⟨n', rfl⟩ : ∃ n', n = n' + 1 := ⟨n - 1, by omega⟩
    rw [nI_pred, nI_eq (by omega) (by omega)]
    omega
  have ep : (nI (L 10 d) = nI p) ↔ L 10 d = p := nI_eq (by omega) (by omega)
  have fin : ∀ z, z ≤ 1 → ∃ z', M_mayGo_L59 f (nI at') (nI n) V (nI d) (fun (x6_59 : Int32) => if x6_59 &&& 1 = x6_59 then some x6_59 else none) f (nI z) (nI 0) = some (nI z') ∧ z' ≤ 1 ∧ (z' = 1 → z = 1) ∧ (z = 1 → (at' + 1 = n ∨ ∀ k, 0 ≤ k → k < at' → L 10 (tr k) ≠ L 10 d) → z' = 1) := fun z hz => by
    obtain ⟨z', q1, q2, q3, q4⟩ := mg59 f hD hd hn ha hv htr (fun (x6_59 : Int32) => if x6_59 &&& 1 = x6_59 then some x6_59 else none) f 0 z (Nat.zero_le _) (by omega) hz
    exact ⟨z', q1.trans (if_pos (b1 z' q2)), q2, q3, q4⟩
  unfold M_mayGo
  rw [gd_nI (show d < 12 by omega) (by decide), cl_nI (by omega), u1]
  by_cases c : L 11 d = w
  · rw [if_pos (by rw [c])]
    simp only [nm]
    rw [gz (show d < 12 by omega) (by decide), gz (show d < 12 by omega) (by decide), v1]
    by_cases c2 : at' + 1 = n
    · rw [if_pos (e1.mpr c2)]
      by_cases c3 : L 10 d = p
      · obtain ⟨z', q1, q2, q3, q4⟩ := fin 1 (by omega)
        refine ⟨z', ?_, q2, fun _ => ⟨c, fun _ => c3⟩, fun _ _ _ => q4 rfl (Or.inl c2)⟩
        rw [if_pos (ep.mpr c3)]
        exact q1
      · obtain ⟨z', q1, q2, q3, q4⟩ := fin 0 (by omega)
        refine ⟨z', ?_, q2, fun q => absurd (q3 q) (by omega), fun _ q _ => absurd (q c2) c3⟩
        rw [if_neg (fun z => c3 (ep.mp z))]
        exact q1
    · rw [if_neg (fun z => c2 (e1.mp z))]
      by_cases c3 : L 10 d = p
      · obtain ⟨z', q1, q2, q3, q4⟩ := fin 0 (by omega)
        refine ⟨z', ?_, q2, fun q => absurd (q3 q) (by omega), fun _ _ q => absurd c3 (q c2).1⟩
        rw [if_pos (ep.mpr c3)]
        exact q1
      · obtain ⟨z', q1, q2, q3, q4⟩ := fin 1 (by omega)
        refine ⟨z', ?_, q2, fun _ => ⟨c, fun q => absurd q c2⟩, fun _ _ q => q4 rfl (Or.inr (fun k _ hk => (q c2).2 k hk))⟩
        rw [if_neg (fun z => c3 (ep.mp z))]
        exact q1
  · rw [if_neg (fun z => c (nI_inj (by omega) (by omega) z))]
    exact ⟨0, rfl, by omega, fun q => absurd q (by omega), fun q => absurd q c⟩
theorem f72 {f : Nat} (hf : 100 ≤ f) {I : FI} {V : FV} {D at' n p w : Nat} {L : Nat → Nat → Nat} {tr : Nat → Nat} (G : Nat → Prop) (i9 : I 9 = nI D) (hD : D ≤ 12) (hn : n ≤ 6) (ha : at' < n) (hp : p < 6) (hw : w < 6) (hv : ∀ j, j < D → V 10 j = nI (L 10 j) ∧ L 10 j < 6) (hv1 : ∀ j, j < D → V 11 j = nI (L 11 j) ∧ L 11 j < 6) (htr : ∀ k, k < at' → V 32 k = nI (tr k) ∧ tr k < D) (hG : ∀ d, d < D → G d → L 11 d = w ∧ (at' + 1 = n → L 10 d = p) ∧ (¬ at' + 1 = n → L 10 d ≠ p ∧ ∀ k, k < at' → L 10 (tr k) ≠ L 10 d)) (K : Int32 → Option (Int32 × FI × FV)) : ∀ m d0, d0 ≤ D → D - d0 < m → ∃ d, d0 ≤ d ∧ d ≤ D ∧ M_findRing_L72 f I (nI p) (nI w) (nI at') (nI n) V K m (nI d0) = K (nI d) ∧ (d < D → L 11 d = w ∧ (at' + 1 = n → L 10 d = p)) ∧ ∀ e, d0 ≤ e → e < d → ¬ G e := by
  intro m
  induction m with
  | zero => intro d0 h1 h2; omega
  | succ m ih =>
    intro d0 h1 h2
    rw [M_findRing_L72, i9]
    by_cases e : d0 = D
    · refine ⟨d0, Nat.le_refl _, h1, if_pos (nI_le (by omega) (by omega)), fun q => by omega, fun e' a b => by omega⟩
    · have hd : d0 < D := by omega
      obtain ⟨z, q1, q2, q3, q4⟩ := mg_eq hf (I := I) hD hd hn ha hp hw hv hv1 htr
      rw [if_neg (nI_ge hd (by omega)), q1, ob1_s]
      by_cases c : z = 0
      · obtain ⟨d, r1, r2, r3, r4, r5⟩ := ih (d0 + 1) (by omega) (by omega)
        refine ⟨d, by omega, r2, ?_, r4, fun e' a b => ?_⟩
        · rw [c, if_pos nI_0, nI_1]
          exact r3
        · by_cases ee : e' = d0
          · intro g
            rw [ee] at g
            obtain ⟨g1, g2, g3⟩ := hG d0 hd g
            have := q4 g1 g2 g3
            omega
          · exact r5 e' (by omega) b
      · refine ⟨d0, Nat.le_refl _, h1, ?_, fun _ => q3 (by omega), fun e' a b => by omega⟩
        rw [if_neg (nI_ne0 (by omega) (by omega))]
theorem c134 (f : Nat) {V0 : FV} {n : Nat} {g : Nat → Int32} (hn : n ≤ 6) (K : FV → Option (Int32 × FI × FV)) : ∀ (m i : Nat) (h : Nat → Int32), i ≤ n → n - i < m → (∀ k, k < i → h k = g k) → ∃ h', M_findRing_L134 f (nI n) K m (nI i) (va_up (va_up V0 32 g) 33 h) = K (va_up (va_up V0 32 g) 33 h') ∧ ∀ k, k < n → h' k = g k := by
  intro m
  induction m with
  | zero => intro i h h1 h2; omega
  | succ m ih =>
    intro i h h1 h2 h3
    rw [M_findRing_L134]
    by_cases e : i = n
    · subst e
      exact ⟨h, if_pos (nI_le (Nat.le_refl _) (by omega)), h3⟩
    · have hi : i < n := by omega
      obtain ⟨h', q1, q2⟩ := ih (i + 1) (upd h i (g i)) (by omega) (by omega) (fun k hk => by
        by_cases ek : k = i
        · rw [ek, upd_s]
        · rw [upd_n _ _ ek]; exact h3 k (by omega))
      refine ⟨h', ?_, q2⟩
      rw [if_neg (nI_ge hi (by omega)), gd_nI (show i < 7 by omega) (by decide), gd_nI (show i < 7 by omega) (by decide), cl_nI (by omega), va_up_self]
      refine nmq ?_
      rw [bx_uu, nI_1]
      exact q1
def KK : Nat → Nat
  | 0 => 1
  | m + 1 => 1 + 13 * KK m
theorem KK_pos : ∀ m, 1 ≤ KK m
  | 0 => Nat.le_refl _
  | m + 1 => by rw [KK]; omega
theorem KK5 : ∀ m, m ≤ 5 → 13 * KK m ≤ 6000000 := by decide
/-- what a found ring is, from place a on -/
def ringF (L : Nat → Nat → Nat) (p n a : Nat) (tr : Nat → Nat) : Prop := ∀ k, a ≤ k → k < n → tr k < L 0 0 ∧ L 11 (tr k) = uu L p tr k ∧ Wk L p (n - 1 - k) (L 10 (tr k))
def firstF (L : Nat → Nat → Nat) (p n a : Nat) (tr : Nat → Nat) : Prop := ∀ k, a ≤ k → k < n → ∀ e, e < tr k → ¬ (L 11 e = uu L p tr k ∧ Wk L p (n - 1 - k) (L 10 e))
def dfsP (f : Nat) (I : FI) (V0 : FV) (L : Nat → Nat → Nat) (p n : Nat) (K : FV → Option (Int32 × FI × FV)) (m a : Nat) : Prop := ∀ (c N start : Nat) (g : Nat → Int32) (tr : Nat → Nat), 13 ≤ start + c → start ≤ L 0 0 → (∀ k, k < a → g k = nI (tr k) ∧ tr k < L 0 0) → g a = (if start = 0 then -9 else nI (start - 1)) → (∀ k, k ≤ a → pre L p k (uu L p tr k)) → c * KK m ≤ N → (∃ (tr' : Nat → Nat) (g' h' : Nat → Int32), M_findRing_L20 f I (nI p) (nI n) K N (nI a) (va_up V0 32 g) = some (nI n, I, va_up (va_up V0 32 g') 33 h') ∧ (∀ k, k < n → h' k = nI (tr' k)) ∧ (∀ k, k < a → tr' k = tr k) ∧ ringF L p n a tr' ∧ firstF L p n (a + 1) tr' ∧ (∀ e, start ≤ e → e < tr' a → ¬ (L 11 e = uu L p tr' a ∧ Wk L p m (L 10 e)))) ∨ ((∀ e, start ≤ e → e < L 0 0 → ¬ (L 11 e = uu L p tr a ∧ Wk L p m (L 10 e))) ∧ ∃ (N' : Nat) (g' : Nat → Int32), M_findRing_L20 f I (nI p) (nI n) K N (nI a) (va_up V0 32 g) = M_findRing_L20 f I (nI p) (nI n) K N' (nI a + (-1)) (va_up V0 32 g') ∧ N ≤ N' + c * KK m ∧ ∀ k, k < a → g' k = g k)
theorem dfs_in {f : Nat} (hf : 100 ≤ f) {I : FI} {V0 : FV} {P p n : Nat} {L : Nat → Nat → Nat} (hP : P ≤ 6) (hok : okT P L) (i9 : I 9 = nI (L 0 0)) (md : ∀ j, j < L 0 0 → V0 10 j = nI (L 10 j) ∧ V0 11 j = nI (L 11 j) ∧ V0 12 j = nI (L 12 j) ∧ V0 13 j = nI (L 13 j)) (hp : p < P) (hn2 : 2 ≤ n) (hn : n ≤ 6) (hmin : ∀ k, 1 ≤ k → k < n → ¬ Wk L p k p) (K : FV → Option (Int32 × FI × FV)) (m a : Nat) (ham : a + m + 1 = n) (sub : 0 < m → dfsP f I V0 L p n K (m - 1) (a + 1)) : dfsP f I V0 L p n K m a := by
  have hD := hok.1
  intro c
  induction c with
  | zero => intro N start g tr h1 h2; omega
  | succ c ihc =>
    intro N start g tr h1 h2 h3 h4 h5 h6
    have hKm := KK_pos m
    rw [Nat.succ_mul] at h6
    obtain ⟨N0, rfl⟩ : ∃ N0, N = N0 + 1 := ⟨N - 1, by omega⟩
    have hw6 : uu L p tr a < 6 := by
      rcases a with _ | a
      · show p < 6; omega
      · have := (hok.2.2.2 (tr a) (h3 a (by omega)).2).1
        show L 10 (tr a) < 6
        omega
    have hv : ∀ j, j < L 0 0 → va_up V0 32 g 10 j = nI (L 10 j) ∧ L 10 j < 6 := fun j hj => ⟨(md j hj).1, by have := (hok.2.2.2 j hj).1; omega⟩
    have hv1 : ∀ j, j < L 0 0 → va_up V0 32 g 11 j = nI (L 11 j) ∧ L 11 j < 6 := fun j hj => ⟨(md j hj).2.1, by have := (hok.2.2.2 j hj).2.1; omega⟩
    obtain ⟨d, d1, d2, d3, d4, d5⟩ := f72 hf (I := I) (V := va_up V0 32 g) (at' := a) (n := n) (p := p) (w := uu L p tr a) (tr := tr) (fun e => L 11 e = uu L p tr a ∧ Wk L p m (L 10 e)) i9 hD hn (by omega) (by omega) hw6 hv hv1 (fun k hk => by rw [va_up_self]; exact h3 k hk) (fun e he hg => by
      refine ⟨hg.1, fun q => ?_, fun q => ⟨fun z => ?_, fun k hk z => ?_⟩⟩
      · have e0 : m = 0 := by omega
        have := hg.2
        rw [e0] at this
        exact this
      · exact hmin (a + 1) (by omega) (by omega) (h5 a (Nat.le_refl _) 1 ⟨e, he, hg.1, z⟩)
      · have hpk := h5 (k + 1) (by omega) m (show Wk L p m (L 10 (tr k)) by rw [z]; exact hg.2)
        exact hmin (k + 1 + m) (by omega) (by omega) hpk) (fun (x5_72 : Int32) => (nm (fun (x3_173 : Int32) (Vm_173 : FV) => (M_findRing_L20 f I (nI p) (nI n) K N0 x3_173 Vm_173)) (fun j173 => (if x5_72 = (I 9) then (j173 (nI a + (-1)) (va_up V0 32 g)) else if nI a < 0 ∨ 7 ≤ (nI a).toNatClampNeg then none else (nm (va_up (va_up V0 32 g) 32 (upd ((va_up V0 32 g) 32) (nI a).toNatClampNeg x5_72)) (fun V3 => (if nI a = (nI n - 1) then (M_findRing_L134 f (nI n) (fun (Vm_134 : FV) => some (nI n, I, Vm_134)) f 0 V3) else if (nI a + 1) < 0 ∨ 7 ≤ (nI a + 1).toNatClampNeg then none else (nm (va_up V3 32 (upd (V3 32) (nI a + 1).toNatClampNeg (-9))) (fun V4 => (j173 (nI a + 1) V4)))))))))) f start h2 (by omega)
    have hstep : M_findRing_L20 f I (nI p) (nI n) K (N0 + 1) (nI a) (va_up V0 32 g) = M_findRing_L72 f I (nI p) (nI (uu L p tr a)) (nI a) (nI n) (va_up V0 32 g) (fun (x5_72 : Int32) => (nm (fun (x3_173 : Int32) (Vm_173 : FV) => (M_findRing_L20 f I (nI p) (nI n) K N0 x3_173 Vm_173)) (fun j173 => (if x5_72 = (I 9) then (j173 (nI a + (-1)) (va_up V0 32 g)) else if nI a < 0 ∨ 7 ≤ (nI a).toNatClampNeg then none else (nm (va_up (va_up V0 32 g) 32 (upd ((va_up V0 32 g) 32) (nI a).toNatClampNeg x5_72)) (fun V3 => (if nI a = (nI n - 1) then (M_findRing_L134 f (nI n) (fun (Vm_134 : FV) => some (nI n, I, Vm_134)) f 0 V3) else if (nI a + 1) < 0 ∨ 7 ≤ (nI a + 1).toNatClampNeg then none else (nm (va_up V3 32 (upd (V3 32) (nI a + 1).toNatClampNeg (-9))) (fun V4 => (j173 (nI a + 1) V4)))))))))) f (nI start) := by
      have tl : ∀ w : Int32, (if nI a < 0 ∨ 7 ≤ (nI a).toNatClampNeg then none else (if ((va_up V0 32 g) 32) (nI a).toNatClampNeg = (-9) then M_findRing_L72 f I (nI p) w (nI a) (nI n) (va_up V0 32 g) (fun (x5_72 : Int32) => (nm (fun (x3_173 : Int32) (Vm_173 : FV) => (M_findRing_L20 f I (nI p) (nI n) K N0 x3_173 Vm_173)) (fun j173 => (if x5_72 = (I 9) then (j173 (nI a + (-1)) (va_up V0 32 g)) else if nI a < 0 ∨ 7 ≤ (nI a).toNatClampNeg then none else (nm (va_up (va_up V0 32 g) 32 (upd ((va_up V0 32 g) 32) (nI a).toNatClampNeg x5_72)) (fun V3 => (if nI a = (nI n - 1) then (M_findRing_L134 f (nI n) (fun (Vm_134 : FV) => some (nI n, I, Vm_134)) f 0 V3) else if (nI a + 1) < 0 ∨ 7 ≤ (nI a + 1).toNatClampNeg then none else (nm (va_up V3 32 (upd (V3 32) (nI a + 1).toNatClampNeg (-9))) (fun V4 => (j173 (nI a + 1) V4)))))))))) f 0 else if nI a < 0 ∨ 7 ≤ (nI a).toNatClampNeg then none else M_findRing_L72 f I (nI p) w (nI a) (nI n) (va_up V0 32 g) (fun (x5_72 : Int32) => (nm (fun (x3_173 : Int32) (Vm_173 : FV) => (M_findRing_L20 f I (nI p) (nI n) K N0 x3_173 Vm_173)) (fun j173 => (if x5_72 = (I 9) then (j173 (nI a + (-1)) (va_up V0 32 g)) else if nI a < 0 ∨ 7 ≤ (nI a).toNatClampNeg then none else (nm (va_up (va_up V0 32 g) 32 (upd ((va_up V0 32 g) 32) (nI a).toNatClampNeg x5_72)) (fun V3 => (if nI a = (nI n - 1) then (M_findRing_L134 f (nI n) (fun (Vm_134 : FV) => some (nI n, I, Vm_134)) f 0 V3) else if (nI a + 1) < 0 ∨ 7 ≤ (nI a + 1).toNatClampNeg then none else (nm (va_up V3 32 (upd (V3 32) (nI a + 1).toNatClampNeg (-9))) (fun V4 => (j173 (nI a + 1) V4)))))))))) f (((va_up V0 32 g) 32) (nI a).toNatClampNeg + 1))) = M_findRing_L72 f I (nI p) w (nI a) (nI n) (va_up V0 32 g) (fun (x5_72 : Int32) => (nm (fun (x3_173 : Int32) (Vm_173 : FV) => (M_findRing_L20 f I (nI p) (nI n) K N0 x3_173 Vm_173)) (fun j173 => (if x5_72 = (I 9) then (j173 (nI a + (-1)) (va_up V0 32 g)) else if nI a < 0 ∨ 7 ≤ (nI a).toNatClampNeg then none else (nm (va_up (va_up V0 32 g) 32 (upd ((va_up V0 32 g) 32) (nI a).toNatClampNeg x5_72)) (fun V3 => (if nI a = (nI n - 1) then (M_findRing_L134 f (nI n) (fun (Vm_134 : FV) => some (nI n, I, Vm_134)) f 0 V3) else if (nI a + 1) < 0 ∨ 7 ≤ (nI a + 1).toNatClampNeg then none else (nm (va_up V3 32 (upd (V3 32) (nI a + 1).toNatClampNeg (-9))) (fun V4 => (j173 (nI a + 1) V4)))))))))) f (nI start) := by
        intro w
        generalize (fun (x5_72 : Int32) => (nm (fun (x3_173 : Int32) (Vm_173 : FV) => (M_findRing_L20 f I (nI p) (nI n) K N0 x3_173 Vm_173)) (fun j173 => (if x5_72 = (I 9) then (j173 (nI a + (-1)) (va_up V0 32 g)) else if nI a < 0 ∨ 7 ≤ (nI a).toNatClampNeg then none else (nm (va_up (va_up V0 32 g) 32 (upd ((va_up V0 32 g) 32) (nI a).toNatClampNeg x5_72)) (fun V3 => (if nI a = (nI n - 1) then (M_findRing_L134 f (nI n) (fun (Vm_134 : FV) => some (nI n, I, Vm_134)) f 0 V3) else if (nI a + 1) < 0 ∨ 7 ≤ (nI a + 1).toNatClampNeg then none else (nm (va_up V3 32 (upd (V3 32) (nI a + 1).toNatClampNeg (-9))) (fun V4 => (j173 (nI a + 1) V4)))))))))) = KB
        rw [gd_nI (show a < 7 by omega) (by decide), gd_nI (show a < 7 by omega) (by decide), cl_nI (by omega), va_up_self, h4]
        by_cases e : start = 0
        · rw [if_pos e, if_pos rfl, e]
          rfl
        · rw [if_neg e, if_neg (m9 (by omega)), nI_1, show start - 1 + 1 = start by omega]
      rw [M_findRing_L20, if_neg (nI_pos (by omega))]
      refine nmq ?_
      rcases a with _ | a
      · rw [if_pos nI_0]
        exact tl (nI p)
      · obtain ⟨s1, s2⟩ := h3 a (by omega)
        rw [if_neg (nI_ne0 (by omega) (by omega)), nI_pred, gd_nI (show a < 7 by omega) (by decide), cl_nI (show a < 2 ^ 31 by omega)]
        rw [show va_up V0 32 g 32 a = nI (tr a) from s1, gd_nI (show tr a < 12 by omega) (by decide), cl_nI (show tr a < 2 ^ 31 by omega), show va_up V0 32 g 10 (tr a) = nI (L 10 (tr a)) from (md _ s2).1]
        exact tl (nI (L 10 (tr a)))
    rw [hstep, d3]
    by_cases ed : d = L 0 0
    · right
      refine ⟨fun e e1 e2 => d5 e e1 (by omega), N0, g, ?_, by rw [Nat.succ_mul]; omega, fun _ _ => rfl⟩
      refine nmq ?_
      rw [i9, if_pos (by rw [ed])]
    · have hd : d < L 0 0 := by omega
      obtain ⟨x1, x2⟩ := d4 hd
      have nd : ¬ nI d = nI (L 0 0) := fun z => ed (nI_inj (by omega) (by omega) z)
      have e1 : (nI a = nI n - 1) ↔ m = 0 := by
        obtain ⟨n', rfl⟩ : ∃ n', n = n' + 1 := ⟨n - 1, by omega⟩
        rw [nI_pred, nI_eq (by omega) (by omega)]
        omega
      have trd : ∀ k, k < a → va_up tr a d k = tr k := fun k hk => va_up_ne _ _ (by omega)
      have ua : uu L p (va_up tr a d) a = uu L p tr a := uu_congr trd a (Nat.le_refl _)
      by_cases em : m = 0
      · left
        obtain ⟨h', q1, q2⟩ := c134 f (V0 := V0) (g := upd g a (nI d)) hn (fun (Vm_134 : FV) => some (nI n, I, Vm_134)) f 0 (V0 33) (Nat.zero_le _) (by omega) (fun k hk => absurd hk (Nat.not_lt_zero _))
        rw [show va_up (va_up V0 32 (upd g a (nI d))) 33 (V0 33) = va_up V0 32 (upd g a (nI d)) from up_id (va_up V0 32 (upd g a (nI d))) 33] at q1
        refine ⟨va_up tr a d, upd g a (nI d), h', ?_, fun k hk => ?_, trd, fun k k1 k2 => ?_, fun k k1 k2 => by omega, fun e e2 e3 => ?_⟩
        · refine nmq ?_
          rw [i9, if_neg nd, gd_nI (show a < 7 by omega) (by decide), cl_nI (by omega), va_up_self, bx_uu]
          refine nmq ?_
          rw [if_pos (e1.mpr em)]
          exact q1
        · rw [q2 k hk]
          by_cases ek : k = a
          · rw [ek, upd_s, va_up_self]
          · rw [upd_n _ _ ek, va_up_ne _ _ ek]; exact (h3 k (by omega)).1
        · have ek : k = a := by omega
          rw [ek, ua, va_up_self, show n - 1 - a = 0 by omega]
          exact ⟨hd, x1, x2 (by omega)⟩
        · rw [va_up_self] at e3
          rw [ua]
          exact d5 e e2 e3
      · have hsub := sub (by omega)
        obtain ⟨m', rfl⟩ : ∃ m', m = m' + 1 := ⟨m - 1, by omega⟩
        rw [show m' + 1 - 1 = m' from rfl] at hsub
        rw [KK] at h6
        have ua1 : uu L p (va_up tr a d) (a + 1) = L 10 d := by
          show L 10 (va_up tr a d a) = L 10 d
          rw [va_up_self]
        have hgo : ∀ R, M_findRing_L20 f I (nI p) (nI n) K N0 (nI (a + 1)) (va_up V0 32 (upd (upd g a (nI d)) (a + 1) (-9))) = R → nm (fun (x3_173 : Int32) (Vm_173 : FV) => (M_findRing_L20 f I (nI p) (nI n) K N0 x3_173 Vm_173)) (fun j173 => (if nI d = (I 9) then (j173 (nI a + (-1)) (va_up V0 32 g)) else if nI a < 0 ∨ 7 ≤ (nI a).toNatClampNeg then none else (nm (va_up (va_up V0 32 g) 32 (upd ((va_up V0 32 g) 32) (nI a).toNatClampNeg (nI d))) (fun V3 => (if nI a = (nI n - 1) then (M_findRing_L134 f (nI n) (fun (Vm_134 : FV) => some (nI n, I, Vm_134)) f 0 V3) else if (nI a + 1) < 0 ∨ 7 ≤ (nI a + 1).toNatClampNeg then none else (nm (va_up V3 32 (upd (V3 32) (nI a + 1).toNatClampNeg (-9))) (fun V4 => (j173 (nI a + 1) V4)))))))) = R := by
          intro R hR
          refine nmq ?_
          rw [i9, if_neg nd, gd_nI (show a < 7 by omega) (by decide), cl_nI (by omega), va_up_self, bx_uu]
          refine nmq ?_
          rw [if_neg (fun z => em (e1.mp z)), nI_1, gd_nI (show a + 1 < 7 by omega) (by decide), cl_nI (by omega), va_up_self, bx_uu]
          exact hR
        rcases hsub 13 N0 0 (upd (upd g a (nI d)) (a + 1) (-9)) (va_up tr a d) (by omega) (by omega) (fun k hk => by
          rw [upd_n _ _ (by omega)]
          by_cases ek : k = a
          · rw [ek, upd_s, va_up_self]; exact ⟨rfl, hd⟩
          · rw [upd_n _ _ ek, va_up_ne _ _ ek]; exact h3 k (by omega)) (by rw [upd_s, if_pos rfl]) (fun k hk => by
          by_cases ek : k = a + 1
          · rw [ek, ua1]
            exact pre_s (h5 a (Nat.le_refl _)) hd x1
          · rw [uu_congr trd k (by omega)]
            exact h5 k (by omega)) (by omega) with ⟨tr', g', h', y1, y2, y3, y4, y5, y6⟩ | ⟨y1, N1, g1, y2, y3, y4⟩
        · left
          have ta : tr' a = d := by rw [y3 a (by omega), va_up_self]
          have ua' : uu L p tr' a = uu L p tr a := uu_congr (fun k hk => by rw [y3 k (by omega)]; exact trd k hk) a (Nat.le_refl _)
          have ga := y4 (a + 1) (Nat.le_refl _) (by omega)
          have u2 : uu L p tr' (a + 1) = L 10 d := by
            show L 10 (tr' a) = L 10 d
            rw [ta]
          rw [u2] at ga
          refine ⟨tr', g', h', hgo _ y1, y2, fun k hk => by rw [y3 k (by omega)]; exact trd k hk, fun k k1 k2 => ?_, fun k k1 k2 e e1 => ?_, fun e e1 e2 => ?_⟩
          · by_cases ek : k = a
            · rw [ek, ta, ua', show n - 1 - a = (n - 1 - (a + 1)) + 1 by omega]
              exact ⟨hd, x1, ⟨tr' (a + 1), ga.1, ga.2.1, ga.2.2⟩⟩
            · exact y4 k (by omega) k2
          · by_cases ek : k = a + 1
            · rw [ek] at e1 ⊢
              rw [show n - 1 - (a + 1) = m' by omega]
              exact y6 e (Nat.zero_le _) e1
            · exact y5 k (by omega) k2 e e1
          · rw [ta] at e2
            rw [ua']
            exact d5 e e1 e2
        · -- nothing behind d: go on behind it
          have nogood : ¬ (L 11 d = uu L p tr a ∧ Wk L p (m' + 1) (L 10 d)) := by
            rintro ⟨_, j, j1, j2, j3⟩
            exact y1 j (Nat.zero_le _) j1 (by rw [ua1]; exact ⟨j2, j3⟩)
          rw [pk_m1] at y2
          have g1a : g1 a = nI d := by rw [y4 a (by omega), upd_n _ _ (by omega), upd_s]
          have g1k : ∀ k, k < a → g1 k = g k := fun k hk => by rw [y4 k (by omega), upd_n _ _ (by omega), upd_n _ _ (by omega)]
          rw [KK] at hKm
          rcases ihc N1 (d + 1) g1 tr (by omega) (by omega) (fun k hk => by rw [g1k k hk]; exact h3 k hk) (by rw [g1a, if_neg (by omega), show d + 1 - 1 = d by omega]) h5 (by rw [KK]; omega) with ⟨tr', g', h', z1, z2, z3, z4, z5, z6⟩ | ⟨z1, N2, g2, z2, z3, z4⟩
          · left
            refine ⟨tr', g', h', hgo _ (y2.trans z1), z2, z3, z4, z5, fun e e1 e2 => ?_⟩
            have ua' : uu L p tr' a = uu L p tr a := uu_congr z3 a (Nat.le_refl _)
            rcases Nat.lt_trichotomy e d with c1 | c1 | c1
            · rw [ua']; exact d5 e e1 c1
            · rw [ua', c1]; exact nogood
            · exact z6 e (by omega) e2
          · right
            refine ⟨fun e e1 e2 => ?_, N2, g2, hgo _ (y2.trans z2), ?_, fun k hk => (z4 k hk).trans (g1k k hk)⟩
            · rcases Nat.lt_trichotomy e d with c1 | c1 | c1
              · exact d5 e e1 c1
              · rw [c1]; exact nogood
              · exact z1 e (by omega) e2
            · rw [KK] at z3
              rw [KK, Nat.succ_mul]
              omega
theorem dfs {f : Nat} (hf : 100 ≤ f) {I : FI} {V0 : FV} {P p n : Nat} {L : Nat → Nat → Nat} (hP : P ≤ 6) (hok : okT P L) (hM : tM P L I V0) (hp : p < P) (hn2 : 2 ≤ n) (hn : n ≤ 6) (hmin : ∀ k, 1 ≤ k → k < n → ¬ Wk L p k p) (K : FV → Option (Int32 × FI × FV)) : ∀ (m a : Nat), a + m + 1 = n → dfsP f I V0 L p n K m a := by
  obtain ⟨m9', m14, mp, md⟩ := hM
  intro m
  induction m with
  | zero => intro a ham; exact dfs_in hf hP hok m9' md hp hn2 hn hmin K 0 a ham (fun q => by omega)
  | succ m ih => intro a ham; exact dfs_in hf hP hok m9' md hp hn2 hn hmin K (m + 1) a ham (fun _ => ih (a + 1) (by omega))
