theorem sm_ext0 {g : Nat → Nat} {a b : Nat} (h : a ≤ b) (z : ∀ i, a ≤ i → i < b → g i = 0) : sm g b = sm g a := by
  have e : b = a + (b - a) := by omega
  rw [e, sm_split, sm_congr (h := fun _ => 0) (b - a) (fun i hi => z (a + i) (by omega) (by omega)), sm_zero, Nat.add_zero]
theorem ww_0 {c : Nat → Nat} {x S k : Nat} : ∀ n, k < n → S.testBit k = true → c k = 0 → ww (uC c x) (vC c x) S n = 0 := by
  intro n
  induction n with
  | zero => intro h; omega
  | succ n ih =>
    intro h hb hc
    rw [ww]
    by_cases e : k = n
    · subst e
      rw [if_pos hb]
      unfold uC
      rw [if_pos hc, Nat.mul_zero]
    · rw [ih (by omega) hb hc, Nat.zero_mul]
theorem sub_le {S A : Nat} (h : ∀ k, S.testBit k = true → A.testBit k = true) : S ≤ A := by
  have e : S &&& A = S := by
    apply Nat.eq_of_testBit_eq
    intro i
    rw [Nat.testBit_and]
    cases q : S.testBit i with
    | false => rfl
    | true => rw [h i q]; rfl
  exact Nat.le_trans (Nat.le_of_eq e.symm) Nat.and_le_right
theorem big_ww {c : Nat → Nat} {x P S : Nat} (hS : S < 2 ^ P) (h : bm (nz c) P < S) : ww (uC c x) (vC c x) S P = 0 := by
  by_cases q : ∃ k, S.testBit k = true ∧ ¬ (bm (nz c) P).testBit k = true
  · obtain ⟨k, k1, k2⟩ := q
    have kP : k < P := by
      rcases Nat.lt_or_ge k P with hl | hg
      · exact hl
      · rw [Nat.testBit_lt_two_pow (Nat.lt_of_lt_of_le hS (Nat.pow_le_pow_right (by decide) hg))] at k1
        cases k1
    rw [bm_bit] at k2
    refine ww_0 P kP k1 ?_
    by_cases e : c k = 0
    · exact e
    · exact absurd (by simp [kP, nz_1 e]) k2
  · exfalso
    have := sub_le (S := S) (A := bm (nz c) P) (fun k hk => Decidable.byContradiction (fun n => q ⟨k, hk, n⟩))
    omega
theorem ways4 {ρ : Type} (f : Nat) {I : FI} {V : FV} {A m P T : Nat} {c u v : Nat → Nat} (hA : A < 64) (i2 : I 2 = nI A) (hV : ∀ S, S ≤ A → V 0 S = nI (aS c S P) ∧ V 1 S = nI (ww u v S P)) (hb : ∀ S, aS c S P < 2 ^ 31) (hm : m < 2 ^ 31) (hT : sm (fun S => if aS c S P ≤ m then ww u v S P else 0) (A + 1) = T) (k : Int32 → Option ρ) : ∀ n s, s ≤ A + 1 → A + 1 - s < n → Crd_waysWithin_L4 f I (nI m) V k n (nI (sm (fun S => if aS c S P ≤ m then ww u v S P else 0) s)) (nI s) = k (nI T) := by
  intro n
  induction n with
  | zero => intro s h1 h2; omega
  | succ n ih =>
    intro s h1 h2
    rw [Crd_waysWithin_L4, i2]
    by_cases e : s = A + 1
    · rw [if_pos (nI_lt (by omega) (by omega)), e, hT]
    · obtain ⟨v0, v1⟩ := hV s (by omega)
      rw [if_neg (nI_nlt (by omega) (by omega))]
      simp only [nm, gd_nI (show s < 64 by omega) (show 64 < 2 ^ 31 by decide)]
      simp only [cl_nI (show s < 2 ^ 31 by omega), v0, v1, nI_1, nI_add]
      have ih2 := ih (s + 1) (by omega) (by omega)
      rw [sm] at ih2
      by_cases c1 : aS c s P ≤ m
      · rw [if_neg (fun z => by have := (lt_n hm (hb s)).mp z; omega)]
        rw [if_pos c1] at ih2
        exact ih2
      · rw [if_pos ((lt_n hm (hb s)).mpr (by omega))]
        rw [if_neg c1, Nat.add_zero] at ih2
        exact ih2
theorem bm_2P {c : Nat → Nat} {P : Nat} (hP : P ≤ 6) : bm (nz c) P < 2 ^ P ∧ 2 ^ P ≤ 64 := ⟨bm_lt _ P, Nat.pow_le_pow_right (n := 2) (by decide) hP⟩
theorem ways_eq {f : Nat} (hf : 100 ≤ f) {I : FI} {V : FV} {P x m : Nat} {c : Nat → Nat} (hP : P ≤ 6) (i2 : I 2 = nI (bm (nz c) P)) (hV : ∀ S, S < 2 ^ P → V 0 S = nI (aS c S P) ∧ V 1 S = nI (ww (uC c x) (vC c x) S P)) (hb : ∀ S, aS c S P < 2 ^ 31) (hm : m < 2 ^ 31) : Crd_waysWithin f (nI m) I V = some (nI (GG c (uC c x) (vC c x) P m)) := by
  obtain ⟨b1, b2⟩ := bm_2P (c := c) hP
  have hT : sm (fun S => if aS c S P ≤ m then ww (uC c x) (vC c x) S P else 0) (bm (nz c) P + 1) = GG c (uC c x) (vC c x) P m := by
    rw [← GG_sum]
    refine (sm_ext0 (by omega) (fun i h1 h2 => ?_)).symm
    rw [big_ww h2 (by omega)]
    split <;> rfl
  exact ways4 f (by omega) i2 (fun S hS => hV S (by omega)) hb hm hT (fun x => some x) f 0 (by omega) (by omega)
theorem gat8 {ρ : Type} (f : Nat) (V : FV) (k : FV → Option ρ) : ∀ (n s : Nat) (g : Nat → Int32), s ≤ 64 → 64 - s < n → (∀ i, i < s → g i = 0) → ∃ g', Crd_gather_L8 f k n (nI s) (va_up V 0 g) = k (va_up V 0 g') ∧ ∀ i, i < 64 → g' i = 0 := by
  intro n
  induction n with
  | zero => intro s g h1 h2; omega
  | succ n ih =>
    intro s g h1 h2 h3
    rw [Crd_gather_L8]
    by_cases e : s = 64
    · subst e
      exact ⟨g, if_pos (nI_le (a := 64) (b := 64) (Nat.le_refl _) (by decide)), h3⟩
    · rw [if_neg (show ¬ (64 : Int32) ≤ nI _ from nI_ge (b := 64) (by omega) (by decide)), gd_nI (show s < 64 by omega) (by decide)]
      obtain ⟨g', q1, q2⟩ := ih (s + 1) (upd g s 0) (by omega) (by omega) (fun i hi => by
        by_cases ei : i = s
        · rw [ei, upd_s]
        · rw [upd_n _ _ ei]; exact h3 i (by omega))
      refine ⟨g', ?_, q2⟩
      simp only [nm]
      rw [va_up_self, bx_uu, cl_nI (show s < 2 ^ 31 by omega), nI_1]
      exact q1
theorem pow_ne {q c : Nat} (h : q ≠ c) : (2 : Nat) ^ q ≠ 2 ^ c := by
  rcases Nat.lt_or_gt_of_ne h with a | a
  · have := Nat.pow_lt_pow_right (a := 2) (by decide) a; omega
  · have := Nat.pow_lt_pow_right (a := 2) (by decide) a; omega
theorem pow64 {c : Nat} (h : c < 6) : (2 : Nat) ^ c < 64 := Nat.pow_lt_pow_right (a := 2) (n := 6) (by decide) h
theorem gat32 {ρ : Type} (f : Nat) {Ig : FI} {Vg : FV} {P : Nat} {L : Nat → Nat → Nat} (hP : P ≤ 6) (hok : okT P L) (hL : tL P L Ig Vg) {p : Nat} (hp : p < 6) (Ic : FI) (Vc : FV) (k : FI → FV → Option ρ) : ∀ (n j : Nat) (g : Nat → Int32) (A : Nat), j ≤ L 0 0 → L 0 0 - j < n → A < 64 → (∀ q, q < 6 → A.testBit q = nz (fun q => sm (crf L p q) j) q) → (∀ q, q < 6 → g (2 ^ q) = nI (sm (crf L p q) j)) → g 0 = 0 → ∃ (g' : Nat → Int32) (A' : Nat), Crd_gather_L32 f Ig Vg (nI p) k n (nI j) (va_up Ic 2 (nI A)) (va_up Vc 0 g) = k (va_up Ic 2 (nI A')) (va_up Vc 0 g') ∧ A' < 64 ∧ (∀ q, q < 6 → A'.testBit q = nz (cr L p) q) ∧ (∀ q, q < 6 → g' (2 ^ q) = nI (cr L p q)) ∧ g' 0 = 0 := by
  obtain ⟨l0, l1, l2, l3, l4, lp, ld⟩ := hL
  have hd := hok.1
  intro n
  induction n with
  | zero => intro j g A h1 h2; omega
  | succ n ih =>
    intro j g A h1 h2 h3 h4 h5 h6
    rw [Crd_gather_L32, l1]
    by_cases e : j = L 0 0
    · rw [e] at h4 h5
      exact ⟨g, A, if_pos (nI_le (by omega) (by omega)), h3, h4, h5, h6⟩
    · have hj : j < L 0 0 := by omega
      obtain ⟨o1, o2, o3, o4, o5⟩ := hok.2.2.2 j hj
      obtain ⟨d1, d2, d3, d4⟩ := ld j hj
      have hc6 : L 10 j < 6 := by omega
      have hp2 := pow64 hc6
      rw [if_neg (nI_ge hj (by omega))]
      simp only [nm, gd_nI (show j < 12 by omega) (show 12 < 2 ^ 31 by decide)]
      simp only [cl_nI (show j < 2 ^ 31 by omega), d1, d2, d3, nI_1, sh1 (L 10 j) (by omega), nI_eq (show L 11 j < 2 ^ 31 by omega) (show p < 2 ^ 31 by omega)]
      simp only [gd_nI hp2 (show 64 < 2 ^ 31 by decide)]
      simp only [cl_nI (show 2 ^ L 10 j < 2 ^ 31 by omega), va_up_self, bx_uu, nI_or]
      by_cases c1 : L 11 j = p
      · rw [if_pos c1, h5 (L 10 j) hc6, nI_add]
        refine ih (j + 1) (upd g (2 ^ L 10 j) (nI (sm (crf L p (L 10 j)) j + L 12 j))) (A ||| 2 ^ L 10 j) (by omega) (by omega) (Nat.or_lt_two_pow (n := 6) h3 hp2) (fun q hq => ?_) (fun q hq => ?_) ?_
        · rw [Nat.testBit_or, Nat.testBit_two_pow, h4 q hq]
          unfold nz
          show (!(sm (crf L p q) j == 0) || decide (L 10 j = q)) = !(sm (crf L p q) j + crf L p q j == 0)
          unfold crf
          by_cases c2 : L 10 j = q
          · rw [if_pos ⟨c1, c2⟩, decide_eq_true c2, Bool.or_true]
            have : ¬ (sm (fun j => if L 11 j = p ∧ L 10 j = q then L 12 j else 0) j + L 12 j = 0) := by omega
            simp [this]
            omega
          · rw [if_neg (fun z => c2 z.2), decide_eq_false c2, Bool.or_false, Nat.add_zero]
        · show _ = nI (sm (crf L p q) j + crf L p q j)
          by_cases c2 : L 10 j = q
          · rw [c2, upd_s]
            congr 1
            rw [show crf L p q j = L 12 j from if_pos ⟨c1, c2⟩]
          · rw [upd_n _ _ (pow_ne (fun z => c2 z.symm)), h5 q hq, show crf L p q j = 0 from if_neg (fun z => c2 z.2), Nat.add_zero]
        · have := Nat.two_pow_pos (L 10 j)
          rw [upd_n _ _ (by omega), h6]
      · rw [if_neg c1]
        have e0 : ∀ q, sm (crf L p q) (j + 1) = sm (crf L p q) j := fun q => by
          show sm (crf L p q) j + crf L p q j = _
          rw [show crf L p q j = 0 from if_neg (fun z => c1 z.1), Nat.add_zero]
        refine ih (j + 1) g A (by omega) (by omega) h3 (fun q hq => ?_) (fun q hq => ?_) h6
        · rw [h4 q hq]
          unfold nz
          show (!(sm (crf L p q) j == 0)) = !(sm (crf L p q) (j + 1) == 0)
          rw [e0]
        · rw [e0]; exact h5 q hq
def MV (V : FV) (a w : Nat → Int32) : FV := fun i => if i = 0 then a else if i = 1 then w else V i
theorem MV_0 (V : FV) (a w a' : Nat → Int32) : va_up (MV V a w) 0 a' = MV V a' w := by
  funext i
  unfold va_up MV
  by_cases e0 : i = 0
  · rw [if_pos e0, if_pos e0]
  · rw [if_neg e0, if_neg e0, if_neg e0]
theorem MV_1 (V : FV) (a w w' : Nat → Int32) : va_up (MV V a w) 1 w' = MV V a w' := by
  funext i
  unfold va_up MV
  by_cases e0 : i = 0
  · rw [e0]; rfl
  · rw [if_neg e0, if_neg e0]
    by_cases e1 : i = 1
    · rw [if_pos e1, if_pos e1]
    · rw [if_neg e1, if_neg e1, if_neg e1]
theorem MV_a (V : FV) (a w : Nat → Int32) : MV V a w 0 = a := rfl
theorem MV_w (V : FV) (a w : Nat → Int32) : MV V a w 1 = w := rfl
theorem MV_id (V : FV) (a : Nat → Int32) : va_up V 0 a = MV V a (V 1) := by
  funext i
  unfold va_up MV
  by_cases e0 : i = 0
  · rw [if_pos e0, if_pos e0]
  · rw [if_neg e0, if_neg e0]
    by_cases e1 : i = 1
    · rw [if_pos e1, e1]
    · rw [if_neg e1]
theorem spr26 {ρ : Type} (f : Nat) (Vc : FV) {c : Nat → Nat} {x k t0 : Nat} (hk : k < 6) (hx : x ≤ 10) (ht : t0 = if c k = 0 then 0 else 1) (K : FV → Option ρ) : ∀ (n s : Nat) (ga gw : Nat → Int32), s ≤ 2 ^ k → 2 ^ k - s < n → (∀ S, S < 2 ^ k → ga S = nI (aS c S k)) → (∀ S, S < s → ga (2 ^ k + S) = nI (aS c S k + c k) ∧ gw (2 ^ k + S) = nI (ww (uC c x) (vC c x) S k * uC c x k) ∧ gw S = nI (ww (uC c x) (vC c x) S k * vC c x k)) → (∀ S, s ≤ S → S < 2 ^ k → gw S = nI (ww (uC c x) (vC c x) S k)) → (∀ i, k < i → i < 6 → ga (2 ^ i) = nI (c i)) → ∃ ga' gw', Crd_spread_L26 f (nI (2 ^ k)) (nI (c k)) (nI t0) (nI x) K n (nI s) (MV Vc ga gw) = K (MV Vc ga' gw') ∧ (∀ S, S < 2 ^ (k + 1) → ga' S = nI (aS c S (k + 1)) ∧ gw' S = nI (ww (uC c x) (vC c x) S (k + 1))) ∧ ∀ i, k < i → i < 6 → ga' (2 ^ i) = nI (c i) := by
  have hk2 := pow64 hk
  have hk3 : 2 ^ (k + 1) ≤ 2 ^ 6 := Nat.pow_le_pow_right (n := 2) (by decide) hk
  have hk4 : 2 ^ (k + 1) = 2 ^ k + 2 ^ k := by rw [Nat.pow_succ, Nat.mul_two]
  intro n
  induction n with
  | zero => intro s ga gw h1 h2; omega
  | succ n ih =>
    intro s ga gw h1 h2 h3 h4 h5 h6
    rw [Crd_spread_L26]
    by_cases e : s = 2 ^ k
    · refine ⟨ga, gw, if_pos (nI_le (by omega) (by omega)), fun S hS => ?_, h6⟩
      by_cases cS : S < 2 ^ k
      · rw [aS_lo cS, ww_lo cS]
        exact ⟨h3 S cS, (h4 S (by omega)).2.2⟩
      · obtain ⟨T, rfl⟩ : ∃ T, S = 2 ^ k + T := ⟨S - 2 ^ k, by omega⟩
        have hT : T < 2 ^ k := by omega
        rw [aS_hi hT, ww_hi hT]
        have := h4 T (by omega)
        exact ⟨this.1, this.2.1⟩
    · have hs : s < 2 ^ k := by omega
      rw [if_neg (nI_ge hs (by omega)), nI_or, or_pow hs]
      simp only [nm, gd_nI (show s < 64 by omega) (show 64 < 2 ^ 31 by decide), gd_nI (show s + 2 ^ k < 64 by omega) (show 64 < 2 ^ 31 by decide)]
      simp only [cl_nI (show s < 2 ^ 31 by omega), cl_nI (show s + 2 ^ k < 2 ^ 31 by omega), MV_a, MV_w, MV_0, MV_1, nI_1, h3 s hs, nI_add]
      have hu : ∀ (g : Nat → Int32) (y : Int32), upd g (s + 2 ^ k) y s = g s := fun g y => upd_n g y (by omega)
      simp only [hu, h5 s (Nat.le_refl _) hs]
      obtain ⟨ga', gw', q1, q2, q3⟩ := ih (s + 1) (upd ga (s + 2 ^ k) (nI (aS c s k + c k))) (upd (upd gw (s + 2 ^ k) (nI (ww (uC c x) (vC c x) s k * uC c x k))) s (nI (ww (uC c x) (vC c x) s k * vC c x k))) (by omega) (by omega) (fun S hS => by
        rw [upd_n _ _ (by omega)]; exact h3 S hS) (fun S hS => by
        by_cases eS : S = s
        · rw [eS, Nat.add_comm (2 ^ k) s, upd_s, upd_s, upd_n _ _ (by omega), upd_s]
          exact ⟨rfl, rfl, rfl⟩
        · rw [upd_n _ _ (by omega), upd_n _ _ (by omega), upd_n _ _ (by omega), upd_n _ _ (by omega), upd_n _ _ (by omega)]
          exact h4 S (by omega)) (fun S hS1 hS2 => by
        rw [upd_n _ _ (by omega), upd_n _ _ (by omega)]
        exact h5 S (by omega) hS2) (fun i hi1 hi2 => by
        have hp : 2 ^ (k + 1) ≤ 2 ^ i := Nat.pow_le_pow_right (n := 2) (by decide) hi1
        rw [upd_n _ _ (by omega)]
        exact h6 i hi1 hi2)
      refine ⟨ga', gw', ?_, q2, q3⟩
      rw [← q1, ht]
      by_cases c0 : c k = 0
      · rw [if_pos c0, if_pos nI_0, if_pos nI_0, show uC c x k = 0 from if_pos c0, show vC c x k = 1 from if_pos c0, Nat.mul_zero, Nat.mul_one]
        rfl
      · rw [if_neg c0, if_neg (by decide), if_neg (by decide), show uC c x k = x from if_neg c0, show vC c x k = 10 - x from if_neg c0, pk_mul, show (10 : Int32) - nI x = nI (10 - x) from pk_sub (a := 10) hx, pk_mul]
theorem and_bit : ∀ a, a < 64 → ∀ k, k < 6 → ((nI a &&& nI (2 ^ k) = 0) ↔ a.testBit k = false) := by decide +kernel
theorem spread_eq {f : Nat} (hf : 100 ≤ f) {Ic : FI} (Vc : FV) {c : Nat → Nat} {x k A : Nat} (hk : k < 6) (hx : x ≤ 10) (hA : A < 64) (i2 : Ic 2 = nI A) (hb : A.testBit k = nz c k) (i3 : Ic 3 = nI (10 ^ ct (nz c) k)) {ga gw : Nat → Int32} (h3 : ∀ S, S < 2 ^ k → ga S = nI (aS c S k)) (h5 : ∀ S, S < 2 ^ k → gw S = nI (ww (uC c x) (vC c x) S k)) (h6 : ∀ i, k ≤ i → i < 6 → ga (2 ^ i) = nI (c i)) : ∃ ga' gw', Crd_spread f (nI (2 ^ k)) (nI x) Ic (MV Vc ga gw) = some (va_up Ic 3 (nI (10 ^ ct (nz c) (k + 1))), MV Vc ga' gw') ∧ (∀ S, S < 2 ^ (k + 1) → ga' S = nI (aS c S (k + 1)) ∧ gw' S = nI (ww (uC c x) (vC c x) S (k + 1))) ∧ ∀ i, k < i → i < 6 → ga' (2 ^ i) = nI (c i) := by
  have hk2 := pow64 hk
  have ab := and_bit A hA k hk
  rw [hb] at ab
  unfold Crd_spread
  simp only [nm, gd_nI hk2 (show 64 < 2 ^ 31 by decide)]
  simp only [cl_nI (show 2 ^ k < 2 ^ 31 by omega), MV_a, i2, i3, h6 k (Nat.le_refl _) hk]
  rw [ct_s]
  by_cases c0 : c k = 0
  · have nz0 : nz c k = false := by simpa using nz_0 c0
    rw [if_pos (ab.mpr nz0), nz0, if_neg (by decide), Nat.add_zero]
    obtain ⟨ga', gw', q1, q2, q3⟩ := spr26 f Vc (t0 := 0) hk hx (by rw [if_pos c0]) (fun (Vcrd_26 : FV) => (if (0 : Int32) = 0 then some (va_up Ic 3 (nI (10 ^ ct (nz c) k)), Vcrd_26) else some (va_up Ic 3 (nI (10 ^ ct (nz c) k) * 10), Vcrd_26))) f 0 ga gw (Nat.zero_le _) (by omega) h3 (fun S hS => absurd hS (Nat.not_lt_zero _)) (fun S _ hS => h5 S hS) (fun i hi => h6 i (by omega))
    refine ⟨ga', gw', ?_, q2, q3⟩
    exact q1.trans (if_pos rfl)
  · have nz1 : nz c k = true := nz_1 c0
    rw [if_neg (fun z => by have := ab.mp z; rw [nz1] at this; cases this), nz1, if_pos rfl]
    obtain ⟨ga', gw', q1, q2, q3⟩ := spr26 f Vc (t0 := 1) hk hx (by rw [if_neg c0]) (fun (Vcrd_26 : FV) => (if (1 : Int32) = 0 then some (va_up Ic 3 (nI (10 ^ ct (nz c) k)), Vcrd_26) else some (va_up Ic 3 (nI (10 ^ ct (nz c) k) * 10), Vcrd_26))) f 0 ga gw (Nat.zero_le _) (by omega) h3 (fun S hS => absurd hS (Nat.not_lt_zero _)) (fun S _ hS => h5 S hS) (fun i hi => h6 i (by omega))
    refine ⟨ga', gw', ?_, q2, q3⟩
    refine q1.trans ?_
    rw [if_neg (by decide), show nI (10 ^ ct (nz c) k) * 10 = nI (10 ^ ct (nz c) k * 10) from pk_mul _ 10, ← Nat.pow_succ]
theorem gat112 {ρ : Type} {f : Nat} (hf : 100 ≤ f) {Ig : FI} {P : Nat} (hP : P ≤ 6) (l0 : Ig 0 = nI P) (Ic : FI) (Vc : FV) {c : Nat → Nat} {x A : Nat} (hx : x ≤ 10) (hA : A < 64) (i2 : Ic 2 = nI A) (hb : ∀ k, k < 6 → A.testBit k = nz c k) (K : FI → FV → Option ρ) : ∀ (n k : Nat) (ga gw : Nat → Int32), k ≤ P → P - k < n → (∀ S, S < 2 ^ k → ga S = nI (aS c S k) ∧ gw S = nI (ww (uC c x) (vC c x) S k)) → (∀ i, k ≤ i → i < 6 → ga (2 ^ i) = nI (c i)) → ∃ ga' gw', Crd_gather_L112 f Ig (nI x) K n (nI k) (va_up Ic 3 (nI (10 ^ ct (nz c) k))) (MV Vc ga gw) = K (va_up Ic 3 (nI (10 ^ ct (nz c) P))) (MV Vc ga' gw') ∧ ∀ S, S < 2 ^ P → ga' S = nI (aS c S P) ∧ gw' S = nI (ww (uC c x) (vC c x) S P) := by
  intro n
  induction n with
  | zero => intro k ga gw h1 h2; omega
  | succ n ih =>
    intro k ga gw h1 h2 h3 h4
    rw [Crd_gather_L112, l0]
    by_cases e : k = P
    · subst e
      exact ⟨ga, gw, if_pos (nI_le (Nat.le_refl _) (by omega)), h3⟩
    · have hk : k < P := by omega
      obtain ⟨ga1, gw1, q1, q2, q3⟩ := spread_eq hf (Ic := va_up Ic 3 (nI (10 ^ ct (nz c) k))) Vc (show k < 6 by omega) hx hA i2 (hb k (by omega)) (va_up_self _ _ _) (fun S hS => (h3 S hS).1) (fun S hS => (h3 S hS).2) h4
      obtain ⟨ga', gw', r1, r2⟩ := ih (k + 1) ga1 gw1 (by omega) (by omega) q2 (fun i hi => q3 i (by omega))
      refine ⟨ga', gw', ?_, r2⟩
      rw [if_neg (nI_ge hk (by omega)), sh1 k (by omega), q1, ob2_s, bx_uu, nI_1]
      exact r1
theorem cr_0 {P : Nat} {L : Nat → Nat → Nat} (hok : okT P L) (p : Nat) {q : Nat} (hq : P ≤ q) : cr L p q = 0 := by
  unfold cr
  rw [sm_congr (h := fun _ => 0) (L 0 0) (fun j hj => by
    have := (hok.2.2.2 j hj).1
    exact if_neg (fun z => by omega)), sm_zero]
theorem gather_eq {f : Nat} (hf : 100 ≤ f) (Ic : FI) (Vc : FV) {Ig : FI} {Vg : FV} {P : Nat} {L : Nat → Nat → Nat} (hP : P ≤ 6) (hok : okT P L) (hL : tL P L Ig Vg) {p x : Nat} (hp : p < 6) (hx : x ≤ 10) : ∃ I3 V4, Crd_gather f (nI p) (nI x) Ic Vc Ig Vg = some (I3, V4) ∧ I3 2 = nI (bm (nz (cr L p)) P) ∧ I3 3 = nI (10 ^ ct (nz (cr L p)) P) ∧ ∀ S, S < 2 ^ P → V4 0 S = nI (aS (cr L p) S P) ∧ V4 1 S = nI (ww (uC (cr L p) x) (vC (cr L p) x) S P) := by
  have hd := hok.1
  obtain ⟨g1, a1, a2⟩ := gat8 f Vc (fun (Vcrd_8 : FV) => (Crd_gather_L32 f Ig Vg (nI p) (fun (Icrd_32 : FI) (Vcrd_32 : FV) => nm (va_up Icrd_32 3 1) (fun I6 => nm (va_up Vcrd_32 1 (upd (Vcrd_32 1) (0 : Int32).toNatClampNeg 1)) (fun V7 => (Crd_gather_L112 f Ig (nI x) (fun (Icrd_112 : FI) (Vcrd_112 : FV) => some (Icrd_112, Vcrd_112)) f 0 I6 V7)))) f 0 (va_up Ic 2 0) Vcrd_8)) f 0 (Vc 0) (by omega) (by omega) (fun i hi => absurd hi (Nat.not_lt_zero _))
  rw [up_id] at a1
  obtain ⟨g2, A, b1, b2, b3, b4, b5⟩ := gat32 f hP hok hL hp Ic Vc (fun (Icrd_32 : FI) (Vcrd_32 : FV) => nm (va_up Icrd_32 3 1) (fun I6 => nm (va_up Vcrd_32 1 (upd (Vcrd_32 1) (0 : Int32).toNatClampNeg 1)) (fun V7 => (Crd_gather_L112 f Ig (nI x) (fun (Icrd_112 : FI) (Vcrd_112 : FV) => some (Icrd_112, Vcrd_112)) f 0 I6 V7)))) f 0 g1 0 (Nat.zero_le _) (by omega) (by omega) (fun q _ => by rw [Nat.zero_testBit]; rfl) (fun q hq => by rw [a2 _ (pow64 hq)]; rfl) (a2 0 (by omega))
  have hA : A = bm (nz (cr L p)) P := by
    apply Nat.eq_of_testBit_eq
    intro i
    rw [bm_bit]
    by_cases e : i < 6
    · rw [b3 i e]
      by_cases eP : i < P
      · simp [eP]
      · have h0 := cr_0 hok p (q := i) (by omega)
        have : nz (cr L p) i = false := by simpa using nz_0 h0
        simp [eP, this]
    · rw [Nat.testBit_lt_two_pow (Nat.lt_of_lt_of_le b2 (Nat.pow_le_pow_right (n := 2) (i := 6) (j := i) (by decide) (by omega)))]
      simp [show ¬ i < P by omega]
  obtain ⟨ga, gw, c1, c2⟩ := gat112 hf hP hL.1 (va_up Ic 2 (nI A)) Vc (c := cr L p) hx b2 (va_up_self _ _ _) b3 (fun (Icrd_112 : FI) (Vcrd_112 : FV) => some (Icrd_112, Vcrd_112)) f 0 g2 (upd (Vc 1) 0 1) (Nat.zero_le _) (by omega) (fun S hS => by
    have e0 : S = 0 := by rw [Nat.pow_zero] at hS; omega
    rw [e0, upd_s, b5]
    exact ⟨rfl, rfl⟩) (fun i _ hi => b4 i hi)
  refine ⟨va_up (va_up Ic 2 (nI A)) 3 (nI (10 ^ ct (nz (cr L p)) P)), MV Vc ga gw, ?_, ?_, ?_, c2⟩
  · unfold Crd_gather
    simp only [nm]
    refine a1.trans (Eq.trans b1 ?_)
    simp only [nm]
    rw [MV_id, MV_1]
    exact c1
  · rw [← hA]; rfl
  · rfl
