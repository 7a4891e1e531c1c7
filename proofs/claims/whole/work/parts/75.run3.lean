theorem gcd_step (a b : Nat) : Nat.gcd a b = Nat.gcd b (a % b) := by
  rw [Nat.gcd_comm a b, Nat.gcd_rec b a, Nat.gcd_comm]
theorem mod_half {b r : Nat} (h0 : 0 < r) (h1 : r < b) : 2 * (b % r) < b := by
  have h2 := Nat.mod_lt b h0
  have h3 := Nat.div_add_mod b r
  have h4 : 1 ≤ b / r := Nat.div_pos (by omega) h0
  have h5 : r * 1 ≤ r * (b / r) := Nat.mul_le_mul_left _ h4
  omega
theorem cd7 {ρ : Type} (f : Nat) (K : Int32 → Option ρ) : ∀ k n a b s, a < 2 ^ 31 → b < 2 ^ 31 → b < 2 ^ k → 2 * k < n → s + 2 * k < 50 → X_commonDivisor_L7 f K n (nI a) (nI b) (nI s) = K (nI (Nat.gcd a b)) := by
  intro k
  induction k with
  | zero =>
    intro n a b s h1 h2 h3 h4 h5
    have e : b = 0 := by rw [Nat.pow_zero] at h3; omega
    obtain ⟨m, rfl⟩ : ∃ m, n = m + 1 := ⟨n - 1, by omega⟩
    rw [X_commonDivisor_L7, if_neg (show ¬ (50 : Int32) ≤ nI _ from nI_ge (b := 50) (by omega) (by decide)), e, if_pos nI_0, Nat.gcd_zero_right]
  | succ k ih =>
    intro n a b s h1 h2 h3 h4 h5
    obtain ⟨m, rfl⟩ : ∃ m, n = m + 2 := ⟨n - 2, by omega⟩
    rw [X_commonDivisor_L7, if_neg (show ¬ (50 : Int32) ≤ nI _ from nI_ge (b := 50) (by omega) (by decide))]
    by_cases e : b = 0
    · rw [e, if_pos nI_0, Nat.gcd_zero_right]
    · have hb : 0 < b := by omega
      have hr := Nat.mod_lt a hb
      rw [if_neg (nI_ne0 hb h2), if_neg (nI_ne0 hb h2), pk_rem h1 hb h2, gcd_step]
      simp only [nm]
      rw [nI_1, X_commonDivisor_L7, if_neg (show ¬ (50 : Int32) ≤ nI _ from nI_ge (b := 50) (by omega) (by decide))]
      by_cases er : a % b = 0
      · rw [er, if_pos nI_0, Nat.gcd_zero_right]
      · have hr0 : 0 < a % b := by omega
        have hm := mod_half hr0 hr
        rw [Nat.pow_succ] at h3
        rw [if_neg (nI_ne0 hr0 (by omega)), if_neg (nI_ne0 hr0 (by omega)), pk_rem h2 hr0 (by omega), gcd_step b]
        simp only [nm]
        rw [nI_1]
        exact ih m (a % b) (b % (a % b)) (s + 1 + 1) (by omega) (by omega) (by omega) (by omega) (by omega)
theorem lg_z {b : Nat} (hb : b < 2 ^ 63) : (lg_cmp (lN b) 0 = 0) ↔ b = 0 := by
  constructor
  · intro h
    apply Decidable.byContradiction
    intro q
    have h1 : lN 0 < lN b := (pk_lLT (by decide) hb).mpr (by omega)
    have h2 := (lg_pos (lN b) 0).mpr h1
    rw [h] at h2
    exact absurd h2 (by decide)
  · rintro rfl
    exact lg_same 0
theorem dv6 {ρ : Type} (f : Nat) (K : Int64 → Option ρ) : ∀ k n a b, a < 2 ^ 31 → b < 2 ^ 31 → b < 2 ^ k → 2 * k < n → M_divisor_L6 f K n (lN a) (lN b) = K (lN (Nat.gcd a b)) := by
  intro k
  induction k with
  | zero =>
    intro n a b h1 h2 h3 h4
    have e : b = 0 := by rw [Nat.pow_zero] at h3; omega
    obtain ⟨m, rfl⟩ : ∃ m, n = m + 1 := ⟨n - 1, by omega⟩
    rw [M_divisor_L6, if_pos ((lg_z (by omega)).mpr e), e, Nat.gcd_zero_right]
  | succ k ih =>
    intro n a b h1 h2 h3 h4
    obtain ⟨m, rfl⟩ : ∃ m, n = m + 2 := ⟨n - 2, by omega⟩
    have nz0 : ∀ c, 0 < c → c < 2 ^ 31 → ¬ lN c = 0 := fun c c1 c2 q => by
      have := (pk_lEQ (a := c) (b := 0) (by omega) (by decide)).mp q
      omega
    rw [M_divisor_L6]
    by_cases e : b = 0
    · rw [if_pos ((lg_z (by omega)).mpr e), e, Nat.gcd_zero_right]
    · have hb : 0 < b := by omega
      have hr := Nat.mod_lt a hb
      rw [if_neg (fun q => e ((lg_z (by omega)).mp q)), if_neg (nz0 b hb h2), pk_lRem (by omega) hb (by omega), gcd_step]
      simp only [nm]
      rw [M_divisor_L6]
      by_cases er : a % b = 0
      · rw [if_pos ((lg_z (by omega)).mpr er), er, Nat.gcd_zero_right]
      · have hr0 : 0 < a % b := by omega
        have hm := mod_half hr0 hr
        rw [Nat.pow_succ] at h3
        rw [if_neg (fun q => er ((lg_z (by omega)).mp q)), if_neg (nz0 _ hr0 (by omega)), pk_lRem (by omega) hr0 (by omega), gcd_step b]
        simp only [nm]
        exact ih m (a % b) (b % (a % b)) (by omega) (by omega) (by omega) (by omega)
theorem ten_le {n : Nat} (h : n ≤ 6) : 0 < 10 ^ n ∧ 10 ^ n ≤ 1000000 := ⟨Nat.pow_pos (by decide), Nat.le_trans (Nat.pow_le_pow_right (n := 10) (j := 6) (by decide) h) (by decide)⟩
/-- the askers, both ways -/
theorem run_parts {f : Nat} (hf : 1000 ≤ f) (Ic : FI) (Vc : FV) {Ig : FI} {Vg : FV} {I : FI} {V : FV} {P : Nat} {L : Nat → Nat → Nat} (hP : P ≤ 6) (hok : okT P L) (hL : tL P L Ig Vg) (i4 : I 4 = nI P) (hM : tM P L I V) {p x : Nat} (hp : p < 6) (hx : x ≤ 10) : ∃ (I3 : FI) (V4 : FV) (g : Nat → Int32) (N : Nat) (G : Nat → Nat), Crd_gather f (nI p) (nI x) Ic Vc Ig Vg = some (I3, V4) ∧ M_layAskers f (nI p) I V = some (va_up I 37 (nI N), va_up V 36 g) ∧ N ≤ 6 ∧ I3 3 = nI (10 ^ N) ∧ (∀ m, G m ≤ 10 ^ N) ∧ (∀ m m', m ≤ m' → G m ≤ G m') ∧ (∀ m, m < 2 ^ 31 → Crd_waysWithin f (nI m) I3 V4 = some (nI (G m))) ∧ (∀ m, m < 2 ^ 31 → M_enoughBy f (nI m) (nI x) (va_up I 37 (nI N)) (va_up V 36 g) = some (lN (G m))) ∧ M_wholeOf f (va_up I 37 (nI N)) (va_up V 36 g) = some (lN (10 ^ N)) ∧ I3 2 = nI (bm (nz (cr L p)) P) ∧ (∀ S, S < 2 ^ P → V4 0 S = nI (aS (cr L p) S P)) ∧ (∀ m, G m = GG (cr L p) (uC (cr L p) x) (vC (cr L p) x) P m) ∧ N = ct (nz (cr L p)) P := by
  obtain ⟨I3, V4, a1, a2, a3, a4⟩ := gather_eq (f := f) (by omega) Ic Vc hP hok hL hp hx
  obtain ⟨g, al, b1, b2, b3⟩ := lay7 (f := f) (by omega) hP hok i4 hM hp (fun Im Vm => some (Im, Vm)) f 0 (V 36) (fun _ => 0) (Nat.zero_le _) (by omega) (fun i hi => absurd hi (Nat.not_lt_zero _)) (fun j hj => absurd hj (Nat.not_lt_zero _))
  rw [up_id] at b1
  have hN : ct (nz (cr L p)) P ≤ 6 := Nat.le_trans (ct_le _ _) hP
  have hb : ∀ S, aS (cr L p) S P < 2 ^ 31 := fun S => by
    have := aS_le (cr L p) (b := 1188) S (n := P) (fun q _ => cr_le hok p q)
    have h2 : P * 1188 ≤ 6 * 1188 := Nat.mul_le_mul_right _ hP
    omega
  refine ⟨I3, V4, g, ct (nz (cr L p)) P, fun m => GG (cr L p) (uC (cr L p) x) (vC (cr L p) x) P m, a1, b1, hN, a3, fun m => ?_, fun m m' h => GG_mono _ _ _ _ _ _ h, fun m hm => ways_eq (f := f) (by omega) hP a2 a4 hb hm, fun m hm => ?_, ?_, a2, fun S hS => (a4 S hS).1, fun m => rfl, rfl⟩
  · rw [← TW_comp (cr L p) hx P]
    exact GG_le _ _ _ _ _
  · have q := en5 (f := f) (by omega) (I := va_up I 37 (nI (ct (nz (cr L p)) P))) (V := va_up V 36 g) hN (va_up_self _ _ _) (fun i hi => by rw [va_up_self]; exact b2 i hi) hx hm (fun z => some z) f 0 (Nat.zero_le _) (by
      have : (2 : Nat) ^ ct (nz (cr L p)) P ≤ 2 ^ 6 := Nat.pow_le_pow_right (by decide) hN
      omega)
    rw [GG_comp (cr L p) al x P b3 m] at q
    exact q
  · exact whole4 f (I := va_up I 37 (nI (ct (nz (cr L p)) P))) hN (va_up_self _ _ _) (fun z => some z) f 0 (Nat.zero_le _) (by omega)
theorem x_in {a1 : Int32} {m : Nat} (c2 : ¬ ((0 : Int32) ≤ a1 ∧ a1 ≤ nI m)) (d : ¬ a1 < 0) : ¬ a1 ≤ nI m := by
  intro q
  refine c2 ⟨?_, q⟩
  rw [Int32.le_iff_toInt_le]
  rw [Int32.lt_iff_toInt_lt] at d
  have : (0 : Int32).toInt = 0 := rfl
  omega
theorem S_run {f : Nat} (hf : 1000 ≤ f) : Sim_run Rel f := by
  intro SI SV LaI LaV LsI LsV I V a0 a1 a2 h hz
  have h0 := h
  obtain ⟨P, hP, i4, ⟨L, hok, hM, hL⟩, hT, hA, hSl, hDa, z0, z1⟩ := h
  have hRel0 : Rel SI SV LaI LaV LsI LsV (va_up I 0 0) V := Rel_ag h0 (agI_0 I 0) (agV_rf V)
  have hRel : Rel (va_up SI 8 (SI 8)) (va_up SV 8 (SV 8)) LaI LaV LsI LsV (va_up I 0 0) V := by rw [up_id, up_id]; exact hRel0
  have hM1 : tM P L (va_up I 0 0) V := hM
  have l0 := hL.1
  have j4 : va_up I 0 0 4 = nI P := i4
  have hin : M_in f a1.toInt64 0 10 = some (if (0 : Int32) ≤ a1 ∧ a1 ≤ nI 10 then 1 else 0) := in_c f a1 0 10
  unfold X_run M_run
  simp only [nm]
  rw [has_eq f a0 _ hP l0, noOne_eq f a0 V hP j4]
  by_cases c : a0 < 0 ∨ nI P ≤ a0
  · rw [if_pos c, if_pos c]
    exact ⟨-1, SI 8, SV 8, va_up I 0 0, V, rfl, rfl, hRel⟩
  rw [if_neg c, if_neg c, ob1_s, ob1_s, if_neg (by decide), if_pos rfl, hin, ob1_s]
  obtain ⟨p, hp, rfl⟩ := one_of (by omega) c
  by_cases c2 : (0 : Int32) ≤ a1 ∧ a1 ≤ nI 10
  rotate_left
  · rw [if_neg c2, if_pos rfl]
    refine ⟨-2, SI 8, SV 8, va_up I 0 0, V, ?_, rfl, hRel⟩
    by_cases d : a1 < 0
    · rw [if_pos d]
    · rw [if_neg d, if_neg (show ¬ a1 ≤ 10 from x_in c2 d)]
  rw [if_pos c2, if_neg (show ¬ (1 : Int32) = 0 by decide)]
  obtain ⟨x, hx, rfl⟩ := rng_of (m := 10) (by decide) c2
  rw [if_neg (nI_pos (by omega)), if_pos (show nI x ≤ 10 from c2.2)]
  obtain ⟨I3, V4, g, N, G, q1, q2, q3, q4, q5, q6, q7, q8, q9, q10, q11, q12, q13⟩ := run_parts hf (SI 8) (SV 8) hP hok hL j4 hM1 (show p < 6 by omega) hx
  rw [q1, q2, ob2_s, ob2_s, gd_nI (show p < 6 by omega) (by decide), gd_nI (show p < 6 by omega) (by decide), cl_nI (by omega), (hL.2.2.2.2.2.1 p hp).1, show va_up V 36 g 5 p = nI (L 5 p) from (hM.2.2.1 p hp).1]
  have hb5 : L 5 p < 2 ^ 31 := by
    have := sm_le (L 5) P p hp
    have := hok.2.1
    omega
  rw [q7 _ hb5, q8 _ hb5, ob1_s, ob1_s, q9, ob1_s, q4]
  obtain ⟨t1, t2⟩ := ten_le q3
  have hG := q5 (L 5 p)
  have e1 : X_commonDivisor f (nI (G (L 5 p))) (nI (10 ^ N)) = some (nI (Nat.gcd (G (L 5 p)) (10 ^ N))) := cd7 f (fun z => some z) 20 f _ _ 0 (by omega) (by omega) (by omega) (by omega) (by omega)
  have e2 : M_divisor f (lN (G (L 5 p))) (lN (10 ^ N)) = some (lN (Nat.gcd (G (L 5 p)) (10 ^ N))) := dv6 f (fun z => some z) 20 f _ _ (by omega) (by omega) (by omega) (by omega)
  have g1 : 0 < Nat.gcd (G (L 5 p)) (10 ^ N) := Nat.gcd_pos_of_pos_right _ t1
  have g2 : Nat.gcd (G (L 5 p)) (10 ^ N) ≤ 10 ^ N := Nat.gcd_le_right _ t1
  rw [e1, e2, ob1_s, ob1_s]
  have nz0 : ¬ lN (Nat.gcd (G (L 5 p)) (10 ^ N)) = 0 := fun q => by
    have := (pk_lEQ (b := 0) (by omega) (by decide)).mp q
    omega
  rw [if_pos (show (1 : Int32) ≤ nI _ from (le_n (a := 1) (by decide) (by omega)).mpr g1), ob1_s, if_neg (nI_ne0 g1 (by omega)), if_neg (nI_ne0 g1 (by omega)), if_neg nz0, if_neg nz0, pk_div (by omega) g1 (by omega), pk_div (by omega) g1 (by omega), pk_lDiv (by omega) g1 (by omega), pk_lDiv (by omega) g1 (by omega)]
  have d1 := Nat.div_le_self (10 ^ N) (Nat.gcd (G (L 5 p)) (10 ^ N))
  have d2 := Nat.div_le_self (G (L 5 p)) (Nat.gcd (G (L 5 p)) (10 ^ N))
  rw [nI_l (by omega), nI_l (by omega)]
  have hRel2 : Rel (va_up SI 8 I3) (va_up SV 8 V4) LaI LaV LsI LsV (va_up I 0 0) V := Rel_s hRel0 rfl rfl rfl rfl rfl rfl rfl rfl rfl
  have hRel3 : Rel (va_up SI 8 I3) (va_up SV 8 V4) LaI LaV LsI LsV (va_up (va_up I 0 0) 37 (nI N)) (va_up V 36 g) := Rel_ag hRel2 ⟨rfl, rfl, rfl, rfl, rfl, rfl⟩ ⟨rfl, rfl, rfl, rfl, rfl, rfl, rfl, rfl, rfl, rfl, rfl, rfl, rfl, rfl, rfl⟩
  rcases hz with e | e
  · rw [if_pos e, if_pos e]
    exact ⟨_, I3, V4, _, _, rfl, rfl, hRel3⟩
  · rw [if_neg (by rw [e]; decide), if_neg (by rw [e]; decide)]
    exact ⟨_, I3, V4, _, _, rfl, rfl, hRel3⟩
/-! enough -/
theorem least_nat (Q : Nat → Prop) : ∀ n, Q n → ∃ k, k ≤ n ∧ Q k ∧ ∀ j, j < k → ¬ Q j := by
  intro n
  induction n using Nat.strongRecOn with
  | ind n ih =>
    intro h
    by_cases e : ∃ j, j < n ∧ Q j
    · obtain ⟨j, j1, j2⟩ := e
      obtain ⟨k, k1, k2, k3⟩ := ih j j1 j2
      exact ⟨k, by omega, k2, k3⟩
    · exact ⟨n, Nat.le_refl _, h, fun j j1 j2 => e ⟨j, j1, j2⟩⟩
theorem sm_ne {g h : Nat → Nat} : ∀ n, sm g n ≠ sm h n → ∃ i, i < n ∧ g i ≠ h i := by
  intro n
  induction n with
  | zero => intro q; exact absurd rfl q
  | succ n ih =>
    intro q
    by_cases e : g n = h n
    · obtain ⟨i, i1, i2⟩ := ih (fun z => q (by rw [sm, sm, z, e]))
      exact ⟨i, by omega, i2⟩
    · exact ⟨n, by omega, e⟩
/-- the least that is enough is what some ask together -/
theorem least_sum {c : Nat → Nat} {x P m B : Nat} (h : B ≤ GG c (uC c x) (vC c x) P m * 100) (hl : ∀ j, j < m → GG c (uC c x) (vC c x) P j * 100 < B) : ∃ S, S ≤ bm (nz c) P ∧ S < 2 ^ P ∧ aS c S P = m := by
  by_cases e : m = 0
  · exact ⟨0, Nat.zero_le _, Nat.two_pow_pos P, by rw [aS_0, e]⟩
  · have h1 := hl (m - 1) (by omega)
    have h2 : sm (fun S => if aS c S P ≤ m then ww (uC c x) (vC c x) S P else 0) (2 ^ P) ≠ sm (fun S => if aS c S P ≤ m - 1 then ww (uC c x) (vC c x) S P else 0) (2 ^ P) := by
      rw [GG_sum, GG_sum]
      omega
    obtain ⟨S, s1, s2⟩ := sm_ne _ h2
    refine ⟨S, ?_, s1, ?_⟩
    · rcases Nat.lt_or_ge (bm (nz c) P) S with q | q
      · exfalso
        apply s2
        show (if _ then _ else _) = (if _ then _ else _)
        rw [big_ww s1 q]
        split <;> split <;> rfl
      · exact q
    · by_cases c1 : aS c S P ≤ m - 1
      · exact absurd (show (if _ then _ else _) = (if _ then _ else _) by rw [if_pos c1, if_pos (show aS c S P ≤ m by omega)]) s2
      · by_cases c2 : aS c S P ≤ m
        · omega
        · exact absurd (show (if _ then _ else _) = (if _ then _ else _) by rw [if_neg c1, if_neg c2]) s2
theorem lg_ge {a b : Nat} (ha : a < 2 ^ 63) (hb : b < 2 ^ 63) : (0 ≤ lg_cmp (lN a) (lN b)) ↔ b ≤ a := by
  have h1 := lg_neg (lN a) (lN b)
  rw [pk_lLT ha hb] at h1
  constructor
  · intro h
    apply Decidable.byContradiction
    intro q
    have := h1.mpr (by omega)
    rw [Int32.lt_iff_toInt_lt] at this
    rw [Int32.le_iff_toInt_le] at h
    omega
  · intro h
    rw [Int32.le_iff_toInt_le]
    have h2 : ¬ lg_cmp (lN a) (lN b) < 0 := fun q => by have := h1.mp q; omega
    rw [Int32.lt_iff_toInt_lt] at h2
    omega
theorem en50 {ρ : Type} (f : Nat) {I : FI} {V : FV} {x y N m0 : Nat} {G : Nat → Nat} (hy : y ≤ 100) (hN : N ≤ 6) (hG : ∀ m, G m ≤ 10 ^ N) (q8 : ∀ m, m < 2 ^ 31 → M_enoughBy f (nI m) (nI x) I V = some (lN (G m))) (q9 : M_wholeOf f I V = some (lN (10 ^ N))) (hm : m0 < 2 ^ 30) (h0 : y * 10 ^ N ≤ G m0 * 100) (hl : ∀ j, j < m0 → G j * 100 < y * 10 ^ N) (k : Int32 → Option ρ) : ∀ n m, m ≤ m0 → m0 - m < n → M_enough_L50 f (nI x) I V (nI y) k n (nI m) = k (nI m0) := by
  obtain ⟨t1, t2⟩ := ten_le hN
  have hyb : y * 10 ^ N ≤ 100 * 1000000 := Nat.mul_le_mul hy t2
  intro n
  induction n with
  | zero => intro m h1 h2; omega
  | succ n ih =>
    intro m h1 h2
    have hg := hG m
    rw [M_enough_L50, q8 m (by omega), ob1_s, q9, ob1_s, nI_l (show y < 2 ^ 31 by omega), lN_mul, show lN (G m) * 100 = lN (G m * 100) from lN_mul _ 100]
    by_cases e : m = m0
    · subst e
      rw [if_pos ((lg_ge (by omega) (by omega)).mpr h0)]
    · have := hl m (by omega)
      rw [if_neg (fun q => by have := (lg_ge (by omega) (by omega)).mp q; omega), nI_1]
      exact ih (m + 1) (by omega) (by omega)
theorem le12 {ρ : Type} (f : Nat) {I : FI} {V : FV} {A P y B N : Nat} {c G : Nat → Nat} (hA : A < 64) (hAP : A < 2 ^ P) (hN : N ≤ 6) (hy : y ≤ 100) (hB : B = y * 10 ^ N) (i2 : I 2 = nI A) (i3 : I 3 = nI (10 ^ N)) (hG : ∀ m, G m ≤ 10 ^ N) (hV : ∀ S, S < 2 ^ P → V 0 S = nI (aS c S P)) (hb : ∀ S, aS c S P < 2 ^ 30) (q7 : ∀ m, m < 2 ^ 31 → Crd_waysWithin f (nI m) I V = some (nI (G m))) (k : Int32 → Option ρ) : ∀ n s r, s ≤ A → A - s < n → r < 2 ^ 30 → B ≤ G r * 100 → r ≤ aS c A P → (∀ S, S < s → B ≤ G (aS c S P) * 100 → r ≤ aS c S P) → ∃ r', Crd_leastEnough_L12 f I V (nI y) k n (nI r) (nI s) = k (nI r') ∧ B ≤ G r' * 100 ∧ r' ≤ aS c A P ∧ ∀ S, S < A → B ≤ G (aS c S P) * 100 → r' ≤ aS c S P := by
  obtain ⟨t1, t2⟩ := ten_le hN
  have hyb : y * 10 ^ N ≤ 100 * 1000000 := Nat.mul_le_mul hy t2
  intro n
  induction n with
  | zero => intro s r h1 h2; omega
  | succ n ih =>
    intro s r h1 h2 h3 h4 h5 h6
    rw [Crd_leastEnough_L12, i2]
    by_cases e : s = A
    · subst e
      exact ⟨r, if_pos (nI_le (Nat.le_refl _) (by omega)), h4, h5, h6⟩
    · have hs : s < A := by omega
      have hbs := hb s
      have hgs := hG (aS c s P)
      rw [if_neg (nI_ge hs (by omega))]
      simp only [nm, gd_nI (show s < 64 by omega) (show 64 < 2 ^ 31 by decide)]
      simp only [cl_nI (show s < 2 ^ 31 by omega), hV s (by omega), q7 _ (show aS c s P < 2 ^ 31 by omega), ob1_s, i3, pk_mul, nI_1, show nI (G (aS c s P)) * 100 = nI (G (aS c s P) * 100) from pk_mul _ 100]
      by_cases c1 : r ≤ aS c s P
      · rw [if_pos ((le_n (by omega) (by omega)).mpr c1)]
        exact ih (s + 1) r (by omega) (by omega) h3 h4 h5 (fun S hS hq => by
          by_cases eS : S = s
          · rw [eS]; exact c1
          · exact h6 S (by omega) hq)
      · rw [if_neg (fun z => c1 ((le_n (by omega) (by omega)).mp z))]
        by_cases c2 : B ≤ G (aS c s P) * 100
        · rw [if_neg (fun z => by have := (lt_n (by omega) (by omega)).mp z; omega)]
          exact ih (s + 1) (aS c s P) (by omega) (by omega) hbs c2 (by omega) (fun S hS hq => by
            by_cases eS : S = s
            · rw [eS]; exact Nat.le_refl _
            · have := h6 S (by omega) hq; omega)
        · rw [if_pos ((lt_n (by omega) (by omega)).mpr (by omega))]
          exact ih (s + 1) r (by omega) (by omega) h3 h4 h5 (fun S hS hq => by
            by_cases eS : S = s
            · rw [eS] at hq; exact absurd hq c2
            · exact h6 S (by omega) hq)
theorem aS_all {c : Nat → Nat} (P : Nat) : aS c (bm (nz c) P) P = sm c P := by
  unfold aS
  refine sm_congr P (fun i hi => ?_)
  rw [bm_bit]
  by_cases e : c i = 0
  · rw [e]; split <;> rfl
  · rw [if_pos (by simp [hi, nz_1 e])]
theorem S_enough {f : Nat} (hf : 10000 ≤ f) : Sim_enough Rel f := by
  intro SI SV LaI LaV LsI LsV I V a0 a1 a2 h
  have h0 := h
  obtain ⟨P, hP, i4, ⟨L, hok, hM, hL⟩, hT, hA, hSl, hDa, z0, z1⟩ := h
  have hRel0 : Rel SI SV LaI LaV LsI LsV (va_up I 0 0) V := Rel_ag h0 (agI_0 I 0) (agV_rf V)
  have hRel : Rel (va_up SI 8 (SI 8)) (va_up SV 8 (SV 8)) LaI LaV LsI LsV (va_up I 0 0) V := by rw [up_id, up_id]; exact hRel0
  have hM1 : tM P L (va_up I 0 0) V := hM
  have l0 := hL.1
  have j4 : va_up I 0 0 4 = nI P := i4
  have hin : M_in f a1.toInt64 0 10 = some (if (0 : Int32) ≤ a1 ∧ a1 ≤ nI 10 then 1 else 0) := in_c f a1 0 10
  have hin2 : M_in f a2.toInt64 0 100 = some (if (0 : Int32) ≤ a2 ∧ a2 ≤ nI 100 then 1 else 0) := in_c f a2 0 100
  unfold X_enough M_enough
  simp only [nm]
  rw [has_eq f a0 _ hP l0, noOne_eq f a0 V hP j4]
  by_cases c : a0 < 0 ∨ nI P ≤ a0
  · rw [if_pos c, if_pos c]
    exact ⟨-1, SI 8, SV 8, va_up I 0 0, V, rfl, rfl, hRel⟩
  rw [if_neg c, if_neg c, ob1_s, ob1_s, if_neg (by decide), if_pos rfl, hin, ob1_s, hin2, ob1_s]
  obtain ⟨p, hp, rfl⟩ := one_of (by omega) c
  by_cases c2 : (0 : Int32) ≤ a1 ∧ a1 ≤ nI 10
  rotate_left
  · rw [if_neg c2, if_pos rfl]
    refine ⟨-2, SI 8, SV 8, va_up I 0 0, V, ?_, rfl, hRel⟩
    by_cases d : a1 < 0
    · rw [if_pos d]
    · rw [if_neg d, if_pos (show (10 : Int32) < a1 from (nle_lt 10 a1).mpr (x_in c2 d))]
  rw [if_pos c2, if_neg (show ¬ (1 : Int32) = 0 by decide)]
  obtain ⟨x, hx, rfl⟩ := rng_of (m := 10) (by decide) c2
  rw [if_neg (nI_pos (by omega)), if_neg (show ¬ (10 : Int32) < nI x from fun q => (nle_lt 10 (nI x)).mp q c2.2)]
  by_cases c3 : (0 : Int32) ≤ a2 ∧ a2 ≤ nI 100
  rotate_left
  · rw [if_neg c3, if_pos rfl]
    refine ⟨-2, SI 8, SV 8, va_up I 0 0, V, ?_, rfl, hRel⟩
    by_cases d : a2 < 0
    · rw [if_pos d]
    · rw [if_neg d, if_neg (show ¬ a2 ≤ 100 from x_in c3 d)]
  rw [if_pos c3, if_neg (show ¬ (1 : Int32) = 0 by decide)]
  obtain ⟨y, hy, rfl⟩ := rng_of (m := 100) (by decide) c3
  rw [if_neg (nI_pos (by omega)), if_pos (show nI y ≤ 100 from c3.2)]
  obtain ⟨I3, V4, g, N, G, q1, q2, q3, q4, q5, q6, q7, q8, q9, q10, q11, q12, q13⟩ := run_parts (f := f) (by omega) (SI 8) (SV 8) hP hok hL j4 hM1 (show p < 6 by omega) hx
  rw [q1, q2, ob2_s, ob2_s]
  obtain ⟨b1, b2⟩ := bm_2P (c := cr L p) hP
  have hb : ∀ S, aS (cr L p) S P ≤ 7128 := fun S => by
    have := aS_le (cr L p) (b := 1188) S (n := P) (fun q _ => cr_le hok p q)
    have h2 : P * 1188 ≤ 6 * 1188 := Nat.mul_le_mul_right _ hP
    omega
  have hA0 := hb (bm (nz (cr L p)) P)
  have htop : y * 10 ^ N ≤ G (aS (cr L p) (bm (nz (cr L p)) P) P) * 100 := by
    rw [q12, GG_top _ _ _ _ _ (Nat.le_of_eq (aS_all P).symm), TW_comp (cr L p) hx P, ← q13, Nat.mul_comm]
    exact Nat.mul_le_mul_left _ hy
  obtain ⟨m0, m1, m2, m3⟩ := least_nat (fun m => y * 10 ^ N ≤ G m * 100) _ htop
  have m3' : ∀ j, j < m0 → G j * 100 < y * 10 ^ N := fun j hj => by have := m3 j hj; omega
  have e1 := en50 f (I := va_up (va_up I 0 0) 37 (nI N)) (V := va_up V 36 g) hy q3 q5 q8 q9 (by omega) m2 m3' (fun (x4_50 : Int32) => some (x4_50, va_up (va_up I 0 0) 37 (nI N), va_up V 36 g)) f 0 (Nat.zero_le _) (by omega)
  obtain ⟨r, r1, r2, r3, r4⟩ := le12 f (I := I3) (V := V4) (c := cr L p) (by omega) b1 q3 hy rfl q10 q4 q5 q11 (fun S => by have := hb S; omega) q7 (fun z => some z) f 0 _ (Nat.zero_le _) (by omega) (by omega) htop (Nat.le_refl _) (fun S hS => absurd hS (Nat.not_lt_zero _))
  have hr : r = m0 := by
    have a1 : m0 ≤ r := by
      rcases Nat.lt_or_ge r m0 with q | q
      · have := m3' r q; omega
      · exact q
    obtain ⟨S, s1, s2, s3⟩ := least_sum (c := cr L p) (x := x) (P := P) (m := m0) (B := y * 10 ^ N) (by rw [← q12]; exact m2) (fun j hj => by rw [← q12]; exact m3' j hj)
    by_cases eS : S = bm (nz (cr L p)) P
    · rw [eS] at s3
      omega
    · have := r4 S (by omega) (by rw [s3]; exact m2)
      omega
  have e2 : Crd_leastEnough f (nI y) I3 V4 = some (nI m0) := by
    unfold Crd_leastEnough
    rw [q10, gd_nI (show bm (nz (cr L p)) P < 64 by omega) (by decide), cl_nI (by omega), q11 _ b1]
    simp only [nm]
    rw [← hr]
    exact r1
  rw [e2, ob1_s]
  have hRel2 : Rel (va_up SI 8 I3) (va_up SV 8 V4) LaI LaV LsI LsV (va_up I 0 0) V := Rel_s hRel0 rfl rfl rfl rfl rfl rfl rfl rfl rfl
  have hRel3 : Rel (va_up SI 8 I3) (va_up SV 8 V4) LaI LaV LsI LsV (va_up (va_up I 0 0) 37 (nI N)) (va_up V 36 g) := Rel_ag hRel2 ⟨rfl, rfl, rfl, rfl, rfl, rfl⟩ ⟨rfl, rfl, rfl, rfl, rfl, rfl, rfl, rfl, rfl, rfl, rfl, rfl, rfl, rfl, rfl⟩
  exact ⟨nI m0, I3, V4, _, _, rfl, e1, hRel3⟩
