/-- what p owes k -/
def crf (L : Nat → Nat → Nat) (p k j : Nat) : Nat := if L 11 j = p ∧ L 10 j = k then L 12 j else 0
def cr (L : Nat → Nat → Nat) (p k : Nat) : Nat := sm (crf L p k) (L 0 0)
def ww (u v : Nat → Nat) (S : Nat) : Nat → Nat
  | 0 => 1
  | n + 1 => ww u v S n * (if S.testBit n then u n else v n)
/-- ways in which what is asked is m or less -/
def GG (a u v : Nat → Nat) : Nat → Nat → Nat
  | 0, _ => 1
  | n + 1, m => v n * GG a u v n m + u n * (if a n ≤ m then GG a u v n (m - a n) else 0)
def TW (u v : Nat → Nat) : Nat → Nat
  | 0 => 1
  | n + 1 => TW u v n * (u n + v n)
theorem sm_split (g : Nat → Nat) (a : Nat) : ∀ b, sm g (a + b) = sm g a + sm (fun i => g (a + i)) b
  | 0 => rfl
  | b + 1 => by rw [← Nat.add_assoc, sm, sm_split g a b, sm, Nat.add_assoc]
theorem sm_mulc (c : Nat) (g : Nat → Nat) : ∀ n, sm (fun i => c * g i) n = c * sm g n
  | 0 => rfl
  | n + 1 => by rw [sm, sm_mulc c g n, sm, Nat.mul_add]
theorem aS_low (a : Nat → Nat) {n S : Nat} (h : S < 2 ^ n) : ∀ m, m ≤ n → aS a (2 ^ n + S) m = aS a S m
  | 0, _ => rfl
  | m + 1, hm => by
    have ih := aS_low a h m (by omega)
    unfold aS at *
    rw [sm, sm, ih, Nat.testBit_two_pow_add_gt (by omega)]
theorem ww_low (u v : Nat → Nat) {n S : Nat} (h : S < 2 ^ n) : ∀ m, m ≤ n → ww u v (2 ^ n + S) m = ww u v S m
  | 0, _ => rfl
  | m + 1, hm => by
    have ih := ww_low u v h m (by omega)
    rw [ww, ww, ih, Nat.testBit_two_pow_add_gt (by omega)]
theorem aS_s (a : Nat → Nat) (S n : Nat) : aS a S (n + 1) = aS a S n + (if S.testBit n then a n else 0) := rfl
theorem aS_lo {a : Nat → Nat} {n S : Nat} (h : S < 2 ^ n) : aS a S (n + 1) = aS a S n := by
  rw [aS_s, Nat.testBit_lt_two_pow h]
  rfl
theorem aS_hi {a : Nat → Nat} {n S : Nat} (h : S < 2 ^ n) : aS a (2 ^ n + S) (n + 1) = aS a S n + a n := by
  rw [aS_s, aS_low a h n (Nat.le_refl _), Nat.testBit_two_pow_add_eq, Nat.testBit_lt_two_pow h]
  rfl
theorem ww_lo {u v : Nat → Nat} {n S : Nat} (h : S < 2 ^ n) : ww u v S (n + 1) = ww u v S n * v n := by
  rw [ww, Nat.testBit_lt_two_pow h]
  rfl
theorem ww_hi {u v : Nat → Nat} {n S : Nat} (h : S < 2 ^ n) : ww u v (2 ^ n + S) (n + 1) = ww u v S n * u n := by
  rw [ww, ww_low u v h n (Nat.le_refl _), Nat.testBit_two_pow_add_eq, Nat.testBit_lt_two_pow h]
  rfl
theorem GG_sum (a u v : Nat → Nat) : ∀ n m, sm (fun S => if aS a S n ≤ m then ww u v S n else 0) (2 ^ n) = GG a u v n m := by
  intro n
  induction n with
  | zero =>
    intro m
    rw [Nat.pow_zero, sm, sm]
    show 0 + (if aS a 0 0 ≤ m then 1 else 0) = 1
    rw [aS_0, if_pos (Nat.zero_le _)]
  | succ n ih =>
    intro m
    rw [Nat.pow_succ, Nat.mul_two, sm_split, GG]
    congr 1
    · rw [← ih m, ← sm_mulc]
      refine sm_congr _ (fun S hS => ?_)
      rw [aS_lo hS, ww_lo hS]
      by_cases c : aS a S n ≤ m
      · rw [if_pos c, if_pos c, Nat.mul_comm]
      · rw [if_neg c, if_neg c, Nat.mul_zero]
    · by_cases ca : a n ≤ m
      · rw [if_pos ca, ← ih (m - a n), ← sm_mulc]
        refine sm_congr _ (fun S hS => ?_)
        rw [aS_hi hS, ww_hi hS]
        by_cases c : aS a S n ≤ m - a n
        · rw [if_pos c, if_pos (by omega), Nat.mul_comm]
        · rw [if_neg c, if_neg (by omega), Nat.mul_zero]
      · rw [if_neg ca, Nat.mul_zero]
        refine (sm_congr _ (fun S hS => ?_)).trans (sm_zero (2 ^ n))
        rw [aS_hi hS, if_neg (by omega)]
theorem GG_mono (a u v : Nat → Nat) : ∀ n m m', m ≤ m' → GG a u v n m ≤ GG a u v n m' := by
  intro n
  induction n with
  | zero => intro m m' _; exact Nat.le_refl _
  | succ n ih =>
    intro m m' h
    rw [GG, GG]
    refine Nat.add_le_add (Nat.mul_le_mul_left _ (ih m m' h)) (Nat.mul_le_mul_left _ ?_)
    by_cases c : a n ≤ m
    · rw [if_pos c, if_pos (by omega)]
      exact ih _ _ (by omega)
    · rw [if_neg c]
      exact Nat.zero_le _
theorem GG_le (a u v : Nat → Nat) : ∀ n m, GG a u v n m ≤ TW u v n := by
  intro n
  induction n with
  | zero => intro m; exact Nat.le_refl _
  | succ n ih =>
    intro m
    rw [GG, TW, Nat.mul_add, Nat.add_comm (TW u v n * u n), Nat.mul_comm (TW u v n) (v n), Nat.mul_comm (TW u v n) (u n)]
    refine Nat.add_le_add (Nat.mul_le_mul_left _ (ih m)) (Nat.mul_le_mul_left _ ?_)
    split
    · exact ih _
    · exact Nat.zero_le _
theorem GG_top (a u v : Nat → Nat) : ∀ n m, sm a n ≤ m → GG a u v n m = TW u v n := by
  intro n
  induction n with
  | zero => intro m _; rfl
  | succ n ih =>
    intro m h
    rw [sm] at h
    rw [GG, TW, if_pos (by omega), ih m (by omega), ih (m - a n) (by omega), Nat.mul_add, Nat.mul_comm (TW u v n), Nat.mul_comm (TW u v n), Nat.add_comm]
def nz (c : Nat → Nat) (k : Nat) : Bool := !(c k == 0)
def uC (c : Nat → Nat) (x k : Nat) : Nat := if c k = 0 then 0 else x
def vC (c : Nat → Nat) (x k : Nat) : Nat := if c k = 0 then 1 else 10 - x
theorem ct_s (q : Nat → Bool) (n : Nat) : ct q (n + 1) = ct q n + (if q n then 1 else 0) := rfl
theorem nz_0 {c : Nat → Nat} {k : Nat} (h : c k = 0) : ¬ nz c k = true := by unfold nz; simp [h]
theorem nz_1 {c : Nat → Nat} {k : Nat} (h : ¬ c k = 0) : nz c k = true := by unfold nz; simp [h]
theorem GG_comp (c al : Nat → Nat) (x : Nat) : ∀ n, (∀ j, j < n → c j ≠ 0 → al (ct (nz c) j) = c j) → ∀ m, GG al (fun _ => x) (fun _ => 10 - x) (ct (nz c) n) m = GG c (uC c x) (vC c x) n m := by
  intro n
  induction n with
  | zero => intro _ m; rfl
  | succ n ih =>
    intro h m
    have ih1 := ih (fun j hj => h j (by omega))
    rw [ct_s, GG]
    unfold uC vC
    by_cases e : c n = 0
    · rw [if_neg (nz_0 e), Nat.add_zero, if_pos e, if_pos e, Nat.one_mul, Nat.zero_mul, Nat.add_zero]
      exact ih1 m
    · rw [if_pos (nz_1 e), GG, if_neg e, if_neg e, h n (by omega) e, ih1 m, ih1 (m - c n)]
      rfl
theorem TW_comp (c : Nat → Nat) {x : Nat} (hx : x ≤ 10) : ∀ n, TW (uC c x) (vC c x) n = 10 ^ ct (nz c) n := by
  intro n
  induction n with
  | zero => rfl
  | succ n ih =>
    rw [TW, ih, ct_s]
    unfold uC vC
    by_cases e : c n = 0
    · rw [if_neg (nz_0 e), if_pos e, if_pos e]
      exact Nat.mul_one _
    · rw [if_pos (nz_1 e), if_neg e, if_neg e, Nat.pow_succ, show x + (10 - x) = 10 by omega]
theorem cr_le {P : Nat} {L : Nat → Nat → Nat} (hok : okT P L) (p k : Nat) : cr L p k ≤ 1188 := by
  have h1 : cr L p k ≤ L 0 0 * 99 := sm_bd (L 0 0) (fun j hj => by
    have := (hok.2.2.2 j hj).2.2.2.2
    unfold crf
    split <;> omega)
  have h2 := hok.1
  omega
theorem lay20 {ρ : Type} (f : Nat) {I : FI} {V : FV} {P : Nat} {L : Nat → Nat → Nat} (hP : P ≤ 6) (hok : okT P L) (hM : tM P L I V) {p c : Nat} (hp : p < 6) (hc : c < 6) (k : Int32 → Option ρ) : ∀ n j : Nat, j ≤ L 0 0 → L 0 0 - j < n → M_layAskers_L20 f I V (nI p) (nI c) k n (nI (sm (crf L p c) j)) (nI j) = k (nI (cr L p c)) := by
  obtain ⟨m9, m14, mp, md⟩ := hM
  have hd := hok.1
  intro n
  induction n with
  | zero => intro j h1 h2; omega
  | succ n ih =>
    intro j h1 h2
    rw [M_layAskers_L20, m9]
    by_cases e : j = L 0 0
    · subst e
      rw [if_pos (nI_le (Nat.le_refl _) (by omega))]
      rfl
    · have hj : j < L 0 0 := by omega
      have o1 := hok.2.2.2 j hj
      obtain ⟨d1, d2, d3, d4⟩ := md j hj
      rw [if_neg (nI_ge hj (by omega))]
      simp only [nm, gd_nI (show j < 12 by omega) (show 12 < 2 ^ 31 by decide)]
      simp only [cl_nI (show j < 2 ^ 31 by omega), d1, d2, d3, nI_1, nI_eq (show L 10 j < 2 ^ 31 by omega) (show c < 2 ^ 31 by omega), nI_eq (show L 11 j < 2 ^ 31 by omega) (show p < 2 ^ 31 by omega), nI_add, Int32.add_zero]
      have ih2 := ih (j + 1) (by omega) (by omega)
      rw [sm, crf] at ih2
      by_cases c1 : L 11 j = p
      · rw [if_pos c1]
        by_cases c2 : L 10 j = c
        · rw [if_pos c2]
          rw [if_pos ⟨c1, c2⟩] at ih2
          exact ih2
        · rw [if_neg c2]
          rw [if_neg (fun z => c2 z.2), Nat.add_zero] at ih2
          exact ih2
      · rw [if_neg c1]
        rw [if_neg (fun z => c1 z.1), Nat.add_zero] at ih2
        exact ih2
theorem ct_mono (q : Nat → Bool) : ∀ {k n : Nat}, k ≤ n → ct q k ≤ ct q n := by
  intro k n
  induction n with
  | zero => intro e; rw [show k = 0 by omega]; exact Nat.le_refl _
  | succ n ih =>
    intro e
    by_cases c : k = n + 1
    · rw [c]; exact Nat.le_refl _
    · have := ih (by omega)
      rw [ct_s]
      omega
theorem lay7 {ρ : Type} {f : Nat} (hf : 100 ≤ f) {I : FI} {V : FV} {P : Nat} {L : Nat → Nat → Nat} (hP : P ≤ 6) (hok : okT P L) (i4 : I 4 = nI P) (hM : tM P L I V) {p : Nat} (hp : p < 6) (kk : FI → FV → Option ρ) : ∀ (n k : Nat) (g : Nat → Int32) (al : Nat → Nat), k ≤ P → P - k < n → (∀ i, i < ct (nz (cr L p)) k → g i = nI (al i) ∧ al i ≤ 1188) → (∀ j, j < k → cr L p j ≠ 0 → al (ct (nz (cr L p)) j) = cr L p j) → ∃ (g' : Nat → Int32) (al' : Nat → Nat), M_layAskers_L7 f (nI p) kk n (nI k) (va_up I 37 (nI (ct (nz (cr L p)) k))) (va_up V 36 g) = kk (va_up I 37 (nI (ct (nz (cr L p)) P))) (va_up V 36 g') ∧ (∀ i, i < ct (nz (cr L p)) P → g' i = nI (al' i) ∧ al' i ≤ 1188) ∧ ∀ j, j < P → cr L p j ≠ 0 → al' (ct (nz (cr L p)) j) = cr L p j := by
  intro n
  induction n with
  | zero => intro k g al h1 h2; omega
  | succ n ih =>
    intro k g al h1 h2 h3 h4
    have hI : ∀ x, va_up I 37 x 4 = nI P := fun _ => i4
    have hM1 : ∀ x g, tM P L (va_up I 37 x) (va_up V 36 g) := fun _ _ => hM
    rw [M_layAskers_L7, hI]
    by_cases e : k = P
    · subst e
      exact ⟨g, al, if_pos (nI_le (Nat.le_refl _) (by omega)), h3, h4⟩
    · have hk : k < P := by omega
      have hcn := ct_le (nz (cr L p)) k
      have hb := cr_le hok p k
      have q := lay20 f hP hok (hM1 (nI (ct (nz (cr L p)) k)) g) hp (show k < 6 by omega) (fun (x3_20 : Int32) => (nm (fun (Im_95 : FI) (Vm_95 : FV) => (M_layAskers_L7 f (nI p) kk n (nI k + 1) Im_95 Vm_95)) (fun j95 => (if x3_20 ≤ 0 then (j95 (va_up I 37 (nI (ct (nz (cr L p)) k))) (va_up V 36 g)) else if ((va_up I 37 (nI (ct (nz (cr L p)) k))) 37) < 0 ∨ 6 ≤ ((va_up I 37 (nI (ct (nz (cr L p)) k))) 37).toNatClampNeg then none else (nm (va_up (va_up V 36 g) 36 (upd ((va_up V 36 g) 36) ((va_up I 37 (nI (ct (nz (cr L p)) k))) 37).toNatClampNeg x3_20)) (fun V2 => nm (va_up (va_up I 37 (nI (ct (nz (cr L p)) k))) 37 (((va_up I 37 (nI (ct (nz (cr L p)) k))) 37) + 1)) (fun I3 => (j95 I3 V2)))))))) f 0 (Nat.zero_le _) (by have := hok.1; omega)
      rw [if_neg (nI_ge hk (by omega))]
      by_cases c : cr L p k = 0
      · obtain ⟨g', al', r1, r2, r3⟩ := ih (k + 1) g al (by omega) (by omega) (by rw [ct_s, if_neg (nz_0 c)]; exact h3) (fun j hj hc => by
          by_cases ej : j = k
          · rw [ej] at hc; exact absurd c hc
          · exact h4 j (by omega) hc)
        refine ⟨g', al', ?_, r2, r3⟩
        refine (show M_layAskers_L20 f _ _ (nI p) (nI k) _ f 0 0 = _ from q).trans ?_
        rw [ct_s, if_neg (nz_0 c), Nat.add_zero] at r1
        simp only [nm]
        rw [c, if_pos (by decide), nI_1]
        exact r1
      · obtain ⟨g', al', r1, r2, r3⟩ := ih (k + 1) (upd g (ct (nz (cr L p)) k) (nI (cr L p k))) (va_up al (ct (nz (cr L p)) k) (cr L p k)) (by omega) (by omega) (fun i hi => by
          rw [ct_s, if_pos (nz_1 c)] at hi
          by_cases ei : i = ct (nz (cr L p)) k
          · rw [ei, upd_s, va_up_self]; exact ⟨rfl, hb⟩
          · rw [upd_n _ _ ei, va_up_ne _ _ ei]; exact h3 i (by omega)) (fun j hj hc => by
          by_cases ej : j = k
          · rw [ej, va_up_self]
          · have h5 := ct_mono (nz (cr L p)) (k := j + 1) (n := k) (by omega)
            rw [ct_s, if_pos (nz_1 hc)] at h5
            rw [va_up_ne _ _ (by omega)]
            exact h4 j (by omega) hc)
        refine ⟨g', al', ?_, r2, r3⟩
        refine (show M_layAskers_L20 f _ _ (nI p) (nI k) _ f 0 0 = _ from q).trans ?_
        rw [ct_s, if_pos (nz_1 c)] at r1
        simp only [nm, va_up_self, gd_nI (show ct (nz (cr L p)) k < 6 by omega) (show 6 < 2 ^ 31 by decide)]
        rw [if_neg (nI_nle (by omega) (by omega)), cl_nI (by omega), bx_uu, bx_uu, nI_1, nI_1]
        exact r1
theorem en25 {ρ : Type} (f : Nat) {I : FI} {V : FV} {N x S : Nat} {al : Nat → Nat} (hN : N ≤ 6) (i37 : I 37 = nI N) (hal : ∀ i, i < N → V 36 i = nI (al i)) (hx : x ≤ 10) (hS : S < 64) (k : Int64 → Int32 → Option ρ) : ∀ n i, i ≤ N → N - i < n → M_enoughBy_L25 f I (nI S) V (nI x) k n (lN (ww (fun _ => x) (fun _ => 10 - x) S i)) (nI (aS al S i)) (nI i) = k (lN (ww (fun _ => x) (fun _ => 10 - x) S N)) (nI (aS al S N)) := by
  intro n
  induction n with
  | zero => intro i h1 h2; omega
  | succ n ih =>
    intro i h1 h2
    rw [M_enoughBy_L25, i37]
    by_cases e : i = N
    · subst e
      rw [if_pos (nI_le (Nat.le_refl _) (by omega))]
    · have hi : i < N := by omega
      rw [if_neg (nI_ge hi (by omega)), mhas_eq f hS (by omega), ob1_s]
      simp only [nm, ob1_s, gd_nI (show i < 6 by omega) (show 6 < 2 ^ 31 by decide)]
      simp only [cl_nI (show i < 2 ^ 31 by omega), hal i hi, nI_1, show (10 : Int32) - nI x = nI (10 - x) from pk_sub (a := 10) hx, nI_l (show 10 - x < 2 ^ 31 by omega), nI_l (show x < 2 ^ 31 by omega), lN_mul, nI_add, Int32.add_zero]
      have ih2 := ih (i + 1) (by omega) (by omega)
      rw [aS_s, ww] at ih2
      by_cases c : S.testBit i = true
      · rw [if_pos c, if_neg (by decide), if_neg (by decide)]
        rw [if_pos c, if_pos c] at ih2
        exact ih2
      · rw [if_neg c, if_pos rfl, if_pos rfl]
        rw [if_neg c, if_neg c, Nat.add_zero] at ih2
        exact ih2
theorem en5 {ρ : Type} {f : Nat} (hf : 100 ≤ f) {I : FI} {V : FV} {N x m : Nat} {al : Nat → Nat} (hN : N ≤ 6) (i37 : I 37 = nI N) (hal : ∀ i, i < N → V 36 i = nI (al i) ∧ al i ≤ 1188) (hx : x ≤ 10) (hm : m < 2 ^ 31) (k : Int64 → Option ρ) : ∀ n s, s ≤ 2 ^ N → 2 ^ N - s < n → M_enoughBy_L5 f I V (nI x) (nI m) k n (lN (sm (fun S => if aS al S N ≤ m then ww (fun _ => x) (fun _ => 10 - x) S N else 0) s)) (nI s) = k (lN (GG al (fun _ => x) (fun _ => 10 - x) N m)) := by
  have h2P : (2 : Nat) ^ N ≤ 2 ^ 6 := Nat.pow_le_pow_right (by decide) hN
  intro n
  induction n with
  | zero => intro s h1 h2; omega
  | succ n ih =>
    intro s h1 h2
    rw [M_enoughBy_L5, i37, sh1 N (by omega)]
    by_cases e : s = 2 ^ N
    · rw [if_pos (by rw [e]; exact nI_le (Nat.le_refl _) (by omega)), e, GG_sum]
    · have q := en25 f hN i37 (fun i hi => (hal i hi).1) hx (show s < 64 by omega) (fun (x6_25 : Int64) (x8_25 : Int32) => (nm (fun (t1_104 : Int64) => (M_enoughBy_L5 f I V (nI x) (nI m) k n (lN (sm (fun S => if aS al S N ≤ m then ww (fun _ => x) (fun _ => 10 - x) S N else 0) s) + t1_104) (nI s + 1))) (fun j104 => (if nI m < x8_25 then (j104 0) else (j104 x6_25))))) f 0 (by omega) (by omega)
      have hb := aS_le al (b := 1188) s (n := N) (fun i hi => (hal i hi).2)
      have hb2 : N * 1188 ≤ 6 * 1188 := Nat.mul_le_mul_right _ hN
      rw [if_neg (nI_ge (by omega) (by omega))]
      refine (show M_enoughBy_L25 f I (nI s) V (nI x) _ f 1 0 0 = _ from q).trans ?_
      have ih2 := ih (s + 1) (by omega) (by omega)
      rw [sm] at ih2
      simp only [nm, nI_1]
      by_cases c : aS al s N ≤ m
      · rw [if_neg (fun z => by have := (lt_n (by omega) (by omega)).mp z; omega), lN_add]
        rw [if_pos c] at ih2
        exact ih2
      · rw [if_pos ((lt_n (by omega) (by omega)).mpr (by omega)), Int64.add_zero]
        rw [if_neg c, Nat.add_zero] at ih2
        exact ih2
theorem whole4 {ρ : Type} (f : Nat) {I : FI} {N : Nat} (hN : N ≤ 6) (i37 : I 37 = nI N) (k : Int64 → Option ρ) : ∀ n i, i ≤ N → N - i < n → M_wholeOf_L4 f I k n (lN (10 ^ i)) (nI i) = k (lN (10 ^ N)) := by
  intro n
  induction n with
  | zero => intro i h1 h2; omega
  | succ n ih =>
    intro i h1 h2
    rw [M_wholeOf_L4, i37]
    by_cases e : i = N
    · subst e
      rw [if_pos (nI_le (Nat.le_refl _) (by omega))]
    · rw [if_neg (nI_ge (by omega) (by omega)), show lN (10 ^ i) * 10 = lN (10 ^ (i + 1)) from lN_mul (10 ^ i) 10, nI_1]
      exact ih (i + 1) (by omega) (by omega)
