theorem wish198 {ρ : Type} (f : Nat) {I : FI} {V : FV} {P : Nat} {L : Nat → Nat → Nat} (hP : P ≤ 6) (hM : tM P L I V) {k l z : Nat} (hk : k < 6) (hl : l ≤ 99) (hzl : z ≤ l) (hkz : k < P ∨ z = 0) (R R0 : Nat → Nat) (h1 : ∀ s, s ≤ l → V 34 (100 * (k + 1) + s) = nI (R s)) (h0 : V 34 (100 * k + l) = nI (R0 l)) (hR : ∀ s, R s ≤ 99999) (hR0 : R0 l ≤ 99999) (hok : okT P L) (hz : prW P L k z + R (l - z) = R0 l) (hf1 : ∀ y, y < z → prW P L k y + R (l - y) ≠ R0 l) (kk : Int32 → Option ρ) : ∀ n x, x ≤ z → z - x < n → M_findWish_L198 f (nI k) I V (nI l) kk n (nI x) = kk (nI z) := by
  intro n
  induction n with
  | zero => intro x a1 a2; omega
  | succ n ih =>
    intro x a1 a2
    have hpr := prW_le hok k x (by omega)
    have hRx := hR (l - x)
    rw [M_findWish_L198, price_eq f hP hM hk (by omega) (by omega), ob1_s, ix2 (show x ≤ l by omega), ix1]
    simp only [gd_nI (show 100 * (k + 1) + (l - x) < 700 by omega) (show 700 < 2 ^ 31 by decide), gd_nI (show 100 * k + l < 700 by omega) (show 700 < 2 ^ 31 by decide)]
    simp only [cl_nI (show 100 * (k + 1) + (l - x) < 2 ^ 31 by omega), cl_nI (show 100 * k + l < 2 ^ 31 by omega), h1 (l - x) (by omega), h0, nI_add, nI_1, nI_eq (show prW P L k x + R (l - x) < 2 ^ 31 by omega) (show R0 l < 2 ^ 31 by omega)]
    by_cases e : x = z
    · rw [if_pos (by rw [e]; exact hz), e]
    · rw [if_neg (hf1 x (by omega))]
      exact ih (x + 1) (by omega) (by omega)
theorem least7 {ρ : Type} (f : Nat) {V : FV} {l s lm c : Nat} (hl : l < 6) (hs : s ≤ 99) (hlm : lm ≤ 594) (hc : c ≤ 9) (v1 : V 1 l = nI lm) (R : Nat → Nat) (hR : ∀ t, R t ≤ 1000000) (hrow : ∀ t, t ≤ s → V (10 + (l + 1)) t = nI (R t)) (kk : Int32 → Option ρ) : ∀ n x, x ≤ (if lm < s then lm else s) + 1 → (if lm < s then lm else s) + 1 - x < n → Lnd_leastWith_L7 f (nI s) (nI l) V (nI c) kk n (nI (mn (fun x => (x + 1) / 2 * c + R (s - x)) 1000000 x)) (nI x) = kk (nI (mn (fun x => (x + 1) / 2 * c + R (s - x)) 1000000 ((if lm < s then lm else s) + 1))) := by
  obtain ⟨mo, emo⟩ : ∃ mo, mo = (if lm < s then lm else s) := ⟨_, rfl⟩
  have mo1 : mo ≤ s ∧ mo ≤ lm ∧ (mo = s ∨ mo = lm) := by rw [emo]; split <;> omega
  rw [← emo]
  intro n
  induction n with
  | zero => intro x h1 h2; omega
  | succ n ih =>
    intro x h1 h2
    rw [Lnd_leastWith_L7]
    simp only [nm, gd_nI hl (show 6 < 2 ^ 31 by decide)]
    simp only [cl_nI (show l < 2 ^ 31 by omega), v1, lt_n (show s < 2 ^ 31 by omega) (show x < 2 ^ 31 by omega), lt_n (show lm < 2 ^ 31 by omega) (show x < 2 ^ 31 by omega)]
    by_cases e : x = mo + 1
    · by_cases c1 : s < x
      · rw [if_pos c1, e]
      · rw [if_neg c1, if_pos (by omega), e]
    · have hx : x ≤ mo := by omega
      have hpr : (x + 1) / 2 * c ≤ 50 * 9 := Nat.mul_le_mul (by omega) hc
      have hRx := hR (s - x)
      have hmn := mn_le (fun x => (x + 1) / 2 * c + R (s - x)) 1000000 x
      rw [if_neg (by omega), if_neg (by omega)]
      unfold X_askedFor
      rw [ob1_s, half (show x ≤ 99 by omega), pk_mul, pk_sub (show x ≤ s by omega), nI_1, gd_nI (show l + 1 < 7 by omega) (by decide), gd_nI (show s - x < 100 by omega) (by decide), cl_nI (show l + 1 < 2 ^ 31 by omega), cl_nI (show s - x < 2 ^ 31 by omega), hrow (s - x) (by omega), nI_add, nI_1]
      have ih2 := ih (x + 1) (by omega) (by omega)
      rw [mn] at ih2
      by_cases c : (x + 1) / 2 * c + R (s - x) < mn (fun x => (x + 1) / 2 * c + R (s - x)) 1000000 x
      · rw [if_pos ((lt_n (by omega) (by omega)).mpr c)]
        rw [if_pos (by omega)] at ih2
        exact ih2
      · rw [if_neg (fun q => c ((lt_n (by omega) (by omega)).mp q))]
        rw [if_neg (by omega)] at ih2
        exact ih2
theorem lrow_p {P : Nat} {L : Nat → Nat → Nat} (p F : Nat) {k : Nat} (hP : P ≤ 6) (hk : k < P) (t : Nat) : lrow (prW P L) (lmW P L p) F k t = mn (fun x => (x + 1) / 2 * L 6 k + lrow (prW P L) (lmW P L p) F (k + 1) (t - x)) F ((if lmW P L p k < t then lmW P L p k else t) + 1) := by
  rw [lrow_eq _ _ _ (by omega)]
  have : ∀ x, prW P L k x = (x + 1) / 2 * L 6 k := fun x => if_pos hk
  simp only [this]
theorem weigh106 {ρ : Type} {f : Nat} (hf : 1000 ≤ f) {Vg : FV} {Il : FI} {P : Nat} {L : Nat → Nat → Nat} (hP : P ≤ 6) (hok : okT P L) {p l a : Nat} (hl : l < P) (ha : a ≤ 99) (g6 : Vg 6 l = nI (L 6 l)) (kk : FV → Option ρ) : ∀ (n s : Nat) (V : FV), s ≤ a + 1 → a + 1 - s < n → V 1 l = nI (lmW P L p l) → (∀ t, t ≤ a → V (10 + (l + 1)) t = nI (lrow (prW P L) (lmW P L p) 1000000 (l + 1) t)) → (∀ t, t < s → V (10 + l) t = nI (lrow (prW P L) (lmW P L p) 1000000 l t)) → ∃ V', Lnd_weigh_L106 f (nI a) (nI l) Vg Il kk n (nI s) V = kk V' ∧ (∀ r, r ≠ 10 + l → V' r = V r) ∧ ∀ t, t ≤ a → V' (10 + l) t = nI (lrow (prW P L) (lmW P L p) 1000000 l t) := by
  intro n
  induction n with
  | zero => intro s V h1 h2; omega
  | succ n ih =>
    intro s V h1 h2 h3 h4 h5
    rw [Lnd_weigh_L106]
    by_cases e : s = a + 1
    · exact ⟨V, if_pos ((lt_n (by omega) (by omega)).mpr (by omega)), fun _ _ => rfl, fun t ht => h5 t (by omega)⟩
    · have hs : s ≤ a := by omega
      rw [if_neg (fun q => by have := (lt_n (by omega) (by omega)).mp q; omega), if_neg (show ¬ (100 : Int32) ≤ nI s from nI_ge (b := 100) (by omega) (by decide))]
      simp only [nm, gd_nI (show l < 6 by omega) (show 6 < 2 ^ 31 by decide), gd_nI (show l < 7 by omega) (show 7 < 2 ^ 31 by decide), gd_nI (show s < 100 by omega) (show 100 < 2 ^ 31 by decide)]
      simp only [cl_nI (show l < 2 ^ 31 by omega), cl_nI (show s < 2 ^ 31 by omega), g6, nI_1]
      have hlw : Lnd_leastWith f (nI l) (nI (L 6 l)) (nI s) Il V = some (nI (lrow (prW P L) (lmW P L p) 1000000 l s)) := by
        rw [lrow_p p 1000000 hP hl]
        exact least7 f (by omega) (by omega) (lmW_le hok p l) (hok.2.2.1 l hl).1 h3 (lrow (prW P L) (lmW P L p) 1000000 (l + 1)) (fun t => lrow_le _ _ _ _ _) (fun t ht => h4 t (by omega)) (fun x => some x) f 0 (by omega) (by
          have := lmW_le hok p l
          split <;> omega)
      rw [hlw, ob1_s]
      obtain ⟨V', r1, r2, r3⟩ := ih (s + 1) (va_up V (10 + l) (upd (V (10 + l)) s (nI (lrow (prW P L) (lmW P L p) 1000000 l s)))) (by omega) (by omega) (by rw [va_up_ne _ _ (show 1 ≠ 10 + l by omega)]; exact h3) (fun t ht => by rw [va_up_ne _ _ (show 10 + (l + 1) ≠ 10 + l by omega)]; exact h4 t ht) (fun t ht => by
        rw [va_up_self]
        by_cases et : t = s
        · rw [et, upd_s]
        · rw [upd_n _ _ et]; exact h5 t (by omega))
      refine ⟨V', r1, fun r hr => ?_, r3⟩
      rw [r2 r hr, va_up_ne _ _ hr]
theorem weigh53 {ρ : Type} {f : Nat} (hf : 1000 ≤ f) {I : FI} {Vg : FV} {Il : FI} {P : Nat} {L : Nat → Nat → Nat} (hP : P ≤ 6) (hok : okT P L) (hL : tL P L I Vg) {p a : Nat} (hp : p < 6) (ha : a ≤ 99) (kk : FV → Option ρ) : ∀ (n i : Nat) (V : FV), i ≤ P → i < n → (∀ k, i ≤ k → k ≤ P → ∀ t, t ≤ a → V (10 + k) t = nI (lrow (prW P L) (lmW P L p) 1000000 k t)) → (∀ k, i ≤ k → k < P → V 1 k = nI (lmW P L p k)) → ∃ V', Lnd_weigh_L53 f (nI a) Vg Il (nI p) I kk n (nI i - 1) V = kk V' ∧ (∀ k, k ≤ P → ∀ t, t ≤ a → V' (10 + k) t = nI (lrow (prW P L) (lmW P L p) 1000000 k t)) ∧ ∀ k, k < P → V' 1 k = nI (lmW P L p k) := by
  intro n
  induction n with
  | zero => intro i V h1 h2; omega
  | succ n ih =>
    intro i V h1 h2 h3 h4
    rw [Lnd_weigh_L53]
    rcases i with _ | i
    · exact ⟨V, if_pos (by decide), fun k hk => h3 k (Nat.zero_le _) hk, fun k hk => h4 k (Nat.zero_le _) hk⟩
    · have hi : i < P := by omega
      obtain ⟨g5, g6⟩ := hL.2.2.2.2.2.1 i hi
      have o1 := hok.2.2.1 i hi
      rw [nI_pred, if_neg (nI_pos (by omega)), alive_eq f hP hL hi]
      simp only [nm, ob1_s, gd_nI (show i < 6 by omega) (show 6 < 2 ^ 31 by decide)]
      simp only [cl_nI (show i < 2 ^ 31 by omega), g5, nI_eq (show i < 2 ^ 31 by omega) (show p < 2 ^ 31 by omega)]
      obtain ⟨V', r1, r2, r3⟩ := weigh106 hf (Il := Il) hP hok (p := p) hi ha g6 (fun (Vlnd_106 : FV) => (Lnd_weigh_L53 f (nI a) Vg Il (nI p) I kk n (nI i + (-1)) Vlnd_106)) f 0 (va_up V 1 (upd (V 1) i (nI (lmW P L p i)))) (by omega) (by omega) (by rw [va_up_self, upd_s]) (fun t ht => by rw [va_up_ne _ _ (show 10 + (i + 1) ≠ 1 by omega)]; exact h3 (i + 1) (Nat.le_refl _) (by omega) t ht) (fun t ht => absurd ht (Nat.not_lt_zero _))
      obtain ⟨V2, s1, s2, s3⟩ := ih i V' (by omega) (by omega) (fun k hk1 hk2 t ht => by
        by_cases ek : k = i
        · rw [ek]; exact r3 t ht
        · rw [r2 _ (show 10 + k ≠ 10 + i by omega), va_up_ne _ _ (show 10 + k ≠ 1 by omega)]; exact h3 k (by omega) hk2 t ht) (fun k hk1 hk2 => by
        rw [r2 1 (by omega), va_up_self]
        by_cases ek : k = i
        · rw [ek, upd_s]
        · rw [upd_n _ _ ek]; exact h4 k (by omega) hk2)
      refine ⟨V2, ?_, s2, s3⟩
      rw [Int32.sub_eq_add_neg] at s1
      refine Eq.trans ?_ (r1.trans s1)
      by_cases c2 : i = p
      · have e0 : lmW P L p i = 0 := if_neg (fun q => q.2.1 c2)
        rw [if_pos c2, if_pos trivial, e0]
        rfl
      · rw [if_neg c2]
        by_cases c3 : L 7 i = 0
        · have e0 : lmW P L p i = L 5 i := if_pos ⟨hi, c2, c3⟩
          rw [if_pos c3, if_neg (by decide), if_neg (by decide), e0]
          rfl
        · have e0 : lmW P L p i = 0 := if_neg (fun q => c3 q.2.2)
          rw [if_neg c3, if_pos rfl, if_pos trivial, e0]
          rfl
theorem weigh3 {ρ : Type} (f : Nat) {I : FI} {P : Nat} (hP : P ≤ 6) (l0 : I 0 = nI P) {a : Nat} (ha : a ≤ 99) (kk : FV → Option ρ) : ∀ (n t : Nat) (V : FV), t ≤ a + 1 → a + 1 - t < n → (∀ s, s < t → V (10 + P) s = nI (if s = 0 then 0 else 1000000)) → ∃ V', Lnd_weigh_L3 f (nI a) I kk n (nI t) V = kk V' ∧ ∀ s, s ≤ a → V' (10 + P) s = nI (if s = 0 then 0 else 1000000) := by
  intro n
  induction n with
  | zero => intro t V h1 h2; omega
  | succ n ih =>
    intro t V h1 h2 h4
    rw [Lnd_weigh_L3]
    by_cases e : t = a + 1
    · exact ⟨V, if_pos ((lt_n (by omega) (by omega)).mpr (by omega)), fun s hs => h4 s (by omega)⟩
    · have ht : t ≤ a := by omega
      rw [if_neg (fun q => by have := (lt_n (by omega) (by omega)).mp q; omega), if_neg (show ¬ (100 : Int32) ≤ nI t from nI_ge (b := 100) (by omega) (by decide)), l0]
      simp only [nm, gd_nI (show P < 7 by omega) (show 7 < 2 ^ 31 by decide), gd_nI (show t < 100 by omega) (show 100 < 2 ^ 31 by decide)]
      simp only [cl_nI (show P < 2 ^ 31 by omega), cl_nI (show t < 2 ^ 31 by omega), nI_1]
      obtain ⟨V', r1, r2⟩ := ih (t + 1) (va_up V (10 + P) (upd (V (10 + P)) t (nI (if t = 0 then 0 else 1000000)))) (by omega) (by omega) (fun s hs => by
        rw [va_up_self]
        by_cases es : s = t
        · rw [es, upd_s]
        · rw [upd_n _ _ es]; exact h4 s (by omega))
      refine ⟨V', ?_, r2⟩
      rw [← r1]
      have e0 : (nI t = 0) ↔ t = 0 := by rw [← nI_0]; exact nI_eq (by omega) (by omega)
      by_cases c : t = 0
      · rw [if_pos (e0.mpr c), if_pos c]
        rfl
      · rw [if_neg (fun q => c (e0.mp q)), if_neg c]
        rfl
theorem weigh_eq {f : Nat} (hf : 1000 ≤ f) {I Il : FI} {Vg : FV} (Vl : FV) {P : Nat} {L : Nat → Nat → Nat} (hP : P ≤ 6) (hok : okT P L) (hL : tL P L I Vg) {p a : Nat} (hp : p < 6) (ha : a ≤ 99) : ∃ V', Lnd_weigh f (nI p) (nI a) Il Vl I Vg = some V' ∧ (∀ k, k ≤ P → ∀ t, t ≤ a → V' (10 + k) t = nI (lrow (prW P L) (lmW P L p) 1000000 k t)) ∧ ∀ k, k < P → V' 1 k = nI (lmW P L p k) := by
  obtain ⟨V1, a1, a2⟩ := weigh3 f hP hL.1 ha (fun (Vlnd_3 : FV) => (Lnd_weigh_L53 f (nI a) Vg Il (nI p) I (fun (Vlnd_53 : FV) => some Vlnd_53) f ((I 0) - 1) Vlnd_3)) f 0 Vl (by omega) (by omega) (fun s hs => absurd hs (Nat.not_lt_zero _))
  obtain ⟨V2, b1, b2, b3⟩ := weigh53 hf (Il := Il) hP hok hL hp ha (fun (Vlnd_53 : FV) => some Vlnd_53) f P V1 (Nat.le_refl _) (by omega) (fun k hk1 hk2 t ht => by
    have ek : k = P := by omega
    rw [ek, a2 t ht]
    unfold lrow
    rw [lrow_base 1000000 (fun k hk => lmW_out p k hk) t (6 - P) (by omega)]) (fun k hk1 hk2 => by omega)
  refine ⟨V2, ?_, b2, b3⟩
  rw [← b1, ← hL.1]
  exact a1
theorem few3 (f : Nat) {V : FV} {l s lm c z : Nat} (hl : l < 6) (hs : s ≤ 99) (hlm : lm ≤ 594) (hc : c ≤ 9) (v1 : V 1 l = nI lm) (R R0 : Nat → Nat) (hR : ∀ t, R t ≤ 1000000) (hR0 : R0 s ≤ 1000000) (hrow : ∀ t, t ≤ s → V (10 + (l + 1)) t = nI (R t)) (hrow0 : V (10 + l) s = nI (R0 s)) (hz1 : z ≤ s) (hz2 : z ≤ lm) (hz : (z + 1) / 2 * c + R (s - z) = R0 s) (hf1 : ∀ y, y < z → (y + 1) / 2 * c + R (s - y) ≠ R0 s) (kk : Unit → Option Int32) : ∀ n x, x ≤ z → z - x < n → Lnd_fewestOf_L3 f (nI s) (nI l) V (nI c) kk n (nI x) = some (nI z) := by
  intro n
  induction n with
  | zero => intro x h1 h2; omega
  | succ n ih =>
    intro x h1 h2
    have hpr : (x + 1) / 2 * c ≤ 50 * 9 := Nat.mul_le_mul (by omega) hc
    have hRx := hR (s - x)
    rw [Lnd_fewestOf_L3]
    simp only [gd_nI hl (show 6 < 2 ^ 31 by decide)]
    simp only [cl_nI (show l < 2 ^ 31 by omega), v1, lt_n (show s < 2 ^ 31 by omega) (show x < 2 ^ 31 by omega), lt_n (show lm < 2 ^ 31 by omega) (show x < 2 ^ 31 by omega)]
    rw [if_neg (by omega), if_neg (by omega)]
    unfold X_askedFor
    rw [ob1_s, half (show x ≤ 99 by omega), pk_mul, pk_sub (show x ≤ s by omega), nI_1, gd_nI (show l + 1 < 7 by omega) (by decide), gd_nI (show s - x < 100 by omega) (by decide), if_neg (show ¬ (nI l < 0 ∨ 7 ≤ l) from fun z => z.elim (nI_pos (by omega)) (by omega)), gd_nI (show s < 100 by omega) (by decide), cl_nI (show l + 1 < 2 ^ 31 by omega), cl_nI (show s - x < 2 ^ 31 by omega), cl_nI (show s < 2 ^ 31 by omega), hrow (s - x) (by omega), hrow0, nI_add, nI_1]
    by_cases e : x = z
    · rw [if_pos (by rw [e, hz]), e]
    · rw [if_neg (fun q => hf1 x (by omega) (nI_inj (by omega) (by omega) q))]
      exact ih (x + 1) (by omega) (by omega)
