theorem upd_u (g : Nat → Int32) (k : Nat) (x y : Int32) : upd (upd g k x) k y = upd g k y := by
  funext j
  by_cases e : j = k
  · subst e; rw [upd_s, upd_s]
  · rw [upd_n _ _ e, upd_n _ _ e, upd_n _ _ e]
/-- the least of F and the first n -/
def mn (G : Nat → Nat) (F : Nat) : Nat → Nat
  | 0 => F
  | n + 1 => if G n < mn G F n then G n else mn G F n
theorem mn_le (G : Nat → Nat) (F : Nat) : ∀ n, mn G F n ≤ F
  | 0 => Nat.le_refl _
  | n + 1 => by have := mn_le G F n; rw [mn]; split <;> omega
theorem mn_le_G (G : Nat → Nat) (F : Nat) : ∀ n i, i < n → mn G F n ≤ G i := by
  intro n
  induction n with
  | zero => intro i h; omega
  | succ n ih =>
    intro i h
    rw [mn]
    by_cases e : i = n
    · subst e; split <;> omega
    · have := ih i (by omega)
      split <;> omega
theorem mn_first (G : Nat → Nat) (F : Nat) : ∀ n, mn G F n = F ∨ ∃ i, i < n ∧ G i = mn G F n ∧ ∀ j, j < i → G j ≠ mn G F n := by
  intro n
  induction n with
  | zero => exact Or.inl rfl
  | succ n ih =>
    rw [mn]
    by_cases c : G n < mn G F n
    · rw [if_pos c]
      refine Or.inr ⟨n, by omega, rfl, fun j hj e => ?_⟩
      have := mn_le_G G F n j hj
      omega
    · rw [if_neg c]
      rcases ih with h | ⟨i, h1, h2, h3⟩
      · exact Or.inl h
      · exact Or.inr ⟨i, by omega, h2, h3⟩
def Wr (pr : Nat → Nat → Nat) (lim : Nat → Nat) (F : Nat) : Nat → Nat → Nat
  | 0, t => if t = 0 then 0 else F
  | m + 1, t => mn (fun x => pr (5 - m) x + Wr pr lim F m (t - x)) F ((if lim (5 - m) < t then lim (5 - m) else t) + 1)
def lrow (pr : Nat → Nat → Nat) (lim : Nat → Nat) (F k t : Nat) : Nat := Wr pr lim F (6 - k) t
theorem lrow_eq (pr : Nat → Nat → Nat) (lim : Nat → Nat) (F : Nat) {k : Nat} (hk : k < 6) (t : Nat) : lrow pr lim F k t = mn (fun x => pr k x + lrow pr lim F (k + 1) (t - x)) F ((if lim k < t then lim k else t) + 1) := by
  unfold lrow
  rw [show 6 - k = (5 - k) + 1 by omega, Wr, show 5 - (5 - k) = k by omega, show 6 - (k + 1) = 5 - k by omega]
theorem Wr_le (pr : Nat → Nat → Nat) (lim : Nat → Nat) (F : Nat) : ∀ m t, Wr pr lim F m t ≤ F
  | 0, t => by rw [Wr]; split <;> omega
  | m + 1, t => by rw [Wr]; exact mn_le _ _ _
theorem lrow_le (pr : Nat → Nat → Nat) (lim : Nat → Nat) (F k t : Nat) : lrow pr lim F k t ≤ F := Wr_le _ _ _ _ _
def RS (B a b : Nat) : Prop := (a = b ∧ a ≤ B) ∨ (a = 99999 ∧ b = 1000000)
theorem mn_rel {G G' : Nat → Nat} {B : Nat} (hB : B < 99999) : ∀ n, (∀ x, x < n → (G x = G' x ∧ G x ≤ B) ∨ (99999 ≤ G x ∧ 1000000 ≤ G' x)) → RS B (mn G 99999 n) (mn G' 1000000 n)
  | 0, _ => Or.inr ⟨rfl, rfl⟩
  | n + 1, h => by
    have h1 := mn_rel hB n (fun x hx => h x (by omega))
    have h2 := h n (by omega)
    unfold RS at *
    rw [mn, mn]
    split <;> split <;> omega
theorem Wr_rel {pr : Nat → Nat → Nat} (lim : Nat → Nat) (hpr : ∀ k x, x ≤ 99 → pr k x ≤ 450) : ∀ m t, m ≤ 6 → t ≤ 99 → RS (450 * m) (Wr pr lim 99999 m t) (Wr pr lim 1000000 m t) := by
  intro m
  induction m with
  | zero =>
    intro t _ _
    rw [Wr, Wr]
    unfold RS
    split <;> omega
  | succ m ih =>
    intro t hm ht
    rw [Wr, Wr]
    refine mn_rel (by omega) _ (fun x hx => ?_)
    have h1 := ih (t - x) (by omega) (by omega)
    have h3 : (if lim (5 - m) < t then lim (5 - m) else t) ≤ t := by split <;> omega
    have h2 := hpr (5 - m) x (by omega)
    unfold RS at h1
    omega
theorem lrow_rel {pr : Nat → Nat → Nat} (lim : Nat → Nat) (hpr : ∀ k x, x ≤ 99 → pr k x ≤ 450) (k t : Nat) (ht : t ≤ 99) : RS 2700 (lrow pr lim 99999 k t) (lrow pr lim 1000000 k t) := by
  have := Wr_rel lim hpr (6 - k) t (by omega) ht
  unfold RS lrow at *
  omega
theorem lrow_base {pr : Nat → Nat → Nat} {lim : Nat → Nat} {P : Nat} (F : Nat) (h : ∀ k, P ≤ k → lim k = 0 ∧ pr k 0 = 0) (t : Nat) : ∀ m, m + P ≤ 6 → Wr pr lim F m t = if t = 0 then 0 else F
  | 0, _ => rfl
  | m + 1, hm => by
    have ih := lrow_base F h t m (by omega)
    obtain ⟨h1, h2⟩ := h (5 - m) (by omega)
    have e : (if lim (5 - m) < t then lim (5 - m) else t) = 0 := by rw [h1]; split <;> omega
    rw [Wr, e, mn, mn, Nat.sub_zero, h2, ih]
    by_cases c : t = 0
    · rw [if_pos c]; split <;> omega
    · rw [if_neg c]; split <;> omega
/-- what each asks, and how much each may lend -/
def prW (P : Nat) (L : Nat → Nat → Nat) (k x : Nat) : Nat := if k < P then (x + 1) / 2 * L 6 k else 0
def lmW (P : Nat) (L : Nat → Nat → Nat) (p k : Nat) : Nat := if k < P ∧ k ≠ p ∧ L 7 k = 0 then L 5 k else 0
theorem prW_le {P : Nat} {L : Nat → Nat → Nat} (hok : okT P L) (k x : Nat) (hx : x ≤ 99) : prW P L k x ≤ 450 := by
  unfold prW
  by_cases c : k < P
  · rw [if_pos c]
    have := Nat.mul_le_mul (show (x + 1) / 2 ≤ 50 by omega) (hok.2.2.1 k c).1
    omega
  · rw [if_neg c]; omega
theorem lmW_out {P : Nat} {L : Nat → Nat → Nat} (p : Nat) (k : Nat) (h : P ≤ k) : lmW P L p k = 0 ∧ prW P L k 0 = 0 := by
  unfold lmW prW
  exact ⟨if_neg (fun q => by omega), if_neg (by omega)⟩
theorem lmW_le {P : Nat} {L : Nat → Nat → Nat} (hok : okT P L) (p k : Nat) : lmW P L p k ≤ 594 := by
  unfold lmW
  by_cases c : k < P ∧ k ≠ p ∧ L 7 k = 0
  · rw [if_pos c]
    have := sm_le (L 5) P k c.1
    have := hok.2.1
    omega
  · rw [if_neg c]; omega
theorem half {x : Nat} (hx : x ≤ 99) : (nI x + 1) / 2 = nI ((x + 1) / 2) := by
  rw [nI_1]
  exact pk_div (d := 2) (by omega) (by decide) (by decide)
theorem price_eq (f : Nat) {I : FI} {V : FV} {P : Nat} {L : Nat → Nat → Nat} (hP : P ≤ 6) (hM : tM P L I V) {k x : Nat} (hk : k < 6) (hx : x ≤ 99) (hkx : k < P ∨ x = 0) : M_priceOf f (nI k) (nI x) I V = some (nI (prW P L k x)) := by
  unfold M_priceOf prW
  rw [gd_nI hk (by decide), cl_nI (by omega), half hx]
  by_cases c : k < P
  · rw [if_pos c, (hM.2.2.1 k c).2.1, pk_mul, Nat.mul_comm]
  · have e : x = 0 := by omega
    rw [if_neg c, e]
    show some (V 6 k * nI 0) = some (nI 0)
    rw [nI_0, Int32.mul_zero]
theorem most_eq (f : Nat) {I : FI} {V : FV} {P : Nat} {L : Nat → Nat → Nat} (hP : P ≤ 6) (hok : okT P L) (i4 : I 4 = nI P) (hM : tM P L I V) {k p t : Nat} (hk : k < 6) (hp : p < 6) (ht : t ≤ 99) : M_mostOf f (nI k) (nI p) (nI t) I V = some (nI (if lmW P L p k < t then lmW P L p k else t)) := by
  have hl := lmW_le hok p k
  have fin : ∀ h : Nat, h ≤ 594 → (if nI t ≤ nI h then some (nI t) else some (nI h)) = some (nI (if h < t then h else t)) := by
    intro h hh
    by_cases c : h < t
    · rw [if_neg (fun q => by have := (le_n (by omega) (by omega)).mp q; omega), if_pos c]
    · rw [if_pos ((le_n (by omega) (by omega)).mpr (by omega)), if_neg c]
  unfold M_mostOf
  simp only [nm]
  rw [i4]
  by_cases c1 : k < P
  · obtain ⟨b1, b2, b3, b4⟩ := hM.2.2.1 k c1
    have o1 := hok.2.2.1 k c1
    rw [if_neg (nI_ge c1 (by omega))]
    simp only [gd_nI hk (show 6 < 2 ^ 31 by decide)]
    simp only [cl_nI (show k < 2 ^ 31 by omega), b1, b3, nI_eq (show k < 2 ^ 31 by omega) (show p < 2 ^ 31 by omega)]
    have e7 : (nI (L 7 k) = 0) ↔ L 7 k = 0 := by rw [← nI_0]; exact nI_eq (by omega) (by omega)
    by_cases c2 : k = p
    · rw [if_pos c2]
      have : lmW P L p k = 0 := if_neg (fun q => q.2.1 c2)
      rw [this]
      exact fin 0 (by omega)
    · rw [if_neg c2]
      by_cases c3 : L 7 k = 0
      · rw [if_pos (e7.mpr c3)]
        have : lmW P L p k = L 5 k := if_pos ⟨c1, c2, c3⟩
        rw [this] at hl ⊢
        exact fin _ hl
      · rw [if_neg (fun q => c3 (e7.mp q))]
        have : lmW P L p k = 0 := if_neg (fun q => c3 q.2.2)
        rw [this]
        exact fin 0 (by omega)
  · rw [if_pos ((le_n (by omega) (by omega)).mpr (by omega))]
    have : lmW P L p k = 0 := if_neg (fun q => c1 q.1)
    rw [this]
    exact fin 0 (by omega)
theorem ix2 {k t x : Nat} (h : x ≤ t) : ((100 * (nI k + 1)) + nI t) - nI x = nI (100 * (k + 1) + (t - x)) := by
  rw [nI_1, show (100 : Int32) = nI 100 from rfl, pk_mul, nI_add, pk_sub (by omega)]
  congr 1
  omega
theorem ix1 (k t : Nat) : (100 * nI k) + nI t = nI (100 * k + t) := by
  rw [show (100 : Int32) = nI 100 from rfl, pk_mul, nI_add]
theorem wish65 {ρ : Type} (f : Nat) {I : FI} {V : FV} {P : Nat} {L : Nat → Nat → Nat} (hP : P ≤ 6) (hok : okT P L) (i4 : I 4 = nI P) (hM : tM P L I V) {p k t : Nat} (hp : p < 6) (hk : k < 6) (ht : t ≤ 99) (R : Nat → Nat) (hR : ∀ s, R s ≤ 99999) (h : Nat → Int32) (hrow : ∀ s, s ≤ t → h (100 * (k + 1) + s) = nI (R s)) (kk : FV → Option ρ) : ∀ n x, x ≤ (if lmW P L p k < t then lmW P L p k else t) + 1 → (if lmW P L p k < t then lmW P L p k else t) + 1 - x < n → M_findWish_L65 f (nI k) (nI p) (nI t) I kk n (nI x) (va_up V 34 (upd h (100 * k + t) (nI (mn (fun x => prW P L k x + R (t - x)) 99999 x)))) = kk (va_up V 34 (upd h (100 * k + t) (nI (mn (fun x => prW P L k x + R (t - x)) 99999 ((if lmW P L p k < t then lmW P L p k else t) + 1))))) := by
  have hmo : ∀ g, M_mostOf f (nI k) (nI p) (nI t) I (va_up V 34 g) = some (nI (if lmW P L p k < t then lmW P L p k else t)) := fun g => most_eq f (V := va_up V 34 g) hP hok i4 hM hk hp ht
  obtain ⟨mo, emo⟩ : ∃ mo, mo = (if lmW P L p k < t then lmW P L p k else t) := ⟨_, rfl⟩
  have mo1 : mo ≤ t := by rw [emo]; split <;> omega
  have mo2 : ¬ k < P → mo = 0 := by
    intro c
    have : lmW P L p k = 0 := if_neg (fun q => c q.1)
    rw [emo, this]; split <;> omega
  rw [← emo] at hmo ⊢
  intro n
  induction n with
  | zero => intro x h1 h2; omega
  | succ n ih =>
    intro x h1 h2
    rw [M_findWish_L65, hmo, ob1_s]
    by_cases e : x = mo + 1
    · rw [if_pos ((lt_n (by omega) (by omega)).mpr (by omega)), e]
    · have hx : x ≤ mo := by omega
      have hpr := prW_le hok k x (by omega)
      have hRx := hR (t - x)
      have hmn := mn_le (fun x => prW P L k x + R (t - x)) 99999 x
      rw [if_neg (fun q => by have := (lt_n (by omega) (by omega)).mp q; omega), price_eq f (V := va_up V 34 _) hP hM hk (by omega) (by
        by_cases c : k < P
        · exact Or.inl c
        · right; have := mo2 c; omega), ob1_s, ix2 (show x ≤ t by omega), ix1]
      simp only [nm, gd_nI (show 100 * (k + 1) + (t - x) < 700 by omega) (show 700 < 2 ^ 31 by decide), gd_nI (show 100 * k + t < 700 by omega) (show 700 < 2 ^ 31 by decide)]
      simp only [cl_nI (show 100 * (k + 1) + (t - x) < 2 ^ 31 by omega), cl_nI (show 100 * k + t < 2 ^ 31 by omega), va_up_self, bx_uu, upd_s, upd_u, upd_n _ _ (show 100 * (k + 1) + (t - x) ≠ 100 * k + t by omega), hrow (t - x) (by omega), nI_add, nI_1, le_n (show mn (fun x => prW P L k x + R (t - x)) 99999 x < 2 ^ 31 by omega) (show prW P L k x + R (t - x) < 2 ^ 31 by omega)]
      have ih2 := ih (x + 1) (by omega) (by omega)
      rw [mn] at ih2
      by_cases c : mn (fun x => prW P L k x + R (t - x)) 99999 x ≤ prW P L k x + R (t - x)
      · rw [if_pos c]
        rw [if_neg (by omega)] at ih2
        exact ih2
      · rw [if_neg c]
        rw [if_pos (by omega)] at ih2
        exact ih2
theorem wish42 {ρ : Type} {f : Nat} (hf : 1000 ≤ f) {I : FI} {V : FV} {P : Nat} {L : Nat → Nat → Nat} (hP : P ≤ 6) (hok : okT P L) (i4 : I 4 = nI P) (hM : tM P L I V) {p k a : Nat} (hp : p < 6) (hk : k < 6) (ha : a ≤ 99) (kk : FV → Option ρ) : ∀ (n t : Nat) (h : Nat → Int32), t ≤ a + 1 → a + 1 - t < n → (∀ s, s ≤ a → h (100 * (k + 1) + s) = nI (lrow (prW P L) (lmW P L p) 99999 (k + 1) s)) → (∀ s, s < t → h (100 * k + s) = nI (lrow (prW P L) (lmW P L p) 99999 k s)) → ∃ h', M_findWish_L42 f (nI a) (nI k) (nI p) I kk n (nI t) (va_up V 34 h) = kk (va_up V 34 h') ∧ (∀ s, s ≤ a → h' (100 * k + s) = nI (lrow (prW P L) (lmW P L p) 99999 k s)) ∧ ∀ j, 100 * (k + 1) ≤ j → h' j = h j := by
  intro n
  induction n with
  | zero => intro t h h1 h2; omega
  | succ n ih =>
    intro t h h1 h2 h3 h4
    rw [M_findWish_L42]
    by_cases e : t = a + 1
    · exact ⟨h, if_pos ((lt_n (by omega) (by omega)).mpr (by omega)), fun s hs => h4 s (by omega), fun _ _ => rfl⟩
    · have ht : t ≤ a := by omega
      rw [if_neg (fun q => by have := (lt_n (by omega) (by omega)).mp q; omega), ix1]
      simp only [nm, gd_nI (show 100 * k + t < 700 by omega) (show 700 < 2 ^ 31 by decide)]
      simp only [cl_nI (show 100 * k + t < 2 ^ 31 by omega), va_up_self, bx_uu, nI_1]
      have q := wish65 f hP hok i4 hM hp hk (show t ≤ 99 by omega) (lrow (prW P L) (lmW P L p) 99999 (k + 1)) (fun s => lrow_le _ _ _ _ _) h (fun s hs => h3 s (by omega)) (fun (Vm_65 : FV) => (M_findWish_L42 f (nI a) (nI k) (nI p) I kk n (nI (t + 1)) Vm_65)) f 0 (by omega) (by
        have := lmW_le hok p k
        split <;> omega)
      rw [← lrow_eq _ _ _ hk] at q
      obtain ⟨h', r1, r2, r3⟩ := ih (t + 1) (upd h (100 * k + t) (nI (lrow (prW P L) (lmW P L p) 99999 k t))) (by omega) (by omega) (fun s hs => by rw [upd_n _ _ (show 100 * (k + 1) + s ≠ 100 * k + t by omega)]; exact h3 s hs) (fun s hs => by
        by_cases es : s = t
        · rw [es, upd_s]
        · rw [upd_n _ _ (show 100 * k + s ≠ 100 * k + t by omega)]; exact h4 s (by omega))
      refine ⟨h', ?_, r2, fun j hj => ?_⟩
      · exact q.trans r1
      · rw [r3 j hj, upd_n _ _ (show j ≠ 100 * k + t by omega)]
theorem wish35 {ρ : Type} {f : Nat} (hf : 1000 ≤ f) {I : FI} {V : FV} {P : Nat} {L : Nat → Nat → Nat} (hP : P ≤ 6) (hok : okT P L) (i4 : I 4 = nI P) (hM : tM P L I V) {p a : Nat} (hp : p < 6) (ha : a ≤ 99) (kk : FV → Option ρ) : ∀ (n i : Nat) (h : Nat → Int32), i ≤ 6 → i < n → (∀ k, i ≤ k → k ≤ 6 → ∀ s, s ≤ a → h (100 * k + s) = nI (lrow (prW P L) (lmW P L p) 99999 k s)) → ∃ h', M_findWish_L35 f (nI a) (nI p) I kk n (nI i - 1) (va_up V 34 h) = kk (va_up V 34 h') ∧ ∀ k, k ≤ 6 → ∀ s, s ≤ a → h' (100 * k + s) = nI (lrow (prW P L) (lmW P L p) 99999 k s) := by
  intro n
  induction n with
  | zero => intro i h h1 h2; omega
  | succ n ih =>
    intro i h h1 h2 h3
    rw [M_findWish_L35]
    rcases i with _ | i
    · exact ⟨h, if_pos (by decide), fun k hk => h3 k (Nat.zero_le _) hk⟩
    · rw [nI_pred, if_neg (nI_pos (by omega))]
      obtain ⟨h', r1, r2, r3⟩ := wish42 hf hP hok i4 hM hp (show i < 6 by omega) ha (fun (Vm_42 : FV) => (M_findWish_L35 f (nI a) (nI p) I kk n (nI i + (-1)) Vm_42)) f 0 h (by omega) (by omega) (fun s hs => h3 (i + 1) (Nat.le_refl _) (by omega) s hs) (fun s hs => absurd hs (Nat.not_lt_zero _))
      obtain ⟨h2', s1, s2⟩ := ih i h' (by omega) (by omega) (fun k hk1 hk2 s hs => by
        by_cases ek : k = i
        · rw [ek]; exact r2 s hs
        · rw [r3 _ (by omega)]; exact h3 k (by omega) hk2 s hs)
      refine ⟨h2', ?_, s2⟩
      rw [Int32.sub_eq_add_neg] at s1
      exact r1.trans s1
theorem wish2 {ρ : Type} (f : Nat) (V : FV) {a : Nat} (ha : a ≤ 99) (pr : Nat → Nat → Nat) (lim : Nat → Nat) (kk : FV → Option ρ) : ∀ (n t : Nat) (h : Nat → Int32), t ≤ a + 1 → a + 1 - t < n → (∀ s, s < t → h (600 + s) = nI (lrow pr lim 99999 6 s)) → ∃ h', M_findWish_L2 f (nI a) kk n (nI t) (va_up V 34 h) = kk (va_up V 34 h') ∧ ∀ s, s ≤ a → h' (600 + s) = nI (lrow pr lim 99999 6 s) := by
  intro n
  induction n with
  | zero => intro t h h1 h2; omega
  | succ n ih =>
    intro t h h1 h2 h4
    rw [M_findWish_L2]
    by_cases e : t = a + 1
    · exact ⟨h, if_pos ((lt_n (by omega) (by omega)).mpr (by omega)), fun s hs => h4 s (by omega)⟩
    · have ht : t ≤ a := by omega
      rw [if_neg (fun q => by have := (lt_n (by omega) (by omega)).mp q; omega), show 600 + nI t = nI (600 + t) from nI_add 600 t]
      simp only [nm, gd_nI (show 600 + t < 700 by omega) (show 700 < 2 ^ 31 by decide)]
      simp only [cl_nI (show 600 + t < 2 ^ 31 by omega), va_up_self, bx_uu, nI_1]
      obtain ⟨h', r1, r2⟩ := ih (t + 1) (upd h (600 + t) (nI (lrow pr lim 99999 6 t))) (by omega) (by omega) (fun s hs => by
        by_cases es : s = t
        · rw [es, upd_s]
        · rw [upd_n _ _ (show 600 + s ≠ 600 + t by omega)]; exact h4 s (by omega))
      refine ⟨h', ?_, r2⟩
      rw [← r1]
      unfold lrow
      rw [Nat.sub_self, Wr]
      have e0 : (nI t = 0) ↔ t = 0 := by rw [← nI_0]; exact nI_eq (by omega) (by omega)
      by_cases c : t = 0
      · rw [if_pos (e0.mpr c), if_pos c]
        rfl
      · rw [if_neg (fun q => c (e0.mp q)), if_neg c]
        rfl
