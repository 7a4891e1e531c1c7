theorem sm_bd {g : Nat → Nat} {b : Nat} : ∀ n, (∀ i, i < n → g i ≤ b) → sm g n ≤ n * b
  | 0, _ => Nat.zero_le _
  | n + 1, e => by
    have h1 := sm_bd n (fun i hi => e i (by omega))
    have h2 := e n (by omega)
    rw [sm, Nat.succ_mul]
    omega
theorem in_q (f : Nat) (q : Nat → Bool) {P x : Nat} (hP : P ≤ 6) (hx : x < P) : X_isIn f (nI (bm q P)) (nI x) = some (if q x then 1 else 0) := by
  rw [isIn_eq f (bm64 q hP) (by omega), bm_bit]
  simp [hx]
theorem has_q (f : Nat) (q : Nat → Bool) {P x : Nat} (hP : P ≤ 6) (hx : x < P) : M_has f (nI (bm q P)) (nI x) = some (if q x then 1 else 0) := by
  rw [mhas_eq f (bm64 q hP) (by omega), bm_bit]
  simp [hx]
def pdf (L : Nat → Nat → Nat) (q : Nat → Bool) (p j : Nat) : Nat := if L 10 j = p ∧ q (L 11 j) = true then L 12 j else 0
def pd (L : Nat → Nat → Nat) (q : Nat → Bool) (p : Nat) : Nat := sm (pdf L q p) (L 0 0)
def cnq (L : Nat → Nat → Nat) (q : Nat → Bool) (p : Nat) : Bool := decide (owS L p ≤ L 5 p + pd L q p)
theorem pd_le {P : Nat} {L : Nat → Nat → Nat} (hok : okT P L) (q : Nat → Bool) (p : Nat) : pd L q p ≤ 12 * 99 := by
  have h1 : sm (pdf L q p) (L 0 0) ≤ L 0 0 * 99 := sm_bd (L 0 0) (fun j hj => by
    have := (hok.2.2.2 j hj).2.2.2.2
    unfold pdf
    split <;> omega)
  have h2 := hok.1
  unfold pd
  omega
theorem pd_mono (L : Nat → Nat → Nat) {q q' : Nat → Bool} {P : Nat} (hok : okT P L) (h : ∀ x, x < P → q x = true → q' x = true) (p : Nat) : pd L q p ≤ pd L q' p := by
  refine sm_mono (L 0 0) (fun j hj => ?_)
  unfold pdf
  by_cases c : L 10 j = p ∧ q (L 11 j) = true
  · rw [if_pos c, if_pos ⟨c.1, h _ (hok.2.2.2 j hj).2.1 c.2⟩]
    exact Nat.le_refl _
  · rw [if_neg c]
    exact Nat.zero_le _
theorem cnq_mono (L : Nat → Nat → Nat) {q q' : Nat → Bool} {P : Nat} (hok : okT P L) (h : ∀ x, x < P → q x = true → q' x = true) (p : Nat) (hc : cnq L q p = true) : cnq L q' p = true := by
  have := pd_mono L hok h p
  unfold cnq at *
  simp only [decide_eq_true_eq] at *
  omega
theorem paid6 {ρ : Type} (f : Nat) {I : FI} {V : FV} {P : Nat} {L : Nat → Nat → Nat} (hP : P ≤ 6) (hok : okT P L) (hL : tL P L I V) (q : Nat → Bool) {p : Nat} (hp : p < 6) (k : Int32 → Option ρ) : ∀ n j : Nat, j ≤ L 0 0 → L 0 0 - j < n → Set_paidTo_L6 f I V (nI p) (nI (bm q P)) k n (nI (sm (pdf L q p) j)) (nI j) = k (nI (sm (pdf L q p) (L 0 0))) := by
  obtain ⟨l0, l1, l2, l3, l4, lp, ld⟩ := hL
  have hd := hok.1
  intro n
  induction n with
  | zero => intro j h1 h2; omega
  | succ n ih =>
    intro j h1 h2
    rw [Set_paidTo_L6, l1]
    by_cases e : j = L 0 0
    · subst e
      rw [if_pos (nI_le (Nat.le_refl _) (by omega))]
    · have hj : j < L 0 0 := by omega
      have o1 := hok.2.2.2 j hj
      obtain ⟨d1, d2, d3, d4⟩ := ld j hj
      rw [if_neg (nI_ge hj (by omega))]
      simp only [nm, gd_nI (show j < 12 by omega) (show 12 < 2 ^ 31 by decide)]
      simp only [cl_nI (show j < 2 ^ 31 by omega), d1, d2, d3, in_q f q hP o1.2.1, ob1_s, nI_1, nI_eq (show L 10 j < 2 ^ 31 by omega) (show p < 2 ^ 31 by omega), nI_add]
      have ih2 := ih (j + 1) (by omega) (by omega)
      rw [sm, pdf] at ih2
      by_cases c1 : L 10 j = p
      · rw [if_pos c1]
        by_cases c2 : q (L 11 j) = true
        · rw [if_pos c2, if_neg (by decide)]
          rw [if_pos ⟨c1, c2⟩] at ih2
          exact ih2
        · rw [if_neg c2, if_pos rfl]
          rw [if_neg (fun z => c2 z.2), Nat.add_zero] at ih2
          exact ih2
      · rw [if_neg c1]
        rw [if_neg (fun z => c1 z.1), Nat.add_zero] at ih2
        exact ih2
theorem owedBy5 {ρ : Type} (f : Nat) {I : FI} {V : FV} {P : Nat} {L : Nat → Nat → Nat} (hP : P ≤ 6) (hok : okT P L) (hM : tM P L I V) (q : Nat → Bool) {p : Nat} (hp : p < 6) (k : Int32 → Option ρ) : ∀ n j : Nat, j ≤ L 0 0 → L 0 0 - j < n → M_owedBy_L5 f I V (nI p) (nI (bm q P)) k n (nI (sm (pdf L q p) j)) (nI j) = k (nI (sm (pdf L q p) (L 0 0))) := by
  obtain ⟨m9, m14, mp, md⟩ := hM
  have hd := hok.1
  intro n
  induction n with
  | zero => intro j h1 h2; omega
  | succ n ih =>
    intro j h1 h2
    rw [M_owedBy_L5, m9]
    by_cases e : j = L 0 0
    · subst e
      rw [if_pos (nI_le (Nat.le_refl _) (by omega))]
    · have hj : j < L 0 0 := by omega
      have o1 := hok.2.2.2 j hj
      obtain ⟨d1, d2, d3, d4⟩ := md j hj
      rw [if_neg (nI_ge hj (by omega))]
      simp only [nm, gd_nI (show j < 12 by omega) (show 12 < 2 ^ 31 by decide)]
      simp only [cl_nI (show j < 2 ^ 31 by omega), d1, d2, d3, has_q f q hP o1.2.1, ob1_s, nI_1, nI_eq (show L 10 j < 2 ^ 31 by omega) (show p < 2 ^ 31 by omega), nI_add, Int32.add_zero]
      have ih2 := ih (j + 1) (by omega) (by omega)
      rw [sm, pdf] at ih2
      by_cases c1 : L 10 j = p
      · rw [if_pos c1]
        by_cases c2 : q (L 11 j) = true
        · rw [if_pos c2, if_neg (by decide)]
          rw [if_pos ⟨c1, c2⟩] at ih2
          exact ih2
        · rw [if_neg c2, if_pos rfl]
          rw [if_neg (fun z => c2 z.2), Nat.add_zero] at ih2
          exact ih2
      · rw [if_neg c1]
        rw [if_neg (fun z => c1 z.1), Nat.add_zero] at ih2
        exact ih2
/-- those of q that can -/
def tcn (L : Nat → Nat → Nat) (q : Nat → Bool) (p : Nat) : Bool := q p && cnq L q p
theorem those5 {ρ : Type} {f : Nat} (hf : 100 ≤ f) {I Is : FI} {V Vs : FV} {P : Nat} {L : Nat → Nat → Nat} (hP : P ≤ 6) (hok : okT P L) (hL : tL P L I V) (q : Nat → Bool) (k : Int32 → Option ρ) : ∀ n i : Nat, i ≤ P → P - i < n → Set_thoseThatCan_L5 f I (nI (bm q P)) Is Vs V k n (nI (bm (tcn L q) i)) (nI i) = k (nI (bm (tcn L q) P)) := by
  intro n
  induction n with
  | zero => intro i h1 h2; omega
  | succ n ih =>
    intro i h1 h2
    rw [Set_thoseThatCan_L5, hL.1]
    by_cases e : i = P
    · subst e
      rw [if_pos (nI_le (Nat.le_refl _) (by omega))]
    · have hi : i < P := by omega
      have hpa : Set_paidTo f (nI i) (nI (bm q P)) Is Vs I V = some (nI (pd L q i)) := paid6 f hP hok hL q (by omega) (fun x => some x) f 0 (Nat.zero_le _) (by have := hok.1; omega)
      have b1 := pd_le hok q i
      have b2 := owS_le hok i
      have b3 := sm_le (L 5) P i hi
      have b4 := hok.2.1
      rw [if_neg (nI_ge hi (by omega)), in_q f q hP hi, ob1_s]
      simp only [nm, gd_nI (show i < 6 by omega) (show 6 < 2 ^ 31 by decide), hpa, ob1_s, Led_owedBy_eq hf hP hok hL (show i < 6 by omega)]
      simp only [cl_nI (show i < 2 ^ 31 by omega), (hL.2.2.2.2.2.1 i hi).1, nI_add, lt_n (show L 5 i + pd L q i < 2 ^ 31 by omega) (show owS L i < 2 ^ 31 by omega), nI_1]
      have ih2 := ih (i + 1) (by omega) (by omega)
      rw [← bm_or _ i (by omega), tcn, cnq] at ih2
      by_cases c1 : q i = true
      · rw [if_pos c1, if_neg (by decide)]
        by_cases c2 : L 5 i + pd L q i < owS L i
        · rw [if_pos c2]
          rw [if_neg (by simp; omega), Int32.or_zero] at ih2
          exact ih2
        · rw [if_neg c2]
          rw [if_pos (by simp [c1]; omega)] at ih2
          exact ih2
      · rw [if_neg c1, if_pos rfl]
        rw [if_neg (by simp [c1]), Int32.or_zero] at ih2
        exact ih2
def ct (q : Nat → Bool) (P : Nat) : Nat := sm (fun p => if q p then 1 else 0) P
theorem ct_sub {q q' : Nat → Bool} : ∀ P, (∀ x, x < P → q' x = true → q x = true) → ct q' P ≤ ct q P ∧ (ct q' P = ct q P → ∀ x, x < P → q' x = q x)
  | 0, _ => ⟨Nat.le_refl _, fun _ x hx => absurd hx (Nat.not_lt_zero _)⟩
  | P + 1, h => by
    obtain ⟨h1, h2⟩ := ct_sub P (fun x hx => h x (by omega))
    have h3 := h P (by omega)
    unfold ct at *
    rw [sm, sm]
    by_cases c' : q' P = true
    · have c := h3 c'
      rw [if_pos c', if_pos c]
      refine ⟨by omega, fun e x hx => ?_⟩
      by_cases ex : x = P
      · rw [ex, c, c']
      · exact h2 (by omega) x (by omega)
    · by_cases c : q P = true
      · rw [if_neg c', if_pos c]
        exact ⟨by omega, fun e => by omega⟩
      · rw [if_neg c', if_neg c]
        refine ⟨by omega, fun e x hx => ?_⟩
        by_cases ex : x = P
        · rw [ex]
          cases h4 : q P <;> cases h5 : q' P <;> simp_all
        · exact h2 (by omega) x (by omega)
theorem ct_le (q : Nat → Bool) (P : Nat) : ct q P ≤ P := by
  have := sm_bd (g := fun p => if q p then 1 else 0) (b := 1) P (fun i _ => by split <;> omega)
  unfold ct
  omega
theorem ct_zero {q : Nat → Bool} {P : Nat} (h : ct q P = 0) : ∀ x, x < P → q x = false := by
  intro x hx
  have := sm_le (fun p => if q p then 1 else 0) P x hx
  unfold ct at h
  rw [h] at this
  cases e : q x
  · rfl
  · rw [if_pos e] at this; omega
/-- each of q can -/
def stb (L : Nat → Nat → Nat) (P : Nat) (q : Nat → Bool) : Prop := ∀ x, x < P → q x = true → cnq L q x = true
theorem stb_t {L : Nat → Nat → Nat} {P : Nat} {q : Nat → Bool} (h : stb L P q) : ∀ x, x < P → tcn L q x = q x := by
  intro x hx
  unfold tcn
  cases e : q x
  · rfl
  · rw [h x hx e]; rfl
theorem cnq_congr {L : Nat → Nat → Nat} {P : Nat} (hok : okT P L) {q q' : Nat → Bool} (h : ∀ x, x < P → q' x = q x) (p : Nat) : cnq L q' p = cnq L q p := by
  have h1 := cnq_mono L hok (q := q) (q' := q') (fun x hx e => by rw [h x hx]; exact e) p
  have h2 := cnq_mono L hok (q := q') (q' := q) (fun x hx e => by rw [← h x hx]; exact e) p
  cases e : cnq L q p <;> cases e2 : cnq L q' p <;> simp_all
theorem stb_congr {L : Nat → Nat → Nat} {P : Nat} (hok : okT P L) {q q' : Nat → Bool} (h : ∀ x, x < P → q' x = q x) (hs : stb L P q) : stb L P q' := by
  intro x hx e
  rw [cnq_congr hok h]
  exact hs x hx (by rw [← h x hx]; exact e)
/-- q' is the greatest stable part of q -/
def gsp (L : Nat → Nat → Nat) (P : Nat) (q q' : Nat → Bool) : Prop := (∀ x, x < P → q' x = true → q x = true) ∧ ∀ r, stb L P r → (∀ x, x < P → r x = true → q x = true) → ∀ x, x < P → r x = true → q' x = true
theorem fall12 {ρ : Type} {f : Nat} (hf : 100 ≤ f) {I Is : FI} {V Vs : FV} {P : Nat} {L : Nat → Nat → Nat} (hP : P ≤ 6) (hok : okT P L) (hL : tL P L I V) (k : Int32 → Option ρ) (q0 : Nat → Bool) : ∀ (n i : Nat) (q : Nat → Bool), i ≤ 6 → 6 - i < n → gsp L P q0 q → (stb L P q ∨ ct q P + i ≤ P) → ∃ q', Set_fallen_L12 f Is Vs I V k n (nI (bm q P)) (nI i) = k (nI (bm q' P)) ∧ gsp L P q0 q' ∧ stb L P q' := by
  intro n
  induction n with
  | zero => intro i q h1 h2; omega
  | succ n ih =>
    intro i q h1 h2 h3 h4
    rw [Set_fallen_L12]
    by_cases e : i = 6
    · subst e
      refine ⟨q, if_pos (by decide), h3, ?_⟩
      rcases h4 with h4 | h4
      · exact h4
      · intro x hx hq
        have := ct_zero (q := q) (P := P) (by omega) x hx
        rw [this] at hq
        exact absurd hq (by decide)
    · have ht : Set_thoseThatCan f (nI (bm q P)) Is Vs I V = some (nI (bm (tcn L q) P)) := those5 hf hP hok hL q (fun x => some x) f 0 (Nat.zero_le _) (by omega)
      have hsub : ∀ x, x < P → tcn L q x = true → q x = true := fun x hx hq => by
        unfold tcn at hq
        rw [Bool.and_eq_true] at hq
        exact hq.1
      rw [if_neg (show ¬ (6 : Int32) ≤ nI i from nI_ge (b := 6) (by omega) (by decide)), ht, ob1_s, nI_1]
      refine ih (i + 1) (tcn L q) (by omega) (by omega) ⟨fun x hx hq => h3.1 x hx (hsub x hx hq), fun r hr hs x hx hrx => ?_⟩ ?_
      · have a1 := h3.2 r hr hs
        unfold tcn
        rw [Bool.and_eq_true]
        exact ⟨a1 x hx hrx, cnq_mono L hok a1 x (hr x hx hrx)⟩
      · rcases h4 with h4 | h4
        · exact Or.inl (stb_congr hok (stb_t h4) h4)
        · obtain ⟨a1, a2⟩ := ct_sub P hsub
          by_cases a3 : ct (tcn L q) P = ct q P
          · left
            have a4 := a2 a3
            have a5 : stb L P q := by
              intro x hx hq
              have := a4 x hx
              unfold tcn at this
              rw [hq, Bool.true_and] at this
              exact this
            exact stb_congr hok a4 a5
          · right; omega
theorem bm_clr (q : Nat → Bool) {P p : Nat} (hP : P ≤ 6) (hp : p < 6) : nI (bm q P) &&& (((1 : Int32) <<< (nI p &&& 31)) ^^^ (-1)) = nI (bm (fun x => q x && !(x == p)) P) := by
  rw [sh1 p (by omega), andn _ (bm64 q hP) _ (show 2 ^ p < 64 from Nat.pow_lt_pow_right (n := 6) (by decide) hp)]
  congr 1
  apply Nat.eq_of_testBit_eq
  intro i
  rw [Nat.testBit_and, Nat.testBit_xor, bm_bit, bm_bit, show (63 : Nat) = 2 ^ 6 - 1 from rfl, Nat.testBit_two_pow_sub_one, Nat.testBit_two_pow]
  by_cases e : i < P
  · by_cases e2 : i = p
    · rw [e2]; simp [hp]
    · simp [e, e2, show i < 6 by omega, show ¬ p = i from fun q => e2 q.symm]
  · simp [e]
theorem bm_inj {q q' : Nat → Bool} {P : Nat} (h : bm q' P = bm q P) : ∀ x, x < P → q' x = q x := by
  intro x hx
  have h1 := bm_bit q' P x
  have h2 := bm_bit q P x
  rw [h, h2] at h1
  simpa [hx] using h1.symm
theorem falls51 {ρ : Type} {f : Nat} (hf : 100 ≤ f) {I : FI} {V : FV} {P : Nat} {L : Nat → Nat → Nat} (hP : P ≤ 6) (hok : okT P L) (i4 : I 4 = nI P) (hM : tM P L I V) (k : Int32 → Option ρ) (q0 : Nat → Bool) : ∀ (n i : Nat) (q : Nat → Bool), i ≤ P → P - i < n → gsp L P q0 q → ∃ q', M_falls_L51 f I V k n (nI (bm q P)) (nI i) = k (nI (bm q' P)) ∧ gsp L P q0 q' ∧ (∀ x, x < P → q' x = true → q x = true) ∧ ((∀ x, x < P → q' x = q x) → ∀ x, i ≤ x → x < P → q x = true → cnq L q x = true) := by
  intro n
  induction n with
  | zero => intro i q h1 h2; omega
  | succ n ih =>
    intro i q h1 h2 h3
    rw [M_falls_L51, i4]
    by_cases e : i = P
    · subst e
      exact ⟨q, if_pos (nI_le (Nat.le_refl _) (by omega)), h3, fun _ _ h => h, fun _ x x1 x2 => by omega⟩
    · have hi : i < P := by omega
      have hpa : M_owedBy f (nI i) (nI (bm q P)) I V = some (nI (pd L q i)) := owedBy5 f hP hok hM q (by omega) (fun x => some x) f 0 (Nat.zero_le _) (by have := hok.1; omega)
      have b1 := pd_le hok q i
      have b2 := owS_le hok i
      have b3 := sm_le (L 5) P i hi
      have b4 := hok.2.1
      rw [if_neg (nI_ge hi (by omega))]
      simp only [nm, gd_nI (show i < 6 by omega) (show 6 < 2 ^ 31 by decide), hpa, ob1_s, M_owesAll_eq hf hP hok hM (show i < 6 by omega)]
      simp only [cl_nI (show i < 2 ^ 31 by omega), (hM.2.2.1 i hi).1, nI_add, lt_n (show L 5 i + pd L q i < 2 ^ 31 by omega) (show owS L i < 2 ^ 31 by omega), nI_1, bm_clr q hP (show i < 6 by omega), Int32.and_self]
      by_cases c2 : L 5 i + pd L q i < owS L i
      · rw [if_pos c2, if_pos trivial]
        have hsub : ∀ x, x < P → (q x && !(x == i)) = true → q x = true := fun x hx hq => by
          rw [Bool.and_eq_true] at hq
          exact hq.1
        have hno : ¬ cnq L q i = true := by unfold cnq; simp; omega
        obtain ⟨q', r1, r2, r3, r4⟩ := ih (i + 1) (fun x => q x && !(x == i)) (by omega) (by omega) ⟨fun x hx hq => h3.1 x hx (hsub x hx hq), fun r hr hs x hx hrx => by
          have a1 := h3.2 r hr hs
          have a2 : x ≠ i := fun ex => hno (by rw [← ex]; exact cnq_mono L hok a1 x (hr x hx hrx))
          simp [a1 x hx hrx, a2]⟩
        refine ⟨q', r1, r2, fun x hx hq => hsub x hx (r3 x hx hq), fun hsame x x1 x2 x3 => ?_⟩
        have hqi : q i = false := by
          cases eq : q i
          · rfl
          · have := r3 i hi (by rw [hsame i hi]; exact eq)
            simp at this
        have hqq : (fun x => q x && !(x == i)) = q := by
          funext z
          by_cases ez : z = i
          · rw [ez, hqi]; rfl
          · simp [ez]
        have hqx : ∀ z, (q z && !(z == i)) = q z := fun z => congrFun hqq z
        have xi : x ≠ i := fun ex => by rw [ex, hqi] at x3; exact absurd x3 (by decide)
        have r5 := r4 (fun x hx => by rw [hqx]; exact hsame x hx) x (by omega) x2 (by rw [hqx]; exact x3)
        rw [hqq] at r5
        exact r5
      · rw [if_neg c2, if_neg (by decide)]
        obtain ⟨q', r1, r2, r3, r4⟩ := ih (i + 1) q (by omega) (by omega) h3
        refine ⟨q', r1, r2, r3, fun hsame x x1 x2 x3 => ?_⟩
        by_cases ex : x = i
        · rw [ex]; unfold cnq; simp; omega
        · exact r4 hsame x (by omega) x2 x3
theorem falls41 {ρ : Type} {f : Nat} (hf : 100 ≤ f) {I : FI} {V : FV} {P : Nat} {L : Nat → Nat → Nat} (hP : P ≤ 6) (hok : okT P L) (i4 : I 4 = nI P) (hM : tM P L I V) (k : Int32 → Option ρ) (q0 : Nat → Bool) : ∀ (n : Nat) (q : Nat → Bool), ct q P + 2 ≤ n → gsp L P q0 q → ∃ q', M_falls_L41 f I V k n (nI (bm q P)) 1 = k (nI (bm q' P)) ∧ gsp L P q0 q' ∧ stb L P q' := by
  intro n
  induction n with
  | zero => intro q h1 h2; omega
  | succ n ih =>
    intro q h1 h3
    rw [M_falls_L41, if_neg (by decide)]
    obtain ⟨q', r1, r2, r3, r4⟩ := falls51 hf hP hok i4 hM (fun (x2_51 : Int32) => if x2_51 = nI (bm q P) then M_falls_L41 f I V k n x2_51 0 else M_falls_L41 f I V k n x2_51 1) q0 f 0 q (Nat.zero_le _) (by omega) h3
    simp only [nm]
    have e64 := bm64 q hP
    have e64' := bm64 q' hP
    by_cases e : bm q' P = bm q P
    · refine ⟨q', ?_, r2, ?_⟩
      · refine r1.trans ?_
        rw [e, if_pos rfl]
        obtain ⟨n', rfl⟩ : ∃ n', n = n' + 1 := ⟨n - 1, by omega⟩
        rw [M_falls_L41, if_pos rfl]
      · have hs := bm_inj e
        exact stb_congr hok hs (fun x hx hq => r4 hs x (Nat.zero_le _) hx hq)
    · obtain ⟨a1, a2⟩ := ct_sub P r3
      have a3 : ct q' P ≠ ct q P := fun q5 => e (bm_congr (a2 q5))
      obtain ⟨q2, s1, s2, s3⟩ := ih q' (by omega) r2
      refine ⟨q2, ?_, s2, s3⟩
      refine r1.trans ?_
      rw [if_neg (fun z => e (nI_inj (by omega) (by omega) z))]
      exact s1
theorem rng_s {P : Nat} (hP : P ≤ 6) (x : Int32) : ((0 : Int32) ≤ x ∧ x ≤ nI (2 ^ P - 1)) ↔ ∃ h, h < 2 ^ P ∧ x = nI h := by
  have h2 : (2 : Nat) ^ P ≤ 2 ^ 6 := Nat.pow_le_pow_right (by decide) hP
  have h3 := Nat.two_pow_pos P
  constructor
  · intro h
    obtain ⟨r, r1, r2⟩ := rng_of (by omega) h
    exact ⟨r, by omega, r2⟩
  · rintro ⟨r, r1, rfl⟩
    exact ⟨(le_n (a := 0) (by omega) (by omega)).mpr (Nat.zero_le _), (le_n (by omega) (by omega)).mpr (by omega)⟩
theorem S_falls {f : Nat} (hf : 1000 ≤ f) : Sim_falls Rel f := by
  intro SI SV LaI LaV LsI LsV I V a0 h
  have h0 := h
  obtain ⟨P, hP, i4, ⟨L, hok, hM, hL⟩, hT, hA, hSl, hDa, z0, z1⟩ := h
  have hRel : Rel SI SV LaI LaV LsI LsV (va_up I 0 0) V := Rel_ag h0 (agI_0 I 0) (agV_rf V)
  have hM1 : tM P L (va_up I 0 0) V := hM
  have l0 := hL.1
  have j4 : va_up I 0 0 4 = nI P := i4
  have h2P : (2 : Nat) ^ P ≤ 2 ^ 6 := Nat.pow_le_pow_right (by decide) hP
  have h1P := Nat.two_pow_pos P
  have eall : ((1 : Int32) <<< (nI P &&& 31)) - 1 = nI (2 ^ P - 1) := by
    rw [sh1 P (by omega)]
    exact pk_sub (b := 1) (Nat.one_le_two_pow)
  have hin : M_in f a0.toInt64 0 (nI (2 ^ P - 1)).toInt64 = some (if (0 : Int32) ≤ a0 ∧ a0 ≤ nI (2 ^ P - 1) then 1 else 0) := in_c f a0 0 (nI (2 ^ P - 1))
  unfold X_falls M_falls
  simp only [nm]
  rw [areAll_eq f a0 _ hP l0, j4, eall, hin]
  by_cases c : (a0 &&& (nI (2 ^ P - 1) ^^^ (-1))) = 0
  rotate_left
  · rw [if_neg c, if_neg (fun q => c ((set_iff hP a0).mpr ((rng_s hP a0).mp q)))]
    exact ⟨-2, va_up I 0 0, V, rfl, rfl, hRel⟩
  rw [if_pos c, if_pos ((rng_s hP a0).mpr ((set_iff hP a0).mp c)), ob1_s, ob1_s, if_neg (by decide), if_neg (by decide)]
  obtain ⟨t, ht, rfl⟩ := (set_iff hP a0).mp c
  have e0 : nI (2 ^ P - 1) &&& (nI t ^^^ (-1)) = nI (bm (fun x => !t.testBit x) P) := by
    rw [andn _ (by omega) _ (by omega)]
    congr 1
    apply Nat.eq_of_testBit_eq
    intro i
    rw [Nat.testBit_and, Nat.testBit_xor, bm_bit, show (63 : Nat) = 2 ^ 6 - 1 from rfl, Nat.testBit_two_pow_sub_one, Nat.testBit_two_pow_sub_one]
    by_cases e : i < P
    · simp [e, show i < 6 by omega]
    · simp [e]
  have g0 : gsp L P (fun x => !t.testBit x) (fun x => !t.testBit x) := ⟨fun _ _ h => h, fun _ _ h => h⟩
  obtain ⟨qX, x1, x2, x3⟩ := fall12 (f := f) (by omega) (Is := SI 5) (Vs := SV 5) hP hok hL (fun (x3_12 : Int32) => some (nI (2 ^ P - 1) &&& (x3_12 ^^^ (-1)))) (fun x => !t.testBit x) f 0 (fun x => !t.testBit x) (by omega) (by omega) g0 (Or.inr (by have := ct_le (fun x => !t.testBit x) P; omega))
  obtain ⟨qM, y1, y2, y3⟩ := falls41 (f := f) (by omega) hP hok j4 hM1 (fun (x2_41 : Int32) => some ((nI (2 ^ P - 1) &&& (x2_41 ^^^ (-1))), va_up I 0 0, V)) (fun x => !t.testBit x) f (fun x => !t.testBit x) (by have := ct_le (fun x => !t.testBit x) P; omega) g0
  have esame : bm qX P = bm qM P := by
    apply bm_congr
    intro x hx
    have a1 := y2.2 qX x3 x2.1 x hx
    have a2 := x2.2 qM y3 y2.1 x hx
    cases e1 : qX x <;> cases e2 : qM x <;> simp_all
  refine ⟨nI (2 ^ P - 1) &&& (nI (bm qM P) ^^^ (-1)), va_up I 0 0, V, ?_, ?_, hRel⟩
  · unfold Set_fallen
    simp only [nm]
    rw [all_eq f _ hP l0]
    simp only [ob1_s]
    rw [e0]
    have := x1
    rw [esame] at this
    rw [show Set_fallen_L12 f (SI 5) (SV 5) (SI 1) (SV 1) _ f (nI (bm (fun x => !t.testBit x) P)) 0 = _ from this, ob1_s]
  · rw [e0]
    exact y1
