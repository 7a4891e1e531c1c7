def ex (q : Nat → Bool) : Nat → Bool
  | 0 => false
  | n + 1 => ex q n || q n
theorem ex_iff (q : Nat → Bool) : ∀ n, ex q n = true ↔ ∃ i, i < n ∧ q i = true
  | 0 => by simp [ex]
  | n + 1 => by
    rw [ex, Bool.or_eq_true, ex_iff q n]
    constructor
    · rintro (⟨i, h1, h2⟩ | h)
      · exact ⟨i, by omega, h2⟩
      · exact ⟨n, by omega, h⟩
    · rintro ⟨i, h1, h2⟩
      by_cases e : i = n
      · subst e; exact Or.inr h2
      · exact Or.inl ⟨i, by omega, h2⟩
def orf (g : Nat → Nat) : Nat → Nat
  | 0 => 0
  | n + 1 => orf g n ||| g n
theorem orf_and (g : Nat → Nat) (m : Nat) : ∀ n, orf g n &&& m = orf (fun i => g i &&& m) n
  | 0 => by simp [orf]
  | n + 1 => by rw [orf, orf, Nat.and_or_distrib_right, orf_and g m n]
theorem orf_congr {g h : Nat → Nat} : ∀ n, (∀ i, i < n → g i = h i) → orf g n = orf h n
  | 0, _ => rfl
  | n + 1, e => by rw [orf, orf, orf_congr n (fun i hi => e i (by omega)), e n (by omega)]
theorem pow_and : ∀ w, w < 6 → ∀ P, P < 7 → 2 ^ w &&& (2 ^ P - 1) = if w < P then 2 ^ w else 0 := by decide
theorem all_eq (f : Nat) {I : FI} (V : FV) {P : Nat} (hP : P ≤ 6) (h : I 0 = nI P) : Led_allPeople f I V = some (nI (2 ^ P - 1)) := by
  unfold Led_allPeople
  rw [h, sh1 P (by omega)]
  exact congrArg some (pk_sub (b := 1) (Nat.one_le_two_pow))
/-- e tells k's day again -/
def tq (w d : Nat → Nat) (k e : Nat) : Bool := (e != k) && ((w e == w k) && (d e == d k))
theorem told2 (f : Nat) {Id : FI} {Vd : FV} {n : Nat} (hn : n ≤ 12) (e2 : Id 3 = nI n) {w d : Nat → Nat} (hw : ∀ j, j < n → w j < 6 ∧ d j ≤ 99 ∧ Vd 0 j = nI (w j) ∧ Vd 1 j = nI (d j)) {k : Nat} (hk : k < n) : ∀ m i : Nat, i ≤ n → n - i < m → ex (tq w d k) i = false → Day_isToldAgain_L2 f Id (nI k) Vd (fun _ => some 0) m (nI i) = some (if ex (tq w d k) n then 1 else 0) := by
  intro m
  induction m with
  | zero => intro i h1 h2; omega
  | succ m ih =>
    intro i h1 h2 h3
    rw [Day_isToldAgain_L2, e2]
    by_cases e : i = n
    · subst e
      rw [if_pos (nI_le (Nat.le_refl _) (by omega)), h3]
      rfl
    · have hi : i < n := by omega
      have wi := hw i hi
      have wk := hw k hk
      rw [if_neg (nI_ge hi (by omega))]
      simp only [nm, gd_nI (show i < 12 by omega) (show 12 < 2 ^ 31 by decide), gd_nI (show k < 12 by omega) (show 12 < 2 ^ 31 by decide)]
      simp only [cl_nI (show i < 2 ^ 31 by omega), cl_nI (show k < 2 ^ 31 by omega), wi.2.2.1, wi.2.2.2, wk.2.2.1, wk.2.2.2, nI_1, nI_eq (show i < 2 ^ 31 by omega) (show k < 2 ^ 31 by omega), nI_eq (show w i < 2 ^ 31 by omega) (show w k < 2 ^ 31 by omega), nI_eq (show d i < 2 ^ 31 by omega) (show d k < 2 ^ 31 by omega)]
      by_cases c1 : i = k
      · rw [if_pos c1]
        exact ih (i + 1) (by omega) (by omega) (by rw [ex, h3]; simp [tq, c1])
      · rw [if_neg c1]
        by_cases c2 : w i = w k
        · rw [if_pos c2]
          by_cases c3 : d i = d k
          · rw [if_pos c3, if_pos]
            exact (ex_iff _ _).mpr ⟨i, hi, by simp [tq, c1, c2, c3]⟩
          · rw [if_neg c3]
            exact ih (i + 1) (by omega) (by omega) (by rw [ex, h3]; simp [tq, c3])
        · rw [if_neg c2]
          exact ih (i + 1) (by omega) (by omega) (by rw [ex, h3]; simp [tq, c2])
def gX (w d z : Nat → Nat) (n i : Nat) : Nat := if z i = 0 ∧ ex (tq w d i) n = true then 2 ^ w i else 0
theorem caught4 {ρ : Type} {f : Nat} (hf : 100 ≤ f) {Id : FI} {Vd : FV} {n : Nat} (hn : n ≤ 12) (e2 : Id 3 = nI n) {w d z : Nat → Nat} (hw : ∀ j, j < n → w j < 6 ∧ d j ≤ 99 ∧ Vd 0 j = nI (w j) ∧ Vd 1 j = nI (d j)) (hz : ∀ j, j < n → z j ≤ 1 ∧ Vd 2 j = nI (z j)) (k : Int32 → Option ρ) : ∀ m i : Nat, i ≤ n → n - i < m → Day_caught_L4 f Id Vd k m (nI (orf (gX w d z n) i)) (nI i) = k (nI (orf (gX w d z n) n)) := by
  intro m
  induction m with
  | zero => intro i h1 h2; omega
  | succ m ih =>
    intro i h1 h2
    rw [Day_caught_L4, e2]
    by_cases e : i = n
    · subst e
      rw [if_pos (nI_le (Nat.le_refl _) (by omega))]
    · have hi : i < n := by omega
      have wi := hw i hi
      have zi := hz i hi
      have ht : Day_isToldAgain f (nI i) Id Vd = some (if ex (tq w d i) n then 1 else 0) := told2 f hn e2 hw hi f 0 (by omega) (by omega) rfl
      rw [if_neg (nI_ge hi (by omega))]
      simp only [nm, gd_nI (show i < 12 by omega) (show 12 < 2 ^ 31 by decide), ht, ob1_s]
      simp only [cl_nI (show i < 2 ^ 31 by omega), wi.2.2.1, zi.2, sh1 (w i) (by omega), nI_or, nI_1]
      have ih2 := ih (i + 1) (by omega) (by omega)
      rw [orf] at ih2
      have e7 : (nI (z i) = 0) ↔ z i = 0 := by rw [← nI_0]; exact nI_eq (by omega) (by omega)
      by_cases c : z i = 0
      · rw [if_pos (e7.mpr c)]
        by_cases c2 : ex (tq w d i) n = true
        · rw [if_pos c2, if_neg (by decide)]
          rw [gX, if_pos ⟨c, c2⟩] at ih2
          exact ih2
        · rw [if_neg c2, if_pos rfl]
          rw [gX, if_neg (fun q => c2 q.2), Nat.or_zero] at ih2
          exact ih2
      · rw [if_neg (fun q => c (e7.mp q))]
        rw [gX, if_neg (fun q => c q.1), Nat.or_zero] at ih2
        exact ih2
def aM (P : Nat) (w d z : Nat → Nat) (k e : Nat) : Nat := if z k = 0 ∧ ex (tq w d k) e = true ∧ w k < P then 2 ^ w k else 0
theorem cheats19 {ρ : Type} {f : Nat} {I : FI} {V : FV} {P n : Nat} (hP : P ≤ 6) (i4 : I 4 = nI P) (hn : n ≤ 12) (e1 : I 27 = nI n) {w d z : Nat → Nat} (hw : ∀ j, j < n → w j < 6 ∧ d j ≤ 99 ∧ V 28 j = nI (w j) ∧ V 29 j = nI (d j)) (hz : ∀ j, j < n → z j ≤ 1 ∧ V 30 j = nI (z j)) (k : Int32 → Option ρ) {a S : Nat} (ha : a < n) : ∀ m i : Nat, i ≤ n → n - i < m → M_cheats_L19 f I (nI a) V k m (nI (S ||| aM P w d z a i)) (nI i) = k (nI (S ||| aM P w d z a n)) := by
  intro m
  induction m with
  | zero => intro i h1 h2; omega
  | succ m ih =>
    intro i h1 h2
    rw [M_cheats_L19, e1]
    by_cases e : i = n
    · subst e
      rw [if_pos (nI_le (Nat.le_refl _) (by omega))]
    · have hi : i < n := by omega
      have wi := hw i hi
      have wa := hw a ha
      have za := hz a ha
      rw [if_neg (nI_ge hi (by omega))]
      have hno : M_noOne f (nI (w a)) I V = some (if w a < P then 0 else 1) := by
        rw [noOne_eq f _ V hP i4]
        by_cases c : w a < P
        · rw [if_pos c, if_neg]
          intro q
          rcases q with q | q
          · exact nI_pos (by omega) q
          · have := (le_n (by omega) (by omega)).mp q; omega
        · rw [if_neg c, if_pos (Or.inr ((le_n (by omega) (by omega)).mpr (by omega)))]
      simp only [nm, gd_nI (show i < 12 by omega) (show 12 < 2 ^ 31 by decide), gd_nI (show a < 12 by omega) (show 12 < 2 ^ 31 by decide)]
      simp only [cl_nI (show i < 2 ^ 31 by omega), cl_nI (show a < 2 ^ 31 by omega), wi.2.2.1, wi.2.2.2, wa.2.2.1, wa.2.2.2, za.2, hno, ob1_s, nI_1, nI_eq (show i < 2 ^ 31 by omega) (show a < 2 ^ 31 by omega), nI_eq (show w i < 2 ^ 31 by omega) (show w a < 2 ^ 31 by omega), nI_eq (show d i < 2 ^ 31 by omega) (show d a < 2 ^ 31 by omega), sh1 (w a) (by omega), nI_or]
      have ih2 := ih (i + 1) (by omega) (by omega)
      have e7 : (nI (z a) = 0) ↔ z a = 0 := by rw [← nI_0]; exact nI_eq (by omega) (by omega)
      have same : tq w d a i = false → M_cheats_L19 f I (nI a) V k m (nI (S ||| aM P w d z a i) ||| 0) (nI (i + 1)) = k (nI (S ||| aM P w d z a n)) := by
        intro hq
        rw [aM, ex, hq, Bool.or_false] at ih2
        rw [Int32.or_zero]
        exact ih2
      have dead : ¬ (z a = 0 ∧ w a < P) → M_cheats_L19 f I (nI a) V k m (nI (S ||| aM P w d z a i) ||| 0) (nI (i + 1)) = k (nI (S ||| aM P w d z a n)) := by
        intro hq
        have h1 : ∀ j, aM P w d z a j = 0 := fun j => if_neg (fun q => hq ⟨q.1, q.2.2⟩)
        rw [h1] at ih2
        rw [h1, Int32.or_zero]
        exact ih2
      by_cases c1 : i = a
      · rw [if_pos c1, if_pos trivial]
        exact same (by simp [tq, c1])
      · rw [if_neg c1]
        by_cases c0 : z a = 0
        · rw [if_pos (e7.mpr c0)]
          by_cases c2 : w i = w a
          · rw [if_pos c2]
            by_cases c3 : d i = d a
            · rw [if_pos c3, if_neg (by decide)]
              by_cases c4 : w a < P
              · rw [if_pos c4, if_pos rfl]
                have hq : tq w d a i = true := by simp [tq, c1, c2, c3]
                rw [aM, ex, hq, Bool.or_true, if_pos ⟨c0, rfl, c4⟩] at ih2
                have : S ||| aM P w d z a i ||| 2 ^ w a = S ||| 2 ^ w a := by
                  rw [Nat.or_assoc]
                  congr 1
                  unfold aM
                  split
                  · rw [Nat.or_self]
                  · rw [Nat.zero_or]
                rw [this]
                exact ih2
              · rw [if_neg c4, if_neg (by decide)]
                exact dead (fun q => c4 q.2)
            · rw [if_neg c3, if_pos trivial]
              exact same (by simp [tq, c3])
          · rw [if_neg c2, if_pos trivial]
            exact same (by simp [tq, c2])
        · rw [if_neg (fun q => c0 (e7.mp q)), if_pos trivial]
          exact dead (fun q => c0 q.1)
theorem cheats9 {ρ : Type} {f : Nat} (hf : 100 ≤ f) {I : FI} {V : FV} {P n : Nat} (hP : P ≤ 6) (i4 : I 4 = nI P) (hn : n ≤ 12) (e1 : I 27 = nI n) {w d z : Nat → Nat} (hw : ∀ j, j < n → w j < 6 ∧ d j ≤ 99 ∧ V 28 j = nI (w j) ∧ V 29 j = nI (d j)) (hz : ∀ j, j < n → z j ≤ 1 ∧ V 30 j = nI (z j)) (k : Int32 → Option ρ) : ∀ m i : Nat, i ≤ n → n - i < m → M_cheats_L9 f I V k m (nI (orf (fun a => aM P w d z a n) i)) (nI i) = k (nI (orf (fun a => aM P w d z a n) n)) := by
  intro m
  induction m with
  | zero => intro i h1 h2; omega
  | succ m ih =>
    intro i h1 h2
    rw [M_cheats_L9, e1]
    by_cases e : i = n
    · subst e
      rw [if_pos (nI_le (Nat.le_refl _) (by omega))]
    · have hi : i < n := by omega
      rw [if_neg (nI_ge hi (by omega))]
      have q := cheats19 (f := f) hP i4 hn e1 hw hz (fun (x1_19 : Int32) => (M_cheats_L9 f I V k m x1_19 (nI i + 1))) (a := i) (S := orf (fun a => aM P w d z a n) i) hi f 0 (by omega) (by omega)
      have z0 : aM P w d z i 0 = 0 := if_neg (fun q => by simp [ex] at q)
      rw [z0, Nat.or_zero] at q
      refine q.trans ?_
      rw [nI_1]
      exact ih (i + 1) (by omega) (by omega)
theorem S_cheats {f : Nat} (hf : 100 ≤ f) : Sim_cheats Rel f := by
  intro SI SV LaI LaV LsI LsV I V h
  have h0 := h
  obtain ⟨P, hP, i4, ⟨L, hok, hM, hL⟩, hT, hA, hSl, ⟨n, hn, e1, e2, e3⟩, z0, z1⟩ := h
  have hRel : Rel SI SV LaI LaV LsI LsV (va_up I 0 0) V := Rel_ag h0 (agI_0 I 0) (agV_rf V)
  obtain ⟨w, d, z, hwd⟩ : ∃ w d z : Nat → Nat, ∀ j, j < n → w j < 6 ∧ d j ≤ 99 ∧ z j ≤ 1 ∧ V 28 j = nI (w j) ∧ V 29 j = nI (d j) ∧ V 30 j = nI (z j) ∧ SV 4 0 j = nI (w j) ∧ SV 4 1 j = nI (d j) ∧ SV 4 2 j = nI (z j) := by
    refine ⟨fun j => (V 28 j).toNatClampNeg, fun j => (V 29 j).toNatClampNeg, fun j => (V 30 j).toNatClampNeg, fun j hj => ?_⟩
    obtain ⟨w, d, z, q1, q2, q3, q4, q5, q6, q7, q8, q9⟩ := e3 j hj
    dsimp only
    rw [q4, q5, q6, cl_nI (by omega), cl_nI (by omega), cl_nI (by omega)]
    exact ⟨q1, q2, q3, rfl, rfl, rfl, q7, q8, q9⟩
  have hx : Day_caught f (SI 4) (SV 4) = some (nI (orf (gX w d z n) n)) := caught4 hf hn e2 (fun j hj => ⟨(hwd j hj).1, (hwd j hj).2.1, (hwd j hj).2.2.2.2.2.2.1, (hwd j hj).2.2.2.2.2.2.2.1⟩) (fun j hj => ⟨(hwd j hj).2.2.1, (hwd j hj).2.2.2.2.2.2.2.2⟩) (fun x => some x) f 0 (by omega) (by omega)
  have hm : M_cheats f I V = some (nI (orf (fun a => aM P w d z a n) n), va_up I 0 0, V) := by
    unfold M_cheats
    simp only [nm]
    exact cheats9 hf hP (I := va_up I 0 0) i4 hn e1 (fun j hj => ⟨(hwd j hj).1, (hwd j hj).2.1, (hwd j hj).2.2.2.1, (hwd j hj).2.2.2.2.1⟩) (fun j hj => ⟨(hwd j hj).2.2.1, (hwd j hj).2.2.2.2.2.1⟩) (fun (x1_9 : Int32) => some (x1_9, va_up I 0 0, V)) f 0 (by omega) (by omega)
  refine ⟨_, _, _, ?_, hm, hRel⟩
  unfold X_cheats
  rw [hx, ob1_s, all_eq f _ hP hL.1, ob1_s, nI_and, orf_and]
  congr 2
  refine orf_congr n (fun i hi => ?_)
  unfold gX aM
  by_cases c : z i = 0 ∧ ex (tq w d i) n = true
  · rw [if_pos c, pow_and _ (hwd i hi).1 P (by omega)]
    by_cases c2 : w i < P
    · rw [if_pos c2, if_pos ⟨c.1, c.2, c2⟩]
    · rw [if_neg c2, if_neg (fun q => c2 q.2.2)]
  · rw [if_neg c, if_neg (fun q => c ⟨q.1, q.2.1⟩), Nat.zero_and]
