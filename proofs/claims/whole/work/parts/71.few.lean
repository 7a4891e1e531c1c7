/-- a set without one of it -/
def cl (S p : Nat) : Nat := S &&& (63 ^^^ 2 ^ p)
theorem cl_lt : ∀ S, S < 64 → ∀ p, p < 6 → S.testBit p = true → cl S p < S := by decide +kernel
theorem cl_pow : ∀ S, S < 64 → ∀ p, p < 6 → S.testBit p = true → cl S p ≠ 0 → 2 ^ p < S := by decide +kernel
theorem cl_one : ∀ p, p < 6 → cl (2 ^ p) p = 0 := by decide +kernel
theorem cl_le (S p : Nat) : cl S p ≤ S := Nat.and_le_left
theorem cl_bit {S p : Nat} (hS : S < 64) (i : Nat) : (cl S p).testBit i = (S.testBit i && !(i == p)) := by
  unfold cl
  rw [Nat.testBit_and, Nat.testBit_xor, show (63 : Nat) = 2 ^ 6 - 1 from rfl, Nat.testBit_two_pow_sub_one, Nat.testBit_two_pow]
  by_cases e : i < 6
  · by_cases e2 : i = p
    · subst e2; simp [e]
    · simp [e, e2, show ¬ p = i from fun q => e2 q.symm]
  · rw [Nat.testBit_lt_two_pow (Nat.lt_of_lt_of_le hS (show 2 ^ 6 ≤ 2 ^ i from Nat.pow_le_pow_right (by decide) (by omega)))]
    rfl
theorem cl_comm (S p q : Nat) : cl (cl S p) q = cl (cl S q) p := by
  unfold cl
  rw [Nat.and_assoc, Nat.and_comm (63 ^^^ 2 ^ p), ← Nat.and_assoc]
theorem ex_bit {S : Nat} (hS : S < 64) (h : S ≠ 0) {P : Nat} (hP : S < 2 ^ P) : ∃ p, p < P ∧ S.testBit p = true := by
  obtain ⟨y, y1, y2, y3⟩ := least_ex (show 1 ≤ S by omega) hP
  exact ⟨y, y1, y2⟩
def mx (T : Nat → Nat) (S : Nat) : Nat → Nat
  | 0 => 0
  | n + 1 => if S.testBit n = true ∧ mx T S n < T (cl S n) then T (cl S n) else mx T S n
theorem mx_ge (T : Nat → Nat) (S : Nat) : ∀ n p, p < n → S.testBit p = true → T (cl S p) ≤ mx T S n := by
  intro n
  induction n with
  | zero => intro p h; omega
  | succ n ih =>
    intro p h hb
    rw [mx]
    by_cases e : p = n
    · subst e
      split
      · exact Nat.le_refl _
      · rename_i c
        have : ¬ mx T S p < T (cl S p) := fun q => c ⟨hb, q⟩
        omega
    · have := ih p (by omega) hb
      split
      · omega
      · exact this
theorem mx_ex (T : Nat → Nat) (S : Nat) : ∀ n, mx T S n = 0 ∨ ∃ p, p < n ∧ S.testBit p = true ∧ mx T S n = T (cl S p) := by
  intro n
  induction n with
  | zero => exact Or.inl rfl
  | succ n ih =>
    rw [mx]
    by_cases c : S.testBit n = true ∧ mx T S n < T (cl S n)
    · rw [if_pos c]
      exact Or.inr ⟨n, by omega, c.1, rfl⟩
    · rw [if_neg c]
      rcases ih with h | ⟨p, h1, h2, h3⟩
      · exact Or.inl h
      · exact Or.inr ⟨p, by omega, h2, h3⟩
theorem mx_congr {T T' : Nat → Nat} {S : Nat} : ∀ n, (∀ p, p < n → S.testBit p = true → T (cl S p) = T' (cl S p)) → mx T S n = mx T' S n := by
  intro n
  induction n with
  | zero => intro _; rfl
  | succ n ih =>
    intro h
    have h1 := ih (fun p hp => h p (by omega))
    rw [mx, mx, h1]
    by_cases c : S.testBit n = true
    · rw [h n (by omega) c]
    · rw [if_neg (fun q => c q.1), if_neg (fun q => c q.1)]
def Tg (E : Nat → Bool) (P : Nat) : Nat → Nat → Nat
  | 0, _ => 0
  | n + 1, S => if S = 0 then 0 else mx (fun U => Tg E P n U) S P + (if E S then 1 else 0)
def TT (E : Nat → Bool) (P S : Nat) : Nat := Tg E P S S
theorem Tg_0 (E : Nat → Bool) (P : Nat) : ∀ n, Tg E P n 0 = 0
  | 0 => rfl
  | n + 1 => by rw [Tg, if_pos rfl]
theorem Tg_fu (E : Nat → Bool) {P : Nat} (hP : P ≤ 6) : ∀ n m S, S < 64 → S ≤ n → S ≤ m → Tg E P n S = Tg E P m S := by
  intro n
  induction n with
  | zero =>
    intro m S h1 h2 h3
    have : S = 0 := by omega
    rw [this, Tg_0, Tg_0]
  | succ n ih =>
    intro m S h1 h2 h3
    by_cases e : S = 0
    · rw [e, Tg_0, Tg_0]
    · obtain ⟨m, rfl⟩ : ∃ m', m = m' + 1 := ⟨m - 1, by omega⟩
      rw [Tg, Tg, if_neg e, if_neg e]
      congr 1
      refine mx_congr P (fun p hp hb => ?_)
      have := cl_lt S h1 p (by omega) hb
      exact ih m (cl S p) (by omega) (by omega) (by omega)
theorem TT_S (E : Nat → Bool) {P : Nat} (hP : P ≤ 6) {S : Nat} (h0 : S ≠ 0) (hS : S < 64) : TT E P S = mx (TT E P) S P + (if E S then 1 else 0) := by
  obtain ⟨n, hn⟩ : ∃ n, S = n + 1 := ⟨S - 1, by omega⟩
  have e : TT E P S = Tg E P (n + 1) S := by unfold TT; rw [hn]
  rw [e, Tg, if_neg h0]
  congr 1
  refine mx_congr P (fun p hp hb => ?_)
  have := cl_lt S hS p (by omega) hb
  exact Tg_fu E hP n (cl S p) (cl S p) (by omega) (by omega) (Nat.le_refl _)
theorem TT_le (E : Nat → Bool) {P : Nat} (hP : P ≤ 6) : ∀ n S, S ≤ n → S < 64 → TT E P S ≤ S := by
  intro n
  induction n with
  | zero =>
    intro S h1 h2
    rw [show S = 0 by omega]
    exact Nat.le_refl _
  | succ n ih =>
    intro S h1 h2
    by_cases e : S = 0
    · rw [e]; exact Nat.le_refl _
    · rw [TT_S E hP e h2]
      have : mx (TT E P) S P + 1 ≤ S := by
        rcases mx_ex (TT E P) S P with h | ⟨p, h3, h4, h5⟩
        · omega
        · have a1 := cl_lt S h2 p (by omega) h4
          have a2 := ih (cl S p) (by omega) (by omega)
          omega
      split <;> omega
theorem TT_64 (E : Nat → Bool) {P : Nat} (hP : P ≤ 6) {S : Nat} (h : S < 64) : TT E P S < 64 := by
  have := TT_le E hP S S (Nat.le_refl _) h
  omega
theorem mx_64 (E : Nat → Bool) {P : Nat} (hP : P ≤ 6) {S : Nat} (h : S < 64) (n : Nat) (hn : n ≤ 6) : mx (TT E P) S n < 64 := by
  rcases mx_ex (TT E P) S n with q | ⟨p, h3, h4, h5⟩
  · omega
  · rw [h5]
    exact TT_64 E hP (Nat.lt_of_le_of_lt (cl_le S p) h)
/-- one whose net is nothing is a group of its own -/
theorem TT_rem (E : Nat → Bool) {P z : Nat} (hP : P ≤ 6) (hz : z < P) (hE0 : E 0 = true) (hE : ∀ S, S < 64 → S.testBit z = true → E S = E (cl S z)) : ∀ n S, S ≤ n → S < 2 ^ P → S.testBit z = true → TT E P S = TT E P (cl S z) + 1 := by
  have h2P : (2 : Nat) ^ P ≤ 2 ^ 6 := Nat.pow_le_pow_right (by decide) hP
  intro n
  induction n with
  | zero =>
    intro S h1 h2 h3
    rw [show S = 0 by omega, Nat.zero_testBit] at h3
    exact absurd h3 (by decide)
  | succ n ih =>
    intro S h1 h2 h3
    have hS : S < 64 := by omega
    have hS0 : S ≠ 0 := fun q => by rw [q, Nat.zero_testBit] at h3; exact absurd h3 (by decide)
    have hUlt := cl_lt S hS z (by omega) h3
    rw [TT_S E hP hS0 hS, hE S hS h3]
    have key : mx (TT E P) S P + (if E (cl S z) then 1 else 0) = TT E P (cl S z) + 1 := by
      have geT := mx_ge (TT E P) S P z hz h3
      by_cases e : cl S z = 0
      · rw [e, hE0, if_pos rfl]
        have t0 : TT E P 0 = 0 := rfl
        rw [t0]
        rcases mx_ex (TT E P) S P with q | ⟨p, p1, p2, p3⟩
        · omega
        · by_cases ep : p = z
          · rw [p3, ep, e, t0]
          · have := cl_bit (p := z) hS p
            rw [e, Nat.zero_testBit, p2] at this
            simp [ep] at this
      · have hU : cl S z < 64 := by omega
        have rU := TT_S E hP e hU
        have up : mx (TT E P) S P ≤ mx (TT E P) (cl S z) P + 1 := by
          rcases mx_ex (TT E P) S P with q | ⟨p, p1, p2, p3⟩
          · omega
          · by_cases ep : p = z
            · rw [p3, ep, rU]; split <;> omega
            · have b1 : (cl S p).testBit z = true := by rw [cl_bit hS, h3]; simp [show ¬ z = p from fun q => ep q.symm]
              have b2 := cl_lt S hS p (by omega) p2
              have b3 := ih (cl S p) (by omega) (by omega) b1
              rw [cl_comm] at b3
              have b4 : (cl S z).testBit p = true := by rw [cl_bit hS, p2]; simp [ep]
              have b5 := mx_ge (TT E P) (cl S z) P p p1 b4
              omega
        have lo : mx (TT E P) (cl S z) P + 1 ≤ mx (TT E P) S P := by
          obtain ⟨p, p1, p2, p3⟩ : ∃ p, p < P ∧ (cl S z).testBit p = true ∧ mx (TT E P) (cl S z) P = TT E P (cl (cl S z) p) := by
            rcases mx_ex (TT E P) (cl S z) P with q | q
            · obtain ⟨p, p1, p2⟩ := ex_bit hU e (show cl S z < 2 ^ P by omega)
              have := mx_ge (TT E P) (cl S z) P p p1 p2
              exact ⟨p, p1, p2, by omega⟩
            · exact q
          have c1 := cl_bit (p := z) hS p
          rw [p2] at c1
          have c2 : S.testBit p = true ∧ p ≠ z := by
            have c3 := c1.symm
            rw [Bool.and_eq_true] at c3
            refine ⟨c3.1, fun q => ?_⟩
            rw [q] at c3
            simp at c3
          have b1 : (cl S p).testBit z = true := by rw [cl_bit hS, h3]; simp [show ¬ z = p from fun q => c2.2 q.symm]
          have b2 := cl_lt S hS p (by omega) c2.1
          have b3 := ih (cl S p) (by omega) (by omega) b1
          rw [cl_comm] at b3
          have b5 := mx_ge (TT E P) S P p p1 c2.1
          omega
        have e1 : (if E (cl S z) = true then 1 else 0) ≤ 1 := by split <;> omega
        omega
    exact key
/-- sums over a set -/
def aS (v : Nat → Nat) (S n : Nat) : Nat := sm (fun q => if S.testBit q then v q else 0) n
theorem aS_cl (v : Nat → Nat) {S p P : Nat} (hS : S < 64) (hp : p < P) (hb : S.testBit p = true) : aS v S P = aS v (cl S p) P + v p := by
  unfold aS
  have e : (fun q => if S.testBit q then v q else 0) = fun q => (if (cl S p).testBit q then v q else 0) + (if p = q then v p else 0) := by
    funext q
    rw [cl_bit hS]
    by_cases c : q = p
    · subst c; simp [hb]
    · simp [c, show ¬ p = q from fun z => c z.symm]
  rw [e, sm_add, sm_one p (v p) P hp]
theorem aS_0 (v : Nat → Nat) (n : Nat) : aS v 0 n = 0 := by
  unfold aS
  have : (fun q => if (0 : Nat).testBit q then v q else 0) = fun _ => 0 := by
    funext q
    rw [Nat.zero_testBit]
    rfl
  rw [this, sm_zero]
theorem aS_one (v : Nat → Nat) {p P : Nat} (hP : P ≤ 6) (hp : p < P) : aS v (2 ^ p) P = v p := by
  rw [aS_cl v (p := p) (show 2 ^ p < 64 from Nat.pow_lt_pow_right (n := 6) (by decide) (by omega)) hp (by rw [Nat.testBit_two_pow]; simp), cl_one p (by omega), aS_0]
  omega
theorem aS_le (v : Nat → Nat) {b : Nat} (S : Nat) {n : Nat} (h : ∀ p, p < n → v p ≤ b) : aS v S n ≤ n * b := by
  unfold aS
  refine sm_bd n (fun i hi => ?_)
  have := h i hi
  split <;> omega
theorem oTS_le {P : Nat} {L : Nat → Nat → Nat} (hok : okT P L) (p : Nat) : oTS L p ≤ 12 * 99 := by
  have h1 : oTS L p ≤ L 0 0 * 99 := sm_bd (L 0 0) (fun j hj => by
    have := (hok.2.2.2 j hj).2.2.2.2
    split <;> omega)
  have h2 := hok.1
  omega
def nE (P : Nat) (L : Nat → Nat → Nat) (S : Nat) : Bool := decide (aS (oTS L) S P = aS (owS L) S P)
theorem aS_b1 {P : Nat} {L : Nat → Nat → Nat} (hP : P ≤ 6) (hok : okT P L) (S n : Nat) (hn : n ≤ 6) : aS (oTS L) S n < 2 ^ 30 ∧ aS (owS L) S n < 2 ^ 30 := by
  have h1 := aS_le (oTS L) (b := 12 * 99) S (n := n) (fun p _ => oTS_le hok p)
  have h2 := aS_le (owS L) (b := 12 * 99) S (n := n) (fun p _ => owS_le hok p)
  have : n * (12 * 99) ≤ 6 * (12 * 99) := Nat.mul_le_mul_right _ hn
  omega
theorem sub0 {A B : Nat} (hA : A < 2 ^ 30) (hB : B < 2 ^ 30) : (nI A - nI B = 0) ↔ A = B := by
  have e := pk_sub_toInt hA hB
  constructor
  · intro q
    rw [q] at e
    have : (0 : Int32).toInt = 0 := rfl
    omega
  · intro q
    apply Int32.toInt_inj.mp
    rw [e, q]
    have : (0 : Int32).toInt = 0 := rfl
    omega
theorem dsum (a b c d : Nat) : (nI a - nI b) + (nI c - nI d) = nI (a + c) - nI (b + d) := by
  rw [← nI_add, ← nI_add]
  generalize nI a = x
  generalize nI b = y
  generalize nI c = u
  generalize nI d = v
  grind
theorem clI {S i : Nat} (hS : S < 64) (hi : i < 6) : nI S &&& (((1 : Int32) <<< (nI i &&& 31)) ^^^ (-1)) = nI (cl S i) := by
  rw [sh1 i (by omega), andn S hS _ (show 2 ^ i < 64 from Nat.pow_lt_pow_right (n := 6) (by decide) hi)]
  rfl
theorem mx_0 (T : Nat → Nat) : ∀ n, mx T 0 n = 0
  | 0 => rfl
  | n + 1 => by rw [mx, if_neg (fun q => by rw [Nat.zero_testBit] at q; exact absurd q.1 (by decide)), mx_0 T n]
theorem few69 {ρ : Type} {f : Nat} (hf : 100 ≤ f) {I : FI} {V : FV} {P : Nat} {L : Nat → Nat → Nat} (hP : P ≤ 6) (hok : okT P L) (i4 : I 4 = nI P) (hM : tM P L I V) {S : Nat} (hS : S < 64) {h : Nat → Int32} (hT : ∀ U, U < S → h U = nI (TT (nE P L) P U)) (k : Int32 → Int32 → Option ρ) : ∀ n i, i ≤ P → P - i < n → M_fewest_L69 f I (nI S) (va_up V 31 h) k n (nI (aS (oTS L) S i) - nI (aS (owS L) S i)) (nI (mx (TT (nE P L) P) S i)) (nI i) = k (nI (aS (oTS L) S P) - nI (aS (owS L) S P)) (nI (mx (TT (nE P L) P) S P)) := by
  intro n
  induction n with
  | zero => intro i h1 h2; omega
  | succ n ih =>
    intro i h1 h2
    rw [M_fewest_L69, i4]
    by_cases e : i = P
    · subst e
      rw [if_pos (nI_le (Nat.le_refl _) (by omega))]
    · have hi : i < P := by omega
      have hc64 : cl S i < 64 := Nat.lt_of_le_of_lt (cl_le S i) hS
      have hM1 : tM P L I (va_up V 31 h) := hM
      have b1 := mx_64 (nE P L) hP hS i (by omega)
      have b2 := TT_64 (nE P L) hP hc64
      rw [if_neg (nI_ge hi (by omega)), mhas_eq f hS (by omega), ob1_s]
      simp only [nm, clI hS (show i < 6 by omega), gd_nI hc64 (show 64 < 2 ^ 31 by decide), M_owedAll_eq hf hP hok hM1 (show i < 6 by omega), M_owesAll_eq hf hP hok hM1 (show i < 6 by omega), ob1_s]
      simp only [cl_nI (show cl S i < 2 ^ 31 by omega), va_up_self, nI_1, dsum]
      have ih2 := ih (i + 1) (by omega) (by omega)
      rw [mx] at ih2
      rw [show aS (oTS L) S (i + 1) = aS (oTS L) S i + (if S.testBit i then oTS L i else 0) from rfl, show aS (owS L) S (i + 1) = aS (owS L) S i + (if S.testBit i then owS L i else 0) from rfl] at ih2
      by_cases c : S.testBit i = true
      · rw [if_pos c, if_neg (by decide), hT (cl S i) (cl_lt S hS i (by omega) c)]
        rw [if_pos c, if_pos c] at ih2
        by_cases c2 : mx (TT (nE P L) P) S i < TT (nE P L) P (cl S i)
        · rw [if_neg (fun q => by have := (le_n (by omega) (by omega)).mp q; omega)]
          rw [if_pos ⟨c, c2⟩] at ih2
          exact ih2
        · rw [if_pos ((le_n (by omega) (by omega)).mpr (by omega))]
          rw [if_neg (fun q => c2 q.2)] at ih2
          exact ih2
      · rw [if_neg c, if_pos rfl]
        rw [if_neg c, if_neg c, if_neg (fun q => c q.1), Nat.add_zero, Nat.add_zero] at ih2
        exact ih2
theorem few50 {ρ : Type} {f : Nat} (hf : 100 ≤ f) {I : FI} {V : FV} {P : Nat} {L : Nat → Nat → Nat} (hP : P ≤ 6) (hok : okT P L) (i4 : I 4 = nI P) (hM : tM P L I V) (k : FV → Option ρ) : ∀ (n s : Nat) (h : Nat → Int32), s ≤ 2 ^ P → 2 ^ P - s < n → (∀ U, U < s → h U = nI (TT (nE P L) P U)) → ∃ h', M_fewest_L50 f I k n (nI s) (va_up V 31 h) = k (va_up V 31 h') ∧ ∀ U, U < 2 ^ P → h' U = nI (TT (nE P L) P U) := by
  have h2P : (2 : Nat) ^ P ≤ 2 ^ 6 := Nat.pow_le_pow_right (by decide) hP
  intro n
  induction n with
  | zero => intro s h h1 h2; omega
  | succ n ih =>
    intro s h h1 h2 h3
    rw [M_fewest_L50, i4, sh1 P (by omega)]
    by_cases e : s = 2 ^ P
    · rw [e] at h3
      exact ⟨h, if_pos (by rw [e]; exact nI_le (Nat.le_refl _) (by omega)), h3⟩
    · have hs : s < 64 := by omega
      have q := few69 hf hP hok i4 hM hs h3 (fun (x4_69 : Int32) (x5_69 : Int32) => (nm (fun (t3_163 : Int32) => if nI s < 0 ∨ 64 ≤ (nI s).toNatClampNeg then none else (nm (va_up (va_up V 31 h) 31 (upd ((va_up V 31 h) 31) (nI s).toNatClampNeg (x5_69 + t3_163))) (fun V9 => (M_fewest_L50 f I k n (nI s + 1) V9)))) (fun j163 => nm (fun (u_162 : Unit) => (j163 0)) (fun j162 => (if nI s = 0 then (j162 ()) else (if x4_69 = 0 then (j163 1) else (j162 ()))))))) f 0 (by omega) (by omega)
      obtain ⟨h', r1, r2⟩ := ih (s + 1) (upd h s (nI (TT (nE P L) P s))) (by omega) (by omega) (fun U hU => by
        by_cases eU : U = s
        · rw [eU, upd_s]
        · rw [upd_n _ _ eU]; exact h3 U (by omega))
      refine ⟨h', ?_, r2⟩
      rw [show nI (aS (oTS L) s 0) - nI (aS (owS L) s 0) = 0 from (show nI 0 - nI 0 = 0 by decide)] at q
      rw [if_neg (nI_ge (by omega) (by omega))]
      refine (show M_fewest_L69 f I (nI s) (va_up V 31 h) _ f 0 0 0 = _ from q).trans ?_
      rw [← r1]
      simp only [nm, gd_nI hs (show 64 < 2 ^ 31 by decide)]
      simp only [cl_nI (show s < 2 ^ 31 by omega), va_up_self, bx_uu, nI_1]
      have e0 : (nI s = 0) ↔ s = 0 := by rw [← nI_0]; exact nI_eq (by omega) (by omega)
      by_cases c : s = 0
      · rw [if_pos (e0.mpr c), c, mx_0, Int32.add_zero]
        rfl
      · obtain ⟨b1, b2⟩ := aS_b1 hP hok s P hP
        rw [if_neg (fun z => c (e0.mp z)), TT_S (nE P L) hP c hs]
        by_cases c2 : aS (oTS L) s P = aS (owS L) s P
        · rw [if_pos ((sub0 b1 b2).mpr c2), if_pos (show nE P L s = true by unfold nE; simp [c2])]
        · rw [if_neg (fun z => c2 ((sub0 b1 b2).mp z)), if_neg (show ¬ nE P L s = true by unfold nE; simp [c2]), Int32.add_zero]
          rfl
