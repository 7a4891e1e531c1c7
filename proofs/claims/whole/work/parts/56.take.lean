def hbit (x : Int32) (j : Int32) : Int32 := if ((x >>> (j &&& 31)) &&& 1) = 1 then 1 else 0
theorem mhas_any (f : Nat) (x j : Int32) : M_has f x j = some (hbit x j) := by
  unfold M_has hbit
  by_cases c : ((x >>> (j &&& 31)) &&& 1) = 1
  · rw [if_pos c, if_pos c]
  · rw [if_neg c, if_neg c]
theorem nar_hbit (x j : Int32) : vp_nar .boolean (hbit x j) = hbit x j := by
  unfold hbit
  by_cases c : ((x >>> (j &&& 31)) &&& 1) = 1
  · rw [if_pos c]; decide
  · rw [if_neg c]; decide
theorem hbit_0 {a b : Nat} (ha : a ≤ 1) (hb : b ≤ 1) : hbit (nI (a + 2 * b)) 0 = nI a := by
  rcases (show a = 0 ∨ a = 1 by omega) with rfl | rfl <;> rcases (show b = 0 ∨ b = 1 by omega) with rfl | rfl <;> decide
theorem hbit_1 {a b : Nat} (ha : a ≤ 1) (hb : b ≤ 1) : hbit (nI (a + 2 * b)) 1 = nI b := by
  rcases (show a = 0 ∨ a = 1 by omega) with rfl | rfl <;> rcases (show b = 0 ∨ b = 1 by omega) with rfl | rfl <;> decide
theorem take2 {ρ : Type} (f : Nat) {o : Nat} (ho : o + 68 ≤ 740) (k : FV → Option ρ) : ∀ (n i : Nat) (W : FV), i ≤ 6 → 6 - i < n → ∃ W' : FV, M_takePage_book_L2 f (nI o) k n (nI i) W = k W' ∧ (∀ p, i ≤ p → p < 6 → W' 5 p = W 23 (o + p) ∧ W' 6 p = W 23 (o + 6 + p) ∧ W' 7 p = hbit (W 23 (o + 12 + p)) 0 ∧ W' 8 p = hbit (W 23 (o + 12 + p)) 1) ∧ (∀ p, p < i → W' 5 p = W 5 p ∧ W' 6 p = W 6 p ∧ W' 7 p = W 7 p ∧ W' 8 p = W 8 p) ∧ ∀ s, s ≠ 5 → s ≠ 6 → s ≠ 7 → s ≠ 8 → W' s = W s := by
  intro n
  induction n with
  | zero => intro i W h1 h2; omega
  | succ n ih =>
    intro i W h1 h2
    by_cases e : i = 6
    · subst e
      refine ⟨W, ?_, fun p h3 h4 => by omega, fun p _ => ⟨rfl, rfl, rfl, rfl⟩, fun s _ _ _ _ => rfl⟩
      rw [M_takePage_book_L2, if_pos (show (6 : Int32) ≤ nI 6 by decide)]
    · have hi : i < 6 := by omega
      obtain ⟨W', q1, q2, q3, q4⟩ := ih (i + 1) (va_up (va_up (va_up (va_up W 5 (upd (W 5) i (W 23 (o + i)))) 6 (upd (W 6) i (W 23 (o + 6 + i)))) 7 (upd (W 7) i (hbit (W 23 (o + 12 + i)) 0))) 8 (upd (W 8) i (hbit (W 23 (o + 12 + i)) 1))) (by omega) (by omega)
      refine ⟨W', ?_, ?_, ?_, ?_⟩
      · have k0 : ∀ x : Option ρ, (if nI i < 0 ∨ 6 ≤ (nI i).toNatClampNeg then none else x) = x := fun x => gd_nI hi (by decide) x
        have k1 : ∀ x : Option ρ, (if nI (o + i) < 0 ∨ 740 ≤ (nI (o + i)).toNatClampNeg then none else x) = x := fun x => gd_nI (by omega) (by decide) x
        have k2 : ∀ x : Option ρ, (if nI (o + 6 + i) < 0 ∨ 740 ≤ (nI (o + 6 + i)).toNatClampNeg then none else x) = x := fun x => gd_nI (by omega) (by decide) x
        have k3 : ∀ x : Option ρ, (if nI (o + 12 + i) < 0 ∨ 740 ≤ (nI (o + 12 + i)).toNatClampNeg then none else x) = x := fun x => gd_nI (by omega) (by decide) x
        have a1 : nI o + nI i = nI (o + i) := nI_add o i
        have a2 : nI o + 6 + nI i = nI (o + 6 + i) := ad3 o 6 i
        have a3 : nI o + 12 + nI i = nI (o + 12 + i) := ad3 o 12 i
        rw [← q1, M_takePage_book_L2, if_neg (nI_6 hi)]
        simp only [nm, a1, a2, a3, k0, k1, k2, k3, nI_1, mhas_any, ob1_s, nar_hbit]
        simp only [cl_nI (show i < 2 ^ 31 by omega), cl_nI (show o + i < 2 ^ 31 by omega), cl_nI (show o + 6 + i < 2 ^ 31 by omega), cl_nI (show o + 12 + i < 2 ^ 31 by omega)]
        rfl
      · intro p h3 h4
        by_cases ep : p = i
        · subst ep
          obtain ⟨w1, w2, w3, w4⟩ := q3 p (by omega)
          exact ⟨w1.trans (upd_s _ _ _), w2.trans (upd_s _ _ _), w3.trans (upd_s _ _ _), w4.trans (upd_s _ _ _)⟩
        · exact q2 p (by omega) h4
      · intro p hp
        obtain ⟨w1, w2, w3, w4⟩ := q3 p (by omega)
        exact ⟨w1.trans (upd_n _ _ (by omega)), w2.trans (upd_n _ _ (by omega)), w3.trans (upd_n _ _ (by omega)), w4.trans (upd_n _ _ (by omega))⟩
      · intro s h5 h6 h7 h8
        rw [q4 s h5 h6 h7 h8, va_up_ne _ _ h8, va_up_ne _ _ h7, va_up_ne _ _ h6, va_up_ne _ _ h5]
theorem take77 {ρ : Type} (f : Nat) {o : Nat} (ho : o + 68 ≤ 740) (k : FV → Option ρ) : ∀ (n i : Nat) (W : FV), i ≤ 12 → 12 - i < n → ∃ W' : FV, M_takePage_book_L77 f (nI o) k n (nI i) W = k W' ∧ (∀ p, i ≤ p → p < 12 → W' 10 p = W 23 (o + 18 + p) ∧ W' 11 p = W 23 (o + 30 + p) ∧ W' 12 p = W 23 (o + 42 + p) ∧ W' 13 p = W 23 (o + 54 + p)) ∧ (∀ p, p < i → W' 10 p = W 10 p ∧ W' 11 p = W 11 p ∧ W' 12 p = W 12 p ∧ W' 13 p = W 13 p) ∧ ∀ s, s ≠ 10 → s ≠ 11 → s ≠ 12 → s ≠ 13 → W' s = W s := by
  intro n
  induction n with
  | zero => intro i W h1 h2; omega
  | succ n ih =>
    intro i W h1 h2
    by_cases e : i = 12
    · subst e
      refine ⟨W, ?_, fun p h3 h4 => by omega, fun p _ => ⟨rfl, rfl, rfl, rfl⟩, fun s _ _ _ _ => rfl⟩
      rw [M_takePage_book_L77, if_pos (show (12 : Int32) ≤ nI 12 by decide)]
    · have hi : i < 12 := by omega
      obtain ⟨W', q1, q2, q3, q4⟩ := ih (i + 1) (va_up (va_up (va_up (va_up W 10 (upd (W 10) i (W 23 (o + 18 + i)))) 11 (upd (W 11) i (W 23 (o + 30 + i)))) 12 (upd (W 12) i (W 23 (o + 42 + i)))) 13 (upd (W 13) i (W 23 (o + 54 + i)))) (by omega) (by omega)
      refine ⟨W', ?_, ?_, ?_, ?_⟩
      · have k0 : ∀ x : Option ρ, (if nI i < 0 ∨ 12 ≤ (nI i).toNatClampNeg then none else x) = x := fun x => gd_nI hi (by decide) x
        have k1 : ∀ x : Option ρ, (if nI (o + 18 + i) < 0 ∨ 740 ≤ (nI (o + 18 + i)).toNatClampNeg then none else x) = x := fun x => gd_nI (by omega) (by decide) x
        have k2 : ∀ x : Option ρ, (if nI (o + 30 + i) < 0 ∨ 740 ≤ (nI (o + 30 + i)).toNatClampNeg then none else x) = x := fun x => gd_nI (by omega) (by decide) x
        have k3 : ∀ x : Option ρ, (if nI (o + 42 + i) < 0 ∨ 740 ≤ (nI (o + 42 + i)).toNatClampNeg then none else x) = x := fun x => gd_nI (by omega) (by decide) x
        have k4 : ∀ x : Option ρ, (if nI (o + 54 + i) < 0 ∨ 740 ≤ (nI (o + 54 + i)).toNatClampNeg then none else x) = x := fun x => gd_nI (by omega) (by decide) x
        have a1 : nI o + 18 + nI i = nI (o + 18 + i) := ad3 o 18 i
        have a2 : nI o + 30 + nI i = nI (o + 30 + i) := ad3 o 30 i
        have a3 : nI o + 42 + nI i = nI (o + 42 + i) := ad3 o 42 i
        have a4 : nI o + 54 + nI i = nI (o + 54 + i) := ad3 o 54 i
        rw [← q1, M_takePage_book_L77, if_neg (nI_12 hi)]
        simp only [nm, a1, a2, a3, a4, k0, k1, k2, k3, k4, nI_1]
        simp only [cl_nI (show i < 2 ^ 31 by omega), cl_nI (show o + 18 + i < 2 ^ 31 by omega), cl_nI (show o + 30 + i < 2 ^ 31 by omega), cl_nI (show o + 42 + i < 2 ^ 31 by omega), cl_nI (show o + 54 + i < 2 ^ 31 by omega)]
        rfl
      · intro p h3 h4
        by_cases ep : p = i
        · subst ep
          obtain ⟨w1, w2, w3, w4⟩ := q3 p (by omega)
          exact ⟨w1.trans (upd_s _ _ _), w2.trans (upd_s _ _ _), w3.trans (upd_s _ _ _), w4.trans (upd_s _ _ _)⟩
        · exact q2 p (by omega) h4
      · intro p hp
        obtain ⟨w1, w2, w3, w4⟩ := q3 p (by omega)
        exact ⟨w1.trans (upd_n _ _ (by omega)), w2.trans (upd_n _ _ (by omega)), w3.trans (upd_n _ _ (by omega)), w4.trans (upd_n _ _ (by omega))⟩
      · intro s h5 h6 h7 h8
        rw [q4 s h5 h6 h7 h8, va_up_ne _ _ h8, va_up_ne _ _ h7, va_up_ne _ _ h6, va_up_ne _ _ h5]
theorem take_eq {f : Nat} (hf : 100 ≤ f) (I : FI) {V : FV} {P : Nat} {L : Nat → Nat → Nat} (hP : P ≤ 6) (hok : okT P L) {o : Nat} (ho : o + 68 ≤ 740) (hp : tP P L (V 23) o) : ∃ W, M_takePage_book f (nI o) I V = some (va_up (va_up I 9 (nI (L 0 0))) 14 (nI (L 0 1)), W) ∧ tM P L (va_up (va_up I 9 (nI (L 0 0))) 14 (nI (L 0 1))) W ∧ ∀ s, s ≠ 5 → s ≠ 6 → s ≠ 7 → s ≠ 8 → s ≠ 10 → s ≠ 11 → s ≠ 12 → s ≠ 13 → W s = V s := by
  obtain ⟨hpp, hpd, h66, h67⟩ := hp
  have hd : L 0 0 ≤ 12 := hok.1
  obtain ⟨W1, q1, q2, q3, q4⟩ := take2 f ho (fun (W : FV) => (M_takePage_book_L77 f (nI o) (fun (W : FV) => if (nI o + 66) < 0 ∨ 740 ≤ (nI o + 66).toNatClampNeg then none else (nm (va_up I 9 ((W 23) (nI o + 66).toNatClampNeg)) (fun I11 => if (nI o + 67) < 0 ∨ 740 ≤ (nI o + 67).toNatClampNeg then none else (nm (va_up I11 14 ((W 23) (nI o + 67).toNatClampNeg)) (fun I12 => some (I12, W)))))) f 0 W)) f 0 V (by omega) (by omega)
  obtain ⟨W2, r1, r2, r3, r4⟩ := take77 f ho (fun (W : FV) => if (nI o + 66) < 0 ∨ 740 ≤ (nI o + 66).toNatClampNeg then none else (nm (va_up I 9 ((W 23) (nI o + 66).toNatClampNeg)) (fun I11 => if (nI o + 67) < 0 ∨ 740 ≤ (nI o + 67).toNatClampNeg then none else (nm (va_up I11 14 ((W 23) (nI o + 67).toNatClampNeg)) (fun I12 => some (I12, W)))))) f 0 W1 (by omega) (by omega)
  have e1 : W1 23 = V 23 := q4 23 (by decide) (by decide) (by decide) (by decide)
  have e2 : W2 23 = V 23 := (r4 23 (by decide) (by decide) (by decide) (by decide)).trans e1
  refine ⟨W2, ?_, ⟨rfl, rfl, fun p hp => ?_, fun j hj => ?_⟩, fun s s5 s6 s7 s8 s10 s11 s12 s13 => (r4 s s10 s11 s12 s13).trans (q4 s s5 s6 s7 s8)⟩
  · unfold M_takePage_book
    refine (show _ = _ from q1).trans ?_
    refine (show _ = _ from r1).trans ?_
    have a1 : nI o + 66 = nI (o + 66) := nI_add o 66
    have a2 : nI o + 67 = nI (o + 67) := nI_add o 67
    simp only [nm, a1, a2]
    rw [gd_nI (by omega) (by decide), gd_nI (by omega) (by decide), cl_nI (by omega), cl_nI (by omega), e2, h66, h67]
  · have w := q2 p (Nat.zero_le _) (by omega)
    have o1 := hok.2.2.1 p hp
    have g := hpp p hp
    rw [r4 5 (by decide) (by decide) (by decide) (by decide), r4 6 (by decide) (by decide) (by decide) (by decide), r4 7 (by decide) (by decide) (by decide) (by decide), r4 8 (by decide) (by decide) (by decide) (by decide), w.1, w.2.1, w.2.2.1, w.2.2.2, g.1, g.2.1, g.2.2]
    exact ⟨rfl, rfl, hbit_0 o1.2.1 o1.2.2, hbit_1 o1.2.1 o1.2.2⟩
  · have w := r2 j (Nat.zero_le _) (by omega)
    have g := hpd j hj
    rw [w.1, w.2.1, w.2.2.1, w.2.2.2, e1]
    exact g
theorem takek2 {ρ : Type} (f : Nat) {o : Nat} (ho : o + 68 ≤ 148) (k : FV → Option ρ) : ∀ (n i : Nat) (W : FV), i ≤ 6 → 6 - i < n → ∃ W' : FV, M_takePage_kept_L2 f (nI o) k n (nI i) W = k W' ∧ (∀ p, i ≤ p → p < 6 → W' 5 p = W 25 (o + p) ∧ W' 6 p = W 25 (o + 6 + p) ∧ W' 7 p = hbit (W 25 (o + 12 + p)) 0 ∧ W' 8 p = hbit (W 25 (o + 12 + p)) 1) ∧ (∀ p, p < i → W' 5 p = W 5 p ∧ W' 6 p = W 6 p ∧ W' 7 p = W 7 p ∧ W' 8 p = W 8 p) ∧ ∀ s, s ≠ 5 → s ≠ 6 → s ≠ 7 → s ≠ 8 → W' s = W s := by
  intro n
  induction n with
  | zero => intro i W h1 h2; omega
  | succ n ih =>
    intro i W h1 h2
    by_cases e : i = 6
    · subst e
      refine ⟨W, ?_, fun p h3 h4 => by omega, fun p _ => ⟨rfl, rfl, rfl, rfl⟩, fun s _ _ _ _ => rfl⟩
      rw [M_takePage_kept_L2, if_pos (show (6 : Int32) ≤ nI 6 by decide)]
    · have hi : i < 6 := by omega
      obtain ⟨W', q1, q2, q3, q4⟩ := ih (i + 1) (va_up (va_up (va_up (va_up W 5 (upd (W 5) i (W 25 (o + i)))) 6 (upd (W 6) i (W 25 (o + 6 + i)))) 7 (upd (W 7) i (hbit (W 25 (o + 12 + i)) 0))) 8 (upd (W 8) i (hbit (W 25 (o + 12 + i)) 1))) (by omega) (by omega)
      refine ⟨W', ?_, ?_, ?_, ?_⟩
      · have k0 : ∀ x : Option ρ, (if nI i < 0 ∨ 6 ≤ (nI i).toNatClampNeg then none else x) = x := fun x => gd_nI hi (by decide) x
        have k1 : ∀ x : Option ρ, (if nI (o + i) < 0 ∨ 148 ≤ (nI (o + i)).toNatClampNeg then none else x) = x := fun x => gd_nI (by omega) (by decide) x
        have k2 : ∀ x : Option ρ, (if nI (o + 6 + i) < 0 ∨ 148 ≤ (nI (o + 6 + i)).toNatClampNeg then none else x) = x := fun x => gd_nI (by omega) (by decide) x
        have k3 : ∀ x : Option ρ, (if nI (o + 12 + i) < 0 ∨ 148 ≤ (nI (o + 12 + i)).toNatClampNeg then none else x) = x := fun x => gd_nI (by omega) (by decide) x
        have a1 : nI o + nI i = nI (o + i) := nI_add o i
        have a2 : nI o + 6 + nI i = nI (o + 6 + i) := ad3 o 6 i
        have a3 : nI o + 12 + nI i = nI (o + 12 + i) := ad3 o 12 i
        rw [← q1, M_takePage_kept_L2, if_neg (nI_6 hi)]
        simp only [nm, a1, a2, a3, k0, k1, k2, k3, nI_1, mhas_any, ob1_s, nar_hbit]
        simp only [cl_nI (show i < 2 ^ 31 by omega), cl_nI (show o + i < 2 ^ 31 by omega), cl_nI (show o + 6 + i < 2 ^ 31 by omega), cl_nI (show o + 12 + i < 2 ^ 31 by omega)]
        rfl
      · intro p h3 h4
        by_cases ep : p = i
        · subst ep
          obtain ⟨w1, w2, w3, w4⟩ := q3 p (by omega)
          exact ⟨w1.trans (upd_s _ _ _), w2.trans (upd_s _ _ _), w3.trans (upd_s _ _ _), w4.trans (upd_s _ _ _)⟩
        · exact q2 p (by omega) h4
      · intro p hp
        obtain ⟨w1, w2, w3, w4⟩ := q3 p (by omega)
        exact ⟨w1.trans (upd_n _ _ (by omega)), w2.trans (upd_n _ _ (by omega)), w3.trans (upd_n _ _ (by omega)), w4.trans (upd_n _ _ (by omega))⟩
      · intro s h5 h6 h7 h8
        rw [q4 s h5 h6 h7 h8, va_up_ne _ _ h8, va_up_ne _ _ h7, va_up_ne _ _ h6, va_up_ne _ _ h5]
theorem takek77 {ρ : Type} (f : Nat) {o : Nat} (ho : o + 68 ≤ 148) (k : FV → Option ρ) : ∀ (n i : Nat) (W : FV), i ≤ 12 → 12 - i < n → ∃ W' : FV, M_takePage_kept_L77 f (nI o) k n (nI i) W = k W' ∧ (∀ p, i ≤ p → p < 12 → W' 10 p = W 25 (o + 18 + p) ∧ W' 11 p = W 25 (o + 30 + p) ∧ W' 12 p = W 25 (o + 42 + p) ∧ W' 13 p = W 25 (o + 54 + p)) ∧ (∀ p, p < i → W' 10 p = W 10 p ∧ W' 11 p = W 11 p ∧ W' 12 p = W 12 p ∧ W' 13 p = W 13 p) ∧ ∀ s, s ≠ 10 → s ≠ 11 → s ≠ 12 → s ≠ 13 → W' s = W s := by
  intro n
  induction n with
  | zero => intro i W h1 h2; omega
  | succ n ih =>
    intro i W h1 h2
    by_cases e : i = 12
    · subst e
      refine ⟨W, ?_, fun p h3 h4 => by omega, fun p _ => ⟨rfl, rfl, rfl, rfl⟩, fun s _ _ _ _ => rfl⟩
      rw [M_takePage_kept_L77, if_pos (show (12 : Int32) ≤ nI 12 by decide)]
    · have hi : i < 12 := by omega
      obtain ⟨W', q1, q2, q3, q4⟩ := ih (i + 1) (va_up (va_up (va_up (va_up W 10 (upd (W 10) i (W 25 (o + 18 + i)))) 11 (upd (W 11) i (W 25 (o + 30 + i)))) 12 (upd (W 12) i (W 25 (o + 42 + i)))) 13 (upd (W 13) i (W 25 (o + 54 + i)))) (by omega) (by omega)
      refine ⟨W', ?_, ?_, ?_, ?_⟩
      · have k0 : ∀ x : Option ρ, (if nI i < 0 ∨ 12 ≤ (nI i).toNatClampNeg then none else x) = x := fun x => gd_nI hi (by decide) x
        have k1 : ∀ x : Option ρ, (if nI (o + 18 + i) < 0 ∨ 148 ≤ (nI (o + 18 + i)).toNatClampNeg then none else x) = x := fun x => gd_nI (by omega) (by decide) x
        have k2 : ∀ x : Option ρ, (if nI (o + 30 + i) < 0 ∨ 148 ≤ (nI (o + 30 + i)).toNatClampNeg then none else x) = x := fun x => gd_nI (by omega) (by decide) x
        have k3 : ∀ x : Option ρ, (if nI (o + 42 + i) < 0 ∨ 148 ≤ (nI (o + 42 + i)).toNatClampNeg then none else x) = x := fun x => gd_nI (by omega) (by decide) x
        have k4 : ∀ x : Option ρ, (if nI (o + 54 + i) < 0 ∨ 148 ≤ (nI (o + 54 + i)).toNatClampNeg then none else x) = x := fun x => gd_nI (by omega) (by decide) x
        have a1 : nI o + 18 + nI i = nI (o + 18 + i) := ad3 o 18 i
        have a2 : nI o + 30 + nI i = nI (o + 30 + i) := ad3 o 30 i
        have a3 : nI o + 42 + nI i = nI (o + 42 + i) := ad3 o 42 i
        have a4 : nI o + 54 + nI i = nI (o + 54 + i) := ad3 o 54 i
        rw [← q1, M_takePage_kept_L77, if_neg (nI_12 hi)]
        simp only [nm, a1, a2, a3, a4, k0, k1, k2, k3, k4, nI_1]
        simp only [cl_nI (show i < 2 ^ 31 by omega), cl_nI (show o + 18 + i < 2 ^ 31 by omega), cl_nI (show o + 30 + i < 2 ^ 31 by omega), cl_nI (show o + 42 + i < 2 ^ 31 by omega), cl_nI (show o + 54 + i < 2 ^ 31 by omega)]
        rfl
      · intro p h3 h4
        by_cases ep : p = i
        · subst ep
          obtain ⟨w1, w2, w3, w4⟩ := q3 p (by omega)
          exact ⟨w1.trans (upd_s _ _ _), w2.trans (upd_s _ _ _), w3.trans (upd_s _ _ _), w4.trans (upd_s _ _ _)⟩
        · exact q2 p (by omega) h4
      · intro p hp
        obtain ⟨w1, w2, w3, w4⟩ := q3 p (by omega)
        exact ⟨w1.trans (upd_n _ _ (by omega)), w2.trans (upd_n _ _ (by omega)), w3.trans (upd_n _ _ (by omega)), w4.trans (upd_n _ _ (by omega))⟩
      · intro s h5 h6 h7 h8
        rw [q4 s h5 h6 h7 h8, va_up_ne _ _ h8, va_up_ne _ _ h7, va_up_ne _ _ h6, va_up_ne _ _ h5]
theorem takek_eq {f : Nat} (hf : 100 ≤ f) (I : FI) {V : FV} {P : Nat} {L : Nat → Nat → Nat} (hP : P ≤ 6) (hok : okT P L) {o : Nat} (ho : o + 68 ≤ 148) (hp : tP P L (V 25) o) : ∃ W, M_takePage_kept f (nI o) I V = some (va_up (va_up I 9 (nI (L 0 0))) 14 (nI (L 0 1)), W) ∧ tM P L (va_up (va_up I 9 (nI (L 0 0))) 14 (nI (L 0 1))) W ∧ ∀ s, s ≠ 5 → s ≠ 6 → s ≠ 7 → s ≠ 8 → s ≠ 10 → s ≠ 11 → s ≠ 12 → s ≠ 13 → W s = V s := by
  obtain ⟨hpp, hpd, h66, h67⟩ := hp
  have hd : L 0 0 ≤ 12 := hok.1
  obtain ⟨W1, q1, q2, q3, q4⟩ := takek2 f ho (fun (W : FV) => (M_takePage_kept_L77 f (nI o) (fun (W : FV) => if (nI o + 66) < 0 ∨ 148 ≤ (nI o + 66).toNatClampNeg then none else (nm (va_up I 9 ((W 25) (nI o + 66).toNatClampNeg)) (fun I11 => if (nI o + 67) < 0 ∨ 148 ≤ (nI o + 67).toNatClampNeg then none else (nm (va_up I11 14 ((W 25) (nI o + 67).toNatClampNeg)) (fun I12 => some (I12, W)))))) f 0 W)) f 0 V (by omega) (by omega)
  obtain ⟨W2, r1, r2, r3, r4⟩ := takek77 f ho (fun (W : FV) => if (nI o + 66) < 0 ∨ 148 ≤ (nI o + 66).toNatClampNeg then none else (nm (va_up I 9 ((W 25) (nI o + 66).toNatClampNeg)) (fun I11 => if (nI o + 67) < 0 ∨ 148 ≤ (nI o + 67).toNatClampNeg then none else (nm (va_up I11 14 ((W 25) (nI o + 67).toNatClampNeg)) (fun I12 => some (I12, W)))))) f 0 W1 (by omega) (by omega)
  have e1 : W1 25 = V 25 := q4 25 (by decide) (by decide) (by decide) (by decide)
  have e2 : W2 25 = V 25 := (r4 25 (by decide) (by decide) (by decide) (by decide)).trans e1
  refine ⟨W2, ?_, ⟨rfl, rfl, fun p hp => ?_, fun j hj => ?_⟩, fun s s5 s6 s7 s8 s10 s11 s12 s13 => (r4 s s10 s11 s12 s13).trans (q4 s s5 s6 s7 s8)⟩
  · unfold M_takePage_kept
    refine (show _ = _ from q1).trans ?_
    refine (show _ = _ from r1).trans ?_
    have a1 : nI o + 66 = nI (o + 66) := nI_add o 66
    have a2 : nI o + 67 = nI (o + 67) := nI_add o 67
    simp only [nm, a1, a2]
    rw [gd_nI (by omega) (by decide), gd_nI (by omega) (by decide), cl_nI (by omega), cl_nI (by omega), e2, h66, h67]
  · have w := q2 p (Nat.zero_le _) (by omega)
    have o1 := hok.2.2.1 p hp
    have g := hpp p hp
    rw [r4 5 (by decide) (by decide) (by decide) (by decide), r4 6 (by decide) (by decide) (by decide) (by decide), r4 7 (by decide) (by decide) (by decide) (by decide), r4 8 (by decide) (by decide) (by decide) (by decide), w.1, w.2.1, w.2.2.1, w.2.2.2, g.1, g.2.1, g.2.2]
    exact ⟨rfl, rfl, hbit_0 o1.2.1 o1.2.2, hbit_1 o1.2.1 o1.2.2⟩
  · have w := r2 j (Nat.zero_le _) (by omega)
    have g := hpd j hj
    rw [w.1, w.2.1, w.2.2.1, w.2.2.2, e1]
    exact g
