theorem cpy0 (g h : Nat → Int32) {n : Nat} {N : Int32} (hN : N.toNatClampNeg = n) {j : Nat} (hj : j < n) : va_cpy g h (0 : Int32).toNatClampNeg (0 : Int32).toNatClampNeg N.toNatClampNeg j = g j := by
  rw [hN, show (0 : Int32).toNatClampNeg = 0 from by decide, pk_cpy_in (Nat.zero_le _) (by omega), Nat.sub_zero, Nat.zero_add]
theorem copy_eq (f : Nat) (I : FI) (V : FV) {I2 : FI} {V2 : FV} {P : Nat} {L : Nat → Nat → Nat} (hP : P ≤ 6) (hd : L 0 0 ≤ 12) (h : tL P L I2 V2) : ∃ I' V', Led_copyFrom f I V I2 V2 = some (I', V') ∧ tL P L I' V' := by
  obtain ⟨l0, l1, l2, l3, l4, lp, ld⟩ := h
  refine ⟨_, _, rfl, l0, l1, l2, l3, l4, fun p hp => ⟨?_, ?_⟩, fun j hj => ⟨?_, ?_, ?_, ?_⟩⟩
  · exact (cpy0 (V2 5) _ (n := 6) (by decide) (by omega)).trans (lp p hp).1
  · exact (cpy0 (V2 6) _ (n := 6) (by decide) (by omega)).trans (lp p hp).2
  · exact (cpy0 (V2 7) _ (n := 12) (by decide) (by omega)).trans (ld j hj).1
  · exact (cpy0 (V2 8) _ (n := 12) (by decide) (by omega)).trans (ld j hj).2.1
  · exact (cpy0 (V2 9) _ (n := 12) (by decide) (by omega)).trans (ld j hj).2.2.1
  · exact (cpy0 (V2 10) _ (n := 12) (by decide) (by omega)).trans (ld j hj).2.2.2
theorem nI_6 {i : Nat} (h : i < 6) : ¬ (6 : Int32) ≤ nI i := nI_ge (b := 6) h (by decide)
theorem nI_12 {i : Nat} (h : i < 12) : ¬ (12 : Int32) ≤ nI i := nI_ge (b := 12) h (by decide)
theorem ad2 (o i : Nat) : nI o + nI i = nI (o + i) := nI_add o i
theorem ad3 (o c i : Nat) : nI o + nI c + nI i = nI (o + c + i) := by rw [nI_add, nI_add]
def vd (V : FV) (p : Nat) : Int32 := (if V 7 p = 0 then (0 : Int32) else 1) + (if V 8 p = 0 then (0 : Int32) else 2)
theorem lay2 {ρ : Type} (f : Nat) (V : FV) {o : Nat} (ho : o + 68 ≤ 740) (k : FV → Option ρ) : ∀ (n i : Nat) (g : Nat → Int32), i ≤ 6 → 6 - i < n → ∃ g', M_layPage_book_L2 f (nI o) k n (nI i) (va_up V 23 g) = k (va_up V 23 g') ∧ (∀ p, i ≤ p → p < 6 → g' (o + p) = V 5 p ∧ g' (o + 6 + p) = V 6 p ∧ g' (o + 12 + p) = vd V p) ∧ ∀ x, (∀ p, i ≤ p → p < 6 → x ≠ o + p ∧ x ≠ o + 6 + p ∧ x ≠ o + 12 + p) → g' x = g x := by
  intro n
  induction n with
  | zero => intro i g h1 h2; omega
  | succ n ih =>
    intro i g h1 h2
    by_cases e : i = 6
    · subst e
      refine ⟨g, ?_, fun p h3 h4 => by omega, fun x _ => rfl⟩
      rw [M_layPage_book_L2, if_pos (show (6 : Int32) ≤ nI 6 by decide)]
    · have hi : i < 6 := by omega
      obtain ⟨g', q1, q2, q3⟩ := ih (i + 1) (upd (upd (upd g (o + i) (V 5 i)) (o + 6 + i) (V 6 i)) (o + 12 + i) (vd V i)) (by omega) (by omega)
      refine ⟨g', ?_, ?_, ?_⟩
      · have k0 : ∀ x : Option ρ, (if nI i < 0 ∨ 6 ≤ (nI i).toNatClampNeg then none else x) = x := fun x => gd_nI hi (by decide) x
        have k1 : ∀ x : Option ρ, (if nI (o + i) < 0 ∨ 740 ≤ (nI (o + i)).toNatClampNeg then none else x) = x := fun x => gd_nI (by omega) (by decide) x
        have k2 : ∀ x : Option ρ, (if nI (o + 6 + i) < 0 ∨ 740 ≤ (nI (o + 6 + i)).toNatClampNeg then none else x) = x := fun x => gd_nI (by omega) (by decide) x
        have k3 : ∀ x : Option ρ, (if nI (o + 12 + i) < 0 ∨ 740 ≤ (nI (o + 12 + i)).toNatClampNeg then none else x) = x := fun x => gd_nI (by omega) (by decide) x
        have a1 : nI o + nI i = nI (o + i) := nI_add o i
        have a2 : nI o + 6 + nI i = nI (o + 6 + i) := ad3 o 6 i
        have a3 : nI o + 12 + nI i = nI (o + 12 + i) := ad3 o 12 i
        have v5 : ∀ g, va_up V 23 g 5 = V 5 := fun _ => rfl
        have v6 : ∀ g, va_up V 23 g 6 = V 6 := fun _ => rfl
        have v7 : ∀ g, va_up V 23 g 7 = V 7 := fun _ => rfl
        have v8 : ∀ g, va_up V 23 g 8 = V 8 := fun _ => rfl
        rw [← q1, M_layPage_book_L2, if_neg (nI_6 hi)]
        simp only [nm, bx_uu, va_up_self, a1, a2, a3, k0, k1, k2, k3, v5, v6, v7, v8, nI_1]
        simp only [cl_nI (show i < 2 ^ 31 by omega), cl_nI (show o + i < 2 ^ 31 by omega), cl_nI (show o + 6 + i < 2 ^ 31 by omega), cl_nI (show o + 12 + i < 2 ^ 31 by omega)]
        unfold vd
        by_cases c7 : V 7 i = 0
        · by_cases c8 : V 8 i = 0
          · rw [if_pos c7, if_pos c8, if_pos c7, if_pos c8]
          · rw [if_pos c7, if_neg c8, if_pos c7, if_neg c8]
        · by_cases c8 : V 8 i = 0
          · rw [if_neg c7, if_pos c8, if_neg c7, if_pos c8]
          · rw [if_neg c7, if_neg c8, if_neg c7, if_neg c8]
      · intro p h3 h4
        by_cases ep : p = i
        · subst ep
          refine ⟨?_, ?_, ?_⟩
          · rw [q3 _ (fun p' h5 h6 => by omega), upd_n _ _ (by omega), upd_n _ _ (by omega), upd_s]
          · rw [q3 _ (fun p' h5 h6 => by omega), upd_n _ _ (by omega), upd_s]
          · rw [q3 _ (fun p' h5 h6 => by omega), upd_s]
        · exact q2 p (by omega) h4
      · intro x hx
        have hxi := hx i (Nat.le_refl _) hi
        rw [q3 x (fun p h5 h6 => hx p (by omega) h6), upd_n _ _ hxi.2.2, upd_n _ _ hxi.2.1, upd_n _ _ hxi.1]
theorem lay78 {ρ : Type} (f : Nat) (V : FV) {o : Nat} (ho : o + 68 ≤ 740) (k : FV → Option ρ) : ∀ (n i : Nat) (g : Nat → Int32), i ≤ 12 → 12 - i < n → ∃ g', M_layPage_book_L78 f (nI o) k n (nI i) (va_up V 23 g) = k (va_up V 23 g') ∧ (∀ p, i ≤ p → p < 12 → g' (o + 18 + p) = V 10 p ∧ g' (o + 30 + p) = V 11 p ∧ g' (o + 42 + p) = V 12 p ∧ g' (o + 54 + p) = V 13 p) ∧ ∀ x, (∀ p, i ≤ p → p < 12 → x ≠ o + 18 + p ∧ x ≠ o + 30 + p ∧ x ≠ o + 42 + p ∧ x ≠ o + 54 + p) → g' x = g x := by
  intro n
  induction n with
  | zero => intro i g h1 h2; omega
  | succ n ih =>
    intro i g h1 h2
    by_cases e : i = 12
    · subst e
      refine ⟨g, ?_, fun p h3 h4 => by omega, fun x _ => rfl⟩
      rw [M_layPage_book_L78, if_pos (show (12 : Int32) ≤ nI 12 by decide)]
    · have hi : i < 12 := by omega
      obtain ⟨g', q1, q2, q3⟩ := ih (i + 1) (upd (upd (upd (upd g (o + 18 + i) (V 10 i)) (o + 30 + i) (V 11 i)) (o + 42 + i) (V 12 i)) (o + 54 + i) (V 13 i)) (by omega) (by omega)
      refine ⟨g', ?_, ?_, ?_⟩
      · have k0 : ∀ x : Option ρ, (if nI i < 0 ∨ 12 ≤ (nI i).toNatClampNeg then none else x) = x := fun x => gd_nI hi (by decide) x
        have k1 : ∀ x : Option ρ, (if nI (o + 18 + i) < 0 ∨ 740 ≤ (nI (o + 18 + i)).toNatClampNeg then none else x) = x := fun x => gd_nI (by omega) (by decide) x
        have k2 : ∀ x : Option ρ, (if nI (o + 30 + i) < 0 ∨ 740 ≤ (nI (o + 30 + i)).toNatClampNeg then none else x) = x := fun x => gd_nI (by omega) (by decide) x
        have k3 : ∀ x : Option ρ, (if nI (o + 42 + i) < 0 ∨ 740 ≤ (nI (o + 42 + i)).toNatClampNeg then none else x) = x := fun x => gd_nI (by omega) (by decide) x
        have k4 : ∀ x : Option ρ, (if nI (o + 54 + i) < 0 ∨ 740 ≤ (nI (o + 54 + i)).toNatClampNeg then none else x) = x := fun x => gd_nI (by omega) (by decide) x
        have a1 : nI o + 18 + nI i = nI (o + 18 + i) := ad3 o 18 i
        have a2 : nI o + 30 + nI i = nI (o + 30 + i) := ad3 o 30 i
        have a3 : nI o + 42 + nI i = nI (o + 42 + i) := ad3 o 42 i
        have a4 : nI o + 54 + nI i = nI (o + 54 + i) := ad3 o 54 i
        have v5 : ∀ g, va_up V 23 g 10 = V 10 := fun _ => rfl
        have v6 : ∀ g, va_up V 23 g 11 = V 11 := fun _ => rfl
        have v7 : ∀ g, va_up V 23 g 12 = V 12 := fun _ => rfl
        have v8 : ∀ g, va_up V 23 g 13 = V 13 := fun _ => rfl
        rw [← q1, M_layPage_book_L78, if_neg (nI_12 hi)]
        simp only [nm, bx_uu, va_up_self, a1, a2, a3, a4, k0, k1, k2, k3, k4, v5, v6, v7, v8, nI_1]
        simp only [cl_nI (show i < 2 ^ 31 by omega), cl_nI (show o + 18 + i < 2 ^ 31 by omega), cl_nI (show o + 30 + i < 2 ^ 31 by omega), cl_nI (show o + 42 + i < 2 ^ 31 by omega), cl_nI (show o + 54 + i < 2 ^ 31 by omega)]
      · intro p h3 h4
        by_cases ep : p = i
        · subst ep
          refine ⟨?_, ?_, ?_, ?_⟩
          · rw [q3 _ (fun p' h5 h6 => by omega), upd_n _ _ (by omega), upd_n _ _ (by omega), upd_n _ _ (by omega), upd_s]
          · rw [q3 _ (fun p' h5 h6 => by omega), upd_n _ _ (by omega), upd_n _ _ (by omega), upd_s]
          · rw [q3 _ (fun p' h5 h6 => by omega), upd_n _ _ (by omega), upd_s]
          · rw [q3 _ (fun p' h5 h6 => by omega), upd_s]
        · exact q2 p (by omega) h4
      · intro x hx
        have hxi := hx i (Nat.le_refl _) hi
        rw [q3 x (fun p h5 h6 => hx p (by omega) h6), upd_n _ _ hxi.2.2.2, upd_n _ _ hxi.2.2.1, upd_n _ _ hxi.2.1, upd_n _ _ hxi.1]
theorem lay_eq {f : Nat} (hf : 100 ≤ f) {I : FI} {V : FV} {P : Nat} {L : Nat → Nat → Nat} (hP : P ≤ 6) (hok : okT P L) (hM : tM P L I V) {o : Nat} (ho : o + 68 ≤ 740) : ∃ g', M_layPage_book f (nI o) I V = some (I, va_up V 23 g') ∧ tP P L g' o ∧ ∀ x, x < o ∨ o + 68 ≤ x → g' x = V 23 x := by
  obtain ⟨m9, m14, mp, md⟩ := hM
  have hd : L 0 0 ≤ 12 := hok.1
  obtain ⟨g2, r1, r2, r3⟩ := lay78 f V ho (fun (W : FV) => if (nI o + 66) < 0 ∨ 740 ≤ (nI o + 66).toNatClampNeg then none else (nm (va_up W 23 (upd (W 23) (nI o + 66).toNatClampNeg (I 9))) (fun V8 => if (nI o + 67) < 0 ∨ 740 ≤ (nI o + 67).toNatClampNeg then none else (nm (va_up V8 23 (upd (V8 23) (nI o + 67).toNatClampNeg (I 14))) (fun V9 => some (I, V9)))))) f 0 (Classical.choose (lay2 f V ho (fun (W : FV) => (M_layPage_book_L78 f (nI o) (fun (W : FV) => if (nI o + 66) < 0 ∨ 740 ≤ (nI o + 66).toNatClampNeg then none else (nm (va_up W 23 (upd (W 23) (nI o + 66).toNatClampNeg (I 9))) (fun V8 => if (nI o + 67) < 0 ∨ 740 ≤ (nI o + 67).toNatClampNeg then none else (nm (va_up V8 23 (upd (V8 23) (nI o + 67).toNatClampNeg (I 14))) (fun V9 => some (I, V9)))))) f 0 W)) f 0 (V 23) (by omega) (by omega))) (by omega) (by omega)
  obtain ⟨q1, q2, q3⟩ := Classical.choose_spec (lay2 f V ho (fun (W : FV) => (M_layPage_book_L78 f (nI o) (fun (W : FV) => if (nI o + 66) < 0 ∨ 740 ≤ (nI o + 66).toNatClampNeg then none else (nm (va_up W 23 (upd (W 23) (nI o + 66).toNatClampNeg (I 9))) (fun V8 => if (nI o + 67) < 0 ∨ 740 ≤ (nI o + 67).toNatClampNeg then none else (nm (va_up V8 23 (upd (V8 23) (nI o + 67).toNatClampNeg (I 14))) (fun V9 => some (I, V9)))))) f 0 W)) f 0 (V 23) (by omega) (by omega))
  generalize Classical.choose (lay2 f V ho _ f 0 (V 23) (by omega) (by omega)) = g1 at q1 q2 q3 r1 r3
  refine ⟨upd (upd g2 (o + 66) (I 9)) (o + 67) (I 14), ?_, ⟨fun p hp => ?_, fun j hj => ?_, ?_, ?_⟩, fun x hx => ?_⟩
  · unfold M_layPage_book
    rw [up_id] at q1
    refine (show _ = _ from q1).trans ?_
    refine (show _ = _ from r1).trans ?_
    have a1 : nI o + 66 = nI (o + 66) := nI_add o 66
    have a2 : nI o + 67 = nI (o + 67) := nI_add o 67
    simp only [nm, bx_uu, va_up_self, a1, a2]
    rw [gd_nI (by omega) (by decide), gd_nI (by omega) (by decide), cl_nI (by omega), cl_nI (by omega)]
  · have w1 := q2 p (Nat.zero_le _) (by omega)
    have o1 := hok.2.2.1 p hp
    have m1 := mp p hp
    refine ⟨?_, ?_, ?_⟩
    · rw [upd_n _ _ (by omega), upd_n _ _ (by omega), r3 _ (fun p' h5 h6 => by omega), w1.1, m1.1]
    · rw [upd_n _ _ (by omega), upd_n _ _ (by omega), r3 _ (fun p' h5 h6 => by omega), w1.2.1, m1.2.1]
    · rw [upd_n _ _ (by omega), upd_n _ _ (by omega), r3 _ (fun p' h5 h6 => by omega), w1.2.2]
      unfold vd
      rw [m1.2.2.1, m1.2.2.2]
      rcases (show L 7 p = 0 ∨ L 7 p = 1 by omega) with e7 | e7 <;> rcases (show L 8 p = 0 ∨ L 8 p = 1 by omega) with e8 | e8 <;> rw [e7, e8] <;> decide
  · have w1 := r2 j (Nat.zero_le _) (by omega)
    have m1 := md j hj
    refine ⟨?_, ?_, ?_, ?_⟩
    · rw [upd_n _ _ (by omega), upd_n _ _ (by omega), w1.1, m1.1]
    · rw [upd_n _ _ (by omega), upd_n _ _ (by omega), w1.2.1, m1.2.1]
    · rw [upd_n _ _ (by omega), upd_n _ _ (by omega), w1.2.2.1, m1.2.2.1]
    · rw [upd_n _ _ (by omega), upd_n _ _ (by omega), w1.2.2.2, m1.2.2.2]
  · rw [upd_n _ _ (by omega), upd_s, m9]
  · rw [upd_s, m14]
  · rw [upd_n _ _ (by omega), upd_n _ _ (by omega), r3 _ (fun p' h5 h6 => by omega), q3 _ (fun p' h5 h6 => by omega)]
theorem layk2 {ρ : Type} (f : Nat) (V : FV) {o : Nat} (ho : o + 68 ≤ 148) (k : FV → Option ρ) : ∀ (n i : Nat) (g : Nat → Int32), i ≤ 6 → 6 - i < n → ∃ g', M_layPage_kept_L2 f (nI o) k n (nI i) (va_up V 25 g) = k (va_up V 25 g') ∧ (∀ p, i ≤ p → p < 6 → g' (o + p) = V 5 p ∧ g' (o + 6 + p) = V 6 p ∧ g' (o + 12 + p) = vd V p) ∧ ∀ x, (∀ p, i ≤ p → p < 6 → x ≠ o + p ∧ x ≠ o + 6 + p ∧ x ≠ o + 12 + p) → g' x = g x := by
  intro n
  induction n with
  | zero => intro i g h1 h2; omega
  | succ n ih =>
    intro i g h1 h2
    by_cases e : i = 6
    · subst e
      refine ⟨g, ?_, fun p h3 h4 => by omega, fun x _ => rfl⟩
      rw [M_layPage_kept_L2, if_pos (show (6 : Int32) ≤ nI 6 by decide)]
    · have hi : i < 6 := by omega
      obtain ⟨g', q1, q2, q3⟩ := ih (i + 1) (upd (upd (upd g (o + i) (V 5 i)) (o + 6 + i) (V 6 i)) (o + 12 + i) (vd V i)) (by omega) (by omega)
      refine ⟨g', ?_, ?_, ?_⟩
      · have k0 : ∀ x : Option ρ, (if nI i < 0 ∨ 6 ≤ (nI i).toNatClampNeg then none else x) = x := fun x => gd_nI hi (by decide) x
        have k1 : ∀ x : Option ρ, (if nI (o + i) < 0 ∨ 148 ≤ (nI (o + i)).toNatClampNeg then none else x) = x := fun x => gd_nI (by omega) (by decide) x
        have k2 : ∀ x : Option ρ, (if nI (o + 6 + i) < 0 ∨ 148 ≤ (nI (o + 6 + i)).toNatClampNeg then none else x) = x := fun x => gd_nI (by omega) (by decide) x
        have k3 : ∀ x : Option ρ, (if nI (o + 12 + i) < 0 ∨ 148 ≤ (nI (o + 12 + i)).toNatClampNeg then none else x) = x := fun x => gd_nI (by omega) (by decide) x
        have a1 : nI o + nI i = nI (o + i) := nI_add o i
        have a2 : nI o + 6 + nI i = nI (o + 6 + i) := ad3 o 6 i
        have a3 : nI o + 12 + nI i = nI (o + 12 + i) := ad3 o 12 i
        have v5 : ∀ g, va_up V 25 g 5 = V 5 := fun _ => rfl
        have v6 : ∀ g, va_up V 25 g 6 = V 6 := fun _ => rfl
        have v7 : ∀ g, va_up V 25 g 7 = V 7 := fun _ => rfl
        have v8 : ∀ g, va_up V 25 g 8 = V 8 := fun _ => rfl
        rw [← q1, M_layPage_kept_L2, if_neg (nI_6 hi)]
        simp only [nm, bx_uu, va_up_self, a1, a2, a3, k0, k1, k2, k3, v5, v6, v7, v8, nI_1]
        simp only [cl_nI (show i < 2 ^ 31 by omega), cl_nI (show o + i < 2 ^ 31 by omega), cl_nI (show o + 6 + i < 2 ^ 31 by omega), cl_nI (show o + 12 + i < 2 ^ 31 by omega)]
        unfold vd
        by_cases c7 : V 7 i = 0
        · by_cases c8 : V 8 i = 0
          · rw [if_pos c7, if_pos c8, if_pos c7, if_pos c8]
          · rw [if_pos c7, if_neg c8, if_pos c7, if_neg c8]
        · by_cases c8 : V 8 i = 0
          · rw [if_neg c7, if_pos c8, if_neg c7, if_pos c8]
          · rw [if_neg c7, if_neg c8, if_neg c7, if_neg c8]
      · intro p h3 h4
        by_cases ep : p = i
        · subst ep
          refine ⟨?_, ?_, ?_⟩
          · rw [q3 _ (fun p' h5 h6 => by omega), upd_n _ _ (by omega), upd_n _ _ (by omega), upd_s]
          · rw [q3 _ (fun p' h5 h6 => by omega), upd_n _ _ (by omega), upd_s]
          · rw [q3 _ (fun p' h5 h6 => by omega), upd_s]
        · exact q2 p (by omega) h4
      · intro x hx
        have hxi := hx i (Nat.le_refl _) hi
        rw [q3 x (fun p h5 h6 => hx p (by omega) h6), upd_n _ _ hxi.2.2, upd_n _ _ hxi.2.1, upd_n _ _ hxi.1]
theorem layk78 {ρ : Type} (f : Nat) (V : FV) {o : Nat} (ho : o + 68 ≤ 148) (k : FV → Option ρ) : ∀ (n i : Nat) (g : Nat → Int32), i ≤ 12 → 12 - i < n → ∃ g', M_layPage_kept_L78 f (nI o) k n (nI i) (va_up V 25 g) = k (va_up V 25 g') ∧ (∀ p, i ≤ p → p < 12 → g' (o + 18 + p) = V 10 p ∧ g' (o + 30 + p) = V 11 p ∧ g' (o + 42 + p) = V 12 p ∧ g' (o + 54 + p) = V 13 p) ∧ ∀ x, (∀ p, i ≤ p → p < 12 → x ≠ o + 18 + p ∧ x ≠ o + 30 + p ∧ x ≠ o + 42 + p ∧ x ≠ o + 54 + p) → g' x = g x := by
  intro n
  induction n with
  | zero => intro i g h1 h2; omega
  | succ n ih =>
    intro i g h1 h2
    by_cases e : i = 12
    · subst e
      refine ⟨g, ?_, fun p h3 h4 => by omega, fun x _ => rfl⟩
      rw [M_layPage_kept_L78, if_pos (show (12 : Int32) ≤ nI 12 by decide)]
    · have hi : i < 12 := by omega
      obtain ⟨g', q1, q2, q3⟩ := ih (i + 1) (upd (upd (upd (upd g (o + 18 + i) (V 10 i)) (o + 30 + i) (V 11 i)) (o + 42 + i) (V 12 i)) (o + 54 + i) (V 13 i)) (by omega) (by omega)
      refine ⟨g', ?_, ?_, ?_⟩
      · have k0 : ∀ x : Option ρ, (if nI i < 0 ∨ 12 ≤ (nI i).toNatClampNeg then none else x) = x := fun x => gd_nI hi (by decide) x
        have k1 : ∀ x : Option ρ, (if nI (o + 18 + i) < 0 ∨ 148 ≤ (nI (o + 18 + i)).toNatClampNeg then none else x) = x := fun x => gd_nI (by omega) (by decide) x
        have k2 : ∀ x : Option ρ, (if nI (o + 30 + i) < 0 ∨ 148 ≤ (nI (o + 30 + i)).toNatClampNeg then none else x) = x := fun x => gd_nI (by omega) (by decide) x
        have k3 : ∀ x : Option ρ, (if nI (o + 42 + i) < 0 ∨ 148 ≤ (nI (o + 42 + i)).toNatClampNeg then none else x) = x := fun x => gd_nI (by omega) (by decide) x
        have k4 : ∀ x : Option ρ, (if nI (o + 54 + i) < 0 ∨ 148 ≤ (nI (o + 54 + i)).toNatClampNeg then none else x) = x := fun x => gd_nI (by omega) (by decide) x
        have a1 : nI o + 18 + nI i = nI (o + 18 + i) := ad3 o 18 i
        have a2 : nI o + 30 + nI i = nI (o + 30 + i) := ad3 o 30 i
        have a3 : nI o + 42 + nI i = nI (o + 42 + i) := ad3 o 42 i
        have a4 : nI o + 54 + nI i = nI (o + 54 + i) := ad3 o 54 i
        have v5 : ∀ g, va_up V 25 g 10 = V 10 := fun _ => rfl
        have v6 : ∀ g, va_up V 25 g 11 = V 11 := fun _ => rfl
        have v7 : ∀ g, va_up V 25 g 12 = V 12 := fun _ => rfl
        have v8 : ∀ g, va_up V 25 g 13 = V 13 := fun _ => rfl
        rw [← q1, M_layPage_kept_L78, if_neg (nI_12 hi)]
        simp only [nm, bx_uu, va_up_self, a1, a2, a3, a4, k0, k1, k2, k3, k4, v5, v6, v7, v8, nI_1]
        simp only [cl_nI (show i < 2 ^ 31 by omega), cl_nI (show o + 18 + i < 2 ^ 31 by omega), cl_nI (show o + 30 + i < 2 ^ 31 by omega), cl_nI (show o + 42 + i < 2 ^ 31 by omega), cl_nI (show o + 54 + i < 2 ^ 31 by omega)]
      · intro p h3 h4
        by_cases ep : p = i
        · subst ep
          refine ⟨?_, ?_, ?_, ?_⟩
          · rw [q3 _ (fun p' h5 h6 => by omega), upd_n _ _ (by omega), upd_n _ _ (by omega), upd_n _ _ (by omega), upd_s]
          · rw [q3 _ (fun p' h5 h6 => by omega), upd_n _ _ (by omega), upd_n _ _ (by omega), upd_s]
          · rw [q3 _ (fun p' h5 h6 => by omega), upd_n _ _ (by omega), upd_s]
          · rw [q3 _ (fun p' h5 h6 => by omega), upd_s]
        · exact q2 p (by omega) h4
      · intro x hx
        have hxi := hx i (Nat.le_refl _) hi
        rw [q3 x (fun p h5 h6 => hx p (by omega) h6), upd_n _ _ hxi.2.2.2, upd_n _ _ hxi.2.2.1, upd_n _ _ hxi.2.1, upd_n _ _ hxi.1]
theorem layk_eq {f : Nat} (hf : 100 ≤ f) {I : FI} {V : FV} {P : Nat} {L : Nat → Nat → Nat} (hP : P ≤ 6) (hok : okT P L) (hM : tM P L I V) {o : Nat} (ho : o + 68 ≤ 148) : ∃ g', M_layPage_kept f (nI o) I V = some (I, va_up V 25 g') ∧ tP P L g' o ∧ ∀ x, x < o ∨ o + 68 ≤ x → g' x = V 25 x := by
  obtain ⟨m9, m14, mp, md⟩ := hM
  have hd : L 0 0 ≤ 12 := hok.1
  obtain ⟨g2, r1, r2, r3⟩ := layk78 f V ho (fun (W : FV) => if (nI o + 66) < 0 ∨ 148 ≤ (nI o + 66).toNatClampNeg then none else (nm (va_up W 25 (upd (W 25) (nI o + 66).toNatClampNeg (I 9))) (fun V8 => if (nI o + 67) < 0 ∨ 148 ≤ (nI o + 67).toNatClampNeg then none else (nm (va_up V8 25 (upd (V8 25) (nI o + 67).toNatClampNeg (I 14))) (fun V9 => some (I, V9)))))) f 0 (Classical.choose (layk2 f V ho (fun (W : FV) => (M_layPage_kept_L78 f (nI o) (fun (W : FV) => if (nI o + 66) < 0 ∨ 148 ≤ (nI o + 66).toNatClampNeg then none else (nm (va_up W 25 (upd (W 25) (nI o + 66).toNatClampNeg (I 9))) (fun V8 => if (nI o + 67) < 0 ∨ 148 ≤ (nI o + 67).toNatClampNeg then none else (nm (va_up V8 25 (upd (V8 25) (nI o + 67).toNatClampNeg (I 14))) (fun V9 => some (I, V9)))))) f 0 W)) f 0 (V 25) (by omega) (by omega))) (by omega) (by omega)
  obtain ⟨q1, q2, q3⟩ := Classical.choose_spec (layk2 f V ho (fun (W : FV) => (M_layPage_kept_L78 f (nI o) (fun (W : FV) => if (nI o + 66) < 0 ∨ 148 ≤ (nI o + 66).toNatClampNeg then none else (nm (va_up W 25 (upd (W 25) (nI o + 66).toNatClampNeg (I 9))) (fun V8 => if (nI o + 67) < 0 ∨ 148 ≤ (nI o + 67).toNatClampNeg then none else (nm (va_up V8 25 (upd (V8 25) (nI o + 67).toNatClampNeg (I 14))) (fun V9 => some (I, V9)))))) f 0 W)) f 0 (V 25) (by omega) (by omega))
  generalize Classical.choose (layk2 f V ho _ f 0 (V 25) (by omega) (by omega)) = g1 at q1 q2 q3 r1 r3
  refine ⟨upd (upd g2 (o + 66) (I 9)) (o + 67) (I 14), ?_, ⟨fun p hp => ?_, fun j hj => ?_, ?_, ?_⟩, fun x hx => ?_⟩
  · unfold M_layPage_kept
    rw [up_id] at q1
    refine (show _ = _ from q1).trans ?_
    refine (show _ = _ from r1).trans ?_
    have a1 : nI o + 66 = nI (o + 66) := nI_add o 66
    have a2 : nI o + 67 = nI (o + 67) := nI_add o 67
    simp only [nm, bx_uu, va_up_self, a1, a2]
    rw [gd_nI (by omega) (by decide), gd_nI (by omega) (by decide), cl_nI (by omega), cl_nI (by omega)]
  · have w1 := q2 p (Nat.zero_le _) (by omega)
    have o1 := hok.2.2.1 p hp
    have m1 := mp p hp
    refine ⟨?_, ?_, ?_⟩
    · rw [upd_n _ _ (by omega), upd_n _ _ (by omega), r3 _ (fun p' h5 h6 => by omega), w1.1, m1.1]
    · rw [upd_n _ _ (by omega), upd_n _ _ (by omega), r3 _ (fun p' h5 h6 => by omega), w1.2.1, m1.2.1]
    · rw [upd_n _ _ (by omega), upd_n _ _ (by omega), r3 _ (fun p' h5 h6 => by omega), w1.2.2]
      unfold vd
      rw [m1.2.2.1, m1.2.2.2]
      rcases (show L 7 p = 0 ∨ L 7 p = 1 by omega) with e7 | e7 <;> rcases (show L 8 p = 0 ∨ L 8 p = 1 by omega) with e8 | e8 <;> rw [e7, e8] <;> decide
  · have w1 := r2 j (Nat.zero_le _) (by omega)
    have m1 := md j hj
    refine ⟨?_, ?_, ?_, ?_⟩
    · rw [upd_n _ _ (by omega), upd_n _ _ (by omega), w1.1, m1.1]
    · rw [upd_n _ _ (by omega), upd_n _ _ (by omega), w1.2.1, m1.2.1]
    · rw [upd_n _ _ (by omega), upd_n _ _ (by omega), w1.2.2.1, m1.2.2.1]
    · rw [upd_n _ _ (by omega), upd_n _ _ (by omega), w1.2.2.2, m1.2.2.2]
  · rw [upd_n _ _ (by omega), upd_s, m9]
  · rw [upd_s, m14]
  · rw [upd_n _ _ (by omega), upd_n _ _ (by omega), r3 _ (fun p' h5 h6 => by omega), q3 _ (fun p' h5 h6 => by omega)]
