theorem txt_ok {It : FI} {Vt : FV} {I : FI} {V : FV} (h : rTxt It Vt I V) : ∃ (t : Nat) (b : Nat → Nat), okB t b It Vt I V := by
  obtain ⟨t, h1, h2, h3, h4⟩ := h
  refine ⟨t, fun i => (V 1 i).toNatClampNeg, h1, h2, h3, fun i hi => ?_⟩
  obtain ⟨c, c1, c2, c3⟩ := h4 i hi
  have e : (V 1 i).toNatClampNeg = c := by rw [c2, cl_nI (by omega)]
  show (V 1 i).toNatClampNeg < 256 ∧ V 1 i = nI ((V 1 i).toNatClampNeg) ∧ Vt 0 i = (nI ((V 1 i).toNatClampNeg)).toInt8.toInt32
  rw [e]
  exact ⟨c1, c2, c3⟩
/-- both read the text -/
theorem read_sim {f : Nat} (hf : 100 ≤ f) {It : FI} {Vt : FV} {I : FI} {V : FV} (hT : rTxt It Vt I V) {Ig : FI} (Vg : FV) (g0 : Ig 0 = 0) (g1 : Ig 1 = 0) (g2 : Ig 2 = 0) (g3 : Ig 3 = 0) (g4 : Ig 4 = 0) : ∃ (r : Int32) (I' : FI) (V' : FV), Txt_firstFault f It Vt = some r ∧ M_readBook f I V = some (r, I', V') ∧ (∀ k, k ≠ 3 → k ≠ 15 → k ≠ 16 → I' k = I k) ∧ (∀ k, k < 17 ∨ 22 < k → V' k = V k) ∧ (r = -9 → ∃ (P' : Nat) (L' : Nat → Nat → Nat) (Ig' : FI) (Vg' : FV), okR P' L' ∧ I' 15 = nI P' ∧ I' 16 = nI (L' 0 0) ∧ rd P' L' V' ∧ tL P' L' Ig' Vg' ∧ Txt_tellTo_L8 f It Vt (fun a b => some (a, b)) f 0 0 Ig Vg = some (Ig', Vg')) := by
  obtain ⟨t, b, hB⟩ := txt_ok hT
  obtain ⟨t1, t2, t3, t4⟩ := id hB
  obtain ⟨r, I', V', x1, x2, x3, x4, x5⟩ := bk_sim f (It := It) (Vt := Vt) t 0 0 0 (va_up (va_up (va_up I 3 0) 15 0) 16 0) V Ig Vg (fun _ _ => 0) f f f (t := t) (b := b) ⟨t1, t2, t3, t4⟩ (Nat.zero_le _) (by omega) rfl rfl rfl ⟨by omega, Nat.zero_le _, rfl, rfl, rfl, fun q hq => absurd hq (Nat.not_lt_zero _), fun j hj => absurd hj (Nat.not_lt_zero _)⟩ ⟨fun q hq => absurd hq (Nat.not_lt_zero _), fun j hj => absurd hj (Nat.not_lt_zero _)⟩ ⟨g0, g1, g2, g3, g4, fun q hq => absurd hq (Nat.not_lt_zero _), fun j hj => absurd hj (Nat.not_lt_zero _)⟩ (by omega) (by omega) (by omega)
  refine ⟨r, I', V', x1, ?_, fun k k1 k2 k3 => ?_, x4, x5⟩
  · rw [show va_up (va_up (va_up (va_up I 3 0) 15 0) 16 0) 3 (nI 0) = va_up (va_up (va_up I 3 0) 15 0) 16 0 from up_id (va_up (va_up (va_up I 3 0) 15 0) 16 0) 3] at x2
    exact x2
  · rw [x3 k k1 k2 k3, va_up_ne _ _ k3, va_up_ne _ _ k2, va_up_ne _ _ k1]
theorem S_fault {f : Nat} (hf : 100 ≤ f) : Sim_fault Rel f := by
  intro SI SV LaI LaV LsI LsV I V h
  have h0 := h
  obtain ⟨P, hP, i4, hLL, hT, hA, hSl, hDa, z0, z1⟩ := h
  have hRel : Rel SI SV LaI LaV LsI LsV (va_up I 0 0) V := Rel_ag h0 (agI_0 I 0) (agV_rf V)
  obtain ⟨r, I', V', x1, x2, x3, x4, x5⟩ := read_sim hf (I := va_up I 0 0) (V := V) hT (Ig := fun _ => 0) (fun _ _ => 0) rfl rfl rfl rfl rfl
  refine ⟨r, I', V', ?_, ?_, Rel_ag hRel ⟨x3 2 (by decide) (by decide) (by decide), x3 4 (by decide) (by decide) (by decide), x3 9 (by decide) (by decide) (by decide), x3 14 (by decide) (by decide) (by decide), x3 24 (by decide) (by decide) (by decide), x3 27 (by decide) (by decide) (by decide)⟩ ⟨x4 1 (by decide), x4 5 (by decide), x4 6 (by decide), x4 7 (by decide), x4 8 (by decide), x4 10 (by decide), x4 11 (by decide), x4 12 (by decide), x4 13 (by decide), x4 23 (by decide), x4 25 (by decide), x4 26 (by decide), x4 28 (by decide), x4 29 (by decide), x4 30 (by decide)⟩⟩
  · unfold X_fault
    rw [x1, ob1_s]
  · unfold M_fault
    refine nmq ?_
    rw [x2, ob3_s]
theorem bk35 {ρ : Type} (f : Nat) {J : FI} {P : Nat} {L : Nat → Nat → Nat} {V0 : FV} (hP : P ≤ 6) (i4 : J 4 = nI P) (hr : ∀ q, q < P → V0 17 q = nI (L 5 q) ∧ V0 18 q = nI (L 6 q)) (k : FV → Option ρ) : ∀ (n i : Nat) (V : FV), i ≤ P → P - i < n → (∀ a, a ≠ 5 → a ≠ 6 → a ≠ 7 → a ≠ 8 → V a = V0 a) → (∀ q, q < i → V 5 q = nI (L 5 q) ∧ V 6 q = nI (L 6 q) ∧ V 7 q = 0 ∧ V 8 q = 0) → ∃ V', M_book_L35 f J k n (nI i) V = k V' ∧ (∀ a, a ≠ 5 → a ≠ 6 → a ≠ 7 → a ≠ 8 → V' a = V0 a) ∧ ∀ q, q < P → V' 5 q = nI (L 5 q) ∧ V' 6 q = nI (L 6 q) ∧ V' 7 q = 0 ∧ V' 8 q = 0 := by
  intro n
  induction n with
  | zero => intro i V h1 h2; omega
  | succ n ih =>
    intro i V h1 h2 h3 h4
    rw [M_book_L35, i4]
    by_cases e : i = P
    · subst e
      exact ⟨V, if_pos (nI_le (Nat.le_refl _) (by omega)), h3, h4⟩
    · have hi : i < P := by omega
      have hi6 : i < 6 := by omega
      obtain ⟨r1, r2⟩ := hr i hi
      have e17 : V 17 i = nI (L 5 i) := by rw [h3 17 (by decide) (by decide) (by decide) (by decide)]; exact r1
      have e18 : V 18 i = nI (L 6 i) := by rw [h3 18 (by decide) (by decide) (by decide) (by decide)]; exact r2
      obtain ⟨V', q1, q2, q3⟩ := ih (i + 1) (va_up (va_up (va_up (va_up V 5 (upd (V 5) i (nI (L 5 i)))) 6 (upd (V 6) i (nI (L 6 i)))) 7 (upd (V 7) i 0)) 8 (upd (V 8) i 0)) (by omega) (by omega) (fun a a5 a6 a7 a8 => by rw [va_up_ne _ _ a8, va_up_ne _ _ a7, va_up_ne _ _ a6, va_up_ne _ _ a5]; exact h3 a a5 a6 a7 a8) (fun q hq => by
        show upd (V 5) i (nI (L 5 i)) q = nI (L 5 q) ∧ upd (V 6) i (nI (L 6 i)) q = nI (L 6 q) ∧ upd (V 7) i 0 q = 0 ∧ upd (V 8) i 0 q = 0
        by_cases eq : q = i
        · rw [eq, upd_s, upd_s, upd_s, upd_s]; exact ⟨rfl, rfl, rfl, rfl⟩
        · rw [upd_n _ _ eq, upd_n _ _ eq, upd_n _ _ eq, upd_n _ _ eq]; exact h4 q (by omega))
      refine ⟨V', ?_, q2, q3⟩
      rw [if_neg (nI_ge hi (by omega)), gd_nI hi6 (by decide), gd_nI hi6 (by decide), cl_nI (by omega), e17]
      refine nmq ?_
      rw [gz hi6 (by decide), gz hi6 (by decide), show va_up V 5 _ 18 i = nI (L 6 i) from e18]
      refine nmq ?_
      rw [gz hi6 (by decide), show vp_nar .boolean 0 = 0 from nar01 (z := 0) (by omega)]
      refine nmq ?_
      rw [gz hi6 (by decide)]
      refine nmq ?_
      rw [nI_1]
      exact q1
theorem bk89 {ρ : Type} (f : Nat) {J : FI} {D : Nat} {L : Nat → Nat → Nat} {V0 : FV} (hD : D ≤ 8) (i9 : J 9 = nI D) (hr : ∀ j, j < D → V0 19 j = nI (L 10 j) ∧ V0 20 j = nI (L 11 j) ∧ V0 21 j = nI (L 12 j) ∧ V0 22 j = nI (L 13 j)) (k : FV → Option ρ) : ∀ (n i : Nat) (V : FV), i ≤ D → D - i < n → (∀ a, a ≠ 10 → a ≠ 11 → a ≠ 12 → a ≠ 13 → V a = V0 a) → (∀ j, j < i → V 10 j = nI (L 10 j) ∧ V 11 j = nI (L 11 j) ∧ V 12 j = nI (L 12 j) ∧ V 13 j = nI (L 13 j)) → ∃ V', M_book_L89 f J k n (nI i) V = k V' ∧ (∀ a, a ≠ 10 → a ≠ 11 → a ≠ 12 → a ≠ 13 → V' a = V0 a) ∧ ∀ j, j < D → V' 10 j = nI (L 10 j) ∧ V' 11 j = nI (L 11 j) ∧ V' 12 j = nI (L 12 j) ∧ V' 13 j = nI (L 13 j) := by
  intro n
  induction n with
  | zero => intro i V h1 h2; omega
  | succ n ih =>
    intro i V h1 h2 h3 h4
    rw [M_book_L89, i9]
    by_cases e : i = D
    · subst e
      exact ⟨V, if_pos (nI_le (Nat.le_refl _) (by omega)), h3, h4⟩
    · have hi : i < D := by omega
      have hi8 : i < 8 := by omega
      have hi12 : i < 12 := by omega
      obtain ⟨r1, r2, r3, r4⟩ := hr i hi
      have e19 : V 19 i = nI (L 10 i) := by rw [h3 19 (by decide) (by decide) (by decide) (by decide)]; exact r1
      have e20 : V 20 i = nI (L 11 i) := by rw [h3 20 (by decide) (by decide) (by decide) (by decide)]; exact r2
      have e21 : V 21 i = nI (L 12 i) := by rw [h3 21 (by decide) (by decide) (by decide) (by decide)]; exact r3
      have e22 : V 22 i = nI (L 13 i) := by rw [h3 22 (by decide) (by decide) (by decide) (by decide)]; exact r4
      obtain ⟨V', q1, q2, q3⟩ := ih (i + 1) (va_up (va_up (va_up (va_up V 10 (upd (V 10) i (nI (L 10 i)))) 11 (upd (V 11) i (nI (L 11 i)))) 12 (upd (V 12) i (nI (L 12 i)))) 13 (upd (V 13) i (nI (L 13 i)))) (by omega) (by omega) (fun a a5 a6 a7 a8 => by rw [va_up_ne _ _ a8, va_up_ne _ _ a7, va_up_ne _ _ a6, va_up_ne _ _ a5]; exact h3 a a5 a6 a7 a8) (fun q hq => by
        show upd (V 10) i (nI (L 10 i)) q = nI (L 10 q) ∧ upd (V 11) i (nI (L 11 i)) q = nI (L 11 q) ∧ upd (V 12) i (nI (L 12 i)) q = nI (L 12 q) ∧ upd (V 13) i (nI (L 13 i)) q = nI (L 13 q)
        by_cases eq : q = i
        · rw [eq, upd_s, upd_s, upd_s, upd_s]; exact ⟨rfl, rfl, rfl, rfl⟩
        · rw [upd_n _ _ eq, upd_n _ _ eq, upd_n _ _ eq, upd_n _ _ eq]; exact h4 q (by omega))
      refine ⟨V', ?_, q2, q3⟩
      rw [if_neg (nI_ge hi (by omega)), gd_nI hi8 (by decide), gd_nI hi12 (by decide), cl_nI (by omega), e19]
      refine nmq ?_
      rw [gz hi8 (by decide), gz hi12 (by decide), show va_up V 10 _ 20 i = nI (L 11 i) from e20]
      refine nmq ?_
      rw [gz hi8 (by decide), gz hi12 (by decide), show va_up (va_up V 10 _) 11 _ 21 i = nI (L 12 i) from e21]
      refine nmq ?_
      rw [gz hi8 (by decide), gz hi12 (by decide), show va_up (va_up (va_up V 10 _) 11 _) 12 _ 22 i = nI (L 13 i) from e22]
      refine nmq ?_
      rw [nI_1]
      exact q1
theorem slt_clear {f : Nat} (hf : 100 ≤ f) (Is : FI) (Vs : FV) : Slt_clear f Is Vs = some (va_up Vs 1 (upd (upd (Vs 1) 0 0) 1 0)) := by
  obtain ⟨n, rfl⟩ : ∃ n, f = n + 3 := ⟨f - 3, by omega⟩
  unfold Slt_clear
  have nb : vp_nar .boolean 0 = 0 := nar01 (z := 0) (by omega)
  rw [Slt_clear_L2, if_neg (by decide), if_neg (by decide), nb]
  refine nmq ?_
  rw [Slt_clear_L2, if_neg (by decide), if_neg (by decide), nb]
  refine nmq ?_
  rw [Slt_clear_L2, if_pos (by decide), bx_uu]
  rfl
theorem S_book {f : Nat} (hf : 100 ≤ f) : Sim_book Rel f := by
  intro SI SV LaI LaV LsI LsV I V h
  have h0 := h
  obtain ⟨P, hP, i4, hLL, hT, hA, hSl, hDa, z0, z1⟩ := h
  have hRel0 : Rel SI SV LaI LaV LsI LsV (va_up I 0 0) V := Rel_ag h0 (agI_0 I 0) (agV_rf V)
  obtain ⟨r, I', V', x1, x2, x3, x4, x5⟩ := read_sim hf (I := va_up I 0 0) (V := V) hT (Ig := va_up (va_up (va_up (va_up (va_up (SI 1) 0 0) 1 0) 2 0) 3 0) 4 0) (SV 1) rfl rfl rfl rfl rfl
  unfold X_book M_book
  rw [x1, ob1_s]
  simp only [nm]
  rw [x2, ob3_s]
  by_cases e : r = -9
  rotate_left
  · rw [if_neg e, if_neg e]
    refine ⟨-3, SI 1, SV 1, SI 2, SV 3, I', V', rfl, rfl, ?_⟩
    rw [up_id, up_id, up_id, up_id]
    exact Rel_ag hRel0 ⟨x3 2 (by decide) (by decide) (by decide), x3 4 (by decide) (by decide) (by decide), x3 9 (by decide) (by decide) (by decide), x3 14 (by decide) (by decide) (by decide), x3 24 (by decide) (by decide) (by decide), x3 27 (by decide) (by decide) (by decide)⟩ ⟨x4 1 (by decide), x4 5 (by decide), x4 6 (by decide), x4 7 (by decide), x4 8 (by decide), x4 10 (by decide), x4 11 (by decide), x4 12 (by decide), x4 13 (by decide), x4 23 (by decide), x4 25 (by decide), x4 26 (by decide), x4 28 (by decide), x4 29 (by decide), x4 30 (by decide)⟩
  obtain ⟨P', L', Ig', Vg', y1, y2, y3, y4, y5, y6⟩ := x5 e
  have hok := okR_T y1
  obtain ⟨r1, r2, r3, r4, r5, r6, r7⟩ := y1
  have ht : Txt_tellTo f (SI 0) (SV 0) (SI 1) (SV 1) = some (Ig', Vg') := y6
  rw [if_pos e, if_pos e, ht, ob2_s, show Act_clear f (SI 2) (SV 2) = some (va_up (va_up (SI 2) 1 0) 2 0) from rfl, ob1_s, slt_clear hf, ob1_s]
  obtain ⟨V1, a1, a2, a3⟩ := bk35 f (J := va_up (va_up I' 4 (I' 15)) 9 (va_up I' 4 (I' 15) 16)) (V0 := V') r1 y2 y4.1 (fun (Vm_35 : FV) => (M_book_L89 f (va_up (va_up I' 4 (I' 15)) 9 (va_up I' 4 (I' 15) 16)) (fun (Vm_89 : FV) => some ((va_up (va_up (va_up (va_up I' 4 (I' 15)) 9 (va_up I' 4 (I' 15) 16)) 14 0) 24 0) 4, va_up (va_up (va_up (va_up I' 4 (I' 15)) 9 (va_up I' 4 (I' 15) 16)) 14 0) 24 0, va_up (va_up Vm_89 26 (upd (Vm_89 26) (0 : Int32).toNatClampNeg (vp_nar .boolean 0))) 26 (upd ((va_up Vm_89 26 (upd (Vm_89 26) (0 : Int32).toNatClampNeg (vp_nar .boolean 0))) 26) (1 : Int32).toNatClampNeg (vp_nar .boolean 0)))) f 0 Vm_35)) f 0 V' (Nat.zero_le _) (by omega) (fun _ _ _ _ _ => rfl) (fun q hq => absurd hq (Nat.not_lt_zero _))
  obtain ⟨V2, b1, b2, b3⟩ := bk89 f (J := va_up (va_up I' 4 (I' 15)) 9 (va_up I' 4 (I' 15) 16)) (D := L' 0 0) (L := L') (V0 := V1) r2 y3 (fun j hj => by
    rw [a2 19 (by decide) (by decide) (by decide) (by decide), a2 20 (by decide) (by decide) (by decide) (by decide), a2 21 (by decide) (by decide) (by decide) (by decide), a2 22 (by decide) (by decide) (by decide) (by decide)]
    exact y4.2 j hj) (fun (Vm_89 : FV) => some ((va_up (va_up (va_up (va_up I' 4 (I' 15)) 9 (va_up I' 4 (I' 15) 16)) 14 0) 24 0) 4, va_up (va_up (va_up (va_up I' 4 (I' 15)) 9 (va_up I' 4 (I' 15) 16)) 14 0) 24 0, va_up (va_up Vm_89 26 (upd (Vm_89 26) (0 : Int32).toNatClampNeg (vp_nar .boolean 0))) 26 (upd ((va_up Vm_89 26 (upd (Vm_89 26) (0 : Int32).toNatClampNeg (vp_nar .boolean 0))) 26) (1 : Int32).toNatClampNeg (vp_nar .boolean 0)))) f 0 V1 (Nat.zero_le _) (by omega) (fun _ _ _ _ _ => rfl) (fun q hq => absurd hq (Nat.not_lt_zero _))
  refine ⟨nI P', Ig', Vg', va_up (va_up (SI 2) 1 0) 2 0, va_up (SV 3) 1 (upd (upd (SV 3 1) 0 0) 1 0), va_up (va_up (va_up (va_up I' 4 (I' 15)) 9 (va_up I' 4 (I' 15) 16)) 14 0) 24 0, va_up (va_up V2 26 (upd (V2 26) (0 : Int32).toNatClampNeg (vp_nar .boolean 0))) 26 (upd ((va_up V2 26 (upd (V2 26) (0 : Int32).toNatClampNeg (vp_nar .boolean 0))) 26) (1 : Int32).toNatClampNeg (vp_nar .boolean 0)), ?_, ?_, ?_⟩
  · rw [y5.1]
  · refine a1.trans (Eq.trans b1 ?_)
    rw [show (va_up (va_up (va_up (va_up I' 4 (I' 15)) 9 (va_up I' 4 (I' 15) 16)) 14 0) 24 0) 4 = nI P' from y2]
  · have c2 : ∀ a, (a < 5 ∨ (22 < a ∧ a ≠ 26)) → V2 a = V a := fun a ha => by
      rw [b2 a (by omega) (by omega) (by omega) (by omega), a2 a (by omega) (by omega) (by omega) (by omega), x4 a (by omega)]
    obtain ⟨tt, u1, u2, u3, u4⟩ := hT
    obtain ⟨nn, v1, v2, v3, v4⟩ := hDa
    have nb : vp_nar .boolean 0 = 0 := nar01 (z := 0) (by omega)
    refine ⟨P', r1, y2, ⟨L', hok, ⟨y3, ?_, fun q hq => ?_, fun j hj => ?_⟩, y5⟩, ⟨tt, u1, ?_, u3, fun i hi => ?_⟩, ⟨0, 0, by omega, by omega, rfl, rfl, rfl, fun j hj => absurd hj (Nat.not_lt_zero _)⟩, fun s hs => ⟨0, by omega, ?_, ?_, fun z => by omega⟩, ⟨nn, v1, ?_, v3, fun j hj => ?_⟩, z0, z1⟩
    · rw [r3]; rfl
    · obtain ⟨q1, q2, q3, q4⟩ := a3 q hq
      show V2 5 q = _ ∧ V2 6 q = _ ∧ V2 7 q = _ ∧ V2 8 q = _
      rw [b2 5 (by decide) (by decide) (by decide) (by decide), b2 6 (by decide) (by decide) (by decide) (by decide), b2 7 (by decide) (by decide) (by decide) (by decide), b2 8 (by decide) (by decide) (by decide) (by decide), r4, r5]
      exact ⟨q1, q2, q3, q4⟩
    · exact b3 j hj
    · show I' 2 = nI tt
      rw [x3 2 (by decide) (by decide) (by decide)]
      exact u2
    · show ∃ b : Nat, b < 256 ∧ V2 1 i = nI b ∧ _
      rw [c2 1 (by omega)]
      exact u4 i hi
    · show upd (upd (V2 26) (0 : Int32).toNatClampNeg (vp_nar .boolean 0)) (1 : Int32).toNatClampNeg (vp_nar .boolean 0) s = nI 0
      rw [nb, show (0 : Int32).toNatClampNeg = 0 from by decide, show (1 : Int32).toNatClampNeg = 1 from by decide]
      by_cases e1 : s = 1
      · rw [e1, upd_s]; rfl
      · rw [upd_n _ _ e1, show s = 0 by omega, upd_s]; rfl
    · show upd (upd (SV 3 1) 0 0) 1 0 s = nI 0
      by_cases e1 : s = 1
      · rw [e1, upd_s]; rfl
      · rw [upd_n _ _ e1, show s = 0 by omega, upd_s]; rfl
    · show I' 27 = nI nn
      rw [x3 27 (by decide) (by decide) (by decide)]
      exact v2
    · show ∃ w d z : Nat, w < 6 ∧ d ≤ 99 ∧ z ≤ 1 ∧ V2 28 j = nI w ∧ V2 29 j = nI d ∧ V2 30 j = nI z ∧ _
      rw [c2 28 (by omega), c2 29 (by omega), c2 30 (by omega)]
      exact v4 j hj
