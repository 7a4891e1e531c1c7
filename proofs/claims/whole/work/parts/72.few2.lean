theorem sumUp5 {ρ : Type} {f : Nat} (hf : 100 ≤ f) {Ig : FI} {Vg V : FV} {P : Nat} {L : Nat → Nat → Nat} (hP : P ≤ 6) (hok : okT P L) (hL : tL P L Ig Vg) {S : Nat} (hS0 : S ≠ 0) (hS : S < 2 ^ P) (hT : ∀ U, U < S → V 1 U = nI (TT (nE P L) P U)) (hN : ∀ U, U ≠ 0 → U < S → V 0 U = nI (aS (oTS L) U P) - nI (aS (owS L) U P)) (k : Int32 → FV → Option ρ) : ∀ (n i : Nat) (W : FV), i ≤ P → P - i < n → (∀ r, r ≠ 0 → W r = V r) → (∀ U, U ≠ S → W 0 U = V 0 U) → (∀ p, p < i → S.testBit p = true → W 0 S = nI (aS (oTS L) S P) - nI (aS (owS L) S P)) → ∃ W', Set_sumUp_L5 f Ig (nI S) Vg k n (nI (mx (TT (nE P L) P) S i)) (nI i) W = k (nI (mx (TT (nE P L) P) S P)) W' ∧ (∀ r, r ≠ 0 → W' r = V r) ∧ (∀ U, U ≠ S → W' 0 U = V 0 U) ∧ (∀ p, p < P → S.testBit p = true → W' 0 S = nI (aS (oTS L) S P) - nI (aS (owS L) S P)) := by
  have h2P : (2 : Nat) ^ P ≤ 2 ^ 6 := Nat.pow_le_pow_right (by decide) hP
  have hS64 : S < 64 := by omega
  intro n
  induction n with
  | zero => intro i W h1 h2; omega
  | succ n ih =>
    intro i W h1 h2 h3 h4 h5
    rw [Set_sumUp_L5, hL.1]
    by_cases e : i = P
    · subst e
      exact ⟨W, if_pos (nI_le (Nat.le_refl _) (by omega)), h3, h4, h5⟩
    · have hi : i < P := by omega
      have hc64 : cl S i < 64 := Nat.lt_of_le_of_lt (cl_le S i) hS64
      have b1 := mx_64 (nE P L) hP hS64 i (by omega)
      have b2 := TT_64 (nE P L) hP hc64
      have hp64 : 2 ^ i < 64 := Nat.pow_lt_pow_right (n := 6) (by decide) (by omega)
      rw [if_neg (nI_ge hi (by omega)), isIn_eq f hS64 (by omega), ob1_s]
      by_cases c : S.testBit i = true
      · have hlt := cl_lt S hS64 i (by omega) c
        obtain ⟨W', r1, r2, r3, r4⟩ := ih (i + 1) (va_up W 0 (upd (W 0) S (nI (aS (oTS L) S P) - nI (aS (owS L) S P)))) (by omega) (by omega) (fun r hr => by rw [va_up_ne _ _ hr]; exact h3 r hr) (fun U hU => by rw [va_up_self, upd_n _ _ hU]; exact h4 U hU) (fun p _ _ => by rw [va_up_self, upd_s])
        refine ⟨W', ?_, r2, r3, r4⟩
        rw [← r1]
        unfold Led_netOf
        have clI2 : nI S &&& (nI (2 ^ i) ^^^ (-1)) = nI (cl S i) := by
          rw [andn S hS64 _ hp64]
          rfl
        simp only [nm, clI2, gd_nI hc64 (show 64 < 2 ^ 31 by decide), gd_nI hS64 (show 64 < 2 ^ 31 by decide), sh1 i (show i < 31 by omega), gd_nI hp64 (show 64 < 2 ^ 31 by decide), Led_owedTo_eq hf hP hok hL (show i < 6 by omega), Led_owedBy_eq hf hP hok hL (show i < 6 by omega), ob1_s]
        simp only [cl_nI (show cl S i < 2 ^ 31 by omega), cl_nI (show S < 2 ^ 31 by omega), cl_nI (show 2 ^ i < 2 ^ 31 by omega), nI_1, h3 1 (by decide), hT (cl S i) hlt]
        rw [if_pos c, if_neg (by decide)]
        have hmx : (if nI (mx (TT (nE P L) P) S i) < nI (TT (nE P L) P (cl S i)) then nI (TT (nE P L) P (cl S i)) else nI (mx (TT (nE P L) P) S i)) = nI (mx (TT (nE P L) P) S (i + 1)) := by
          rw [mx]
          by_cases c2 : mx (TT (nE P L) P) S i < TT (nE P L) P (cl S i)
          · rw [if_pos ((lt_n (by omega) (by omega)).mpr c2), if_pos ⟨c, c2⟩]
          · rw [if_neg (fun q => c2 ((lt_n (by omega) (by omega)).mp q)), if_neg (fun q => c2 q.2)]
        rw [hmx]
        have e0 : (nI (cl S i) = 0) ↔ cl S i = 0 := by rw [← nI_0]; exact nI_eq (by omega) (by omega)
        by_cases c3 : cl S i = 0
        · rw [if_pos (e0.mpr c3), aS_cl (oTS L) hS64 hi c, aS_cl (owS L) hS64 hi c, c3, aS_0, aS_0, Nat.zero_add, Nat.zero_add]
        · have hpw := cl_pow S hS64 i (by omega) c c3
          rw [if_neg (fun q => c3 (e0.mp q)), h4 (cl S i) (by omega), h4 (2 ^ i) (by omega), hN (cl S i) c3 hlt, hN (2 ^ i) (by have := Nat.two_pow_pos i; omega) hpw, aS_one (oTS L) hP hi, aS_one (owS L) hP hi, dsum, ← aS_cl (oTS L) hS64 hi c, ← aS_cl (owS L) hS64 hi c]
      · obtain ⟨W', r1, r2, r3, r4⟩ := ih (i + 1) W (by omega) (by omega) h3 h4 (fun p hp hb => by
          by_cases ep : p = i
          · rw [ep] at hb; exact absurd hb c
          · exact h5 p (by omega) hb)
        refine ⟨W', ?_, r2, r3, r4⟩
        rw [mx, if_neg (fun q => c q.1)] at r1
        simp only [nm]
        rw [if_neg c, if_pos rfl, nI_1]
        exact r1
theorem sumUp_eq {f : Nat} (hf : 100 ≤ f) {Ig Is : FI} {Vg V : FV} {P : Nat} {L : Nat → Nat → Nat} (hP : P ≤ 6) (hok : okT P L) (hL : tL P L Ig Vg) {S : Nat} (hS0 : S ≠ 0) (hS : S < 2 ^ P) (hT : ∀ U, U < S → V 1 U = nI (TT (nE P L) P U)) (hN : ∀ U, U ≠ 0 → U < S → V 0 U = nI (aS (oTS L) U P) - nI (aS (owS L) U P)) : ∃ V', Set_sumUp f (nI S) Is V Ig Vg = some V' ∧ (∀ U, U < S + 1 → V' 1 U = nI (TT (nE P L) P U)) ∧ (∀ U, U ≠ 0 → U < S + 1 → V' 0 U = nI (aS (oTS L) U P) - nI (aS (owS L) U P)) ∧ V' 0 0 = V 0 0 := by
  have h2P : (2 : Nat) ^ P ≤ 2 ^ 6 := Nat.pow_le_pow_right (by decide) hP
  have hS64 : S < 64 := by omega
  obtain ⟨W, r1, r2, r3, r4⟩ := sumUp5 hf hP hok hL hS0 hS hT hN (fun (x3_5 : Int32) (Vset_5 : FV) => if nI S < 0 ∨ 64 ≤ (nI S).toNatClampNeg then none else ((if ((Vset_5 0) (nI S).toNatClampNeg) = 0 then if nI S < 0 ∨ 64 ≤ (nI S).toNatClampNeg then none else (nm (va_up Vset_5 1 (upd (Vset_5 1) (nI S).toNatClampNeg (x3_5 + 1))) (fun V7 => some V7)) else if nI S < 0 ∨ 64 ≤ (nI S).toNatClampNeg then none else (nm (va_up Vset_5 1 (upd (Vset_5 1) (nI S).toNatClampNeg x3_5)) (fun V6 => some V6))))) f 0 V (by omega) (by omega) (fun _ _ => rfl) (fun _ _ => rfl) (fun p hp => absurd hp (Nat.not_lt_zero _))
  obtain ⟨p, p1, p2⟩ := ex_bit hS64 hS0 hS
  have hW := r4 p p1 p2
  obtain ⟨b1, b2⟩ := aS_b1 hP hok S P hP
  refine ⟨va_up W 1 (upd (W 1) S (nI (TT (nE P L) P S))), ?_, fun U hU => ?_, fun U hU0 hU => ?_, ?_⟩
  · refine (show Set_sumUp f (nI S) Is V Ig Vg = _ from r1).trans ?_
    simp only [nm, gd_nI hS64 (show 64 < 2 ^ 31 by decide)]
    rw [cl_nI (show S < 2 ^ 31 by omega), hW, TT_S (nE P L) hP hS0 hS64]
    by_cases c2 : aS (oTS L) S P = aS (owS L) S P
    · rw [if_pos ((sub0 b1 b2).mpr c2), if_pos (show nE P L S = true by unfold nE; simp [c2]), nI_1]
    · rw [if_neg (fun z => c2 ((sub0 b1 b2).mp z)), if_neg (show ¬ nE P L S = true by unfold nE; simp [c2]), Nat.add_zero]
  · rw [va_up_self]
    by_cases e : U = S
    · rw [e, upd_s]
    · rw [upd_n _ _ e, r2 1 (by decide)]; exact hT U (by omega)
  · show W 0 U = _
    by_cases e : U = S
    · rw [e]; exact hW
    · rw [r3 U e]; exact hN U hU0 (by omega)
  · show W 0 0 = _
    exact r3 0 (fun q => hS0 q.symm)
theorem pay7 {ρ : Type} {f : Nat} (hf : 100 ≤ f) {Ig Is : FI} {Vg : FV} {P : Nat} {L : Nat → Nat → Nat} (hP : P ≤ 6) (hok : okT P L) (hL : tL P L Ig Vg) (k : FV → Option ρ) : ∀ (n s : Nat) (V : FV), 1 ≤ s → s ≤ 2 ^ P → 2 ^ P - s < n → (∀ U, U < s → V 1 U = nI (TT (nE P L) P U)) → (∀ U, U ≠ 0 → U < s → V 0 U = nI (aS (oTS L) U P) - nI (aS (owS L) U P)) → ∃ V', Set_fewestPayments_L7 f (nI (2 ^ P - 1)) Is Ig Vg k n (nI s) V = k V' ∧ (∀ U, U < 2 ^ P → V' 1 U = nI (TT (nE P L) P U)) ∧ V' 0 0 = V 0 0 := by
  have h2P : (2 : Nat) ^ P ≤ 2 ^ 6 := Nat.pow_le_pow_right (by decide) hP
  intro n
  induction n with
  | zero => intro s V h0 h1 h2; omega
  | succ n ih =>
    intro s V h0 h1 h2 h3 h4
    rw [Set_fewestPayments_L7]
    by_cases e : s = 2 ^ P
    · rw [e] at h3
      exact ⟨V, if_pos ((lt_n (by omega) (by omega)).mpr (by omega)), h3, rfl⟩
    · obtain ⟨V1, a1, a2, a3, a4⟩ := sumUp_eq hf (Is := Is) hP hok hL (show s ≠ 0 by omega) (show s < 2 ^ P by omega) h3 h4
      obtain ⟨V', r1, r2, r3⟩ := ih (s + 1) V1 (by omega) (by omega) (by omega) a2 a3
      refine ⟨V', ?_, r2, r3.trans a4⟩
      rw [if_neg (fun q => by have := (lt_n (by omega) (by omega)).mp q; omega), if_neg (show ¬ (64 : Int32) ≤ nI s from nI_ge (b := 64) (by omega) (by decide)), a1, ob1_s, nI_1]
      exact r1
theorem few9 {ρ : Type} {f : Nat} (hf : 100 ≤ f) {I : FI} {V : FV} {P : Nat} {L : Nat → Nat → Nat} (hP : P ≤ 6) (hok : okT P L) (i4 : I 4 = nI P) (hM : tM P L I V) (k : Int32 → Option ρ) : ∀ n i, i ≤ P → P - i < n → M_fewest_L9 f I V k n (nI (bm (fun p => !(oTS L p == owS L p)) i)) (nI i) = k (nI (bm (fun p => !(oTS L p == owS L p)) P)) := by
  intro n
  induction n with
  | zero => intro i h1 h2; omega
  | succ n ih =>
    intro i h1 h2
    rw [M_fewest_L9, i4]
    by_cases e : i = P
    · subst e
      rw [if_pos (nI_le (Nat.le_refl _) (by omega))]
    · have hi : i < P := by omega
      have b1 := oTS_le hok i
      have b2 := owS_le hok i
      rw [if_neg (nI_ge hi (by omega)), M_owedAll_eq hf hP hok hM (show i < 6 by omega), M_owesAll_eq hf hP hok hM (show i < 6 by omega), ob1_s, ob1_s]
      simp only [nm, nI_1, nI_eq (show oTS L i < 2 ^ 31 by omega) (show owS L i < 2 ^ 31 by omega)]
      have ih2 := ih (i + 1) (by omega) (by omega)
      rw [← bm_or _ i (by omega)] at ih2
      by_cases c : oTS L i = owS L i
      · rw [if_pos c]
        rw [if_neg (by simp [c])] at ih2
        exact ih2
      · rw [if_neg c]
        rw [if_pos (by simp [c])] at ih2
        exact ih2
theorem few173 {ρ : Type} (f : Nat) {I : FI} {P : Nat} (hP : P ≤ 6) (i4 : I 4 = nI P) (q : Nat → Bool) (k : Int32 → Option ρ) : ∀ n i, i ≤ P → P - i < n → M_fewest_L173 f I (nI (bm q P)) k n (nI (ct q i)) (nI i) = k (nI (ct q P)) := by
  intro n
  induction n with
  | zero => intro i h1 h2; omega
  | succ n ih =>
    intro i h1 h2
    rw [M_fewest_L173, i4]
    by_cases e : i = P
    · subst e
      rw [if_pos (nI_le (Nat.le_refl _) (by omega))]
    · have hi : i < P := by omega
      rw [if_neg (nI_ge hi (by omega)), has_q f q hP hi, ob1_s]
      simp only [nm, nI_1]
      have ih2 := ih (i + 1) (by omega) (by omega)
      rw [show ct q (i + 1) = ct q i + (if q i then 1 else 0) from rfl] at ih2
      by_cases c : q i = true
      · rw [if_pos c, if_neg (by decide)]
        rw [if_pos c] at ih2
        exact ih2
      · rw [if_neg c, if_pos rfl, Int32.add_zero]
        rw [if_neg c, Nat.add_zero] at ih2
        exact ih2
/-- those from n on, and of the others those whose net is something -/
def chn (q : Nat → Bool) (n p : Nat) : Bool := decide (n ≤ p) || q p
theorem chain {P : Nat} {L : Nat → Nat → Nat} (hP : P ≤ 6) : ∀ n, n ≤ P → TT (nE P L) P (bm (chn (fun p => !(oTS L p == owS L p)) 0) P) + ct (fun p => !(oTS L p == owS L p)) n = TT (nE P L) P (bm (chn (fun p => !(oTS L p == owS L p)) n) P) + n := by
  intro n
  induction n with
  | zero => intro _; rfl
  | succ n ih =>
    intro hn
    have ih1 := ih (by omega)
    obtain ⟨q, hq⟩ : ∃ q, q = (fun p => !(oTS L p == owS L p)) := ⟨_, rfl⟩
    rw [← hq] at ih1 ⊢
    rw [show ct q (n + 1) = ct q n + (if q n then 1 else 0) from rfl]
    by_cases c : q n = true
    · have e : bm (chn q (n + 1)) P = bm (chn q n) P := by
        apply bm_congr
        intro x hx
        unfold chn
        by_cases ex : x = n
        · rw [ex, c, Bool.or_true, Bool.or_true]
        · have : decide (n + 1 ≤ x) = decide (n ≤ x) := by
            rw [decide_eq_decide]; omega
          rw [this]
      rw [if_pos c, e]
      omega
    · have hS := bm_lt (chn q n) P
      have hS64 := bm64 (chn q n) hP
      have hbit : (bm (chn q n) P).testBit n = true := by
        rw [bm_bit]
        unfold chn
        simp [show n < P by omega]
      have ecl : cl (bm (chn q n) P) n = bm (chn q (n + 1)) P := by
        apply Nat.eq_of_testBit_eq
        intro i
        rw [cl_bit hS64, bm_bit, bm_bit]
        unfold chn
        by_cases ei : i = n
        · rw [ei]
          have : q n = false := by simpa using c
          simp [this]
        · by_cases h1 : n ≤ i
          · simp [ei, h1, show n + 1 ≤ i by omega]
          · simp [ei, h1, show ¬ n + 1 ≤ i by omega]
      have hnet : oTS L n = owS L n := by
        rw [hq] at c
        simpa using c
      have hrem := TT_rem (nE P L) hP (show n < P by omega) (by unfold nE; rw [aS_0, aS_0]; rfl) (fun S h1 h2 => by
        unfold nE
        rw [aS_cl (oTS L) h1 (show n < P by omega) h2, aS_cl (owS L) h1 (show n < P by omega) h2, hnet, decide_eq_decide]
        omega) _ (bm (chn q n) P) (Nat.le_refl _) hS hbit
      rw [ecl] at hrem
      rw [if_neg c]
      omega
theorem S_fewest {f : Nat} (hf : 1000 ≤ f) : Sim_fewest Rel f := by
  intro SI SV LaI LaV LsI LsV I V h
  have h0 := h
  obtain ⟨P, hP, i4, ⟨L, hok, hM, hL⟩, hT, hA, hSl, hDa, z0, z1⟩ := h
  have hM1 : tM P L (va_up I 0 0) V := hM
  have l0 := hL.1
  have j4 : va_up I 0 0 4 = nI P := i4
  have h2P : (2 : Nat) ^ P ≤ 2 ^ 6 := Nat.pow_le_pow_right (by decide) hP
  have h1P := Nat.two_pow_pos P
  obtain ⟨Vs, x1, x2, x3⟩ := pay7 (f := f) (by omega) (Is := SI 5) hP hok hL (fun (Vset_7 : FV) => if nI (2 ^ P - 1) < 0 ∨ 64 ≤ (nI (2 ^ P - 1)).toNatClampNeg then none else (some (((SI 1 0) - ((Vset_7 1) (nI (2 ^ P - 1)).toNatClampNeg)), Vset_7))) f 1 (SV 5) (Nat.le_refl _) (by omega) (by omega) (fun U hU => by
    rw [show U = 0 by omega, z1]; rfl) (fun U hU0 hU => by omega)
  obtain ⟨q, hq⟩ : ∃ q, q = (fun p => !(oTS L p == owS L p)) := ⟨_, rfl⟩
  have hb := bm_lt q P
  obtain ⟨h', y1, y2⟩ := few50 (f := f) (by omega) hP hok j4 hM1 (fun (Vm_50 : FV) => (M_fewest_L173 f (va_up I 0 0) (nI (bm q P)) (fun (x2_173 : Int32) => if nI (bm q P) < 0 ∨ 64 ≤ (nI (bm q P)).toNatClampNeg then none else (some ((x2_173 - ((Vm_50 31) (nI (bm q P)).toNatClampNeg)), va_up I 0 0, Vm_50))) f 0 0)) f 0 (V 31) (by omega) (by omega) (fun U hU => absurd hU (Nat.not_lt_zero _))
  rw [up_id] at y1
  have y3 := few9 (f := f) (by omega) hP hok j4 hM1 (fun (x1_9 : Int32) => (M_fewest_L50 f (va_up I 0 0) (fun (Vm_50 : FV) => (M_fewest_L173 f (va_up I 0 0) x1_9 (fun (x2_173 : Int32) => if x1_9 < 0 ∨ 64 ≤ x1_9.toNatClampNeg then none else (some ((x2_173 - ((Vm_50 31) x1_9.toNatClampNeg)), va_up I 0 0, Vm_50))) f 0 0)) f 0 V)) f 0 (by omega) (by omega)
  have y4 := few173 f hP j4 q (fun (x2_173 : Int32) => if nI (bm q P) < 0 ∨ 64 ≤ (nI (bm q P)).toNatClampNeg then none else (some ((x2_173 - ((va_up V 31 h' 31) (nI (bm q P)).toNatClampNeg)), va_up I 0 0, va_up V 31 h'))) f 0 (by omega) (by omega)
  rw [← hq] at y3
  have hm : M_fewest f I V = some (nI (ct q P) - nI (TT (nE P L) P (bm q P)), va_up I 0 0, va_up V 31 h') := by
    refine (show M_fewest f I V = _ from y3).trans ?_
    refine (show M_fewest_L50 f (va_up I 0 0) _ f 0 V = _ from y1).trans ?_
    refine (show M_fewest_L173 f (va_up I 0 0) (nI (bm q P)) _ f 0 0 = _ from y4).trans ?_
    rw [gd_nI (show bm q P < 64 by omega) (by decide), cl_nI (show bm q P < 2 ^ 31 by omega), va_up_self, y2 _ hb]
  have hx : X_fewest f (SI 99) (SV 99) (SI 5) (SV 5) (SI 1) (SV 1) = some (nI P - nI (TT (nE P L) P (2 ^ P - 1)), Vs) := by
    unfold X_fewest Set_fewestPayments
    rw [all_eq f _ hP l0, ob1_s]
    rw [show Set_fewestPayments_L7 f (nI (2 ^ P - 1)) (SI 5) (SI 1) (SV 1) _ f 1 (SV 5) = _ from x1]
    rw [gd_nI (show 2 ^ P - 1 < 64 by omega) (by decide), cl_nI (show 2 ^ P - 1 < 2 ^ 31 by omega), x2 _ (by omega), l0, ob2_s]
  have hch := chain (L := L) hP P (Nat.le_refl _)
  rw [← hq] at hch
  have e1 : bm (chn q 0) P = 2 ^ P - 1 := by
    apply Nat.eq_of_testBit_eq
    intro i
    rw [bm_bit, Nat.testBit_two_pow_sub_one]
    unfold chn
    simp
  have e2 : bm (chn q P) P = bm q P := by
    apply bm_congr
    intro x hx
    unfold chn
    simp [show ¬ P ≤ x by omega]
  rw [e1, e2] at hch
  have eres : nI P - nI (TT (nE P L) P (2 ^ P - 1)) = nI (ct q P) - nI (TT (nE P L) P (bm q P)) := by
    have hc := congrArg nI hch
    rw [← nI_add, ← nI_add] at hc
    generalize nI P = a at hc ⊢
    generalize nI (TT (nE P L) P (2 ^ P - 1)) = b at hc ⊢
    generalize nI (ct q P) = c at hc ⊢
    generalize nI (TT (nE P L) P (bm q P)) = d at hc ⊢
    grind
  refine ⟨_, Vs, va_up I 0 0, va_up V 31 h', hx, by rw [eres]; exact hm, ?_⟩
  have hRel0 : Rel SI SV LaI LaV LsI LsV (va_up I 0 0) (va_up V 31 h') := Rel_ag h0 (agI_0 I 0) ⟨rfl, rfl, rfl, rfl, rfl, rfl, rfl, rfl, rfl, rfl, rfl, rfl, rfl, rfl, rfl⟩
  obtain ⟨P', hP', i4', hLL', hT', hA', hSl', hDa', z0', z1'⟩ := hRel0
  refine ⟨P', hP', i4', hLL', hT', hA', hSl', hDa', ?_, ?_⟩
  · show Vs 0 0 = 0
    rw [x3]; exact z0
  · show Vs 1 0 = 0
    rw [x2 0 h1P]; rfl
