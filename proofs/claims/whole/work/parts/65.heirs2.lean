theorem upd_id (g : Nat → Int32) (k : Nat) : upd g k (g k) = g := by
  funext j
  by_cases e : j = k
  · subst e; rw [upd_s]
  · rw [upd_n _ _ e]
theorem wI_ren {P D x c W : Nat} {B : Nat → Nat} {L : Nat → Nat → Nat} {Ig : FI} {Vg : FV} {Im : FI} {Vm : FV} (h : wI P D x c W B L Ig Vg Im Vm) {a b : Nat} (ha : a < P) (hb : b < P) (hab : a ≠ b) : wI P D x c W B (va_up (va_up L 10 (va_up (L 10) x a)) 11 (va_up (L 11) x b)) Ig (va_up (va_up Vg 7 (upd (Vg 7) x (nI a))) 8 (upd (Vg 8) x (nI b))) Im (va_up (va_up Vm 10 (upd (Vm 10) c (nI a))) 11 (upd (Vm 11) c (nI b))) := by
  obtain ⟨⟨h1, h2, h3⟩, h4, h5, h6, h9, h10, h11, h12, h13, h14⟩ := h
  refine ⟨⟨h1, h2, h3⟩, h4, fun y hy => ?_, h6, h9, fun y hy => ?_, fun t ht => ?_, h12, h13, fun y hy => ?_⟩
  · show va_up (L 10) x a y < P ∧ va_up (L 11) x b y < P ∧ va_up (L 10) x a y ≠ va_up (L 11) x b y ∧ 1 ≤ L 12 y ∧ L 12 y ≤ 99
    have q := h5 y hy
    by_cases e : y = x
    · subst e
      rw [va_up_self, va_up_self]
      exact ⟨ha, hb, hab, q.2.2.2⟩
    · rw [va_up_ne _ _ e, va_up_ne _ _ e]
      exact q
  · show upd (Vm 10) c (nI a) y = nI (va_up (L 10) x a y) ∧ upd (Vm 11) c (nI b) y = nI (va_up (L 11) x b y) ∧ Vm 12 y = nI (L 12 y) ∧ Vm 13 y = nI (L 13 y)
    rw [upd_n _ _ (show y ≠ c by omega), upd_n _ _ (show y ≠ c by omega), va_up_ne _ _ (show y ≠ x by omega), va_up_ne _ _ (show y ≠ x by omega)]
    exact h10 y hy
  · show upd (Vm 10) c (nI a) (c + t) = nI (va_up (L 10) x a (x + t)) ∧ upd (Vm 11) c (nI b) (c + t) = nI (va_up (L 11) x b (x + t)) ∧ Vm 12 (c + t) = nI (L 12 (x + t)) ∧ Vm 13 (c + t) = nI (L 13 (x + t))
    have q := h11 t ht
    by_cases e : t = 0
    · subst e
      refine ⟨?_, ?_, q.2.2⟩
      · rw [Nat.add_zero, Nat.add_zero, upd_s, va_up_self]
      · rw [Nat.add_zero, Nat.add_zero, upd_s, va_up_self]
    · rw [upd_n _ _ (show c + t ≠ c by omega), upd_n _ _ (show c + t ≠ c by omega), va_up_ne _ _ (show x + t ≠ x by omega), va_up_ne _ _ (show x + t ≠ x by omega)]
      exact q
  · show upd (Vg 7) x (nI a) y = nI (va_up (L 10) x a y) ∧ upd (Vg 8) x (nI b) y = nI (va_up (L 11) x b y) ∧ Vg 9 y = nI (L 12 y) ∧ Vg 10 y = nI (L 13 y)
    have q := h14 y hy
    by_cases e : y = x
    · subst e
      refine ⟨?_, ?_, q.2.2⟩
      · rw [upd_s, va_up_self]
      · rw [upd_s, va_up_self]
    · rw [upd_n _ _ e, upd_n _ _ e, va_up_ne _ _ e, va_up_ne _ _ e]
      exact q
theorem wI_vg {P D x c W : Nat} {B : Nat → Nat} {L : Nat → Nat → Nat} {Ig : FI} {Vg : FV} {Im : FI} {Vm : FV} (h : wI P D (x + 1) c W B L Ig Vg Im Vm) (hc : c ≤ x) (u v : Int32) : wI P D (x + 1) c W B L Ig (va_up (va_up Vg 7 (upd (Vg 7) x u)) 8 (upd (Vg 8) x v)) Im Vm := by
  obtain ⟨h1, h4, h5, h6, h9, h10, h11, h12, h13, h14⟩ := h
  refine ⟨h1, h4, h5, h6, h9, h10, h11, h12, h13, fun y hy => ?_⟩
  show upd (Vg 7) x u y = nI (L 10 y) ∧ upd (Vg 8) x v y = nI (L 11 y) ∧ Vg 9 y = nI (L 12 y) ∧ Vg 10 y = nI (L 13 y)
  rw [upd_n _ _ (show y ≠ x by omega), upd_n _ _ (show y ≠ x by omega)]
  exact h14 y hy
theorem passD_step {ρ : Type} (f : Nat) {Ig : FI} {Vg : FV} {D x p y a b : Nat} (c : Int32) (hx : x < D) (hD : D ≤ 12) (hp : p < 6) (hy : y < 6) (ha : a < 6) (hb : b < 6) (v7 : Vg 7 x = nI a) (v8 : Vg 8 x = nI b) (k : Int32 → FV → Option ρ) (n : Nat) : Led_passDebtsOn_L11 f (nI D) Ig (nI p) (nI y) k (n + 1) c (nI x) Vg = (if (if a = p then y else a) = (if b = p then y else b) then Led_passDebtsOn_L11 f (nI D) Ig (nI p) (nI y) k n c (nI (x + 1)) (va_up (va_up Vg 7 (upd (Vg 7) x (nI (if a = p then y else a)))) 8 (upd (Vg 8) x (nI (if b = p then y else b)))) else ob1 (Led_moveDebt f (nI x) c Ig (va_up (va_up Vg 7 (upd (Vg 7) x (nI (if a = p then y else a)))) 8 (upd (Vg 8) x (nI (if b = p then y else b))))) (fun V3 => Led_passDebtsOn_L11 f (nI D) Ig (nI p) (nI y) k n (c + 1) (nI (x + 1)) V3)) := by
  have e7 : (nI a = nI p) ↔ a = p := nI_eq (by omega) (by omega)
  have e8 : (nI b = nI p) ↔ b = p := nI_eq (by omega) (by omega)
  have eyb : (nI y = nI b) ↔ y = b := nI_eq (by omega) (by omega)
  have eay : (nI a = nI y) ↔ a = y := nI_eq (by omega) (by omega)
  have eab : (nI a = nI b) ↔ a = b := nI_eq (by omega) (by omega)
  have w8 : ∀ g, va_up Vg 7 g 8 = Vg 8 := fun _ => rfl
  have w87 : ∀ g, va_up Vg 8 g 7 = Vg 7 := fun _ => rfl
  have w787 : ∀ g h, va_up (va_up Vg 7 g) 8 h 7 = g := fun _ _ => rfl
  have i7 : va_up Vg 7 (upd (Vg 7) x (nI a)) = Vg := by rw [← v7, upd_id, up_id]
  have i8 : va_up Vg 8 (upd (Vg 8) x (nI b)) = Vg := by rw [← v8, upd_id, up_id]
  have i78 : ∀ g, va_up (va_up Vg 7 g) 8 (upd (Vg 8) x (nI b)) = va_up Vg 7 g := by
    intro g
    rw [← v8, upd_id]
    exact up_id (va_up Vg 7 g) 8
  rw [Led_passDebtsOn_L11, if_neg (nI_ge hx (by omega))]
  simp only [nm, gd_nI (show x < 12 by omega) (show 12 < 2 ^ 31 by decide)]
  simp only [cl_nI (show x < 2 ^ 31 by omega), v7, e7, nI_1]
  by_cases ca : a = p
  · by_cases cb : b = p
    · simp only [if_pos ca, if_pos cb, w8, v8, e8, w787, va_up_self, upd_s]
    · simp only [if_pos ca, if_neg cb, w8, v8, e8, i78, va_up_self, upd_s, eyb]
  · by_cases cb : b = p
    · simp only [if_neg ca, if_pos cb, v8, e8, i7, w87, v7, va_up_self, upd_s, eay]
    · simp only [if_neg ca, if_neg cb, v8, e8, i7, i8, v7, eab]
theorem heirs_step {ρ : Type} (f : Nat) {Im : FI} {Vm : FV} {N c p y a b : Nat} (g : Int32) (hc : c < N) (hN : N ≤ 12) (i9 : Im 9 = nI N) (hp : p < 6) (hy : y < 6) (ha : a < 6) (hb : b < 6) (v10 : Vm 10 c = nI a) (v11 : Vm 11 c = nI b) (k : Int32 → FI → FV → Option ρ) (n : Nat) : M_heirs_L218 f (nI p) (nI y) k (n + 1) g (nI c) Im Vm = (if (if a = p then y else a) = (if b = p then y else b) then ob2 (M_drop f (nI c) Im (va_up (va_up Vm 10 (upd (Vm 10) c (nI (if a = p then y else a)))) 11 (upd (Vm 11) c (nI (if b = p then y else b))))) (fun I19 V20 => M_heirs_L218 f (nI p) (nI y) k n (g + 1) (nI c) I19 V20) else M_heirs_L218 f (nI p) (nI y) k n g (nI (c + 1)) Im (va_up (va_up Vm 10 (upd (Vm 10) c (nI (if a = p then y else a)))) 11 (upd (Vm 11) c (nI (if b = p then y else b))))) := by
  have e7 : (nI a = nI p) ↔ a = p := nI_eq (by omega) (by omega)
  have e8 : (nI b = nI p) ↔ b = p := nI_eq (by omega) (by omega)
  have eyb : (nI y = nI b) ↔ y = b := nI_eq (by omega) (by omega)
  have eay : (nI a = nI y) ↔ a = y := nI_eq (by omega) (by omega)
  have eab : (nI a = nI b) ↔ a = b := nI_eq (by omega) (by omega)
  have w8 : ∀ g, va_up Vm 10 g 11 = Vm 11 := fun _ => rfl
  have w787 : ∀ g h, va_up (va_up Vm 10 g) 11 h 10 = g := fun _ _ => rfl
  rw [M_heirs_L218, i9, if_neg (nI_ge hc (by omega))]
  simp only [nm, gd_nI (show c < 12 by omega) (show 12 < 2 ^ 31 by decide)]
  simp only [cl_nI (show c < 2 ^ 31 by omega), v10, e7, nI_1, w8, v11, e8, w787, va_up_self, upd_s]
  by_cases ca : a = p
  · by_cases cb : b = p
    · simp only [if_pos ca, if_pos cb]
    · simp only [if_pos ca, if_neg cb, eyb]
  · by_cases cb : b = p
    · simp only [if_neg ca, if_pos cb, eay]
    · simp only [if_neg ca, if_neg cb, eab]
theorem heirs_loop {ρ σ : Type} {f : Nat} (hf : 100 ≤ f) {P D W p y : Nat} (hP : P ≤ 6) (hD : D ≤ 12) (hp : p < P) (hy : y < P) {B : Nat → Nat} {Ig : FI} (kX : Int32 → FV → Option ρ) (kM : Int32 → FI → FV → Option σ) : ∀ (n x c : Nat) (L : Nat → Nat → Nat) (Vg : FV) (Im : FI) (Vm : FV), wI P D x c W B L Ig Vg Im Vm → D - x < n → ∃ (c' : Nat) (L' : Nat → Nat → Nat) (Vg' : FV) (Im' : FI) (Vm' : FV), wI P D D c' W B L' Ig Vg' Im' Vm' ∧ (∀ s, s ≠ 9 → Im' s = Im s) ∧ (∀ s, s ≠ 10 → s ≠ 11 → s ≠ 12 → s ≠ 13 → Vm' s = Vm s) ∧ Led_passDebtsOn_L11 f (nI D) Ig (nI p) (nI y) kX n (nI c) (nI x) Vg = kX (nI c') Vg' ∧ M_heirs_L218 f (nI p) (nI y) kM n (nI (x - c)) (nI c) Im Vm = kM (nI (D - c')) Im' Vm' := by
  intro n
  induction n with
  | zero => intro x c L Vg Im Vm h1 h2; omega
  | succ n ih =>
    intro x c L Vg Im Vm h h2
    obtain ⟨⟨g1, g2, g3⟩, g4, g5, ⟨g6, g7, g8⟩, g9, g10, g11, ⟨x0, x1, x2, x3, x4⟩, g13, g14⟩ := id h
    by_cases e : x = D
    · subst e
      refine ⟨c, L, Vg, Im, Vm, h, fun _ _ => rfl, fun _ _ _ _ _ => rfl, ?_, ?_⟩
      · rw [Led_passDebtsOn_L11, if_pos (nI_le (Nat.le_refl _) (by omega))]
      · rw [M_heirs_L218, g7, if_pos (nI_le (by omega) (by omega))]
    · have hx : x < D := by omega
      obtain ⟨a1, a2, a3, a4, a5⟩ := g5 x (Or.inr ⟨Nat.le_refl _, hx⟩)
      obtain ⟨b1, b2, b3, b4⟩ := g14 x (Or.inr ⟨Nat.le_refl _, hx⟩)
      obtain ⟨d1, d2, d3, d4⟩ := g11 0 (by omega)
      rw [Nat.add_zero, Nat.add_zero] at d1 d2 d3 d4
      rw [passD_step f (nI c) (a := L 10 x) (b := L 11 x) hx hD (by omega) (by omega) (by omega) (by omega) b1 b2]
      rw [heirs_step f (nI (x - c)) (N := c + (D - x)) (a := L 10 x) (b := L 11 x) (by omega) (by omega) g7 (by omega) (by omega) (by omega) (by omega) d1 d2]
      obtain ⟨ra, hra⟩ : ∃ ra, ra = (if L 10 x = p then y else L 10 x) := ⟨_, rfl⟩
      obtain ⟨rb, hrb⟩ : ∃ rb, rb = (if L 11 x = p then y else L 11 x) := ⟨_, rfl⟩
      have hra1 : ra < P := by rw [hra]; split <;> omega
      have hrb1 : rb < P := by rw [hrb]; split <;> omega
      rw [← hra, ← hrb]
      by_cases cc : ra = rb
      · rw [if_pos cc, if_pos cc]
        obtain ⟨U, q1, q2, q3, q4⟩ := drop_eq hf (I := Im) (va_up (va_up Vm 10 (upd (Vm 10) c (nI ra))) 11 (upd (Vm 11) c (nI rb))) (d := c) (N := c + (D - x) - 1) (by omega) (by omega) (by rw [g7]; congr 1; omega)
        rw [q1, ob2_s]
        have w2 := wI_drop (U := U) h hx (fun s s1 s2 s3 s4 => by rw [q2 s s1 s2 s3 s4, va_up_ne _ _ s2, va_up_ne _ _ s1]) (fun y1 y2 y3 => by
          obtain ⟨r1, r2, r3, r4⟩ := q3 y1 y2 y3
          refine ⟨r1.trans ?_, r2.trans ?_, r3, r4⟩
          · exact upd_n _ _ (by omega)
          · exact upd_n _ _ (by omega)) (fun y1 y2 => by
          obtain ⟨r1, r2, r3, r4⟩ := q4 y1 y2
          refine ⟨r1.trans ?_, r2.trans ?_, r3, r4⟩
          · exact upd_n _ _ (by omega)
          · exact upd_n _ _ (by omega))
        have w3 := wI_vg w2 g1 (nI ra) (nI rb)
        obtain ⟨c', L', Vg', Im', Vm', r1, r2, r3, r4, r5⟩ := ih (x + 1) c _ _ _ _ w3 (by omega)
        refine ⟨c', L', Vg', Im', Vm', r1, fun s hs => ?_, fun s s1 s2 s3 s4 => ?_, r4, ?_⟩
        · rw [r2 s hs, va_up_ne _ _ hs]
        · rw [r3 s s1 s2 s3 s4, q2 s s1 s2 s3 s4, va_up_ne _ _ s2, va_up_ne _ _ s1]
        · rw [nI_1, show x - c + 1 = x + 1 - c by omega]
          exact r5
      · rw [if_neg cc, if_neg cc, move_eq f Ig _ (by omega) (by omega), ob1_s]
        have w2 := wI_keep (wI_ren h hra1 hrb1 cc) hx
        obtain ⟨c', L', Vg', Im', Vm', r1, r2, r3, r4, r5⟩ := ih (x + 1) (c + 1) _ _ _ _ w2 (by omega)
        refine ⟨c', L', Vg', Im', Vm', r1, r2, fun s s1 s2 s3 s4 => ?_, ?_, ?_⟩
        · rw [r3 s s1 s2 s3 s4, va_up_ne _ _ s2, va_up_ne _ _ s1]
        · rw [nI_1]
          exact r4
        · rw [show x + 1 - (c + 1) = x - c by omega] at r5
          exact r5
