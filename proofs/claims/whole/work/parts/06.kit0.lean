/-! ===== my own words: the functions of cells, and how a model's answer is taken apart ===== -/
abbrev FI : Type := Nat → Int32
abbrev FV : Type := Nat → Nat → Int32
def nm {α β : Type} (x : α) (g : α → β) : β := g x
theorem nmd {α β : Type} {x y : α} {g : α → β} {r : β} (hf : nm x g = r) (e : y = x) : g y = r := by subst e; exact hf
theorem nme {α β : Type} {x : α} {g : α → β} {r : β} (hf : nm x g = r) : ∃ j, j = x ∧ g j = r := ⟨x, rfl, hf⟩
theorem gd {c : Prop} [Decidable c] {α : Type} {x : Option α} {r : α} (h : (if c then none else x) = some r) : ¬ c ∧ x = some r := by
  by_cases hc : c
  · rw [if_pos hc] at h; cases h
  · rw [if_neg hc] at h; exact ⟨hc, h⟩
theorem gp {c : Prop} [Decidable c] {α : Type} {x : Option α} {r : α} (h : (if c then x else none) = some r) : c ∧ x = some r := by
  by_cases hc : c
  · rw [if_pos hc] at h; exact ⟨hc, h⟩
  · rw [if_neg hc] at h; cases h
theorem ip {c : Prop} [Decidable c] {α : Type} {a b r : α} (h : c) (hf : (if c then a else b) = r) : a = r := (if_pos h).symm.trans hf
theorem im {c : Prop} [Decidable c] {α : Type} {a b r : α} (h : ¬ c) (hf : (if c then a else b) = r) : b = r := (if_neg h).symm.trans hf
def ob1 {α ρ : Type} (x : Option α) (g : α → Option ρ) : Option ρ := match x with
  | none => none
  | some a => g a
theorem bd1 {α ρ : Type} {x : Option α} {g : α → Option ρ} {r : ρ} (h : ob1 x g = some r) : ∃ a, x = some a ∧ g a = some r := by
  cases x with
  | none => cases h
  | some a => exact ⟨a, rfl, h⟩
def ob2 {α β ρ : Type} (x : Option (α × β)) (g : α → β → Option ρ) : Option ρ := match x with
  | none => none
  | some a => g a.1 a.2
theorem bd2 {α β ρ : Type} {x : Option (α × β)} {g : α → β → Option ρ} {r : ρ} (h : ob2 x g = some r) : ∃ a b, x = some (a, b) ∧ g a b = some r := by
  cases x with
  | none => cases h
  | some a => exact ⟨a.1, a.2, rfl, h⟩
def ob3 {α β γ ρ : Type} (x : Option (α × β × γ)) (g : α → β → γ → Option ρ) : Option ρ := match x with
  | none => none
  | some a => g a.1 a.2.1 a.2.2
theorem bd3 {α β γ ρ : Type} {x : Option (α × β × γ)} {g : α → β → γ → Option ρ} {r : ρ} (h : ob3 x g = some r) : ∃ a b c, x = some (a, b, c) ∧ g a b c = some r := by
  cases x with
  | none => cases h
  | some a => exact ⟨a.1, a.2.1, a.2.2, rfl, h⟩
def ob4 {α β γ δ ρ : Type} (x : Option (α × β × γ × δ)) (g : α → β → γ → δ → Option ρ) : Option ρ := match x with
  | none => none
  | some a => g a.1 a.2.1 a.2.2.1 a.2.2.2
theorem bd4 {α β γ δ ρ : Type} {x : Option (α × β × γ × δ)} {g : α → β → γ → δ → Option ρ} {r : ρ} (h : ob4 x g = some r) : ∃ a b c d, x = some (a, b, c, d) ∧ g a b c d = some r := by
  cases x with
  | none => cases h
  | some a => exact ⟨a.1, a.2.1, a.2.2.1, a.2.2.2, rfl, h⟩
def ob5 {α β γ δ ε ρ : Type} (x : Option (α × β × γ × δ × ε)) (g : α → β → γ → δ → ε → Option ρ) : Option ρ := match x with
  | none => none
  | some a => g a.1 a.2.1 a.2.2.1 a.2.2.2.1 a.2.2.2.2
theorem bd5 {α β γ δ ε ρ : Type} {x : Option (α × β × γ × δ × ε)} {g : α → β → γ → δ → ε → Option ρ} {r : ρ} (h : ob5 x g = some r) : ∃ a b c d e, x = some (a, b, c, d, e) ∧ g a b c d e = some r := by
  cases x with
  | none => cases h
  | some a => exact ⟨a.1, a.2.1, a.2.2.1, a.2.2.2.1, a.2.2.2.2, rfl, h⟩
/-- the arrays' classes: ints, booleans, bytes, ledgers, rows of ints -/
abbrev tyA (cs : Nat → ClassId) : List (ClassId × FieldType) := [(cs 0, .int), (cs 1, .boolean), (cs 2, .byte), (cs 3, .object "DaysLent$Ledger"), (cs 4, .array .int)]
abbrev xP (D : va_G) (cs : Nat → ClassId) (w : va_W) (sz : Nat) : State → Prop := fun U => U.heap.size = sz ∧ va_P D vwCl w U.heap ∧ va_K D vwCl (tyA cs) U ∧ va_D (fun _ => True) w
abbrev xR (D : va_G) (cs : Nat → ClassId) (w : va_W) : State → Prop := fun U => va_P D vwCl w U.heap ∧ va_K D vwCl (tyA cs) U
abbrev xA (D : va_G) (cs : Nat → ClassId) (A : Nat → Prop) (w : va_W) (t : State) : Prop := va_P D vwCl w t.heap ∧ va_K D vwCl (tyA cs) t ∧ va_D A w
theorem xP_moved {D : va_G} {cs : Nat → ClassId} {w : va_W} {sz : Nat} {av : List Value} : FrameBlind (va_Pc av (xP D cs w sz)) := fun a U g mk q => ⟨q.1, q.2.1, q.2.2.1, va_K.moved (u := U) (U := U.calling g mk a) (Vm.Alike.refl U.vm) q.2.2.2.1, q.2.2.2.2⟩
theorem xR_moved {D : va_G} {cs : Nat → ClassId} {w : va_W} {av : List Value} : FrameBlind (va_Pc av (xR D cs w)) := fun a U g mk q => ⟨q.1, q.2.1, va_K.moved (u := U) (U := U.calling g mk a) (Vm.Alike.refl U.vm) q.2.2⟩
theorem xfree {A0 : Nat → Prop} {ws : va_W} {H0 H : Heap} {locs : List Loc} (hD : va_D A0 ws) (hS : va_S A0 H0 H locs) (hA : ∀ q, H0.size ≤ q → A0 q) : ∀ q, va_A ws H.size q → A0 q := by
  intro q h
  rcases h with ⟨k, e, h⟩ | h
  · exact hD.2 k (q, e) h
  · exact hA q (Nat.le_trans hS.1 h)
def w_M (cs : Nat → ClassId) (o : Nat) (h : Nat → Nat) (I : FI) (V : FV) : va_W := [(o, .inr (10, [.int (I 0), .ref (h 1), .int (I 2), .int (I 3), .int (I 4), .ref (h 5), .ref (h 6), .ref (h 7), .ref (h 8), .int (I 9), .ref (h 10), .ref (h 11), .ref (h 12), .ref (h 13), .int (I 14), .int (I 15), .int (I 16), .ref (h 17), .ref (h 18), .ref (h 19), .ref (h 20), .ref (h 21), .ref (h 22), .ref (h 23), .int (I 24), .ref (h 25), .ref (h 26), .int (I 27), .ref (h 28), .ref (h 29), .ref (h 30), .ref (h 31), .ref (h 32), .ref (h 33), .ref (h 34), .ref (h 35), .ref (h 36), .int (I 37)])),
  (h 1, .inl (cs 0, 80, .inl (V 1))),
  (h 5, .inl (cs 0, 6, .inl (V 5))),
  (h 6, .inl (cs 0, 6, .inl (V 6))),
  (h 7, .inl (cs 1, 6, .inl (V 7))),
  (h 8, .inl (cs 1, 6, .inl (V 8))),
  (h 10, .inl (cs 0, 12, .inl (V 10))),
  (h 11, .inl (cs 0, 12, .inl (V 11))),
  (h 12, .inl (cs 0, 12, .inl (V 12))),
  (h 13, .inl (cs 0, 12, .inl (V 13))),
  (h 17, .inl (cs 0, 6, .inl (V 17))),
  (h 18, .inl (cs 0, 6, .inl (V 18))),
  (h 19, .inl (cs 0, 8, .inl (V 19))),
  (h 20, .inl (cs 0, 8, .inl (V 20))),
  (h 21, .inl (cs 0, 8, .inl (V 21))),
  (h 22, .inl (cs 0, 8, .inl (V 22))),
  (h 23, .inl (cs 0, 740, .inl (V 23))),
  (h 25, .inl (cs 0, 148, .inl (V 25))),
  (h 26, .inl (cs 1, 2, .inl (V 26))),
  (h 28, .inl (cs 0, 12, .inl (V 28))),
  (h 29, .inl (cs 0, 12, .inl (V 29))),
  (h 30, .inl (cs 1, 12, .inl (V 30))),
  (h 31, .inl (cs 0, 64, .inl (V 31))),
  (h 32, .inl (cs 0, 7, .inl (V 32))),
  (h 33, .inl (cs 0, 7, .inl (V 33))),
  (h 34, .inl (cs 0, 700, .inl (V 34))),
  (h 35, .inl (cs 0, 6, .inl (V 35))),
  (h 36, .inl (cs 0, 6, .inl (V 36)))]

