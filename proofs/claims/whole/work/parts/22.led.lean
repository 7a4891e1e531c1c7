def X_isLoan (f : Nat) (x0 : Int32) : Option (Int32) := (if x0 < 1 then some 0 else (if 99 < x0 then some 0 else some 1))
abbrev rm_X_isLoan : Room := { frames := 0, cells := 0, slots := 0, locals := 0 }
set_option maxHeartbeats 4000000 in
set_option maxRecDepth 100000 in
theorem v_X_isLoan {l : Launch} {p : Program} {e : Env} {s : State} {m : MethodId} {args : Array Value} {below : List Frame} {meth : Method} {c : Code} {Q : State → Prop} {x0 : Int32} {f : Nat} {out : Int32} (hf : X_isLoan f x0 = some out) (hx : p.tables.exec = Jvm.exec) (hb : c.code = cX9_isLoan) (hml : c.maxLocals = 1) (hown : s.vm.findClass RX9 = some m.cls) (hts : ∀ w ∈ wsX9_isLoan, w.before args s = true) (hret : ∀ (v : Int32) (pc : Nat) (ls : Array Slot), narrow .boolean (.int v) = .int v → some v = some out → decode cX9_isLoan pc = .ok (.ireturn, 1) → W p l e rm_X_isLoan s m args below meth c s.heap [] 0 0 Q (F0 m pc ls [.int v])) : ∀ ls : Array Slot, lv_has ls 1 [(0, .int x0)] → W p l e rm_X_isLoan s m args below meth c s.heap [] 0 0 Q (F0 m 0 ls []) := by
  intro ls hl
  unfold X_isLoan at hf
  refine lv_iload_n hx hb dX9_isLoan_0 rfl (lv_at hl 0 rfl) ?_
  refine lv_iconst (v := 1) hx hb dX9_isLoan_1 (by decide) ?_
  refine lv_icmp_lt (tgt := 15) hx hb dX9_isLoan_2 (by decide) (fun c2 => ?_) (fun c2 => ?_)
  · replace hf := ip c2 hf
    refine lv_iconst (v := 0) hx hb dX9_isLoan_15 (by decide) ?_
    exact hret 0 16 _ rfl hf dX9_isLoan_16
  · replace hf := im c2 hf
    refine lv_iload_n hx hb dX9_isLoan_5 rfl (lv_at hl 0 rfl) ?_
    refine lv_bipush (v := 99) hx hb dX9_isLoan_6 (by decide) ?_
    refine lv_icmp_gt (tgt := 15) hx hb dX9_isLoan_8 (by decide) (fun c8 => ?_) (fun c8 => ?_)
    · replace hf := ip c8 hf
      refine lv_iconst (v := 0) hx hb dX9_isLoan_15 (by decide) ?_
      exact hret 0 16 _ rfl hf dX9_isLoan_16
    · replace hf := im c8 hf
      refine lv_iconst (v := 1) hx hb dX9_isLoan_11 (by decide) ?_
      refine lv_goto (tgt := 16) hx hb dX9_isLoan_12 (by decide) ?_
      exact hret 1 16 _ rfl hf dX9_isLoan_16
set_option maxHeartbeats 4000000 in
set_option maxRecDepth 100000 in
theorem c_X_isLoan (l : Launch) (x0 : Int32) (f : Nat) (out : Int32) (hf : X_isLoan f x0 = some out) : Met l yX9_isLoan wsX9_isLoan rm_X_isLoan (va_Pc [.int x0] (fun _ => True)) (vp_Si (fun r => r = out)) 0 0 (fun _ => False) := by
  refine Met.ofW (cc := cX9_isLoan) (maxL := 1) (ret := (some .boolean)) (by decide) rfl ?_
  intro p e s m args below meth c s₁ B hml hv
  obtain ⟨ha, -⟩ := hv
  have hx := B.exec
  have hb := B.bytes
  have hr := B.returns
  have hts := atoms_spec (ws := wsX9_isLoan) B.pre
  have hown : s.vm.findClass RX9 = some m.cls := findClass_of_methodNamed B.named
  have hlocks := B.notSynchronized
  have hl := lv_entry ([.int x0]) (n := 1) (Nat.le_of_ble_eq_true rfl)
  rw [show entryFrame m args 1 = entryFrame m ([.int x0] : List Value).toArray 1 from by rw [ha], lg_entry_eq]
  generalize (lg_sl ([.int x0]) ++ List.replicate (1 - (lg_sl ([.int x0])).length) Slot.unset).toArray = ls at hl ⊢
  generalize hQ : MQ below (vp_Si (fun r => r = out)) args s 0 0 (fun _ => False) = Q
  have hret : ∀ (v : Int32) (pc : Nat) (ls : Array Slot), narrow .boolean (.int v) = .int v → some v = some out → decode cX9_isLoan pc = .ok (.ireturn, 1) → W p l e rm_X_isLoan s m args below meth c s.heap [] 0 0 Q (F0 m pc ls [.int v]) := by
    intro v pc ls hz hf hd
    rw [← hQ]
    exact W.zret (v := v) hx hb hr hz (fun t ht hW => ⟨v, rfl, Option.some.inj hf, ht⟩) (fun q h => by cases h) hd
  exact v_X_isLoan hf hx hb hml hown hts hret ls hl
def X_isIn (f : Nat) (x0 : Int32) (x1 : Int32) : Option (Int32) := (if ((x0 >>> (x1 &&& 31)) &&& 1) = 0 then some 0 else some 1)
abbrev rm_X_isIn : Room := { frames := 0, cells := 0, slots := 0, locals := 0 }
set_option maxHeartbeats 4000000 in
set_option maxRecDepth 100000 in
theorem v_X_isIn {l : Launch} {p : Program} {e : Env} {s : State} {m : MethodId} {args : Array Value} {below : List Frame} {meth : Method} {c : Code} {Q : State → Prop} {x0 : Int32} {x1 : Int32} {f : Nat} {out : Int32} (hf : X_isIn f x0 x1 = some out) (hx : p.tables.exec = Jvm.exec) (hb : c.code = cX9_isIn) (hml : c.maxLocals = 2) (hown : s.vm.findClass RX9 = some m.cls) (hts : ∀ w ∈ wsX9_isIn, w.before args s = true) (hret : ∀ (v : Int32) (pc : Nat) (ls : Array Slot), narrow .boolean (.int v) = .int v → some v = some out → decode cX9_isIn pc = .ok (.ireturn, 1) → W p l e rm_X_isIn s m args below meth c s.heap [] 0 0 Q (F0 m pc ls [.int v])) : ∀ ls : Array Slot, lv_has ls 2 [(0, .int x0), (1, .int x1)] → W p l e rm_X_isIn s m args below meth c s.heap [] 0 0 Q (F0 m 0 ls []) := by
  intro ls hl
  unfold X_isIn at hf
  refine lv_iload_n hx hb dX9_isIn_0 rfl (lv_at hl 0 rfl) ?_
  refine lv_iload_n hx hb dX9_isIn_1 rfl (lv_at hl 1 rfl) ?_
  refine lv_ishr hx hb dX9_isIn_2 ?_
  refine lv_iconst (v := 1) hx hb dX9_isIn_3 (by decide) ?_
  refine lv_iand hx hb dX9_isIn_4 ?_
  refine lv_if_eq (tgt := 12) hx hb dX9_isIn_5 (by decide) (fun c5 => ?_) (fun c5 => ?_)
  · replace hf := ip c5 hf
    refine lv_iconst (v := 0) hx hb dX9_isIn_12 (by decide) ?_
    exact hret 0 13 _ rfl hf dX9_isIn_13
  · replace hf := im c5 hf
    refine lv_iconst (v := 1) hx hb dX9_isIn_8 (by decide) ?_
    refine lv_goto (tgt := 13) hx hb dX9_isIn_9 (by decide) ?_
    exact hret 1 13 _ rfl hf dX9_isIn_13
set_option maxHeartbeats 4000000 in
set_option maxRecDepth 100000 in
theorem c_X_isIn (l : Launch) (x0 : Int32) (x1 : Int32) (f : Nat) (out : Int32) (hf : X_isIn f x0 x1 = some out) : Met l yX9_isIn wsX9_isIn rm_X_isIn (va_Pc [.int x0, .int x1] (fun _ => True)) (vp_Si (fun r => r = out)) 0 0 (fun _ => False) := by
  refine Met.ofW (cc := cX9_isIn) (maxL := 2) (ret := (some .boolean)) (by decide) rfl ?_
  intro p e s m args below meth c s₁ B hml hv
  obtain ⟨ha, -⟩ := hv
  have hx := B.exec
  have hb := B.bytes
  have hr := B.returns
  have hts := atoms_spec (ws := wsX9_isIn) B.pre
  have hown : s.vm.findClass RX9 = some m.cls := findClass_of_methodNamed B.named
  have hlocks := B.notSynchronized
  have hl := lv_entry ([.int x0, .int x1]) (n := 2) (Nat.le_of_ble_eq_true rfl)
  rw [show entryFrame m args 2 = entryFrame m ([.int x0, .int x1] : List Value).toArray 2 from by rw [ha], lg_entry_eq]
  generalize (lg_sl ([.int x0, .int x1]) ++ List.replicate (2 - (lg_sl ([.int x0, .int x1])).length) Slot.unset).toArray = ls at hl ⊢
  generalize hQ : MQ below (vp_Si (fun r => r = out)) args s 0 0 (fun _ => False) = Q
  have hret : ∀ (v : Int32) (pc : Nat) (ls : Array Slot), narrow .boolean (.int v) = .int v → some v = some out → decode cX9_isIn pc = .ok (.ireturn, 1) → W p l e rm_X_isIn s m args below meth c s.heap [] 0 0 Q (F0 m pc ls [.int v]) := by
    intro v pc ls hz hf hd
    rw [← hQ]
    exact W.zret (v := v) hx hb hr hz (fun t ht hW => ⟨v, rfl, Option.some.inj hf, ht⟩) (fun q h => by cases h) hd
  exact v_X_isIn hf hx hb hml hown hts hret ls hl
def X_askedFor (f : Nat) (x0 : Int32) (x1 : Int32) : Option (Int32) := some (((x0 + 1) / 2) * x1)
abbrev rm_X_askedFor : Room := { frames := 0, cells := 0, slots := 0, locals := 0 }
set_option maxHeartbeats 4000000 in
set_option maxRecDepth 100000 in
theorem v_X_askedFor {l : Launch} {p : Program} {e : Env} {s : State} {m : MethodId} {args : Array Value} {below : List Frame} {meth : Method} {c : Code} {Q : State → Prop} {x0 : Int32} {x1 : Int32} {f : Nat} {out : Int32} (hf : X_askedFor f x0 x1 = some out) (hx : p.tables.exec = Jvm.exec) (hb : c.code = cX9_askedFor) (hml : c.maxLocals = 2) (hown : s.vm.findClass RX9 = some m.cls) (hts : ∀ w ∈ wsX9_askedFor, w.before args s = true) (hret : ∀ (v : Int32) (pc : Nat) (ls : Array Slot), some v = some out → decode cX9_askedFor pc = .ok (.ireturn, 1) → W p l e rm_X_askedFor s m args below meth c s.heap [] 0 0 Q (F0 m pc ls [.int v])) : ∀ ls : Array Slot, lv_has ls 2 [(0, .int x0), (1, .int x1)] → W p l e rm_X_askedFor s m args below meth c s.heap [] 0 0 Q (F0 m 0 ls []) := by
  intro ls hl
  unfold X_askedFor at hf
  refine lv_iload_n hx hb dX9_askedFor_0 rfl (lv_at hl 0 rfl) ?_
  refine lv_iconst (v := 1) hx hb dX9_askedFor_1 (by decide) ?_
  refine lv_iadd hx hb dX9_askedFor_2 ?_
  refine lv_iconst (v := 2) hx hb dX9_askedFor_3 (by decide) ?_
  refine lv_idiv hx hb dX9_askedFor_4 (by decide) ?_
  refine lv_iload_n hx hb dX9_askedFor_5 rfl (lv_at hl 1 rfl) ?_
  refine lv_imul hx hb dX9_askedFor_6 ?_
  exact hret (((x0 + 1) / 2) * x1) 7 _ hf dX9_askedFor_7
set_option maxHeartbeats 4000000 in
set_option maxRecDepth 100000 in
theorem c_X_askedFor (l : Launch) (x0 : Int32) (x1 : Int32) (f : Nat) (out : Int32) (hf : X_askedFor f x0 x1 = some out) : Met l yX9_askedFor wsX9_askedFor rm_X_askedFor (va_Pc [.int x0, .int x1] (fun _ => True)) (vp_Si (fun r => r = out)) 0 0 (fun _ => False) := by
  refine Met.ofW (cc := cX9_askedFor) (maxL := 2) (ret := (some .int)) (by decide) rfl ?_
  intro p e s m args below meth c s₁ B hml hv
  obtain ⟨ha, -⟩ := hv
  have hx := B.exec
  have hb := B.bytes
  have hr := B.returns
  have hts := atoms_spec (ws := wsX9_askedFor) B.pre
  have hown : s.vm.findClass RX9 = some m.cls := findClass_of_methodNamed B.named
  have hlocks := B.notSynchronized
  have hl := lv_entry ([.int x0, .int x1]) (n := 2) (Nat.le_of_ble_eq_true rfl)
  rw [show entryFrame m args 2 = entryFrame m ([.int x0, .int x1] : List Value).toArray 2 from by rw [ha], lg_entry_eq]
  generalize (lg_sl ([.int x0, .int x1]) ++ List.replicate (2 - (lg_sl ([.int x0, .int x1])).length) Slot.unset).toArray = ls at hl ⊢
  generalize hQ : MQ below (vp_Si (fun r => r = out)) args s 0 0 (fun _ => False) = Q
  have hret : ∀ (v : Int32) (pc : Nat) (ls : Array Slot), some v = some out → decode cX9_askedFor pc = .ok (.ireturn, 1) → W p l e rm_X_askedFor s m args below meth c s.heap [] 0 0 Q (F0 m pc ls [.int v]) := by
    intro v pc ls hf hd
    rw [← hQ]
    exact W.iret (v := v) hx hb hr (fun t ht hW => ⟨v, rfl, Option.some.inj hf, ht⟩) (fun q h => by cases h) hd
  exact v_X_askedFor hf hx hb hml hown hts hret ls hl
def X_commonDivisor_L7 {ρ : Type} (f : Nat) (k_7 : Int32 → Option ρ) : Nat → Int32 → Int32 → Int32 → Option ρ
  | 0, _, _, _ => none
  | n_7 + 1, x2_7, x3_7, x4_7 => (if 50 ≤ x4_7 then (k_7 x2_7) else (if x3_7 = 0 then (k_7 x2_7) else if x3_7 = 0 then none else (nm (x2_7 - x2_7 / x3_7 * x3_7) (fun y1 => (X_commonDivisor_L7 f k_7 n_7 x3_7 y1 (x4_7 + 1))))))
def X_commonDivisor (f : Nat) (x0 : Int32) (x1 : Int32) : Option (Int32) := (X_commonDivisor_L7 f (fun (x2_7 : Int32) => some x2_7) f x0 x1 0)
abbrev rm_X_commonDivisor : Room := { frames := 0, cells := 0, slots := 0, locals := 0 }
set_option maxHeartbeats 4000000 in
set_option maxRecDepth 100000 in
theorem v_X_commonDivisor {l : Launch} {p : Program} {e : Env} {s : State} {m : MethodId} {args : Array Value} {below : List Frame} {meth : Method} {c : Code} {Q : State → Prop} {x0 : Int32} {x1 : Int32} {f : Nat} {out : Int32} (hf : X_commonDivisor f x0 x1 = some out) (hx : p.tables.exec = Jvm.exec) (hb : c.code = cX9_commonDivisor) (hml : c.maxLocals = 6) (hown : s.vm.findClass RX9 = some m.cls) (hts : ∀ w ∈ wsX9_commonDivisor, w.before args s = true) (hret : ∀ (v : Int32) (pc : Nat) (ls : Array Slot), some v = some out → decode cX9_commonDivisor pc = .ok (.ireturn, 1) → W p l e rm_X_commonDivisor s m args below meth c s.heap [] 0 0 Q (F0 m pc ls [.int v])) : ∀ ls : Array Slot, lv_has ls 6 [(0, .int x0), (1, .int x1)] → W p l e rm_X_commonDivisor s m args below meth c s.heap [] 0 0 Q (F0 m 0 ls []) := by
  intro ls hl
  unfold X_commonDivisor at hf
  refine lv_iload_n hx hb dX9_commonDivisor_0 rfl (lv_at hl 0 rfl) ?_
  refine lv_istore_n (lv' := [(2, .int x0), (0, .int x0), (1, .int x1)]) hx hb dX9_commonDivisor_1 rfl hl (by decide) rfl (fun ls hl => ?_)
  refine lv_iload_n hx hb dX9_commonDivisor_2 rfl (lv_at hl 2 rfl) ?_
  refine lv_istore_n (lv' := [(3, .int x1), (2, .int x0), (0, .int x0), (1, .int x1)]) hx hb dX9_commonDivisor_3 rfl hl (by decide) rfl (fun ls hl => ?_)
  refine lv_iconst (v := 0) hx hb dX9_commonDivisor_4 (by decide) ?_
  refine lv_istore (lv' := [(4, .int 0), (3, .int x1), (2, .int x0), (0, .int x0), (1, .int x1)]) hx hb dX9_commonDivisor_5 hl (by decide) rfl (fun ls hl => ?_)
  have L7 : ∀ (k_7 : Int32 → Option (Int32)) (hk_7 : ∀ (x2_7 : Int32), k_7 x2_7 = some out → ∀ ls : Array Slot, lv_has ls 6 [(2, .int x2_7)] → W p l e rm_X_commonDivisor s m args below meth c s.heap [] 0 0 Q (F0 m 34 ls [])), ∀ (n_7 : Nat) (x2_7 : Int32) (x3_7 : Int32) (x4_7 : Int32), X_commonDivisor_L7 f k_7 n_7 x2_7 x3_7 x4_7 = some out → ∀ ls : Array Slot, lv_has ls 6 [(2, .int x2_7), (3, .int x3_7), (4, .int x4_7)] → W p l e rm_X_commonDivisor s m args below meth c s.heap [] 0 0 Q (F0 m 7 ls []) := by
    intro k_7 hk_7 n_7
    induction n_7 with
    | zero => intro x2_7 x3_7 x4_7 hf; rw [X_commonDivisor_L7] at hf; cases hf
    | succ n_7 ih_7 =>
      intro x2_7 x3_7 x4_7 hf ls hl
      rw [X_commonDivisor_L7] at hf
      refine lv_iload hx hb dX9_commonDivisor_7 (lv_at hl 2 rfl) ?_
      refine lv_bipush (v := 50) hx hb dX9_commonDivisor_9 (by decide) ?_
      refine lv_icmp_ge (tgt := 34) hx hb dX9_commonDivisor_11 (by decide) (fun c11 => ?_) (fun c11 => ?_)
      · replace hf := ip c11 hf
        exact hk_7 x2_7 hf _ (lv_sub hl [0] rfl)
      · replace hf := im c11 hf
        refine lv_iload_n hx hb dX9_commonDivisor_14 rfl (lv_at hl 1 rfl) ?_
        refine lv_if_eq (tgt := 34) hx hb dX9_commonDivisor_15 (by decide) (fun c15 => ?_) (fun c15 => ?_)
        · replace hf := ip c15 hf
          exact hk_7 x2_7 hf _ (lv_sub hl [0] rfl)
        · replace hf := im c15 hf
          refine lv_iload_n hx hb dX9_commonDivisor_18 rfl (lv_at hl 0 rfl) ?_
          refine lv_iload_n hx hb dX9_commonDivisor_19 rfl (lv_at hl 1 rfl) ?_
          obtain ⟨c20, hf⟩ := gd hf
          refine lv_irem hx hb dX9_commonDivisor_20 c20 ?_
          refine lv_topi (fun y1 ey1 => ?_)
          replace hf := nmd hf ey1
          refine lv_istore (lv' := [(5, .int y1), (2, .int x2_7), (3, .int x3_7), (4, .int x4_7)]) hx hb dX9_commonDivisor_21 hl (by decide) rfl (fun ls hl => ?_)
          refine lv_iload_n hx hb dX9_commonDivisor_23 rfl (lv_at hl 2 rfl) ?_
          refine lv_istore_n (lv' := [(2, .int x3_7), (5, .int y1), (3, .int x3_7), (4, .int x4_7)]) hx hb dX9_commonDivisor_24 rfl hl (by decide) rfl (fun ls hl => ?_)
          refine lv_iload hx hb dX9_commonDivisor_25 (lv_at hl 1 rfl) ?_
          refine lv_istore_n (lv' := [(3, .int y1), (2, .int x3_7), (5, .int y1), (4, .int x4_7)]) hx hb dX9_commonDivisor_27 rfl hl (by decide) rfl (fun ls hl => ?_)
          refine lv_iinc (v := (x4_7 + 1)) (lv' := [(4, .int (x4_7 + 1)), (3, .int y1), (2, .int x3_7), (5, .int y1)]) hx hb dX9_commonDivisor_28 hl (k := 3) rfl (by rfl) (by decide) rfl (fun ls hl => ?_)
          refine lv_goto (tgt := 7) hx hb dX9_commonDivisor_31 (by decide) ?_
          exact ih_7 x3_7 y1 (x4_7 + 1) hf _ (lv_sub hl [2, 1, 0] rfl)
  refine L7 _ (fun x2_7 hf ls hl => ?_) f x0 x1 0 hf _ (lv_sub hl [2, 1, 0] rfl)
  refine lv_iload_n hx hb dX9_commonDivisor_34 rfl (lv_at hl 0 rfl) ?_
  exact hret x2_7 35 _ hf dX9_commonDivisor_35
set_option maxHeartbeats 4000000 in
set_option maxRecDepth 100000 in
theorem c_X_commonDivisor (l : Launch) (x0 : Int32) (x1 : Int32) (f : Nat) (out : Int32) (hf : X_commonDivisor f x0 x1 = some out) : Met l yX9_commonDivisor wsX9_commonDivisor rm_X_commonDivisor (va_Pc [.int x0, .int x1] (fun _ => True)) (vp_Si (fun r => r = out)) 0 0 (fun _ => False) := by
  refine Met.ofW (cc := cX9_commonDivisor) (maxL := 6) (ret := (some .int)) (by decide) rfl ?_
  intro p e s m args below meth c s₁ B hml hv
  obtain ⟨ha, -⟩ := hv
  have hx := B.exec
  have hb := B.bytes
  have hr := B.returns
  have hts := atoms_spec (ws := wsX9_commonDivisor) B.pre
  have hown : s.vm.findClass RX9 = some m.cls := findClass_of_methodNamed B.named
  have hlocks := B.notSynchronized
  have hl := lv_entry ([.int x0, .int x1]) (n := 6) (Nat.le_of_ble_eq_true rfl)
  rw [show entryFrame m args 6 = entryFrame m ([.int x0, .int x1] : List Value).toArray 6 from by rw [ha], lg_entry_eq]
  generalize (lg_sl ([.int x0, .int x1]) ++ List.replicate (6 - (lg_sl ([.int x0, .int x1])).length) Slot.unset).toArray = ls at hl ⊢
  generalize hQ : MQ below (vp_Si (fun r => r = out)) args s 0 0 (fun _ => False) = Q
  have hret : ∀ (v : Int32) (pc : Nat) (ls : Array Slot), some v = some out → decode cX9_commonDivisor pc = .ok (.ireturn, 1) → W p l e rm_X_commonDivisor s m args below meth c s.heap [] 0 0 Q (F0 m pc ls [.int v]) := by
    intro v pc ls hf hd
    rw [← hQ]
    exact W.iret (v := v) hx hb hr (fun t ht hW => ⟨v, rfl, Option.some.inj hf, ht⟩) (fun q h => by cases h) hd
  exact v_X_commonDivisor hf hx hb hml hown hts hret ls hl
def Jint_bitCount_0f7a4 (f : Nat) (x0 : Int32) : Option (Int32) := (nm (fun (x0_24 : Int32) => nm ((x0_24 + ((x0_24.toUInt32 >>> ((4 : Int32).toUInt32 &&& Int32.toUInt32 31)).toInt32)) &&& 252645135) (fun y1 => nm (y1 + ((y1.toUInt32 >>> ((8 : Int32).toUInt32 &&& Int32.toUInt32 31)).toInt32)) (fun y2 => nm (y2 + ((y2.toUInt32 >>> ((16 : Int32).toUInt32 &&& Int32.toUInt32 31)).toInt32)) (fun y3 => some (y3 &&& 63))))) (fun j24 => nm (x0 - (((x0.toUInt32 >>> ((1 : Int32).toUInt32 &&& Int32.toUInt32 31)).toInt32) &&& 1431655765)) (fun y4 => nm ((y4 &&& 858993459) + (((y4.toUInt32 >>> ((2 : Int32).toUInt32 &&& Int32.toUInt32 31)).toInt32) &&& 858993459)) (fun y5 => (j24 y5)))))
abbrev rm_Jint_bitCount_0f7a4 : Room := { frames := 0, cells := 0, slots := 0, locals := 0 }
set_option maxHeartbeats 4000000 in
set_option maxRecDepth 100000 in
theorem v_Jint_bitCount_0f7a4 {l : Launch} {p : Program} {e : Env} {s : State} {m : MethodId} {args : Array Value} {below : List Frame} {meth : Method} {c : Code} {Q : State → Prop} {x0 : Int32} {f : Nat} {out : Int32} (hf : Jint_bitCount_0f7a4 f x0 = some out) (hx : p.tables.exec = Jvm.exec) (hb : c.code = cJ6_bitCount_0f7a4) (hml : c.maxLocals = 1) (hown : s.vm.findClass RJ6 = some m.cls) (hts : ∀ w ∈ wsJ6_bitCount_0f7a4, w.before args s = true) (k_265 : (Cond.constant RJ6 265 (1431655765)).before args s = true) (k_266 : (Cond.constant RJ6 266 (858993459)).before args s = true) (k_267 : (Cond.constant RJ6 267 (252645135)).before args s = true) (hret : ∀ (v : Int32) (pc : Nat) (ls : Array Slot), some v = some out → decode cJ6_bitCount_0f7a4 pc = .ok (.ireturn, 1) → W p l e rm_Jint_bitCount_0f7a4 s m args below meth c s.heap [] 0 0 Q (F0 m pc ls [.int v])) : ∀ ls : Array Slot, lv_has ls 1 [(0, .int x0)] → W p l e rm_Jint_bitCount_0f7a4 s m args below meth c s.heap [] 0 0 Q (F0 m 0 ls []) := by
  intro ls hl
  unfold Jint_bitCount_0f7a4 at hf
  obtain ⟨j24, ej24, hf⟩ := nme hf
  have J24 : ∀ (x0_24 : Int32), j24 x0_24 = some out → ∀ ls : Array Slot, lv_has ls 1 [(0, .int x0_24)] → W p l e rm_Jint_bitCount_0f7a4 s m args below meth c s.heap [] 0 0 Q (F0 m 24 ls []) := by
    intro x0_24 hf ls hl
    rw [ej24] at hf
    refine lv_iload_n hx hb dJ6_bitCount_0f7a4_24 rfl (lv_at hl 0 rfl) ?_
    refine lv_iload_n hx hb dJ6_bitCount_0f7a4_25 rfl (lv_at hl 0 rfl) ?_
    refine lv_iconst (v := 4) hx hb dJ6_bitCount_0f7a4_26 (by decide) ?_
    refine lv_iushr (v := (x0_24.toUInt32 >>> ((4 : Int32).toUInt32 &&& Int32.toUInt32 31)).toInt32) hx hb dJ6_bitCount_0f7a4_27 rfl ?_
    refine lv_iadd hx hb dJ6_bitCount_0f7a4_28 ?_
    refine lv_ldcw (v := 252645135) hx hb hown k_267 dJ6_bitCount_0f7a4_29 ?_
    refine lv_iand hx hb dJ6_bitCount_0f7a4_32 ?_
    refine lv_topi (fun y1 ey1 => ?_)
    replace hf := nmd hf ey1
    refine lv_istore_n (lv' := [(0, .int y1)]) hx hb dJ6_bitCount_0f7a4_33 rfl hl (by decide) rfl (fun ls hl => ?_)
    refine lv_iload_n hx hb dJ6_bitCount_0f7a4_34 rfl (lv_at hl 0 rfl) ?_
    refine lv_iload_n hx hb dJ6_bitCount_0f7a4_35 rfl (lv_at hl 0 rfl) ?_
    refine lv_bipush (v := 8) hx hb dJ6_bitCount_0f7a4_36 (by decide) ?_
    refine lv_iushr (v := (y1.toUInt32 >>> ((8 : Int32).toUInt32 &&& Int32.toUInt32 31)).toInt32) hx hb dJ6_bitCount_0f7a4_38 rfl ?_
    refine lv_iadd hx hb dJ6_bitCount_0f7a4_39 ?_
    refine lv_topi (fun y2 ey2 => ?_)
    replace hf := nmd hf ey2
    refine lv_istore_n (lv' := [(0, .int y2)]) hx hb dJ6_bitCount_0f7a4_40 rfl hl (by decide) rfl (fun ls hl => ?_)
    refine lv_iload_n hx hb dJ6_bitCount_0f7a4_41 rfl (lv_at hl 0 rfl) ?_
    refine lv_iload_n hx hb dJ6_bitCount_0f7a4_42 rfl (lv_at hl 0 rfl) ?_
    refine lv_bipush (v := 16) hx hb dJ6_bitCount_0f7a4_43 (by decide) ?_
    refine lv_iushr (v := (y2.toUInt32 >>> ((16 : Int32).toUInt32 &&& Int32.toUInt32 31)).toInt32) hx hb dJ6_bitCount_0f7a4_45 rfl ?_
    refine lv_iadd hx hb dJ6_bitCount_0f7a4_46 ?_
    refine lv_topi (fun y3 ey3 => ?_)
    replace hf := nmd hf ey3
    refine lv_istore_n (lv' := [(0, .int y3)]) hx hb dJ6_bitCount_0f7a4_47 rfl hl (by decide) rfl (fun ls hl => ?_)
    refine lv_iload_n hx hb dJ6_bitCount_0f7a4_48 rfl (lv_at hl 0 rfl) ?_
    refine lv_bipush (v := 63) hx hb dJ6_bitCount_0f7a4_49 (by decide) ?_
    refine lv_iand hx hb dJ6_bitCount_0f7a4_51 ?_
    exact hret (y3 &&& 63) 52 _ hf dJ6_bitCount_0f7a4_52
  refine lv_iload_n hx hb dJ6_bitCount_0f7a4_0 rfl (lv_at hl 0 rfl) ?_
  refine lv_iload_n hx hb dJ6_bitCount_0f7a4_1 rfl (lv_at hl 0 rfl) ?_
  refine lv_iconst (v := 1) hx hb dJ6_bitCount_0f7a4_2 (by decide) ?_
  refine lv_iushr (v := (x0.toUInt32 >>> ((1 : Int32).toUInt32 &&& Int32.toUInt32 31)).toInt32) hx hb dJ6_bitCount_0f7a4_3 rfl ?_
  refine lv_ldcw (v := 1431655765) hx hb hown k_265 dJ6_bitCount_0f7a4_4 ?_
  refine lv_iand hx hb dJ6_bitCount_0f7a4_7 ?_
  refine lv_isub hx hb dJ6_bitCount_0f7a4_8 ?_
  refine lv_topi (fun y4 ey4 => ?_)
  replace hf := nmd hf ey4
  refine lv_istore_n (lv' := [(0, .int y4)]) hx hb dJ6_bitCount_0f7a4_9 rfl hl (by decide) rfl (fun ls hl => ?_)
  refine lv_iload_n hx hb dJ6_bitCount_0f7a4_10 rfl (lv_at hl 0 rfl) ?_
  refine lv_ldcw (v := 858993459) hx hb hown k_266 dJ6_bitCount_0f7a4_11 ?_
  refine lv_iand hx hb dJ6_bitCount_0f7a4_14 ?_
  refine lv_iload_n hx hb dJ6_bitCount_0f7a4_15 rfl (lv_at hl 0 rfl) ?_
  refine lv_iconst (v := 2) hx hb dJ6_bitCount_0f7a4_16 (by decide) ?_
  refine lv_iushr (v := (y4.toUInt32 >>> ((2 : Int32).toUInt32 &&& Int32.toUInt32 31)).toInt32) hx hb dJ6_bitCount_0f7a4_17 rfl ?_
  refine lv_ldcw (v := 858993459) hx hb hown k_266 dJ6_bitCount_0f7a4_18 ?_
  refine lv_iand hx hb dJ6_bitCount_0f7a4_21 ?_
  refine lv_iadd hx hb dJ6_bitCount_0f7a4_22 ?_
  refine lv_topi (fun y5 ey5 => ?_)
  replace hf := nmd hf ey5
  refine lv_istore_n (lv' := [(0, .int y5)]) hx hb dJ6_bitCount_0f7a4_23 rfl hl (by decide) rfl (fun ls hl => ?_)
  exact J24 y5 hf _ (lv_sub hl [0] rfl)
set_option maxHeartbeats 4000000 in
set_option maxRecDepth 100000 in
theorem c_Jint_bitCount_0f7a4 (l : Launch) (x0 : Int32) (f : Nat) (out : Int32) (hf : Jint_bitCount_0f7a4 f x0 = some out) : Met l yJ6_bitCount_0f7a4 wsJ6_bitCount_0f7a4 rm_Jint_bitCount_0f7a4 (va_Pc [.int x0] (fun _ => True)) (vp_Si (fun r => r = out)) 0 0 (fun _ => False) := by
  refine Met.ofW (cc := cJ6_bitCount_0f7a4) (maxL := 1) (ret := (some .int)) (by decide) rfl ?_
  intro p e s m args below meth c s₁ B hml hv
  obtain ⟨ha, -⟩ := hv
  have hx := B.exec
  have hb := B.bytes
  have hr := B.returns
  have hts := atoms_spec (ws := wsJ6_bitCount_0f7a4) B.pre
  have hown : s.vm.findClass RJ6 = some m.cls := findClass_of_methodNamed B.named
  have hlocks := B.notSynchronized
  have k_265 := hts (Cond.constant RJ6 265 (1431655765)) (by decide +kernel)
  have k_266 := hts (Cond.constant RJ6 266 (858993459)) (by decide +kernel)
  have k_267 := hts (Cond.constant RJ6 267 (252645135)) (by decide +kernel)
  have hl := lv_entry ([.int x0]) (n := 1) (Nat.le_of_ble_eq_true rfl)
  rw [show entryFrame m args 1 = entryFrame m ([.int x0] : List Value).toArray 1 from by rw [ha], lg_entry_eq]
  generalize (lg_sl ([.int x0]) ++ List.replicate (1 - (lg_sl ([.int x0])).length) Slot.unset).toArray = ls at hl ⊢
  generalize hQ : MQ below (vp_Si (fun r => r = out)) args s 0 0 (fun _ => False) = Q
  have hret : ∀ (v : Int32) (pc : Nat) (ls : Array Slot), some v = some out → decode cJ6_bitCount_0f7a4 pc = .ok (.ireturn, 1) → W p l e rm_Jint_bitCount_0f7a4 s m args below meth c s.heap [] 0 0 Q (F0 m pc ls [.int v]) := by
    intro v pc ls hf hd
    rw [← hQ]
    exact W.iret (v := v) hx hb hr (fun t ht hW => ⟨v, rfl, Option.some.inj hf, ht⟩) (fun q h => by cases h) hd
  exact v_Jint_bitCount_0f7a4 hf hx hb hml hown hts k_265 k_266 k_267 hret ls hl
def Led_clear (f : Nat) (I_g : FI) (V_g : FV) : Option (FI) := nm (va_up I_g 0 0) (fun I1 => nm (va_up I1 1 0) (fun I2 => nm (va_up I2 2 0) (fun I3 => nm (va_up I3 3 0) (fun I4 => nm (va_up I4 4 0) (fun I5 => some I5)))))
abbrev rm_Led_clear : Room := { frames := 0, cells := 0, slots := 0, locals := 0 }
set_option maxHeartbeats 4000000 in
set_option maxRecDepth 100000 in
theorem v_Led_clear {l : Launch} {p : Program} {e : Env} {s : State} {m : MethodId} {args : Array Value} {below : List Frame} {meth : Method} {c : Code} {Q : State → Prop} {D : va_G} {cs : Nat → ClassId} {o_g : Nat} {h_g : Nat → Nat} {A : Nat → Prop} {I_g : FI} {V_g : FV} {f : Nat} {out : FI} (hf : Led_clear f I_g V_g = some out) (hx : p.tables.exec = Jvm.exec) (hb : c.code = cX3_clear) (hml : c.maxLocals = 1) (hown : s.vm.findClass RX3 = some m.cls) (hts : ∀ w ∈ wsX3_clear, w.before args s = true) (in_X3 : ∀ w ∈ u_ws RX3 TX3 11, w ∈ wsX3_clear) (g_9 : (Cond.fieldLink RX3 9 "DaysLent$Ledger" "people" "I").before args s = true) (g_15 : (Cond.fieldLink RX3 15 "DaysLent$Ledger" "debts" "I").before args s = true) (g_18 : (Cond.fieldLink RX3 18 "DaysLent$Ledger" "weekNumber" "I").before args s = true) (g_21 : (Cond.fieldLink RX3 21 "DaysLent$Ledger" "alive" "I").before args s = true) (g_24 : (Cond.fieldLink RX3 24 "DaysLent$Ledger" "broken" "I").before args s = true) (hA : ∀ q : Nat, s.heap.size ≤ q → A q) (hP : va_P D vwCl (List.flatten [(w_Led cs o_g h_g I_g V_g)]) s.heap) (hD : va_D A (List.flatten [(w_Led cs o_g h_g I_g V_g)])) (hK : va_K D vwCl (tyA cs) s) (hN : yN s) (hret : ∀ (Ig9 : FI) (H : Heap) (locs : List Loc) (pc : Nat) (ls : Array Slot), some Ig9 = some out → va_P D vwCl (List.flatten [(w_Led cs o_g h_g Ig9 V_g)]) H → va_D A (List.flatten [(w_Led cs o_g h_g Ig9 V_g)]) → va_S A s.heap H locs → decode cX3_clear pc = .ok (.return_, 1) → W p l e rm_Led_clear s m args below meth c H locs 0 0 Q (F0 m pc ls [])) : ∀ ls : Array Slot, lv_has ls 1 [(0, .ref o_g)] → W p l e rm_Led_clear s m args below meth c s.heap [] 0 0 Q (F0 m 0 ls []) := by
  intro ls hl
  have hS : va_S A s.heap s.heap [] := va_S.rf
  unfold Led_clear at hf
  refine lv_aload_n hx hb dX3_clear_0 rfl (lv_at hl 0 rfl) ?_
  refine lv_iconst (v := 0) hx hb dX3_clear_1 (by decide) ?_
  refine va_put (D := D) (ci := 3) (v := .int 0) (ty := .int) (C := RX3) (T := TX3) (N := 11) hx hb hts in_X3 tyX3 tyX3_ok nmX3 hown hK hP hD hS 0 rfl rfl 0 (by decide) g_9 (fun _ h9 => h9) rfl (by decide +kernel) rfl rfl (Nat.le_of_ble_eq_true rfl) dX3_clear_2 (fun H locs hP hD hS => ?_)
  obtain ⟨I1, eI1, hf⟩ := nme hf
  have hP : va_P D vwCl (List.flatten [(w_Led cs o_g h_g I1 V_g)]) H := by rw [eI1]; exact hP
  have hD : va_D A (List.flatten [(w_Led cs o_g h_g I1 V_g)]) := by rw [eI1]; exact hD
  refine lv_aload_n hx hb dX3_clear_5 rfl (lv_at hl 0 rfl) ?_
  refine lv_iconst (v := 0) hx hb dX3_clear_6 (by decide) ?_
  refine va_put (D := D) (ci := 3) (v := .int 0) (ty := .int) (C := RX3) (T := TX3) (N := 11) hx hb hts in_X3 tyX3 tyX3_ok nmX3 hown hK hP hD hS 0 rfl rfl 1 (by decide) g_15 (fun _ h9 => h9) rfl (by decide +kernel) rfl rfl (Nat.le_of_ble_eq_true rfl) dX3_clear_7 (fun H locs hP hD hS => ?_)
  obtain ⟨I2, eI2, hf⟩ := nme hf
  have hP : va_P D vwCl (List.flatten [(w_Led cs o_g h_g I2 V_g)]) H := by rw [eI2]; exact hP
  have hD : va_D A (List.flatten [(w_Led cs o_g h_g I2 V_g)]) := by rw [eI2]; exact hD
  refine lv_aload_n hx hb dX3_clear_10 rfl (lv_at hl 0 rfl) ?_
  refine lv_iconst (v := 0) hx hb dX3_clear_11 (by decide) ?_
  refine va_put (D := D) (ci := 3) (v := .int 0) (ty := .int) (C := RX3) (T := TX3) (N := 11) hx hb hts in_X3 tyX3 tyX3_ok nmX3 hown hK hP hD hS 0 rfl rfl 2 (by decide) g_18 (fun _ h9 => h9) rfl (by decide +kernel) rfl rfl (Nat.le_of_ble_eq_true rfl) dX3_clear_12 (fun H locs hP hD hS => ?_)
  obtain ⟨I3, eI3, hf⟩ := nme hf
  have hP : va_P D vwCl (List.flatten [(w_Led cs o_g h_g I3 V_g)]) H := by rw [eI3]; exact hP
  have hD : va_D A (List.flatten [(w_Led cs o_g h_g I3 V_g)]) := by rw [eI3]; exact hD
  refine lv_aload_n hx hb dX3_clear_15 rfl (lv_at hl 0 rfl) ?_
  refine lv_iconst (v := 0) hx hb dX3_clear_16 (by decide) ?_
  refine va_put (D := D) (ci := 3) (v := .int 0) (ty := .int) (C := RX3) (T := TX3) (N := 11) hx hb hts in_X3 tyX3 tyX3_ok nmX3 hown hK hP hD hS 0 rfl rfl 3 (by decide) g_21 (fun _ h9 => h9) rfl (by decide +kernel) rfl rfl (Nat.le_of_ble_eq_true rfl) dX3_clear_17 (fun H locs hP hD hS => ?_)
  obtain ⟨I4, eI4, hf⟩ := nme hf
  have hP : va_P D vwCl (List.flatten [(w_Led cs o_g h_g I4 V_g)]) H := by rw [eI4]; exact hP
  have hD : va_D A (List.flatten [(w_Led cs o_g h_g I4 V_g)]) := by rw [eI4]; exact hD
  refine lv_aload_n hx hb dX3_clear_20 rfl (lv_at hl 0 rfl) ?_
  refine lv_iconst (v := 0) hx hb dX3_clear_21 (by decide) ?_
  refine va_put (D := D) (ci := 3) (v := .int 0) (ty := .int) (C := RX3) (T := TX3) (N := 11) hx hb hts in_X3 tyX3 tyX3_ok nmX3 hown hK hP hD hS 0 rfl rfl 4 (by decide) g_24 (fun _ h9 => h9) rfl (by decide +kernel) rfl rfl (Nat.le_of_ble_eq_true rfl) dX3_clear_22 (fun H locs hP hD hS => ?_)
  obtain ⟨I5, eI5, hf⟩ := nme hf
  have hP : va_P D vwCl (List.flatten [(w_Led cs o_g h_g I5 V_g)]) H := by rw [eI5]; exact hP
  have hD : va_D A (List.flatten [(w_Led cs o_g h_g I5 V_g)]) := by rw [eI5]; exact hD
  exact hret I5 _ _ 25 _ hf hP hD hS dX3_clear_25
set_option maxHeartbeats 4000000 in
set_option maxRecDepth 100000 in
theorem c_Led_clear (l : Launch) (D : va_G) (cs : Nat → ClassId) (o_g : Nat) (h_g : Nat → Nat) (sz : Nat) (I_g : FI) (V_g : FV) (f : Nat) (out : FI) (hf : Led_clear f I_g V_g = some out) : Met l yX3_clear wsX3_clear rm_Led_clear (va_Pc [.ref o_g] (yP D cs (List.flatten [(w_Led cs o_g h_g I_g V_g)]) sz)) (va_Qv (fun u => u = out) (fun (u : FI) t => xA D cs (va_A (List.flatten [(w_Led cs o_g h_g I_g V_g)]) sz) (List.flatten [(w_Led cs o_g h_g u V_g)]) t) (va_A (List.flatten [(w_Led cs o_g h_g I_g V_g)]) sz)) 0 0 (va_A (List.flatten [(w_Led cs o_g h_g I_g V_g)]) sz) := by
  refine Met.ofW (cc := cX3_clear) (maxL := 1) (ret := none) (by decide) rfl ?_
  intro p e s m args below meth c s₁ B hml hv
  obtain ⟨ha, hsz, hP, hK, hN, hD0⟩ := hv
  have hx := B.exec
  have hb := B.bytes
  have hr := B.returns
  have hts := atoms_spec (ws := wsX3_clear) B.pre
  have hown : s.vm.findClass RX3 = some m.cls := findClass_of_methodNamed B.named
  have hlocks := B.notSynchronized
  have in_X3 : ∀ w ∈ u_ws RX3 TX3 11, w ∈ wsX3_clear := fun w h => List.mem_cons_of_mem _ (List.mem_append_right _ h)
  have g_9 := hts (Cond.fieldLink RX3 9 "DaysLent$Ledger" "people" "I") (by decide +kernel)
  have g_15 := hts (Cond.fieldLink RX3 15 "DaysLent$Ledger" "debts" "I") (by decide +kernel)
  have g_18 := hts (Cond.fieldLink RX3 18 "DaysLent$Ledger" "weekNumber" "I") (by decide +kernel)
  have g_21 := hts (Cond.fieldLink RX3 21 "DaysLent$Ledger" "alive" "I") (by decide +kernel)
  have g_24 := hts (Cond.fieldLink RX3 24 "DaysLent$Ledger" "broken" "I") (by decide +kernel)
  subst hsz
  have hD := hD0.self (sz := s.heap.size)
  generalize hAe : va_A (List.flatten [(w_Led cs o_g h_g I_g V_g)]) s.heap.size = A at hD ⊢
  have hA : ∀ q : Nat, s.heap.size ≤ q → A q := fun q h => by rw [← hAe]; exact Or.inr h
  have hl := lv_entry ([.ref o_g]) (n := 1) (Nat.le_of_ble_eq_true rfl)
  rw [show entryFrame m args 1 = entryFrame m ([.ref o_g] : List Value).toArray 1 from by rw [ha], lg_entry_eq]
  generalize (lg_sl ([.ref o_g]) ++ List.replicate (1 - (lg_sl ([.ref o_g])).length) Slot.unset).toArray = ls at hl ⊢
  generalize hQ : MQ below (va_Qv (fun u => u = out) (fun (u : FI) t => xA D cs A (List.flatten [(w_Led cs o_g h_g u V_g)]) t) A) args s 0 0 A = Q
  have hret : ∀ (Ig9 : FI) (H : Heap) (locs : List Loc) (pc : Nat) (ls : Array Slot), some Ig9 = some out → va_P D vwCl (List.flatten [(w_Led cs o_g h_g Ig9 V_g)]) H → va_D A (List.flatten [(w_Led cs o_g h_g Ig9 V_g)]) → va_S A s.heap H locs → decode cX3_clear pc = .ok (.return_, 1) → W p l e rm_Led_clear s m args below meth c H locs 0 0 Q (F0 m pc ls []) := by
    intro Ig9 H locs pc ls hf hP hD hS hd
    rw [← hQ]
    exact W.vret hx hb hr (fun t ht hW => ⟨⟨Ig9, rfl, Option.some.inj hf, by show va_P D vwCl (List.flatten [(w_Led cs o_g h_g Ig9 V_g)]) t.heap; rw [ht]; exact hP, va_K.moved hW.alike hK, hD⟩, hS.F ht⟩) hS.2.2 hd
  exact v_Led_clear hf hx hb hml hown hts in_X3 g_9 g_15 g_18 g_21 g_24 hA hP hD hK hN hret ls hl
def Led_copyFrom (f : Nat) (I_g : FI) (V_g : FV) (I_g2 : FI) (V_g2 : FV) : Option (FI × FV) := (nm (fun (Ig_70 : FI) (Vg_70 : FV) => nm (va_up Vg_70 7 (va_cpy (V_g2 7) (Vg_70 7) (0 : Int32).toNatClampNeg (0 : Int32).toNatClampNeg (12 : Int32).toNatClampNeg)) (fun V1 => nm (va_up V1 8 (va_cpy (V_g2 8) (V1 8) (0 : Int32).toNatClampNeg (0 : Int32).toNatClampNeg (12 : Int32).toNatClampNeg)) (fun V2 => nm (va_up V2 9 (va_cpy (V_g2 9) (V2 9) (0 : Int32).toNatClampNeg (0 : Int32).toNatClampNeg (12 : Int32).toNatClampNeg)) (fun V3 => nm (va_up V3 10 (va_cpy (V_g2 10) (V3 10) (0 : Int32).toNatClampNeg (0 : Int32).toNatClampNeg (12 : Int32).toNatClampNeg)) (fun V4 => some (Ig_70, V4)))))) (fun j70 => nm (va_up I_g 0 (I_g2 0)) (fun I5 => nm (va_up I5 1 (I_g2 1)) (fun I6 => nm (va_up I6 2 (I_g2 2)) (fun I7 => nm (va_up I7 3 (I_g2 3)) (fun I8 => nm (va_up I8 4 (I_g2 4)) (fun I9 => nm (va_up V_g 5 (va_cpy (V_g2 5) (V_g 5) (0 : Int32).toNatClampNeg (0 : Int32).toNatClampNeg (6 : Int32).toNatClampNeg)) (fun V10 => nm (va_up V10 6 (va_cpy (V_g2 6) (V10 6) (0 : Int32).toNatClampNeg (0 : Int32).toNatClampNeg (6 : Int32).toNatClampNeg)) (fun V11 => (j70 I9 V11))))))))))
abbrev rm_Led_copyFrom : Room := { frames := 1, cells := 0, slots := 0, locals := 27 }
set_option maxHeartbeats 4000000 in
set_option maxRecDepth 100000 in
theorem v_Led_copyFrom {l : Launch} {p : Program} {e : Env} {s : State} {m : MethodId} {args : Array Value} {below : List Frame} {meth : Method} {c : Code} {Q : State → Prop} {D : va_G} {cs : Nat → ClassId} {o_g : Nat} {h_g : Nat → Nat} {o_g2 : Nat} {h_g2 : Nat → Nat} {A : Nat → Prop} {I_g : FI} {V_g : FV} {I_g2 : FI} {V_g2 : FV} {f : Nat} {out : FI × FV} (hf : Led_copyFrom f I_g V_g I_g2 V_g2 = some out) (hx : p.tables.exec = Jvm.exec) (hb : c.code = cX3_copyFrom) (hml : c.maxLocals = 2) (hown : s.vm.findClass RX3 = some m.cls) (hts : ∀ w ∈ wsX3_copyFrom, w.before args s = true) (in_X3 : ∀ w ∈ u_ws RX3 TX3 11, w ∈ wsX3_copyFrom) (g_9 : (Cond.fieldLink RX3 9 "DaysLent$Ledger" "people" "I").before args s = true) (g_15 : (Cond.fieldLink RX3 15 "DaysLent$Ledger" "debts" "I").before args s = true) (g_18 : (Cond.fieldLink RX3 18 "DaysLent$Ledger" "weekNumber" "I").before args s = true) (g_21 : (Cond.fieldLink RX3 21 "DaysLent$Ledger" "alive" "I").before args s = true) (g_24 : (Cond.fieldLink RX3 24 "DaysLent$Ledger" "broken" "I").before args s = true) (g_27 : (Cond.fieldLink RX3 27 "DaysLent$Ledger" "mornings" "[I").before args s = true) (al_46 : (Cond.methodLink RX3 46 arraycopyName).before args s = true) (an_46 : (Cond.native arraycopyName).before args s = true) (as_46 : (Cond.static arraycopyName).before args s = true) (ai_46 : (Cond.initialized "java/lang/System").before args s = true) (g_31 : (Cond.fieldLink RX3 31 "DaysLent$Ledger" "asks" "[I").before args s = true) (g_34 : (Cond.fieldLink RX3 34 "DaysLent$Ledger" "creditor" "[I").before args s = true) (g_37 : (Cond.fieldLink RX3 37 "DaysLent$Ledger" "debtor" "[I").before args s = true) (g_40 : (Cond.fieldLink RX3 40 "DaysLent$Ledger" "amount" "[I").before args s = true) (g_43 : (Cond.fieldLink RX3 43 "DaysLent$Ledger" "due" "[I").before args s = true) (hA : ∀ q : Nat, s.heap.size ≤ q → A q) (hP : va_P D vwCl (List.flatten [(w_Led cs o_g h_g I_g V_g), (w_Led cs o_g2 h_g2 I_g2 V_g2)]) s.heap) (hD : va_D A (List.flatten [(w_Led cs o_g h_g I_g V_g), (w_Led cs o_g2 h_g2 I_g2 V_g2)])) (hK : va_K D vwCl (tyA cs) s) (hN : yN s) (hret : ∀ (Ig9 : FI) (Vg9 : FV) (H : Heap) (locs : List Loc) (pc : Nat) (ls : Array Slot), some (Ig9, Vg9) = some out → va_P D vwCl (List.flatten [(w_Led cs o_g h_g Ig9 Vg9), (w_Led cs o_g2 h_g2 I_g2 V_g2)]) H → va_D A (List.flatten [(w_Led cs o_g h_g Ig9 Vg9), (w_Led cs o_g2 h_g2 I_g2 V_g2)]) → va_S A s.heap H locs → decode cX3_copyFrom pc = .ok (.return_, 1) → W p l e rm_Led_copyFrom s m args below meth c H locs 0 0 Q (F0 m pc ls [])) : ∀ ls : Array Slot, lv_has ls 2 [(0, .ref o_g), (1, .ref o_g2)] → W p l e rm_Led_copyFrom s m args below meth c s.heap [] 0 0 Q (F0 m 0 ls []) := by
  intro ls hl
  have hS : va_S A s.heap s.heap [] := va_S.rf
  unfold Led_copyFrom at hf
  obtain ⟨j70, ej70, hf⟩ := nme hf
  have J70 : ∀ (Ig_70 : FI) (Vg_70 : FV), j70 Ig_70 Vg_70 = some out → ∀ (H : Heap) (locs : List Loc), va_P D vwCl (List.flatten [(w_Led cs o_g h_g Ig_70 Vg_70), (w_Led cs o_g2 h_g2 I_g2 V_g2)]) H → va_D A (List.flatten [(w_Led cs o_g h_g Ig_70 Vg_70), (w_Led cs o_g2 h_g2 I_g2 V_g2)]) → va_S A s.heap H locs → ∀ ls : Array Slot, lv_has ls 2 [(0, .ref o_g), (1, .ref o_g2)] → W p l e rm_Led_copyFrom s m args below meth c H locs 0 0 Q (F0 m 70 ls []) := by
    intro Ig_70 Vg_70 hf H locs hP hD hS ls hl
    rw [ej70] at hf
    refine lv_aload_n hx hb dX3_copyFrom_70 rfl (lv_at hl 1 rfl) ?_
    refine va_get (D := D) (ci := 3) (v := .ref (h_g2 7)) (C := RX3) (T := TX3) (N := 11) hx hb hts in_X3 hown hK hP 7 rfl rfl 7 (by decide) g_34 (fun _ h9 => h9) rfl dX3_copyFrom_71 ?_
    refine lv_iconst (v := 0) hx hb dX3_copyFrom_74 (by decide) ?_
    refine lv_aload_n hx hb dX3_copyFrom_75 rfl (lv_at hl 0 rfl) ?_
    refine va_get (D := D) (ci := 3) (v := .ref (h_g 7)) (C := RX3) (T := TX3) (N := 11) hx hb hts in_X3 hown hK hP 0 rfl rfl 7 (by decide) g_34 (fun _ h9 => h9) rfl dX3_copyFrom_76 ?_
    refine lv_iconst (v := 0) hx hb dX3_copyFrom_79 (by decide) ?_
    refine lv_bipush (v := 12) hx hb dX3_copyFrom_80 (by decide) ?_
    refine va_copyi (f := (V_g2 7)) (g := (Vg_70 7)) hx hb (hml.trans hl.1.symm) hown al_46 an_46 as_46 ai_46 hK hP hD hS 10 3 0 0 rfl rfl rfl rfl rfl (by decide) (by decide) (by decide) (by decide) (by decide) (fun _ _ => rfl) (Nat.le_of_ble_eq_true rfl) (Nat.le_of_ble_eq_true rfl) dX3_copyFrom_82 (fun H locs hP hD hS => ?_)
    obtain ⟨V1, eV1, hf⟩ := nme hf
    have hP : va_P D vwCl (List.flatten [(w_Led cs o_g h_g Ig_70 V1), (w_Led cs o_g2 h_g2 I_g2 V_g2)]) H := by rw [eV1]; exact hP
    have hD : va_D A (List.flatten [(w_Led cs o_g h_g Ig_70 V1), (w_Led cs o_g2 h_g2 I_g2 V_g2)]) := by rw [eV1]; exact hD
    refine lv_aload_n hx hb dX3_copyFrom_85 rfl (lv_at hl 1 rfl) ?_
    refine va_get (D := D) (ci := 3) (v := .ref (h_g2 8)) (C := RX3) (T := TX3) (N := 11) hx hb hts in_X3 hown hK hP 7 rfl rfl 8 (by decide) g_37 (fun _ h9 => h9) rfl dX3_copyFrom_86 ?_
    refine lv_iconst (v := 0) hx hb dX3_copyFrom_89 (by decide) ?_
    refine lv_aload_n hx hb dX3_copyFrom_90 rfl (lv_at hl 0 rfl) ?_
    refine va_get (D := D) (ci := 3) (v := .ref (h_g 8)) (C := RX3) (T := TX3) (N := 11) hx hb hts in_X3 hown hK hP 0 rfl rfl 8 (by decide) g_37 (fun _ h9 => h9) rfl dX3_copyFrom_91 ?_
    refine lv_iconst (v := 0) hx hb dX3_copyFrom_94 (by decide) ?_
    refine lv_bipush (v := 12) hx hb dX3_copyFrom_95 (by decide) ?_
    refine va_copyi (f := (V_g2 8)) (g := (V1 8)) hx hb (hml.trans hl.1.symm) hown al_46 an_46 as_46 ai_46 hK hP hD hS 11 4 0 0 rfl rfl rfl rfl rfl (by decide) (by decide) (by decide) (by decide) (by decide) (fun _ _ => rfl) (Nat.le_of_ble_eq_true rfl) (Nat.le_of_ble_eq_true rfl) dX3_copyFrom_97 (fun H locs hP hD hS => ?_)
    obtain ⟨V2, eV2, hf⟩ := nme hf
    have hP : va_P D vwCl (List.flatten [(w_Led cs o_g h_g Ig_70 V2), (w_Led cs o_g2 h_g2 I_g2 V_g2)]) H := by rw [eV2]; exact hP
    have hD : va_D A (List.flatten [(w_Led cs o_g h_g Ig_70 V2), (w_Led cs o_g2 h_g2 I_g2 V_g2)]) := by rw [eV2]; exact hD
    refine lv_aload_n hx hb dX3_copyFrom_100 rfl (lv_at hl 1 rfl) ?_
    refine va_get (D := D) (ci := 3) (v := .ref (h_g2 9)) (C := RX3) (T := TX3) (N := 11) hx hb hts in_X3 hown hK hP 7 rfl rfl 9 (by decide) g_40 (fun _ h9 => h9) rfl dX3_copyFrom_101 ?_
    refine lv_iconst (v := 0) hx hb dX3_copyFrom_104 (by decide) ?_
    refine lv_aload_n hx hb dX3_copyFrom_105 rfl (lv_at hl 0 rfl) ?_
    refine va_get (D := D) (ci := 3) (v := .ref (h_g 9)) (C := RX3) (T := TX3) (N := 11) hx hb hts in_X3 hown hK hP 0 rfl rfl 9 (by decide) g_40 (fun _ h9 => h9) rfl dX3_copyFrom_106 ?_
    refine lv_iconst (v := 0) hx hb dX3_copyFrom_109 (by decide) ?_
    refine lv_bipush (v := 12) hx hb dX3_copyFrom_110 (by decide) ?_
    refine va_copyi (f := (V_g2 9)) (g := (V2 9)) hx hb (hml.trans hl.1.symm) hown al_46 an_46 as_46 ai_46 hK hP hD hS 12 5 0 0 rfl rfl rfl rfl rfl (by decide) (by decide) (by decide) (by decide) (by decide) (fun _ _ => rfl) (Nat.le_of_ble_eq_true rfl) (Nat.le_of_ble_eq_true rfl) dX3_copyFrom_112 (fun H locs hP hD hS => ?_)
    obtain ⟨V3, eV3, hf⟩ := nme hf
    have hP : va_P D vwCl (List.flatten [(w_Led cs o_g h_g Ig_70 V3), (w_Led cs o_g2 h_g2 I_g2 V_g2)]) H := by rw [eV3]; exact hP
    have hD : va_D A (List.flatten [(w_Led cs o_g h_g Ig_70 V3), (w_Led cs o_g2 h_g2 I_g2 V_g2)]) := by rw [eV3]; exact hD
    refine lv_aload_n hx hb dX3_copyFrom_115 rfl (lv_at hl 1 rfl) ?_
    refine va_get (D := D) (ci := 3) (v := .ref (h_g2 10)) (C := RX3) (T := TX3) (N := 11) hx hb hts in_X3 hown hK hP 7 rfl rfl 10 (by decide) g_43 (fun _ h9 => h9) rfl dX3_copyFrom_116 ?_
    refine lv_iconst (v := 0) hx hb dX3_copyFrom_119 (by decide) ?_
    refine lv_aload_n hx hb dX3_copyFrom_120 rfl (lv_at hl 0 rfl) ?_
    refine va_get (D := D) (ci := 3) (v := .ref (h_g 10)) (C := RX3) (T := TX3) (N := 11) hx hb hts in_X3 hown hK hP 0 rfl rfl 10 (by decide) g_43 (fun _ h9 => h9) rfl dX3_copyFrom_121 ?_
    refine lv_iconst (v := 0) hx hb dX3_copyFrom_124 (by decide) ?_
    refine lv_bipush (v := 12) hx hb dX3_copyFrom_125 (by decide) ?_
    refine va_copyi (f := (V_g2 10)) (g := (V3 10)) hx hb (hml.trans hl.1.symm) hown al_46 an_46 as_46 ai_46 hK hP hD hS 13 6 0 0 rfl rfl rfl rfl rfl (by decide) (by decide) (by decide) (by decide) (by decide) (fun _ _ => rfl) (Nat.le_of_ble_eq_true rfl) (Nat.le_of_ble_eq_true rfl) dX3_copyFrom_127 (fun H locs hP hD hS => ?_)
    obtain ⟨V4, eV4, hf⟩ := nme hf
    have hP : va_P D vwCl (List.flatten [(w_Led cs o_g h_g Ig_70 V4), (w_Led cs o_g2 h_g2 I_g2 V_g2)]) H := by rw [eV4]; exact hP
    have hD : va_D A (List.flatten [(w_Led cs o_g h_g Ig_70 V4), (w_Led cs o_g2 h_g2 I_g2 V_g2)]) := by rw [eV4]; exact hD
    exact hret Ig_70 V4 _ _ 130 _ hf hP hD hS dX3_copyFrom_130
  refine lv_aload_n hx hb dX3_copyFrom_0 rfl (lv_at hl 0 rfl) ?_
  refine lv_aload_n hx hb dX3_copyFrom_1 rfl (lv_at hl 1 rfl) ?_
  refine va_get (D := D) (ci := 3) (v := .int (I_g2 0)) (C := RX3) (T := TX3) (N := 11) hx hb hts in_X3 hown hK hP 7 rfl rfl 0 (by decide) g_9 (fun _ h9 => h9) rfl dX3_copyFrom_2 ?_
  refine va_put (D := D) (ci := 3) (v := .int (I_g2 0)) (ty := .int) (C := RX3) (T := TX3) (N := 11) hx hb hts in_X3 tyX3 tyX3_ok nmX3 hown hK hP hD hS 0 rfl rfl 0 (by decide) g_9 (fun _ h9 => h9) rfl (by decide +kernel) rfl rfl (Nat.le_of_ble_eq_true rfl) dX3_copyFrom_5 (fun H locs hP hD hS => ?_)
  obtain ⟨I5, eI5, hf⟩ := nme hf
  have hP : va_P D vwCl (List.flatten [(w_Led cs o_g h_g I5 V_g), (w_Led cs o_g2 h_g2 I_g2 V_g2)]) H := by rw [eI5]; exact hP
  have hD : va_D A (List.flatten [(w_Led cs o_g h_g I5 V_g), (w_Led cs o_g2 h_g2 I_g2 V_g2)]) := by rw [eI5]; exact hD
  refine lv_aload_n hx hb dX3_copyFrom_8 rfl (lv_at hl 0 rfl) ?_
  refine lv_aload_n hx hb dX3_copyFrom_9 rfl (lv_at hl 1 rfl) ?_
  refine va_get (D := D) (ci := 3) (v := .int (I_g2 1)) (C := RX3) (T := TX3) (N := 11) hx hb hts in_X3 hown hK hP 7 rfl rfl 1 (by decide) g_15 (fun _ h9 => h9) rfl dX3_copyFrom_10 ?_
  refine va_put (D := D) (ci := 3) (v := .int (I_g2 1)) (ty := .int) (C := RX3) (T := TX3) (N := 11) hx hb hts in_X3 tyX3 tyX3_ok nmX3 hown hK hP hD hS 0 rfl rfl 1 (by decide) g_15 (fun _ h9 => h9) rfl (by decide +kernel) rfl rfl (Nat.le_of_ble_eq_true rfl) dX3_copyFrom_13 (fun H locs hP hD hS => ?_)
  obtain ⟨I6, eI6, hf⟩ := nme hf
  have hP : va_P D vwCl (List.flatten [(w_Led cs o_g h_g I6 V_g), (w_Led cs o_g2 h_g2 I_g2 V_g2)]) H := by rw [eI6]; exact hP
  have hD : va_D A (List.flatten [(w_Led cs o_g h_g I6 V_g), (w_Led cs o_g2 h_g2 I_g2 V_g2)]) := by rw [eI6]; exact hD
  refine lv_aload_n hx hb dX3_copyFrom_16 rfl (lv_at hl 0 rfl) ?_
  refine lv_aload_n hx hb dX3_copyFrom_17 rfl (lv_at hl 1 rfl) ?_
  refine va_get (D := D) (ci := 3) (v := .int (I_g2 2)) (C := RX3) (T := TX3) (N := 11) hx hb hts in_X3 hown hK hP 7 rfl rfl 2 (by decide) g_18 (fun _ h9 => h9) rfl dX3_copyFrom_18 ?_
  refine va_put (D := D) (ci := 3) (v := .int (I_g2 2)) (ty := .int) (C := RX3) (T := TX3) (N := 11) hx hb hts in_X3 tyX3 tyX3_ok nmX3 hown hK hP hD hS 0 rfl rfl 2 (by decide) g_18 (fun _ h9 => h9) rfl (by decide +kernel) rfl rfl (Nat.le_of_ble_eq_true rfl) dX3_copyFrom_21 (fun H locs hP hD hS => ?_)
  obtain ⟨I7, eI7, hf⟩ := nme hf
  have hP : va_P D vwCl (List.flatten [(w_Led cs o_g h_g I7 V_g), (w_Led cs o_g2 h_g2 I_g2 V_g2)]) H := by rw [eI7]; exact hP
  have hD : va_D A (List.flatten [(w_Led cs o_g h_g I7 V_g), (w_Led cs o_g2 h_g2 I_g2 V_g2)]) := by rw [eI7]; exact hD
  refine lv_aload_n hx hb dX3_copyFrom_24 rfl (lv_at hl 0 rfl) ?_
  refine lv_aload_n hx hb dX3_copyFrom_25 rfl (lv_at hl 1 rfl) ?_
  refine va_get (D := D) (ci := 3) (v := .int (I_g2 3)) (C := RX3) (T := TX3) (N := 11) hx hb hts in_X3 hown hK hP 7 rfl rfl 3 (by decide) g_21 (fun _ h9 => h9) rfl dX3_copyFrom_26 ?_
  refine va_put (D := D) (ci := 3) (v := .int (I_g2 3)) (ty := .int) (C := RX3) (T := TX3) (N := 11) hx hb hts in_X3 tyX3 tyX3_ok nmX3 hown hK hP hD hS 0 rfl rfl 3 (by decide) g_21 (fun _ h9 => h9) rfl (by decide +kernel) rfl rfl (Nat.le_of_ble_eq_true rfl) dX3_copyFrom_29 (fun H locs hP hD hS => ?_)
  obtain ⟨I8, eI8, hf⟩ := nme hf
  have hP : va_P D vwCl (List.flatten [(w_Led cs o_g h_g I8 V_g), (w_Led cs o_g2 h_g2 I_g2 V_g2)]) H := by rw [eI8]; exact hP
  have hD : va_D A (List.flatten [(w_Led cs o_g h_g I8 V_g), (w_Led cs o_g2 h_g2 I_g2 V_g2)]) := by rw [eI8]; exact hD
  refine lv_aload_n hx hb dX3_copyFrom_32 rfl (lv_at hl 0 rfl) ?_
  refine lv_aload_n hx hb dX3_copyFrom_33 rfl (lv_at hl 1 rfl) ?_
  refine va_get (D := D) (ci := 3) (v := .int (I_g2 4)) (C := RX3) (T := TX3) (N := 11) hx hb hts in_X3 hown hK hP 7 rfl rfl 4 (by decide) g_24 (fun _ h9 => h9) rfl dX3_copyFrom_34 ?_
  refine va_put (D := D) (ci := 3) (v := .int (I_g2 4)) (ty := .int) (C := RX3) (T := TX3) (N := 11) hx hb hts in_X3 tyX3 tyX3_ok nmX3 hown hK hP hD hS 0 rfl rfl 4 (by decide) g_24 (fun _ h9 => h9) rfl (by decide +kernel) rfl rfl (Nat.le_of_ble_eq_true rfl) dX3_copyFrom_37 (fun H locs hP hD hS => ?_)
  obtain ⟨I9, eI9, hf⟩ := nme hf
  have hP : va_P D vwCl (List.flatten [(w_Led cs o_g h_g I9 V_g), (w_Led cs o_g2 h_g2 I_g2 V_g2)]) H := by rw [eI9]; exact hP
  have hD : va_D A (List.flatten [(w_Led cs o_g h_g I9 V_g), (w_Led cs o_g2 h_g2 I_g2 V_g2)]) := by rw [eI9]; exact hD
  refine lv_aload_n hx hb dX3_copyFrom_40 rfl (lv_at hl 1 rfl) ?_
  refine va_get (D := D) (ci := 3) (v := .ref (h_g2 5)) (C := RX3) (T := TX3) (N := 11) hx hb hts in_X3 hown hK hP 7 rfl rfl 5 (by decide) g_27 (fun _ h9 => h9) rfl dX3_copyFrom_41 ?_
  refine lv_iconst (v := 0) hx hb dX3_copyFrom_44 (by decide) ?_
  refine lv_aload_n hx hb dX3_copyFrom_45 rfl (lv_at hl 0 rfl) ?_
  refine va_get (D := D) (ci := 3) (v := .ref (h_g 5)) (C := RX3) (T := TX3) (N := 11) hx hb hts in_X3 hown hK hP 0 rfl rfl 5 (by decide) g_27 (fun _ h9 => h9) rfl dX3_copyFrom_46 ?_
  refine lv_iconst (v := 0) hx hb dX3_copyFrom_49 (by decide) ?_
  refine lv_bipush (v := 6) hx hb dX3_copyFrom_50 (by decide) ?_
  refine va_copyi (f := (V_g2 5)) (g := (V_g 5)) hx hb (hml.trans hl.1.symm) hown al_46 an_46 as_46 ai_46 hK hP hD hS 8 1 0 0 rfl rfl rfl rfl rfl (by decide) (by decide) (by decide) (by decide) (by decide) (fun _ _ => rfl) (Nat.le_of_ble_eq_true rfl) (Nat.le_of_ble_eq_true rfl) dX3_copyFrom_52 (fun H locs hP hD hS => ?_)
  obtain ⟨V10, eV10, hf⟩ := nme hf
  have hP : va_P D vwCl (List.flatten [(w_Led cs o_g h_g I9 V10), (w_Led cs o_g2 h_g2 I_g2 V_g2)]) H := by rw [eV10]; exact hP
  have hD : va_D A (List.flatten [(w_Led cs o_g h_g I9 V10), (w_Led cs o_g2 h_g2 I_g2 V_g2)]) := by rw [eV10]; exact hD
  refine lv_aload_n hx hb dX3_copyFrom_55 rfl (lv_at hl 1 rfl) ?_
  refine va_get (D := D) (ci := 3) (v := .ref (h_g2 6)) (C := RX3) (T := TX3) (N := 11) hx hb hts in_X3 hown hK hP 7 rfl rfl 6 (by decide) g_31 (fun _ h9 => h9) rfl dX3_copyFrom_56 ?_
  refine lv_iconst (v := 0) hx hb dX3_copyFrom_59 (by decide) ?_
  refine lv_aload_n hx hb dX3_copyFrom_60 rfl (lv_at hl 0 rfl) ?_
  refine va_get (D := D) (ci := 3) (v := .ref (h_g 6)) (C := RX3) (T := TX3) (N := 11) hx hb hts in_X3 hown hK hP 0 rfl rfl 6 (by decide) g_31 (fun _ h9 => h9) rfl dX3_copyFrom_61 ?_
  refine lv_iconst (v := 0) hx hb dX3_copyFrom_64 (by decide) ?_
  refine lv_bipush (v := 6) hx hb dX3_copyFrom_65 (by decide) ?_
  refine va_copyi (f := (V_g2 6)) (g := (V10 6)) hx hb (hml.trans hl.1.symm) hown al_46 an_46 as_46 ai_46 hK hP hD hS 9 2 0 0 rfl rfl rfl rfl rfl (by decide) (by decide) (by decide) (by decide) (by decide) (fun _ _ => rfl) (Nat.le_of_ble_eq_true rfl) (Nat.le_of_ble_eq_true rfl) dX3_copyFrom_67 (fun H locs hP hD hS => ?_)
  obtain ⟨V11, eV11, hf⟩ := nme hf
  have hP : va_P D vwCl (List.flatten [(w_Led cs o_g h_g I9 V11), (w_Led cs o_g2 h_g2 I_g2 V_g2)]) H := by rw [eV11]; exact hP
  have hD : va_D A (List.flatten [(w_Led cs o_g h_g I9 V11), (w_Led cs o_g2 h_g2 I_g2 V_g2)]) := by rw [eV11]; exact hD
  exact J70 I9 V11 hf _ _ hP hD hS _ (lv_sub hl [0, 1] rfl)
set_option maxHeartbeats 4000000 in
set_option maxRecDepth 100000 in
theorem c_Led_copyFrom (l : Launch) (D : va_G) (cs : Nat → ClassId) (o_g : Nat) (h_g : Nat → Nat) (o_g2 : Nat) (h_g2 : Nat → Nat) (sz : Nat) (I_g : FI) (V_g : FV) (I_g2 : FI) (V_g2 : FV) (f : Nat) (out : FI × FV) (hf : Led_copyFrom f I_g V_g I_g2 V_g2 = some out) : Met l yX3_copyFrom wsX3_copyFrom rm_Led_copyFrom (va_Pc [.ref o_g, .ref o_g2] (yP D cs (List.flatten [(w_Led cs o_g h_g I_g V_g), (w_Led cs o_g2 h_g2 I_g2 V_g2)]) sz)) (va_Qv (fun u => u = out) (fun (u : FI × FV) t => xA D cs (va_A (List.flatten [(w_Led cs o_g h_g I_g V_g), (w_Led cs o_g2 h_g2 I_g2 V_g2)]) sz) (List.flatten [(w_Led cs o_g h_g u.1 u.2), (w_Led cs o_g2 h_g2 I_g2 V_g2)]) t) (va_A (List.flatten [(w_Led cs o_g h_g I_g V_g), (w_Led cs o_g2 h_g2 I_g2 V_g2)]) sz)) 0 0 (va_A (List.flatten [(w_Led cs o_g h_g I_g V_g), (w_Led cs o_g2 h_g2 I_g2 V_g2)]) sz) := by
  refine Met.ofW (cc := cX3_copyFrom) (maxL := 2) (ret := none) (by decide) rfl ?_
  intro p e s m args below meth c s₁ B hml hv
  obtain ⟨ha, hsz, hP, hK, hN, hD0⟩ := hv
  have hx := B.exec
  have hb := B.bytes
  have hr := B.returns
  have hts := atoms_spec (ws := wsX3_copyFrom) B.pre
  have hown : s.vm.findClass RX3 = some m.cls := findClass_of_methodNamed B.named
  have hlocks := B.notSynchronized
  have in_X3 : ∀ w ∈ u_ws RX3 TX3 11, w ∈ wsX3_copyFrom := fun w h => List.mem_cons_of_mem _ (List.mem_append_right _ h)
  have g_9 := hts (Cond.fieldLink RX3 9 "DaysLent$Ledger" "people" "I") (by decide +kernel)
  have g_15 := hts (Cond.fieldLink RX3 15 "DaysLent$Ledger" "debts" "I") (by decide +kernel)
  have g_18 := hts (Cond.fieldLink RX3 18 "DaysLent$Ledger" "weekNumber" "I") (by decide +kernel)
  have g_21 := hts (Cond.fieldLink RX3 21 "DaysLent$Ledger" "alive" "I") (by decide +kernel)
  have g_24 := hts (Cond.fieldLink RX3 24 "DaysLent$Ledger" "broken" "I") (by decide +kernel)
  have g_27 := hts (Cond.fieldLink RX3 27 "DaysLent$Ledger" "mornings" "[I") (by decide +kernel)
  have al_46 := hts (Cond.methodLink RX3 46 arraycopyName) (by decide +kernel)
  have an_46 := hts (Cond.native arraycopyName) (by decide +kernel)
  have as_46 := hts (Cond.static arraycopyName) (by decide +kernel)
  have ai_46 := hts (Cond.initialized "java/lang/System") (by decide +kernel)
  have g_31 := hts (Cond.fieldLink RX3 31 "DaysLent$Ledger" "asks" "[I") (by decide +kernel)
  have g_34 := hts (Cond.fieldLink RX3 34 "DaysLent$Ledger" "creditor" "[I") (by decide +kernel)
  have g_37 := hts (Cond.fieldLink RX3 37 "DaysLent$Ledger" "debtor" "[I") (by decide +kernel)
  have g_40 := hts (Cond.fieldLink RX3 40 "DaysLent$Ledger" "amount" "[I") (by decide +kernel)
  have g_43 := hts (Cond.fieldLink RX3 43 "DaysLent$Ledger" "due" "[I") (by decide +kernel)
  subst hsz
  have hD := hD0.self (sz := s.heap.size)
  generalize hAe : va_A (List.flatten [(w_Led cs o_g h_g I_g V_g), (w_Led cs o_g2 h_g2 I_g2 V_g2)]) s.heap.size = A at hD ⊢
  have hA : ∀ q : Nat, s.heap.size ≤ q → A q := fun q h => by rw [← hAe]; exact Or.inr h
  have hl := lv_entry ([.ref o_g, .ref o_g2]) (n := 2) (Nat.le_of_ble_eq_true rfl)
  rw [show entryFrame m args 2 = entryFrame m ([.ref o_g, .ref o_g2] : List Value).toArray 2 from by rw [ha], lg_entry_eq]
  generalize (lg_sl ([.ref o_g, .ref o_g2]) ++ List.replicate (2 - (lg_sl ([.ref o_g, .ref o_g2])).length) Slot.unset).toArray = ls at hl ⊢
  generalize hQ : MQ below (va_Qv (fun u => u = out) (fun (u : FI × FV) t => xA D cs A (List.flatten [(w_Led cs o_g h_g u.1 u.2), (w_Led cs o_g2 h_g2 I_g2 V_g2)]) t) A) args s 0 0 A = Q
  have hret : ∀ (Ig9 : FI) (Vg9 : FV) (H : Heap) (locs : List Loc) (pc : Nat) (ls : Array Slot), some (Ig9, Vg9) = some out → va_P D vwCl (List.flatten [(w_Led cs o_g h_g Ig9 Vg9), (w_Led cs o_g2 h_g2 I_g2 V_g2)]) H → va_D A (List.flatten [(w_Led cs o_g h_g Ig9 Vg9), (w_Led cs o_g2 h_g2 I_g2 V_g2)]) → va_S A s.heap H locs → decode cX3_copyFrom pc = .ok (.return_, 1) → W p l e rm_Led_copyFrom s m args below meth c H locs 0 0 Q (F0 m pc ls []) := by
    intro Ig9 Vg9 H locs pc ls hf hP hD hS hd
    rw [← hQ]
    exact W.vret hx hb hr (fun t ht hW => ⟨⟨(Ig9, Vg9), rfl, Option.some.inj hf, by show va_P D vwCl (List.flatten [(w_Led cs o_g h_g Ig9 Vg9), (w_Led cs o_g2 h_g2 I_g2 V_g2)]) t.heap; rw [ht]; exact hP, va_K.moved hW.alike hK, hD⟩, hS.F ht⟩) hS.2.2 hd
  exact v_Led_copyFrom hf hx hb hml hown hts in_X3 g_9 g_15 g_18 g_21 g_24 g_27 al_46 an_46 as_46 ai_46 g_31 g_34 g_37 g_40 g_43 hA hP hD hK hN hret ls hl
def Led_addPerson (f : Nat) (x1 : Int32) (x2 : Int32) (I_g : FI) (V_g : FV) : Option (FI × FV) := (if (I_g 0) < 6 then if (I_g 0) < 0 ∨ 6 ≤ (I_g 0).toNatClampNeg then none else (nm (va_up V_g 5 (upd (V_g 5) (I_g 0).toNatClampNeg x1)) (fun V1 => if (I_g 0) < 0 ∨ 6 ≤ (I_g 0).toNatClampNeg then none else (nm (va_up V1 6 (upd (V1 6) (I_g 0).toNatClampNeg x2)) (fun V2 => nm (va_up I_g 3 ((I_g 3) ||| (1 <<< ((I_g 0) &&& 31)))) (fun I3 => nm (va_up I3 0 ((I3 0) + 1)) (fun I4 => some (I4, V2))))))) else some (I_g, V_g))
abbrev rm_Led_addPerson : Room := { frames := 0, cells := 0, slots := 0, locals := 0 }
set_option maxHeartbeats 4000000 in
set_option maxRecDepth 100000 in
theorem v_Led_addPerson {l : Launch} {p : Program} {e : Env} {s : State} {m : MethodId} {args : Array Value} {below : List Frame} {meth : Method} {c : Code} {Q : State → Prop} {D : va_G} {cs : Nat → ClassId} {o_g : Nat} {h_g : Nat → Nat} {A : Nat → Prop} {I_g : FI} {V_g : FV} {x1 : Int32} {x2 : Int32} {f : Nat} {out : FI × FV} (hf : Led_addPerson f x1 x2 I_g V_g = some out) (hx : p.tables.exec = Jvm.exec) (hb : c.code = cX3_addPerson) (hml : c.maxLocals = 3) (hown : s.vm.findClass RX3 = some m.cls) (hts : ∀ w ∈ wsX3_addPerson, w.before args s = true) (in_X3 : ∀ w ∈ u_ws RX3 TX3 11, w ∈ wsX3_addPerson) (g_9 : (Cond.fieldLink RX3 9 "DaysLent$Ledger" "people" "I").before args s = true) (g_27 : (Cond.fieldLink RX3 27 "DaysLent$Ledger" "mornings" "[I").before args s = true) (g_31 : (Cond.fieldLink RX3 31 "DaysLent$Ledger" "asks" "[I").before args s = true) (g_21 : (Cond.fieldLink RX3 21 "DaysLent$Ledger" "alive" "I").before args s = true) (hA : ∀ q : Nat, s.heap.size ≤ q → A q) (hP : va_P D vwCl (List.flatten [(w_Led cs o_g h_g I_g V_g)]) s.heap) (hD : va_D A (List.flatten [(w_Led cs o_g h_g I_g V_g)])) (hK : va_K D vwCl (tyA cs) s) (hN : yN s) (hret : ∀ (Ig9 : FI) (Vg9 : FV) (H : Heap) (locs : List Loc) (pc : Nat) (ls : Array Slot), some (Ig9, Vg9) = some out → va_P D vwCl (List.flatten [(w_Led cs o_g h_g Ig9 Vg9)]) H → va_D A (List.flatten [(w_Led cs o_g h_g Ig9 Vg9)]) → va_S A s.heap H locs → decode cX3_addPerson pc = .ok (.return_, 1) → W p l e rm_Led_addPerson s m args below meth c H locs 0 0 Q (F0 m pc ls [])) : ∀ ls : Array Slot, lv_has ls 3 [(0, .ref o_g), (1, .int x1), (2, .int x2)] → W p l e rm_Led_addPerson s m args below meth c s.heap [] 0 0 Q (F0 m 0 ls []) := by
  intro ls hl
  have hS : va_S A s.heap s.heap [] := va_S.rf
  unfold Led_addPerson at hf
  refine lv_aload_n hx hb dX3_addPerson_0 rfl (lv_at hl 0 rfl) ?_
  refine va_get (D := D) (ci := 3) (v := .int (I_g 0)) (C := RX3) (T := TX3) (N := 11) hx hb hts in_X3 hown hK hP 0 rfl rfl 0 (by decide) g_9 (fun _ h9 => h9) rfl dX3_addPerson_1 ?_
  refine lv_bipush (v := 6) hx hb dX3_addPerson_4 (by decide) ?_
  refine lv_icmp_lt (tgt := 10) hx hb dX3_addPerson_6 (by decide) (fun c6 => ?_) (fun c6 => ?_)
  · replace hf := ip c6 hf
    refine lv_aload_n hx hb dX3_addPerson_10 rfl (lv_at hl 0 rfl) ?_
    refine va_get (D := D) (ci := 3) (v := .ref (h_g 5)) (C := RX3) (T := TX3) (N := 11) hx hb hts in_X3 hown hK hP 0 rfl rfl 5 (by decide) g_27 (fun _ h9 => h9) rfl dX3_addPerson_11 ?_
    refine lv_aload_n hx hb dX3_addPerson_14 rfl (lv_at hl 0 rfl) ?_
    refine va_get (D := D) (ci := 3) (v := .int (I_g 0)) (C := RX3) (T := TX3) (N := 11) hx hb hts in_X3 hown hK hP 0 rfl rfl 0 (by decide) g_9 (fun _ h9 => h9) rfl dX3_addPerson_15 ?_
    refine lv_iload_n hx hb dX3_addPerson_18 rfl (lv_at hl 1 rfl) ?_
    obtain ⟨c19, hf⟩ := gd hf
    refine va_iast (f := (V_g 5)) hx hb hK hP hD hS 1 0 rfl rfl c19 dX3_addPerson_19 (fun H locs hP hD hS => ?_)
    obtain ⟨V1, eV1, hf⟩ := nme hf
    have hP : va_P D vwCl (List.flatten [(w_Led cs o_g h_g I_g V1)]) H := by rw [eV1]; exact hP
    have hD : va_D A (List.flatten [(w_Led cs o_g h_g I_g V1)]) := by rw [eV1]; exact hD
    refine lv_aload_n hx hb dX3_addPerson_20 rfl (lv_at hl 0 rfl) ?_
    refine va_get (D := D) (ci := 3) (v := .ref (h_g 6)) (C := RX3) (T := TX3) (N := 11) hx hb hts in_X3 hown hK hP 0 rfl rfl 6 (by decide) g_31 (fun _ h9 => h9) rfl dX3_addPerson_21 ?_
    refine lv_aload_n hx hb dX3_addPerson_24 rfl (lv_at hl 0 rfl) ?_
    refine va_get (D := D) (ci := 3) (v := .int (I_g 0)) (C := RX3) (T := TX3) (N := 11) hx hb hts in_X3 hown hK hP 0 rfl rfl 0 (by decide) g_9 (fun _ h9 => h9) rfl dX3_addPerson_25 ?_
    refine lv_iload_n hx hb dX3_addPerson_28 rfl (lv_at hl 2 rfl) ?_
    obtain ⟨c29, hf⟩ := gd hf
    refine va_iast (f := (V1 6)) hx hb hK hP hD hS 2 0 rfl rfl c29 dX3_addPerson_29 (fun H locs hP hD hS => ?_)
    obtain ⟨V2, eV2, hf⟩ := nme hf
    have hP : va_P D vwCl (List.flatten [(w_Led cs o_g h_g I_g V2)]) H := by rw [eV2]; exact hP
    have hD : va_D A (List.flatten [(w_Led cs o_g h_g I_g V2)]) := by rw [eV2]; exact hD
    refine lv_aload_n hx hb dX3_addPerson_30 rfl (lv_at hl 0 rfl) ?_
    refine lv_dup hx hb dX3_addPerson_31 rfl ?_
    refine va_get (D := D) (ci := 3) (v := .int (I_g 3)) (C := RX3) (T := TX3) (N := 11) hx hb hts in_X3 hown hK hP 0 rfl rfl 3 (by decide) g_21 (fun _ h9 => h9) rfl dX3_addPerson_32 ?_
    refine lv_iconst (v := 1) hx hb dX3_addPerson_35 (by decide) ?_
    refine lv_aload_n hx hb dX3_addPerson_36 rfl (lv_at hl 0 rfl) ?_
    refine va_get (D := D) (ci := 3) (v := .int (I_g 0)) (C := RX3) (T := TX3) (N := 11) hx hb hts in_X3 hown hK hP 0 rfl rfl 0 (by decide) g_9 (fun _ h9 => h9) rfl dX3_addPerson_37 ?_
    refine lv_ishl hx hb dX3_addPerson_40 ?_
    refine lv_ior hx hb dX3_addPerson_41 ?_
    refine va_put (D := D) (ci := 3) (v := .int ((I_g 3) ||| (1 <<< ((I_g 0) &&& 31)))) (ty := .int) (C := RX3) (T := TX3) (N := 11) hx hb hts in_X3 tyX3 tyX3_ok nmX3 hown hK hP hD hS 0 rfl rfl 3 (by decide) g_21 (fun _ h9 => h9) rfl (by decide +kernel) rfl rfl (Nat.le_of_ble_eq_true rfl) dX3_addPerson_42 (fun H locs hP hD hS => ?_)
    obtain ⟨I3, eI3, hf⟩ := nme hf
    have hP : va_P D vwCl (List.flatten [(w_Led cs o_g h_g I3 V2)]) H := by rw [eI3]; exact hP
    have hD : va_D A (List.flatten [(w_Led cs o_g h_g I3 V2)]) := by rw [eI3]; exact hD
    refine lv_aload_n hx hb dX3_addPerson_45 rfl (lv_at hl 0 rfl) ?_
    refine lv_dup hx hb dX3_addPerson_46 rfl ?_
    refine va_get (D := D) (ci := 3) (v := .int (I3 0)) (C := RX3) (T := TX3) (N := 11) hx hb hts in_X3 hown hK hP 0 rfl rfl 0 (by decide) g_9 (fun _ h9 => h9) rfl dX3_addPerson_47 ?_
    refine lv_iconst (v := 1) hx hb dX3_addPerson_50 (by decide) ?_
    refine lv_iadd hx hb dX3_addPerson_51 ?_
    refine va_put (D := D) (ci := 3) (v := .int ((I3 0) + 1)) (ty := .int) (C := RX3) (T := TX3) (N := 11) hx hb hts in_X3 tyX3 tyX3_ok nmX3 hown hK hP hD hS 0 rfl rfl 0 (by decide) g_9 (fun _ h9 => h9) rfl (by decide +kernel) rfl rfl (Nat.le_of_ble_eq_true rfl) dX3_addPerson_52 (fun H locs hP hD hS => ?_)
    obtain ⟨I4, eI4, hf⟩ := nme hf
    have hP : va_P D vwCl (List.flatten [(w_Led cs o_g h_g I4 V2)]) H := by rw [eI4]; exact hP
    have hD : va_D A (List.flatten [(w_Led cs o_g h_g I4 V2)]) := by rw [eI4]; exact hD
    exact hret I4 V2 _ _ 55 _ hf hP hD hS dX3_addPerson_55
  · replace hf := im c6 hf
    exact hret I_g V_g _ _ 9 _ hf hP hD hS dX3_addPerson_9
set_option maxHeartbeats 4000000 in
set_option maxRecDepth 100000 in
theorem c_Led_addPerson (l : Launch) (D : va_G) (cs : Nat → ClassId) (o_g : Nat) (h_g : Nat → Nat) (sz : Nat) (I_g : FI) (V_g : FV) (x1 : Int32) (x2 : Int32) (f : Nat) (out : FI × FV) (hf : Led_addPerson f x1 x2 I_g V_g = some out) : Met l yX3_addPerson wsX3_addPerson rm_Led_addPerson (va_Pc [.ref o_g, .int x1, .int x2] (yP D cs (List.flatten [(w_Led cs o_g h_g I_g V_g)]) sz)) (va_Qv (fun u => u = out) (fun (u : FI × FV) t => xA D cs (va_A (List.flatten [(w_Led cs o_g h_g I_g V_g)]) sz) (List.flatten [(w_Led cs o_g h_g u.1 u.2)]) t) (va_A (List.flatten [(w_Led cs o_g h_g I_g V_g)]) sz)) 0 0 (va_A (List.flatten [(w_Led cs o_g h_g I_g V_g)]) sz) := by
  refine Met.ofW (cc := cX3_addPerson) (maxL := 3) (ret := none) (by decide) rfl ?_
  intro p e s m args below meth c s₁ B hml hv
  obtain ⟨ha, hsz, hP, hK, hN, hD0⟩ := hv
  have hx := B.exec
  have hb := B.bytes
  have hr := B.returns
  have hts := atoms_spec (ws := wsX3_addPerson) B.pre
  have hown : s.vm.findClass RX3 = some m.cls := findClass_of_methodNamed B.named
  have hlocks := B.notSynchronized
  have in_X3 : ∀ w ∈ u_ws RX3 TX3 11, w ∈ wsX3_addPerson := fun w h => List.mem_cons_of_mem _ (List.mem_append_right _ h)
  have g_9 := hts (Cond.fieldLink RX3 9 "DaysLent$Ledger" "people" "I") (by decide +kernel)
  have g_27 := hts (Cond.fieldLink RX3 27 "DaysLent$Ledger" "mornings" "[I") (by decide +kernel)
  have g_31 := hts (Cond.fieldLink RX3 31 "DaysLent$Ledger" "asks" "[I") (by decide +kernel)
  have g_21 := hts (Cond.fieldLink RX3 21 "DaysLent$Ledger" "alive" "I") (by decide +kernel)
  subst hsz
  have hD := hD0.self (sz := s.heap.size)
  generalize hAe : va_A (List.flatten [(w_Led cs o_g h_g I_g V_g)]) s.heap.size = A at hD ⊢
  have hA : ∀ q : Nat, s.heap.size ≤ q → A q := fun q h => by rw [← hAe]; exact Or.inr h
  have hl := lv_entry ([.ref o_g, .int x1, .int x2]) (n := 3) (Nat.le_of_ble_eq_true rfl)
  rw [show entryFrame m args 3 = entryFrame m ([.ref o_g, .int x1, .int x2] : List Value).toArray 3 from by rw [ha], lg_entry_eq]
  generalize (lg_sl ([.ref o_g, .int x1, .int x2]) ++ List.replicate (3 - (lg_sl ([.ref o_g, .int x1, .int x2])).length) Slot.unset).toArray = ls at hl ⊢
  generalize hQ : MQ below (va_Qv (fun u => u = out) (fun (u : FI × FV) t => xA D cs A (List.flatten [(w_Led cs o_g h_g u.1 u.2)]) t) A) args s 0 0 A = Q
  have hret : ∀ (Ig9 : FI) (Vg9 : FV) (H : Heap) (locs : List Loc) (pc : Nat) (ls : Array Slot), some (Ig9, Vg9) = some out → va_P D vwCl (List.flatten [(w_Led cs o_g h_g Ig9 Vg9)]) H → va_D A (List.flatten [(w_Led cs o_g h_g Ig9 Vg9)]) → va_S A s.heap H locs → decode cX3_addPerson pc = .ok (.return_, 1) → W p l e rm_Led_addPerson s m args below meth c H locs 0 0 Q (F0 m pc ls []) := by
    intro Ig9 Vg9 H locs pc ls hf hP hD hS hd
    rw [← hQ]
    exact W.vret hx hb hr (fun t ht hW => ⟨⟨(Ig9, Vg9), rfl, Option.some.inj hf, by show va_P D vwCl (List.flatten [(w_Led cs o_g h_g Ig9 Vg9)]) t.heap; rw [ht]; exact hP, va_K.moved hW.alike hK, hD⟩, hS.F ht⟩) hS.2.2 hd
  exact v_Led_addPerson hf hx hb hml hown hts in_X3 g_9 g_27 g_31 g_21 hA hP hD hK hN hret ls hl
def Led_has (f : Nat) (x1 : Int32) (I_g : FI) (V_g : FV) : Option (Int32) := (if x1 < 0 then some 0 else (if (I_g 0) ≤ x1 then some 0 else (if 6 ≤ x1 then some 0 else some 1)))
abbrev rm_Led_has : Room := { frames := 0, cells := 0, slots := 0, locals := 0 }
set_option maxHeartbeats 4000000 in
set_option maxRecDepth 100000 in
theorem v_Led_has {l : Launch} {p : Program} {e : Env} {s : State} {m : MethodId} {args : Array Value} {below : List Frame} {meth : Method} {c : Code} {Q : State → Prop} {D : va_G} {cs : Nat → ClassId} {o_g : Nat} {h_g : Nat → Nat} {I_g : FI} {V_g : FV} {x1 : Int32} {f : Nat} {out : Int32} (hf : Led_has f x1 I_g V_g = some out) (hx : p.tables.exec = Jvm.exec) (hb : c.code = cX3_has) (hml : c.maxLocals = 2) (hown : s.vm.findClass RX3 = some m.cls) (hts : ∀ w ∈ wsX3_has, w.before args s = true) (in_X3 : ∀ w ∈ u_ws RX3 TX3 11, w ∈ wsX3_has) (g_9 : (Cond.fieldLink RX3 9 "DaysLent$Ledger" "people" "I").before args s = true) (hP : va_P D vwCl (List.flatten [(w_Led cs o_g h_g I_g V_g)]) s.heap) (hK : va_K D vwCl (tyA cs) s) (hN : yN s) (hret : ∀ (v : Int32) (pc : Nat) (ls : Array Slot), narrow .boolean (.int v) = .int v → some v = some out → decode cX3_has pc = .ok (.ireturn, 1) → W p l e rm_Led_has s m args below meth c s.heap [] 0 0 Q (F0 m pc ls [.int v])) : ∀ ls : Array Slot, lv_has ls 2 [(0, .ref o_g), (1, .int x1)] → W p l e rm_Led_has s m args below meth c s.heap [] 0 0 Q (F0 m 0 ls []) := by
  intro ls hl
  unfold Led_has at hf
  refine lv_iload_n hx hb dX3_has_0 rfl (lv_at hl 1 rfl) ?_
  refine lv_if_lt (tgt := 22) hx hb dX3_has_1 (by decide) (fun c1 => ?_) (fun c1 => ?_)
  · replace hf := ip c1 hf
    refine lv_iconst (v := 0) hx hb dX3_has_22 (by decide) ?_
    exact hret 0 23 _ rfl hf dX3_has_23
  · replace hf := im c1 hf
    refine lv_iload_n hx hb dX3_has_4 rfl (lv_at hl 1 rfl) ?_
    refine lv_aload_n hx hb dX3_has_5 rfl (lv_at hl 0 rfl) ?_
    refine va_get (D := D) (ci := 3) (v := .int (I_g 0)) (C := RX3) (T := TX3) (N := 11) hx hb hts in_X3 hown hK hP 0 rfl rfl 0 (by decide) g_9 (fun _ h9 => h9) rfl dX3_has_6 ?_
    refine lv_icmp_ge (tgt := 22) hx hb dX3_has_9 (by decide) (fun c9 => ?_) (fun c9 => ?_)
    · replace hf := ip c9 hf
      refine lv_iconst (v := 0) hx hb dX3_has_22 (by decide) ?_
      exact hret 0 23 _ rfl hf dX3_has_23
    · replace hf := im c9 hf
      refine lv_iload_n hx hb dX3_has_12 rfl (lv_at hl 1 rfl) ?_
      refine lv_bipush (v := 6) hx hb dX3_has_13 (by decide) ?_
      refine lv_icmp_ge (tgt := 22) hx hb dX3_has_15 (by decide) (fun c15 => ?_) (fun c15 => ?_)
      · replace hf := ip c15 hf
        refine lv_iconst (v := 0) hx hb dX3_has_22 (by decide) ?_
        exact hret 0 23 _ rfl hf dX3_has_23
      · replace hf := im c15 hf
        refine lv_iconst (v := 1) hx hb dX3_has_18 (by decide) ?_
        refine lv_goto (tgt := 23) hx hb dX3_has_19 (by decide) ?_
        exact hret 1 23 _ rfl hf dX3_has_23
set_option maxHeartbeats 4000000 in
set_option maxRecDepth 100000 in
theorem c_Led_has (l : Launch) (D : va_G) (cs : Nat → ClassId) (o_g : Nat) (h_g : Nat → Nat) (I_g : FI) (V_g : FV) (x1 : Int32) (f : Nat) (out : Int32) (hf : Led_has f x1 I_g V_g = some out) : Met l yX3_has wsX3_has rm_Led_has (va_Pc [.ref o_g, .int x1] (yR D cs (List.flatten [(w_Led cs o_g h_g I_g V_g)]))) (vp_Si (fun r => r = out)) 0 0 (fun _ => False) := by
  refine Met.ofW (cc := cX3_has) (maxL := 2) (ret := (some .boolean)) (by decide) rfl ?_
  intro p e s m args below meth c s₁ B hml hv
  obtain ⟨ha, hP, hK, hN⟩ := hv
  have hx := B.exec
  have hb := B.bytes
  have hr := B.returns
  have hts := atoms_spec (ws := wsX3_has) B.pre
  have hown : s.vm.findClass RX3 = some m.cls := findClass_of_methodNamed B.named
  have hlocks := B.notSynchronized
  have in_X3 : ∀ w ∈ u_ws RX3 TX3 11, w ∈ wsX3_has := fun w h => List.mem_cons_of_mem _ (List.mem_append_right _ h)
  have g_9 := hts (Cond.fieldLink RX3 9 "DaysLent$Ledger" "people" "I") (by decide +kernel)
  have hl := lv_entry ([.ref o_g, .int x1]) (n := 2) (Nat.le_of_ble_eq_true rfl)
  rw [show entryFrame m args 2 = entryFrame m ([.ref o_g, .int x1] : List Value).toArray 2 from by rw [ha], lg_entry_eq]
  generalize (lg_sl ([.ref o_g, .int x1]) ++ List.replicate (2 - (lg_sl ([.ref o_g, .int x1])).length) Slot.unset).toArray = ls at hl ⊢
  generalize hQ : MQ below (vp_Si (fun r => r = out)) args s 0 0 (fun _ => False) = Q
  have hret : ∀ (v : Int32) (pc : Nat) (ls : Array Slot), narrow .boolean (.int v) = .int v → some v = some out → decode cX3_has pc = .ok (.ireturn, 1) → W p l e rm_Led_has s m args below meth c s.heap [] 0 0 Q (F0 m pc ls [.int v]) := by
    intro v pc ls hz hf hd
    rw [← hQ]
    exact W.zret (v := v) hx hb hr hz (fun t ht hW => ⟨v, rfl, Option.some.inj hf, ht⟩) (fun q h => by cases h) hd
  exact v_Led_has hf hx hb hml hown hts in_X3 g_9 hP hK hN hret ls hl
def Led_addDebt (f : Nat) (x1 : Int32) (x2 : Int32) (x3 : Int32) (x4 : Int32) (I_g : FI) (V_g : FV) : Option (FI × FV) := (if 12 ≤ (I_g 1) then some (I_g, V_g) else ob1 (Led_has f x1 I_g V_g) (fun zr1 => (if zr1 = 0 then some (I_g, V_g) else ob1 (Led_has f x2 I_g V_g) (fun zr2 => (if zr2 = 0 then some (I_g, V_g) else if (I_g 1) < 0 ∨ 12 ≤ (I_g 1).toNatClampNeg then none else (nm (va_up V_g 7 (upd (V_g 7) (I_g 1).toNatClampNeg x1)) (fun V3 => if (I_g 1) < 0 ∨ 12 ≤ (I_g 1).toNatClampNeg then none else (nm (va_up V3 8 (upd (V3 8) (I_g 1).toNatClampNeg x2)) (fun V4 => if (I_g 1) < 0 ∨ 12 ≤ (I_g 1).toNatClampNeg then none else (nm (va_up V4 9 (upd (V4 9) (I_g 1).toNatClampNeg x3)) (fun V5 => if (I_g 1) < 0 ∨ 12 ≤ (I_g 1).toNatClampNeg then none else (nm (va_up V5 10 (upd (V5 10) (I_g 1).toNatClampNeg x4)) (fun V6 => nm (va_up I_g 1 ((I_g 1) + 1)) (fun I7 => some (I7, V6)))))))))))))))
abbrev rm_Led_addDebt : Room := { frames := 1, cells := 0, slots := 0, locals := 21 }
set_option maxHeartbeats 4000000 in
set_option maxRecDepth 100000 in
theorem v_Led_addDebt {l : Launch} {p : Program} {e : Env} {s : State} {m : MethodId} {args : Array Value} {below : List Frame} {meth : Method} {c : Code} {Q : State → Prop} {D : va_G} {cs : Nat → ClassId} {o_g : Nat} {h_g : Nat → Nat} {A : Nat → Prop} {I_g : FI} {V_g : FV} {x1 : Int32} {x2 : Int32} {x3 : Int32} {x4 : Int32} {f : Nat} {out : FI × FV} (hf : Led_addDebt f x1 x2 x3 x4 I_g V_g = some out) (hx : p.tables.exec = Jvm.exec) (hb : c.code = cX3_addDebt) (hml : c.maxLocals = 5) (hown : s.vm.findClass RX3 = some m.cls) (hts : ∀ w ∈ wsX3_addDebt, w.before args s = true) (in_X3 : ∀ w ∈ u_ws RX3 TX3 11, w ∈ wsX3_addDebt) (g_15 : (Cond.fieldLink RX3 15 "DaysLent$Ledger" "debts" "I").before args s = true) (w_has_52 : CallW rm_Led_addDebt s args RX3 RX3 52 yX3_has cX3_has 2 (some .boolean) wsX3_has rm_Led_has 0 0 1) (g_34 : (Cond.fieldLink RX3 34 "DaysLent$Ledger" "creditor" "[I").before args s = true) (g_37 : (Cond.fieldLink RX3 37 "DaysLent$Ledger" "debtor" "[I").before args s = true) (g_40 : (Cond.fieldLink RX3 40 "DaysLent$Ledger" "amount" "[I").before args s = true) (g_43 : (Cond.fieldLink RX3 43 "DaysLent$Ledger" "due" "[I").before args s = true) (hA : ∀ q : Nat, s.heap.size ≤ q → A q) (hP : va_P D vwCl (List.flatten [(w_Led cs o_g h_g I_g V_g)]) s.heap) (hD : va_D A (List.flatten [(w_Led cs o_g h_g I_g V_g)])) (hK : va_K D vwCl (tyA cs) s) (hN : yN s) (hret : ∀ (Ig9 : FI) (Vg9 : FV) (H : Heap) (locs : List Loc) (pc : Nat) (ls : Array Slot), some (Ig9, Vg9) = some out → va_P D vwCl (List.flatten [(w_Led cs o_g h_g Ig9 Vg9)]) H → va_D A (List.flatten [(w_Led cs o_g h_g Ig9 Vg9)]) → va_S A s.heap H locs → decode cX3_addDebt pc = .ok (.return_, 1) → W p l e rm_Led_addDebt s m args below meth c H locs 0 0 Q (F0 m pc ls [])) : ∀ ls : Array Slot, lv_has ls 5 [(0, .ref o_g), (1, .int x1), (2, .int x2), (3, .int x3), (4, .int x4)] → W p l e rm_Led_addDebt s m args below meth c s.heap [] 0 0 Q (F0 m 0 ls []) := by
  intro ls hl
  have hS : va_S A s.heap s.heap [] := va_S.rf
  unfold Led_addDebt at hf
  refine lv_aload_n hx hb dX3_addDebt_0 rfl (lv_at hl 0 rfl) ?_
  refine va_get (D := D) (ci := 3) (v := .int (I_g 1)) (C := RX3) (T := TX3) (N := 11) hx hb hts in_X3 hown hK hP 0 rfl rfl 1 (by decide) g_15 (fun _ h9 => h9) rfl dX3_addDebt_1 ?_
  refine lv_bipush (v := 12) hx hb dX3_addDebt_4 (by decide) ?_
  refine lv_icmp_ge (tgt := 25) hx hb dX3_addDebt_6 (by decide) (fun c6 => ?_) (fun c6 => ?_)
  · replace hf := ip c6 hf
    exact hret I_g V_g _ _ 25 _ hf hP hD hS dX3_addDebt_25
  · replace hf := im c6 hf
    refine lv_aload_n hx hb dX3_addDebt_9 rfl (lv_at hl 0 rfl) ?_
    refine lv_iload_n hx hb dX3_addDebt_10 rfl (lv_at hl 1 rfl) ?_
    obtain ⟨zr1, qr1, hf⟩ := bd1 hf
    refine vp_callSi (va_Run.run (va_runV (As := [.int x1]) (rest := []) ⟨hx, hb, hml, hown, hts⟩ (c_Led_has l D cs o_g h_g I_g V_g x1 f zr1 qr1) w_has_52 ⟨yR_moved, va_recv hK hP (ci := 3) (q0 := 0) rfl rfl, fun U hU hW => ⟨rfl, by rw [hU]; exact hP, va_K.moved hW.alike hK, yN_warm hW hN⟩⟩ rfl rfl hl.1 rfl (lv_room (Nat.le_of_ble_eq_true rfl)) dX3_addDebt_11 ⟨Nat.zero_le _, Nat.zero_le _⟩)) (fun r1 er1 => ?_)
    rw [er1]
    refine lv_if_eq (tgt := 25) hx hb dX3_addDebt_14 (by decide) (fun c14 => ?_) (fun c14 => ?_)
    · replace hf := ip c14 hf
      exact hret I_g V_g _ _ 25 _ hf hP hD hS dX3_addDebt_25
    · replace hf := im c14 hf
      refine lv_aload_n hx hb dX3_addDebt_17 rfl (lv_at hl 0 rfl) ?_
      refine lv_iload_n hx hb dX3_addDebt_18 rfl (lv_at hl 2 rfl) ?_
      obtain ⟨zr2, qr2, hf⟩ := bd1 hf
      refine vp_callSi (va_Run.run (va_runV (As := [.int x2]) (rest := []) ⟨hx, hb, hml, hown, hts⟩ (c_Led_has l D cs o_g h_g I_g V_g x2 f zr2 qr2) w_has_52 ⟨yR_moved, va_recv hK hP (ci := 3) (q0 := 0) rfl rfl, fun U hU hW => ⟨rfl, by rw [hU]; exact hP, va_K.moved hW.alike hK, yN_warm hW hN⟩⟩ rfl rfl hl.1 rfl (lv_room (Nat.le_of_ble_eq_true rfl)) dX3_addDebt_19 ⟨Nat.zero_le _, Nat.zero_le _⟩)) (fun r2 er2 => ?_)
      rw [er2]
      refine lv_if_ne (tgt := 26) hx hb dX3_addDebt_22 (by decide) (fun c22 => ?_) (fun c22 => ?_)
      · replace hf := im c22 hf
        refine lv_aload_n hx hb dX3_addDebt_26 rfl (lv_at hl 0 rfl) ?_
        refine va_get (D := D) (ci := 3) (v := .ref (h_g 7)) (C := RX3) (T := TX3) (N := 11) hx hb hts in_X3 hown hK hP 0 rfl rfl 7 (by decide) g_34 (fun _ h9 => h9) rfl dX3_addDebt_27 ?_
        refine lv_aload_n hx hb dX3_addDebt_30 rfl (lv_at hl 0 rfl) ?_
        refine va_get (D := D) (ci := 3) (v := .int (I_g 1)) (C := RX3) (T := TX3) (N := 11) hx hb hts in_X3 hown hK hP 0 rfl rfl 1 (by decide) g_15 (fun _ h9 => h9) rfl dX3_addDebt_31 ?_
        refine lv_iload_n hx hb dX3_addDebt_34 rfl (lv_at hl 1 rfl) ?_
        obtain ⟨c35, hf⟩ := gd hf
        refine va_iast (f := (V_g 7)) hx hb hK hP hD hS 3 0 rfl rfl c35 dX3_addDebt_35 (fun H locs hP hD hS => ?_)
        obtain ⟨V3, eV3, hf⟩ := nme hf
        have hP : va_P D vwCl (List.flatten [(w_Led cs o_g h_g I_g V3)]) H := by rw [eV3]; exact hP
        have hD : va_D A (List.flatten [(w_Led cs o_g h_g I_g V3)]) := by rw [eV3]; exact hD
        refine lv_aload_n hx hb dX3_addDebt_36 rfl (lv_at hl 0 rfl) ?_
        refine va_get (D := D) (ci := 3) (v := .ref (h_g 8)) (C := RX3) (T := TX3) (N := 11) hx hb hts in_X3 hown hK hP 0 rfl rfl 8 (by decide) g_37 (fun _ h9 => h9) rfl dX3_addDebt_37 ?_
        refine lv_aload_n hx hb dX3_addDebt_40 rfl (lv_at hl 0 rfl) ?_
        refine va_get (D := D) (ci := 3) (v := .int (I_g 1)) (C := RX3) (T := TX3) (N := 11) hx hb hts in_X3 hown hK hP 0 rfl rfl 1 (by decide) g_15 (fun _ h9 => h9) rfl dX3_addDebt_41 ?_
        refine lv_iload_n hx hb dX3_addDebt_44 rfl (lv_at hl 2 rfl) ?_
        obtain ⟨c45, hf⟩ := gd hf
        refine va_iast (f := (V3 8)) hx hb hK hP hD hS 4 0 rfl rfl c45 dX3_addDebt_45 (fun H locs hP hD hS => ?_)
        obtain ⟨V4, eV4, hf⟩ := nme hf
        have hP : va_P D vwCl (List.flatten [(w_Led cs o_g h_g I_g V4)]) H := by rw [eV4]; exact hP
        have hD : va_D A (List.flatten [(w_Led cs o_g h_g I_g V4)]) := by rw [eV4]; exact hD
        refine lv_aload_n hx hb dX3_addDebt_46 rfl (lv_at hl 0 rfl) ?_
        refine va_get (D := D) (ci := 3) (v := .ref (h_g 9)) (C := RX3) (T := TX3) (N := 11) hx hb hts in_X3 hown hK hP 0 rfl rfl 9 (by decide) g_40 (fun _ h9 => h9) rfl dX3_addDebt_47 ?_
        refine lv_aload_n hx hb dX3_addDebt_50 rfl (lv_at hl 0 rfl) ?_
        refine va_get (D := D) (ci := 3) (v := .int (I_g 1)) (C := RX3) (T := TX3) (N := 11) hx hb hts in_X3 hown hK hP 0 rfl rfl 1 (by decide) g_15 (fun _ h9 => h9) rfl dX3_addDebt_51 ?_
        refine lv_iload_n hx hb dX3_addDebt_54 rfl (lv_at hl 3 rfl) ?_
        obtain ⟨c55, hf⟩ := gd hf
        refine va_iast (f := (V4 9)) hx hb hK hP hD hS 5 0 rfl rfl c55 dX3_addDebt_55 (fun H locs hP hD hS => ?_)
        obtain ⟨V5, eV5, hf⟩ := nme hf
        have hP : va_P D vwCl (List.flatten [(w_Led cs o_g h_g I_g V5)]) H := by rw [eV5]; exact hP
        have hD : va_D A (List.flatten [(w_Led cs o_g h_g I_g V5)]) := by rw [eV5]; exact hD
        refine lv_aload_n hx hb dX3_addDebt_56 rfl (lv_at hl 0 rfl) ?_
        refine va_get (D := D) (ci := 3) (v := .ref (h_g 10)) (C := RX3) (T := TX3) (N := 11) hx hb hts in_X3 hown hK hP 0 rfl rfl 10 (by decide) g_43 (fun _ h9 => h9) rfl dX3_addDebt_57 ?_
        refine lv_aload_n hx hb dX3_addDebt_60 rfl (lv_at hl 0 rfl) ?_
        refine va_get (D := D) (ci := 3) (v := .int (I_g 1)) (C := RX3) (T := TX3) (N := 11) hx hb hts in_X3 hown hK hP 0 rfl rfl 1 (by decide) g_15 (fun _ h9 => h9) rfl dX3_addDebt_61 ?_
        refine lv_iload hx hb dX3_addDebt_64 (lv_at hl 4 rfl) ?_
        obtain ⟨c66, hf⟩ := gd hf
        refine va_iast (f := (V5 10)) hx hb hK hP hD hS 6 0 rfl rfl c66 dX3_addDebt_66 (fun H locs hP hD hS => ?_)
        obtain ⟨V6, eV6, hf⟩ := nme hf
        have hP : va_P D vwCl (List.flatten [(w_Led cs o_g h_g I_g V6)]) H := by rw [eV6]; exact hP
        have hD : va_D A (List.flatten [(w_Led cs o_g h_g I_g V6)]) := by rw [eV6]; exact hD
        refine lv_aload_n hx hb dX3_addDebt_67 rfl (lv_at hl 0 rfl) ?_
        refine lv_dup hx hb dX3_addDebt_68 rfl ?_
        refine va_get (D := D) (ci := 3) (v := .int (I_g 1)) (C := RX3) (T := TX3) (N := 11) hx hb hts in_X3 hown hK hP 0 rfl rfl 1 (by decide) g_15 (fun _ h9 => h9) rfl dX3_addDebt_69 ?_
        refine lv_iconst (v := 1) hx hb dX3_addDebt_72 (by decide) ?_
        refine lv_iadd hx hb dX3_addDebt_73 ?_
        refine va_put (D := D) (ci := 3) (v := .int ((I_g 1) + 1)) (ty := .int) (C := RX3) (T := TX3) (N := 11) hx hb hts in_X3 tyX3 tyX3_ok nmX3 hown hK hP hD hS 0 rfl rfl 1 (by decide) g_15 (fun _ h9 => h9) rfl (by decide +kernel) rfl rfl (Nat.le_of_ble_eq_true rfl) dX3_addDebt_74 (fun H locs hP hD hS => ?_)
        obtain ⟨I7, eI7, hf⟩ := nme hf
        have hP : va_P D vwCl (List.flatten [(w_Led cs o_g h_g I7 V6)]) H := by rw [eI7]; exact hP
        have hD : va_D A (List.flatten [(w_Led cs o_g h_g I7 V6)]) := by rw [eI7]; exact hD
        exact hret I7 V6 _ _ 77 _ hf hP hD hS dX3_addDebt_77
      · replace hf := ip c22 hf
        exact hret I_g V_g _ _ 25 _ hf hP hD hS dX3_addDebt_25
set_option maxHeartbeats 4000000 in
set_option maxRecDepth 100000 in
theorem c_Led_addDebt (l : Launch) (D : va_G) (cs : Nat → ClassId) (o_g : Nat) (h_g : Nat → Nat) (sz : Nat) (I_g : FI) (V_g : FV) (x1 : Int32) (x2 : Int32) (x3 : Int32) (x4 : Int32) (f : Nat) (out : FI × FV) (hf : Led_addDebt f x1 x2 x3 x4 I_g V_g = some out) : Met l yX3_addDebt wsX3_addDebt rm_Led_addDebt (va_Pc [.ref o_g, .int x1, .int x2, .int x3, .int x4] (yP D cs (List.flatten [(w_Led cs o_g h_g I_g V_g)]) sz)) (va_Qv (fun u => u = out) (fun (u : FI × FV) t => xA D cs (va_A (List.flatten [(w_Led cs o_g h_g I_g V_g)]) sz) (List.flatten [(w_Led cs o_g h_g u.1 u.2)]) t) (va_A (List.flatten [(w_Led cs o_g h_g I_g V_g)]) sz)) 0 0 (va_A (List.flatten [(w_Led cs o_g h_g I_g V_g)]) sz) := by
  refine Met.ofW (cc := cX3_addDebt) (maxL := 5) (ret := none) (by decide) rfl ?_
  intro p e s m args below meth c s₁ B hml hv
  obtain ⟨ha, hsz, hP, hK, hN, hD0⟩ := hv
  have hx := B.exec
  have hb := B.bytes
  have hr := B.returns
  have hts := atoms_spec (ws := wsX3_addDebt) B.pre
  have hown : s.vm.findClass RX3 = some m.cls := findClass_of_methodNamed B.named
  have hlocks := B.notSynchronized
  have in_X3 : ∀ w ∈ u_ws RX3 TX3 11, w ∈ wsX3_addDebt := fun w h => List.mem_cons_of_mem _ (List.mem_append_right _ h)
  have g_15 := hts (Cond.fieldLink RX3 15 "DaysLent$Ledger" "debts" "I") (by decide +kernel)
  have w_has_52 := cwV (R := rm_Led_addDebt) (s := s) (args := args) (rm := rm_Led_has) (mc := 0) (ms := 0) 1 hts gX3_addDebt_X3_has rfl rfl rfl (by decide +kernel) ⟨Nat.le_of_ble_eq_true rfl, Nat.le_of_ble_eq_true rfl⟩
  have g_34 := hts (Cond.fieldLink RX3 34 "DaysLent$Ledger" "creditor" "[I") (by decide +kernel)
  have g_37 := hts (Cond.fieldLink RX3 37 "DaysLent$Ledger" "debtor" "[I") (by decide +kernel)
  have g_40 := hts (Cond.fieldLink RX3 40 "DaysLent$Ledger" "amount" "[I") (by decide +kernel)
  have g_43 := hts (Cond.fieldLink RX3 43 "DaysLent$Ledger" "due" "[I") (by decide +kernel)
  subst hsz
  have hD := hD0.self (sz := s.heap.size)
  generalize hAe : va_A (List.flatten [(w_Led cs o_g h_g I_g V_g)]) s.heap.size = A at hD ⊢
  have hA : ∀ q : Nat, s.heap.size ≤ q → A q := fun q h => by rw [← hAe]; exact Or.inr h
  have hl := lv_entry ([.ref o_g, .int x1, .int x2, .int x3, .int x4]) (n := 5) (Nat.le_of_ble_eq_true rfl)
  rw [show entryFrame m args 5 = entryFrame m ([.ref o_g, .int x1, .int x2, .int x3, .int x4] : List Value).toArray 5 from by rw [ha], lg_entry_eq]
  generalize (lg_sl ([.ref o_g, .int x1, .int x2, .int x3, .int x4]) ++ List.replicate (5 - (lg_sl ([.ref o_g, .int x1, .int x2, .int x3, .int x4])).length) Slot.unset).toArray = ls at hl ⊢
  generalize hQ : MQ below (va_Qv (fun u => u = out) (fun (u : FI × FV) t => xA D cs A (List.flatten [(w_Led cs o_g h_g u.1 u.2)]) t) A) args s 0 0 A = Q
  have hret : ∀ (Ig9 : FI) (Vg9 : FV) (H : Heap) (locs : List Loc) (pc : Nat) (ls : Array Slot), some (Ig9, Vg9) = some out → va_P D vwCl (List.flatten [(w_Led cs o_g h_g Ig9 Vg9)]) H → va_D A (List.flatten [(w_Led cs o_g h_g Ig9 Vg9)]) → va_S A s.heap H locs → decode cX3_addDebt pc = .ok (.return_, 1) → W p l e rm_Led_addDebt s m args below meth c H locs 0 0 Q (F0 m pc ls []) := by
    intro Ig9 Vg9 H locs pc ls hf hP hD hS hd
    rw [← hQ]
    exact W.vret hx hb hr (fun t ht hW => ⟨⟨(Ig9, Vg9), rfl, Option.some.inj hf, by show va_P D vwCl (List.flatten [(w_Led cs o_g h_g Ig9 Vg9)]) t.heap; rw [ht]; exact hP, va_K.moved hW.alike hK, hD⟩, hS.F ht⟩) hS.2.2 hd
  exact v_Led_addDebt hf hx hb hml hown hts in_X3 g_15 w_has_52 g_34 g_37 g_40 g_43 hA hP hD hK hN hret ls hl
def Led_moveDebt (f : Nat) (x1 : Int32) (x2 : Int32) (I_g : FI) (V_g : FV) : Option (FV) := if x1 < 0 ∨ 12 ≤ x1.toNatClampNeg then none else (if x2 < 0 ∨ 12 ≤ x2.toNatClampNeg then none else (nm (va_up V_g 7 (upd (V_g 7) x2.toNatClampNeg ((V_g 7) x1.toNatClampNeg))) (fun V1 => if x1 < 0 ∨ 12 ≤ x1.toNatClampNeg then none else (if x2 < 0 ∨ 12 ≤ x2.toNatClampNeg then none else (nm (va_up V1 8 (upd (V1 8) x2.toNatClampNeg ((V1 8) x1.toNatClampNeg))) (fun V2 => if x1 < 0 ∨ 12 ≤ x1.toNatClampNeg then none else (if x2 < 0 ∨ 12 ≤ x2.toNatClampNeg then none else (nm (va_up V2 9 (upd (V2 9) x2.toNatClampNeg ((V2 9) x1.toNatClampNeg))) (fun V3 => if x1 < 0 ∨ 12 ≤ x1.toNatClampNeg then none else (if x2 < 0 ∨ 12 ≤ x2.toNatClampNeg then none else (nm (va_up V3 10 (upd (V3 10) x2.toNatClampNeg ((V3 10) x1.toNatClampNeg))) (fun V4 => some V4))))))))))))
abbrev rm_Led_moveDebt : Room := { frames := 0, cells := 0, slots := 0, locals := 0 }
set_option maxHeartbeats 4000000 in
set_option maxRecDepth 100000 in
theorem v_Led_moveDebt {l : Launch} {p : Program} {e : Env} {s : State} {m : MethodId} {args : Array Value} {below : List Frame} {meth : Method} {c : Code} {Q : State → Prop} {D : va_G} {cs : Nat → ClassId} {o_g : Nat} {h_g : Nat → Nat} {A : Nat → Prop} {I_g : FI} {V_g : FV} {x1 : Int32} {x2 : Int32} {f : Nat} {out : FV} (hf : Led_moveDebt f x1 x2 I_g V_g = some out) (hx : p.tables.exec = Jvm.exec) (hb : c.code = cX3_moveDebt) (hml : c.maxLocals = 3) (hown : s.vm.findClass RX3 = some m.cls) (hts : ∀ w ∈ wsX3_moveDebt, w.before args s = true) (in_X3 : ∀ w ∈ u_ws RX3 TX3 11, w ∈ wsX3_moveDebt) (g_34 : (Cond.fieldLink RX3 34 "DaysLent$Ledger" "creditor" "[I").before args s = true) (g_37 : (Cond.fieldLink RX3 37 "DaysLent$Ledger" "debtor" "[I").before args s = true) (g_40 : (Cond.fieldLink RX3 40 "DaysLent$Ledger" "amount" "[I").before args s = true) (g_43 : (Cond.fieldLink RX3 43 "DaysLent$Ledger" "due" "[I").before args s = true) (hA : ∀ q : Nat, s.heap.size ≤ q → A q) (hP : va_P D vwCl (List.flatten [(w_Led cs o_g h_g I_g V_g)]) s.heap) (hD : va_D A (List.flatten [(w_Led cs o_g h_g I_g V_g)])) (hK : va_K D vwCl (tyA cs) s) (hN : yN s) (hret : ∀ (Vg9 : FV) (H : Heap) (locs : List Loc) (pc : Nat) (ls : Array Slot), some Vg9 = some out → va_P D vwCl (List.flatten [(w_Led cs o_g h_g I_g Vg9)]) H → va_D A (List.flatten [(w_Led cs o_g h_g I_g Vg9)]) → va_S A s.heap H locs → decode cX3_moveDebt pc = .ok (.return_, 1) → W p l e rm_Led_moveDebt s m args below meth c H locs 0 0 Q (F0 m pc ls [])) : ∀ ls : Array Slot, lv_has ls 3 [(0, .ref o_g), (1, .int x1), (2, .int x2)] → W p l e rm_Led_moveDebt s m args below meth c s.heap [] 0 0 Q (F0 m 0 ls []) := by
  intro ls hl
  have hS : va_S A s.heap s.heap [] := va_S.rf
  unfold Led_moveDebt at hf
  refine lv_aload_n hx hb dX3_moveDebt_0 rfl (lv_at hl 0 rfl) ?_
  refine va_get (D := D) (ci := 3) (v := .ref (h_g 7)) (C := RX3) (T := TX3) (N := 11) hx hb hts in_X3 hown hK hP 0 rfl rfl 7 (by decide) g_34 (fun _ h9 => h9) rfl dX3_moveDebt_1 ?_
  refine lv_iload_n hx hb dX3_moveDebt_4 rfl (lv_at hl 2 rfl) ?_
  refine lv_aload_n hx hb dX3_moveDebt_5 rfl (lv_at hl 0 rfl) ?_
  refine va_get (D := D) (ci := 3) (v := .ref (h_g 7)) (C := RX3) (T := TX3) (N := 11) hx hb hts in_X3 hown hK hP 0 rfl rfl 7 (by decide) g_34 (fun _ h9 => h9) rfl dX3_moveDebt_6 ?_
  refine lv_iload_n hx hb dX3_moveDebt_9 rfl (lv_at hl 1 rfl) ?_
  obtain ⟨c10, hf⟩ := gd hf
  refine va_iald (f := (V_g 7)) hx hb hK hP 3 0 rfl rfl c10 dX3_moveDebt_10 ?_
  obtain ⟨c11, hf⟩ := gd hf
  refine va_iast (f := (V_g 7)) hx hb hK hP hD hS 3 0 rfl rfl c11 dX3_moveDebt_11 (fun H locs hP hD hS => ?_)
  obtain ⟨V1, eV1, hf⟩ := nme hf
  have hP : va_P D vwCl (List.flatten [(w_Led cs o_g h_g I_g V1)]) H := by rw [eV1]; exact hP
  have hD : va_D A (List.flatten [(w_Led cs o_g h_g I_g V1)]) := by rw [eV1]; exact hD
  refine lv_aload_n hx hb dX3_moveDebt_12 rfl (lv_at hl 0 rfl) ?_
  refine va_get (D := D) (ci := 3) (v := .ref (h_g 8)) (C := RX3) (T := TX3) (N := 11) hx hb hts in_X3 hown hK hP 0 rfl rfl 8 (by decide) g_37 (fun _ h9 => h9) rfl dX3_moveDebt_13 ?_
  refine lv_iload_n hx hb dX3_moveDebt_16 rfl (lv_at hl 2 rfl) ?_
  refine lv_aload_n hx hb dX3_moveDebt_17 rfl (lv_at hl 0 rfl) ?_
  refine va_get (D := D) (ci := 3) (v := .ref (h_g 8)) (C := RX3) (T := TX3) (N := 11) hx hb hts in_X3 hown hK hP 0 rfl rfl 8 (by decide) g_37 (fun _ h9 => h9) rfl dX3_moveDebt_18 ?_
  refine lv_iload_n hx hb dX3_moveDebt_21 rfl (lv_at hl 1 rfl) ?_
  obtain ⟨c22, hf⟩ := gd hf
  refine va_iald (f := (V1 8)) hx hb hK hP 4 0 rfl rfl c22 dX3_moveDebt_22 ?_
  obtain ⟨c23, hf⟩ := gd hf
  refine va_iast (f := (V1 8)) hx hb hK hP hD hS 4 0 rfl rfl c23 dX3_moveDebt_23 (fun H locs hP hD hS => ?_)
  obtain ⟨V2, eV2, hf⟩ := nme hf
  have hP : va_P D vwCl (List.flatten [(w_Led cs o_g h_g I_g V2)]) H := by rw [eV2]; exact hP
  have hD : va_D A (List.flatten [(w_Led cs o_g h_g I_g V2)]) := by rw [eV2]; exact hD
  refine lv_aload_n hx hb dX3_moveDebt_24 rfl (lv_at hl 0 rfl) ?_
  refine va_get (D := D) (ci := 3) (v := .ref (h_g 9)) (C := RX3) (T := TX3) (N := 11) hx hb hts in_X3 hown hK hP 0 rfl rfl 9 (by decide) g_40 (fun _ h9 => h9) rfl dX3_moveDebt_25 ?_
  refine lv_iload_n hx hb dX3_moveDebt_28 rfl (lv_at hl 2 rfl) ?_
  refine lv_aload_n hx hb dX3_moveDebt_29 rfl (lv_at hl 0 rfl) ?_
  refine va_get (D := D) (ci := 3) (v := .ref (h_g 9)) (C := RX3) (T := TX3) (N := 11) hx hb hts in_X3 hown hK hP 0 rfl rfl 9 (by decide) g_40 (fun _ h9 => h9) rfl dX3_moveDebt_30 ?_
  refine lv_iload_n hx hb dX3_moveDebt_33 rfl (lv_at hl 1 rfl) ?_
  obtain ⟨c34, hf⟩ := gd hf
  refine va_iald (f := (V2 9)) hx hb hK hP 5 0 rfl rfl c34 dX3_moveDebt_34 ?_
  obtain ⟨c35, hf⟩ := gd hf
  refine va_iast (f := (V2 9)) hx hb hK hP hD hS 5 0 rfl rfl c35 dX3_moveDebt_35 (fun H locs hP hD hS => ?_)
  obtain ⟨V3, eV3, hf⟩ := nme hf
  have hP : va_P D vwCl (List.flatten [(w_Led cs o_g h_g I_g V3)]) H := by rw [eV3]; exact hP
  have hD : va_D A (List.flatten [(w_Led cs o_g h_g I_g V3)]) := by rw [eV3]; exact hD
  refine lv_aload_n hx hb dX3_moveDebt_36 rfl (lv_at hl 0 rfl) ?_
  refine va_get (D := D) (ci := 3) (v := .ref (h_g 10)) (C := RX3) (T := TX3) (N := 11) hx hb hts in_X3 hown hK hP 0 rfl rfl 10 (by decide) g_43 (fun _ h9 => h9) rfl dX3_moveDebt_37 ?_
  refine lv_iload_n hx hb dX3_moveDebt_40 rfl (lv_at hl 2 rfl) ?_
  refine lv_aload_n hx hb dX3_moveDebt_41 rfl (lv_at hl 0 rfl) ?_
  refine va_get (D := D) (ci := 3) (v := .ref (h_g 10)) (C := RX3) (T := TX3) (N := 11) hx hb hts in_X3 hown hK hP 0 rfl rfl 10 (by decide) g_43 (fun _ h9 => h9) rfl dX3_moveDebt_42 ?_
  refine lv_iload_n hx hb dX3_moveDebt_45 rfl (lv_at hl 1 rfl) ?_
  obtain ⟨c46, hf⟩ := gd hf
  refine va_iald (f := (V3 10)) hx hb hK hP 6 0 rfl rfl c46 dX3_moveDebt_46 ?_
  obtain ⟨c47, hf⟩ := gd hf
  refine va_iast (f := (V3 10)) hx hb hK hP hD hS 6 0 rfl rfl c47 dX3_moveDebt_47 (fun H locs hP hD hS => ?_)
  obtain ⟨V4, eV4, hf⟩ := nme hf
  have hP : va_P D vwCl (List.flatten [(w_Led cs o_g h_g I_g V4)]) H := by rw [eV4]; exact hP
  have hD : va_D A (List.flatten [(w_Led cs o_g h_g I_g V4)]) := by rw [eV4]; exact hD
  exact hret V4 _ _ 48 _ hf hP hD hS dX3_moveDebt_48
set_option maxHeartbeats 4000000 in
set_option maxRecDepth 100000 in
theorem c_Led_moveDebt (l : Launch) (D : va_G) (cs : Nat → ClassId) (o_g : Nat) (h_g : Nat → Nat) (sz : Nat) (I_g : FI) (V_g : FV) (x1 : Int32) (x2 : Int32) (f : Nat) (out : FV) (hf : Led_moveDebt f x1 x2 I_g V_g = some out) : Met l yX3_moveDebt wsX3_moveDebt rm_Led_moveDebt (va_Pc [.ref o_g, .int x1, .int x2] (yP D cs (List.flatten [(w_Led cs o_g h_g I_g V_g)]) sz)) (va_Qv (fun u => u = out) (fun (u : FV) t => xA D cs (va_A (List.flatten [(w_Led cs o_g h_g I_g V_g)]) sz) (List.flatten [(w_Led cs o_g h_g I_g u)]) t) (va_A (List.flatten [(w_Led cs o_g h_g I_g V_g)]) sz)) 0 0 (va_A (List.flatten [(w_Led cs o_g h_g I_g V_g)]) sz) := by
  refine Met.ofW (cc := cX3_moveDebt) (maxL := 3) (ret := none) (by decide) rfl ?_
  intro p e s m args below meth c s₁ B hml hv
  obtain ⟨ha, hsz, hP, hK, hN, hD0⟩ := hv
  have hx := B.exec
  have hb := B.bytes
  have hr := B.returns
  have hts := atoms_spec (ws := wsX3_moveDebt) B.pre
  have hown : s.vm.findClass RX3 = some m.cls := findClass_of_methodNamed B.named
  have hlocks := B.notSynchronized
  have in_X3 : ∀ w ∈ u_ws RX3 TX3 11, w ∈ wsX3_moveDebt := fun w h => List.mem_cons_of_mem _ (List.mem_append_right _ h)
  have g_34 := hts (Cond.fieldLink RX3 34 "DaysLent$Ledger" "creditor" "[I") (by decide +kernel)
  have g_37 := hts (Cond.fieldLink RX3 37 "DaysLent$Ledger" "debtor" "[I") (by decide +kernel)
  have g_40 := hts (Cond.fieldLink RX3 40 "DaysLent$Ledger" "amount" "[I") (by decide +kernel)
  have g_43 := hts (Cond.fieldLink RX3 43 "DaysLent$Ledger" "due" "[I") (by decide +kernel)
  subst hsz
  have hD := hD0.self (sz := s.heap.size)
  generalize hAe : va_A (List.flatten [(w_Led cs o_g h_g I_g V_g)]) s.heap.size = A at hD ⊢
  have hA : ∀ q : Nat, s.heap.size ≤ q → A q := fun q h => by rw [← hAe]; exact Or.inr h
  have hl := lv_entry ([.ref o_g, .int x1, .int x2]) (n := 3) (Nat.le_of_ble_eq_true rfl)
  rw [show entryFrame m args 3 = entryFrame m ([.ref o_g, .int x1, .int x2] : List Value).toArray 3 from by rw [ha], lg_entry_eq]
  generalize (lg_sl ([.ref o_g, .int x1, .int x2]) ++ List.replicate (3 - (lg_sl ([.ref o_g, .int x1, .int x2])).length) Slot.unset).toArray = ls at hl ⊢
  generalize hQ : MQ below (va_Qv (fun u => u = out) (fun (u : FV) t => xA D cs A (List.flatten [(w_Led cs o_g h_g I_g u)]) t) A) args s 0 0 A = Q
  have hret : ∀ (Vg9 : FV) (H : Heap) (locs : List Loc) (pc : Nat) (ls : Array Slot), some Vg9 = some out → va_P D vwCl (List.flatten [(w_Led cs o_g h_g I_g Vg9)]) H → va_D A (List.flatten [(w_Led cs o_g h_g I_g Vg9)]) → va_S A s.heap H locs → decode cX3_moveDebt pc = .ok (.return_, 1) → W p l e rm_Led_moveDebt s m args below meth c H locs 0 0 Q (F0 m pc ls []) := by
    intro Vg9 H locs pc ls hf hP hD hS hd
    rw [← hQ]
    exact W.vret hx hb hr (fun t ht hW => ⟨⟨Vg9, rfl, Option.some.inj hf, by show va_P D vwCl (List.flatten [(w_Led cs o_g h_g I_g Vg9)]) t.heap; rw [ht]; exact hP, va_K.moved hW.alike hK, hD⟩, hS.F ht⟩) hS.2.2 hd
  exact v_Led_moveDebt hf hx hb hml hown hts in_X3 g_34 g_37 g_40 g_43 hA hP hD hK hN hret ls hl
def Led_allPeople (f : Nat) (I_g : FI) (V_g : FV) : Option (Int32) := some ((1 <<< ((I_g 0) &&& 31)) - 1)
abbrev rm_Led_allPeople : Room := { frames := 0, cells := 0, slots := 0, locals := 0 }
set_option maxHeartbeats 4000000 in
set_option maxRecDepth 100000 in
theorem v_Led_allPeople {l : Launch} {p : Program} {e : Env} {s : State} {m : MethodId} {args : Array Value} {below : List Frame} {meth : Method} {c : Code} {Q : State → Prop} {D : va_G} {cs : Nat → ClassId} {o_g : Nat} {h_g : Nat → Nat} {I_g : FI} {V_g : FV} {f : Nat} {out : Int32} (hf : Led_allPeople f I_g V_g = some out) (hx : p.tables.exec = Jvm.exec) (hb : c.code = cX3_allPeople) (hml : c.maxLocals = 1) (hown : s.vm.findClass RX3 = some m.cls) (hts : ∀ w ∈ wsX3_allPeople, w.before args s = true) (in_X3 : ∀ w ∈ u_ws RX3 TX3 11, w ∈ wsX3_allPeople) (g_9 : (Cond.fieldLink RX3 9 "DaysLent$Ledger" "people" "I").before args s = true) (hP : va_P D vwCl (List.flatten [(w_Led cs o_g h_g I_g V_g)]) s.heap) (hK : va_K D vwCl (tyA cs) s) (hN : yN s) (hret : ∀ (v : Int32) (pc : Nat) (ls : Array Slot), some v = some out → decode cX3_allPeople pc = .ok (.ireturn, 1) → W p l e rm_Led_allPeople s m args below meth c s.heap [] 0 0 Q (F0 m pc ls [.int v])) : ∀ ls : Array Slot, lv_has ls 1 [(0, .ref o_g)] → W p l e rm_Led_allPeople s m args below meth c s.heap [] 0 0 Q (F0 m 0 ls []) := by
  intro ls hl
  unfold Led_allPeople at hf
  refine lv_iconst (v := 1) hx hb dX3_allPeople_0 (by decide) ?_
  refine lv_aload_n hx hb dX3_allPeople_1 rfl (lv_at hl 0 rfl) ?_
  refine va_get (D := D) (ci := 3) (v := .int (I_g 0)) (C := RX3) (T := TX3) (N := 11) hx hb hts in_X3 hown hK hP 0 rfl rfl 0 (by decide) g_9 (fun _ h9 => h9) rfl dX3_allPeople_2 ?_
  refine lv_ishl hx hb dX3_allPeople_5 ?_
  refine lv_iconst (v := 1) hx hb dX3_allPeople_6 (by decide) ?_
  refine lv_isub hx hb dX3_allPeople_7 ?_
  exact hret ((1 <<< ((I_g 0) &&& 31)) - 1) 8 _ hf dX3_allPeople_8
set_option maxHeartbeats 4000000 in
set_option maxRecDepth 100000 in
theorem c_Led_allPeople (l : Launch) (D : va_G) (cs : Nat → ClassId) (o_g : Nat) (h_g : Nat → Nat) (I_g : FI) (V_g : FV) (f : Nat) (out : Int32) (hf : Led_allPeople f I_g V_g = some out) : Met l yX3_allPeople wsX3_allPeople rm_Led_allPeople (va_Pc [.ref o_g] (yR D cs (List.flatten [(w_Led cs o_g h_g I_g V_g)]))) (vp_Si (fun r => r = out)) 0 0 (fun _ => False) := by
  refine Met.ofW (cc := cX3_allPeople) (maxL := 1) (ret := (some .int)) (by decide) rfl ?_
  intro p e s m args below meth c s₁ B hml hv
  obtain ⟨ha, hP, hK, hN⟩ := hv
  have hx := B.exec
  have hb := B.bytes
  have hr := B.returns
  have hts := atoms_spec (ws := wsX3_allPeople) B.pre
  have hown : s.vm.findClass RX3 = some m.cls := findClass_of_methodNamed B.named
  have hlocks := B.notSynchronized
  have in_X3 : ∀ w ∈ u_ws RX3 TX3 11, w ∈ wsX3_allPeople := fun w h => List.mem_cons_of_mem _ (List.mem_append_right _ h)
  have g_9 := hts (Cond.fieldLink RX3 9 "DaysLent$Ledger" "people" "I") (by decide +kernel)
  have hl := lv_entry ([.ref o_g]) (n := 1) (Nat.le_of_ble_eq_true rfl)
  rw [show entryFrame m args 1 = entryFrame m ([.ref o_g] : List Value).toArray 1 from by rw [ha], lg_entry_eq]
  generalize (lg_sl ([.ref o_g]) ++ List.replicate (1 - (lg_sl ([.ref o_g])).length) Slot.unset).toArray = ls at hl ⊢
  generalize hQ : MQ below (vp_Si (fun r => r = out)) args s 0 0 (fun _ => False) = Q
  have hret : ∀ (v : Int32) (pc : Nat) (ls : Array Slot), some v = some out → decode cX3_allPeople pc = .ok (.ireturn, 1) → W p l e rm_Led_allPeople s m args below meth c s.heap [] 0 0 Q (F0 m pc ls [.int v]) := by
    intro v pc ls hf hd
    rw [← hQ]
    exact W.iret (v := v) hx hb hr (fun t ht hW => ⟨v, rfl, Option.some.inj hf, ht⟩) (fun q h => by cases h) hd
  exact v_Led_allPeople hf hx hb hml hown hts in_X3 g_9 hP hK hN hret ls hl
def Led_areAllPeople (f : Nat) (x1 : Int32) (I_g : FI) (V_g : FV) : Option (Int32) := ob1 (Led_allPeople f I_g V_g) (fun zr1 => (if (x1 &&& (zr1 ^^^ (-1))) = 0 then some 1 else some 0))
abbrev rm_Led_areAllPeople : Room := { frames := 1, cells := 0, slots := 0, locals := 20 }
set_option maxHeartbeats 4000000 in
set_option maxRecDepth 100000 in
theorem v_Led_areAllPeople {l : Launch} {p : Program} {e : Env} {s : State} {m : MethodId} {args : Array Value} {below : List Frame} {meth : Method} {c : Code} {Q : State → Prop} {D : va_G} {cs : Nat → ClassId} {o_g : Nat} {h_g : Nat → Nat} {I_g : FI} {V_g : FV} {x1 : Int32} {f : Nat} {out : Int32} (hf : Led_areAllPeople f x1 I_g V_g = some out) (hx : p.tables.exec = Jvm.exec) (hb : c.code = cX3_areAllPeople) (hml : c.maxLocals = 2) (hown : s.vm.findClass RX3 = some m.cls) (hts : ∀ w ∈ wsX3_areAllPeople, w.before args s = true) (in_X3 : ∀ w ∈ u_ws RX3 TX3 11, w ∈ wsX3_areAllPeople) (w_allPeople_56 : CallW rm_Led_areAllPeople s args RX3 RX3 56 yX3_allPeople cX3_allPeople 1 (some .int) wsX3_allPeople rm_Led_allPeople 0 0 0) (hP : va_P D vwCl (List.flatten [(w_Led cs o_g h_g I_g V_g)]) s.heap) (hK : va_K D vwCl (tyA cs) s) (hN : yN s) (hret : ∀ (v : Int32) (pc : Nat) (ls : Array Slot), narrow .boolean (.int v) = .int v → some v = some out → decode cX3_areAllPeople pc = .ok (.ireturn, 1) → W p l e rm_Led_areAllPeople s m args below meth c s.heap [] 0 0 Q (F0 m pc ls [.int v])) : ∀ ls : Array Slot, lv_has ls 2 [(0, .ref o_g), (1, .int x1)] → W p l e rm_Led_areAllPeople s m args below meth c s.heap [] 0 0 Q (F0 m 0 ls []) := by
  intro ls hl
  unfold Led_areAllPeople at hf
  refine lv_iload_n hx hb dX3_areAllPeople_0 rfl (lv_at hl 1 rfl) ?_
  refine lv_aload_n hx hb dX3_areAllPeople_1 rfl (lv_at hl 0 rfl) ?_
  obtain ⟨zr1, qr1, hf⟩ := bd1 hf
  refine vp_callSi (va_Run.run (va_runV (As := []) (rest := [.int x1]) ⟨hx, hb, hml, hown, hts⟩ (c_Led_allPeople l D cs o_g h_g I_g V_g f zr1 qr1) w_allPeople_56 ⟨yR_moved, va_recv hK hP (ci := 3) (q0 := 0) rfl rfl, fun U hU hW => ⟨rfl, by rw [hU]; exact hP, va_K.moved hW.alike hK, yN_warm hW hN⟩⟩ rfl rfl hl.1 rfl (lv_room (Nat.le_of_ble_eq_true rfl)) dX3_areAllPeople_2 ⟨Nat.zero_le _, Nat.zero_le _⟩)) (fun r1 er1 => ?_)
  rw [er1]
  refine lv_iconst (v := (-1)) hx hb dX3_areAllPeople_5 (by decide) ?_
  refine lv_ixor hx hb dX3_areAllPeople_6 ?_
  refine lv_iand hx hb dX3_areAllPeople_7 ?_
  refine lv_if_ne (tgt := 15) hx hb dX3_areAllPeople_8 (by decide) (fun c8 => ?_) (fun c8 => ?_)
  · replace hf := im c8 hf
    refine lv_iconst (v := 0) hx hb dX3_areAllPeople_15 (by decide) ?_
    exact hret 0 16 _ rfl hf dX3_areAllPeople_16
  · replace hf := ip c8 hf
    refine lv_iconst (v := 1) hx hb dX3_areAllPeople_11 (by decide) ?_
    refine lv_goto (tgt := 16) hx hb dX3_areAllPeople_12 (by decide) ?_
    exact hret 1 16 _ rfl hf dX3_areAllPeople_16
set_option maxHeartbeats 4000000 in
set_option maxRecDepth 100000 in
theorem c_Led_areAllPeople (l : Launch) (D : va_G) (cs : Nat → ClassId) (o_g : Nat) (h_g : Nat → Nat) (I_g : FI) (V_g : FV) (x1 : Int32) (f : Nat) (out : Int32) (hf : Led_areAllPeople f x1 I_g V_g = some out) : Met l yX3_areAllPeople wsX3_areAllPeople rm_Led_areAllPeople (va_Pc [.ref o_g, .int x1] (yR D cs (List.flatten [(w_Led cs o_g h_g I_g V_g)]))) (vp_Si (fun r => r = out)) 0 0 (fun _ => False) := by
  refine Met.ofW (cc := cX3_areAllPeople) (maxL := 2) (ret := (some .boolean)) (by decide) rfl ?_
  intro p e s m args below meth c s₁ B hml hv
  obtain ⟨ha, hP, hK, hN⟩ := hv
  have hx := B.exec
  have hb := B.bytes
  have hr := B.returns
  have hts := atoms_spec (ws := wsX3_areAllPeople) B.pre
  have hown : s.vm.findClass RX3 = some m.cls := findClass_of_methodNamed B.named
  have hlocks := B.notSynchronized
  have in_X3 : ∀ w ∈ u_ws RX3 TX3 11, w ∈ wsX3_areAllPeople := fun w h => List.mem_cons_of_mem _ (List.mem_append_right _ h)
  have w_allPeople_56 := cwV (R := rm_Led_areAllPeople) (s := s) (args := args) (rm := rm_Led_allPeople) (mc := 0) (ms := 0) 0 hts gX3_areAllPeople_X3_allPeople rfl rfl rfl (by decide +kernel) ⟨Nat.le_of_ble_eq_true rfl, Nat.le_of_ble_eq_true rfl⟩
  have hl := lv_entry ([.ref o_g, .int x1]) (n := 2) (Nat.le_of_ble_eq_true rfl)
  rw [show entryFrame m args 2 = entryFrame m ([.ref o_g, .int x1] : List Value).toArray 2 from by rw [ha], lg_entry_eq]
  generalize (lg_sl ([.ref o_g, .int x1]) ++ List.replicate (2 - (lg_sl ([.ref o_g, .int x1])).length) Slot.unset).toArray = ls at hl ⊢
  generalize hQ : MQ below (vp_Si (fun r => r = out)) args s 0 0 (fun _ => False) = Q
  have hret : ∀ (v : Int32) (pc : Nat) (ls : Array Slot), narrow .boolean (.int v) = .int v → some v = some out → decode cX3_areAllPeople pc = .ok (.ireturn, 1) → W p l e rm_Led_areAllPeople s m args below meth c s.heap [] 0 0 Q (F0 m pc ls [.int v]) := by
    intro v pc ls hz hf hd
    rw [← hQ]
    exact W.zret (v := v) hx hb hr hz (fun t ht hW => ⟨v, rfl, Option.some.inj hf, ht⟩) (fun q h => by cases h) hd
  exact v_Led_areAllPeople hf hx hb hml hown hts in_X3 w_allPeople_56 hP hK hN hret ls hl
def Led_isAlive (f : Nat) (x1 : Int32) (I_g : FI) (V_g : FV) : Option (Int32) := ob1 (X_isIn f (I_g 3) x1) (fun zr1 => if zr1 &&& 1 = zr1 then some zr1 else none)
abbrev rm_Led_isAlive : Room := { frames := 1, cells := 0, slots := 0, locals := 21 }
set_option maxHeartbeats 4000000 in
set_option maxRecDepth 100000 in
theorem v_Led_isAlive {l : Launch} {p : Program} {e : Env} {s : State} {m : MethodId} {args : Array Value} {below : List Frame} {meth : Method} {c : Code} {Q : State → Prop} {D : va_G} {cs : Nat → ClassId} {o_g : Nat} {h_g : Nat → Nat} {I_g : FI} {V_g : FV} {x1 : Int32} {f : Nat} {out : Int32} (hf : Led_isAlive f x1 I_g V_g = some out) (hx : p.tables.exec = Jvm.exec) (hb : c.code = cX3_isAlive) (hml : c.maxLocals = 2) (hown : s.vm.findClass RX3 = some m.cls) (hts : ∀ w ∈ wsX3_isAlive, w.before args s = true) (in_X3 : ∀ w ∈ u_ws RX3 TX3 11, w ∈ wsX3_isAlive) (g_21 : (Cond.fieldLink RX3 21 "DaysLent$Ledger" "alive" "I").before args s = true) (w_isIn_60 : va_CN rm_Led_isAlive s args RX3 60 yX9_isIn "DaysLent" cX9_isIn 2 (some .boolean) wsX9_isIn rm_X_isIn 0 0 2 ∧ (Cond.static yX9_isIn).before args s = true ∧ True) (hP : va_P D vwCl (List.flatten [(w_Led cs o_g h_g I_g V_g)]) s.heap) (hK : va_K D vwCl (tyA cs) s) (hN : yN s) (hret : ∀ (v : Int32) (pc : Nat) (ls : Array Slot), narrow .boolean (.int v) = .int v → some v = some out → decode cX3_isAlive pc = .ok (.ireturn, 1) → W p l e rm_Led_isAlive s m args below meth c s.heap [] 0 0 Q (F0 m pc ls [.int v])) : ∀ ls : Array Slot, lv_has ls 2 [(0, .ref o_g), (1, .int x1)] → W p l e rm_Led_isAlive s m args below meth c s.heap [] 0 0 Q (F0 m 0 ls []) := by
  intro ls hl
  unfold Led_isAlive at hf
  refine lv_aload_n hx hb dX3_isAlive_0 rfl (lv_at hl 0 rfl) ?_
  refine va_get (D := D) (ci := 3) (v := .int (I_g 3)) (C := RX3) (T := TX3) (N := 11) hx hb hts in_X3 hown hK hP 0 rfl rfl 3 (by decide) g_21 (fun _ h9 => h9) rfl dX3_isAlive_1 ?_
  refine lv_iload_n hx hb dX3_isAlive_4 rfl (lv_at hl 1 rfl) ?_
  obtain ⟨zr1, qr1, hf⟩ := bd1 hf
  refine vp_callSi (va_Run.run (va_runSN (As := [.int (I_g 3), .int x1]) (rest := []) ⟨hx, hb, hml, hown, hts⟩ (c_X_isIn l (I_g 3) x1 f zr1 qr1) w_isIn_60 ⟨fun a U g mk q => q, fun U hU hW => ⟨rfl, trivial⟩⟩ rfl rfl hl.1 rfl (lv_room (Nat.le_of_ble_eq_true rfl)) dX3_isAlive_5 ⟨Nat.zero_le _, Nat.zero_le _⟩)) (fun r1 er1 => ?_)
  rw [er1]
  obtain ⟨c8, hf⟩ := gp hf
  exact hret zr1 8 _ (by show Value.int (zr1 &&& 1) = .int zr1; rw [c8]) hf dX3_isAlive_8
set_option maxHeartbeats 4000000 in
set_option maxRecDepth 100000 in
theorem c_Led_isAlive (l : Launch) (D : va_G) (cs : Nat → ClassId) (o_g : Nat) (h_g : Nat → Nat) (I_g : FI) (V_g : FV) (x1 : Int32) (f : Nat) (out : Int32) (hf : Led_isAlive f x1 I_g V_g = some out) : Met l yX3_isAlive wsX3_isAlive rm_Led_isAlive (va_Pc [.ref o_g, .int x1] (yR D cs (List.flatten [(w_Led cs o_g h_g I_g V_g)]))) (vp_Si (fun r => r = out)) 0 0 (fun _ => False) := by
  refine Met.ofW (cc := cX3_isAlive) (maxL := 2) (ret := (some .boolean)) (by decide) rfl ?_
  intro p e s m args below meth c s₁ B hml hv
  obtain ⟨ha, hP, hK, hN⟩ := hv
  have hx := B.exec
  have hb := B.bytes
  have hr := B.returns
  have hts := atoms_spec (ws := wsX3_isAlive) B.pre
  have hown : s.vm.findClass RX3 = some m.cls := findClass_of_methodNamed B.named
  have hlocks := B.notSynchronized
  have in_X3 : ∀ w ∈ u_ws RX3 TX3 11, w ∈ wsX3_isAlive := fun w h => List.mem_cons_of_mem _ (List.mem_append_right _ h)
  have g_21 := hts (Cond.fieldLink RX3 21 "DaysLent$Ledger" "alive" "I") (by decide +kernel)
  have w_isIn_60 : va_CN rm_Led_isAlive s args RX3 60 yX9_isIn "DaysLent" cX9_isIn 2 (some .boolean) wsX9_isIn rm_X_isIn 0 0 2 ∧ (Cond.static yX9_isIn).before args s = true ∧ True := ⟨va_cnB (R := rm_Led_isAlive) (s := s) (args := args) (rm := rm_X_isIn) (mc := 0) (ms := 0) 2 hts gX3_isAlive_X9_isIn_n60 rfl rfl rfl hN.1 (hts (.initialized RX9) (by decide +kernel)) (by decide +kernel) ⟨Nat.le_of_ble_eq_true rfl, Nat.le_of_ble_eq_true rfl⟩, hts (.static yX9_isIn) (by decide +kernel), trivial⟩
  have hl := lv_entry ([.ref o_g, .int x1]) (n := 2) (Nat.le_of_ble_eq_true rfl)
  rw [show entryFrame m args 2 = entryFrame m ([.ref o_g, .int x1] : List Value).toArray 2 from by rw [ha], lg_entry_eq]
  generalize (lg_sl ([.ref o_g, .int x1]) ++ List.replicate (2 - (lg_sl ([.ref o_g, .int x1])).length) Slot.unset).toArray = ls at hl ⊢
  generalize hQ : MQ below (vp_Si (fun r => r = out)) args s 0 0 (fun _ => False) = Q
  have hret : ∀ (v : Int32) (pc : Nat) (ls : Array Slot), narrow .boolean (.int v) = .int v → some v = some out → decode cX3_isAlive pc = .ok (.ireturn, 1) → W p l e rm_Led_isAlive s m args below meth c s.heap [] 0 0 Q (F0 m pc ls [.int v]) := by
    intro v pc ls hz hf hd
    rw [← hQ]
    exact W.zret (v := v) hx hb hr hz (fun t ht hW => ⟨v, rfl, Option.some.inj hf, ht⟩) (fun q h => by cases h) hd
  exact v_Led_isAlive hf hx hb hml hown hts in_X3 g_21 w_isIn_60 hP hK hN hret ls hl
def Led_isBroken (f : Nat) (x1 : Int32) (I_g : FI) (V_g : FV) : Option (Int32) := ob1 (X_isIn f (I_g 4) x1) (fun zr1 => if zr1 &&& 1 = zr1 then some zr1 else none)
abbrev rm_Led_isBroken : Room := { frames := 1, cells := 0, slots := 0, locals := 21 }
set_option maxHeartbeats 4000000 in
set_option maxRecDepth 100000 in
theorem v_Led_isBroken {l : Launch} {p : Program} {e : Env} {s : State} {m : MethodId} {args : Array Value} {below : List Frame} {meth : Method} {c : Code} {Q : State → Prop} {D : va_G} {cs : Nat → ClassId} {o_g : Nat} {h_g : Nat → Nat} {I_g : FI} {V_g : FV} {x1 : Int32} {f : Nat} {out : Int32} (hf : Led_isBroken f x1 I_g V_g = some out) (hx : p.tables.exec = Jvm.exec) (hb : c.code = cX3_isBroken) (hml : c.maxLocals = 2) (hown : s.vm.findClass RX3 = some m.cls) (hts : ∀ w ∈ wsX3_isBroken, w.before args s = true) (in_X3 : ∀ w ∈ u_ws RX3 TX3 11, w ∈ wsX3_isBroken) (g_24 : (Cond.fieldLink RX3 24 "DaysLent$Ledger" "broken" "I").before args s = true) (w_isIn_60 : va_CN rm_Led_isBroken s args RX3 60 yX9_isIn "DaysLent" cX9_isIn 2 (some .boolean) wsX9_isIn rm_X_isIn 0 0 2 ∧ (Cond.static yX9_isIn).before args s = true ∧ True) (hP : va_P D vwCl (List.flatten [(w_Led cs o_g h_g I_g V_g)]) s.heap) (hK : va_K D vwCl (tyA cs) s) (hN : yN s) (hret : ∀ (v : Int32) (pc : Nat) (ls : Array Slot), narrow .boolean (.int v) = .int v → some v = some out → decode cX3_isBroken pc = .ok (.ireturn, 1) → W p l e rm_Led_isBroken s m args below meth c s.heap [] 0 0 Q (F0 m pc ls [.int v])) : ∀ ls : Array Slot, lv_has ls 2 [(0, .ref o_g), (1, .int x1)] → W p l e rm_Led_isBroken s m args below meth c s.heap [] 0 0 Q (F0 m 0 ls []) := by
  intro ls hl
  unfold Led_isBroken at hf
  refine lv_aload_n hx hb dX3_isBroken_0 rfl (lv_at hl 0 rfl) ?_
  refine va_get (D := D) (ci := 3) (v := .int (I_g 4)) (C := RX3) (T := TX3) (N := 11) hx hb hts in_X3 hown hK hP 0 rfl rfl 4 (by decide) g_24 (fun _ h9 => h9) rfl dX3_isBroken_1 ?_
  refine lv_iload_n hx hb dX3_isBroken_4 rfl (lv_at hl 1 rfl) ?_
  obtain ⟨zr1, qr1, hf⟩ := bd1 hf
  refine vp_callSi (va_Run.run (va_runSN (As := [.int (I_g 4), .int x1]) (rest := []) ⟨hx, hb, hml, hown, hts⟩ (c_X_isIn l (I_g 4) x1 f zr1 qr1) w_isIn_60 ⟨fun a U g mk q => q, fun U hU hW => ⟨rfl, trivial⟩⟩ rfl rfl hl.1 rfl (lv_room (Nat.le_of_ble_eq_true rfl)) dX3_isBroken_5 ⟨Nat.zero_le _, Nat.zero_le _⟩)) (fun r1 er1 => ?_)
  rw [er1]
  obtain ⟨c8, hf⟩ := gp hf
  exact hret zr1 8 _ (by show Value.int (zr1 &&& 1) = .int zr1; rw [c8]) hf dX3_isBroken_8
set_option maxHeartbeats 4000000 in
set_option maxRecDepth 100000 in
theorem c_Led_isBroken (l : Launch) (D : va_G) (cs : Nat → ClassId) (o_g : Nat) (h_g : Nat → Nat) (I_g : FI) (V_g : FV) (x1 : Int32) (f : Nat) (out : Int32) (hf : Led_isBroken f x1 I_g V_g = some out) : Met l yX3_isBroken wsX3_isBroken rm_Led_isBroken (va_Pc [.ref o_g, .int x1] (yR D cs (List.flatten [(w_Led cs o_g h_g I_g V_g)]))) (vp_Si (fun r => r = out)) 0 0 (fun _ => False) := by
  refine Met.ofW (cc := cX3_isBroken) (maxL := 2) (ret := (some .boolean)) (by decide) rfl ?_
  intro p e s m args below meth c s₁ B hml hv
  obtain ⟨ha, hP, hK, hN⟩ := hv
  have hx := B.exec
  have hb := B.bytes
  have hr := B.returns
  have hts := atoms_spec (ws := wsX3_isBroken) B.pre
  have hown : s.vm.findClass RX3 = some m.cls := findClass_of_methodNamed B.named
  have hlocks := B.notSynchronized
  have in_X3 : ∀ w ∈ u_ws RX3 TX3 11, w ∈ wsX3_isBroken := fun w h => List.mem_cons_of_mem _ (List.mem_append_right _ h)
  have g_24 := hts (Cond.fieldLink RX3 24 "DaysLent$Ledger" "broken" "I") (by decide +kernel)
  have w_isIn_60 : va_CN rm_Led_isBroken s args RX3 60 yX9_isIn "DaysLent" cX9_isIn 2 (some .boolean) wsX9_isIn rm_X_isIn 0 0 2 ∧ (Cond.static yX9_isIn).before args s = true ∧ True := ⟨va_cnB (R := rm_Led_isBroken) (s := s) (args := args) (rm := rm_X_isIn) (mc := 0) (ms := 0) 2 hts gX3_isBroken_X9_isIn_n60 rfl rfl rfl hN.1 (hts (.initialized RX9) (by decide +kernel)) (by decide +kernel) ⟨Nat.le_of_ble_eq_true rfl, Nat.le_of_ble_eq_true rfl⟩, hts (.static yX9_isIn) (by decide +kernel), trivial⟩
  have hl := lv_entry ([.ref o_g, .int x1]) (n := 2) (Nat.le_of_ble_eq_true rfl)
  rw [show entryFrame m args 2 = entryFrame m ([.ref o_g, .int x1] : List Value).toArray 2 from by rw [ha], lg_entry_eq]
  generalize (lg_sl ([.ref o_g, .int x1]) ++ List.replicate (2 - (lg_sl ([.ref o_g, .int x1])).length) Slot.unset).toArray = ls at hl ⊢
  generalize hQ : MQ below (vp_Si (fun r => r = out)) args s 0 0 (fun _ => False) = Q
  have hret : ∀ (v : Int32) (pc : Nat) (ls : Array Slot), narrow .boolean (.int v) = .int v → some v = some out → decode cX3_isBroken pc = .ok (.ireturn, 1) → W p l e rm_Led_isBroken s m args below meth c s.heap [] 0 0 Q (F0 m pc ls [.int v]) := by
    intro v pc ls hz hf hd
    rw [← hQ]
    exact W.zret (v := v) hx hb hr hz (fun t ht hW => ⟨v, rfl, Option.some.inj hf, ht⟩) (fun q h => by cases h) hd
  exact v_Led_isBroken hf hx hb hml hown hts in_X3 g_24 w_isIn_60 hP hK hN hret ls hl
def Led_allMornings_L4 {ρ : Type} (f : Nat) (I_g : FI) (V_g : FV) (k_4 : Int32 → Option ρ) : Nat → Int32 → Int32 → Option ρ
  | 0, _, _ => none
  | n_4 + 1, x1_4, x2_4 => (if (I_g 0) ≤ x2_4 then (k_4 x1_4) else if x2_4 < 0 ∨ 6 ≤ x2_4.toNatClampNeg then none else (nm (x1_4 + ((V_g 5) x2_4.toNatClampNeg)) (fun y1 => (Led_allMornings_L4 f I_g V_g k_4 n_4 y1 (x2_4 + 1)))))
def Led_allMornings (f : Nat) (I_g : FI) (V_g : FV) : Option (Int32) := (Led_allMornings_L4 f I_g V_g (fun (x1_4 : Int32) => some x1_4) f 0 0)
abbrev rm_Led_allMornings : Room := { frames := 0, cells := 0, slots := 0, locals := 0 }
set_option maxHeartbeats 4000000 in
set_option maxRecDepth 100000 in
theorem v_Led_allMornings {l : Launch} {p : Program} {e : Env} {s : State} {m : MethodId} {args : Array Value} {below : List Frame} {meth : Method} {c : Code} {Q : State → Prop} {D : va_G} {cs : Nat → ClassId} {o_g : Nat} {h_g : Nat → Nat} {I_g : FI} {V_g : FV} {f : Nat} {out : Int32} (hf : Led_allMornings f I_g V_g = some out) (hx : p.tables.exec = Jvm.exec) (hb : c.code = cX3_allMornings) (hml : c.maxLocals = 3) (hown : s.vm.findClass RX3 = some m.cls) (hts : ∀ w ∈ wsX3_allMornings, w.before args s = true) (in_X3 : ∀ w ∈ u_ws RX3 TX3 11, w ∈ wsX3_allMornings) (g_9 : (Cond.fieldLink RX3 9 "DaysLent$Ledger" "people" "I").before args s = true) (g_27 : (Cond.fieldLink RX3 27 "DaysLent$Ledger" "mornings" "[I").before args s = true) (hP : va_P D vwCl (List.flatten [(w_Led cs o_g h_g I_g V_g)]) s.heap) (hK : va_K D vwCl (tyA cs) s) (hN : yN s) (hret : ∀ (v : Int32) (pc : Nat) (ls : Array Slot), some v = some out → decode cX3_allMornings pc = .ok (.ireturn, 1) → W p l e rm_Led_allMornings s m args below meth c s.heap [] 0 0 Q (F0 m pc ls [.int v])) : ∀ ls : Array Slot, lv_has ls 3 [(0, .ref o_g)] → W p l e rm_Led_allMornings s m args below meth c s.heap [] 0 0 Q (F0 m 0 ls []) := by
  intro ls hl
  unfold Led_allMornings at hf
  refine lv_iconst (v := 0) hx hb dX3_allMornings_0 (by decide) ?_
  refine lv_istore_n (lv' := [(1, .int 0), (0, .ref o_g)]) hx hb dX3_allMornings_1 rfl hl (by decide) rfl (fun ls hl => ?_)
  refine lv_iconst (v := 0) hx hb dX3_allMornings_2 (by decide) ?_
  refine lv_istore_n (lv' := [(2, .int 0), (1, .int 0), (0, .ref o_g)]) hx hb dX3_allMornings_3 rfl hl (by decide) rfl (fun ls hl => ?_)
  have L4 : ∀ (k_4 : Int32 → Option (Int32)) (hk_4 : ∀ (x1_4 : Int32), k_4 x1_4 = some out → ∀ ls : Array Slot, lv_has ls 3 [(1, .int x1_4)] → W p l e rm_Led_allMornings s m args below meth c s.heap [] 0 0 Q (F0 m 27 ls [])), ∀ (n_4 : Nat) (x1_4 : Int32) (x2_4 : Int32), Led_allMornings_L4 f I_g V_g k_4 n_4 x1_4 x2_4 = some out → ∀ ls : Array Slot, lv_has ls 3 [(0, .ref o_g), (1, .int x1_4), (2, .int x2_4)] → W p l e rm_Led_allMornings s m args below meth c s.heap [] 0 0 Q (F0 m 4 ls []) := by
    intro k_4 hk_4 n_4
    induction n_4 with
    | zero => intro x1_4 x2_4 hf; rw [Led_allMornings_L4] at hf; cases hf
    | succ n_4 ih_4 =>
      intro x1_4 x2_4 hf ls hl
      rw [Led_allMornings_L4] at hf
      refine lv_iload_n hx hb dX3_allMornings_4 rfl (lv_at hl 2 rfl) ?_
      refine lv_aload_n hx hb dX3_allMornings_5 rfl (lv_at hl 0 rfl) ?_
      refine va_get (D := D) (ci := 3) (v := .int (I_g 0)) (C := RX3) (T := TX3) (N := 11) hx hb hts in_X3 hown hK hP 0 rfl rfl 0 (by decide) g_9 (fun _ h9 => h9) rfl dX3_allMornings_6 ?_
      refine lv_icmp_ge (tgt := 27) hx hb dX3_allMornings_9 (by decide) (fun c9 => ?_) (fun c9 => ?_)
      · replace hf := ip c9 hf
        exact hk_4 x1_4 hf _ (lv_sub hl [1] rfl)
      · replace hf := im c9 hf
        refine lv_iload_n hx hb dX3_allMornings_12 rfl (lv_at hl 1 rfl) ?_
        refine lv_aload_n hx hb dX3_allMornings_13 rfl (lv_at hl 0 rfl) ?_
        refine va_get (D := D) (ci := 3) (v := .ref (h_g 5)) (C := RX3) (T := TX3) (N := 11) hx hb hts in_X3 hown hK hP 0 rfl rfl 5 (by decide) g_27 (fun _ h9 => h9) rfl dX3_allMornings_14 ?_
        refine lv_iload_n hx hb dX3_allMornings_17 rfl (lv_at hl 2 rfl) ?_
        obtain ⟨c18, hf⟩ := gd hf
        refine va_iald (f := (V_g 5)) hx hb hK hP 1 0 rfl rfl c18 dX3_allMornings_18 ?_
        refine lv_iadd hx hb dX3_allMornings_19 ?_
        refine lv_topi (fun y1 ey1 => ?_)
        replace hf := nmd hf ey1
        refine lv_istore_n (lv' := [(1, .int y1), (0, .ref o_g), (2, .int x2_4)]) hx hb dX3_allMornings_20 rfl hl (by decide) rfl (fun ls hl => ?_)
        refine lv_iinc (v := (x2_4 + 1)) (lv' := [(2, .int (x2_4 + 1)), (1, .int y1), (0, .ref o_g)]) hx hb dX3_allMornings_21 hl (k := 2) rfl (by rfl) (by decide) rfl (fun ls hl => ?_)
        refine lv_goto (tgt := 4) hx hb dX3_allMornings_24 (by decide) ?_
        exact ih_4 y1 (x2_4 + 1) hf _ (lv_sub hl [2, 1, 0] rfl)
  refine L4 _ (fun x1_4 hf ls hl => ?_) f 0 0 hf _ (lv_sub hl [2, 1, 0] rfl)
  refine lv_iload_n hx hb dX3_allMornings_27 rfl (lv_at hl 0 rfl) ?_
  exact hret x1_4 28 _ hf dX3_allMornings_28
set_option maxHeartbeats 4000000 in
set_option maxRecDepth 100000 in
theorem c_Led_allMornings (l : Launch) (D : va_G) (cs : Nat → ClassId) (o_g : Nat) (h_g : Nat → Nat) (I_g : FI) (V_g : FV) (f : Nat) (out : Int32) (hf : Led_allMornings f I_g V_g = some out) : Met l yX3_allMornings wsX3_allMornings rm_Led_allMornings (va_Pc [.ref o_g] (yR D cs (List.flatten [(w_Led cs o_g h_g I_g V_g)]))) (vp_Si (fun r => r = out)) 0 0 (fun _ => False) := by
  refine Met.ofW (cc := cX3_allMornings) (maxL := 3) (ret := (some .int)) (by decide) rfl ?_
  intro p e s m args below meth c s₁ B hml hv
  obtain ⟨ha, hP, hK, hN⟩ := hv
  have hx := B.exec
  have hb := B.bytes
  have hr := B.returns
  have hts := atoms_spec (ws := wsX3_allMornings) B.pre
  have hown : s.vm.findClass RX3 = some m.cls := findClass_of_methodNamed B.named
  have hlocks := B.notSynchronized
  have in_X3 : ∀ w ∈ u_ws RX3 TX3 11, w ∈ wsX3_allMornings := fun w h => List.mem_cons_of_mem _ (List.mem_append_right _ h)
  have g_9 := hts (Cond.fieldLink RX3 9 "DaysLent$Ledger" "people" "I") (by decide +kernel)
  have g_27 := hts (Cond.fieldLink RX3 27 "DaysLent$Ledger" "mornings" "[I") (by decide +kernel)
  have hl := lv_entry ([.ref o_g]) (n := 3) (Nat.le_of_ble_eq_true rfl)
  rw [show entryFrame m args 3 = entryFrame m ([.ref o_g] : List Value).toArray 3 from by rw [ha], lg_entry_eq]
  generalize (lg_sl ([.ref o_g]) ++ List.replicate (3 - (lg_sl ([.ref o_g])).length) Slot.unset).toArray = ls at hl ⊢
  generalize hQ : MQ below (vp_Si (fun r => r = out)) args s 0 0 (fun _ => False) = Q
  have hret : ∀ (v : Int32) (pc : Nat) (ls : Array Slot), some v = some out → decode cX3_allMornings pc = .ok (.ireturn, 1) → W p l e rm_Led_allMornings s m args below meth c s.heap [] 0 0 Q (F0 m pc ls [.int v]) := by
    intro v pc ls hf hd
    rw [← hQ]
    exact W.iret (v := v) hx hb hr (fun t ht hW => ⟨v, rfl, Option.some.inj hf, ht⟩) (fun q h => by cases h) hd
  exact v_Led_allMornings hf hx hb hml hown hts in_X3 g_9 g_27 hP hK hN hret ls hl
def Led_allOwed_L4 {ρ : Type} (f : Nat) (I_g : FI) (V_g : FV) (k_4 : Int32 → Option ρ) : Nat → Int32 → Int32 → Option ρ
  | 0, _, _ => none
  | n_4 + 1, x1_4, x2_4 => (if (I_g 1) ≤ x2_4 then (k_4 x1_4) else if x2_4 < 0 ∨ 12 ≤ x2_4.toNatClampNeg then none else (nm (x1_4 + ((V_g 9) x2_4.toNatClampNeg)) (fun y1 => (Led_allOwed_L4 f I_g V_g k_4 n_4 y1 (x2_4 + 1)))))
def Led_allOwed (f : Nat) (I_g : FI) (V_g : FV) : Option (Int32) := (Led_allOwed_L4 f I_g V_g (fun (x1_4 : Int32) => some x1_4) f 0 0)
abbrev rm_Led_allOwed : Room := { frames := 0, cells := 0, slots := 0, locals := 0 }
set_option maxHeartbeats 4000000 in
set_option maxRecDepth 100000 in
theorem v_Led_allOwed {l : Launch} {p : Program} {e : Env} {s : State} {m : MethodId} {args : Array Value} {below : List Frame} {meth : Method} {c : Code} {Q : State → Prop} {D : va_G} {cs : Nat → ClassId} {o_g : Nat} {h_g : Nat → Nat} {I_g : FI} {V_g : FV} {f : Nat} {out : Int32} (hf : Led_allOwed f I_g V_g = some out) (hx : p.tables.exec = Jvm.exec) (hb : c.code = cX3_allOwed) (hml : c.maxLocals = 3) (hown : s.vm.findClass RX3 = some m.cls) (hts : ∀ w ∈ wsX3_allOwed, w.before args s = true) (in_X3 : ∀ w ∈ u_ws RX3 TX3 11, w ∈ wsX3_allOwed) (g_15 : (Cond.fieldLink RX3 15 "DaysLent$Ledger" "debts" "I").before args s = true) (g_40 : (Cond.fieldLink RX3 40 "DaysLent$Ledger" "amount" "[I").before args s = true) (hP : va_P D vwCl (List.flatten [(w_Led cs o_g h_g I_g V_g)]) s.heap) (hK : va_K D vwCl (tyA cs) s) (hN : yN s) (hret : ∀ (v : Int32) (pc : Nat) (ls : Array Slot), some v = some out → decode cX3_allOwed pc = .ok (.ireturn, 1) → W p l e rm_Led_allOwed s m args below meth c s.heap [] 0 0 Q (F0 m pc ls [.int v])) : ∀ ls : Array Slot, lv_has ls 3 [(0, .ref o_g)] → W p l e rm_Led_allOwed s m args below meth c s.heap [] 0 0 Q (F0 m 0 ls []) := by
  intro ls hl
  unfold Led_allOwed at hf
  refine lv_iconst (v := 0) hx hb dX3_allOwed_0 (by decide) ?_
  refine lv_istore_n (lv' := [(1, .int 0), (0, .ref o_g)]) hx hb dX3_allOwed_1 rfl hl (by decide) rfl (fun ls hl => ?_)
  refine lv_iconst (v := 0) hx hb dX3_allOwed_2 (by decide) ?_
  refine lv_istore_n (lv' := [(2, .int 0), (1, .int 0), (0, .ref o_g)]) hx hb dX3_allOwed_3 rfl hl (by decide) rfl (fun ls hl => ?_)
  have L4 : ∀ (k_4 : Int32 → Option (Int32)) (hk_4 : ∀ (x1_4 : Int32), k_4 x1_4 = some out → ∀ ls : Array Slot, lv_has ls 3 [(1, .int x1_4)] → W p l e rm_Led_allOwed s m args below meth c s.heap [] 0 0 Q (F0 m 27 ls [])), ∀ (n_4 : Nat) (x1_4 : Int32) (x2_4 : Int32), Led_allOwed_L4 f I_g V_g k_4 n_4 x1_4 x2_4 = some out → ∀ ls : Array Slot, lv_has ls 3 [(0, .ref o_g), (1, .int x1_4), (2, .int x2_4)] → W p l e rm_Led_allOwed s m args below meth c s.heap [] 0 0 Q (F0 m 4 ls []) := by
    intro k_4 hk_4 n_4
    induction n_4 with
    | zero => intro x1_4 x2_4 hf; rw [Led_allOwed_L4] at hf; cases hf
    | succ n_4 ih_4 =>
      intro x1_4 x2_4 hf ls hl
      rw [Led_allOwed_L4] at hf
      refine lv_iload_n hx hb dX3_allOwed_4 rfl (lv_at hl 2 rfl) ?_
      refine lv_aload_n hx hb dX3_allOwed_5 rfl (lv_at hl 0 rfl) ?_
      refine va_get (D := D) (ci := 3) (v := .int (I_g 1)) (C := RX3) (T := TX3) (N := 11) hx hb hts in_X3 hown hK hP 0 rfl rfl 1 (by decide) g_15 (fun _ h9 => h9) rfl dX3_allOwed_6 ?_
      refine lv_icmp_ge (tgt := 27) hx hb dX3_allOwed_9 (by decide) (fun c9 => ?_) (fun c9 => ?_)
      · replace hf := ip c9 hf
        exact hk_4 x1_4 hf _ (lv_sub hl [1] rfl)
      · replace hf := im c9 hf
        refine lv_iload_n hx hb dX3_allOwed_12 rfl (lv_at hl 1 rfl) ?_
        refine lv_aload_n hx hb dX3_allOwed_13 rfl (lv_at hl 0 rfl) ?_
        refine va_get (D := D) (ci := 3) (v := .ref (h_g 9)) (C := RX3) (T := TX3) (N := 11) hx hb hts in_X3 hown hK hP 0 rfl rfl 9 (by decide) g_40 (fun _ h9 => h9) rfl dX3_allOwed_14 ?_
        refine lv_iload_n hx hb dX3_allOwed_17 rfl (lv_at hl 2 rfl) ?_
        obtain ⟨c18, hf⟩ := gd hf
        refine va_iald (f := (V_g 9)) hx hb hK hP 5 0 rfl rfl c18 dX3_allOwed_18 ?_
        refine lv_iadd hx hb dX3_allOwed_19 ?_
        refine lv_topi (fun y1 ey1 => ?_)
        replace hf := nmd hf ey1
        refine lv_istore_n (lv' := [(1, .int y1), (0, .ref o_g), (2, .int x2_4)]) hx hb dX3_allOwed_20 rfl hl (by decide) rfl (fun ls hl => ?_)
        refine lv_iinc (v := (x2_4 + 1)) (lv' := [(2, .int (x2_4 + 1)), (1, .int y1), (0, .ref o_g)]) hx hb dX3_allOwed_21 hl (k := 2) rfl (by rfl) (by decide) rfl (fun ls hl => ?_)
        refine lv_goto (tgt := 4) hx hb dX3_allOwed_24 (by decide) ?_
        exact ih_4 y1 (x2_4 + 1) hf _ (lv_sub hl [2, 1, 0] rfl)
  refine L4 _ (fun x1_4 hf ls hl => ?_) f 0 0 hf _ (lv_sub hl [2, 1, 0] rfl)
  refine lv_iload_n hx hb dX3_allOwed_27 rfl (lv_at hl 0 rfl) ?_
  exact hret x1_4 28 _ hf dX3_allOwed_28
set_option maxHeartbeats 4000000 in
set_option maxRecDepth 100000 in
theorem c_Led_allOwed (l : Launch) (D : va_G) (cs : Nat → ClassId) (o_g : Nat) (h_g : Nat → Nat) (I_g : FI) (V_g : FV) (f : Nat) (out : Int32) (hf : Led_allOwed f I_g V_g = some out) : Met l yX3_allOwed wsX3_allOwed rm_Led_allOwed (va_Pc [.ref o_g] (yR D cs (List.flatten [(w_Led cs o_g h_g I_g V_g)]))) (vp_Si (fun r => r = out)) 0 0 (fun _ => False) := by
  refine Met.ofW (cc := cX3_allOwed) (maxL := 3) (ret := (some .int)) (by decide) rfl ?_
  intro p e s m args below meth c s₁ B hml hv
  obtain ⟨ha, hP, hK, hN⟩ := hv
  have hx := B.exec
  have hb := B.bytes
  have hr := B.returns
  have hts := atoms_spec (ws := wsX3_allOwed) B.pre
  have hown : s.vm.findClass RX3 = some m.cls := findClass_of_methodNamed B.named
  have hlocks := B.notSynchronized
  have in_X3 : ∀ w ∈ u_ws RX3 TX3 11, w ∈ wsX3_allOwed := fun w h => List.mem_cons_of_mem _ (List.mem_append_right _ h)
  have g_15 := hts (Cond.fieldLink RX3 15 "DaysLent$Ledger" "debts" "I") (by decide +kernel)
  have g_40 := hts (Cond.fieldLink RX3 40 "DaysLent$Ledger" "amount" "[I") (by decide +kernel)
  have hl := lv_entry ([.ref o_g]) (n := 3) (Nat.le_of_ble_eq_true rfl)
  rw [show entryFrame m args 3 = entryFrame m ([.ref o_g] : List Value).toArray 3 from by rw [ha], lg_entry_eq]
  generalize (lg_sl ([.ref o_g]) ++ List.replicate (3 - (lg_sl ([.ref o_g])).length) Slot.unset).toArray = ls at hl ⊢
  generalize hQ : MQ below (vp_Si (fun r => r = out)) args s 0 0 (fun _ => False) = Q
  have hret : ∀ (v : Int32) (pc : Nat) (ls : Array Slot), some v = some out → decode cX3_allOwed pc = .ok (.ireturn, 1) → W p l e rm_Led_allOwed s m args below meth c s.heap [] 0 0 Q (F0 m pc ls [.int v]) := by
    intro v pc ls hf hd
    rw [← hQ]
    exact W.iret (v := v) hx hb hr (fun t ht hW => ⟨v, rfl, Option.some.inj hf, ht⟩) (fun q h => by cases h) hd
  exact v_Led_allOwed hf hx hb hml hown hts in_X3 g_15 g_40 hP hK hN hret ls hl
def Led_owedBy_L4 {ρ : Type} (f : Nat) (I_g : FI) (V_g : FV) (x1 : Int32) (k_4 : Int32 → Option ρ) : Nat → Int32 → Int32 → Option ρ
  | 0, _, _ => none
  | n_4 + 1, x2_4, x3_4 => (if (I_g 1) ≤ x3_4 then (k_4 x2_4) else if x3_4 < 0 ∨ 12 ≤ x3_4.toNatClampNeg then none else ((nm (fun (x2_31 : Int32) => (Led_owedBy_L4 f I_g V_g x1 k_4 n_4 x2_31 (x3_4 + 1))) (fun j31 => (if ((V_g 8) x3_4.toNatClampNeg) = x1 then if x3_4 < 0 ∨ 12 ≤ x3_4.toNatClampNeg then none else (nm (x2_4 + ((V_g 9) x3_4.toNatClampNeg)) (fun y1 => (j31 y1))) else (j31 x2_4))))))
def Led_owedBy (f : Nat) (x1 : Int32) (I_g : FI) (V_g : FV) : Option (Int32) := (Led_owedBy_L4 f I_g V_g x1 (fun (x2_4 : Int32) => some x2_4) f 0 0)
abbrev rm_Led_owedBy : Room := { frames := 0, cells := 0, slots := 0, locals := 0 }
set_option maxHeartbeats 4000000 in
set_option maxRecDepth 100000 in
theorem v_Led_owedBy {l : Launch} {p : Program} {e : Env} {s : State} {m : MethodId} {args : Array Value} {below : List Frame} {meth : Method} {c : Code} {Q : State → Prop} {D : va_G} {cs : Nat → ClassId} {o_g : Nat} {h_g : Nat → Nat} {I_g : FI} {V_g : FV} {x1 : Int32} {f : Nat} {out : Int32} (hf : Led_owedBy f x1 I_g V_g = some out) (hx : p.tables.exec = Jvm.exec) (hb : c.code = cX3_owedBy) (hml : c.maxLocals = 4) (hown : s.vm.findClass RX3 = some m.cls) (hts : ∀ w ∈ wsX3_owedBy, w.before args s = true) (in_X3 : ∀ w ∈ u_ws RX3 TX3 11, w ∈ wsX3_owedBy) (g_15 : (Cond.fieldLink RX3 15 "DaysLent$Ledger" "debts" "I").before args s = true) (g_37 : (Cond.fieldLink RX3 37 "DaysLent$Ledger" "debtor" "[I").before args s = true) (g_40 : (Cond.fieldLink RX3 40 "DaysLent$Ledger" "amount" "[I").before args s = true) (hP : va_P D vwCl (List.flatten [(w_Led cs o_g h_g I_g V_g)]) s.heap) (hK : va_K D vwCl (tyA cs) s) (hN : yN s) (hret : ∀ (v : Int32) (pc : Nat) (ls : Array Slot), some v = some out → decode cX3_owedBy pc = .ok (.ireturn, 1) → W p l e rm_Led_owedBy s m args below meth c s.heap [] 0 0 Q (F0 m pc ls [.int v])) : ∀ ls : Array Slot, lv_has ls 4 [(0, .ref o_g), (1, .int x1)] → W p l e rm_Led_owedBy s m args below meth c s.heap [] 0 0 Q (F0 m 0 ls []) := by
  intro ls hl
  unfold Led_owedBy at hf
  refine lv_iconst (v := 0) hx hb dX3_owedBy_0 (by decide) ?_
  refine lv_istore_n (lv' := [(2, .int 0), (0, .ref o_g), (1, .int x1)]) hx hb dX3_owedBy_1 rfl hl (by decide) rfl (fun ls hl => ?_)
  refine lv_iconst (v := 0) hx hb dX3_owedBy_2 (by decide) ?_
  refine lv_istore_n (lv' := [(3, .int 0), (2, .int 0), (0, .ref o_g), (1, .int x1)]) hx hb dX3_owedBy_3 rfl hl (by decide) rfl (fun ls hl => ?_)
  have L4 : ∀ (k_4 : Int32 → Option (Int32)) (hk_4 : ∀ (x2_4 : Int32), k_4 x2_4 = some out → ∀ ls : Array Slot, lv_has ls 4 [(2, .int x2_4)] → W p l e rm_Led_owedBy s m args below meth c s.heap [] 0 0 Q (F0 m 37 ls [])), ∀ (n_4 : Nat) (x2_4 : Int32) (x3_4 : Int32), Led_owedBy_L4 f I_g V_g x1 k_4 n_4 x2_4 x3_4 = some out → ∀ ls : Array Slot, lv_has ls 4 [(0, .ref o_g), (1, .int x1), (2, .int x2_4), (3, .int x3_4)] → W p l e rm_Led_owedBy s m args below meth c s.heap [] 0 0 Q (F0 m 4 ls []) := by
    intro k_4 hk_4 n_4
    induction n_4 with
    | zero => intro x2_4 x3_4 hf; rw [Led_owedBy_L4] at hf; cases hf
    | succ n_4 ih_4 =>
      intro x2_4 x3_4 hf ls hl
      rw [Led_owedBy_L4] at hf
      refine lv_iload_n hx hb dX3_owedBy_4 rfl (lv_at hl 3 rfl) ?_
      refine lv_aload_n hx hb dX3_owedBy_5 rfl (lv_at hl 0 rfl) ?_
      refine va_get (D := D) (ci := 3) (v := .int (I_g 1)) (C := RX3) (T := TX3) (N := 11) hx hb hts in_X3 hown hK hP 0 rfl rfl 1 (by decide) g_15 (fun _ h9 => h9) rfl dX3_owedBy_6 ?_
      refine lv_icmp_ge (tgt := 37) hx hb dX3_owedBy_9 (by decide) (fun c9 => ?_) (fun c9 => ?_)
      · replace hf := ip c9 hf
        exact hk_4 x2_4 hf _ (lv_sub hl [2] rfl)
      · replace hf := im c9 hf
        refine lv_aload_n hx hb dX3_owedBy_12 rfl (lv_at hl 0 rfl) ?_
        refine va_get (D := D) (ci := 3) (v := .ref (h_g 8)) (C := RX3) (T := TX3) (N := 11) hx hb hts in_X3 hown hK hP 0 rfl rfl 8 (by decide) g_37 (fun _ h9 => h9) rfl dX3_owedBy_13 ?_
        refine lv_iload_n hx hb dX3_owedBy_16 rfl (lv_at hl 3 rfl) ?_
        obtain ⟨c17, hf⟩ := gd hf
        refine va_iald (f := (V_g 8)) hx hb hK hP 4 0 rfl rfl c17 dX3_owedBy_17 ?_
        refine lv_iload_n hx hb dX3_owedBy_18 rfl (lv_at hl 1 rfl) ?_
        obtain ⟨j31, ej31, hf⟩ := nme hf
        have J31 : ∀ (x2_31 : Int32), j31 x2_31 = some out → ∀ ls : Array Slot, lv_has ls 4 [(0, .ref o_g), (1, .int x1), (2, .int x2_31), (3, .int x3_4)] → W p l e rm_Led_owedBy s m args below meth c s.heap [] 0 0 Q (F0 m 31 ls []) := by
          intro x2_31 hf ls hl
          rw [ej31] at hf
          refine lv_iinc (v := (x3_4 + 1)) (lv' := [(3, .int (x3_4 + 1)), (0, .ref o_g), (1, .int x1), (2, .int x2_31)]) hx hb dX3_owedBy_31 hl (k := 3) rfl (by rfl) (by decide) rfl (fun ls hl => ?_)
          refine lv_goto (tgt := 4) hx hb dX3_owedBy_34 (by decide) ?_
          exact ih_4 x2_31 (x3_4 + 1) hf _ (lv_sub hl [1, 2, 3, 0] rfl)
        refine lv_icmp_ne (tgt := 31) hx hb dX3_owedBy_19 (by decide) (fun c19 => ?_) (fun c19 => ?_)
        · replace hf := im c19 hf
          exact J31 x2_4 hf _ (lv_sub hl [0, 1, 2, 3] rfl)
        · replace hf := ip c19 hf
          refine lv_iload_n hx hb dX3_owedBy_22 rfl (lv_at hl 2 rfl) ?_
          refine lv_aload_n hx hb dX3_owedBy_23 rfl (lv_at hl 0 rfl) ?_
          refine va_get (D := D) (ci := 3) (v := .ref (h_g 9)) (C := RX3) (T := TX3) (N := 11) hx hb hts in_X3 hown hK hP 0 rfl rfl 9 (by decide) g_40 (fun _ h9 => h9) rfl dX3_owedBy_24 ?_
          refine lv_iload_n hx hb dX3_owedBy_27 rfl (lv_at hl 3 rfl) ?_
          obtain ⟨c28, hf⟩ := gd hf
          refine va_iald (f := (V_g 9)) hx hb hK hP 5 0 rfl rfl c28 dX3_owedBy_28 ?_
          refine lv_iadd hx hb dX3_owedBy_29 ?_
          refine lv_topi (fun y1 ey1 => ?_)
          replace hf := nmd hf ey1
          refine lv_istore_n (lv' := [(2, .int y1), (0, .ref o_g), (1, .int x1), (3, .int x3_4)]) hx hb dX3_owedBy_30 rfl hl (by decide) rfl (fun ls hl => ?_)
          exact J31 y1 hf _ (lv_sub hl [1, 2, 0, 3] rfl)
  refine L4 _ (fun x2_4 hf ls hl => ?_) f 0 0 hf _ (lv_sub hl [2, 3, 1, 0] rfl)
  refine lv_iload_n hx hb dX3_owedBy_37 rfl (lv_at hl 0 rfl) ?_
  exact hret x2_4 38 _ hf dX3_owedBy_38
set_option maxHeartbeats 4000000 in
set_option maxRecDepth 100000 in
theorem c_Led_owedBy (l : Launch) (D : va_G) (cs : Nat → ClassId) (o_g : Nat) (h_g : Nat → Nat) (I_g : FI) (V_g : FV) (x1 : Int32) (f : Nat) (out : Int32) (hf : Led_owedBy f x1 I_g V_g = some out) : Met l yX3_owedBy wsX3_owedBy rm_Led_owedBy (va_Pc [.ref o_g, .int x1] (yR D cs (List.flatten [(w_Led cs o_g h_g I_g V_g)]))) (vp_Si (fun r => r = out)) 0 0 (fun _ => False) := by
  refine Met.ofW (cc := cX3_owedBy) (maxL := 4) (ret := (some .int)) (by decide) rfl ?_
  intro p e s m args below meth c s₁ B hml hv
  obtain ⟨ha, hP, hK, hN⟩ := hv
  have hx := B.exec
  have hb := B.bytes
  have hr := B.returns
  have hts := atoms_spec (ws := wsX3_owedBy) B.pre
  have hown : s.vm.findClass RX3 = some m.cls := findClass_of_methodNamed B.named
  have hlocks := B.notSynchronized
  have in_X3 : ∀ w ∈ u_ws RX3 TX3 11, w ∈ wsX3_owedBy := fun w h => List.mem_cons_of_mem _ (List.mem_append_right _ h)
  have g_15 := hts (Cond.fieldLink RX3 15 "DaysLent$Ledger" "debts" "I") (by decide +kernel)
  have g_37 := hts (Cond.fieldLink RX3 37 "DaysLent$Ledger" "debtor" "[I") (by decide +kernel)
  have g_40 := hts (Cond.fieldLink RX3 40 "DaysLent$Ledger" "amount" "[I") (by decide +kernel)
  have hl := lv_entry ([.ref o_g, .int x1]) (n := 4) (Nat.le_of_ble_eq_true rfl)
  rw [show entryFrame m args 4 = entryFrame m ([.ref o_g, .int x1] : List Value).toArray 4 from by rw [ha], lg_entry_eq]
  generalize (lg_sl ([.ref o_g, .int x1]) ++ List.replicate (4 - (lg_sl ([.ref o_g, .int x1])).length) Slot.unset).toArray = ls at hl ⊢
  generalize hQ : MQ below (vp_Si (fun r => r = out)) args s 0 0 (fun _ => False) = Q
  have hret : ∀ (v : Int32) (pc : Nat) (ls : Array Slot), some v = some out → decode cX3_owedBy pc = .ok (.ireturn, 1) → W p l e rm_Led_owedBy s m args below meth c s.heap [] 0 0 Q (F0 m pc ls [.int v]) := by
    intro v pc ls hf hd
    rw [← hQ]
    exact W.iret (v := v) hx hb hr (fun t ht hW => ⟨v, rfl, Option.some.inj hf, ht⟩) (fun q h => by cases h) hd
  exact v_Led_owedBy hf hx hb hml hown hts in_X3 g_15 g_37 g_40 hP hK hN hret ls hl
def Led_owedTo_L4 {ρ : Type} (f : Nat) (I_g : FI) (V_g : FV) (x1 : Int32) (k_4 : Int32 → Option ρ) : Nat → Int32 → Int32 → Option ρ
  | 0, _, _ => none
  | n_4 + 1, x2_4, x3_4 => (if (I_g 1) ≤ x3_4 then (k_4 x2_4) else if x3_4 < 0 ∨ 12 ≤ x3_4.toNatClampNeg then none else ((nm (fun (x2_31 : Int32) => (Led_owedTo_L4 f I_g V_g x1 k_4 n_4 x2_31 (x3_4 + 1))) (fun j31 => (if ((V_g 7) x3_4.toNatClampNeg) = x1 then if x3_4 < 0 ∨ 12 ≤ x3_4.toNatClampNeg then none else (nm (x2_4 + ((V_g 9) x3_4.toNatClampNeg)) (fun y1 => (j31 y1))) else (j31 x2_4))))))
def Led_owedTo (f : Nat) (x1 : Int32) (I_g : FI) (V_g : FV) : Option (Int32) := (Led_owedTo_L4 f I_g V_g x1 (fun (x2_4 : Int32) => some x2_4) f 0 0)
abbrev rm_Led_owedTo : Room := { frames := 0, cells := 0, slots := 0, locals := 0 }
set_option maxHeartbeats 4000000 in
set_option maxRecDepth 100000 in
theorem v_Led_owedTo {l : Launch} {p : Program} {e : Env} {s : State} {m : MethodId} {args : Array Value} {below : List Frame} {meth : Method} {c : Code} {Q : State → Prop} {D : va_G} {cs : Nat → ClassId} {o_g : Nat} {h_g : Nat → Nat} {I_g : FI} {V_g : FV} {x1 : Int32} {f : Nat} {out : Int32} (hf : Led_owedTo f x1 I_g V_g = some out) (hx : p.tables.exec = Jvm.exec) (hb : c.code = cX3_owedTo) (hml : c.maxLocals = 4) (hown : s.vm.findClass RX3 = some m.cls) (hts : ∀ w ∈ wsX3_owedTo, w.before args s = true) (in_X3 : ∀ w ∈ u_ws RX3 TX3 11, w ∈ wsX3_owedTo) (g_15 : (Cond.fieldLink RX3 15 "DaysLent$Ledger" "debts" "I").before args s = true) (g_34 : (Cond.fieldLink RX3 34 "DaysLent$Ledger" "creditor" "[I").before args s = true) (g_40 : (Cond.fieldLink RX3 40 "DaysLent$Ledger" "amount" "[I").before args s = true) (hP : va_P D vwCl (List.flatten [(w_Led cs o_g h_g I_g V_g)]) s.heap) (hK : va_K D vwCl (tyA cs) s) (hN : yN s) (hret : ∀ (v : Int32) (pc : Nat) (ls : Array Slot), some v = some out → decode cX3_owedTo pc = .ok (.ireturn, 1) → W p l e rm_Led_owedTo s m args below meth c s.heap [] 0 0 Q (F0 m pc ls [.int v])) : ∀ ls : Array Slot, lv_has ls 4 [(0, .ref o_g), (1, .int x1)] → W p l e rm_Led_owedTo s m args below meth c s.heap [] 0 0 Q (F0 m 0 ls []) := by
  intro ls hl
  unfold Led_owedTo at hf
  refine lv_iconst (v := 0) hx hb dX3_owedTo_0 (by decide) ?_
  refine lv_istore_n (lv' := [(2, .int 0), (0, .ref o_g), (1, .int x1)]) hx hb dX3_owedTo_1 rfl hl (by decide) rfl (fun ls hl => ?_)
  refine lv_iconst (v := 0) hx hb dX3_owedTo_2 (by decide) ?_
  refine lv_istore_n (lv' := [(3, .int 0), (2, .int 0), (0, .ref o_g), (1, .int x1)]) hx hb dX3_owedTo_3 rfl hl (by decide) rfl (fun ls hl => ?_)
  have L4 : ∀ (k_4 : Int32 → Option (Int32)) (hk_4 : ∀ (x2_4 : Int32), k_4 x2_4 = some out → ∀ ls : Array Slot, lv_has ls 4 [(2, .int x2_4)] → W p l e rm_Led_owedTo s m args below meth c s.heap [] 0 0 Q (F0 m 37 ls [])), ∀ (n_4 : Nat) (x2_4 : Int32) (x3_4 : Int32), Led_owedTo_L4 f I_g V_g x1 k_4 n_4 x2_4 x3_4 = some out → ∀ ls : Array Slot, lv_has ls 4 [(0, .ref o_g), (1, .int x1), (2, .int x2_4), (3, .int x3_4)] → W p l e rm_Led_owedTo s m args below meth c s.heap [] 0 0 Q (F0 m 4 ls []) := by
    intro k_4 hk_4 n_4
    induction n_4 with
    | zero => intro x2_4 x3_4 hf; rw [Led_owedTo_L4] at hf; cases hf
    | succ n_4 ih_4 =>
      intro x2_4 x3_4 hf ls hl
      rw [Led_owedTo_L4] at hf
      refine lv_iload_n hx hb dX3_owedTo_4 rfl (lv_at hl 3 rfl) ?_
      refine lv_aload_n hx hb dX3_owedTo_5 rfl (lv_at hl 0 rfl) ?_
      refine va_get (D := D) (ci := 3) (v := .int (I_g 1)) (C := RX3) (T := TX3) (N := 11) hx hb hts in_X3 hown hK hP 0 rfl rfl 1 (by decide) g_15 (fun _ h9 => h9) rfl dX3_owedTo_6 ?_
      refine lv_icmp_ge (tgt := 37) hx hb dX3_owedTo_9 (by decide) (fun c9 => ?_) (fun c9 => ?_)
      · replace hf := ip c9 hf
        exact hk_4 x2_4 hf _ (lv_sub hl [2] rfl)
      · replace hf := im c9 hf
        refine lv_aload_n hx hb dX3_owedTo_12 rfl (lv_at hl 0 rfl) ?_
        refine va_get (D := D) (ci := 3) (v := .ref (h_g 7)) (C := RX3) (T := TX3) (N := 11) hx hb hts in_X3 hown hK hP 0 rfl rfl 7 (by decide) g_34 (fun _ h9 => h9) rfl dX3_owedTo_13 ?_
        refine lv_iload_n hx hb dX3_owedTo_16 rfl (lv_at hl 3 rfl) ?_
        obtain ⟨c17, hf⟩ := gd hf
        refine va_iald (f := (V_g 7)) hx hb hK hP 3 0 rfl rfl c17 dX3_owedTo_17 ?_
        refine lv_iload_n hx hb dX3_owedTo_18 rfl (lv_at hl 1 rfl) ?_
        obtain ⟨j31, ej31, hf⟩ := nme hf
        have J31 : ∀ (x2_31 : Int32), j31 x2_31 = some out → ∀ ls : Array Slot, lv_has ls 4 [(0, .ref o_g), (1, .int x1), (2, .int x2_31), (3, .int x3_4)] → W p l e rm_Led_owedTo s m args below meth c s.heap [] 0 0 Q (F0 m 31 ls []) := by
          intro x2_31 hf ls hl
          rw [ej31] at hf
          refine lv_iinc (v := (x3_4 + 1)) (lv' := [(3, .int (x3_4 + 1)), (0, .ref o_g), (1, .int x1), (2, .int x2_31)]) hx hb dX3_owedTo_31 hl (k := 3) rfl (by rfl) (by decide) rfl (fun ls hl => ?_)
          refine lv_goto (tgt := 4) hx hb dX3_owedTo_34 (by decide) ?_
          exact ih_4 x2_31 (x3_4 + 1) hf _ (lv_sub hl [1, 2, 3, 0] rfl)
        refine lv_icmp_ne (tgt := 31) hx hb dX3_owedTo_19 (by decide) (fun c19 => ?_) (fun c19 => ?_)
        · replace hf := im c19 hf
          exact J31 x2_4 hf _ (lv_sub hl [0, 1, 2, 3] rfl)
        · replace hf := ip c19 hf
          refine lv_iload_n hx hb dX3_owedTo_22 rfl (lv_at hl 2 rfl) ?_
          refine lv_aload_n hx hb dX3_owedTo_23 rfl (lv_at hl 0 rfl) ?_
          refine va_get (D := D) (ci := 3) (v := .ref (h_g 9)) (C := RX3) (T := TX3) (N := 11) hx hb hts in_X3 hown hK hP 0 rfl rfl 9 (by decide) g_40 (fun _ h9 => h9) rfl dX3_owedTo_24 ?_
          refine lv_iload_n hx hb dX3_owedTo_27 rfl (lv_at hl 3 rfl) ?_
          obtain ⟨c28, hf⟩ := gd hf
          refine va_iald (f := (V_g 9)) hx hb hK hP 5 0 rfl rfl c28 dX3_owedTo_28 ?_
          refine lv_iadd hx hb dX3_owedTo_29 ?_
          refine lv_topi (fun y1 ey1 => ?_)
          replace hf := nmd hf ey1
          refine lv_istore_n (lv' := [(2, .int y1), (0, .ref o_g), (1, .int x1), (3, .int x3_4)]) hx hb dX3_owedTo_30 rfl hl (by decide) rfl (fun ls hl => ?_)
          exact J31 y1 hf _ (lv_sub hl [1, 2, 0, 3] rfl)
  refine L4 _ (fun x2_4 hf ls hl => ?_) f 0 0 hf _ (lv_sub hl [2, 3, 1, 0] rfl)
  refine lv_iload_n hx hb dX3_owedTo_37 rfl (lv_at hl 0 rfl) ?_
  exact hret x2_4 38 _ hf dX3_owedTo_38
set_option maxHeartbeats 4000000 in
set_option maxRecDepth 100000 in
theorem c_Led_owedTo (l : Launch) (D : va_G) (cs : Nat → ClassId) (o_g : Nat) (h_g : Nat → Nat) (I_g : FI) (V_g : FV) (x1 : Int32) (f : Nat) (out : Int32) (hf : Led_owedTo f x1 I_g V_g = some out) : Met l yX3_owedTo wsX3_owedTo rm_Led_owedTo (va_Pc [.ref o_g, .int x1] (yR D cs (List.flatten [(w_Led cs o_g h_g I_g V_g)]))) (vp_Si (fun r => r = out)) 0 0 (fun _ => False) := by
  refine Met.ofW (cc := cX3_owedTo) (maxL := 4) (ret := (some .int)) (by decide) rfl ?_
  intro p e s m args below meth c s₁ B hml hv
  obtain ⟨ha, hP, hK, hN⟩ := hv
  have hx := B.exec
  have hb := B.bytes
  have hr := B.returns
  have hts := atoms_spec (ws := wsX3_owedTo) B.pre
  have hown : s.vm.findClass RX3 = some m.cls := findClass_of_methodNamed B.named
  have hlocks := B.notSynchronized
  have in_X3 : ∀ w ∈ u_ws RX3 TX3 11, w ∈ wsX3_owedTo := fun w h => List.mem_cons_of_mem _ (List.mem_append_right _ h)
  have g_15 := hts (Cond.fieldLink RX3 15 "DaysLent$Ledger" "debts" "I") (by decide +kernel)
  have g_34 := hts (Cond.fieldLink RX3 34 "DaysLent$Ledger" "creditor" "[I") (by decide +kernel)
  have g_40 := hts (Cond.fieldLink RX3 40 "DaysLent$Ledger" "amount" "[I") (by decide +kernel)
  have hl := lv_entry ([.ref o_g, .int x1]) (n := 4) (Nat.le_of_ble_eq_true rfl)
  rw [show entryFrame m args 4 = entryFrame m ([.ref o_g, .int x1] : List Value).toArray 4 from by rw [ha], lg_entry_eq]
  generalize (lg_sl ([.ref o_g, .int x1]) ++ List.replicate (4 - (lg_sl ([.ref o_g, .int x1])).length) Slot.unset).toArray = ls at hl ⊢
  generalize hQ : MQ below (vp_Si (fun r => r = out)) args s 0 0 (fun _ => False) = Q
  have hret : ∀ (v : Int32) (pc : Nat) (ls : Array Slot), some v = some out → decode cX3_owedTo pc = .ok (.ireturn, 1) → W p l e rm_Led_owedTo s m args below meth c s.heap [] 0 0 Q (F0 m pc ls [.int v]) := by
    intro v pc ls hf hd
    rw [← hQ]
    exact W.iret (v := v) hx hb hr (fun t ht hW => ⟨v, rfl, Option.some.inj hf, ht⟩) (fun q h => by cases h) hd
  exact v_Led_owedTo hf hx hb hml hown hts in_X3 g_15 g_34 g_40 hP hK hN hret ls hl
def Led_netOf (f : Nat) (x1 : Int32) (I_g : FI) (V_g : FV) : Option (Int32) := ob1 (Led_owedTo f x1 I_g V_g) (fun zr1 => ob1 (Led_owedBy f x1 I_g V_g) (fun zr2 => some (zr1 - zr2)))
abbrev rm_Led_netOf : Room := { frames := 1, cells := 0, slots := 0, locals := 23 }
set_option maxHeartbeats 4000000 in
set_option maxRecDepth 100000 in
theorem v_Led_netOf {l : Launch} {p : Program} {e : Env} {s : State} {m : MethodId} {args : Array Value} {below : List Frame} {meth : Method} {c : Code} {Q : State → Prop} {D : va_G} {cs : Nat → ClassId} {o_g : Nat} {h_g : Nat → Nat} {I_g : FI} {V_g : FV} {x1 : Int32} {f : Nat} {out : Int32} (hf : Led_netOf f x1 I_g V_g = some out) (hx : p.tables.exec = Jvm.exec) (hb : c.code = cX3_netOf) (hml : c.maxLocals = 2) (hown : s.vm.findClass RX3 = some m.cls) (hts : ∀ w ∈ wsX3_netOf, w.before args s = true) (in_X3 : ∀ w ∈ u_ws RX3 TX3 11, w ∈ wsX3_netOf) (w_owedTo_64 : CallW rm_Led_netOf s args RX3 RX3 64 yX3_owedTo cX3_owedTo 4 (some .int) wsX3_owedTo rm_Led_owedTo 0 0 1) (w_owedBy_68 : CallW rm_Led_netOf s args RX3 RX3 68 yX3_owedBy cX3_owedBy 4 (some .int) wsX3_owedBy rm_Led_owedBy 0 0 1) (hP : va_P D vwCl (List.flatten [(w_Led cs o_g h_g I_g V_g)]) s.heap) (hK : va_K D vwCl (tyA cs) s) (hN : yN s) (hret : ∀ (v : Int32) (pc : Nat) (ls : Array Slot), some v = some out → decode cX3_netOf pc = .ok (.ireturn, 1) → W p l e rm_Led_netOf s m args below meth c s.heap [] 0 0 Q (F0 m pc ls [.int v])) : ∀ ls : Array Slot, lv_has ls 2 [(0, .ref o_g), (1, .int x1)] → W p l e rm_Led_netOf s m args below meth c s.heap [] 0 0 Q (F0 m 0 ls []) := by
  intro ls hl
  unfold Led_netOf at hf
  refine lv_aload_n hx hb dX3_netOf_0 rfl (lv_at hl 0 rfl) ?_
  refine lv_iload_n hx hb dX3_netOf_1 rfl (lv_at hl 1 rfl) ?_
  obtain ⟨zr1, qr1, hf⟩ := bd1 hf
  refine vp_callSi (va_Run.run (va_runV (As := [.int x1]) (rest := []) ⟨hx, hb, hml, hown, hts⟩ (c_Led_owedTo l D cs o_g h_g I_g V_g x1 f zr1 qr1) w_owedTo_64 ⟨yR_moved, va_recv hK hP (ci := 3) (q0 := 0) rfl rfl, fun U hU hW => ⟨rfl, by rw [hU]; exact hP, va_K.moved hW.alike hK, yN_warm hW hN⟩⟩ rfl rfl hl.1 rfl (lv_room (Nat.le_of_ble_eq_true rfl)) dX3_netOf_2 ⟨Nat.zero_le _, Nat.zero_le _⟩)) (fun r1 er1 => ?_)
  rw [er1]
  refine lv_aload_n hx hb dX3_netOf_5 rfl (lv_at hl 0 rfl) ?_
  refine lv_iload_n hx hb dX3_netOf_6 rfl (lv_at hl 1 rfl) ?_
  obtain ⟨zr2, qr2, hf⟩ := bd1 hf
  refine vp_callSi (va_Run.run (va_runV (As := [.int x1]) (rest := [.int zr1]) ⟨hx, hb, hml, hown, hts⟩ (c_Led_owedBy l D cs o_g h_g I_g V_g x1 f zr2 qr2) w_owedBy_68 ⟨yR_moved, va_recv hK hP (ci := 3) (q0 := 0) rfl rfl, fun U hU hW => ⟨rfl, by rw [hU]; exact hP, va_K.moved hW.alike hK, yN_warm hW hN⟩⟩ rfl rfl hl.1 rfl (lv_room (Nat.le_of_ble_eq_true rfl)) dX3_netOf_7 ⟨Nat.zero_le _, Nat.zero_le _⟩)) (fun r2 er2 => ?_)
  rw [er2]
  refine lv_isub hx hb dX3_netOf_10 ?_
  exact hret (zr1 - zr2) 11 _ hf dX3_netOf_11
set_option maxHeartbeats 4000000 in
set_option maxRecDepth 100000 in
theorem c_Led_netOf (l : Launch) (D : va_G) (cs : Nat → ClassId) (o_g : Nat) (h_g : Nat → Nat) (I_g : FI) (V_g : FV) (x1 : Int32) (f : Nat) (out : Int32) (hf : Led_netOf f x1 I_g V_g = some out) : Met l yX3_netOf wsX3_netOf rm_Led_netOf (va_Pc [.ref o_g, .int x1] (yR D cs (List.flatten [(w_Led cs o_g h_g I_g V_g)]))) (vp_Si (fun r => r = out)) 0 0 (fun _ => False) := by
  refine Met.ofW (cc := cX3_netOf) (maxL := 2) (ret := (some .int)) (by decide) rfl ?_
  intro p e s m args below meth c s₁ B hml hv
  obtain ⟨ha, hP, hK, hN⟩ := hv
  have hx := B.exec
  have hb := B.bytes
  have hr := B.returns
  have hts := atoms_spec (ws := wsX3_netOf) B.pre
  have hown : s.vm.findClass RX3 = some m.cls := findClass_of_methodNamed B.named
  have hlocks := B.notSynchronized
  have in_X3 : ∀ w ∈ u_ws RX3 TX3 11, w ∈ wsX3_netOf := fun w h => List.mem_cons_of_mem _ (List.mem_append_right _ h)
  have w_owedTo_64 := cwV (R := rm_Led_netOf) (s := s) (args := args) (rm := rm_Led_owedTo) (mc := 0) (ms := 0) 1 hts gX3_netOf_X3_owedTo rfl rfl rfl (by decide +kernel) ⟨Nat.le_of_ble_eq_true rfl, Nat.le_of_ble_eq_true rfl⟩
  have w_owedBy_68 := cwV (R := rm_Led_netOf) (s := s) (args := args) (rm := rm_Led_owedBy) (mc := 0) (ms := 0) 1 hts gX3_netOf_X3_owedBy rfl rfl rfl (by decide +kernel) ⟨Nat.le_of_ble_eq_true rfl, Nat.le_of_ble_eq_true rfl⟩
  have hl := lv_entry ([.ref o_g, .int x1]) (n := 2) (Nat.le_of_ble_eq_true rfl)
  rw [show entryFrame m args 2 = entryFrame m ([.ref o_g, .int x1] : List Value).toArray 2 from by rw [ha], lg_entry_eq]
  generalize (lg_sl ([.ref o_g, .int x1]) ++ List.replicate (2 - (lg_sl ([.ref o_g, .int x1])).length) Slot.unset).toArray = ls at hl ⊢
  generalize hQ : MQ below (vp_Si (fun r => r = out)) args s 0 0 (fun _ => False) = Q
  have hret : ∀ (v : Int32) (pc : Nat) (ls : Array Slot), some v = some out → decode cX3_netOf pc = .ok (.ireturn, 1) → W p l e rm_Led_netOf s m args below meth c s.heap [] 0 0 Q (F0 m pc ls [.int v]) := by
    intro v pc ls hf hd
    rw [← hQ]
    exact W.iret (v := v) hx hb hr (fun t ht hW => ⟨v, rfl, Option.some.inj hf, ht⟩) (fun q h => by cases h) hd
  exact v_Led_netOf hf hx hb hml hown hts in_X3 w_owedTo_64 w_owedBy_68 hP hK hN hret ls hl
def Led_loanWithAsked (f : Nat) (x1 : Int32) (x2 : Int32) (I_g : FI) (V_g : FV) : Option (Int32) := if x1 < 0 ∨ 6 ≤ x1.toNatClampNeg then none else (ob1 (X_askedFor f x2 ((V_g 6) x1.toNatClampNeg)) (fun zr1 => some (x2 + zr1)))
abbrev rm_Led_loanWithAsked : Room := { frames := 1, cells := 0, slots := 0, locals := 21 }
set_option maxHeartbeats 4000000 in
set_option maxRecDepth 100000 in
theorem v_Led_loanWithAsked {l : Launch} {p : Program} {e : Env} {s : State} {m : MethodId} {args : Array Value} {below : List Frame} {meth : Method} {c : Code} {Q : State → Prop} {D : va_G} {cs : Nat → ClassId} {o_g : Nat} {h_g : Nat → Nat} {I_g : FI} {V_g : FV} {x1 : Int32} {x2 : Int32} {f : Nat} {out : Int32} (hf : Led_loanWithAsked f x1 x2 I_g V_g = some out) (hx : p.tables.exec = Jvm.exec) (hb : c.code = cX3_loanWithAsked) (hml : c.maxLocals = 3) (hown : s.vm.findClass RX3 = some m.cls) (hts : ∀ w ∈ wsX3_loanWithAsked, w.before args s = true) (in_X3 : ∀ w ∈ u_ws RX3 TX3 11, w ∈ wsX3_loanWithAsked) (g_31 : (Cond.fieldLink RX3 31 "DaysLent$Ledger" "asks" "[I").before args s = true) (w_askedFor_81 : va_CN rm_Led_loanWithAsked s args RX3 81 yX9_askedFor "DaysLent" cX9_askedFor 2 (some .int) wsX9_askedFor rm_X_askedFor 0 0 2 ∧ (Cond.static yX9_askedFor).before args s = true ∧ True) (hP : va_P D vwCl (List.flatten [(w_Led cs o_g h_g I_g V_g)]) s.heap) (hK : va_K D vwCl (tyA cs) s) (hN : yN s) (hret : ∀ (v : Int32) (pc : Nat) (ls : Array Slot), some v = some out → decode cX3_loanWithAsked pc = .ok (.ireturn, 1) → W p l e rm_Led_loanWithAsked s m args below meth c s.heap [] 0 0 Q (F0 m pc ls [.int v])) : ∀ ls : Array Slot, lv_has ls 3 [(0, .ref o_g), (1, .int x1), (2, .int x2)] → W p l e rm_Led_loanWithAsked s m args below meth c s.heap [] 0 0 Q (F0 m 0 ls []) := by
  intro ls hl
  unfold Led_loanWithAsked at hf
  refine lv_iload_n hx hb dX3_loanWithAsked_0 rfl (lv_at hl 2 rfl) ?_
  refine lv_iload_n hx hb dX3_loanWithAsked_1 rfl (lv_at hl 2 rfl) ?_
  refine lv_aload_n hx hb dX3_loanWithAsked_2 rfl (lv_at hl 0 rfl) ?_
  refine va_get (D := D) (ci := 3) (v := .ref (h_g 6)) (C := RX3) (T := TX3) (N := 11) hx hb hts in_X3 hown hK hP 0 rfl rfl 6 (by decide) g_31 (fun _ h9 => h9) rfl dX3_loanWithAsked_3 ?_
  refine lv_iload_n hx hb dX3_loanWithAsked_6 rfl (lv_at hl 1 rfl) ?_
  obtain ⟨c7, hf⟩ := gd hf
  refine va_iald (f := (V_g 6)) hx hb hK hP 2 0 rfl rfl c7 dX3_loanWithAsked_7 ?_
  obtain ⟨zr1, qr1, hf⟩ := bd1 hf
  refine vp_callSi (va_Run.run (va_runSN (As := [.int x2, .int ((V_g 6) x1.toNatClampNeg)]) (rest := [.int x2]) ⟨hx, hb, hml, hown, hts⟩ (c_X_askedFor l x2 ((V_g 6) x1.toNatClampNeg) f zr1 qr1) w_askedFor_81 ⟨fun a U g mk q => q, fun U hU hW => ⟨rfl, trivial⟩⟩ rfl rfl hl.1 rfl (lv_room (Nat.le_of_ble_eq_true rfl)) dX3_loanWithAsked_8 ⟨Nat.zero_le _, Nat.zero_le _⟩)) (fun r1 er1 => ?_)
  rw [er1]
  refine lv_iadd hx hb dX3_loanWithAsked_11 ?_
  exact hret (x2 + zr1) 12 _ hf dX3_loanWithAsked_12
set_option maxHeartbeats 4000000 in
set_option maxRecDepth 100000 in
theorem c_Led_loanWithAsked (l : Launch) (D : va_G) (cs : Nat → ClassId) (o_g : Nat) (h_g : Nat → Nat) (I_g : FI) (V_g : FV) (x1 : Int32) (x2 : Int32) (f : Nat) (out : Int32) (hf : Led_loanWithAsked f x1 x2 I_g V_g = some out) : Met l yX3_loanWithAsked wsX3_loanWithAsked rm_Led_loanWithAsked (va_Pc [.ref o_g, .int x1, .int x2] (yR D cs (List.flatten [(w_Led cs o_g h_g I_g V_g)]))) (vp_Si (fun r => r = out)) 0 0 (fun _ => False) := by
  refine Met.ofW (cc := cX3_loanWithAsked) (maxL := 3) (ret := (some .int)) (by decide) rfl ?_
  intro p e s m args below meth c s₁ B hml hv
  obtain ⟨ha, hP, hK, hN⟩ := hv
  have hx := B.exec
  have hb := B.bytes
  have hr := B.returns
  have hts := atoms_spec (ws := wsX3_loanWithAsked) B.pre
  have hown : s.vm.findClass RX3 = some m.cls := findClass_of_methodNamed B.named
  have hlocks := B.notSynchronized
  have in_X3 : ∀ w ∈ u_ws RX3 TX3 11, w ∈ wsX3_loanWithAsked := fun w h => List.mem_cons_of_mem _ (List.mem_append_right _ h)
  have g_31 := hts (Cond.fieldLink RX3 31 "DaysLent$Ledger" "asks" "[I") (by decide +kernel)
  have w_askedFor_81 : va_CN rm_Led_loanWithAsked s args RX3 81 yX9_askedFor "DaysLent" cX9_askedFor 2 (some .int) wsX9_askedFor rm_X_askedFor 0 0 2 ∧ (Cond.static yX9_askedFor).before args s = true ∧ True := ⟨va_cnB (R := rm_Led_loanWithAsked) (s := s) (args := args) (rm := rm_X_askedFor) (mc := 0) (ms := 0) 2 hts gX3_loanWithAsked_X9_askedFor_n81 rfl rfl rfl hN.2.1 (hts (.initialized RX9) (by decide +kernel)) (by decide +kernel) ⟨Nat.le_of_ble_eq_true rfl, Nat.le_of_ble_eq_true rfl⟩, hts (.static yX9_askedFor) (by decide +kernel), trivial⟩
  have hl := lv_entry ([.ref o_g, .int x1, .int x2]) (n := 3) (Nat.le_of_ble_eq_true rfl)
  rw [show entryFrame m args 3 = entryFrame m ([.ref o_g, .int x1, .int x2] : List Value).toArray 3 from by rw [ha], lg_entry_eq]
  generalize (lg_sl ([.ref o_g, .int x1, .int x2]) ++ List.replicate (3 - (lg_sl ([.ref o_g, .int x1, .int x2])).length) Slot.unset).toArray = ls at hl ⊢
  generalize hQ : MQ below (vp_Si (fun r => r = out)) args s 0 0 (fun _ => False) = Q
  have hret : ∀ (v : Int32) (pc : Nat) (ls : Array Slot), some v = some out → decode cX3_loanWithAsked pc = .ok (.ireturn, 1) → W p l e rm_Led_loanWithAsked s m args below meth c s.heap [] 0 0 Q (F0 m pc ls [.int v]) := by
    intro v pc ls hf hd
    rw [← hQ]
    exact W.iret (v := v) hx hb hr (fun t ht hW => ⟨v, rfl, Option.some.inj hf, ht⟩) (fun q h => by cases h) hd
  exact v_Led_loanWithAsked hf hx hb hml hown hts in_X3 g_31 w_askedFor_81 hP hK hN hret ls hl
def Led_mayLend (f : Nat) (x1 : Int32) (x2 : Int32) (x3 : Int32) (I_g : FI) (V_g : FV) : Option (Int32) := if x1 < 0 ∨ 6 ≤ x1.toNatClampNeg then none else ((if ((V_g 5) x1.toNatClampNeg) < x3 then some 0 else ob1 (Led_isAlive f x1 I_g V_g) (fun zr1 => (if zr1 = 0 then some 0 else ob1 (Led_isAlive f x2 I_g V_g) (fun zr2 => (if zr2 = 0 then some 0 else ob1 (Led_isBroken f x2 I_g V_g) (fun zr3 => (if zr3 = 0 then ob1 (Led_owedBy f x2 I_g V_g) (fun zr4 => ob1 (Led_loanWithAsked f x1 x3 I_g V_g) (fun zr5 => (if 80 < (zr4 + zr5) then some 0 else some 1))) else some 0))))))))
abbrev rm_Led_mayLend : Room := { frames := 2, cells := 0, slots := 0, locals := 43 }
set_option maxHeartbeats 4000000 in
set_option maxRecDepth 100000 in
theorem v_Led_mayLend {l : Launch} {p : Program} {e : Env} {s : State} {m : MethodId} {args : Array Value} {below : List Frame} {meth : Method} {c : Code} {Q : State → Prop} {D : va_G} {cs : Nat → ClassId} {o_g : Nat} {h_g : Nat → Nat} {I_g : FI} {V_g : FV} {x1 : Int32} {x2 : Int32} {x3 : Int32} {f : Nat} {out : Int32} (hf : Led_mayLend f x1 x2 x3 I_g V_g = some out) (hx : p.tables.exec = Jvm.exec) (hb : c.code = cX3_mayLend) (hml : c.maxLocals = 4) (hown : s.vm.findClass RX3 = some m.cls) (hts : ∀ w ∈ wsX3_mayLend, w.before args s = true) (in_X3 : ∀ w ∈ u_ws RX3 TX3 11, w ∈ wsX3_mayLend) (g_27 : (Cond.fieldLink RX3 27 "DaysLent$Ledger" "mornings" "[I").before args s = true) (w_isAlive_71 : CallW rm_Led_mayLend s args RX3 RX3 71 yX3_isAlive cX3_isAlive 2 (some .boolean) wsX3_isAlive rm_Led_isAlive 0 0 1) (w_isBroken_74 : CallW rm_Led_mayLend s args RX3 RX3 74 yX3_isBroken cX3_isBroken 2 (some .boolean) wsX3_isBroken rm_Led_isBroken 0 0 1) (w_owedBy_68 : CallW rm_Led_mayLend s args RX3 RX3 68 yX3_owedBy cX3_owedBy 4 (some .int) wsX3_owedBy rm_Led_owedBy 0 0 1) (w_loanWithAsked_77 : CallW rm_Led_mayLend s args RX3 RX3 77 yX3_loanWithAsked cX3_loanWithAsked 3 (some .int) wsX3_loanWithAsked rm_Led_loanWithAsked 0 0 2) (hP : va_P D vwCl (List.flatten [(w_Led cs o_g h_g I_g V_g)]) s.heap) (hK : va_K D vwCl (tyA cs) s) (hN : yN s) (hret : ∀ (v : Int32) (pc : Nat) (ls : Array Slot), narrow .boolean (.int v) = .int v → some v = some out → decode cX3_mayLend pc = .ok (.ireturn, 1) → W p l e rm_Led_mayLend s m args below meth c s.heap [] 0 0 Q (F0 m pc ls [.int v])) : ∀ ls : Array Slot, lv_has ls 4 [(0, .ref o_g), (1, .int x1), (2, .int x2), (3, .int x3)] → W p l e rm_Led_mayLend s m args below meth c s.heap [] 0 0 Q (F0 m 0 ls []) := by
  intro ls hl
  unfold Led_mayLend at hf
  refine lv_aload_n hx hb dX3_mayLend_0 rfl (lv_at hl 0 rfl) ?_
  refine va_get (D := D) (ci := 3) (v := .ref (h_g 5)) (C := RX3) (T := TX3) (N := 11) hx hb hts in_X3 hown hK hP 0 rfl rfl 5 (by decide) g_27 (fun _ h9 => h9) rfl dX3_mayLend_1 ?_
  refine lv_iload_n hx hb dX3_mayLend_4 rfl (lv_at hl 1 rfl) ?_
  obtain ⟨c5, hf⟩ := gd hf
  refine va_iald (f := (V_g 5)) hx hb hK hP 1 0 rfl rfl c5 dX3_mayLend_5 ?_
  refine lv_iload_n hx hb dX3_mayLend_6 rfl (lv_at hl 3 rfl) ?_
  refine lv_icmp_lt (tgt := 55) hx hb dX3_mayLend_7 (by decide) (fun c7 => ?_) (fun c7 => ?_)
  · replace hf := ip c7 hf
    refine lv_iconst (v := 0) hx hb dX3_mayLend_55 (by decide) ?_
    exact hret 0 56 _ rfl hf dX3_mayLend_56
  · replace hf := im c7 hf
    refine lv_aload_n hx hb dX3_mayLend_10 rfl (lv_at hl 0 rfl) ?_
    refine lv_iload_n hx hb dX3_mayLend_11 rfl (lv_at hl 1 rfl) ?_
    obtain ⟨zr1, qr1, hf⟩ := bd1 hf
    refine vp_callSi (va_Run.run (va_runV (As := [.int x1]) (rest := []) ⟨hx, hb, hml, hown, hts⟩ (c_Led_isAlive l D cs o_g h_g I_g V_g x1 f zr1 qr1) w_isAlive_71 ⟨yR_moved, va_recv hK hP (ci := 3) (q0 := 0) rfl rfl, fun U hU hW => ⟨rfl, by rw [hU]; exact hP, va_K.moved hW.alike hK, yN_warm hW hN⟩⟩ rfl rfl hl.1 rfl (lv_room (Nat.le_of_ble_eq_true rfl)) dX3_mayLend_12 ⟨Nat.zero_le _, Nat.zero_le _⟩)) (fun r1 er1 => ?_)
    rw [er1]
    refine lv_if_eq (tgt := 55) hx hb dX3_mayLend_15 (by decide) (fun c15 => ?_) (fun c15 => ?_)
    · replace hf := ip c15 hf
      refine lv_iconst (v := 0) hx hb dX3_mayLend_55 (by decide) ?_
      exact hret 0 56 _ rfl hf dX3_mayLend_56
    · replace hf := im c15 hf
      refine lv_aload_n hx hb dX3_mayLend_18 rfl (lv_at hl 0 rfl) ?_
      refine lv_iload_n hx hb dX3_mayLend_19 rfl (lv_at hl 2 rfl) ?_
      obtain ⟨zr2, qr2, hf⟩ := bd1 hf
      refine vp_callSi (va_Run.run (va_runV (As := [.int x2]) (rest := []) ⟨hx, hb, hml, hown, hts⟩ (c_Led_isAlive l D cs o_g h_g I_g V_g x2 f zr2 qr2) w_isAlive_71 ⟨yR_moved, va_recv hK hP (ci := 3) (q0 := 0) rfl rfl, fun U hU hW => ⟨rfl, by rw [hU]; exact hP, va_K.moved hW.alike hK, yN_warm hW hN⟩⟩ rfl rfl hl.1 rfl (lv_room (Nat.le_of_ble_eq_true rfl)) dX3_mayLend_20 ⟨Nat.zero_le _, Nat.zero_le _⟩)) (fun r2 er2 => ?_)
      rw [er2]
      refine lv_if_eq (tgt := 55) hx hb dX3_mayLend_23 (by decide) (fun c23 => ?_) (fun c23 => ?_)
      · replace hf := ip c23 hf
        refine lv_iconst (v := 0) hx hb dX3_mayLend_55 (by decide) ?_
        exact hret 0 56 _ rfl hf dX3_mayLend_56
      · replace hf := im c23 hf
        refine lv_aload_n hx hb dX3_mayLend_26 rfl (lv_at hl 0 rfl) ?_
        refine lv_iload_n hx hb dX3_mayLend_27 rfl (lv_at hl 2 rfl) ?_
        obtain ⟨zr3, qr3, hf⟩ := bd1 hf
        refine vp_callSi (va_Run.run (va_runV (As := [.int x2]) (rest := []) ⟨hx, hb, hml, hown, hts⟩ (c_Led_isBroken l D cs o_g h_g I_g V_g x2 f zr3 qr3) w_isBroken_74 ⟨yR_moved, va_recv hK hP (ci := 3) (q0 := 0) rfl rfl, fun U hU hW => ⟨rfl, by rw [hU]; exact hP, va_K.moved hW.alike hK, yN_warm hW hN⟩⟩ rfl rfl hl.1 rfl (lv_room (Nat.le_of_ble_eq_true rfl)) dX3_mayLend_28 ⟨Nat.zero_le _, Nat.zero_le _⟩)) (fun r3 er3 => ?_)
        rw [er3]
        refine lv_if_ne (tgt := 55) hx hb dX3_mayLend_31 (by decide) (fun c31 => ?_) (fun c31 => ?_)
        · replace hf := im c31 hf
          refine lv_iconst (v := 0) hx hb dX3_mayLend_55 (by decide) ?_
          exact hret 0 56 _ rfl hf dX3_mayLend_56
        · replace hf := ip c31 hf
          refine lv_aload_n hx hb dX3_mayLend_34 rfl (lv_at hl 0 rfl) ?_
          refine lv_iload_n hx hb dX3_mayLend_35 rfl (lv_at hl 2 rfl) ?_
          obtain ⟨zr4, qr4, hf⟩ := bd1 hf
          refine vp_callSi (va_Run.run (va_runV (As := [.int x2]) (rest := []) ⟨hx, hb, hml, hown, hts⟩ (c_Led_owedBy l D cs o_g h_g I_g V_g x2 f zr4 qr4) w_owedBy_68 ⟨yR_moved, va_recv hK hP (ci := 3) (q0 := 0) rfl rfl, fun U hU hW => ⟨rfl, by rw [hU]; exact hP, va_K.moved hW.alike hK, yN_warm hW hN⟩⟩ rfl rfl hl.1 rfl (lv_room (Nat.le_of_ble_eq_true rfl)) dX3_mayLend_36 ⟨Nat.zero_le _, Nat.zero_le _⟩)) (fun r4 er4 => ?_)
          rw [er4]
          refine lv_aload_n hx hb dX3_mayLend_39 rfl (lv_at hl 0 rfl) ?_
          refine lv_iload_n hx hb dX3_mayLend_40 rfl (lv_at hl 1 rfl) ?_
          refine lv_iload_n hx hb dX3_mayLend_41 rfl (lv_at hl 3 rfl) ?_
          obtain ⟨zr5, qr5, hf⟩ := bd1 hf
          refine vp_callSi (va_Run.run (va_runV (As := [.int x1, .int x3]) (rest := [.int zr4]) ⟨hx, hb, hml, hown, hts⟩ (c_Led_loanWithAsked l D cs o_g h_g I_g V_g x1 x3 f zr5 qr5) w_loanWithAsked_77 ⟨yR_moved, va_recv hK hP (ci := 3) (q0 := 0) rfl rfl, fun U hU hW => ⟨rfl, by rw [hU]; exact hP, va_K.moved hW.alike hK, yN_warm hW hN⟩⟩ rfl rfl hl.1 rfl (lv_room (Nat.le_of_ble_eq_true rfl)) dX3_mayLend_42 ⟨Nat.zero_le _, Nat.zero_le _⟩)) (fun r5 er5 => ?_)
          rw [er5]
          refine lv_iadd hx hb dX3_mayLend_45 ?_
          refine lv_bipush (v := 80) hx hb dX3_mayLend_46 (by decide) ?_
          refine lv_icmp_gt (tgt := 55) hx hb dX3_mayLend_48 (by decide) (fun c48 => ?_) (fun c48 => ?_)
          · replace hf := ip c48 hf
            refine lv_iconst (v := 0) hx hb dX3_mayLend_55 (by decide) ?_
            exact hret 0 56 _ rfl hf dX3_mayLend_56
          · replace hf := im c48 hf
            refine lv_iconst (v := 1) hx hb dX3_mayLend_51 (by decide) ?_
            refine lv_goto (tgt := 56) hx hb dX3_mayLend_52 (by decide) ?_
            exact hret 1 56 _ rfl hf dX3_mayLend_56
set_option maxHeartbeats 4000000 in
set_option maxRecDepth 100000 in
theorem c_Led_mayLend (l : Launch) (D : va_G) (cs : Nat → ClassId) (o_g : Nat) (h_g : Nat → Nat) (I_g : FI) (V_g : FV) (x1 : Int32) (x2 : Int32) (x3 : Int32) (f : Nat) (out : Int32) (hf : Led_mayLend f x1 x2 x3 I_g V_g = some out) : Met l yX3_mayLend wsX3_mayLend rm_Led_mayLend (va_Pc [.ref o_g, .int x1, .int x2, .int x3] (yR D cs (List.flatten [(w_Led cs o_g h_g I_g V_g)]))) (vp_Si (fun r => r = out)) 0 0 (fun _ => False) := by
  refine Met.ofW (cc := cX3_mayLend) (maxL := 4) (ret := (some .boolean)) (by decide) rfl ?_
  intro p e s m args below meth c s₁ B hml hv
  obtain ⟨ha, hP, hK, hN⟩ := hv
  have hx := B.exec
  have hb := B.bytes
  have hr := B.returns
  have hts := atoms_spec (ws := wsX3_mayLend) B.pre
  have hown : s.vm.findClass RX3 = some m.cls := findClass_of_methodNamed B.named
  have hlocks := B.notSynchronized
  have in_X3 : ∀ w ∈ u_ws RX3 TX3 11, w ∈ wsX3_mayLend := fun w h => List.mem_cons_of_mem _ (List.mem_append_right _ h)
  have g_27 := hts (Cond.fieldLink RX3 27 "DaysLent$Ledger" "mornings" "[I") (by decide +kernel)
  have w_isAlive_71 := cwV (R := rm_Led_mayLend) (s := s) (args := args) (rm := rm_Led_isAlive) (mc := 0) (ms := 0) 1 hts gX3_mayLend_X3_isAlive rfl rfl rfl (by decide +kernel) ⟨Nat.le_of_ble_eq_true rfl, Nat.le_of_ble_eq_true rfl⟩
  have w_isBroken_74 := cwV (R := rm_Led_mayLend) (s := s) (args := args) (rm := rm_Led_isBroken) (mc := 0) (ms := 0) 1 hts gX3_mayLend_X3_isBroken rfl rfl rfl (by decide +kernel) ⟨Nat.le_of_ble_eq_true rfl, Nat.le_of_ble_eq_true rfl⟩
  have w_owedBy_68 := cwV (R := rm_Led_mayLend) (s := s) (args := args) (rm := rm_Led_owedBy) (mc := 0) (ms := 0) 1 hts gX3_mayLend_X3_owedBy rfl rfl rfl (by decide +kernel) ⟨Nat.le_of_ble_eq_true rfl, Nat.le_of_ble_eq_true rfl⟩
  have w_loanWithAsked_77 := cwV (R := rm_Led_mayLend) (s := s) (args := args) (rm := rm_Led_loanWithAsked) (mc := 0) (ms := 0) 2 hts gX3_mayLend_X3_loanWithAsked rfl rfl rfl (by decide +kernel) ⟨Nat.le_of_ble_eq_true rfl, Nat.le_of_ble_eq_true rfl⟩
  have hl := lv_entry ([.ref o_g, .int x1, .int x2, .int x3]) (n := 4) (Nat.le_of_ble_eq_true rfl)
  rw [show entryFrame m args 4 = entryFrame m ([.ref o_g, .int x1, .int x2, .int x3] : List Value).toArray 4 from by rw [ha], lg_entry_eq]
  generalize (lg_sl ([.ref o_g, .int x1, .int x2, .int x3]) ++ List.replicate (4 - (lg_sl ([.ref o_g, .int x1, .int x2, .int x3])).length) Slot.unset).toArray = ls at hl ⊢
  generalize hQ : MQ below (vp_Si (fun r => r = out)) args s 0 0 (fun _ => False) = Q
  have hret : ∀ (v : Int32) (pc : Nat) (ls : Array Slot), narrow .boolean (.int v) = .int v → some v = some out → decode cX3_mayLend pc = .ok (.ireturn, 1) → W p l e rm_Led_mayLend s m args below meth c s.heap [] 0 0 Q (F0 m pc ls [.int v]) := by
    intro v pc ls hz hf hd
    rw [← hQ]
    exact W.zret (v := v) hx hb hr hz (fun t ht hW => ⟨v, rfl, Option.some.inj hf, ht⟩) (fun q h => by cases h) hd
  exact v_Led_mayLend hf hx hb hml hown hts in_X3 g_27 w_isAlive_71 w_isBroken_74 w_owedBy_68 w_loanWithAsked_77 hP hK hN hret ls hl
def Led_giveAsLoan (f : Nat) (x1 : Int32) (x2 : Int32) (x3 : Int32) (x4 : Int32) (I_g : FI) (V_g : FV) : Option (Int32 × FI × FV) := ob1 (Led_loanWithAsked f x1 x3 I_g V_g) (fun zr1 => if x1 < 0 ∨ 6 ≤ x1.toNatClampNeg then none else (if x1 < 0 ∨ 6 ≤ x1.toNatClampNeg then none else (nm (va_up V_g 5 (upd (V_g 5) x1.toNatClampNeg (((V_g 5) x1.toNatClampNeg) - x3))) (fun V2 => if x2 < 0 ∨ 6 ≤ x2.toNatClampNeg then none else (if x2 < 0 ∨ 6 ≤ x2.toNatClampNeg then none else (nm (va_up V2 5 (upd (V2 5) x2.toNatClampNeg (((V2 5) x2.toNatClampNeg) + x3))) (fun V3 => ob2 (Led_addDebt f x1 x2 zr1 ((I_g 2) + x4) I_g V3) (fun I5 V6 => some (zr1, I5, V6)))))))))
abbrev rm_Led_giveAsLoan : Room := { frames := 2, cells := 0, slots := 0, locals := 45 }
set_option maxHeartbeats 4000000 in
set_option maxRecDepth 100000 in
theorem v_Led_giveAsLoan {l : Launch} {p : Program} {e : Env} {s : State} {m : MethodId} {args : Array Value} {below : List Frame} {meth : Method} {c : Code} {Q : State → Prop} {D : va_G} {cs : Nat → ClassId} {o_g : Nat} {h_g : Nat → Nat} {A : Nat → Prop} {I_g : FI} {V_g : FV} {x1 : Int32} {x2 : Int32} {x3 : Int32} {x4 : Int32} {f : Nat} {out : Int32 × FI × FV} (hf : Led_giveAsLoan f x1 x2 x3 x4 I_g V_g = some out) (hx : p.tables.exec = Jvm.exec) (hb : c.code = cX3_giveAsLoan) (hml : c.maxLocals = 6) (hown : s.vm.findClass RX3 = some m.cls) (hts : ∀ w ∈ wsX3_giveAsLoan, w.before args s = true) (in_X3 : ∀ w ∈ u_ws RX3 TX3 11, w ∈ wsX3_giveAsLoan) (w_loanWithAsked_77 : CallW rm_Led_giveAsLoan s args RX3 RX3 77 yX3_loanWithAsked cX3_loanWithAsked 3 (some .int) wsX3_loanWithAsked rm_Led_loanWithAsked 0 0 2) (g_27 : (Cond.fieldLink RX3 27 "DaysLent$Ledger" "mornings" "[I").before args s = true) (g_18 : (Cond.fieldLink RX3 18 "DaysLent$Ledger" "weekNumber" "I").before args s = true) (w_addDebt_84 : CallW rm_Led_giveAsLoan s args RX3 RX3 84 yX3_addDebt cX3_addDebt 5 none wsX3_addDebt rm_Led_addDebt 0 0 4) (hA : ∀ q : Nat, s.heap.size ≤ q → A q) (hP : va_P D vwCl (List.flatten [(w_Led cs o_g h_g I_g V_g)]) s.heap) (hD : va_D A (List.flatten [(w_Led cs o_g h_g I_g V_g)])) (hK : va_K D vwCl (tyA cs) s) (hN : yN s) (hret : ∀ (v : Int32) (Ig9 : FI) (Vg9 : FV) (H : Heap) (locs : List Loc) (pc : Nat) (ls : Array Slot), some (v, Ig9, Vg9) = some out → va_P D vwCl (List.flatten [(w_Led cs o_g h_g Ig9 Vg9)]) H → va_D A (List.flatten [(w_Led cs o_g h_g Ig9 Vg9)]) → va_S A s.heap H locs → decode cX3_giveAsLoan pc = .ok (.ireturn, 1) → W p l e rm_Led_giveAsLoan s m args below meth c H locs 0 0 Q (F0 m pc ls [.int v])) : ∀ ls : Array Slot, lv_has ls 6 [(0, .ref o_g), (1, .int x1), (2, .int x2), (3, .int x3), (4, .int x4)] → W p l e rm_Led_giveAsLoan s m args below meth c s.heap [] 0 0 Q (F0 m 0 ls []) := by
  intro ls hl
  have hS : va_S A s.heap s.heap [] := va_S.rf
  unfold Led_giveAsLoan at hf
  refine lv_aload_n hx hb dX3_giveAsLoan_0 rfl (lv_at hl 0 rfl) ?_
  refine lv_iload_n hx hb dX3_giveAsLoan_1 rfl (lv_at hl 1 rfl) ?_
  refine lv_iload_n hx hb dX3_giveAsLoan_2 rfl (lv_at hl 3 rfl) ?_
  obtain ⟨zr1, qr1, hf⟩ := bd1 hf
  refine vp_callSi (va_Run.run (va_runV (As := [.int x1, .int x3]) (rest := []) ⟨hx, hb, hml, hown, hts⟩ (c_Led_loanWithAsked l D cs o_g h_g I_g V_g x1 x3 f zr1 qr1) w_loanWithAsked_77 ⟨yR_moved, va_recv hK hP (ci := 3) (q0 := 0) rfl rfl, fun U hU hW => ⟨rfl, by rw [hU]; exact hP, va_K.moved hW.alike hK, yN_warm hW hN⟩⟩ rfl rfl hl.1 rfl (lv_room (Nat.le_of_ble_eq_true rfl)) dX3_giveAsLoan_3 ⟨Nat.zero_le _, Nat.zero_le _⟩)) (fun r1 er1 => ?_)
  rw [er1]
  refine lv_istore (lv' := [(5, .int zr1), (0, .ref o_g), (1, .int x1), (2, .int x2), (3, .int x3), (4, .int x4)]) hx hb dX3_giveAsLoan_6 hl (by decide) rfl (fun ls hl => ?_)
  refine lv_aload_n hx hb dX3_giveAsLoan_8 rfl (lv_at hl 1 rfl) ?_
  refine va_get (D := D) (ci := 3) (v := .ref (h_g 5)) (C := RX3) (T := TX3) (N := 11) hx hb hts in_X3 hown hK hP 0 rfl rfl 5 (by decide) g_27 (fun _ h9 => h9) rfl dX3_giveAsLoan_9 ?_
  refine lv_iload_n hx hb dX3_giveAsLoan_12 rfl (lv_at hl 2 rfl) ?_
  refine lv_dup2_11 hx hb dX3_giveAsLoan_13 rfl rfl ?_
  obtain ⟨c14, hf⟩ := gd hf
  refine va_iald (f := (V_g 5)) hx hb hK hP 1 0 rfl rfl c14 dX3_giveAsLoan_14 ?_
  refine lv_iload_n hx hb dX3_giveAsLoan_15 rfl (lv_at hl 4 rfl) ?_
  refine lv_isub hx hb dX3_giveAsLoan_16 ?_
  obtain ⟨c17, hf⟩ := gd hf
  refine va_iast (f := (V_g 5)) hx hb hK hP hD hS 1 0 rfl rfl c17 dX3_giveAsLoan_17 (fun H locs hP hD hS => ?_)
  obtain ⟨V2, eV2, hf⟩ := nme hf
  have hP : va_P D vwCl (List.flatten [(w_Led cs o_g h_g I_g V2)]) H := by rw [eV2]; exact hP
  have hD : va_D A (List.flatten [(w_Led cs o_g h_g I_g V2)]) := by rw [eV2]; exact hD
  refine lv_aload_n hx hb dX3_giveAsLoan_18 rfl (lv_at hl 1 rfl) ?_
  refine va_get (D := D) (ci := 3) (v := .ref (h_g 5)) (C := RX3) (T := TX3) (N := 11) hx hb hts in_X3 hown hK hP 0 rfl rfl 5 (by decide) g_27 (fun _ h9 => h9) rfl dX3_giveAsLoan_19 ?_
  refine lv_iload_n hx hb dX3_giveAsLoan_22 rfl (lv_at hl 3 rfl) ?_
  refine lv_dup2_11 hx hb dX3_giveAsLoan_23 rfl rfl ?_
  obtain ⟨c24, hf⟩ := gd hf
  refine va_iald (f := (V2 5)) hx hb hK hP 1 0 rfl rfl c24 dX3_giveAsLoan_24 ?_
  refine lv_iload_n hx hb dX3_giveAsLoan_25 rfl (lv_at hl 4 rfl) ?_
  refine lv_iadd hx hb dX3_giveAsLoan_26 ?_
  obtain ⟨c27, hf⟩ := gd hf
  refine va_iast (f := (V2 5)) hx hb hK hP hD hS 1 0 rfl rfl c27 dX3_giveAsLoan_27 (fun H locs hP hD hS => ?_)
  obtain ⟨V3, eV3, hf⟩ := nme hf
  have hP : va_P D vwCl (List.flatten [(w_Led cs o_g h_g I_g V3)]) H := by rw [eV3]; exact hP
  have hD : va_D A (List.flatten [(w_Led cs o_g h_g I_g V3)]) := by rw [eV3]; exact hD
  refine lv_aload_n hx hb dX3_giveAsLoan_28 rfl (lv_at hl 1 rfl) ?_
  refine lv_iload_n hx hb dX3_giveAsLoan_29 rfl (lv_at hl 2 rfl) ?_
  refine lv_iload_n hx hb dX3_giveAsLoan_30 rfl (lv_at hl 3 rfl) ?_
  refine lv_iload hx hb dX3_giveAsLoan_31 (lv_at hl 0 rfl) ?_
  refine lv_aload_n hx hb dX3_giveAsLoan_33 rfl (lv_at hl 1 rfl) ?_
  refine va_get (D := D) (ci := 3) (v := .int (I_g 2)) (C := RX3) (T := TX3) (N := 11) hx hb hts in_X3 hown hK hP 0 rfl rfl 2 (by decide) g_18 (fun _ h9 => h9) rfl dX3_giveAsLoan_34 ?_
  refine lv_iload hx hb dX3_giveAsLoan_37 (lv_at hl 5 rfl) ?_
  refine lv_iadd hx hb dX3_giveAsLoan_39 ?_
  obtain ⟨I5, V6, qr4, hf⟩ := bd2 hf
  have hFc := xfree hD hS hA
  refine va_callv (va_runV (As := [.int x1, .int x2, .int zr1, .int ((I_g 2) + x4)]) (rest := []) ⟨hx, hb, hml, hown, hts⟩ (c_Led_addDebt l D cs o_g h_g _ I_g V3 x1 x2 zr1 ((I_g 2) + x4) f _ qr4) w_addDebt_84 ⟨yP_moved, va_recv hK hP (ci := 3) (q0 := 0) rfl rfl, fun U hU hW => ⟨rfl, by rw [hU], by rw [hU]; exact hP, va_K.moved hW.alike hK, yN_warm hW hN, hD.weaken (fun _ _ _ _ => trivial)⟩⟩ rfl rfl hl.1 rfl (lv_room (Nat.le_of_ble_eq_true rfl)) dX3_giveAsLoan_40 ⟨Nat.zero_le _, Nat.zero_le _⟩) hS (fun q _ h9 => hFc q h9) hFc (fun u t H1 locs ht hvm hw hB hz1 hk1 hS => ?_)
  rw [hw] at hB
  obtain ⟨hP1, hK1, hD1⟩ := hB
  have hP : va_P D vwCl (List.flatten [(w_Led cs o_g h_g I5 V6)]) H1 := by rw [← ht]; exact hP1
  have hD : va_D A (List.flatten [(w_Led cs o_g h_g I5 V6)]) := hD1.weaken (fun _ q _ h9 => hFc q.1 h9)
  refine lv_iload hx hb dX3_giveAsLoan_43 (lv_at hl 0 rfl) ?_
  exact hret zr1 I5 V6 _ _ 45 _ hf hP hD hS dX3_giveAsLoan_45
set_option maxHeartbeats 4000000 in
set_option maxRecDepth 100000 in
theorem c_Led_giveAsLoan (l : Launch) (D : va_G) (cs : Nat → ClassId) (o_g : Nat) (h_g : Nat → Nat) (sz : Nat) (I_g : FI) (V_g : FV) (x1 : Int32) (x2 : Int32) (x3 : Int32) (x4 : Int32) (f : Nat) (out : Int32 × FI × FV) (hf : Led_giveAsLoan f x1 x2 x3 x4 I_g V_g = some out) : Met l yX3_giveAsLoan wsX3_giveAsLoan rm_Led_giveAsLoan (va_Pc [.ref o_g, .int x1, .int x2, .int x3, .int x4] (yP D cs (List.flatten [(w_Led cs o_g h_g I_g V_g)]) sz)) (va_Qi (fun r u => (r, u) = out) (fun (u : FI × FV) t => xA D cs (va_A (List.flatten [(w_Led cs o_g h_g I_g V_g)]) sz) (List.flatten [(w_Led cs o_g h_g u.1 u.2)]) t) (va_A (List.flatten [(w_Led cs o_g h_g I_g V_g)]) sz)) 0 0 (va_A (List.flatten [(w_Led cs o_g h_g I_g V_g)]) sz) := by
  refine Met.ofW (cc := cX3_giveAsLoan) (maxL := 6) (ret := (some .int)) (by decide) rfl ?_
  intro p e s m args below meth c s₁ B hml hv
  obtain ⟨ha, hsz, hP, hK, hN, hD0⟩ := hv
  have hx := B.exec
  have hb := B.bytes
  have hr := B.returns
  have hts := atoms_spec (ws := wsX3_giveAsLoan) B.pre
  have hown : s.vm.findClass RX3 = some m.cls := findClass_of_methodNamed B.named
  have hlocks := B.notSynchronized
  have in_X3 : ∀ w ∈ u_ws RX3 TX3 11, w ∈ wsX3_giveAsLoan := fun w h => List.mem_cons_of_mem _ (List.mem_append_right _ h)
  have w_loanWithAsked_77 := cwV (R := rm_Led_giveAsLoan) (s := s) (args := args) (rm := rm_Led_loanWithAsked) (mc := 0) (ms := 0) 2 hts gX3_giveAsLoan_X3_loanWithAsked rfl rfl rfl (by decide +kernel) ⟨Nat.le_of_ble_eq_true rfl, Nat.le_of_ble_eq_true rfl⟩
  have g_27 := hts (Cond.fieldLink RX3 27 "DaysLent$Ledger" "mornings" "[I") (by decide +kernel)
  have g_18 := hts (Cond.fieldLink RX3 18 "DaysLent$Ledger" "weekNumber" "I") (by decide +kernel)
  have w_addDebt_84 := cwV (R := rm_Led_giveAsLoan) (s := s) (args := args) (rm := rm_Led_addDebt) (mc := 0) (ms := 0) 4 hts gX3_giveAsLoan_X3_addDebt rfl rfl rfl (by decide +kernel) ⟨Nat.le_of_ble_eq_true rfl, Nat.le_of_ble_eq_true rfl⟩
  subst hsz
  have hD := hD0.self (sz := s.heap.size)
  generalize hAe : va_A (List.flatten [(w_Led cs o_g h_g I_g V_g)]) s.heap.size = A at hD ⊢
  have hA : ∀ q : Nat, s.heap.size ≤ q → A q := fun q h => by rw [← hAe]; exact Or.inr h
  have hl := lv_entry ([.ref o_g, .int x1, .int x2, .int x3, .int x4]) (n := 6) (Nat.le_of_ble_eq_true rfl)
  rw [show entryFrame m args 6 = entryFrame m ([.ref o_g, .int x1, .int x2, .int x3, .int x4] : List Value).toArray 6 from by rw [ha], lg_entry_eq]
  generalize (lg_sl ([.ref o_g, .int x1, .int x2, .int x3, .int x4]) ++ List.replicate (6 - (lg_sl ([.ref o_g, .int x1, .int x2, .int x3, .int x4])).length) Slot.unset).toArray = ls at hl ⊢
  generalize hQ : MQ below (va_Qi (fun r u => (r, u) = out) (fun (u : FI × FV) t => xA D cs A (List.flatten [(w_Led cs o_g h_g u.1 u.2)]) t) A) args s 0 0 A = Q
  have hret : ∀ (v : Int32) (Ig9 : FI) (Vg9 : FV) (H : Heap) (locs : List Loc) (pc : Nat) (ls : Array Slot), some (v, Ig9, Vg9) = some out → va_P D vwCl (List.flatten [(w_Led cs o_g h_g Ig9 Vg9)]) H → va_D A (List.flatten [(w_Led cs o_g h_g Ig9 Vg9)]) → va_S A s.heap H locs → decode cX3_giveAsLoan pc = .ok (.ireturn, 1) → W p l e rm_Led_giveAsLoan s m args below meth c H locs 0 0 Q (F0 m pc ls [.int v]) := by
    intro v Ig9 Vg9 H locs pc ls hf hP hD hS hd
    rw [← hQ]
    exact W.iret (v := v) hx hb hr (fun t ht hW => ⟨⟨v, (Ig9, Vg9), rfl, Option.some.inj hf, by show va_P D vwCl (List.flatten [(w_Led cs o_g h_g Ig9 Vg9)]) t.heap; rw [ht]; exact hP, va_K.moved hW.alike hK, hD⟩, hS.F ht⟩) hS.2.2 hd
  exact v_Led_giveAsLoan hf hx hb hml hown hts in_X3 w_loanWithAsked_77 g_27 g_18 w_addDebt_84 hA hP hD hK hN hret ls hl
def Led_pay (f : Nat) (x1 : Int32) (I_g : FI) (V_g : FV) : Option (FI × FV) := if x1 < 0 ∨ 12 ≤ x1.toNatClampNeg then none else (nm ((V_g 8) x1.toNatClampNeg) (fun y1 => if x1 < 0 ∨ 12 ≤ x1.toNatClampNeg then none else (if y1 < 0 ∨ 6 ≤ y1.toNatClampNeg then none else (nm (if ((V_g 5) y1.toNatClampNeg) < ((V_g 9) x1.toNatClampNeg) then ((V_g 5) y1.toNatClampNeg) else ((V_g 9) x1.toNatClampNeg)) (fun y2 => if x1 < 0 ∨ 12 ≤ x1.toNatClampNeg then none else ((nm (fun (Ig_45 : FI) => if y1 < 0 ∨ 6 ≤ y1.toNatClampNeg then none else (if y1 < 0 ∨ 6 ≤ y1.toNatClampNeg then none else (nm (va_up V_g 5 (upd (V_g 5) y1.toNatClampNeg (((V_g 5) y1.toNatClampNeg) - y2))) (fun V3 => if x1 < 0 ∨ 12 ≤ x1.toNatClampNeg then none else (if ((V3 7) x1.toNatClampNeg) < 0 ∨ 6 ≤ ((V3 7) x1.toNatClampNeg).toNatClampNeg then none else (if ((V3 7) x1.toNatClampNeg) < 0 ∨ 6 ≤ ((V3 7) x1.toNatClampNeg).toNatClampNeg then none else (nm (va_up V3 5 (upd (V3 5) ((V3 7) x1.toNatClampNeg).toNatClampNeg (((V3 5) ((V3 7) x1.toNatClampNeg).toNatClampNeg) + y2))) (fun V4 => some (Ig_45, V4))))))))) (fun j45 => (if ((V_g 9) x1.toNatClampNeg) ≤ y2 then (j45 I_g) else nm (va_up I_g 4 ((I_g 4) ||| (1 <<< (y1 &&& 31)))) (fun I5 => (j45 I5)))))))))))
abbrev rm_Led_pay : Room := { frames := 1, cells := 0, slots := 0, locals := 21 }
set_option maxHeartbeats 4000000 in
set_option maxRecDepth 100000 in
theorem v_Led_pay {l : Launch} {p : Program} {e : Env} {s : State} {m : MethodId} {args : Array Value} {below : List Frame} {meth : Method} {c : Code} {Q : State → Prop} {D : va_G} {cs : Nat → ClassId} {o_g : Nat} {h_g : Nat → Nat} {A : Nat → Prop} {I_g : FI} {V_g : FV} {x1 : Int32} {f : Nat} {out : FI × FV} (hf : Led_pay f x1 I_g V_g = some out) (hx : p.tables.exec = Jvm.exec) (hb : c.code = cX3_pay) (hml : c.maxLocals = 4) (hown : s.vm.findClass RX3 = some m.cls) (hts : ∀ w ∈ wsX3_pay, w.before args s = true) (in_X3 : ∀ w ∈ u_ws RX3 TX3 11, w ∈ wsX3_pay) (g_37 : (Cond.fieldLink RX3 37 "DaysLent$Ledger" "debtor" "[I").before args s = true) (g_40 : (Cond.fieldLink RX3 40 "DaysLent$Ledger" "amount" "[I").before args s = true) (g_27 : (Cond.fieldLink RX3 27 "DaysLent$Ledger" "mornings" "[I").before args s = true) (ml_99 : (Cond.methodLink RX3 99 Lib.Math.min.name).before args s = true) (ms_99 : (Cond.static Lib.Math.min.name).before args s = true) (mi_99 : (Cond.initialized "java/lang/Math").before args s = true) (mc_99 : (Cond.code Lib.Math.min.name Lib.Math.min.code 2 (some .int)).before args s = true) (g_24 : (Cond.fieldLink RX3 24 "DaysLent$Ledger" "broken" "I").before args s = true) (g_34 : (Cond.fieldLink RX3 34 "DaysLent$Ledger" "creditor" "[I").before args s = true) (hA : ∀ q : Nat, s.heap.size ≤ q → A q) (hP : va_P D vwCl (List.flatten [(w_Led cs o_g h_g I_g V_g)]) s.heap) (hD : va_D A (List.flatten [(w_Led cs o_g h_g I_g V_g)])) (hK : va_K D vwCl (tyA cs) s) (hN : yN s) (hret : ∀ (Ig9 : FI) (Vg9 : FV) (H : Heap) (locs : List Loc) (pc : Nat) (ls : Array Slot), some (Ig9, Vg9) = some out → va_P D vwCl (List.flatten [(w_Led cs o_g h_g Ig9 Vg9)]) H → va_D A (List.flatten [(w_Led cs o_g h_g Ig9 Vg9)]) → va_S A s.heap H locs → decode cX3_pay pc = .ok (.return_, 1) → W p l e rm_Led_pay s m args below meth c H locs 0 0 Q (F0 m pc ls [])) : ∀ ls : Array Slot, lv_has ls 4 [(0, .ref o_g), (1, .int x1)] → W p l e rm_Led_pay s m args below meth c s.heap [] 0 0 Q (F0 m 0 ls []) := by
  intro ls hl
  have hS : va_S A s.heap s.heap [] := va_S.rf
  unfold Led_pay at hf
  refine lv_aload_n hx hb dX3_pay_0 rfl (lv_at hl 0 rfl) ?_
  refine va_get (D := D) (ci := 3) (v := .ref (h_g 8)) (C := RX3) (T := TX3) (N := 11) hx hb hts in_X3 hown hK hP 0 rfl rfl 8 (by decide) g_37 (fun _ h9 => h9) rfl dX3_pay_1 ?_
  refine lv_iload_n hx hb dX3_pay_4 rfl (lv_at hl 1 rfl) ?_
  obtain ⟨c5, hf⟩ := gd hf
  refine va_iald (f := (V_g 8)) hx hb hK hP 4 0 rfl rfl c5 dX3_pay_5 ?_
  refine lv_topi (fun y1 ey1 => ?_)
  replace hf := nmd hf ey1
  refine lv_istore_n (lv' := [(2, .int y1), (0, .ref o_g), (1, .int x1)]) hx hb dX3_pay_6 rfl hl (by decide) rfl (fun ls hl => ?_)
  refine lv_aload_n hx hb dX3_pay_7 rfl (lv_at hl 1 rfl) ?_
  refine va_get (D := D) (ci := 3) (v := .ref (h_g 9)) (C := RX3) (T := TX3) (N := 11) hx hb hts in_X3 hown hK hP 0 rfl rfl 9 (by decide) g_40 (fun _ h9 => h9) rfl dX3_pay_8 ?_
  refine lv_iload_n hx hb dX3_pay_11 rfl (lv_at hl 2 rfl) ?_
  obtain ⟨c12, hf⟩ := gd hf
  refine va_iald (f := (V_g 9)) hx hb hK hP 5 0 rfl rfl c12 dX3_pay_12 ?_
  refine lv_aload_n hx hb dX3_pay_13 rfl (lv_at hl 1 rfl) ?_
  refine va_get (D := D) (ci := 3) (v := .ref (h_g 5)) (C := RX3) (T := TX3) (N := 11) hx hb hts in_X3 hown hK hP 0 rfl rfl 5 (by decide) g_27 (fun _ h9 => h9) rfl dX3_pay_14 ?_
  refine lv_iload_n hx hb dX3_pay_17 rfl (lv_at hl 0 rfl) ?_
  obtain ⟨c18, hf⟩ := gd hf
  refine va_iald (f := (V_g 5)) hx hb hK hP 1 0 rfl rfl c18 dX3_pay_18 ?_
  refine va_mmin (x := ((V_g 9) x1.toNatClampNeg)) (y := ((V_g 5) y1.toNatClampNeg)) hx hb (hml.trans hl.1.symm) hown ml_99 ms_99 mi_99 mc_99 (Nat.le_of_ble_eq_true rfl) (Nat.le_of_ble_eq_true rfl) (Nat.zero_le _) (Nat.zero_le _) dX3_pay_19 ?_
  refine lv_topi (fun y2 ey2 => ?_)
  replace hf := nmd hf ey2
  refine lv_istore_n (lv' := [(3, .int y2), (2, .int y1), (0, .ref o_g), (1, .int x1)]) hx hb dX3_pay_22 rfl hl (by decide) rfl (fun ls hl => ?_)
  refine lv_iload_n hx hb dX3_pay_23 rfl (lv_at hl 0 rfl) ?_
  refine lv_aload_n hx hb dX3_pay_24 rfl (lv_at hl 2 rfl) ?_
  refine va_get (D := D) (ci := 3) (v := .ref (h_g 9)) (C := RX3) (T := TX3) (N := 11) hx hb hts in_X3 hown hK hP 0 rfl rfl 9 (by decide) g_40 (fun _ h9 => h9) rfl dX3_pay_25 ?_
  refine lv_iload_n hx hb dX3_pay_28 rfl (lv_at hl 3 rfl) ?_
  obtain ⟨c29, hf⟩ := gd hf
  refine va_iald (f := (V_g 9)) hx hb hK hP 5 0 rfl rfl c29 dX3_pay_29 ?_
  obtain ⟨j45, ej45, hf⟩ := nme hf
  have J45 : ∀ (Ig_45 : FI), j45 Ig_45 = some out → ∀ (H : Heap) (locs : List Loc), va_P D vwCl (List.flatten [(w_Led cs o_g h_g Ig_45 V_g)]) H → va_D A (List.flatten [(w_Led cs o_g h_g Ig_45 V_g)]) → va_S A s.heap H locs → ∀ ls : Array Slot, lv_has ls 4 [(0, .ref o_g), (1, .int x1), (2, .int y1), (3, .int y2)] → W p l e rm_Led_pay s m args below meth c H locs 0 0 Q (F0 m 45 ls []) := by
    intro Ig_45 hf H locs hP hD hS ls hl
    rw [ej45] at hf
    refine lv_aload_n hx hb dX3_pay_45 rfl (lv_at hl 0 rfl) ?_
    refine va_get (D := D) (ci := 3) (v := .ref (h_g 5)) (C := RX3) (T := TX3) (N := 11) hx hb hts in_X3 hown hK hP 0 rfl rfl 5 (by decide) g_27 (fun _ h9 => h9) rfl dX3_pay_46 ?_
    refine lv_iload_n hx hb dX3_pay_49 rfl (lv_at hl 2 rfl) ?_
    refine lv_dup2_11 hx hb dX3_pay_50 rfl rfl ?_
    obtain ⟨c51, hf⟩ := gd hf
    refine va_iald (f := (V_g 5)) hx hb hK hP 1 0 rfl rfl c51 dX3_pay_51 ?_
    refine lv_iload_n hx hb dX3_pay_52 rfl (lv_at hl 3 rfl) ?_
    refine lv_isub hx hb dX3_pay_53 ?_
    obtain ⟨c54, hf⟩ := gd hf
    refine va_iast (f := (V_g 5)) hx hb hK hP hD hS 1 0 rfl rfl c54 dX3_pay_54 (fun H locs hP hD hS => ?_)
    obtain ⟨V3, eV3, hf⟩ := nme hf
    have hP : va_P D vwCl (List.flatten [(w_Led cs o_g h_g Ig_45 V3)]) H := by rw [eV3]; exact hP
    have hD : va_D A (List.flatten [(w_Led cs o_g h_g Ig_45 V3)]) := by rw [eV3]; exact hD
    refine lv_aload_n hx hb dX3_pay_55 rfl (lv_at hl 0 rfl) ?_
    refine va_get (D := D) (ci := 3) (v := .ref (h_g 5)) (C := RX3) (T := TX3) (N := 11) hx hb hts in_X3 hown hK hP 0 rfl rfl 5 (by decide) g_27 (fun _ h9 => h9) rfl dX3_pay_56 ?_
    refine lv_aload_n hx hb dX3_pay_59 rfl (lv_at hl 0 rfl) ?_
    refine va_get (D := D) (ci := 3) (v := .ref (h_g 7)) (C := RX3) (T := TX3) (N := 11) hx hb hts in_X3 hown hK hP 0 rfl rfl 7 (by decide) g_34 (fun _ h9 => h9) rfl dX3_pay_60 ?_
    refine lv_iload_n hx hb dX3_pay_63 rfl (lv_at hl 1 rfl) ?_
    obtain ⟨c64, hf⟩ := gd hf
    refine va_iald (f := (V3 7)) hx hb hK hP 3 0 rfl rfl c64 dX3_pay_64 ?_
    refine lv_dup2_11 hx hb dX3_pay_65 rfl rfl ?_
    obtain ⟨c66, hf⟩ := gd hf
    refine va_iald (f := (V3 5)) hx hb hK hP 1 0 rfl rfl c66 dX3_pay_66 ?_
    refine lv_iload_n hx hb dX3_pay_67 rfl (lv_at hl 3 rfl) ?_
    refine lv_iadd hx hb dX3_pay_68 ?_
    obtain ⟨c69, hf⟩ := gd hf
    refine va_iast (f := (V3 5)) hx hb hK hP hD hS 1 0 rfl rfl c69 dX3_pay_69 (fun H locs hP hD hS => ?_)
    obtain ⟨V4, eV4, hf⟩ := nme hf
    have hP : va_P D vwCl (List.flatten [(w_Led cs o_g h_g Ig_45 V4)]) H := by rw [eV4]; exact hP
    have hD : va_D A (List.flatten [(w_Led cs o_g h_g Ig_45 V4)]) := by rw [eV4]; exact hD
    exact hret Ig_45 V4 _ _ 70 _ hf hP hD hS dX3_pay_70
  refine lv_icmp_ge (tgt := 45) hx hb dX3_pay_30 (by decide) (fun c30 => ?_) (fun c30 => ?_)
  · replace hf := ip c30 hf
    exact J45 I_g hf _ _ hP hD hS _ (lv_sub hl [2, 3, 1, 0] rfl)
  · replace hf := im c30 hf
    refine lv_aload_n hx hb dX3_pay_33 rfl (lv_at hl 2 rfl) ?_
    refine lv_dup hx hb dX3_pay_34 rfl ?_
    refine va_get (D := D) (ci := 3) (v := .int (I_g 4)) (C := RX3) (T := TX3) (N := 11) hx hb hts in_X3 hown hK hP 0 rfl rfl 4 (by decide) g_24 (fun _ h9 => h9) rfl dX3_pay_35 ?_
    refine lv_iconst (v := 1) hx hb dX3_pay_38 (by decide) ?_
    refine lv_iload_n hx hb dX3_pay_39 rfl (lv_at hl 1 rfl) ?_
    refine lv_ishl hx hb dX3_pay_40 ?_
    refine lv_ior hx hb dX3_pay_41 ?_
    refine va_put (D := D) (ci := 3) (v := .int ((I_g 4) ||| (1 <<< (y1 &&& 31)))) (ty := .int) (C := RX3) (T := TX3) (N := 11) hx hb hts in_X3 tyX3 tyX3_ok nmX3 hown hK hP hD hS 0 rfl rfl 4 (by decide) g_24 (fun _ h9 => h9) rfl (by decide +kernel) rfl rfl (Nat.le_of_ble_eq_true rfl) dX3_pay_42 (fun H locs hP hD hS => ?_)
    obtain ⟨I5, eI5, hf⟩ := nme hf
    have hP : va_P D vwCl (List.flatten [(w_Led cs o_g h_g I5 V_g)]) H := by rw [eI5]; exact hP
    have hD : va_D A (List.flatten [(w_Led cs o_g h_g I5 V_g)]) := by rw [eI5]; exact hD
    exact J45 I5 hf _ _ hP hD hS _ (lv_sub hl [2, 3, 1, 0] rfl)
set_option maxHeartbeats 4000000 in
set_option maxRecDepth 100000 in
theorem c_Led_pay (l : Launch) (D : va_G) (cs : Nat → ClassId) (o_g : Nat) (h_g : Nat → Nat) (sz : Nat) (I_g : FI) (V_g : FV) (x1 : Int32) (f : Nat) (out : FI × FV) (hf : Led_pay f x1 I_g V_g = some out) : Met l yX3_pay wsX3_pay rm_Led_pay (va_Pc [.ref o_g, .int x1] (yP D cs (List.flatten [(w_Led cs o_g h_g I_g V_g)]) sz)) (va_Qv (fun u => u = out) (fun (u : FI × FV) t => xA D cs (va_A (List.flatten [(w_Led cs o_g h_g I_g V_g)]) sz) (List.flatten [(w_Led cs o_g h_g u.1 u.2)]) t) (va_A (List.flatten [(w_Led cs o_g h_g I_g V_g)]) sz)) 0 0 (va_A (List.flatten [(w_Led cs o_g h_g I_g V_g)]) sz) := by
  refine Met.ofW (cc := cX3_pay) (maxL := 4) (ret := none) (by decide) rfl ?_
  intro p e s m args below meth c s₁ B hml hv
  obtain ⟨ha, hsz, hP, hK, hN, hD0⟩ := hv
  have hx := B.exec
  have hb := B.bytes
  have hr := B.returns
  have hts := atoms_spec (ws := wsX3_pay) B.pre
  have hown : s.vm.findClass RX3 = some m.cls := findClass_of_methodNamed B.named
  have hlocks := B.notSynchronized
  have in_X3 : ∀ w ∈ u_ws RX3 TX3 11, w ∈ wsX3_pay := fun w h => List.mem_cons_of_mem _ (List.mem_append_right _ h)
  have g_37 := hts (Cond.fieldLink RX3 37 "DaysLent$Ledger" "debtor" "[I") (by decide +kernel)
  have g_40 := hts (Cond.fieldLink RX3 40 "DaysLent$Ledger" "amount" "[I") (by decide +kernel)
  have g_27 := hts (Cond.fieldLink RX3 27 "DaysLent$Ledger" "mornings" "[I") (by decide +kernel)
  have ml_99 := hts (Cond.methodLink RX3 99 Lib.Math.min.name) (by decide +kernel)
  have ms_99 := hts (Cond.static Lib.Math.min.name) (by decide +kernel)
  have mi_99 := hts (Cond.initialized "java/lang/Math") (by decide +kernel)
  have mc_99 := hts (Cond.code Lib.Math.min.name Lib.Math.min.code 2 (some .int)) (by decide +kernel)
  have g_24 := hts (Cond.fieldLink RX3 24 "DaysLent$Ledger" "broken" "I") (by decide +kernel)
  have g_34 := hts (Cond.fieldLink RX3 34 "DaysLent$Ledger" "creditor" "[I") (by decide +kernel)
  subst hsz
  have hD := hD0.self (sz := s.heap.size)
  generalize hAe : va_A (List.flatten [(w_Led cs o_g h_g I_g V_g)]) s.heap.size = A at hD ⊢
  have hA : ∀ q : Nat, s.heap.size ≤ q → A q := fun q h => by rw [← hAe]; exact Or.inr h
  have hl := lv_entry ([.ref o_g, .int x1]) (n := 4) (Nat.le_of_ble_eq_true rfl)
  rw [show entryFrame m args 4 = entryFrame m ([.ref o_g, .int x1] : List Value).toArray 4 from by rw [ha], lg_entry_eq]
  generalize (lg_sl ([.ref o_g, .int x1]) ++ List.replicate (4 - (lg_sl ([.ref o_g, .int x1])).length) Slot.unset).toArray = ls at hl ⊢
  generalize hQ : MQ below (va_Qv (fun u => u = out) (fun (u : FI × FV) t => xA D cs A (List.flatten [(w_Led cs o_g h_g u.1 u.2)]) t) A) args s 0 0 A = Q
  have hret : ∀ (Ig9 : FI) (Vg9 : FV) (H : Heap) (locs : List Loc) (pc : Nat) (ls : Array Slot), some (Ig9, Vg9) = some out → va_P D vwCl (List.flatten [(w_Led cs o_g h_g Ig9 Vg9)]) H → va_D A (List.flatten [(w_Led cs o_g h_g Ig9 Vg9)]) → va_S A s.heap H locs → decode cX3_pay pc = .ok (.return_, 1) → W p l e rm_Led_pay s m args below meth c H locs 0 0 Q (F0 m pc ls []) := by
    intro Ig9 Vg9 H locs pc ls hf hP hD hS hd
    rw [← hQ]
    exact W.vret hx hb hr (fun t ht hW => ⟨⟨(Ig9, Vg9), rfl, Option.some.inj hf, by show va_P D vwCl (List.flatten [(w_Led cs o_g h_g Ig9 Vg9)]) t.heap; rw [ht]; exact hP, va_K.moved hW.alike hK, hD⟩, hS.F ht⟩) hS.2.2 hd
  exact v_Led_pay hf hx hb hml hown hts in_X3 g_37 g_40 g_27 ml_99 ms_99 mi_99 mc_99 g_24 g_34 hA hP hD hK hN hret ls hl
def Led_goBad_L2 {ρ : Type} (f : Nat) (I_g : FI) (k_2 : FV → Option ρ) : Nat → Int32 → FV → Option ρ
  | 0, _, _ => none
  | n_2 + 1, x1_2, Vg_2 => (if (I_g 0) ≤ x1_2 then (k_2 Vg_2) else if x1_2 < 0 ∨ 6 ≤ x1_2.toNatClampNeg then none else (if x1_2 < 0 ∨ 6 ≤ x1_2.toNatClampNeg then none else (nm (va_up Vg_2 5 (upd (Vg_2 5) x1_2.toNatClampNeg (if 20 < ((Vg_2 5) x1_2.toNatClampNeg) then 20 else ((Vg_2 5) x1_2.toNatClampNeg)))) (fun V1 => (Led_goBad_L2 f I_g k_2 n_2 (x1_2 + 1) V1)))))
def Led_goBad (f : Nat) (I_g : FI) (V_g : FV) : Option (FV) := (Led_goBad_L2 f I_g (fun (Vg_2 : FV) => some Vg_2) f 0 V_g)
abbrev rm_Led_goBad : Room := { frames := 1, cells := 0, slots := 0, locals := 21 }
set_option maxHeartbeats 4000000 in
set_option maxRecDepth 100000 in
theorem v_Led_goBad {l : Launch} {p : Program} {e : Env} {s : State} {m : MethodId} {args : Array Value} {below : List Frame} {meth : Method} {c : Code} {Q : State → Prop} {D : va_G} {cs : Nat → ClassId} {o_g : Nat} {h_g : Nat → Nat} {A : Nat → Prop} {I_g : FI} {V_g : FV} {f : Nat} {out : FV} (hf : Led_goBad f I_g V_g = some out) (hx : p.tables.exec = Jvm.exec) (hb : c.code = cX3_goBad) (hml : c.maxLocals = 2) (hown : s.vm.findClass RX3 = some m.cls) (hts : ∀ w ∈ wsX3_goBad, w.before args s = true) (in_X3 : ∀ w ∈ u_ws RX3 TX3 11, w ∈ wsX3_goBad) (g_9 : (Cond.fieldLink RX3 9 "DaysLent$Ledger" "people" "I").before args s = true) (g_27 : (Cond.fieldLink RX3 27 "DaysLent$Ledger" "mornings" "[I").before args s = true) (ml_99 : (Cond.methodLink RX3 99 Lib.Math.min.name).before args s = true) (ms_99 : (Cond.static Lib.Math.min.name).before args s = true) (mi_99 : (Cond.initialized "java/lang/Math").before args s = true) (mc_99 : (Cond.code Lib.Math.min.name Lib.Math.min.code 2 (some .int)).before args s = true) (hA : ∀ q : Nat, s.heap.size ≤ q → A q) (hP : va_P D vwCl (List.flatten [(w_Led cs o_g h_g I_g V_g)]) s.heap) (hD : va_D A (List.flatten [(w_Led cs o_g h_g I_g V_g)])) (hK : va_K D vwCl (tyA cs) s) (hN : yN s) (hret : ∀ (Vg9 : FV) (H : Heap) (locs : List Loc) (pc : Nat) (ls : Array Slot), some Vg9 = some out → va_P D vwCl (List.flatten [(w_Led cs o_g h_g I_g Vg9)]) H → va_D A (List.flatten [(w_Led cs o_g h_g I_g Vg9)]) → va_S A s.heap H locs → decode cX3_goBad pc = .ok (.return_, 1) → W p l e rm_Led_goBad s m args below meth c H locs 0 0 Q (F0 m pc ls [])) : ∀ ls : Array Slot, lv_has ls 2 [(0, .ref o_g)] → W p l e rm_Led_goBad s m args below meth c s.heap [] 0 0 Q (F0 m 0 ls []) := by
  intro ls hl
  have hS : va_S A s.heap s.heap [] := va_S.rf
  unfold Led_goBad at hf
  refine lv_iconst (v := 0) hx hb dX3_goBad_0 (by decide) ?_
  refine lv_istore_n (lv' := [(1, .int 0), (0, .ref o_g)]) hx hb dX3_goBad_1 rfl hl (by decide) rfl (fun ls hl => ?_)
  have L2 : ∀ (k_2 : FV → Option (FV)) (hk_2 : ∀ (Vg_2 : FV), k_2 Vg_2 = some out → ∀ (H : Heap) (locs : List Loc), va_P D vwCl (List.flatten [(w_Led cs o_g h_g I_g Vg_2)]) H → va_D A (List.flatten [(w_Led cs o_g h_g I_g Vg_2)]) → va_S A s.heap H locs → ∀ ls : Array Slot, lv_has ls 2 [] → W p l e rm_Led_goBad s m args below meth c H locs 0 0 Q (F0 m 33 ls [])), ∀ (n_2 : Nat) (x1_2 : Int32) (Vg_2 : FV), Led_goBad_L2 f I_g k_2 n_2 x1_2 Vg_2 = some out → ∀ (H : Heap) (locs : List Loc), va_P D vwCl (List.flatten [(w_Led cs o_g h_g I_g Vg_2)]) H → va_D A (List.flatten [(w_Led cs o_g h_g I_g Vg_2)]) → va_S A s.heap H locs → ∀ ls : Array Slot, lv_has ls 2 [(0, .ref o_g), (1, .int x1_2)] → W p l e rm_Led_goBad s m args below meth c H locs 0 0 Q (F0 m 2 ls []) := by
    intro k_2 hk_2 n_2
    induction n_2 with
    | zero => intro x1_2 Vg_2 hf; rw [Led_goBad_L2] at hf; cases hf
    | succ n_2 ih_2 =>
      intro x1_2 Vg_2 hf H locs hP hD hS ls hl
      rw [Led_goBad_L2] at hf
      refine lv_iload_n hx hb dX3_goBad_2 rfl (lv_at hl 1 rfl) ?_
      refine lv_aload_n hx hb dX3_goBad_3 rfl (lv_at hl 0 rfl) ?_
      refine va_get (D := D) (ci := 3) (v := .int (I_g 0)) (C := RX3) (T := TX3) (N := 11) hx hb hts in_X3 hown hK hP 0 rfl rfl 0 (by decide) g_9 (fun _ h9 => h9) rfl dX3_goBad_4 ?_
      refine lv_icmp_ge (tgt := 33) hx hb dX3_goBad_7 (by decide) (fun c7 => ?_) (fun c7 => ?_)
      · replace hf := ip c7 hf
        exact hk_2 Vg_2 hf _ _ hP hD hS _ (lv_sub hl [] rfl)
      · replace hf := im c7 hf
        refine lv_aload_n hx hb dX3_goBad_10 rfl (lv_at hl 0 rfl) ?_
        refine va_get (D := D) (ci := 3) (v := .ref (h_g 5)) (C := RX3) (T := TX3) (N := 11) hx hb hts in_X3 hown hK hP 0 rfl rfl 5 (by decide) g_27 (fun _ h9 => h9) rfl dX3_goBad_11 ?_
        refine lv_iload_n hx hb dX3_goBad_14 rfl (lv_at hl 1 rfl) ?_
        refine lv_aload_n hx hb dX3_goBad_15 rfl (lv_at hl 0 rfl) ?_
        refine va_get (D := D) (ci := 3) (v := .ref (h_g 5)) (C := RX3) (T := TX3) (N := 11) hx hb hts in_X3 hown hK hP 0 rfl rfl 5 (by decide) g_27 (fun _ h9 => h9) rfl dX3_goBad_16 ?_
        refine lv_iload_n hx hb dX3_goBad_19 rfl (lv_at hl 1 rfl) ?_
        obtain ⟨c20, hf⟩ := gd hf
        refine va_iald (f := (Vg_2 5)) hx hb hK hP 1 0 rfl rfl c20 dX3_goBad_20 ?_
        refine lv_bipush (v := 20) hx hb dX3_goBad_21 (by decide) ?_
        refine va_mmin (x := ((Vg_2 5) x1_2.toNatClampNeg)) (y := 20) hx hb (hml.trans hl.1.symm) hown ml_99 ms_99 mi_99 mc_99 (Nat.le_of_ble_eq_true rfl) (Nat.le_of_ble_eq_true rfl) (Nat.zero_le _) (Nat.zero_le _) dX3_goBad_23 ?_
        obtain ⟨c26, hf⟩ := gd hf
        refine va_iast (f := (Vg_2 5)) hx hb hK hP hD hS 1 0 rfl rfl c26 dX3_goBad_26 (fun H locs hP hD hS => ?_)
        obtain ⟨V1, eV1, hf⟩ := nme hf
        have hP : va_P D vwCl (List.flatten [(w_Led cs o_g h_g I_g V1)]) H := by rw [eV1]; exact hP
        have hD : va_D A (List.flatten [(w_Led cs o_g h_g I_g V1)]) := by rw [eV1]; exact hD
        refine lv_iinc (v := (x1_2 + 1)) (lv' := [(1, .int (x1_2 + 1)), (0, .ref o_g)]) hx hb dX3_goBad_27 hl (k := 1) rfl (by rfl) (by decide) rfl (fun ls hl => ?_)
        refine lv_goto (tgt := 2) hx hb dX3_goBad_30 (by decide) ?_
        exact ih_2 (x1_2 + 1) V1 hf _ _ hP hD hS _ (lv_sub hl [1, 0] rfl)
  refine L2 _ (fun Vg_2 hf H locs hP hD hS ls hl => ?_) f 0 V_g hf _ _ hP hD hS _ (lv_sub hl [1, 0] rfl)
  exact hret Vg_2 _ _ 33 _ hf hP hD hS dX3_goBad_33
set_option maxHeartbeats 4000000 in
set_option maxRecDepth 100000 in
theorem c_Led_goBad (l : Launch) (D : va_G) (cs : Nat → ClassId) (o_g : Nat) (h_g : Nat → Nat) (sz : Nat) (I_g : FI) (V_g : FV) (f : Nat) (out : FV) (hf : Led_goBad f I_g V_g = some out) : Met l yX3_goBad wsX3_goBad rm_Led_goBad (va_Pc [.ref o_g] (yP D cs (List.flatten [(w_Led cs o_g h_g I_g V_g)]) sz)) (va_Qv (fun u => u = out) (fun (u : FV) t => xA D cs (va_A (List.flatten [(w_Led cs o_g h_g I_g V_g)]) sz) (List.flatten [(w_Led cs o_g h_g I_g u)]) t) (va_A (List.flatten [(w_Led cs o_g h_g I_g V_g)]) sz)) 0 0 (va_A (List.flatten [(w_Led cs o_g h_g I_g V_g)]) sz) := by
  refine Met.ofW (cc := cX3_goBad) (maxL := 2) (ret := none) (by decide) rfl ?_
  intro p e s m args below meth c s₁ B hml hv
  obtain ⟨ha, hsz, hP, hK, hN, hD0⟩ := hv
  have hx := B.exec
  have hb := B.bytes
  have hr := B.returns
  have hts := atoms_spec (ws := wsX3_goBad) B.pre
  have hown : s.vm.findClass RX3 = some m.cls := findClass_of_methodNamed B.named
  have hlocks := B.notSynchronized
  have in_X3 : ∀ w ∈ u_ws RX3 TX3 11, w ∈ wsX3_goBad := fun w h => List.mem_cons_of_mem _ (List.mem_append_right _ h)
  have g_9 := hts (Cond.fieldLink RX3 9 "DaysLent$Ledger" "people" "I") (by decide +kernel)
  have g_27 := hts (Cond.fieldLink RX3 27 "DaysLent$Ledger" "mornings" "[I") (by decide +kernel)
  have ml_99 := hts (Cond.methodLink RX3 99 Lib.Math.min.name) (by decide +kernel)
  have ms_99 := hts (Cond.static Lib.Math.min.name) (by decide +kernel)
  have mi_99 := hts (Cond.initialized "java/lang/Math") (by decide +kernel)
  have mc_99 := hts (Cond.code Lib.Math.min.name Lib.Math.min.code 2 (some .int)) (by decide +kernel)
  subst hsz
  have hD := hD0.self (sz := s.heap.size)
  generalize hAe : va_A (List.flatten [(w_Led cs o_g h_g I_g V_g)]) s.heap.size = A at hD ⊢
  have hA : ∀ q : Nat, s.heap.size ≤ q → A q := fun q h => by rw [← hAe]; exact Or.inr h
  have hl := lv_entry ([.ref o_g]) (n := 2) (Nat.le_of_ble_eq_true rfl)
  rw [show entryFrame m args 2 = entryFrame m ([.ref o_g] : List Value).toArray 2 from by rw [ha], lg_entry_eq]
  generalize (lg_sl ([.ref o_g]) ++ List.replicate (2 - (lg_sl ([.ref o_g])).length) Slot.unset).toArray = ls at hl ⊢
  generalize hQ : MQ below (va_Qv (fun u => u = out) (fun (u : FV) t => xA D cs A (List.flatten [(w_Led cs o_g h_g I_g u)]) t) A) args s 0 0 A = Q
  have hret : ∀ (Vg9 : FV) (H : Heap) (locs : List Loc) (pc : Nat) (ls : Array Slot), some Vg9 = some out → va_P D vwCl (List.flatten [(w_Led cs o_g h_g I_g Vg9)]) H → va_D A (List.flatten [(w_Led cs o_g h_g I_g Vg9)]) → va_S A s.heap H locs → decode cX3_goBad pc = .ok (.return_, 1) → W p l e rm_Led_goBad s m args below meth c H locs 0 0 Q (F0 m pc ls []) := by
    intro Vg9 H locs pc ls hf hP hD hS hd
    rw [← hQ]
    exact W.vret hx hb hr (fun t ht hW => ⟨⟨Vg9, rfl, Option.some.inj hf, by show va_P D vwCl (List.flatten [(w_Led cs o_g h_g I_g Vg9)]) t.heap; rw [ht]; exact hP, va_K.moved hW.alike hK, hD⟩, hS.F ht⟩) hS.2.2 hd
  exact v_Led_goBad hf hx hb hml hown hts in_X3 g_9 g_27 ml_99 ms_99 mi_99 mc_99 hA hP hD hK hN hret ls hl
def Led_passWeek_L19 {ρ : Type} (f : Nat) (k_19 : Int32 → FI → FV → Option ρ) : Nat → Int32 → Int32 → FI → FV → Option ρ
  | 0, _, _, _, _ => none
  | n_19 + 1, x2_19, x3_19, Ig_19, Vg_19 => (if (Ig_19 1) ≤ x3_19 then (k_19 x2_19 Ig_19 Vg_19) else if x3_19 < 0 ∨ 12 ≤ x3_19.toNatClampNeg then none else ((nm (fun (x2_57 : Int32) (Ig_57 : FI) (Vg_57 : FV) => (Led_passWeek_L19 f k_19 n_19 x2_57 (x3_19 + 1) Ig_57 Vg_57)) (fun j57 => (if ((Vg_19 10) x3_19.toNatClampNeg) = (Ig_19 2) then ob2 (Led_pay f x3_19 Ig_19 Vg_19) (fun I6 V7 => (j57 x2_19 I6 V7)) else ob1 (Led_moveDebt f x3_19 x2_19 Ig_19 Vg_19) (fun V4 => (j57 (x2_19 + 1) Ig_19 V4)))))))
def Led_passWeek (f : Nat) (I_g : FI) (V_g : FV) : Option (Int32 × FI × FV) := nm (va_up I_g 2 ((I_g 2) + 1)) (fun I1 => nm (I_g 4) (fun y2 => (Led_passWeek_L19 f (fun (x2_19 : Int32) (Ig_19 : FI) (Vg_19 : FV) => nm (va_up Ig_19 1 x2_19) (fun I8 => (nm (fun (Vg_81 : FV) => some (((I8 4) &&& (y2 ^^^ (-1))), I8, Vg_81)) (fun j81 => (if ((I8 2) - (I8 2) / 4 * 4) = 0 then ob1 (Led_goBad f I8 Vg_19) (fun V10 => (j81 V10)) else (j81 Vg_19)))))) f 0 0 I1 V_g)))
abbrev rm_Led_passWeek : Room := { frames := 2, cells := 0, slots := 0, locals := 44 }
set_option maxHeartbeats 4000000 in
set_option maxRecDepth 100000 in
theorem v_Led_passWeek {l : Launch} {p : Program} {e : Env} {s : State} {m : MethodId} {args : Array Value} {below : List Frame} {meth : Method} {c : Code} {Q : State → Prop} {D : va_G} {cs : Nat → ClassId} {o_g : Nat} {h_g : Nat → Nat} {A : Nat → Prop} {I_g : FI} {V_g : FV} {f : Nat} {out : Int32 × FI × FV} (hf : Led_passWeek f I_g V_g = some out) (hx : p.tables.exec = Jvm.exec) (hb : c.code = cX3_passWeek) (hml : c.maxLocals = 4) (hown : s.vm.findClass RX3 = some m.cls) (hts : ∀ w ∈ wsX3_passWeek, w.before args s = true) (in_X3 : ∀ w ∈ u_ws RX3 TX3 11, w ∈ wsX3_passWeek) (g_24 : (Cond.fieldLink RX3 24 "DaysLent$Ledger" "broken" "I").before args s = true) (g_18 : (Cond.fieldLink RX3 18 "DaysLent$Ledger" "weekNumber" "I").before args s = true) (g_15 : (Cond.fieldLink RX3 15 "DaysLent$Ledger" "debts" "I").before args s = true) (g_43 : (Cond.fieldLink RX3 43 "DaysLent$Ledger" "due" "[I").before args s = true) (w_pay_88 : CallW rm_Led_passWeek s args RX3 RX3 88 yX3_pay cX3_pay 4 none wsX3_pay rm_Led_pay 0 0 1) (w_moveDebt_92 : CallW rm_Led_passWeek s args RX3 RX3 92 yX3_moveDebt cX3_moveDebt 3 none wsX3_moveDebt rm_Led_moveDebt 0 0 2) (w_goBad_96 : CallW rm_Led_passWeek s args RX3 RX3 96 yX3_goBad cX3_goBad 2 none wsX3_goBad rm_Led_goBad 0 0 0) (hA : ∀ q : Nat, s.heap.size ≤ q → A q) (hP : va_P D vwCl (List.flatten [(w_Led cs o_g h_g I_g V_g)]) s.heap) (hD : va_D A (List.flatten [(w_Led cs o_g h_g I_g V_g)])) (hK : va_K D vwCl (tyA cs) s) (hN : yN s) (hret : ∀ (v : Int32) (Ig9 : FI) (Vg9 : FV) (H : Heap) (locs : List Loc) (pc : Nat) (ls : Array Slot), some (v, Ig9, Vg9) = some out → va_P D vwCl (List.flatten [(w_Led cs o_g h_g Ig9 Vg9)]) H → va_D A (List.flatten [(w_Led cs o_g h_g Ig9 Vg9)]) → va_S A s.heap H locs → decode cX3_passWeek pc = .ok (.ireturn, 1) → W p l e rm_Led_passWeek s m args below meth c H locs 0 0 Q (F0 m pc ls [.int v])) : ∀ ls : Array Slot, lv_has ls 4 [(0, .ref o_g)] → W p l e rm_Led_passWeek s m args below meth c s.heap [] 0 0 Q (F0 m 0 ls []) := by
  intro ls hl
  have hS : va_S A s.heap s.heap [] := va_S.rf
  unfold Led_passWeek at hf
  refine lv_aload_n hx hb dX3_passWeek_0 rfl (lv_at hl 0 rfl) ?_
  refine va_get (D := D) (ci := 3) (v := .int (I_g 4)) (C := RX3) (T := TX3) (N := 11) hx hb hts in_X3 hown hK hP 0 rfl rfl 4 (by decide) g_24 (fun _ h9 => h9) rfl dX3_passWeek_1 ?_
  refine lv_istore_n (lv' := [(1, .int (I_g 4)), (0, .ref o_g)]) hx hb dX3_passWeek_4 rfl hl (by decide) rfl (fun ls hl => ?_)
  refine lv_aload_n hx hb dX3_passWeek_5 rfl (lv_at hl 1 rfl) ?_
  refine lv_dup hx hb dX3_passWeek_6 rfl ?_
  refine va_get (D := D) (ci := 3) (v := .int (I_g 2)) (C := RX3) (T := TX3) (N := 11) hx hb hts in_X3 hown hK hP 0 rfl rfl 2 (by decide) g_18 (fun _ h9 => h9) rfl dX3_passWeek_7 ?_
  refine lv_iconst (v := 1) hx hb dX3_passWeek_10 (by decide) ?_
  refine lv_iadd hx hb dX3_passWeek_11 ?_
  refine va_put (D := D) (ci := 3) (v := .int ((I_g 2) + 1)) (ty := .int) (C := RX3) (T := TX3) (N := 11) hx hb hts in_X3 tyX3 tyX3_ok nmX3 hown hK hP hD hS 0 rfl rfl 2 (by decide) g_18 (fun _ h9 => h9) rfl (by decide +kernel) rfl rfl (Nat.le_of_ble_eq_true rfl) dX3_passWeek_12 (fun H locs hP hD hS => ?_)
  obtain ⟨I1, eI1, hf⟩ := nme hf
  have hP : va_P D vwCl (List.flatten [(w_Led cs o_g h_g I1 V_g)]) H := by rw [eI1]; exact hP
  have hD : va_D A (List.flatten [(w_Led cs o_g h_g I1 V_g)]) := by rw [eI1]; exact hD
  refine lv_iconst (v := 0) hx hb dX3_passWeek_15 (by decide) ?_
  refine lv_istore_n (lv' := [(2, .int 0), (1, .int (I_g 4)), (0, .ref o_g)]) hx hb dX3_passWeek_16 rfl hl (by decide) rfl (fun ls hl => ?_)
  refine lv_iconst (v := 0) hx hb dX3_passWeek_17 (by decide) ?_
  refine lv_istore_n (lv' := [(3, .int 0), (2, .int 0), (1, .int (I_g 4)), (0, .ref o_g)]) hx hb dX3_passWeek_18 rfl hl (by decide) rfl (fun ls hl => ?_)
  obtain ⟨y2, ey2, hf⟩ := nme hf
  rw [← ey2] at hl
  have L19 : ∀ (k_19 : Int32 → FI → FV → Option (Int32 × FI × FV)) (hk_19 : ∀ (x2_19 : Int32) (Ig_19 : FI) (Vg_19 : FV), k_19 x2_19 Ig_19 Vg_19 = some out → ∀ (H : Heap) (locs : List Loc), va_P D vwCl (List.flatten [(w_Led cs o_g h_g Ig_19 Vg_19)]) H → va_D A (List.flatten [(w_Led cs o_g h_g Ig_19 Vg_19)]) → va_S A s.heap H locs → ∀ ls : Array Slot, lv_has ls 4 [(0, .ref o_g), (1, .int y2), (2, .int x2_19)] → W p l e rm_Led_passWeek s m args below meth c H locs 0 0 Q (F0 m 63 ls [])), ∀ (n_19 : Nat) (x2_19 : Int32) (x3_19 : Int32) (Ig_19 : FI) (Vg_19 : FV), Led_passWeek_L19 f k_19 n_19 x2_19 x3_19 Ig_19 Vg_19 = some out → ∀ (H : Heap) (locs : List Loc), va_P D vwCl (List.flatten [(w_Led cs o_g h_g Ig_19 Vg_19)]) H → va_D A (List.flatten [(w_Led cs o_g h_g Ig_19 Vg_19)]) → va_S A s.heap H locs → ∀ ls : Array Slot, lv_has ls 4 [(0, .ref o_g), (1, .int y2), (2, .int x2_19), (3, .int x3_19)] → W p l e rm_Led_passWeek s m args below meth c H locs 0 0 Q (F0 m 19 ls []) := by
    intro k_19 hk_19 n_19
    induction n_19 with
    | zero => intro x2_19 x3_19 Ig_19 Vg_19 hf; rw [Led_passWeek_L19] at hf; cases hf
    | succ n_19 ih_19 =>
      intro x2_19 x3_19 Ig_19 Vg_19 hf H locs hP hD hS ls hl
      rw [Led_passWeek_L19] at hf
      refine lv_iload_n hx hb dX3_passWeek_19 rfl (lv_at hl 3 rfl) ?_
      refine lv_aload_n hx hb dX3_passWeek_20 rfl (lv_at hl 0 rfl) ?_
      refine va_get (D := D) (ci := 3) (v := .int (Ig_19 1)) (C := RX3) (T := TX3) (N := 11) hx hb hts in_X3 hown hK hP 0 rfl rfl 1 (by decide) g_15 (fun _ h9 => h9) rfl dX3_passWeek_21 ?_
      refine lv_icmp_ge (tgt := 63) hx hb dX3_passWeek_24 (by decide) (fun c24 => ?_) (fun c24 => ?_)
      · replace hf := ip c24 hf
        exact hk_19 x2_19 Ig_19 Vg_19 hf _ _ hP hD hS _ (lv_sub hl [0, 1, 2] rfl)
      · replace hf := im c24 hf
        refine lv_aload_n hx hb dX3_passWeek_27 rfl (lv_at hl 0 rfl) ?_
        refine va_get (D := D) (ci := 3) (v := .ref (h_g 10)) (C := RX3) (T := TX3) (N := 11) hx hb hts in_X3 hown hK hP 0 rfl rfl 10 (by decide) g_43 (fun _ h9 => h9) rfl dX3_passWeek_28 ?_
        refine lv_iload_n hx hb dX3_passWeek_31 rfl (lv_at hl 3 rfl) ?_
        obtain ⟨c32, hf⟩ := gd hf
        refine va_iald (f := (Vg_19 10)) hx hb hK hP 6 0 rfl rfl c32 dX3_passWeek_32 ?_
        refine lv_aload_n hx hb dX3_passWeek_33 rfl (lv_at hl 0 rfl) ?_
        refine va_get (D := D) (ci := 3) (v := .int (Ig_19 2)) (C := RX3) (T := TX3) (N := 11) hx hb hts in_X3 hown hK hP 0 rfl rfl 2 (by decide) g_18 (fun _ h9 => h9) rfl dX3_passWeek_34 ?_
        obtain ⟨j57, ej57, hf⟩ := nme hf
        have J57 : ∀ (x2_57 : Int32) (Ig_57 : FI) (Vg_57 : FV), j57 x2_57 Ig_57 Vg_57 = some out → ∀ (H : Heap) (locs : List Loc), va_P D vwCl (List.flatten [(w_Led cs o_g h_g Ig_57 Vg_57)]) H → va_D A (List.flatten [(w_Led cs o_g h_g Ig_57 Vg_57)]) → va_S A s.heap H locs → ∀ ls : Array Slot, lv_has ls 4 [(0, .ref o_g), (1, .int y2), (2, .int x2_57), (3, .int x3_19)] → W p l e rm_Led_passWeek s m args below meth c H locs 0 0 Q (F0 m 57 ls []) := by
          intro x2_57 Ig_57 Vg_57 hf H locs hP hD hS ls hl
          rw [ej57] at hf
          refine lv_iinc (v := (x3_19 + 1)) (lv' := [(3, .int (x3_19 + 1)), (0, .ref o_g), (1, .int y2), (2, .int x2_57)]) hx hb dX3_passWeek_57 hl (k := 3) rfl (by rfl) (by decide) rfl (fun ls hl => ?_)
          refine lv_goto (tgt := 19) hx hb dX3_passWeek_60 (by decide) ?_
          exact ih_19 x2_57 (x3_19 + 1) Ig_57 Vg_57 hf _ _ hP hD hS _ (lv_sub hl [1, 2, 3, 0] rfl)
        refine lv_icmp_ne (tgt := 48) hx hb dX3_passWeek_37 (by decide) (fun c37 => ?_) (fun c37 => ?_)
        · replace hf := im c37 hf
          refine lv_aload_n hx hb dX3_passWeek_48 rfl (lv_at hl 0 rfl) ?_
          refine lv_iload_n hx hb dX3_passWeek_49 rfl (lv_at hl 3 rfl) ?_
          refine lv_iload_n hx hb dX3_passWeek_50 rfl (lv_at hl 2 rfl) ?_
          obtain ⟨V4, qr3, hf⟩ := bd1 hf
          have hFc := xfree hD hS hA
          refine va_callv (va_runV (As := [.int x3_19, .int x2_19]) (rest := []) ⟨hx, hb, hml, hown, hts⟩ (c_Led_moveDebt l D cs o_g h_g _ Ig_19 Vg_19 x3_19 x2_19 f _ qr3) w_moveDebt_92 ⟨yP_moved, va_recv hK hP (ci := 3) (q0 := 0) rfl rfl, fun U hU hW => ⟨rfl, by rw [hU], by rw [hU]; exact hP, va_K.moved hW.alike hK, yN_warm hW hN, hD.weaken (fun _ _ _ _ => trivial)⟩⟩ rfl rfl hl.1 rfl (lv_room (Nat.le_of_ble_eq_true rfl)) dX3_passWeek_51 ⟨Nat.zero_le _, Nat.zero_le _⟩) hS (fun q _ h9 => hFc q h9) hFc (fun u t H1 locs ht hvm hw hB hz1 hk1 hS => ?_)
          rw [hw] at hB
          obtain ⟨hP1, hK1, hD1⟩ := hB
          have hP : va_P D vwCl (List.flatten [(w_Led cs o_g h_g Ig_19 V4)]) H1 := by rw [← ht]; exact hP1
          have hD : va_D A (List.flatten [(w_Led cs o_g h_g Ig_19 V4)]) := hD1.weaken (fun _ q _ h9 => hFc q.1 h9)
          refine lv_iinc (v := (x2_19 + 1)) (lv' := [(2, .int (x2_19 + 1)), (0, .ref o_g), (1, .int y2), (3, .int x3_19)]) hx hb dX3_passWeek_54 hl (k := 2) rfl (by rfl) (by decide) rfl (fun ls hl => ?_)
          exact J57 (x2_19 + 1) Ig_19 V4 hf _ _ hP hD hS _ (lv_sub hl [1, 2, 0, 3] rfl)
        · replace hf := ip c37 hf
          refine lv_aload_n hx hb dX3_passWeek_40 rfl (lv_at hl 0 rfl) ?_
          refine lv_iload_n hx hb dX3_passWeek_41 rfl (lv_at hl 3 rfl) ?_
          obtain ⟨I6, V7, qr5, hf⟩ := bd2 hf
          have hFc := xfree hD hS hA
          refine va_callv (va_runV (As := [.int x3_19]) (rest := []) ⟨hx, hb, hml, hown, hts⟩ (c_Led_pay l D cs o_g h_g _ Ig_19 Vg_19 x3_19 f _ qr5) w_pay_88 ⟨yP_moved, va_recv hK hP (ci := 3) (q0 := 0) rfl rfl, fun U hU hW => ⟨rfl, by rw [hU], by rw [hU]; exact hP, va_K.moved hW.alike hK, yN_warm hW hN, hD.weaken (fun _ _ _ _ => trivial)⟩⟩ rfl rfl hl.1 rfl (lv_room (Nat.le_of_ble_eq_true rfl)) dX3_passWeek_42 ⟨Nat.zero_le _, Nat.zero_le _⟩) hS (fun q _ h9 => hFc q h9) hFc (fun u t H1 locs ht hvm hw hB hz1 hk1 hS => ?_)
          rw [hw] at hB
          obtain ⟨hP1, hK1, hD1⟩ := hB
          have hP : va_P D vwCl (List.flatten [(w_Led cs o_g h_g I6 V7)]) H1 := by rw [← ht]; exact hP1
          have hD : va_D A (List.flatten [(w_Led cs o_g h_g I6 V7)]) := hD1.weaken (fun _ q _ h9 => hFc q.1 h9)
          refine lv_goto (tgt := 57) hx hb dX3_passWeek_45 (by decide) ?_
          exact J57 x2_19 I6 V7 hf _ _ hP hD hS _ (lv_sub hl [0, 1, 2, 3] rfl)
  refine L19 _ (fun x2_19 Ig_19 Vg_19 hf H locs hP hD hS ls hl => ?_) f 0 0 I1 V_g hf _ _ hP hD hS _ (lv_sub hl [3, 2, 1, 0] rfl)
  refine lv_aload_n hx hb dX3_passWeek_63 rfl (lv_at hl 0 rfl) ?_
  refine lv_iload_n hx hb dX3_passWeek_64 rfl (lv_at hl 2 rfl) ?_
  refine va_put (D := D) (ci := 3) (v := .int x2_19) (ty := .int) (C := RX3) (T := TX3) (N := 11) hx hb hts in_X3 tyX3 tyX3_ok nmX3 hown hK hP hD hS 0 rfl rfl 1 (by decide) g_15 (fun _ h9 => h9) rfl (by decide +kernel) rfl rfl (Nat.le_of_ble_eq_true rfl) dX3_passWeek_65 (fun H locs hP hD hS => ?_)
  obtain ⟨I8, eI8, hf⟩ := nme hf
  have hP : va_P D vwCl (List.flatten [(w_Led cs o_g h_g I8 Vg_19)]) H := by rw [eI8]; exact hP
  have hD : va_D A (List.flatten [(w_Led cs o_g h_g I8 Vg_19)]) := by rw [eI8]; exact hD
  refine lv_aload_n hx hb dX3_passWeek_68 rfl (lv_at hl 0 rfl) ?_
  refine va_get (D := D) (ci := 3) (v := .int (I8 2)) (C := RX3) (T := TX3) (N := 11) hx hb hts in_X3 hown hK hP 0 rfl rfl 2 (by decide) g_18 (fun _ h9 => h9) rfl dX3_passWeek_69 ?_
  refine lv_iconst (v := 4) hx hb dX3_passWeek_72 (by decide) ?_
  refine lv_irem hx hb dX3_passWeek_73 (by decide) ?_
  obtain ⟨j81, ej81, hf⟩ := nme hf
  have J81 : ∀ (Vg_81 : FV), j81 Vg_81 = some out → ∀ (H : Heap) (locs : List Loc), va_P D vwCl (List.flatten [(w_Led cs o_g h_g I8 Vg_81)]) H → va_D A (List.flatten [(w_Led cs o_g h_g I8 Vg_81)]) → va_S A s.heap H locs → ∀ ls : Array Slot, lv_has ls 4 [(0, .ref o_g), (1, .int y2)] → W p l e rm_Led_passWeek s m args below meth c H locs 0 0 Q (F0 m 81 ls []) := by
    intro Vg_81 hf H locs hP hD hS ls hl
    rw [ej81] at hf
    refine lv_aload_n hx hb dX3_passWeek_81 rfl (lv_at hl 0 rfl) ?_
    refine va_get (D := D) (ci := 3) (v := .int (I8 4)) (C := RX3) (T := TX3) (N := 11) hx hb hts in_X3 hown hK hP 0 rfl rfl 4 (by decide) g_24 (fun _ h9 => h9) rfl dX3_passWeek_82 ?_
    refine lv_iload_n hx hb dX3_passWeek_85 rfl (lv_at hl 1 rfl) ?_
    refine lv_iconst (v := (-1)) hx hb dX3_passWeek_86 (by decide) ?_
    refine lv_ixor hx hb dX3_passWeek_87 ?_
    refine lv_iand hx hb dX3_passWeek_88 ?_
    exact hret ((I8 4) &&& (y2 ^^^ (-1))) I8 Vg_81 _ _ 89 _ hf hP hD hS dX3_passWeek_89
  refine lv_if_ne (tgt := 81) hx hb dX3_passWeek_74 (by decide) (fun c74 => ?_) (fun c74 => ?_)
  · replace hf := im c74 hf
    exact J81 Vg_19 hf _ _ hP hD hS _ (lv_sub hl [0, 1] rfl)
  · replace hf := ip c74 hf
    refine lv_aload_n hx hb dX3_passWeek_77 rfl (lv_at hl 0 rfl) ?_
    obtain ⟨V10, qr9, hf⟩ := bd1 hf
    have hFc := xfree hD hS hA
    refine va_callv (va_runV (As := []) (rest := []) ⟨hx, hb, hml, hown, hts⟩ (c_Led_goBad l D cs o_g h_g _ I8 Vg_19 f _ qr9) w_goBad_96 ⟨yP_moved, va_recv hK hP (ci := 3) (q0 := 0) rfl rfl, fun U hU hW => ⟨rfl, by rw [hU], by rw [hU]; exact hP, va_K.moved hW.alike hK, yN_warm hW hN, hD.weaken (fun _ _ _ _ => trivial)⟩⟩ rfl rfl hl.1 rfl (lv_room (Nat.le_of_ble_eq_true rfl)) dX3_passWeek_78 ⟨Nat.zero_le _, Nat.zero_le _⟩) hS (fun q _ h9 => hFc q h9) hFc (fun u t H1 locs ht hvm hw hB hz1 hk1 hS => ?_)
    rw [hw] at hB
    obtain ⟨hP1, hK1, hD1⟩ := hB
    have hP : va_P D vwCl (List.flatten [(w_Led cs o_g h_g I8 V10)]) H1 := by rw [← ht]; exact hP1
    have hD : va_D A (List.flatten [(w_Led cs o_g h_g I8 V10)]) := hD1.weaken (fun _ q _ h9 => hFc q.1 h9)
    exact J81 V10 hf _ _ hP hD hS _ (lv_sub hl [0, 1] rfl)
set_option maxHeartbeats 4000000 in
set_option maxRecDepth 100000 in
theorem c_Led_passWeek (l : Launch) (D : va_G) (cs : Nat → ClassId) (o_g : Nat) (h_g : Nat → Nat) (sz : Nat) (I_g : FI) (V_g : FV) (f : Nat) (out : Int32 × FI × FV) (hf : Led_passWeek f I_g V_g = some out) : Met l yX3_passWeek wsX3_passWeek rm_Led_passWeek (va_Pc [.ref o_g] (yP D cs (List.flatten [(w_Led cs o_g h_g I_g V_g)]) sz)) (va_Qi (fun r u => (r, u) = out) (fun (u : FI × FV) t => xA D cs (va_A (List.flatten [(w_Led cs o_g h_g I_g V_g)]) sz) (List.flatten [(w_Led cs o_g h_g u.1 u.2)]) t) (va_A (List.flatten [(w_Led cs o_g h_g I_g V_g)]) sz)) 0 0 (va_A (List.flatten [(w_Led cs o_g h_g I_g V_g)]) sz) := by
  refine Met.ofW (cc := cX3_passWeek) (maxL := 4) (ret := (some .int)) (by decide) rfl ?_
  intro p e s m args below meth c s₁ B hml hv
  obtain ⟨ha, hsz, hP, hK, hN, hD0⟩ := hv
  have hx := B.exec
  have hb := B.bytes
  have hr := B.returns
  have hts := atoms_spec (ws := wsX3_passWeek) B.pre
  have hown : s.vm.findClass RX3 = some m.cls := findClass_of_methodNamed B.named
  have hlocks := B.notSynchronized
  have in_X3 : ∀ w ∈ u_ws RX3 TX3 11, w ∈ wsX3_passWeek := fun w h => List.mem_cons_of_mem _ (List.mem_append_right _ h)
  have g_24 := hts (Cond.fieldLink RX3 24 "DaysLent$Ledger" "broken" "I") (by decide +kernel)
  have g_18 := hts (Cond.fieldLink RX3 18 "DaysLent$Ledger" "weekNumber" "I") (by decide +kernel)
  have g_15 := hts (Cond.fieldLink RX3 15 "DaysLent$Ledger" "debts" "I") (by decide +kernel)
  have g_43 := hts (Cond.fieldLink RX3 43 "DaysLent$Ledger" "due" "[I") (by decide +kernel)
  have w_pay_88 := cwV (R := rm_Led_passWeek) (s := s) (args := args) (rm := rm_Led_pay) (mc := 0) (ms := 0) 1 hts gX3_passWeek_X3_pay rfl rfl rfl (by decide +kernel) ⟨Nat.le_of_ble_eq_true rfl, Nat.le_of_ble_eq_true rfl⟩
  have w_moveDebt_92 := cwV (R := rm_Led_passWeek) (s := s) (args := args) (rm := rm_Led_moveDebt) (mc := 0) (ms := 0) 2 hts gX3_passWeek_X3_moveDebt rfl rfl rfl (by decide +kernel) ⟨Nat.le_of_ble_eq_true rfl, Nat.le_of_ble_eq_true rfl⟩
  have w_goBad_96 := cwV (R := rm_Led_passWeek) (s := s) (args := args) (rm := rm_Led_goBad) (mc := 0) (ms := 0) 0 hts gX3_passWeek_X3_goBad rfl rfl rfl (by decide +kernel) ⟨Nat.le_of_ble_eq_true rfl, Nat.le_of_ble_eq_true rfl⟩
  subst hsz
  have hD := hD0.self (sz := s.heap.size)
  generalize hAe : va_A (List.flatten [(w_Led cs o_g h_g I_g V_g)]) s.heap.size = A at hD ⊢
  have hA : ∀ q : Nat, s.heap.size ≤ q → A q := fun q h => by rw [← hAe]; exact Or.inr h
  have hl := lv_entry ([.ref o_g]) (n := 4) (Nat.le_of_ble_eq_true rfl)
  rw [show entryFrame m args 4 = entryFrame m ([.ref o_g] : List Value).toArray 4 from by rw [ha], lg_entry_eq]
  generalize (lg_sl ([.ref o_g]) ++ List.replicate (4 - (lg_sl ([.ref o_g])).length) Slot.unset).toArray = ls at hl ⊢
  generalize hQ : MQ below (va_Qi (fun r u => (r, u) = out) (fun (u : FI × FV) t => xA D cs A (List.flatten [(w_Led cs o_g h_g u.1 u.2)]) t) A) args s 0 0 A = Q
  have hret : ∀ (v : Int32) (Ig9 : FI) (Vg9 : FV) (H : Heap) (locs : List Loc) (pc : Nat) (ls : Array Slot), some (v, Ig9, Vg9) = some out → va_P D vwCl (List.flatten [(w_Led cs o_g h_g Ig9 Vg9)]) H → va_D A (List.flatten [(w_Led cs o_g h_g Ig9 Vg9)]) → va_S A s.heap H locs → decode cX3_passWeek pc = .ok (.ireturn, 1) → W p l e rm_Led_passWeek s m args below meth c H locs 0 0 Q (F0 m pc ls [.int v]) := by
    intro v Ig9 Vg9 H locs pc ls hf hP hD hS hd
    rw [← hQ]
    exact W.iret (v := v) hx hb hr (fun t ht hW => ⟨⟨v, (Ig9, Vg9), rfl, Option.some.inj hf, by show va_P D vwCl (List.flatten [(w_Led cs o_g h_g Ig9 Vg9)]) t.heap; rw [ht]; exact hP, va_K.moved hW.alike hK, hD⟩, hS.F ht⟩) hS.2.2 hd
  exact v_Led_passWeek hf hx hb hml hown hts in_X3 g_24 g_18 g_15 g_43 w_pay_88 w_moveDebt_92 w_goBad_96 hA hP hD hK hN hret ls hl
def Led_leastOf_L2 (f : Nat) (I_g : FI) (x1 : Int32) (k_2 : Unit → Option (Int32)) : Nat → Int32 → Option (Int32)
  | 0, _ => none
  | n_2 + 1, x2_2 => (if (I_g 0) ≤ x2_2 then (k_2 ()) else ob1 (X_isIn f x1 x2_2) (fun zr1 => (if zr1 = 0 then (Led_leastOf_L2 f I_g x1 k_2 n_2 (x2_2 + 1)) else some x2_2)))
def Led_leastOf (f : Nat) (x1 : Int32) (I_g : FI) (V_g : FV) : Option (Int32) := (Led_leastOf_L2 f I_g x1 (fun (u_2 : Unit) => some 0) f 0)
abbrev rm_Led_leastOf : Room := { frames := 1, cells := 0, slots := 0, locals := 21 }
set_option maxHeartbeats 4000000 in
set_option maxRecDepth 100000 in
theorem v_Led_leastOf {l : Launch} {p : Program} {e : Env} {s : State} {m : MethodId} {args : Array Value} {below : List Frame} {meth : Method} {c : Code} {Q : State → Prop} {D : va_G} {cs : Nat → ClassId} {o_g : Nat} {h_g : Nat → Nat} {I_g : FI} {V_g : FV} {x1 : Int32} {f : Nat} {out : Int32} (hf : Led_leastOf f x1 I_g V_g = some out) (hx : p.tables.exec = Jvm.exec) (hb : c.code = cX3_leastOf) (hml : c.maxLocals = 3) (hown : s.vm.findClass RX3 = some m.cls) (hts : ∀ w ∈ wsX3_leastOf, w.before args s = true) (in_X3 : ∀ w ∈ u_ws RX3 TX3 11, w ∈ wsX3_leastOf) (g_9 : (Cond.fieldLink RX3 9 "DaysLent$Ledger" "people" "I").before args s = true) (w_isIn_60 : va_CN rm_Led_leastOf s args RX3 60 yX9_isIn "DaysLent" cX9_isIn 2 (some .boolean) wsX9_isIn rm_X_isIn 0 0 2 ∧ (Cond.static yX9_isIn).before args s = true ∧ True) (hP : va_P D vwCl (List.flatten [(w_Led cs o_g h_g I_g V_g)]) s.heap) (hK : va_K D vwCl (tyA cs) s) (hN : yN s) (hret : ∀ (v : Int32) (pc : Nat) (ls : Array Slot), some v = some out → decode cX3_leastOf pc = .ok (.ireturn, 1) → W p l e rm_Led_leastOf s m args below meth c s.heap [] 0 0 Q (F0 m pc ls [.int v])) : ∀ ls : Array Slot, lv_has ls 3 [(0, .ref o_g), (1, .int x1)] → W p l e rm_Led_leastOf s m args below meth c s.heap [] 0 0 Q (F0 m 0 ls []) := by
  intro ls hl
  unfold Led_leastOf at hf
  refine lv_iconst (v := 0) hx hb dX3_leastOf_0 (by decide) ?_
  refine lv_istore_n (lv' := [(2, .int 0), (0, .ref o_g), (1, .int x1)]) hx hb dX3_leastOf_1 rfl hl (by decide) rfl (fun ls hl => ?_)
  have L2 : ∀ (k_2 : Unit → Option (Int32)) (hk_2 : ∀ (u_2 : Unit), k_2 u_2 = some out → ∀ ls : Array Slot, lv_has ls 3 [] → W p l e rm_Led_leastOf s m args below meth c s.heap [] 0 0 Q (F0 m 26 ls [])), ∀ (n_2 : Nat) (x2_2 : Int32), Led_leastOf_L2 f I_g x1 k_2 n_2 x2_2 = some out → ∀ ls : Array Slot, lv_has ls 3 [(0, .ref o_g), (1, .int x1), (2, .int x2_2)] → W p l e rm_Led_leastOf s m args below meth c s.heap [] 0 0 Q (F0 m 2 ls []) := by
    intro k_2 hk_2 n_2
    induction n_2 with
    | zero => intro x2_2 hf; rw [Led_leastOf_L2] at hf; cases hf
    | succ n_2 ih_2 =>
      intro x2_2 hf ls hl
      rw [Led_leastOf_L2] at hf
      refine lv_iload_n hx hb dX3_leastOf_2 rfl (lv_at hl 2 rfl) ?_
      refine lv_aload_n hx hb dX3_leastOf_3 rfl (lv_at hl 0 rfl) ?_
      refine va_get (D := D) (ci := 3) (v := .int (I_g 0)) (C := RX3) (T := TX3) (N := 11) hx hb hts in_X3 hown hK hP 0 rfl rfl 0 (by decide) g_9 (fun _ h9 => h9) rfl dX3_leastOf_4 ?_
      refine lv_icmp_ge (tgt := 26) hx hb dX3_leastOf_7 (by decide) (fun c7 => ?_) (fun c7 => ?_)
      · replace hf := ip c7 hf
        exact hk_2 () hf _ (lv_sub hl [] rfl)
      · replace hf := im c7 hf
        refine lv_iload_n hx hb dX3_leastOf_10 rfl (lv_at hl 1 rfl) ?_
        refine lv_iload_n hx hb dX3_leastOf_11 rfl (lv_at hl 2 rfl) ?_
        obtain ⟨zr1, qr1, hf⟩ := bd1 hf
        refine vp_callSi (va_Run.run (va_runSN (As := [.int x1, .int x2_2]) (rest := []) ⟨hx, hb, hml, hown, hts⟩ (c_X_isIn l x1 x2_2 f zr1 qr1) w_isIn_60 ⟨fun a U g mk q => q, fun U hU hW => ⟨rfl, trivial⟩⟩ rfl rfl hl.1 rfl (lv_room (Nat.le_of_ble_eq_true rfl)) dX3_leastOf_12 ⟨Nat.zero_le _, Nat.zero_le _⟩)) (fun r1 er1 => ?_)
        rw [er1]
        refine lv_if_eq (tgt := 20) hx hb dX3_leastOf_15 (by decide) (fun c15 => ?_) (fun c15 => ?_)
        · replace hf := ip c15 hf
          refine lv_iinc (v := (x2_2 + 1)) (lv' := [(2, .int (x2_2 + 1)), (0, .ref o_g), (1, .int x1)]) hx hb dX3_leastOf_20 hl (k := 2) rfl (by rfl) (by decide) rfl (fun ls hl => ?_)
          refine lv_goto (tgt := 2) hx hb dX3_leastOf_23 (by decide) ?_
          exact ih_2 (x2_2 + 1) hf _ (lv_sub hl [1, 2, 0] rfl)
        · replace hf := im c15 hf
          refine lv_iload_n hx hb dX3_leastOf_18 rfl (lv_at hl 2 rfl) ?_
          exact hret x2_2 19 _ hf dX3_leastOf_19
  refine L2 _ (fun u_2 hf ls hl => ?_) f 0 hf _ (lv_sub hl [1, 2, 0] rfl)
  refine lv_iconst (v := 0) hx hb dX3_leastOf_26 (by decide) ?_
  exact hret 0 27 _ hf dX3_leastOf_27
set_option maxHeartbeats 4000000 in
set_option maxRecDepth 100000 in
theorem c_Led_leastOf (l : Launch) (D : va_G) (cs : Nat → ClassId) (o_g : Nat) (h_g : Nat → Nat) (I_g : FI) (V_g : FV) (x1 : Int32) (f : Nat) (out : Int32) (hf : Led_leastOf f x1 I_g V_g = some out) : Met l yX3_leastOf wsX3_leastOf rm_Led_leastOf (va_Pc [.ref o_g, .int x1] (yR D cs (List.flatten [(w_Led cs o_g h_g I_g V_g)]))) (vp_Si (fun r => r = out)) 0 0 (fun _ => False) := by
  refine Met.ofW (cc := cX3_leastOf) (maxL := 3) (ret := (some .int)) (by decide) rfl ?_
  intro p e s m args below meth c s₁ B hml hv
  obtain ⟨ha, hP, hK, hN⟩ := hv
  have hx := B.exec
  have hb := B.bytes
  have hr := B.returns
  have hts := atoms_spec (ws := wsX3_leastOf) B.pre
  have hown : s.vm.findClass RX3 = some m.cls := findClass_of_methodNamed B.named
  have hlocks := B.notSynchronized
  have in_X3 : ∀ w ∈ u_ws RX3 TX3 11, w ∈ wsX3_leastOf := fun w h => List.mem_cons_of_mem _ (List.mem_append_right _ h)
  have g_9 := hts (Cond.fieldLink RX3 9 "DaysLent$Ledger" "people" "I") (by decide +kernel)
  have w_isIn_60 : va_CN rm_Led_leastOf s args RX3 60 yX9_isIn "DaysLent" cX9_isIn 2 (some .boolean) wsX9_isIn rm_X_isIn 0 0 2 ∧ (Cond.static yX9_isIn).before args s = true ∧ True := ⟨va_cnB (R := rm_Led_leastOf) (s := s) (args := args) (rm := rm_X_isIn) (mc := 0) (ms := 0) 2 hts gX3_leastOf_X9_isIn_n60 rfl rfl rfl hN.1 (hts (.initialized RX9) (by decide +kernel)) (by decide +kernel) ⟨Nat.le_of_ble_eq_true rfl, Nat.le_of_ble_eq_true rfl⟩, hts (.static yX9_isIn) (by decide +kernel), trivial⟩
  have hl := lv_entry ([.ref o_g, .int x1]) (n := 3) (Nat.le_of_ble_eq_true rfl)
  rw [show entryFrame m args 3 = entryFrame m ([.ref o_g, .int x1] : List Value).toArray 3 from by rw [ha], lg_entry_eq]
  generalize (lg_sl ([.ref o_g, .int x1]) ++ List.replicate (3 - (lg_sl ([.ref o_g, .int x1])).length) Slot.unset).toArray = ls at hl ⊢
  generalize hQ : MQ below (vp_Si (fun r => r = out)) args s 0 0 (fun _ => False) = Q
  have hret : ∀ (v : Int32) (pc : Nat) (ls : Array Slot), some v = some out → decode cX3_leastOf pc = .ok (.ireturn, 1) → W p l e rm_Led_leastOf s m args below meth c s.heap [] 0 0 Q (F0 m pc ls [.int v]) := by
    intro v pc ls hf hd
    rw [← hQ]
    exact W.iret (v := v) hx hb hr (fun t ht hW => ⟨v, rfl, Option.some.inj hf, ht⟩) (fun q h => by cases h) hd
  exact v_Led_leastOf hf hx hb hml hown hts in_X3 g_9 w_isIn_60 hP hK hN hret ls hl
def Led_passDebtsOn_L11 {ρ : Type} (f : Nat) (y1 : Int32) (I_g : FI) (x1 : Int32) (x2 : Int32) (k_11 : Int32 → FV → Option ρ) : Nat → Int32 → Int32 → FV → Option ρ
  | 0, _, _, _ => none
  | n_11 + 1, x4_11, x5_11, Vg_11 => (if y1 ≤ x5_11 then (k_11 x4_11 Vg_11) else if x5_11 < 0 ∨ 12 ≤ x5_11.toNatClampNeg then none else ((nm (fun (Vg_36 : FV) => if x5_11 < 0 ∨ 12 ≤ x5_11.toNatClampNeg then none else ((nm (fun (Vg_55 : FV) => if x5_11 < 0 ∨ 12 ≤ x5_11.toNatClampNeg then none else (if x5_11 < 0 ∨ 12 ≤ x5_11.toNatClampNeg then none else ((nm (fun (x4_83 : Int32) (Vg_83 : FV) => (Led_passDebtsOn_L11 f y1 I_g x1 x2 k_11 n_11 x4_83 (x5_11 + 1) Vg_83)) (fun j83 => (if ((Vg_55 7) x5_11.toNatClampNeg) = ((Vg_55 8) x5_11.toNatClampNeg) then (j83 x4_11 Vg_55) else ob1 (Led_moveDebt f x5_11 x4_11 I_g Vg_55) (fun V3 => (j83 (x4_11 + 1) V3)))))))) (fun j55 => (if ((Vg_36 8) x5_11.toNatClampNeg) = x1 then if x5_11 < 0 ∨ 12 ≤ x5_11.toNatClampNeg then none else (nm (va_up Vg_36 8 (upd (Vg_36 8) x5_11.toNatClampNeg x2)) (fun V4 => (j55 V4))) else (j55 Vg_36)))))) (fun j36 => (if ((Vg_11 7) x5_11.toNatClampNeg) = x1 then if x5_11 < 0 ∨ 12 ≤ x5_11.toNatClampNeg then none else (nm (va_up Vg_11 7 (upd (Vg_11 7) x5_11.toNatClampNeg x2)) (fun V5 => (j36 V5))) else (j36 Vg_11))))))
def Led_passDebtsOn (f : Nat) (x1 : Int32) (x2 : Int32) (I_g : FI) (V_g : FV) : Option (Int32 × FI × FV) := nm (I_g 1) (fun y1 => (Led_passDebtsOn_L11 f y1 I_g x1 x2 (fun (x4_11 : Int32) (Vg_11 : FV) => nm (va_up I_g 1 x4_11) (fun I6 => some ((y1 - x4_11), I6, Vg_11))) f 0 0 V_g))
abbrev rm_Led_passDebtsOn : Room := { frames := 1, cells := 0, slots := 0, locals := 22 }
set_option maxHeartbeats 4000000 in
set_option maxRecDepth 100000 in
theorem v_Led_passDebtsOn {l : Launch} {p : Program} {e : Env} {s : State} {m : MethodId} {args : Array Value} {below : List Frame} {meth : Method} {c : Code} {Q : State → Prop} {D : va_G} {cs : Nat → ClassId} {o_g : Nat} {h_g : Nat → Nat} {A : Nat → Prop} {I_g : FI} {V_g : FV} {x1 : Int32} {x2 : Int32} {f : Nat} {out : Int32 × FI × FV} (hf : Led_passDebtsOn f x1 x2 I_g V_g = some out) (hx : p.tables.exec = Jvm.exec) (hb : c.code = cX3_passDebtsOn) (hml : c.maxLocals = 6) (hown : s.vm.findClass RX3 = some m.cls) (hts : ∀ w ∈ wsX3_passDebtsOn, w.before args s = true) (in_X3 : ∀ w ∈ u_ws RX3 TX3 11, w ∈ wsX3_passDebtsOn) (g_15 : (Cond.fieldLink RX3 15 "DaysLent$Ledger" "debts" "I").before args s = true) (g_34 : (Cond.fieldLink RX3 34 "DaysLent$Ledger" "creditor" "[I").before args s = true) (g_37 : (Cond.fieldLink RX3 37 "DaysLent$Ledger" "debtor" "[I").before args s = true) (w_moveDebt_92 : CallW rm_Led_passDebtsOn s args RX3 RX3 92 yX3_moveDebt cX3_moveDebt 3 none wsX3_moveDebt rm_Led_moveDebt 0 0 2) (hA : ∀ q : Nat, s.heap.size ≤ q → A q) (hP : va_P D vwCl (List.flatten [(w_Led cs o_g h_g I_g V_g)]) s.heap) (hD : va_D A (List.flatten [(w_Led cs o_g h_g I_g V_g)])) (hK : va_K D vwCl (tyA cs) s) (hN : yN s) (hret : ∀ (v : Int32) (Ig9 : FI) (Vg9 : FV) (H : Heap) (locs : List Loc) (pc : Nat) (ls : Array Slot), some (v, Ig9, Vg9) = some out → va_P D vwCl (List.flatten [(w_Led cs o_g h_g Ig9 Vg9)]) H → va_D A (List.flatten [(w_Led cs o_g h_g Ig9 Vg9)]) → va_S A s.heap H locs → decode cX3_passDebtsOn pc = .ok (.ireturn, 1) → W p l e rm_Led_passDebtsOn s m args below meth c H locs 0 0 Q (F0 m pc ls [.int v])) : ∀ ls : Array Slot, lv_has ls 6 [(0, .ref o_g), (1, .int x1), (2, .int x2)] → W p l e rm_Led_passDebtsOn s m args below meth c s.heap [] 0 0 Q (F0 m 0 ls []) := by
  intro ls hl
  have hS : va_S A s.heap s.heap [] := va_S.rf
  unfold Led_passDebtsOn at hf
  refine lv_aload_n hx hb dX3_passDebtsOn_0 rfl (lv_at hl 0 rfl) ?_
  refine va_get (D := D) (ci := 3) (v := .int (I_g 1)) (C := RX3) (T := TX3) (N := 11) hx hb hts in_X3 hown hK hP 0 rfl rfl 1 (by decide) g_15 (fun _ h9 => h9) rfl dX3_passDebtsOn_1 ?_
  refine lv_istore_n (lv' := [(3, .int (I_g 1)), (0, .ref o_g), (1, .int x1), (2, .int x2)]) hx hb dX3_passDebtsOn_4 rfl hl (by decide) rfl (fun ls hl => ?_)
  refine lv_iconst (v := 0) hx hb dX3_passDebtsOn_5 (by decide) ?_
  refine lv_istore (lv' := [(4, .int 0), (3, .int (I_g 1)), (0, .ref o_g), (1, .int x1), (2, .int x2)]) hx hb dX3_passDebtsOn_6 hl (by decide) rfl (fun ls hl => ?_)
  refine lv_iconst (v := 0) hx hb dX3_passDebtsOn_8 (by decide) ?_
  refine lv_istore (lv' := [(5, .int 0), (4, .int 0), (3, .int (I_g 1)), (0, .ref o_g), (1, .int x1), (2, .int x2)]) hx hb dX3_passDebtsOn_9 hl (by decide) rfl (fun ls hl => ?_)
  obtain ⟨y1, ey1, hf⟩ := nme hf
  rw [← ey1] at hl
  have L11 : ∀ (k_11 : Int32 → FV → Option (Int32 × FI × FV)) (hk_11 : ∀ (x4_11 : Int32) (Vg_11 : FV), k_11 x4_11 Vg_11 = some out → ∀ (H : Heap) (locs : List Loc), va_P D vwCl (List.flatten [(w_Led cs o_g h_g I_g Vg_11)]) H → va_D A (List.flatten [(w_Led cs o_g h_g I_g Vg_11)]) → va_S A s.heap H locs → ∀ ls : Array Slot, lv_has ls 6 [(0, .ref o_g), (3, .int y1), (4, .int x4_11)] → W p l e rm_Led_passDebtsOn s m args below meth c H locs 0 0 Q (F0 m 89 ls [])), ∀ (n_11 : Nat) (x4_11 : Int32) (x5_11 : Int32) (Vg_11 : FV), Led_passDebtsOn_L11 f y1 I_g x1 x2 k_11 n_11 x4_11 x5_11 Vg_11 = some out → ∀ (H : Heap) (locs : List Loc), va_P D vwCl (List.flatten [(w_Led cs o_g h_g I_g Vg_11)]) H → va_D A (List.flatten [(w_Led cs o_g h_g I_g Vg_11)]) → va_S A s.heap H locs → ∀ ls : Array Slot, lv_has ls 6 [(0, .ref o_g), (1, .int x1), (2, .int x2), (3, .int y1), (4, .int x4_11), (5, .int x5_11)] → W p l e rm_Led_passDebtsOn s m args below meth c H locs 0 0 Q (F0 m 11 ls []) := by
    intro k_11 hk_11 n_11
    induction n_11 with
    | zero => intro x4_11 x5_11 Vg_11 hf; rw [Led_passDebtsOn_L11] at hf; cases hf
    | succ n_11 ih_11 =>
      intro x4_11 x5_11 Vg_11 hf H locs hP hD hS ls hl
      rw [Led_passDebtsOn_L11] at hf
      refine lv_iload hx hb dX3_passDebtsOn_11 (lv_at hl 5 rfl) ?_
      refine lv_iload_n hx hb dX3_passDebtsOn_13 rfl (lv_at hl 3 rfl) ?_
      refine lv_icmp_ge (tgt := 89) hx hb dX3_passDebtsOn_14 (by decide) (fun c14 => ?_) (fun c14 => ?_)
      · replace hf := ip c14 hf
        exact hk_11 x4_11 Vg_11 hf _ _ hP hD hS _ (lv_sub hl [0, 3, 4] rfl)
      · replace hf := im c14 hf
        refine lv_aload_n hx hb dX3_passDebtsOn_17 rfl (lv_at hl 0 rfl) ?_
        refine va_get (D := D) (ci := 3) (v := .ref (h_g 7)) (C := RX3) (T := TX3) (N := 11) hx hb hts in_X3 hown hK hP 0 rfl rfl 7 (by decide) g_34 (fun _ h9 => h9) rfl dX3_passDebtsOn_18 ?_
        refine lv_iload hx hb dX3_passDebtsOn_21 (lv_at hl 5 rfl) ?_
        obtain ⟨c23, hf⟩ := gd hf
        refine va_iald (f := (Vg_11 7)) hx hb hK hP 3 0 rfl rfl c23 dX3_passDebtsOn_23 ?_
        refine lv_iload_n hx hb dX3_passDebtsOn_24 rfl (lv_at hl 1 rfl) ?_
        obtain ⟨j36, ej36, hf⟩ := nme hf
        have J36 : ∀ (Vg_36 : FV), j36 Vg_36 = some out → ∀ (H : Heap) (locs : List Loc), va_P D vwCl (List.flatten [(w_Led cs o_g h_g I_g Vg_36)]) H → va_D A (List.flatten [(w_Led cs o_g h_g I_g Vg_36)]) → va_S A s.heap H locs → ∀ ls : Array Slot, lv_has ls 6 [(0, .ref o_g), (1, .int x1), (2, .int x2), (3, .int y1), (4, .int x4_11), (5, .int x5_11)] → W p l e rm_Led_passDebtsOn s m args below meth c H locs 0 0 Q (F0 m 36 ls []) := by
          intro Vg_36 hf H locs hP hD hS ls hl
          rw [ej36] at hf
          refine lv_aload_n hx hb dX3_passDebtsOn_36 rfl (lv_at hl 0 rfl) ?_
          refine va_get (D := D) (ci := 3) (v := .ref (h_g 8)) (C := RX3) (T := TX3) (N := 11) hx hb hts in_X3 hown hK hP 0 rfl rfl 8 (by decide) g_37 (fun _ h9 => h9) rfl dX3_passDebtsOn_37 ?_
          refine lv_iload hx hb dX3_passDebtsOn_40 (lv_at hl 5 rfl) ?_
          obtain ⟨c42, hf⟩ := gd hf
          refine va_iald (f := (Vg_36 8)) hx hb hK hP 4 0 rfl rfl c42 dX3_passDebtsOn_42 ?_
          refine lv_iload_n hx hb dX3_passDebtsOn_43 rfl (lv_at hl 1 rfl) ?_
          obtain ⟨j55, ej55, hf⟩ := nme hf
          have J55 : ∀ (Vg_55 : FV), j55 Vg_55 = some out → ∀ (H : Heap) (locs : List Loc), va_P D vwCl (List.flatten [(w_Led cs o_g h_g I_g Vg_55)]) H → va_D A (List.flatten [(w_Led cs o_g h_g I_g Vg_55)]) → va_S A s.heap H locs → ∀ ls : Array Slot, lv_has ls 6 [(0, .ref o_g), (1, .int x1), (2, .int x2), (3, .int y1), (4, .int x4_11), (5, .int x5_11)] → W p l e rm_Led_passDebtsOn s m args below meth c H locs 0 0 Q (F0 m 55 ls []) := by
            intro Vg_55 hf H locs hP hD hS ls hl
            rw [ej55] at hf
            refine lv_aload_n hx hb dX3_passDebtsOn_55 rfl (lv_at hl 0 rfl) ?_
            refine va_get (D := D) (ci := 3) (v := .ref (h_g 7)) (C := RX3) (T := TX3) (N := 11) hx hb hts in_X3 hown hK hP 0 rfl rfl 7 (by decide) g_34 (fun _ h9 => h9) rfl dX3_passDebtsOn_56 ?_
            refine lv_iload hx hb dX3_passDebtsOn_59 (lv_at hl 5 rfl) ?_
            obtain ⟨c61, hf⟩ := gd hf
            refine va_iald (f := (Vg_55 7)) hx hb hK hP 3 0 rfl rfl c61 dX3_passDebtsOn_61 ?_
            refine lv_aload_n hx hb dX3_passDebtsOn_62 rfl (lv_at hl 0 rfl) ?_
            refine va_get (D := D) (ci := 3) (v := .ref (h_g 8)) (C := RX3) (T := TX3) (N := 11) hx hb hts in_X3 hown hK hP 0 rfl rfl 8 (by decide) g_37 (fun _ h9 => h9) rfl dX3_passDebtsOn_63 ?_
            refine lv_iload hx hb dX3_passDebtsOn_66 (lv_at hl 5 rfl) ?_
            obtain ⟨c68, hf⟩ := gd hf
            refine va_iald (f := (Vg_55 8)) hx hb hK hP 4 0 rfl rfl c68 dX3_passDebtsOn_68 ?_
            obtain ⟨j83, ej83, hf⟩ := nme hf
            have J83 : ∀ (x4_83 : Int32) (Vg_83 : FV), j83 x4_83 Vg_83 = some out → ∀ (H : Heap) (locs : List Loc), va_P D vwCl (List.flatten [(w_Led cs o_g h_g I_g Vg_83)]) H → va_D A (List.flatten [(w_Led cs o_g h_g I_g Vg_83)]) → va_S A s.heap H locs → ∀ ls : Array Slot, lv_has ls 6 [(0, .ref o_g), (1, .int x1), (2, .int x2), (3, .int y1), (4, .int x4_83), (5, .int x5_11)] → W p l e rm_Led_passDebtsOn s m args below meth c H locs 0 0 Q (F0 m 83 ls []) := by
              intro x4_83 Vg_83 hf H locs hP hD hS ls hl
              rw [ej83] at hf
              refine lv_iinc (v := (x5_11 + 1)) (lv' := [(5, .int (x5_11 + 1)), (0, .ref o_g), (1, .int x1), (2, .int x2), (3, .int y1), (4, .int x4_83)]) hx hb dX3_passDebtsOn_83 hl (k := 5) rfl (by rfl) (by decide) rfl (fun ls hl => ?_)
              refine lv_goto (tgt := 11) hx hb dX3_passDebtsOn_86 (by decide) ?_
              exact ih_11 x4_83 (x5_11 + 1) Vg_83 hf _ _ hP hD hS _ (lv_sub hl [1, 2, 3, 4, 5, 0] rfl)
            refine lv_icmp_eq (tgt := 83) hx hb dX3_passDebtsOn_69 (by decide) (fun c69 => ?_) (fun c69 => ?_)
            · replace hf := ip c69 hf
              exact J83 x4_11 Vg_55 hf _ _ hP hD hS _ (lv_sub hl [0, 1, 2, 3, 4, 5] rfl)
            · replace hf := im c69 hf
              refine lv_aload_n hx hb dX3_passDebtsOn_72 rfl (lv_at hl 0 rfl) ?_
              refine lv_iload hx hb dX3_passDebtsOn_73 (lv_at hl 5 rfl) ?_
              refine lv_iload hx hb dX3_passDebtsOn_75 (lv_at hl 4 rfl) ?_
              obtain ⟨V3, qr2, hf⟩ := bd1 hf
              have hFc := xfree hD hS hA
              refine va_callv (va_runV (As := [.int x5_11, .int x4_11]) (rest := []) ⟨hx, hb, hml, hown, hts⟩ (c_Led_moveDebt l D cs o_g h_g _ I_g Vg_55 x5_11 x4_11 f _ qr2) w_moveDebt_92 ⟨yP_moved, va_recv hK hP (ci := 3) (q0 := 0) rfl rfl, fun U hU hW => ⟨rfl, by rw [hU], by rw [hU]; exact hP, va_K.moved hW.alike hK, yN_warm hW hN, hD.weaken (fun _ _ _ _ => trivial)⟩⟩ rfl rfl hl.1 rfl (lv_room (Nat.le_of_ble_eq_true rfl)) dX3_passDebtsOn_77 ⟨Nat.zero_le _, Nat.zero_le _⟩) hS (fun q _ h9 => hFc q h9) hFc (fun u t H1 locs ht hvm hw hB hz1 hk1 hS => ?_)
              rw [hw] at hB
              obtain ⟨hP1, hK1, hD1⟩ := hB
              have hP : va_P D vwCl (List.flatten [(w_Led cs o_g h_g I_g V3)]) H1 := by rw [← ht]; exact hP1
              have hD : va_D A (List.flatten [(w_Led cs o_g h_g I_g V3)]) := hD1.weaken (fun _ q _ h9 => hFc q.1 h9)
              refine lv_iinc (v := (x4_11 + 1)) (lv' := [(4, .int (x4_11 + 1)), (0, .ref o_g), (1, .int x1), (2, .int x2), (3, .int y1), (5, .int x5_11)]) hx hb dX3_passDebtsOn_80 hl (k := 4) rfl (by rfl) (by decide) rfl (fun ls hl => ?_)
              exact J83 (x4_11 + 1) V3 hf _ _ hP hD hS _ (lv_sub hl [1, 2, 3, 4, 0, 5] rfl)
          refine lv_icmp_ne (tgt := 55) hx hb dX3_passDebtsOn_44 (by decide) (fun c44 => ?_) (fun c44 => ?_)
          · replace hf := im c44 hf
            exact J55 Vg_36 hf _ _ hP hD hS _ (lv_sub hl [0, 1, 2, 3, 4, 5] rfl)
          · replace hf := ip c44 hf
            refine lv_aload_n hx hb dX3_passDebtsOn_47 rfl (lv_at hl 0 rfl) ?_
            refine va_get (D := D) (ci := 3) (v := .ref (h_g 8)) (C := RX3) (T := TX3) (N := 11) hx hb hts in_X3 hown hK hP 0 rfl rfl 8 (by decide) g_37 (fun _ h9 => h9) rfl dX3_passDebtsOn_48 ?_
            refine lv_iload hx hb dX3_passDebtsOn_51 (lv_at hl 5 rfl) ?_
            refine lv_iload_n hx hb dX3_passDebtsOn_53 rfl (lv_at hl 2 rfl) ?_
            obtain ⟨c54, hf⟩ := gd hf
            refine va_iast (f := (Vg_36 8)) hx hb hK hP hD hS 4 0 rfl rfl c54 dX3_passDebtsOn_54 (fun H locs hP hD hS => ?_)
            obtain ⟨V4, eV4, hf⟩ := nme hf
            have hP : va_P D vwCl (List.flatten [(w_Led cs o_g h_g I_g V4)]) H := by rw [eV4]; exact hP
            have hD : va_D A (List.flatten [(w_Led cs o_g h_g I_g V4)]) := by rw [eV4]; exact hD
            exact J55 V4 hf _ _ hP hD hS _ (lv_sub hl [0, 1, 2, 3, 4, 5] rfl)
        refine lv_icmp_ne (tgt := 36) hx hb dX3_passDebtsOn_25 (by decide) (fun c25 => ?_) (fun c25 => ?_)
        · replace hf := im c25 hf
          exact J36 Vg_11 hf _ _ hP hD hS _ (lv_sub hl [0, 1, 2, 3, 4, 5] rfl)
        · replace hf := ip c25 hf
          refine lv_aload_n hx hb dX3_passDebtsOn_28 rfl (lv_at hl 0 rfl) ?_
          refine va_get (D := D) (ci := 3) (v := .ref (h_g 7)) (C := RX3) (T := TX3) (N := 11) hx hb hts in_X3 hown hK hP 0 rfl rfl 7 (by decide) g_34 (fun _ h9 => h9) rfl dX3_passDebtsOn_29 ?_
          refine lv_iload hx hb dX3_passDebtsOn_32 (lv_at hl 5 rfl) ?_
          refine lv_iload_n hx hb dX3_passDebtsOn_34 rfl (lv_at hl 2 rfl) ?_
          obtain ⟨c35, hf⟩ := gd hf
          refine va_iast (f := (Vg_11 7)) hx hb hK hP hD hS 3 0 rfl rfl c35 dX3_passDebtsOn_35 (fun H locs hP hD hS => ?_)
          obtain ⟨V5, eV5, hf⟩ := nme hf
          have hP : va_P D vwCl (List.flatten [(w_Led cs o_g h_g I_g V5)]) H := by rw [eV5]; exact hP
          have hD : va_D A (List.flatten [(w_Led cs o_g h_g I_g V5)]) := by rw [eV5]; exact hD
          exact J36 V5 hf _ _ hP hD hS _ (lv_sub hl [0, 1, 2, 3, 4, 5] rfl)
  refine L11 _ (fun x4_11 Vg_11 hf H locs hP hD hS ls hl => ?_) f 0 0 V_g hf _ _ hP hD hS _ (lv_sub hl [3, 4, 5, 2, 1, 0] rfl)
  refine lv_aload_n hx hb dX3_passDebtsOn_89 rfl (lv_at hl 0 rfl) ?_
  refine lv_iload hx hb dX3_passDebtsOn_90 (lv_at hl 2 rfl) ?_
  refine va_put (D := D) (ci := 3) (v := .int x4_11) (ty := .int) (C := RX3) (T := TX3) (N := 11) hx hb hts in_X3 tyX3 tyX3_ok nmX3 hown hK hP hD hS 0 rfl rfl 1 (by decide) g_15 (fun _ h9 => h9) rfl (by decide +kernel) rfl rfl (Nat.le_of_ble_eq_true rfl) dX3_passDebtsOn_92 (fun H locs hP hD hS => ?_)
  obtain ⟨I6, eI6, hf⟩ := nme hf
  have hP : va_P D vwCl (List.flatten [(w_Led cs o_g h_g I6 Vg_11)]) H := by rw [eI6]; exact hP
  have hD : va_D A (List.flatten [(w_Led cs o_g h_g I6 Vg_11)]) := by rw [eI6]; exact hD
  refine lv_iload_n hx hb dX3_passDebtsOn_95 rfl (lv_at hl 1 rfl) ?_
  refine lv_iload hx hb dX3_passDebtsOn_96 (lv_at hl 2 rfl) ?_
  refine lv_isub hx hb dX3_passDebtsOn_98 ?_
  exact hret (y1 - x4_11) I6 Vg_11 _ _ 99 _ hf hP hD hS dX3_passDebtsOn_99
set_option maxHeartbeats 4000000 in
set_option maxRecDepth 100000 in
theorem c_Led_passDebtsOn (l : Launch) (D : va_G) (cs : Nat → ClassId) (o_g : Nat) (h_g : Nat → Nat) (sz : Nat) (I_g : FI) (V_g : FV) (x1 : Int32) (x2 : Int32) (f : Nat) (out : Int32 × FI × FV) (hf : Led_passDebtsOn f x1 x2 I_g V_g = some out) : Met l yX3_passDebtsOn wsX3_passDebtsOn rm_Led_passDebtsOn (va_Pc [.ref o_g, .int x1, .int x2] (yP D cs (List.flatten [(w_Led cs o_g h_g I_g V_g)]) sz)) (va_Qi (fun r u => (r, u) = out) (fun (u : FI × FV) t => xA D cs (va_A (List.flatten [(w_Led cs o_g h_g I_g V_g)]) sz) (List.flatten [(w_Led cs o_g h_g u.1 u.2)]) t) (va_A (List.flatten [(w_Led cs o_g h_g I_g V_g)]) sz)) 0 0 (va_A (List.flatten [(w_Led cs o_g h_g I_g V_g)]) sz) := by
  refine Met.ofW (cc := cX3_passDebtsOn) (maxL := 6) (ret := (some .int)) (by decide) rfl ?_
  intro p e s m args below meth c s₁ B hml hv
  obtain ⟨ha, hsz, hP, hK, hN, hD0⟩ := hv
  have hx := B.exec
  have hb := B.bytes
  have hr := B.returns
  have hts := atoms_spec (ws := wsX3_passDebtsOn) B.pre
  have hown : s.vm.findClass RX3 = some m.cls := findClass_of_methodNamed B.named
  have hlocks := B.notSynchronized
  have in_X3 : ∀ w ∈ u_ws RX3 TX3 11, w ∈ wsX3_passDebtsOn := fun w h => List.mem_cons_of_mem _ (List.mem_append_right _ h)
  have g_15 := hts (Cond.fieldLink RX3 15 "DaysLent$Ledger" "debts" "I") (by decide +kernel)
  have g_34 := hts (Cond.fieldLink RX3 34 "DaysLent$Ledger" "creditor" "[I") (by decide +kernel)
  have g_37 := hts (Cond.fieldLink RX3 37 "DaysLent$Ledger" "debtor" "[I") (by decide +kernel)
  have w_moveDebt_92 := cwV (R := rm_Led_passDebtsOn) (s := s) (args := args) (rm := rm_Led_moveDebt) (mc := 0) (ms := 0) 2 hts gX3_passDebtsOn_X3_moveDebt rfl rfl rfl (by decide +kernel) ⟨Nat.le_of_ble_eq_true rfl, Nat.le_of_ble_eq_true rfl⟩
  subst hsz
  have hD := hD0.self (sz := s.heap.size)
  generalize hAe : va_A (List.flatten [(w_Led cs o_g h_g I_g V_g)]) s.heap.size = A at hD ⊢
  have hA : ∀ q : Nat, s.heap.size ≤ q → A q := fun q h => by rw [← hAe]; exact Or.inr h
  have hl := lv_entry ([.ref o_g, .int x1, .int x2]) (n := 6) (Nat.le_of_ble_eq_true rfl)
  rw [show entryFrame m args 6 = entryFrame m ([.ref o_g, .int x1, .int x2] : List Value).toArray 6 from by rw [ha], lg_entry_eq]
  generalize (lg_sl ([.ref o_g, .int x1, .int x2]) ++ List.replicate (6 - (lg_sl ([.ref o_g, .int x1, .int x2])).length) Slot.unset).toArray = ls at hl ⊢
  generalize hQ : MQ below (va_Qi (fun r u => (r, u) = out) (fun (u : FI × FV) t => xA D cs A (List.flatten [(w_Led cs o_g h_g u.1 u.2)]) t) A) args s 0 0 A = Q
  have hret : ∀ (v : Int32) (Ig9 : FI) (Vg9 : FV) (H : Heap) (locs : List Loc) (pc : Nat) (ls : Array Slot), some (v, Ig9, Vg9) = some out → va_P D vwCl (List.flatten [(w_Led cs o_g h_g Ig9 Vg9)]) H → va_D A (List.flatten [(w_Led cs o_g h_g Ig9 Vg9)]) → va_S A s.heap H locs → decode cX3_passDebtsOn pc = .ok (.ireturn, 1) → W p l e rm_Led_passDebtsOn s m args below meth c H locs 0 0 Q (F0 m pc ls [.int v]) := by
    intro v Ig9 Vg9 H locs pc ls hf hP hD hS hd
    rw [← hQ]
    exact W.iret (v := v) hx hb hr (fun t ht hW => ⟨⟨v, (Ig9, Vg9), rfl, Option.some.inj hf, by show va_P D vwCl (List.flatten [(w_Led cs o_g h_g Ig9 Vg9)]) t.heap; rw [ht]; exact hP, va_K.moved hW.alike hK, hD⟩, hS.F ht⟩) hS.2.2 hd
  exact v_Led_passDebtsOn hf hx hb hml hown hts in_X3 g_15 g_34 g_37 w_moveDebt_92 hA hP hD hK hN hret ls hl
def Led_passOn_L41 {ρ : Type} (f : Nat) (I_g : FI) (x2 : Int32) (zr2 : Int32) (y3 : Int32) (y4 : Int32) (k_41 : FV → Option ρ) : Nat → Int32 → FV → Option ρ
  | 0, _, _ => none
  | n_41 + 1, x7_41, Vg_41 => (if (I_g 0) ≤ x7_41 then (k_41 Vg_41) else ob1 (X_isIn f x2 x7_41) (fun zr5 => (nm (fun (Vg_86 : FV) => (Led_passOn_L41 f I_g x2 zr2 y3 y4 k_41 n_41 (x7_41 + 1) Vg_86)) (fun j86 => (if zr5 = 0 then (j86 Vg_41) else if x7_41 < 0 ∨ 6 ≤ x7_41.toNatClampNeg then none else ((nm (fun (t3_84 : Int32) => if x7_41 < 0 ∨ 6 ≤ x7_41.toNatClampNeg then none else (nm (va_up Vg_41 5 (upd (Vg_41 5) x7_41.toNatClampNeg (((Vg_41 5) x7_41.toNatClampNeg) + t3_84))) (fun V6 => (j86 V6)))) (fun j84 => (if x7_41 = zr2 then (j84 (y3 + y4)) else (j84 y3))))))))))
def Led_passOn (f : Nat) (x1 : Int32) (x2 : Int32) (I_g : FI) (V_g : FV) : Option (Int32 × FI × FV) := ob1 (Jint_bitCount_0f7a4 f x2) (fun zr1 => (if zr1 = 0 then some (0, I_g, V_g) else ob1 (Led_leastOf f x2 I_g V_g) (fun zr2 => if x1 < 0 ∨ 6 ≤ x1.toNatClampNeg then none else (if zr1 = 0 then none else (nm (((V_g 5) x1.toNatClampNeg) / zr1) (fun y3 => if x1 < 0 ∨ 6 ≤ x1.toNatClampNeg then none else (if zr1 = 0 then none else (nm (((V_g 5) x1.toNatClampNeg) - ((V_g 5) x1.toNatClampNeg) / zr1 * zr1) (fun y4 => (Led_passOn_L41 f I_g x2 zr2 y3 y4 (fun (Vg_41 : FV) => if x1 < 0 ∨ 6 ≤ x1.toNatClampNeg then none else (nm (va_up Vg_41 5 (upd (Vg_41 5) x1.toNatClampNeg 0)) (fun V7 => nm (va_up I_g 3 ((I_g 3) &&& ((1 <<< (x1 &&& 31)) ^^^ (-1)))) (fun I8 => ob3 (Led_passDebtsOn f x1 zr2 I8 V7) (fun zr9 I10 V11 => some (zr9, I10, V11)))))) f 0 V_g))))))))))
abbrev rm_Led_passOn : Room := { frames := 2, cells := 0, slots := 0, locals := 47 }
set_option maxHeartbeats 4000000 in
set_option maxRecDepth 100000 in
theorem v_Led_passOn {l : Launch} {p : Program} {e : Env} {s : State} {m : MethodId} {args : Array Value} {below : List Frame} {meth : Method} {c : Code} {Q : State → Prop} {D : va_G} {cs : Nat → ClassId} {o_g : Nat} {h_g : Nat → Nat} {A : Nat → Prop} {I_g : FI} {V_g : FV} {x1 : Int32} {x2 : Int32} {f : Nat} {out : Int32 × FI × FV} (hf : Led_passOn f x1 x2 I_g V_g = some out) (hx : p.tables.exec = Jvm.exec) (hb : c.code = cX3_passOn) (hml : c.maxLocals = 8) (hown : s.vm.findClass RX3 = some m.cls) (hts : ∀ w ∈ wsX3_passOn, w.before args s = true) (in_X3 : ∀ w ∈ u_ws RX3 TX3 11, w ∈ wsX3_passOn) (w_bitCount_0f7a4_104 : CallB rm_Led_passOn s args RX3 104 yJ6_bitCount_0f7a4 cJ6_bitCount_0f7a4 1 (some .int) wsJ6_bitCount_0f7a4 rm_Jint_bitCount_0f7a4 0 0 1 ∧ (Cond.static yJ6_bitCount_0f7a4).before args s = true) (w_leastOf_109 : CallW rm_Led_passOn s args RX3 RX3 109 yX3_leastOf cX3_leastOf 3 (some .int) wsX3_leastOf rm_Led_leastOf 0 0 1) (g_27 : (Cond.fieldLink RX3 27 "DaysLent$Ledger" "mornings" "[I").before args s = true) (g_9 : (Cond.fieldLink RX3 9 "DaysLent$Ledger" "people" "I").before args s = true) (w_isIn_60 : va_CN rm_Led_passOn s args RX3 60 yX9_isIn "DaysLent" cX9_isIn 2 (some .boolean) wsX9_isIn rm_X_isIn 0 0 2 ∧ (Cond.static yX9_isIn).before args s = true ∧ True) (g_21 : (Cond.fieldLink RX3 21 "DaysLent$Ledger" "alive" "I").before args s = true) (w_passDebtsOn_112 : CallW rm_Led_passOn s args RX3 RX3 112 yX3_passDebtsOn cX3_passDebtsOn 6 (some .int) wsX3_passDebtsOn rm_Led_passDebtsOn 0 0 2) (hA : ∀ q : Nat, s.heap.size ≤ q → A q) (hP : va_P D vwCl (List.flatten [(w_Led cs o_g h_g I_g V_g)]) s.heap) (hD : va_D A (List.flatten [(w_Led cs o_g h_g I_g V_g)])) (hK : va_K D vwCl (tyA cs) s) (hN : yN s) (hret : ∀ (v : Int32) (Ig9 : FI) (Vg9 : FV) (H : Heap) (locs : List Loc) (pc : Nat) (ls : Array Slot), some (v, Ig9, Vg9) = some out → va_P D vwCl (List.flatten [(w_Led cs o_g h_g Ig9 Vg9)]) H → va_D A (List.flatten [(w_Led cs o_g h_g Ig9 Vg9)]) → va_S A s.heap H locs → decode cX3_passOn pc = .ok (.ireturn, 1) → W p l e rm_Led_passOn s m args below meth c H locs 0 0 Q (F0 m pc ls [.int v])) : ∀ ls : Array Slot, lv_has ls 8 [(0, .ref o_g), (1, .int x1), (2, .int x2)] → W p l e rm_Led_passOn s m args below meth c s.heap [] 0 0 Q (F0 m 0 ls []) := by
  intro ls hl
  have hS : va_S A s.heap s.heap [] := va_S.rf
  unfold Led_passOn at hf
  refine lv_iload_n hx hb dX3_passOn_0 rfl (lv_at hl 2 rfl) ?_
  obtain ⟨zr1, qr1, hf⟩ := bd1 hf
  refine vp_callSi (va_Run.run (va_runS (As := [.int x2]) (rest := []) ⟨hx, hb, hml, hown, hts⟩ (c_Jint_bitCount_0f7a4 l x2 f zr1 qr1) w_bitCount_0f7a4_104 ⟨fun a U g mk q => q, fun U hU hW => ⟨rfl, trivial⟩⟩ rfl rfl hl.1 rfl (lv_room (Nat.le_of_ble_eq_true rfl)) dX3_passOn_1 ⟨Nat.zero_le _, Nat.zero_le _⟩)) (fun r1 er1 => ?_)
  rw [er1]
  refine lv_istore_n (lv' := [(3, .int zr1), (0, .ref o_g), (1, .int x1), (2, .int x2)]) hx hb dX3_passOn_4 rfl hl (by decide) rfl (fun ls hl => ?_)
  refine lv_iload_n hx hb dX3_passOn_5 rfl (lv_at hl 0 rfl) ?_
  refine lv_if_ne (tgt := 11) hx hb dX3_passOn_6 (by decide) (fun c6 => ?_) (fun c6 => ?_)
  · replace hf := im c6 hf
    refine lv_aload_n hx hb dX3_passOn_11 rfl (lv_at hl 1 rfl) ?_
    refine lv_iload_n hx hb dX3_passOn_12 rfl (lv_at hl 3 rfl) ?_
    obtain ⟨zr2, qr2, hf⟩ := bd1 hf
    refine vp_callSi (va_Run.run (va_runV (As := [.int x2]) (rest := []) ⟨hx, hb, hml, hown, hts⟩ (c_Led_leastOf l D cs o_g h_g I_g V_g x2 f zr2 qr2) w_leastOf_109 ⟨yR_moved, va_recv hK hP (ci := 3) (q0 := 0) rfl rfl, fun U hU hW => ⟨rfl, by rw [hU]; exact hP, va_K.moved hW.alike hK, yN_warm hW hN⟩⟩ rfl rfl hl.1 rfl (lv_room (Nat.le_of_ble_eq_true rfl)) dX3_passOn_13 ⟨Nat.zero_le _, Nat.zero_le _⟩)) (fun r2 er2 => ?_)
    rw [er2]
    refine lv_istore (lv' := [(4, .int zr2), (3, .int zr1), (0, .ref o_g), (1, .int x1), (2, .int x2)]) hx hb dX3_passOn_16 hl (by decide) rfl (fun ls hl => ?_)
    refine lv_aload_n hx hb dX3_passOn_18 rfl (lv_at hl 2 rfl) ?_
    refine va_get (D := D) (ci := 3) (v := .ref (h_g 5)) (C := RX3) (T := TX3) (N := 11) hx hb hts in_X3 hown hK hP 0 rfl rfl 5 (by decide) g_27 (fun _ h9 => h9) rfl dX3_passOn_19 ?_
    refine lv_iload_n hx hb dX3_passOn_22 rfl (lv_at hl 3 rfl) ?_
    obtain ⟨c23, hf⟩ := gd hf
    refine va_iald (f := (V_g 5)) hx hb hK hP 1 0 rfl rfl c23 dX3_passOn_23 ?_
    refine lv_iload_n hx hb dX3_passOn_24 rfl (lv_at hl 1 rfl) ?_
    obtain ⟨c25, hf⟩ := gd hf
    refine lv_idiv hx hb dX3_passOn_25 c25 ?_
    refine lv_topi (fun y3 ey3 => ?_)
    replace hf := nmd hf ey3
    refine lv_istore (lv' := [(5, .int y3), (4, .int zr2), (3, .int zr1), (0, .ref o_g), (1, .int x1), (2, .int x2)]) hx hb dX3_passOn_26 hl (by decide) rfl (fun ls hl => ?_)
    refine lv_aload_n hx hb dX3_passOn_28 rfl (lv_at hl 3 rfl) ?_
    refine va_get (D := D) (ci := 3) (v := .ref (h_g 5)) (C := RX3) (T := TX3) (N := 11) hx hb hts in_X3 hown hK hP 0 rfl rfl 5 (by decide) g_27 (fun _ h9 => h9) rfl dX3_passOn_29 ?_
    refine lv_iload_n hx hb dX3_passOn_32 rfl (lv_at hl 4 rfl) ?_
    obtain ⟨c33, hf⟩ := gd hf
    refine va_iald (f := (V_g 5)) hx hb hK hP 1 0 rfl rfl c33 dX3_passOn_33 ?_
    refine lv_iload_n hx hb dX3_passOn_34 rfl (lv_at hl 2 rfl) ?_
    obtain ⟨c35, hf⟩ := gd hf
    refine lv_irem hx hb dX3_passOn_35 c35 ?_
    refine lv_topi (fun y4 ey4 => ?_)
    replace hf := nmd hf ey4
    refine lv_istore (lv' := [(6, .int y4), (5, .int y3), (4, .int zr2), (3, .int zr1), (0, .ref o_g), (1, .int x1), (2, .int x2)]) hx hb dX3_passOn_36 hl (by decide) rfl (fun ls hl => ?_)
    refine lv_iconst (v := 0) hx hb dX3_passOn_38 (by decide) ?_
    refine lv_istore (lv' := [(7, .int 0), (6, .int y4), (5, .int y3), (4, .int zr2), (3, .int zr1), (0, .ref o_g), (1, .int x1), (2, .int x2)]) hx hb dX3_passOn_39 hl (by decide) rfl (fun ls hl => ?_)
    have L41 : ∀ (k_41 : FV → Option (Int32 × FI × FV)) (hk_41 : ∀ (Vg_41 : FV), k_41 Vg_41 = some out → ∀ (H : Heap) (locs : List Loc), va_P D vwCl (List.flatten [(w_Led cs o_g h_g I_g Vg_41)]) H → va_D A (List.flatten [(w_Led cs o_g h_g I_g Vg_41)]) → va_S A s.heap H locs → ∀ ls : Array Slot, lv_has ls 8 [(0, .ref o_g), (1, .int x1), (4, .int zr2)] → W p l e rm_Led_passOn s m args below meth c H locs 0 0 Q (F0 m 92 ls [])), ∀ (n_41 : Nat) (x7_41 : Int32) (Vg_41 : FV), Led_passOn_L41 f I_g x2 zr2 y3 y4 k_41 n_41 x7_41 Vg_41 = some out → ∀ (H : Heap) (locs : List Loc), va_P D vwCl (List.flatten [(w_Led cs o_g h_g I_g Vg_41)]) H → va_D A (List.flatten [(w_Led cs o_g h_g I_g Vg_41)]) → va_S A s.heap H locs → ∀ ls : Array Slot, lv_has ls 8 [(0, .ref o_g), (1, .int x1), (2, .int x2), (4, .int zr2), (5, .int y3), (6, .int y4), (7, .int x7_41)] → W p l e rm_Led_passOn s m args below meth c H locs 0 0 Q (F0 m 41 ls []) := by
      intro k_41 hk_41 n_41
      induction n_41 with
      | zero => intro x7_41 Vg_41 hf; rw [Led_passOn_L41] at hf; cases hf
      | succ n_41 ih_41 =>
        intro x7_41 Vg_41 hf H locs hP hD hS ls hl
        rw [Led_passOn_L41] at hf
        refine lv_iload hx hb dX3_passOn_41 (lv_at hl 6 rfl) ?_
        refine lv_aload_n hx hb dX3_passOn_43 rfl (lv_at hl 0 rfl) ?_
        refine va_get (D := D) (ci := 3) (v := .int (I_g 0)) (C := RX3) (T := TX3) (N := 11) hx hb hts in_X3 hown hK hP 0 rfl rfl 0 (by decide) g_9 (fun _ h9 => h9) rfl dX3_passOn_44 ?_
        refine lv_icmp_ge (tgt := 92) hx hb dX3_passOn_47 (by decide) (fun c47 => ?_) (fun c47 => ?_)
        · replace hf := ip c47 hf
          exact hk_41 Vg_41 hf _ _ hP hD hS _ (lv_sub hl [0, 1, 3] rfl)
        · replace hf := im c47 hf
          refine lv_iload_n hx hb dX3_passOn_50 rfl (lv_at hl 2 rfl) ?_
          refine lv_iload hx hb dX3_passOn_51 (lv_at hl 6 rfl) ?_
          obtain ⟨zr5, qr5, hf⟩ := bd1 hf
          refine vp_callSi (va_Run.run (va_runSN (As := [.int x2, .int x7_41]) (rest := []) ⟨hx, hb, hml, hown, hts⟩ (c_X_isIn l x2 x7_41 f zr5 qr5) w_isIn_60 ⟨fun a U g mk q => q, fun U hU hW => ⟨rfl, trivial⟩⟩ rfl rfl hl.1 rfl (lv_room (Nat.le_of_ble_eq_true rfl)) dX3_passOn_53 ⟨Nat.zero_le _, Nat.zero_le _⟩)) (fun r5 er5 => ?_)
          rw [er5]
          obtain ⟨j86, ej86, hf⟩ := nme hf
          have J86 : ∀ (Vg_86 : FV), j86 Vg_86 = some out → ∀ (H : Heap) (locs : List Loc), va_P D vwCl (List.flatten [(w_Led cs o_g h_g I_g Vg_86)]) H → va_D A (List.flatten [(w_Led cs o_g h_g I_g Vg_86)]) → va_S A s.heap H locs → ∀ ls : Array Slot, lv_has ls 8 [(0, .ref o_g), (1, .int x1), (2, .int x2), (4, .int zr2), (5, .int y3), (6, .int y4), (7, .int x7_41)] → W p l e rm_Led_passOn s m args below meth c H locs 0 0 Q (F0 m 86 ls []) := by
            intro Vg_86 hf H locs hP hD hS ls hl
            rw [ej86] at hf
            refine lv_iinc (v := (x7_41 + 1)) (lv' := [(7, .int (x7_41 + 1)), (0, .ref o_g), (1, .int x1), (2, .int x2), (4, .int zr2), (5, .int y3), (6, .int y4)]) hx hb dX3_passOn_86 hl (k := 6) rfl (by rfl) (by decide) rfl (fun ls hl => ?_)
            refine lv_goto (tgt := 41) hx hb dX3_passOn_89 (by decide) ?_
            exact ih_41 (x7_41 + 1) Vg_86 hf _ _ hP hD hS _ (lv_sub hl [1, 2, 3, 4, 5, 6, 0] rfl)
          refine lv_if_eq (tgt := 86) hx hb dX3_passOn_56 (by decide) (fun c56 => ?_) (fun c56 => ?_)
          · replace hf := ip c56 hf
            exact J86 Vg_41 hf _ _ hP hD hS _ (lv_sub hl [0, 1, 2, 3, 4, 5, 6] rfl)
          · replace hf := im c56 hf
            refine lv_aload_n hx hb dX3_passOn_59 rfl (lv_at hl 0 rfl) ?_
            refine va_get (D := D) (ci := 3) (v := .ref (h_g 5)) (C := RX3) (T := TX3) (N := 11) hx hb hts in_X3 hown hK hP 0 rfl rfl 5 (by decide) g_27 (fun _ h9 => h9) rfl dX3_passOn_60 ?_
            refine lv_iload hx hb dX3_passOn_63 (lv_at hl 6 rfl) ?_
            refine lv_dup2_11 hx hb dX3_passOn_65 rfl rfl ?_
            obtain ⟨c66, hf⟩ := gd hf
            refine va_iald (f := (Vg_41 5)) hx hb hK hP 1 0 rfl rfl c66 dX3_passOn_66 ?_
            refine lv_iload hx hb dX3_passOn_67 (lv_at hl 6 rfl) ?_
            refine lv_iload hx hb dX3_passOn_69 (lv_at hl 3 rfl) ?_
            obtain ⟨j84, ej84, hf⟩ := nme hf
            have J84 : ∀ (t3_84 : Int32), j84 t3_84 = some out → ∀ (H : Heap) (locs : List Loc), va_P D vwCl (List.flatten [(w_Led cs o_g h_g I_g Vg_41)]) H → va_D A (List.flatten [(w_Led cs o_g h_g I_g Vg_41)]) → va_S A s.heap H locs → ∀ ls : Array Slot, lv_has ls 8 [(0, .ref o_g), (1, .int x1), (2, .int x2), (4, .int zr2), (5, .int y3), (6, .int y4), (7, .int x7_41)] → W p l e rm_Led_passOn s m args below meth c H locs 0 0 Q (F0 m 84 ls [.int t3_84, .int ((Vg_41 5) x7_41.toNatClampNeg), .int x7_41, .ref (h_g 5)]) := by
              intro t3_84 hf H locs hP hD hS ls hl
              rw [ej84] at hf
              refine lv_iadd hx hb dX3_passOn_84 ?_
              obtain ⟨c85, hf⟩ := gd hf
              refine va_iast (f := (Vg_41 5)) hx hb hK hP hD hS 1 0 rfl rfl c85 dX3_passOn_85 (fun H locs hP hD hS => ?_)
              obtain ⟨V6, eV6, hf⟩ := nme hf
              have hP : va_P D vwCl (List.flatten [(w_Led cs o_g h_g I_g V6)]) H := by rw [eV6]; exact hP
              have hD : va_D A (List.flatten [(w_Led cs o_g h_g I_g V6)]) := by rw [eV6]; exact hD
              exact J86 V6 hf _ _ hP hD hS _ (lv_sub hl [0, 1, 2, 3, 4, 5, 6] rfl)
            refine lv_icmp_ne (tgt := 82) hx hb dX3_passOn_71 (by decide) (fun c71 => ?_) (fun c71 => ?_)
            · replace hf := im c71 hf
              refine lv_iload hx hb dX3_passOn_82 (lv_at hl 4 rfl) ?_
              exact J84 y3 hf _ _ hP hD hS _ (lv_sub hl [0, 1, 2, 3, 4, 5, 6] rfl)
            · replace hf := ip c71 hf
              refine lv_iload hx hb dX3_passOn_74 (lv_at hl 4 rfl) ?_
              refine lv_iload hx hb dX3_passOn_76 (lv_at hl 5 rfl) ?_
              refine lv_iadd hx hb dX3_passOn_78 ?_
              refine lv_goto (tgt := 84) hx hb dX3_passOn_79 (by decide) ?_
              exact J84 (y3 + y4) hf _ _ hP hD hS _ (lv_sub hl [0, 1, 2, 3, 4, 5, 6] rfl)
    refine L41 _ (fun Vg_41 hf H locs hP hD hS ls hl => ?_) f 0 V_g hf _ _ hP hD hS _ (lv_sub hl [5, 6, 7, 3, 2, 1, 0] rfl)
    refine lv_aload_n hx hb dX3_passOn_92 rfl (lv_at hl 0 rfl) ?_
    refine va_get (D := D) (ci := 3) (v := .ref (h_g 5)) (C := RX3) (T := TX3) (N := 11) hx hb hts in_X3 hown hK hP 0 rfl rfl 5 (by decide) g_27 (fun _ h9 => h9) rfl dX3_passOn_93 ?_
    refine lv_iload_n hx hb dX3_passOn_96 rfl (lv_at hl 1 rfl) ?_
    refine lv_iconst (v := 0) hx hb dX3_passOn_97 (by decide) ?_
    obtain ⟨c98, hf⟩ := gd hf
    refine va_iast (f := (Vg_41 5)) hx hb hK hP hD hS 1 0 rfl rfl c98 dX3_passOn_98 (fun H locs hP hD hS => ?_)
    obtain ⟨V7, eV7, hf⟩ := nme hf
    have hP : va_P D vwCl (List.flatten [(w_Led cs o_g h_g I_g V7)]) H := by rw [eV7]; exact hP
    have hD : va_D A (List.flatten [(w_Led cs o_g h_g I_g V7)]) := by rw [eV7]; exact hD
    refine lv_aload_n hx hb dX3_passOn_99 rfl (lv_at hl 0 rfl) ?_
    refine lv_dup hx hb dX3_passOn_100 rfl ?_
    refine va_get (D := D) (ci := 3) (v := .int (I_g 3)) (C := RX3) (T := TX3) (N := 11) hx hb hts in_X3 hown hK hP 0 rfl rfl 3 (by decide) g_21 (fun _ h9 => h9) rfl dX3_passOn_101 ?_
    refine lv_iconst (v := 1) hx hb dX3_passOn_104 (by decide) ?_
    refine lv_iload_n hx hb dX3_passOn_105 rfl (lv_at hl 1 rfl) ?_
    refine lv_ishl hx hb dX3_passOn_106 ?_
    refine lv_iconst (v := (-1)) hx hb dX3_passOn_107 (by decide) ?_
    refine lv_ixor hx hb dX3_passOn_108 ?_
    refine lv_iand hx hb dX3_passOn_109 ?_
    refine va_put (D := D) (ci := 3) (v := .int ((I_g 3) &&& ((1 <<< (x1 &&& 31)) ^^^ (-1)))) (ty := .int) (C := RX3) (T := TX3) (N := 11) hx hb hts in_X3 tyX3 tyX3_ok nmX3 hown hK hP hD hS 0 rfl rfl 3 (by decide) g_21 (fun _ h9 => h9) rfl (by decide +kernel) rfl rfl (Nat.le_of_ble_eq_true rfl) dX3_passOn_110 (fun H locs hP hD hS => ?_)
    obtain ⟨I8, eI8, hf⟩ := nme hf
    have hP : va_P D vwCl (List.flatten [(w_Led cs o_g h_g I8 V7)]) H := by rw [eI8]; exact hP
    have hD : va_D A (List.flatten [(w_Led cs o_g h_g I8 V7)]) := by rw [eI8]; exact hD
    refine lv_aload_n hx hb dX3_passOn_113 rfl (lv_at hl 0 rfl) ?_
    refine lv_iload_n hx hb dX3_passOn_114 rfl (lv_at hl 1 rfl) ?_
    refine lv_iload hx hb dX3_passOn_115 (lv_at hl 2 rfl) ?_
    obtain ⟨zr9, I10, V11, qr9, hf⟩ := bd3 hf
    have hFc := xfree hD hS hA
    refine va_calli (va_runV (As := [.int x1, .int zr2]) (rest := []) ⟨hx, hb, hml, hown, hts⟩ (c_Led_passDebtsOn l D cs o_g h_g _ I8 V7 x1 zr2 f _ qr9) w_passDebtsOn_112 ⟨yP_moved, va_recv hK hP (ci := 3) (q0 := 0) rfl rfl, fun U hU hW => ⟨rfl, by rw [hU], by rw [hU]; exact hP, va_K.moved hW.alike hK, yN_warm hW hN, hD.weaken (fun _ _ _ _ => trivial)⟩⟩ rfl rfl hl.1 rfl (lv_room (Nat.le_of_ble_eq_true rfl)) dX3_passOn_117 ⟨Nat.zero_le _, Nat.zero_le _⟩) hS (fun q _ h9 => hFc q h9) hFc (fun r9 u t H1 locs ht hvm hw hB hz1 hk1 hS => ?_)
    have er9 := congrArg Prod.fst hw
    have eu := congrArg Prod.snd hw
    dsimp only at er9 eu
    rw [er9]
    rw [eu] at hB
    obtain ⟨hP1, hK1, hD1⟩ := hB
    have hP : va_P D vwCl (List.flatten [(w_Led cs o_g h_g I10 V11)]) H1 := by rw [← ht]; exact hP1
    have hD : va_D A (List.flatten [(w_Led cs o_g h_g I10 V11)]) := hD1.weaken (fun _ q _ h9 => hFc q.1 h9)
    exact hret zr9 I10 V11 _ _ 120 _ hf hP hD hS dX3_passOn_120
  · replace hf := ip c6 hf
    refine lv_iconst (v := 0) hx hb dX3_passOn_9 (by decide) ?_
    exact hret 0 I_g V_g _ _ 10 _ hf hP hD hS dX3_passOn_10
set_option maxHeartbeats 4000000 in
set_option maxRecDepth 100000 in
theorem c_Led_passOn (l : Launch) (D : va_G) (cs : Nat → ClassId) (o_g : Nat) (h_g : Nat → Nat) (sz : Nat) (I_g : FI) (V_g : FV) (x1 : Int32) (x2 : Int32) (f : Nat) (out : Int32 × FI × FV) (hf : Led_passOn f x1 x2 I_g V_g = some out) : Met l yX3_passOn wsX3_passOn rm_Led_passOn (va_Pc [.ref o_g, .int x1, .int x2] (yP D cs (List.flatten [(w_Led cs o_g h_g I_g V_g)]) sz)) (va_Qi (fun r u => (r, u) = out) (fun (u : FI × FV) t => xA D cs (va_A (List.flatten [(w_Led cs o_g h_g I_g V_g)]) sz) (List.flatten [(w_Led cs o_g h_g u.1 u.2)]) t) (va_A (List.flatten [(w_Led cs o_g h_g I_g V_g)]) sz)) 0 0 (va_A (List.flatten [(w_Led cs o_g h_g I_g V_g)]) sz) := by
  refine Met.ofW (cc := cX3_passOn) (maxL := 8) (ret := (some .int)) (by decide) rfl ?_
  intro p e s m args below meth c s₁ B hml hv
  obtain ⟨ha, hsz, hP, hK, hN, hD0⟩ := hv
  have hx := B.exec
  have hb := B.bytes
  have hr := B.returns
  have hts := atoms_spec (ws := wsX3_passOn) B.pre
  have hown : s.vm.findClass RX3 = some m.cls := findClass_of_methodNamed B.named
  have hlocks := B.notSynchronized
  have in_X3 : ∀ w ∈ u_ws RX3 TX3 11, w ∈ wsX3_passOn := fun w h => List.mem_cons_of_mem _ (List.mem_append_right _ h)
  have w_bitCount_0f7a4_104 := va_cwS (R := rm_Led_passOn) (s := s) (args := args) (rm := rm_Jint_bitCount_0f7a4) (mc := 0) (ms := 0) 1 hts gX3_passOn_J6_bitCount_0f7a4 rfl rfl rfl (by decide +kernel) ⟨Nat.le_of_ble_eq_true rfl, Nat.le_of_ble_eq_true rfl⟩
  have w_leastOf_109 := cwV (R := rm_Led_passOn) (s := s) (args := args) (rm := rm_Led_leastOf) (mc := 0) (ms := 0) 1 hts gX3_passOn_X3_leastOf rfl rfl rfl (by decide +kernel) ⟨Nat.le_of_ble_eq_true rfl, Nat.le_of_ble_eq_true rfl⟩
  have g_27 := hts (Cond.fieldLink RX3 27 "DaysLent$Ledger" "mornings" "[I") (by decide +kernel)
  have g_9 := hts (Cond.fieldLink RX3 9 "DaysLent$Ledger" "people" "I") (by decide +kernel)
  have w_isIn_60 : va_CN rm_Led_passOn s args RX3 60 yX9_isIn "DaysLent" cX9_isIn 2 (some .boolean) wsX9_isIn rm_X_isIn 0 0 2 ∧ (Cond.static yX9_isIn).before args s = true ∧ True := ⟨va_cnB (R := rm_Led_passOn) (s := s) (args := args) (rm := rm_X_isIn) (mc := 0) (ms := 0) 2 hts gX3_passOn_X9_isIn_n60 rfl rfl rfl hN.1 (hts (.initialized RX9) (by decide +kernel)) (by decide +kernel) ⟨Nat.le_of_ble_eq_true rfl, Nat.le_of_ble_eq_true rfl⟩, hts (.static yX9_isIn) (by decide +kernel), trivial⟩
  have g_21 := hts (Cond.fieldLink RX3 21 "DaysLent$Ledger" "alive" "I") (by decide +kernel)
  have w_passDebtsOn_112 := cwV (R := rm_Led_passOn) (s := s) (args := args) (rm := rm_Led_passDebtsOn) (mc := 0) (ms := 0) 2 hts gX3_passOn_X3_passDebtsOn rfl rfl rfl (by decide +kernel) ⟨Nat.le_of_ble_eq_true rfl, Nat.le_of_ble_eq_true rfl⟩
  subst hsz
  have hD := hD0.self (sz := s.heap.size)
  generalize hAe : va_A (List.flatten [(w_Led cs o_g h_g I_g V_g)]) s.heap.size = A at hD ⊢
  have hA : ∀ q : Nat, s.heap.size ≤ q → A q := fun q h => by rw [← hAe]; exact Or.inr h
  have hl := lv_entry ([.ref o_g, .int x1, .int x2]) (n := 8) (Nat.le_of_ble_eq_true rfl)
  rw [show entryFrame m args 8 = entryFrame m ([.ref o_g, .int x1, .int x2] : List Value).toArray 8 from by rw [ha], lg_entry_eq]
  generalize (lg_sl ([.ref o_g, .int x1, .int x2]) ++ List.replicate (8 - (lg_sl ([.ref o_g, .int x1, .int x2])).length) Slot.unset).toArray = ls at hl ⊢
  generalize hQ : MQ below (va_Qi (fun r u => (r, u) = out) (fun (u : FI × FV) t => xA D cs A (List.flatten [(w_Led cs o_g h_g u.1 u.2)]) t) A) args s 0 0 A = Q
  have hret : ∀ (v : Int32) (Ig9 : FI) (Vg9 : FV) (H : Heap) (locs : List Loc) (pc : Nat) (ls : Array Slot), some (v, Ig9, Vg9) = some out → va_P D vwCl (List.flatten [(w_Led cs o_g h_g Ig9 Vg9)]) H → va_D A (List.flatten [(w_Led cs o_g h_g Ig9 Vg9)]) → va_S A s.heap H locs → decode cX3_passOn pc = .ok (.ireturn, 1) → W p l e rm_Led_passOn s m args below meth c H locs 0 0 Q (F0 m pc ls [.int v]) := by
    intro v Ig9 Vg9 H locs pc ls hf hP hD hS hd
    rw [← hQ]
    exact W.iret (v := v) hx hb hr (fun t ht hW => ⟨⟨v, (Ig9, Vg9), rfl, Option.some.inj hf, by show va_P D vwCl (List.flatten [(w_Led cs o_g h_g Ig9 Vg9)]) t.heap; rw [ht]; exact hP, va_K.moved hW.alike hK, hD⟩, hS.F ht⟩) hS.2.2 hd
  exact v_Led_passOn hf hx hb hml hown hts in_X3 w_bitCount_0f7a4_104 w_leastOf_109 g_27 g_9 w_isIn_60 g_21 w_passDebtsOn_112 hA hP hD hK hN hret ls hl
def Led_forgive (f : Nat) (I_g : FI) (V_g : FV) : Option (Int32 × FI) := nm (va_up I_g 1 0) (fun I1 => nm (va_up I1 4 0) (fun I2 => some ((I_g 1), I2)))
abbrev rm_Led_forgive : Room := { frames := 0, cells := 0, slots := 0, locals := 0 }
set_option maxHeartbeats 4000000 in
set_option maxRecDepth 100000 in
theorem v_Led_forgive {l : Launch} {p : Program} {e : Env} {s : State} {m : MethodId} {args : Array Value} {below : List Frame} {meth : Method} {c : Code} {Q : State → Prop} {D : va_G} {cs : Nat → ClassId} {o_g : Nat} {h_g : Nat → Nat} {A : Nat → Prop} {I_g : FI} {V_g : FV} {f : Nat} {out : Int32 × FI} (hf : Led_forgive f I_g V_g = some out) (hx : p.tables.exec = Jvm.exec) (hb : c.code = cX3_forgive) (hml : c.maxLocals = 2) (hown : s.vm.findClass RX3 = some m.cls) (hts : ∀ w ∈ wsX3_forgive, w.before args s = true) (in_X3 : ∀ w ∈ u_ws RX3 TX3 11, w ∈ wsX3_forgive) (g_15 : (Cond.fieldLink RX3 15 "DaysLent$Ledger" "debts" "I").before args s = true) (g_24 : (Cond.fieldLink RX3 24 "DaysLent$Ledger" "broken" "I").before args s = true) (hA : ∀ q : Nat, s.heap.size ≤ q → A q) (hP : va_P D vwCl (List.flatten [(w_Led cs o_g h_g I_g V_g)]) s.heap) (hD : va_D A (List.flatten [(w_Led cs o_g h_g I_g V_g)])) (hK : va_K D vwCl (tyA cs) s) (hN : yN s) (hret : ∀ (v : Int32) (Ig9 : FI) (H : Heap) (locs : List Loc) (pc : Nat) (ls : Array Slot), some (v, Ig9) = some out → va_P D vwCl (List.flatten [(w_Led cs o_g h_g Ig9 V_g)]) H → va_D A (List.flatten [(w_Led cs o_g h_g Ig9 V_g)]) → va_S A s.heap H locs → decode cX3_forgive pc = .ok (.ireturn, 1) → W p l e rm_Led_forgive s m args below meth c H locs 0 0 Q (F0 m pc ls [.int v])) : ∀ ls : Array Slot, lv_has ls 2 [(0, .ref o_g)] → W p l e rm_Led_forgive s m args below meth c s.heap [] 0 0 Q (F0 m 0 ls []) := by
  intro ls hl
  have hS : va_S A s.heap s.heap [] := va_S.rf
  unfold Led_forgive at hf
  refine lv_aload_n hx hb dX3_forgive_0 rfl (lv_at hl 0 rfl) ?_
  refine va_get (D := D) (ci := 3) (v := .int (I_g 1)) (C := RX3) (T := TX3) (N := 11) hx hb hts in_X3 hown hK hP 0 rfl rfl 1 (by decide) g_15 (fun _ h9 => h9) rfl dX3_forgive_1 ?_
  refine lv_istore_n (lv' := [(1, .int (I_g 1)), (0, .ref o_g)]) hx hb dX3_forgive_4 rfl hl (by decide) rfl (fun ls hl => ?_)
  refine lv_aload_n hx hb dX3_forgive_5 rfl (lv_at hl 1 rfl) ?_
  refine lv_iconst (v := 0) hx hb dX3_forgive_6 (by decide) ?_
  refine va_put (D := D) (ci := 3) (v := .int 0) (ty := .int) (C := RX3) (T := TX3) (N := 11) hx hb hts in_X3 tyX3 tyX3_ok nmX3 hown hK hP hD hS 0 rfl rfl 1 (by decide) g_15 (fun _ h9 => h9) rfl (by decide +kernel) rfl rfl (Nat.le_of_ble_eq_true rfl) dX3_forgive_7 (fun H locs hP hD hS => ?_)
  obtain ⟨I1, eI1, hf⟩ := nme hf
  have hP : va_P D vwCl (List.flatten [(w_Led cs o_g h_g I1 V_g)]) H := by rw [eI1]; exact hP
  have hD : va_D A (List.flatten [(w_Led cs o_g h_g I1 V_g)]) := by rw [eI1]; exact hD
  refine lv_aload_n hx hb dX3_forgive_10 rfl (lv_at hl 1 rfl) ?_
  refine lv_iconst (v := 0) hx hb dX3_forgive_11 (by decide) ?_
  refine va_put (D := D) (ci := 3) (v := .int 0) (ty := .int) (C := RX3) (T := TX3) (N := 11) hx hb hts in_X3 tyX3 tyX3_ok nmX3 hown hK hP hD hS 0 rfl rfl 4 (by decide) g_24 (fun _ h9 => h9) rfl (by decide +kernel) rfl rfl (Nat.le_of_ble_eq_true rfl) dX3_forgive_12 (fun H locs hP hD hS => ?_)
  obtain ⟨I2, eI2, hf⟩ := nme hf
  have hP : va_P D vwCl (List.flatten [(w_Led cs o_g h_g I2 V_g)]) H := by rw [eI2]; exact hP
  have hD : va_D A (List.flatten [(w_Led cs o_g h_g I2 V_g)]) := by rw [eI2]; exact hD
  refine lv_iload_n hx hb dX3_forgive_15 rfl (lv_at hl 0 rfl) ?_
  exact hret (I_g 1) I2 _ _ 16 _ hf hP hD hS dX3_forgive_16
set_option maxHeartbeats 4000000 in
set_option maxRecDepth 100000 in
theorem c_Led_forgive (l : Launch) (D : va_G) (cs : Nat → ClassId) (o_g : Nat) (h_g : Nat → Nat) (sz : Nat) (I_g : FI) (V_g : FV) (f : Nat) (out : Int32 × FI) (hf : Led_forgive f I_g V_g = some out) : Met l yX3_forgive wsX3_forgive rm_Led_forgive (va_Pc [.ref o_g] (yP D cs (List.flatten [(w_Led cs o_g h_g I_g V_g)]) sz)) (va_Qi (fun r u => (r, u) = out) (fun (u : FI) t => xA D cs (va_A (List.flatten [(w_Led cs o_g h_g I_g V_g)]) sz) (List.flatten [(w_Led cs o_g h_g u V_g)]) t) (va_A (List.flatten [(w_Led cs o_g h_g I_g V_g)]) sz)) 0 0 (va_A (List.flatten [(w_Led cs o_g h_g I_g V_g)]) sz) := by
  refine Met.ofW (cc := cX3_forgive) (maxL := 2) (ret := (some .int)) (by decide) rfl ?_
  intro p e s m args below meth c s₁ B hml hv
  obtain ⟨ha, hsz, hP, hK, hN, hD0⟩ := hv
  have hx := B.exec
  have hb := B.bytes
  have hr := B.returns
  have hts := atoms_spec (ws := wsX3_forgive) B.pre
  have hown : s.vm.findClass RX3 = some m.cls := findClass_of_methodNamed B.named
  have hlocks := B.notSynchronized
  have in_X3 : ∀ w ∈ u_ws RX3 TX3 11, w ∈ wsX3_forgive := fun w h => List.mem_cons_of_mem _ (List.mem_append_right _ h)
  have g_15 := hts (Cond.fieldLink RX3 15 "DaysLent$Ledger" "debts" "I") (by decide +kernel)
  have g_24 := hts (Cond.fieldLink RX3 24 "DaysLent$Ledger" "broken" "I") (by decide +kernel)
  subst hsz
  have hD := hD0.self (sz := s.heap.size)
  generalize hAe : va_A (List.flatten [(w_Led cs o_g h_g I_g V_g)]) s.heap.size = A at hD ⊢
  have hA : ∀ q : Nat, s.heap.size ≤ q → A q := fun q h => by rw [← hAe]; exact Or.inr h
  have hl := lv_entry ([.ref o_g]) (n := 2) (Nat.le_of_ble_eq_true rfl)
  rw [show entryFrame m args 2 = entryFrame m ([.ref o_g] : List Value).toArray 2 from by rw [ha], lg_entry_eq]
  generalize (lg_sl ([.ref o_g]) ++ List.replicate (2 - (lg_sl ([.ref o_g])).length) Slot.unset).toArray = ls at hl ⊢
  generalize hQ : MQ below (va_Qi (fun r u => (r, u) = out) (fun (u : FI) t => xA D cs A (List.flatten [(w_Led cs o_g h_g u V_g)]) t) A) args s 0 0 A = Q
  have hret : ∀ (v : Int32) (Ig9 : FI) (H : Heap) (locs : List Loc) (pc : Nat) (ls : Array Slot), some (v, Ig9) = some out → va_P D vwCl (List.flatten [(w_Led cs o_g h_g Ig9 V_g)]) H → va_D A (List.flatten [(w_Led cs o_g h_g Ig9 V_g)]) → va_S A s.heap H locs → decode cX3_forgive pc = .ok (.ireturn, 1) → W p l e rm_Led_forgive s m args below meth c H locs 0 0 Q (F0 m pc ls [.int v]) := by
    intro v Ig9 H locs pc ls hf hP hD hS hd
    rw [← hQ]
    exact W.iret (v := v) hx hb hr (fun t ht hW => ⟨⟨v, Ig9, rfl, Option.some.inj hf, by show va_P D vwCl (List.flatten [(w_Led cs o_g h_g Ig9 V_g)]) t.heap; rw [ht]; exact hP, va_K.moved hW.alike hK, hD⟩, hS.F ht⟩) hS.2.2 hd
  exact v_Led_forgive hf hx hb hml hown hts in_X3 g_15 g_24 hA hP hD hK hN hret ls hl
