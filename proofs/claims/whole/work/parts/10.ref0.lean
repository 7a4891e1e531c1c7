def M_in (f : Nat) (x0 : Int64) (x2 : Int64) (x4 : Int64) : Option (Int32) := (if (lg_cmp x0 x2) < 0 then some 0 else (if 0 < (lg_cmp x0 x4) then some 0 else some 1))
abbrev rm_M_in : Room := { frames := 0, cells := 0, slots := 0, locals := 0 }
set_option maxHeartbeats 4000000 in
set_option maxRecDepth 100000 in
theorem v_M_in {l : Launch} {p : Program} {e : Env} {s : State} {m : MethodId} {args : Array Value} {below : List Frame} {meth : Method} {c : Code} {Q : State → Prop} {x0 : Int64} {x2 : Int64} {x4 : Int64} {f : Nat} {out : Int32} (hf : M_in f x0 x2 x4 = some out) (hx : p.tables.exec = Jvm.exec) (hb : c.code = cX10_in) (hml : c.maxLocals = 6) (hown : s.vm.findClass RX10 = some m.cls) (hts : ∀ w ∈ wsX10_in, w.before args s = true) (hret : ∀ (v : Int32) (pc : Nat) (ls : Array Slot), narrow .boolean (.int v) = .int v → some v = some out → decode cX10_in pc = .ok (.ireturn, 1) → W p l e rm_M_in s m args below meth c s.heap [] 0 0 Q (F0 m pc ls [.int v])) : ∀ ls : Array Slot, lv_has ls 6 [(0, .long x0), (2, .long x2), (4, .long x4)] → W p l e rm_M_in s m args below meth c s.heap [] 0 0 Q (F0 m 0 ls []) := by
  intro ls hl
  unfold M_in at hf
  refine lv_lload_n hx hb dX10_in_0 rfl (lv_at hl 0 rfl) ?_
  refine lv_lload_n hx hb dX10_in_1 rfl (lv_at hl 1 rfl) ?_
  refine W.lcmp hx hb dX10_in_2 ?_
  refine lv_if_lt (tgt := 17) hx hb dX10_in_3 (by decide) (fun c3 => ?_) (fun c3 => ?_)
  · replace hf := ip c3 hf
    refine lv_iconst (v := 0) hx hb dX10_in_17 (by decide) ?_
    exact hret 0 18 _ rfl hf dX10_in_18
  · replace hf := im c3 hf
    refine lv_lload_n hx hb dX10_in_6 rfl (lv_at hl 0 rfl) ?_
    refine lv_lload hx hb dX10_in_7 (lv_at hl 2 rfl) ?_
    refine W.lcmp hx hb dX10_in_9 ?_
    refine lv_if_gt (tgt := 17) hx hb dX10_in_10 (by decide) (fun c10 => ?_) (fun c10 => ?_)
    · replace hf := ip c10 hf
      refine lv_iconst (v := 0) hx hb dX10_in_17 (by decide) ?_
      exact hret 0 18 _ rfl hf dX10_in_18
    · replace hf := im c10 hf
      refine lv_iconst (v := 1) hx hb dX10_in_13 (by decide) ?_
      refine lv_goto (tgt := 18) hx hb dX10_in_14 (by decide) ?_
      exact hret 1 18 _ rfl hf dX10_in_18
set_option maxHeartbeats 4000000 in
set_option maxRecDepth 100000 in
theorem c_M_in (l : Launch) (x0 : Int64) (x2 : Int64) (x4 : Int64) (f : Nat) (out : Int32) (hf : M_in f x0 x2 x4 = some out) : Met l yX10_in wsX10_in rm_M_in (va_Pc [.long x0, .long x2, .long x4] (fun _ => True)) (vp_Si (fun r => r = out)) 0 0 (fun _ => False) := by
  refine Met.ofW (cc := cX10_in) (maxL := 6) (ret := (some .boolean)) (by decide) rfl ?_
  intro p e s m args below meth c s₁ B hml hv
  obtain ⟨ha, -⟩ := hv
  have hx := B.exec
  have hb := B.bytes
  have hr := B.returns
  have hts := atoms_spec (ws := wsX10_in) B.pre
  have hown : s.vm.findClass RX10 = some m.cls := findClass_of_methodNamed B.named
  have hlocks := B.notSynchronized
  have hl := lv_entry ([.long x0, .long x2, .long x4]) (n := 6) (Nat.le_of_ble_eq_true rfl)
  rw [show entryFrame m args 6 = entryFrame m ([.long x0, .long x2, .long x4] : List Value).toArray 6 from by rw [ha], lg_entry_eq]
  generalize (lg_sl ([.long x0, .long x2, .long x4]) ++ List.replicate (6 - (lg_sl ([.long x0, .long x2, .long x4])).length) Slot.unset).toArray = ls at hl ⊢
  generalize hQ : MQ below (vp_Si (fun r => r = out)) args s 0 0 (fun _ => False) = Q
  have hret : ∀ (v : Int32) (pc : Nat) (ls : Array Slot), narrow .boolean (.int v) = .int v → some v = some out → decode cX10_in pc = .ok (.ireturn, 1) → W p l e rm_M_in s m args below meth c s.heap [] 0 0 Q (F0 m pc ls [.int v]) := by
    intro v pc ls hz hf hd
    rw [← hQ]
    exact W.zret (v := v) hx hb hr hz (fun t ht hW => ⟨v, rfl, Option.some.inj hf, ht⟩) (fun q h => by cases h) hd
  exact v_M_in hf hx hb hml hown hts hret ls hl
def M_has (f : Nat) (x0 : Int32) (x1 : Int32) : Option (Int32) := (if ((x0 >>> (x1 &&& 31)) &&& 1) = 1 then some 1 else some 0)
abbrev rm_M_has : Room := { frames := 0, cells := 0, slots := 0, locals := 0 }
set_option maxHeartbeats 4000000 in
set_option maxRecDepth 100000 in
theorem v_M_has {l : Launch} {p : Program} {e : Env} {s : State} {m : MethodId} {args : Array Value} {below : List Frame} {meth : Method} {c : Code} {Q : State → Prop} {x0 : Int32} {x1 : Int32} {f : Nat} {out : Int32} (hf : M_has f x0 x1 = some out) (hx : p.tables.exec = Jvm.exec) (hb : c.code = cX10_has) (hml : c.maxLocals = 2) (hown : s.vm.findClass RX10 = some m.cls) (hts : ∀ w ∈ wsX10_has, w.before args s = true) (hret : ∀ (v : Int32) (pc : Nat) (ls : Array Slot), narrow .boolean (.int v) = .int v → some v = some out → decode cX10_has pc = .ok (.ireturn, 1) → W p l e rm_M_has s m args below meth c s.heap [] 0 0 Q (F0 m pc ls [.int v])) : ∀ ls : Array Slot, lv_has ls 2 [(0, .int x0), (1, .int x1)] → W p l e rm_M_has s m args below meth c s.heap [] 0 0 Q (F0 m 0 ls []) := by
  intro ls hl
  unfold M_has at hf
  refine lv_iload_n hx hb dX10_has_0 rfl (lv_at hl 0 rfl) ?_
  refine lv_iload_n hx hb dX10_has_1 rfl (lv_at hl 1 rfl) ?_
  refine lv_ishr hx hb dX10_has_2 ?_
  refine lv_iconst (v := 1) hx hb dX10_has_3 (by decide) ?_
  refine lv_iand hx hb dX10_has_4 ?_
  refine lv_iconst (v := 1) hx hb dX10_has_5 (by decide) ?_
  refine lv_icmp_ne (tgt := 13) hx hb dX10_has_6 (by decide) (fun c6 => ?_) (fun c6 => ?_)
  · replace hf := im c6 hf
    refine lv_iconst (v := 0) hx hb dX10_has_13 (by decide) ?_
    exact hret 0 14 _ rfl hf dX10_has_14
  · replace hf := ip c6 hf
    refine lv_iconst (v := 1) hx hb dX10_has_9 (by decide) ?_
    refine lv_goto (tgt := 14) hx hb dX10_has_10 (by decide) ?_
    exact hret 1 14 _ rfl hf dX10_has_14
set_option maxHeartbeats 4000000 in
set_option maxRecDepth 100000 in
theorem c_M_has (l : Launch) (x0 : Int32) (x1 : Int32) (f : Nat) (out : Int32) (hf : M_has f x0 x1 = some out) : Met l yX10_has wsX10_has rm_M_has (va_Pc [.int x0, .int x1] (fun _ => True)) (vp_Si (fun r => r = out)) 0 0 (fun _ => False) := by
  refine Met.ofW (cc := cX10_has) (maxL := 2) (ret := (some .boolean)) (by decide) rfl ?_
  intro p e s m args below meth c s₁ B hml hv
  obtain ⟨ha, -⟩ := hv
  have hx := B.exec
  have hb := B.bytes
  have hr := B.returns
  have hts := atoms_spec (ws := wsX10_has) B.pre
  have hown : s.vm.findClass RX10 = some m.cls := findClass_of_methodNamed B.named
  have hlocks := B.notSynchronized
  have hl := lv_entry ([.int x0, .int x1]) (n := 2) (Nat.le_of_ble_eq_true rfl)
  rw [show entryFrame m args 2 = entryFrame m ([.int x0, .int x1] : List Value).toArray 2 from by rw [ha], lg_entry_eq]
  generalize (lg_sl ([.int x0, .int x1]) ++ List.replicate (2 - (lg_sl ([.int x0, .int x1])).length) Slot.unset).toArray = ls at hl ⊢
  generalize hQ : MQ below (vp_Si (fun r => r = out)) args s 0 0 (fun _ => False) = Q
  have hret : ∀ (v : Int32) (pc : Nat) (ls : Array Slot), narrow .boolean (.int v) = .int v → some v = some out → decode cX10_has pc = .ok (.ireturn, 1) → W p l e rm_M_has s m args below meth c s.heap [] 0 0 Q (F0 m pc ls [.int v]) := by
    intro v pc ls hz hf hd
    rw [← hQ]
    exact W.zret (v := v) hx hb hr hz (fun t ht hW => ⟨v, rfl, Option.some.inj hf, ht⟩) (fun q h => by cases h) hd
  exact v_M_has hf hx hb hml hown hts hret ls hl
def M_noOne (f : Nat) (x1 : Int32) (I : FI) (V : FV) : Option (Int32) := ob1 (M_in f (x1.toInt64) 0 (((I 4) - 1).toInt64)) (fun zr1 => (if zr1 = 0 then some 1 else some 0))
abbrev rm_M_noOne : Room := { frames := 1, cells := 0, slots := 0, locals := 25 }
set_option maxHeartbeats 4000000 in
set_option maxRecDepth 100000 in
theorem v_M_noOne {l : Launch} {p : Program} {e : Env} {s : State} {m : MethodId} {args : Array Value} {below : List Frame} {meth : Method} {c : Code} {Q : State → Prop} {D : va_G} {cs : Nat → ClassId} {o : Nat} {h : Nat → Nat} {I : FI} {V : FV} {x1 : Int32} {f : Nat} {out : Int32} (hf : M_noOne f x1 I V = some out) (hx : p.tables.exec = Jvm.exec) (hb : c.code = cX10_noOne) (hml : c.maxLocals = 2) (hown : s.vm.findClass RX10 = some m.cls) (hts : ∀ w ∈ wsX10_noOne, w.before args s = true) (in_X10 : ∀ w ∈ u_ws RX10 TX10 38, w ∈ wsX10_noOne) (g_96 : (Cond.fieldLink RX10 96 "DaysLentModel" "people" "I").before args s = true) (w_in_99 : CallB rm_M_noOne s args RX10 99 yX10_in cX10_in 6 (some .boolean) wsX10_in rm_M_in 0 0 3 ∧ (Cond.static yX10_in).before args s = true) (hP : va_P D vwCl (w_M cs o h I V) s.heap) (hK : va_K D vwCl (tyA cs) s) (hret : ∀ (v : Int32) (pc : Nat) (ls : Array Slot), narrow .boolean (.int v) = .int v → some v = some out → decode cX10_noOne pc = .ok (.ireturn, 1) → W p l e rm_M_noOne s m args below meth c s.heap [] 0 0 Q (F0 m pc ls [.int v])) : ∀ ls : Array Slot, lv_has ls 2 [(0, .ref o), (1, .int x1)] → W p l e rm_M_noOne s m args below meth c s.heap [] 0 0 Q (F0 m 0 ls []) := by
  intro ls hl
  unfold M_noOne at hf
  refine lv_iload_n hx hb dX10_noOne_0 rfl (lv_at hl 1 rfl) ?_
  refine lv_i2l (v := x1.toInt64) hx hb dX10_noOne_1 rfl ?_
  refine lv_lconst (v := 0) hx hb dX10_noOne_2 (by decide) ?_
  refine lv_aload_n hx hb dX10_noOne_3 rfl (lv_at hl 0 rfl) ?_
  refine va_get (D := D) (ci := 10) (v := .int (I 4)) (C := RX10) (T := TX10) (N := 38) hx hb hts in_X10 hown hK hP 0 rfl rfl 4 (by decide) g_96 (fun _ h9 => h9) rfl dX10_noOne_4 ?_
  refine lv_iconst (v := 1) hx hb dX10_noOne_7 (by decide) ?_
  refine lv_isub hx hb dX10_noOne_8 ?_
  refine lv_i2l (v := ((I 4) - 1).toInt64) hx hb dX10_noOne_9 rfl ?_
  obtain ⟨zr1, qr1, hf⟩ := bd1 hf
  refine vp_callSi (va_Run.run (va_runS (As := [.long (x1.toInt64), .long 0, .long (((I 4) - 1).toInt64)]) (rest := []) ⟨hx, hb, hml, hown, hts⟩ (c_M_in l (x1.toInt64) 0 (((I 4) - 1).toInt64) f zr1 qr1) w_in_99 ⟨fun a U g mk q => q, fun U hU hW => ⟨rfl, trivial⟩⟩ rfl rfl hl.1 rfl (lv_room (Nat.le_of_ble_eq_true rfl)) dX10_noOne_10 ⟨Nat.zero_le _, Nat.zero_le _⟩)) (fun r1 er1 => ?_)
  rw [er1]
  refine lv_if_ne (tgt := 20) hx hb dX10_noOne_13 (by decide) (fun c13 => ?_) (fun c13 => ?_)
  · replace hf := im c13 hf
    refine lv_iconst (v := 0) hx hb dX10_noOne_20 (by decide) ?_
    exact hret 0 21 _ rfl hf dX10_noOne_21
  · replace hf := ip c13 hf
    refine lv_iconst (v := 1) hx hb dX10_noOne_16 (by decide) ?_
    refine lv_goto (tgt := 21) hx hb dX10_noOne_17 (by decide) ?_
    exact hret 1 21 _ rfl hf dX10_noOne_21
set_option maxHeartbeats 4000000 in
set_option maxRecDepth 100000 in
theorem c_M_noOne (l : Launch) (D : va_G) (cs : Nat → ClassId) (o : Nat) (h : Nat → Nat) (I : FI) (V : FV) (x1 : Int32) (f : Nat) (out : Int32) (hf : M_noOne f x1 I V = some out) : Met l yX10_noOne wsX10_noOne rm_M_noOne (va_Pc [.ref o, .int x1] (xR D cs (w_M cs o h I V))) (vp_Si (fun r => r = out)) 0 0 (fun _ => False) := by
  refine Met.ofW (cc := cX10_noOne) (maxL := 2) (ret := (some .boolean)) (by decide) rfl ?_
  intro p e s m args below meth c s₁ B hml hv
  obtain ⟨ha, hP, hK⟩ := hv
  have hx := B.exec
  have hb := B.bytes
  have hr := B.returns
  have hts := atoms_spec (ws := wsX10_noOne) B.pre
  have hown : s.vm.findClass RX10 = some m.cls := findClass_of_methodNamed B.named
  have hlocks := B.notSynchronized
  have in_X10 : ∀ w ∈ u_ws RX10 TX10 38, w ∈ wsX10_noOne := fun w h => List.mem_cons_of_mem _ (List.mem_append_right _ h)
  have g_96 := hts (Cond.fieldLink RX10 96 "DaysLentModel" "people" "I") (by decide +kernel)
  have w_in_99 := va_cwS (R := rm_M_noOne) (s := s) (args := args) (rm := rm_M_in) (mc := 0) (ms := 0) 3 hts gX10_noOne_X10_in rfl rfl rfl (by decide +kernel) ⟨Nat.le_of_ble_eq_true rfl, Nat.le_of_ble_eq_true rfl⟩
  have hl := lv_entry ([.ref o, .int x1]) (n := 2) (Nat.le_of_ble_eq_true rfl)
  rw [show entryFrame m args 2 = entryFrame m ([.ref o, .int x1] : List Value).toArray 2 from by rw [ha], lg_entry_eq]
  generalize (lg_sl ([.ref o, .int x1]) ++ List.replicate (2 - (lg_sl ([.ref o, .int x1])).length) Slot.unset).toArray = ls at hl ⊢
  generalize hQ : MQ below (vp_Si (fun r => r = out)) args s 0 0 (fun _ => False) = Q
  have hret : ∀ (v : Int32) (pc : Nat) (ls : Array Slot), narrow .boolean (.int v) = .int v → some v = some out → decode cX10_noOne pc = .ok (.ireturn, 1) → W p l e rm_M_noOne s m args below meth c s.heap [] 0 0 Q (F0 m pc ls [.int v]) := by
    intro v pc ls hz hf hd
    rw [← hQ]
    exact W.zret (v := v) hx hb hr hz (fun t ht hW => ⟨v, rfl, Option.some.inj hf, ht⟩) (fun q h => by cases h) hd
  exact v_M_noOne hf hx hb hml hown hts in_X10 g_96 w_in_99 hP hK hret ls hl
def M_write_L39 {ρ : Type} (f : Nat) (x2 : Int64) (k_39 : FI → FV → Option ρ) : Nat → Int32 → FI → FV → Option ρ
  | 0, _, _, _ => none
  | n_39 + 1, x4_39, Im_39, Vm_39 => (if x4_39 < 0 then (k_39 Im_39 Vm_39) else if (Im_39 2) < 0 ∨ 80 ≤ (Im_39 2).toNatClampNeg then none else (nm (va_up Vm_39 1 (upd (Vm_39 1) (Im_39 2).toNatClampNeg (((x2 >>> ((8 * x4_39).toInt64 &&& 63)).toInt32) &&& 255))) (fun V3 => nm (va_up Im_39 2 ((Im_39 2) + 1)) (fun I4 => (M_write_L39 f x2 k_39 n_39 (x4_39 + (-1)) I4 V3)))))
def M_write (f : Nat) (x1 : Int32) (x2 : Int64) (I : FI) (V : FV) : Option (Int32 × FI × FV) := nm (va_up I 0 0) (fun I1 => ob1 (M_in f (x1.toInt64) 1 8) (fun zr2 => (if zr2 = 0 then some ((-2), I1, V) else (if ((I1 2) + x1) ≤ 80 then (M_write_L39 f x2 (fun (Im_39 : FI) (Vm_39 : FV) => some ((Im_39 2), Im_39, Vm_39)) f (x1 - 1) I1 V) else some ((-4), I1, V)))))
abbrev rm_M_write : Room := { frames := 1, cells := 0, slots := 0, locals := 25 }
set_option maxHeartbeats 4000000 in
set_option maxRecDepth 100000 in
theorem v_M_write {l : Launch} {p : Program} {e : Env} {s : State} {m : MethodId} {args : Array Value} {below : List Frame} {meth : Method} {c : Code} {Q : State → Prop} {D : va_G} {cs : Nat → ClassId} {o : Nat} {h : Nat → Nat} {A : Nat → Prop} {I : FI} {V : FV} {x1 : Int32} {x2 : Int64} {f : Nat} {out : Int32 × FI × FV} (hf : M_write f x1 x2 I V = some out) (hx : p.tables.exec = Jvm.exec) (hb : c.code = cX10_write) (hml : c.maxLocals = 5) (hown : s.vm.findClass RX10 = some m.cls) (hts : ∀ w ∈ wsX10_write, w.before args s = true) (in_X10 : ∀ w ∈ u_ws RX10 TX10 38, w ∈ wsX10_write) (g_92 : (Cond.fieldLink RX10 92 "DaysLentModel" "thrown" "I").before args s = true) (k_103 : (Cond.constantLong RX10 103 (8)).before args s = true) (w_in_99 : CallB rm_M_write s args RX10 99 yX10_in cX10_in 6 (some .boolean) wsX10_in rm_M_in 0 0 3 ∧ (Cond.static yX10_in).before args s = true) (g_105 : (Cond.fieldLink RX10 105 "DaysLentModel" "textSize" "I").before args s = true) (g_7 : (Cond.fieldLink RX10 7 "DaysLentModel" "text" "[I").before args s = true) (hA : ∀ q : Nat, s.heap.size ≤ q → A q) (hP : va_P D vwCl (w_M cs o h I V) s.heap) (hD : va_D A (w_M cs o h I V)) (hK : va_K D vwCl (tyA cs) s) (hret : ∀ (v : Int32) (Im9 : FI) (Vm9 : FV) (H : Heap) (locs : List Loc) (pc : Nat) (ls : Array Slot), some (v, Im9, Vm9) = some out → va_P D vwCl (w_M cs o h Im9 Vm9) H → va_D A (w_M cs o h Im9 Vm9) → va_S A s.heap H locs → decode cX10_write pc = .ok (.ireturn, 1) → W p l e rm_M_write s m args below meth c H locs 0 0 Q (F0 m pc ls [.int v])) : ∀ ls : Array Slot, lv_has ls 5 [(0, .ref o), (1, .int x1), (2, .long x2)] → W p l e rm_M_write s m args below meth c s.heap [] 0 0 Q (F0 m 0 ls []) := by
  intro ls hl
  have hS : va_S A s.heap s.heap [] := va_S.rf
  unfold M_write at hf
  refine lv_aload_n hx hb dX10_write_0 rfl (lv_at hl 0 rfl) ?_
  refine lv_iconst (v := 0) hx hb dX10_write_1 (by decide) ?_
  refine va_put (D := D) (ci := 10) (v := .int 0) (ty := .int) (C := RX10) (T := TX10) (N := 38) hx hb hts in_X10 tyX10 tyX10_ok nmX10 hown hK hP hD hS 0 rfl rfl 0 (by decide) g_92 (fun _ h9 => h9) rfl (by decide +kernel) rfl rfl (Nat.le_of_ble_eq_true rfl) dX10_write_2 (fun H locs hP hD hS => ?_)
  obtain ⟨I1, eI1, hf⟩ := nme hf
  have hP : va_P D vwCl (w_M cs o h I1 V) H := by rw [eI1]; exact hP
  have hD : va_D A (w_M cs o h I1 V) := by rw [eI1]; exact hD
  refine lv_iload_n hx hb dX10_write_5 rfl (lv_at hl 1 rfl) ?_
  refine lv_i2l (v := x1.toInt64) hx hb dX10_write_6 rfl ?_
  refine lv_lconst (v := 1) hx hb dX10_write_7 (by decide) ?_
  refine lv_ldc2 (v := 8) hx hb hown k_103 dX10_write_8 ?_
  obtain ⟨zr2, qr2, hf⟩ := bd1 hf
  refine vp_callSi (va_Run.run (va_runS (As := [.long (x1.toInt64), .long 1, .long 8]) (rest := []) ⟨hx, hb, hml, hown, hts⟩ (c_M_in l (x1.toInt64) 1 8 f zr2 qr2) w_in_99 ⟨fun a U g mk q => q, fun U hU hW => ⟨rfl, trivial⟩⟩ rfl rfl hl.1 rfl (lv_room (Nat.le_of_ble_eq_true rfl)) dX10_write_11 ⟨Nat.zero_le _, Nat.zero_le _⟩)) (fun r2 er2 => ?_)
  rw [er2]
  refine lv_if_ne (tgt := 20) hx hb dX10_write_14 (by decide) (fun c14 => ?_) (fun c14 => ?_)
  · replace hf := im c14 hf
    refine lv_aload_n hx hb dX10_write_20 rfl (lv_at hl 0 rfl) ?_
    refine va_get (D := D) (ci := 10) (v := .int (I1 2)) (C := RX10) (T := TX10) (N := 38) hx hb hts in_X10 hown hK hP 0 rfl rfl 2 (by decide) g_105 (fun _ h9 => h9) rfl dX10_write_21 ?_
    refine lv_iload_n hx hb dX10_write_24 rfl (lv_at hl 1 rfl) ?_
    refine lv_iadd hx hb dX10_write_25 ?_
    refine lv_bipush (v := 80) hx hb dX10_write_26 (by decide) ?_
    refine lv_icmp_le (tgt := 34) hx hb dX10_write_28 (by decide) (fun c28 => ?_) (fun c28 => ?_)
    · replace hf := ip c28 hf
      refine lv_iload_n hx hb dX10_write_34 rfl (lv_at hl 1 rfl) ?_
      refine lv_iconst (v := 1) hx hb dX10_write_35 (by decide) ?_
      refine lv_isub hx hb dX10_write_36 ?_
      refine lv_istore (lv' := [(4, .int (x1 - 1)), (0, .ref o), (1, .int x1), (2, .long x2)]) hx hb dX10_write_37 hl (by decide) rfl (fun ls hl => ?_)
      have L39 : ∀ (k_39 : FI → FV → Option (Int32 × FI × FV)) (hk_39 : ∀ (Im_39 : FI) (Vm_39 : FV), k_39 Im_39 Vm_39 = some out → ∀ (H : Heap) (locs : List Loc), va_P D vwCl (w_M cs o h Im_39 Vm_39) H → va_D A (w_M cs o h Im_39 Vm_39) → va_S A s.heap H locs → ∀ ls : Array Slot, lv_has ls 5 [(0, .ref o)] → W p l e rm_M_write s m args below meth c H locs 0 0 Q (F0 m 81 ls [])), ∀ (n_39 : Nat) (x4_39 : Int32) (Im_39 : FI) (Vm_39 : FV), M_write_L39 f x2 k_39 n_39 x4_39 Im_39 Vm_39 = some out → ∀ (H : Heap) (locs : List Loc), va_P D vwCl (w_M cs o h Im_39 Vm_39) H → va_D A (w_M cs o h Im_39 Vm_39) → va_S A s.heap H locs → ∀ ls : Array Slot, lv_has ls 5 [(0, .ref o), (2, .long x2), (4, .int x4_39)] → W p l e rm_M_write s m args below meth c H locs 0 0 Q (F0 m 39 ls []) := by
        intro k_39 hk_39 n_39
        induction n_39 with
        | zero => intro x4_39 Im_39 Vm_39 hf; rw [M_write_L39] at hf; cases hf
        | succ n_39 ih_39 =>
          intro x4_39 Im_39 Vm_39 hf H locs hP hD hS ls hl
          rw [M_write_L39] at hf
          refine lv_iload hx hb dX10_write_39 (lv_at hl 2 rfl) ?_
          refine lv_if_lt (tgt := 81) hx hb dX10_write_41 (by decide) (fun c41 => ?_) (fun c41 => ?_)
          · replace hf := ip c41 hf
            exact hk_39 Im_39 Vm_39 hf _ _ hP hD hS _ (lv_sub hl [0] rfl)
          · replace hf := im c41 hf
            refine lv_aload_n hx hb dX10_write_44 rfl (lv_at hl 0 rfl) ?_
            refine va_get (D := D) (ci := 10) (v := .ref (h 1)) (C := RX10) (T := TX10) (N := 38) hx hb hts in_X10 hown hK hP 0 rfl rfl 1 (by decide) g_7 (fun _ h9 => h9) rfl dX10_write_45 ?_
            refine lv_aload_n hx hb dX10_write_48 rfl (lv_at hl 0 rfl) ?_
            refine va_get (D := D) (ci := 10) (v := .int (Im_39 2)) (C := RX10) (T := TX10) (N := 38) hx hb hts in_X10 hown hK hP 0 rfl rfl 2 (by decide) g_105 (fun _ h9 => h9) rfl dX10_write_49 ?_
            refine lv_lload_n hx hb dX10_write_52 rfl (lv_at hl 1 rfl) ?_
            refine lv_bipush (v := 8) hx hb dX10_write_53 (by decide) ?_
            refine lv_iload hx hb dX10_write_55 (lv_at hl 2 rfl) ?_
            refine lv_imul hx hb dX10_write_57 ?_
            refine lv_lshr (v := (x2 >>> ((8 * x4_39).toInt64 &&& 63))) hx hb dX10_write_58 rfl ?_
            refine lv_l2i (v := (x2 >>> ((8 * x4_39).toInt64 &&& 63)).toInt32) hx hb dX10_write_59 rfl ?_
            refine lv_sipush (v := 255) hx hb dX10_write_60 (by decide) ?_
            refine lv_iand hx hb dX10_write_63 ?_
            obtain ⟨c64, hf⟩ := gd hf
            refine va_iast (f := (Vm_39 1)) hx hb hK hP hD hS 1 0 rfl rfl c64 dX10_write_64 (fun H locs hP hD hS => ?_)
            obtain ⟨V3, eV3, hf⟩ := nme hf
            have hP : va_P D vwCl (w_M cs o h Im_39 V3) H := by rw [eV3]; exact hP
            have hD : va_D A (w_M cs o h Im_39 V3) := by rw [eV3]; exact hD
            refine lv_aload_n hx hb dX10_write_65 rfl (lv_at hl 0 rfl) ?_
            refine lv_dup hx hb dX10_write_66 rfl ?_
            refine va_get (D := D) (ci := 10) (v := .int (Im_39 2)) (C := RX10) (T := TX10) (N := 38) hx hb hts in_X10 hown hK hP 0 rfl rfl 2 (by decide) g_105 (fun _ h9 => h9) rfl dX10_write_67 ?_
            refine lv_iconst (v := 1) hx hb dX10_write_70 (by decide) ?_
            refine lv_iadd hx hb dX10_write_71 ?_
            refine va_put (D := D) (ci := 10) (v := .int ((Im_39 2) + 1)) (ty := .int) (C := RX10) (T := TX10) (N := 38) hx hb hts in_X10 tyX10 tyX10_ok nmX10 hown hK hP hD hS 0 rfl rfl 2 (by decide) g_105 (fun _ h9 => h9) rfl (by decide +kernel) rfl rfl (Nat.le_of_ble_eq_true rfl) dX10_write_72 (fun H locs hP hD hS => ?_)
            obtain ⟨I4, eI4, hf⟩ := nme hf
            have hP : va_P D vwCl (w_M cs o h I4 V3) H := by rw [eI4]; exact hP
            have hD : va_D A (w_M cs o h I4 V3) := by rw [eI4]; exact hD
            refine lv_iinc (v := (x4_39 + (-1))) (lv' := [(4, .int (x4_39 + (-1))), (0, .ref o), (2, .long x2)]) hx hb dX10_write_75 hl (k := 2) rfl (by rfl) (by decide) rfl (fun ls hl => ?_)
            refine lv_goto (tgt := 39) hx hb dX10_write_78 (by decide) ?_
            exact ih_39 (x4_39 + (-1)) I4 V3 hf _ _ hP hD hS _ (lv_sub hl [1, 2, 0] rfl)
      refine L39 _ (fun Im_39 Vm_39 hf H locs hP hD hS ls hl => ?_) f (x1 - 1) I1 V hf _ _ hP hD hS _ (lv_sub hl [1, 3, 0] rfl)
      refine lv_aload_n hx hb dX10_write_81 rfl (lv_at hl 0 rfl) ?_
      refine va_get (D := D) (ci := 10) (v := .int (Im_39 2)) (C := RX10) (T := TX10) (N := 38) hx hb hts in_X10 hown hK hP 0 rfl rfl 2 (by decide) g_105 (fun _ h9 => h9) rfl dX10_write_82 ?_
      exact hret (Im_39 2) Im_39 Vm_39 _ _ 85 _ hf hP hD hS dX10_write_85
    · replace hf := im c28 hf
      refine lv_bipush (v := (-4)) hx hb dX10_write_31 (by decide) ?_
      exact hret (-4) I1 V _ _ 33 _ hf hP hD hS dX10_write_33
  · replace hf := ip c14 hf
    refine lv_bipush (v := (-2)) hx hb dX10_write_17 (by decide) ?_
    exact hret (-2) I1 V _ _ 19 _ hf hP hD hS dX10_write_19
set_option maxHeartbeats 4000000 in
set_option maxRecDepth 100000 in
theorem c_M_write (l : Launch) (D : va_G) (cs : Nat → ClassId) (o : Nat) (h : Nat → Nat) (sz : Nat) (I : FI) (V : FV) (x1 : Int32) (x2 : Int64) (f : Nat) (out : Int32 × FI × FV) (hf : M_write f x1 x2 I V = some out) : Met l yX10_write wsX10_write rm_M_write (va_Pc [.ref o, .int x1, .long x2] (xP D cs (w_M cs o h I V) sz)) (va_Qi (fun r u => (r, u) = out) (fun (u : FI × FV) t => xA D cs (va_A (w_M cs o h I V) sz) (w_M cs o h u.1 u.2) t) (va_A (w_M cs o h I V) sz)) 0 0 (va_A (w_M cs o h I V) sz) := by
  refine Met.ofW (cc := cX10_write) (maxL := 5) (ret := (some .int)) (by decide) rfl ?_
  intro p e s m args below meth c s₁ B hml hv
  obtain ⟨ha, hsz, hP, hK, hD0⟩ := hv
  have hx := B.exec
  have hb := B.bytes
  have hr := B.returns
  have hts := atoms_spec (ws := wsX10_write) B.pre
  have hown : s.vm.findClass RX10 = some m.cls := findClass_of_methodNamed B.named
  have hlocks := B.notSynchronized
  have in_X10 : ∀ w ∈ u_ws RX10 TX10 38, w ∈ wsX10_write := fun w h => List.mem_cons_of_mem _ (List.mem_append_right _ h)
  have g_92 := hts (Cond.fieldLink RX10 92 "DaysLentModel" "thrown" "I") (by decide +kernel)
  have k_103 := hts (Cond.constantLong RX10 103 (8)) (by decide +kernel)
  have w_in_99 := va_cwS (R := rm_M_write) (s := s) (args := args) (rm := rm_M_in) (mc := 0) (ms := 0) 3 hts gX10_write_X10_in rfl rfl rfl (by decide +kernel) ⟨Nat.le_of_ble_eq_true rfl, Nat.le_of_ble_eq_true rfl⟩
  have g_105 := hts (Cond.fieldLink RX10 105 "DaysLentModel" "textSize" "I") (by decide +kernel)
  have g_7 := hts (Cond.fieldLink RX10 7 "DaysLentModel" "text" "[I") (by decide +kernel)
  subst hsz
  have hD := hD0.self (sz := s.heap.size)
  generalize hAe : va_A (w_M cs o h I V) s.heap.size = A at hD ⊢
  have hA : ∀ q : Nat, s.heap.size ≤ q → A q := fun q h => by rw [← hAe]; exact Or.inr h
  have hl := lv_entry ([.ref o, .int x1, .long x2]) (n := 5) (Nat.le_of_ble_eq_true rfl)
  rw [show entryFrame m args 5 = entryFrame m ([.ref o, .int x1, .long x2] : List Value).toArray 5 from by rw [ha], lg_entry_eq]
  generalize (lg_sl ([.ref o, .int x1, .long x2]) ++ List.replicate (5 - (lg_sl ([.ref o, .int x1, .long x2])).length) Slot.unset).toArray = ls at hl ⊢
  generalize hQ : MQ below (va_Qi (fun r u => (r, u) = out) (fun (u : FI × FV) t => xA D cs A (w_M cs o h u.1 u.2) t) A) args s 0 0 A = Q
  have hret : ∀ (v : Int32) (Im9 : FI) (Vm9 : FV) (H : Heap) (locs : List Loc) (pc : Nat) (ls : Array Slot), some (v, Im9, Vm9) = some out → va_P D vwCl (w_M cs o h Im9 Vm9) H → va_D A (w_M cs o h Im9 Vm9) → va_S A s.heap H locs → decode cX10_write pc = .ok (.ireturn, 1) → W p l e rm_M_write s m args below meth c H locs 0 0 Q (F0 m pc ls [.int v]) := by
    intro v Im9 Vm9 H locs pc ls hf hP hD hS hd
    rw [← hQ]
    exact W.iret (v := v) hx hb hr (fun t ht hW => ⟨⟨v, (Im9, Vm9), rfl, Option.some.inj hf, by show va_P D vwCl (w_M cs o h Im9 Vm9) t.heap; rw [ht]; exact hP, va_K.moved hW.alike hK, hD⟩, hS.F ht⟩) hS.2.2 hd
  exact v_M_write hf hx hb hml hown hts in_X10 g_92 k_103 w_in_99 g_105 g_7 hA hP hD hK hret ls hl
def M_wipe (f : Nat) (I : FI) (V : FV) : Option (Int32 × FI × FV) := nm (va_up I 0 0) (fun I1 => nm (va_up I1 2 0) (fun I2 => some ((I1 2), I2, V)))
abbrev rm_M_wipe : Room := { frames := 0, cells := 0, slots := 0, locals := 0 }
set_option maxHeartbeats 4000000 in
set_option maxRecDepth 100000 in
theorem v_M_wipe {l : Launch} {p : Program} {e : Env} {s : State} {m : MethodId} {args : Array Value} {below : List Frame} {meth : Method} {c : Code} {Q : State → Prop} {D : va_G} {cs : Nat → ClassId} {o : Nat} {h : Nat → Nat} {A : Nat → Prop} {I : FI} {V : FV} {f : Nat} {out : Int32 × FI × FV} (hf : M_wipe f I V = some out) (hx : p.tables.exec = Jvm.exec) (hb : c.code = cX10_wipe) (hml : c.maxLocals = 2) (hown : s.vm.findClass RX10 = some m.cls) (hts : ∀ w ∈ wsX10_wipe, w.before args s = true) (in_X10 : ∀ w ∈ u_ws RX10 TX10 38, w ∈ wsX10_wipe) (g_92 : (Cond.fieldLink RX10 92 "DaysLentModel" "thrown" "I").before args s = true) (g_105 : (Cond.fieldLink RX10 105 "DaysLentModel" "textSize" "I").before args s = true) (hA : ∀ q : Nat, s.heap.size ≤ q → A q) (hP : va_P D vwCl (w_M cs o h I V) s.heap) (hD : va_D A (w_M cs o h I V)) (hK : va_K D vwCl (tyA cs) s) (hret : ∀ (v : Int32) (Im9 : FI) (Vm9 : FV) (H : Heap) (locs : List Loc) (pc : Nat) (ls : Array Slot), some (v, Im9, Vm9) = some out → va_P D vwCl (w_M cs o h Im9 Vm9) H → va_D A (w_M cs o h Im9 Vm9) → va_S A s.heap H locs → decode cX10_wipe pc = .ok (.ireturn, 1) → W p l e rm_M_wipe s m args below meth c H locs 0 0 Q (F0 m pc ls [.int v])) : ∀ ls : Array Slot, lv_has ls 2 [(0, .ref o)] → W p l e rm_M_wipe s m args below meth c s.heap [] 0 0 Q (F0 m 0 ls []) := by
  intro ls hl
  have hS : va_S A s.heap s.heap [] := va_S.rf
  unfold M_wipe at hf
  refine lv_aload_n hx hb dX10_wipe_0 rfl (lv_at hl 0 rfl) ?_
  refine lv_iconst (v := 0) hx hb dX10_wipe_1 (by decide) ?_
  refine va_put (D := D) (ci := 10) (v := .int 0) (ty := .int) (C := RX10) (T := TX10) (N := 38) hx hb hts in_X10 tyX10 tyX10_ok nmX10 hown hK hP hD hS 0 rfl rfl 0 (by decide) g_92 (fun _ h9 => h9) rfl (by decide +kernel) rfl rfl (Nat.le_of_ble_eq_true rfl) dX10_wipe_2 (fun H locs hP hD hS => ?_)
  obtain ⟨I1, eI1, hf⟩ := nme hf
  have hP : va_P D vwCl (w_M cs o h I1 V) H := by rw [eI1]; exact hP
  have hD : va_D A (w_M cs o h I1 V) := by rw [eI1]; exact hD
  refine lv_aload_n hx hb dX10_wipe_5 rfl (lv_at hl 0 rfl) ?_
  refine va_get (D := D) (ci := 10) (v := .int (I1 2)) (C := RX10) (T := TX10) (N := 38) hx hb hts in_X10 hown hK hP 0 rfl rfl 2 (by decide) g_105 (fun _ h9 => h9) rfl dX10_wipe_6 ?_
  refine lv_istore_n (lv' := [(1, .int (I1 2)), (0, .ref o)]) hx hb dX10_wipe_9 rfl hl (by decide) rfl (fun ls hl => ?_)
  refine lv_aload_n hx hb dX10_wipe_10 rfl (lv_at hl 1 rfl) ?_
  refine lv_iconst (v := 0) hx hb dX10_wipe_11 (by decide) ?_
  refine va_put (D := D) (ci := 10) (v := .int 0) (ty := .int) (C := RX10) (T := TX10) (N := 38) hx hb hts in_X10 tyX10 tyX10_ok nmX10 hown hK hP hD hS 0 rfl rfl 2 (by decide) g_105 (fun _ h9 => h9) rfl (by decide +kernel) rfl rfl (Nat.le_of_ble_eq_true rfl) dX10_wipe_12 (fun H locs hP hD hS => ?_)
  obtain ⟨I2, eI2, hf⟩ := nme hf
  have hP : va_P D vwCl (w_M cs o h I2 V) H := by rw [eI2]; exact hP
  have hD : va_D A (w_M cs o h I2 V) := by rw [eI2]; exact hD
  refine lv_iload_n hx hb dX10_wipe_15 rfl (lv_at hl 0 rfl) ?_
  exact hret (I1 2) I2 V _ _ 16 _ hf hP hD hS dX10_wipe_16
set_option maxHeartbeats 4000000 in
set_option maxRecDepth 100000 in
theorem c_M_wipe (l : Launch) (D : va_G) (cs : Nat → ClassId) (o : Nat) (h : Nat → Nat) (sz : Nat) (I : FI) (V : FV) (f : Nat) (out : Int32 × FI × FV) (hf : M_wipe f I V = some out) : Met l yX10_wipe wsX10_wipe rm_M_wipe (va_Pc [.ref o] (xP D cs (w_M cs o h I V) sz)) (va_Qi (fun r u => (r, u) = out) (fun (u : FI × FV) t => xA D cs (va_A (w_M cs o h I V) sz) (w_M cs o h u.1 u.2) t) (va_A (w_M cs o h I V) sz)) 0 0 (va_A (w_M cs o h I V) sz) := by
  refine Met.ofW (cc := cX10_wipe) (maxL := 2) (ret := (some .int)) (by decide) rfl ?_
  intro p e s m args below meth c s₁ B hml hv
  obtain ⟨ha, hsz, hP, hK, hD0⟩ := hv
  have hx := B.exec
  have hb := B.bytes
  have hr := B.returns
  have hts := atoms_spec (ws := wsX10_wipe) B.pre
  have hown : s.vm.findClass RX10 = some m.cls := findClass_of_methodNamed B.named
  have hlocks := B.notSynchronized
  have in_X10 : ∀ w ∈ u_ws RX10 TX10 38, w ∈ wsX10_wipe := fun w h => List.mem_cons_of_mem _ (List.mem_append_right _ h)
  have g_92 := hts (Cond.fieldLink RX10 92 "DaysLentModel" "thrown" "I") (by decide +kernel)
  have g_105 := hts (Cond.fieldLink RX10 105 "DaysLentModel" "textSize" "I") (by decide +kernel)
  subst hsz
  have hD := hD0.self (sz := s.heap.size)
  generalize hAe : va_A (w_M cs o h I V) s.heap.size = A at hD ⊢
  have hA : ∀ q : Nat, s.heap.size ≤ q → A q := fun q h => by rw [← hAe]; exact Or.inr h
  have hl := lv_entry ([.ref o]) (n := 2) (Nat.le_of_ble_eq_true rfl)
  rw [show entryFrame m args 2 = entryFrame m ([.ref o] : List Value).toArray 2 from by rw [ha], lg_entry_eq]
  generalize (lg_sl ([.ref o]) ++ List.replicate (2 - (lg_sl ([.ref o])).length) Slot.unset).toArray = ls at hl ⊢
  generalize hQ : MQ below (va_Qi (fun r u => (r, u) = out) (fun (u : FI × FV) t => xA D cs A (w_M cs o h u.1 u.2) t) A) args s 0 0 A = Q
  have hret : ∀ (v : Int32) (Im9 : FI) (Vm9 : FV) (H : Heap) (locs : List Loc) (pc : Nat) (ls : Array Slot), some (v, Im9, Vm9) = some out → va_P D vwCl (w_M cs o h Im9 Vm9) H → va_D A (w_M cs o h Im9 Vm9) → va_S A s.heap H locs → decode cX10_wipe pc = .ok (.ireturn, 1) → W p l e rm_M_wipe s m args below meth c H locs 0 0 Q (F0 m pc ls [.int v]) := by
    intro v Im9 Vm9 H locs pc ls hf hP hD hS hd
    rw [← hQ]
    exact W.iret (v := v) hx hb hr (fun t ht hW => ⟨⟨v, (Im9, Vm9), rfl, Option.some.inj hf, by show va_P D vwCl (w_M cs o h Im9 Vm9) t.heap; rw [ht]; exact hP, va_K.moved hW.alike hK, hD⟩, hS.F ht⟩) hS.2.2 hd
  exact v_M_wipe hf hx hb hml hown hts in_X10 g_92 g_105 hA hP hD hK hret ls hl
def M_figure (f : Nat) (x1 : Int32) (x2 : Int32) (I : FI) (V : FV) : Option (Int32 × FI × FV) := (if (I 3) = (I 2) then some ((-9), I, V) else if (I 3) < 0 ∨ 80 ≤ (I 3).toNatClampNeg then none else (ob1 (M_in f ((((V 1) (I 3).toNatClampNeg) - 48).toInt64) (x1.toInt64) (x2.toInt64)) (fun zr1 => (if zr1 = 0 then some ((-9), I, V) else nm (va_up I 3 ((I 3) + 1)) (fun I2 => if ((I2 3) - 1) < 0 ∨ 80 ≤ ((I2 3) - 1).toNatClampNeg then none else (some ((((V 1) ((I2 3) - 1).toNatClampNeg) - 48), I2, V)))))))
abbrev rm_M_figure : Room := { frames := 1, cells := 0, slots := 0, locals := 25 }
set_option maxHeartbeats 4000000 in
set_option maxRecDepth 100000 in
theorem v_M_figure {l : Launch} {p : Program} {e : Env} {s : State} {m : MethodId} {args : Array Value} {below : List Frame} {meth : Method} {c : Code} {Q : State → Prop} {D : va_G} {cs : Nat → ClassId} {o : Nat} {h : Nat → Nat} {A : Nat → Prop} {I : FI} {V : FV} {x1 : Int32} {x2 : Int32} {f : Nat} {out : Int32 × FI × FV} (hf : M_figure f x1 x2 I V = some out) (hx : p.tables.exec = Jvm.exec) (hb : c.code = cX10_figure) (hml : c.maxLocals = 3) (hown : s.vm.findClass RX10 = some m.cls) (hts : ∀ w ∈ wsX10_figure, w.before args s = true) (in_X10 : ∀ w ∈ u_ws RX10 TX10 38, w ∈ wsX10_figure) (g_108 : (Cond.fieldLink RX10 108 "DaysLentModel" "place" "I").before args s = true) (g_105 : (Cond.fieldLink RX10 105 "DaysLentModel" "textSize" "I").before args s = true) (g_7 : (Cond.fieldLink RX10 7 "DaysLentModel" "text" "[I").before args s = true) (w_in_99 : CallB rm_M_figure s args RX10 99 yX10_in cX10_in 6 (some .boolean) wsX10_in rm_M_in 0 0 3 ∧ (Cond.static yX10_in).before args s = true) (hA : ∀ q : Nat, s.heap.size ≤ q → A q) (hP : va_P D vwCl (w_M cs o h I V) s.heap) (hD : va_D A (w_M cs o h I V)) (hK : va_K D vwCl (tyA cs) s) (hret : ∀ (v : Int32) (Im9 : FI) (Vm9 : FV) (H : Heap) (locs : List Loc) (pc : Nat) (ls : Array Slot), some (v, Im9, Vm9) = some out → va_P D vwCl (w_M cs o h Im9 Vm9) H → va_D A (w_M cs o h Im9 Vm9) → va_S A s.heap H locs → decode cX10_figure pc = .ok (.ireturn, 1) → W p l e rm_M_figure s m args below meth c H locs 0 0 Q (F0 m pc ls [.int v])) : ∀ ls : Array Slot, lv_has ls 3 [(0, .ref o), (1, .int x1), (2, .int x2)] → W p l e rm_M_figure s m args below meth c s.heap [] 0 0 Q (F0 m 0 ls []) := by
  intro ls hl
  have hS : va_S A s.heap s.heap [] := va_S.rf
  unfold M_figure at hf
  refine lv_aload_n hx hb dX10_figure_0 rfl (lv_at hl 0 rfl) ?_
  refine va_get (D := D) (ci := 10) (v := .int (I 3)) (C := RX10) (T := TX10) (N := 38) hx hb hts in_X10 hown hK hP 0 rfl rfl 3 (by decide) g_108 (fun _ h9 => h9) rfl dX10_figure_1 ?_
  refine lv_aload_n hx hb dX10_figure_4 rfl (lv_at hl 0 rfl) ?_
  refine va_get (D := D) (ci := 10) (v := .int (I 2)) (C := RX10) (T := TX10) (N := 38) hx hb hts in_X10 hown hK hP 0 rfl rfl 2 (by decide) g_105 (fun _ h9 => h9) rfl dX10_figure_5 ?_
  refine lv_icmp_eq (tgt := 34) hx hb dX10_figure_8 (by decide) (fun c8 => ?_) (fun c8 => ?_)
  · replace hf := ip c8 hf
    refine lv_bipush (v := (-9)) hx hb dX10_figure_34 (by decide) ?_
    exact hret (-9) I V _ _ 36 _ hf hP hD hS dX10_figure_36
  · replace hf := im c8 hf
    refine lv_aload_n hx hb dX10_figure_11 rfl (lv_at hl 0 rfl) ?_
    refine va_get (D := D) (ci := 10) (v := .ref (h 1)) (C := RX10) (T := TX10) (N := 38) hx hb hts in_X10 hown hK hP 0 rfl rfl 1 (by decide) g_7 (fun _ h9 => h9) rfl dX10_figure_12 ?_
    refine lv_aload_n hx hb dX10_figure_15 rfl (lv_at hl 0 rfl) ?_
    refine va_get (D := D) (ci := 10) (v := .int (I 3)) (C := RX10) (T := TX10) (N := 38) hx hb hts in_X10 hown hK hP 0 rfl rfl 3 (by decide) g_108 (fun _ h9 => h9) rfl dX10_figure_16 ?_
    obtain ⟨c19, hf⟩ := gd hf
    refine va_iald (f := (V 1)) hx hb hK hP 1 0 rfl rfl c19 dX10_figure_19 ?_
    refine lv_bipush (v := 48) hx hb dX10_figure_20 (by decide) ?_
    refine lv_isub hx hb dX10_figure_22 ?_
    refine lv_i2l (v := (((V 1) (I 3).toNatClampNeg) - 48).toInt64) hx hb dX10_figure_23 rfl ?_
    refine lv_iload_n hx hb dX10_figure_24 rfl (lv_at hl 1 rfl) ?_
    refine lv_i2l (v := x1.toInt64) hx hb dX10_figure_25 rfl ?_
    refine lv_iload_n hx hb dX10_figure_26 rfl (lv_at hl 2 rfl) ?_
    refine lv_i2l (v := x2.toInt64) hx hb dX10_figure_27 rfl ?_
    obtain ⟨zr1, qr1, hf⟩ := bd1 hf
    refine vp_callSi (va_Run.run (va_runS (As := [.long ((((V 1) (I 3).toNatClampNeg) - 48).toInt64), .long (x1.toInt64), .long (x2.toInt64)]) (rest := []) ⟨hx, hb, hml, hown, hts⟩ (c_M_in l ((((V 1) (I 3).toNatClampNeg) - 48).toInt64) (x1.toInt64) (x2.toInt64) f zr1 qr1) w_in_99 ⟨fun a U g mk q => q, fun U hU hW => ⟨rfl, trivial⟩⟩ rfl rfl hl.1 rfl (lv_room (Nat.le_of_ble_eq_true rfl)) dX10_figure_28 ⟨Nat.zero_le _, Nat.zero_le _⟩)) (fun r1 er1 => ?_)
    rw [er1]
    refine lv_if_ne (tgt := 37) hx hb dX10_figure_31 (by decide) (fun c31 => ?_) (fun c31 => ?_)
    · replace hf := im c31 hf
      refine lv_aload_n hx hb dX10_figure_37 rfl (lv_at hl 0 rfl) ?_
      refine lv_dup hx hb dX10_figure_38 rfl ?_
      refine va_get (D := D) (ci := 10) (v := .int (I 3)) (C := RX10) (T := TX10) (N := 38) hx hb hts in_X10 hown hK hP 0 rfl rfl 3 (by decide) g_108 (fun _ h9 => h9) rfl dX10_figure_39 ?_
      refine lv_iconst (v := 1) hx hb dX10_figure_42 (by decide) ?_
      refine lv_iadd hx hb dX10_figure_43 ?_
      refine va_put (D := D) (ci := 10) (v := .int ((I 3) + 1)) (ty := .int) (C := RX10) (T := TX10) (N := 38) hx hb hts in_X10 tyX10 tyX10_ok nmX10 hown hK hP hD hS 0 rfl rfl 3 (by decide) g_108 (fun _ h9 => h9) rfl (by decide +kernel) rfl rfl (Nat.le_of_ble_eq_true rfl) dX10_figure_44 (fun H locs hP hD hS => ?_)
      obtain ⟨I2, eI2, hf⟩ := nme hf
      have hP : va_P D vwCl (w_M cs o h I2 V) H := by rw [eI2]; exact hP
      have hD : va_D A (w_M cs o h I2 V) := by rw [eI2]; exact hD
      refine lv_aload_n hx hb dX10_figure_47 rfl (lv_at hl 0 rfl) ?_
      refine va_get (D := D) (ci := 10) (v := .ref (h 1)) (C := RX10) (T := TX10) (N := 38) hx hb hts in_X10 hown hK hP 0 rfl rfl 1 (by decide) g_7 (fun _ h9 => h9) rfl dX10_figure_48 ?_
      refine lv_aload_n hx hb dX10_figure_51 rfl (lv_at hl 0 rfl) ?_
      refine va_get (D := D) (ci := 10) (v := .int (I2 3)) (C := RX10) (T := TX10) (N := 38) hx hb hts in_X10 hown hK hP 0 rfl rfl 3 (by decide) g_108 (fun _ h9 => h9) rfl dX10_figure_52 ?_
      refine lv_iconst (v := 1) hx hb dX10_figure_55 (by decide) ?_
      refine lv_isub hx hb dX10_figure_56 ?_
      obtain ⟨c57, hf⟩ := gd hf
      refine va_iald (f := (V 1)) hx hb hK hP 1 0 rfl rfl c57 dX10_figure_57 ?_
      refine lv_bipush (v := 48) hx hb dX10_figure_58 (by decide) ?_
      refine lv_isub hx hb dX10_figure_60 ?_
      exact hret (((V 1) ((I2 3) - 1).toNatClampNeg) - 48) I2 V _ _ 61 _ hf hP hD hS dX10_figure_61
    · replace hf := ip c31 hf
      refine lv_bipush (v := (-9)) hx hb dX10_figure_34 (by decide) ?_
      exact hret (-9) I V _ _ 36 _ hf hP hD hS dX10_figure_36
set_option maxHeartbeats 4000000 in
set_option maxRecDepth 100000 in
theorem c_M_figure (l : Launch) (D : va_G) (cs : Nat → ClassId) (o : Nat) (h : Nat → Nat) (sz : Nat) (I : FI) (V : FV) (x1 : Int32) (x2 : Int32) (f : Nat) (out : Int32 × FI × FV) (hf : M_figure f x1 x2 I V = some out) : Met l yX10_figure wsX10_figure rm_M_figure (va_Pc [.ref o, .int x1, .int x2] (xP D cs (w_M cs o h I V) sz)) (va_Qi (fun r u => (r, u) = out) (fun (u : FI × FV) t => xA D cs (va_A (w_M cs o h I V) sz) (w_M cs o h u.1 u.2) t) (va_A (w_M cs o h I V) sz)) 0 0 (va_A (w_M cs o h I V) sz) := by
  refine Met.ofW (cc := cX10_figure) (maxL := 3) (ret := (some .int)) (by decide) rfl ?_
  intro p e s m args below meth c s₁ B hml hv
  obtain ⟨ha, hsz, hP, hK, hD0⟩ := hv
  have hx := B.exec
  have hb := B.bytes
  have hr := B.returns
  have hts := atoms_spec (ws := wsX10_figure) B.pre
  have hown : s.vm.findClass RX10 = some m.cls := findClass_of_methodNamed B.named
  have hlocks := B.notSynchronized
  have in_X10 : ∀ w ∈ u_ws RX10 TX10 38, w ∈ wsX10_figure := fun w h => List.mem_cons_of_mem _ (List.mem_append_right _ h)
  have g_108 := hts (Cond.fieldLink RX10 108 "DaysLentModel" "place" "I") (by decide +kernel)
  have g_105 := hts (Cond.fieldLink RX10 105 "DaysLentModel" "textSize" "I") (by decide +kernel)
  have g_7 := hts (Cond.fieldLink RX10 7 "DaysLentModel" "text" "[I") (by decide +kernel)
  have w_in_99 := va_cwS (R := rm_M_figure) (s := s) (args := args) (rm := rm_M_in) (mc := 0) (ms := 0) 3 hts gX10_figure_X10_in rfl rfl rfl (by decide +kernel) ⟨Nat.le_of_ble_eq_true rfl, Nat.le_of_ble_eq_true rfl⟩
  subst hsz
  have hD := hD0.self (sz := s.heap.size)
  generalize hAe : va_A (w_M cs o h I V) s.heap.size = A at hD ⊢
  have hA : ∀ q : Nat, s.heap.size ≤ q → A q := fun q h => by rw [← hAe]; exact Or.inr h
  have hl := lv_entry ([.ref o, .int x1, .int x2]) (n := 3) (Nat.le_of_ble_eq_true rfl)
  rw [show entryFrame m args 3 = entryFrame m ([.ref o, .int x1, .int x2] : List Value).toArray 3 from by rw [ha], lg_entry_eq]
  generalize (lg_sl ([.ref o, .int x1, .int x2]) ++ List.replicate (3 - (lg_sl ([.ref o, .int x1, .int x2])).length) Slot.unset).toArray = ls at hl ⊢
  generalize hQ : MQ below (va_Qi (fun r u => (r, u) = out) (fun (u : FI × FV) t => xA D cs A (w_M cs o h u.1 u.2) t) A) args s 0 0 A = Q
  have hret : ∀ (v : Int32) (Im9 : FI) (Vm9 : FV) (H : Heap) (locs : List Loc) (pc : Nat) (ls : Array Slot), some (v, Im9, Vm9) = some out → va_P D vwCl (w_M cs o h Im9 Vm9) H → va_D A (w_M cs o h Im9 Vm9) → va_S A s.heap H locs → decode cX10_figure pc = .ok (.ireturn, 1) → W p l e rm_M_figure s m args below meth c H locs 0 0 Q (F0 m pc ls [.int v]) := by
    intro v Im9 Vm9 H locs pc ls hf hP hD hS hd
    rw [← hQ]
    exact W.iret (v := v) hx hb hr (fun t ht hW => ⟨⟨v, (Im9, Vm9), rfl, Option.some.inj hf, by show va_P D vwCl (w_M cs o h Im9 Vm9) t.heap; rw [ht]; exact hP, va_K.moved hW.alike hK, hD⟩, hS.F ht⟩) hS.2.2 hd
  exact v_M_figure hf hx hb hml hown hts in_X10 g_108 g_105 g_7 w_in_99 hA hP hD hK hret ls hl
def M_readPerson (f : Nat) (I : FI) (V : FV) : Option (Int32 × FI × FV) := ob3 (M_figure f 0 9 I V) (fun zr1 I2 V3 => (nm (fun (t0_26 : Int32) (Im_26 : FI) (Vm_26 : FV) => (nm (fun (t0_45 : Int32) (Im_45 : FI) (Vm_45 : FV) => (if t0_45 = (-9) then some (0, Im_45, Vm_45) else if (Im_45 15) < 0 ∨ 6 ≤ (Im_45 15).toNatClampNeg then none else (nm (va_up Vm_45 17 (upd (Vm_45 17) (Im_45 15).toNatClampNeg ((10 * zr1) + t0_26))) (fun V4 => if (Im_45 15) < 0 ∨ 6 ≤ (Im_45 15).toNatClampNeg then none else (nm (va_up V4 18 (upd (V4 18) (Im_45 15).toNatClampNeg t0_45)) (fun V5 => nm (va_up Im_45 15 ((Im_45 15) + 1)) (fun I6 => some (1, I6, V5)))))))) (fun j45 => (if t0_26 = (-9) then (j45 (-9) Im_26 Vm_26) else ob3 (M_figure f 0 9 Im_26 Vm_26) (fun zr7 I8 V9 => (j45 zr7 I8 V9)))))) (fun j26 => (if zr1 = (-9) then (j26 (-9) I2 V3) else ob3 (M_figure f 0 9 I2 V3) (fun zr10 I11 V12 => (j26 zr10 I11 V12))))))
abbrev rm_M_readPerson : Room := { frames := 2, cells := 0, slots := 0, locals := 47 }
set_option maxHeartbeats 4000000 in
set_option maxRecDepth 100000 in
theorem v_M_readPerson {l : Launch} {p : Program} {e : Env} {s : State} {m : MethodId} {args : Array Value} {below : List Frame} {meth : Method} {c : Code} {Q : State → Prop} {D : va_G} {cs : Nat → ClassId} {o : Nat} {h : Nat → Nat} {A : Nat → Prop} {I : FI} {V : FV} {f : Nat} {out : Int32 × FI × FV} (hf : M_readPerson f I V = some out) (hx : p.tables.exec = Jvm.exec) (hb : c.code = cX10_readPerson) (hml : c.maxLocals = 4) (hown : s.vm.findClass RX10 = some m.cls) (hts : ∀ w ∈ wsX10_readPerson, w.before args s = true) (in_X10 : ∀ w ∈ u_ws RX10 TX10 38, w ∈ wsX10_readPerson) (w_figure_111 : CallW rm_M_readPerson s args RX10 RX10 111 yX10_figure cX10_figure 3 (some .int) wsX10_figure rm_M_figure 0 0 2) (g_38 : (Cond.fieldLink RX10 38 "DaysLentModel" "readMornings" "[I").before args s = true) (g_115 : (Cond.fieldLink RX10 115 "DaysLentModel" "readPeople" "I").before args s = true) (g_41 : (Cond.fieldLink RX10 41 "DaysLentModel" "readAsks" "[I").before args s = true) (hA : ∀ q : Nat, s.heap.size ≤ q → A q) (hP : va_P D vwCl (w_M cs o h I V) s.heap) (hD : va_D A (w_M cs o h I V)) (hK : va_K D vwCl (tyA cs) s) (hret : ∀ (v : Int32) (Im9 : FI) (Vm9 : FV) (H : Heap) (locs : List Loc) (pc : Nat) (ls : Array Slot), narrow .boolean (.int v) = .int v → some (v, Im9, Vm9) = some out → va_P D vwCl (w_M cs o h Im9 Vm9) H → va_D A (w_M cs o h Im9 Vm9) → va_S A s.heap H locs → decode cX10_readPerson pc = .ok (.ireturn, 1) → W p l e rm_M_readPerson s m args below meth c H locs 0 0 Q (F0 m pc ls [.int v])) : ∀ ls : Array Slot, lv_has ls 4 [(0, .ref o)] → W p l e rm_M_readPerson s m args below meth c s.heap [] 0 0 Q (F0 m 0 ls []) := by
  intro ls hl
  have hS : va_S A s.heap s.heap [] := va_S.rf
  unfold M_readPerson at hf
  refine lv_aload_n hx hb dX10_readPerson_0 rfl (lv_at hl 0 rfl) ?_
  refine lv_iconst (v := 0) hx hb dX10_readPerson_1 (by decide) ?_
  refine lv_bipush (v := 9) hx hb dX10_readPerson_2 (by decide) ?_
  obtain ⟨zr1, I2, V3, qr1, hf⟩ := bd3 hf
  have hFc := xfree hD hS hA
  refine va_calli (va_runV (As := [.int 0, .int 9]) (rest := []) ⟨hx, hb, hml, hown, hts⟩ (c_M_figure l D cs o h _ I V 0 9 f _ qr1) w_figure_111 ⟨xP_moved, va_recv hK hP (ci := 10) (q0 := 0) rfl rfl, fun U hU hW => ⟨rfl, by rw [hU], by rw [hU]; exact hP, va_K.moved hW.alike hK, hD.weaken (fun _ _ _ _ => trivial)⟩⟩ rfl rfl hl.1 rfl (lv_room (Nat.le_of_ble_eq_true rfl)) dX10_readPerson_4 ⟨Nat.zero_le _, Nat.zero_le _⟩) hS (fun q _ h9 => hFc q h9) hFc (fun r1 u t H1 locs ht hvm hw hB hz1 hk1 hS => ?_)
  have er1 := congrArg Prod.fst hw
  have eu := congrArg Prod.snd hw
  dsimp only at er1 eu
  rw [er1]
  rw [eu] at hB
  obtain ⟨hP1, hK1, hD1⟩ := hB
  have hP : va_P D vwCl (w_M cs o h I2 V3) H1 := by rw [← ht]; exact hP1
  have hD : va_D A (w_M cs o h I2 V3) := hD1.weaken (fun _ q _ h9 => hFc q.1 h9)
  refine lv_istore_n (lv' := [(1, .int zr1), (0, .ref o)]) hx hb dX10_readPerson_7 rfl hl (by decide) rfl (fun ls hl => ?_)
  refine lv_iload_n hx hb dX10_readPerson_8 rfl (lv_at hl 0 rfl) ?_
  refine lv_bipush (v := (-9)) hx hb dX10_readPerson_9 (by decide) ?_
  obtain ⟨j26, ej26, hf⟩ := nme hf
  have J26 : ∀ (t0_26 : Int32) (Im_26 : FI) (Vm_26 : FV), j26 t0_26 Im_26 Vm_26 = some out → ∀ (H : Heap) (locs : List Loc), va_P D vwCl (w_M cs o h Im_26 Vm_26) H → va_D A (w_M cs o h Im_26 Vm_26) → va_S A s.heap H locs → ∀ ls : Array Slot, lv_has ls 4 [(0, .ref o), (1, .int zr1)] → W p l e rm_M_readPerson s m args below meth c H locs 0 0 Q (F0 m 26 ls [.int t0_26]) := by
    intro t0_26 Im_26 Vm_26 hf H locs hP hD hS ls hl
    rw [ej26] at hf
    refine lv_istore_n (lv' := [(2, .int t0_26), (0, .ref o), (1, .int zr1)]) hx hb dX10_readPerson_26 rfl hl (by decide) rfl (fun ls hl => ?_)
    refine lv_iload_n hx hb dX10_readPerson_27 rfl (lv_at hl 0 rfl) ?_
    refine lv_bipush (v := (-9)) hx hb dX10_readPerson_28 (by decide) ?_
    obtain ⟨j45, ej45, hf⟩ := nme hf
    have J45 : ∀ (t0_45 : Int32) (Im_45 : FI) (Vm_45 : FV), j45 t0_45 Im_45 Vm_45 = some out → ∀ (H : Heap) (locs : List Loc), va_P D vwCl (w_M cs o h Im_45 Vm_45) H → va_D A (w_M cs o h Im_45 Vm_45) → va_S A s.heap H locs → ∀ ls : Array Slot, lv_has ls 4 [(0, .ref o), (1, .int zr1), (2, .int t0_26)] → W p l e rm_M_readPerson s m args below meth c H locs 0 0 Q (F0 m 45 ls [.int t0_45]) := by
      intro t0_45 Im_45 Vm_45 hf H locs hP hD hS ls hl
      rw [ej45] at hf
      refine lv_istore_n (lv' := [(3, .int t0_45), (0, .ref o), (1, .int zr1), (2, .int t0_26)]) hx hb dX10_readPerson_45 rfl hl (by decide) rfl (fun ls hl => ?_)
      refine lv_iload_n hx hb dX10_readPerson_46 rfl (lv_at hl 0 rfl) ?_
      refine lv_bipush (v := (-9)) hx hb dX10_readPerson_47 (by decide) ?_
      refine lv_icmp_ne (tgt := 54) hx hb dX10_readPerson_49 (by decide) (fun c49 => ?_) (fun c49 => ?_)
      · replace hf := im c49 hf
        refine lv_aload_n hx hb dX10_readPerson_54 rfl (lv_at hl 1 rfl) ?_
        refine va_get (D := D) (ci := 10) (v := .ref (h 17)) (C := RX10) (T := TX10) (N := 38) hx hb hts in_X10 hown hK hP 0 rfl rfl 17 (by decide) g_38 (fun _ h9 => h9) rfl dX10_readPerson_55 ?_
        refine lv_aload_n hx hb dX10_readPerson_58 rfl (lv_at hl 1 rfl) ?_
        refine va_get (D := D) (ci := 10) (v := .int (Im_45 15)) (C := RX10) (T := TX10) (N := 38) hx hb hts in_X10 hown hK hP 0 rfl rfl 15 (by decide) g_115 (fun _ h9 => h9) rfl dX10_readPerson_59 ?_
        refine lv_bipush (v := 10) hx hb dX10_readPerson_62 (by decide) ?_
        refine lv_iload_n hx hb dX10_readPerson_64 rfl (lv_at hl 2 rfl) ?_
        refine lv_imul hx hb dX10_readPerson_65 ?_
        refine lv_iload_n hx hb dX10_readPerson_66 rfl (lv_at hl 3 rfl) ?_
        refine lv_iadd hx hb dX10_readPerson_67 ?_
        obtain ⟨c68, hf⟩ := gd hf
        refine va_iast (f := (Vm_45 17)) hx hb hK hP hD hS 10 0 rfl rfl c68 dX10_readPerson_68 (fun H locs hP hD hS => ?_)
        obtain ⟨V4, eV4, hf⟩ := nme hf
        have hP : va_P D vwCl (w_M cs o h Im_45 V4) H := by rw [eV4]; exact hP
        have hD : va_D A (w_M cs o h Im_45 V4) := by rw [eV4]; exact hD
        refine lv_aload_n hx hb dX10_readPerson_69 rfl (lv_at hl 1 rfl) ?_
        refine va_get (D := D) (ci := 10) (v := .ref (h 18)) (C := RX10) (T := TX10) (N := 38) hx hb hts in_X10 hown hK hP 0 rfl rfl 18 (by decide) g_41 (fun _ h9 => h9) rfl dX10_readPerson_70 ?_
        refine lv_aload_n hx hb dX10_readPerson_73 rfl (lv_at hl 1 rfl) ?_
        refine va_get (D := D) (ci := 10) (v := .int (Im_45 15)) (C := RX10) (T := TX10) (N := 38) hx hb hts in_X10 hown hK hP 0 rfl rfl 15 (by decide) g_115 (fun _ h9 => h9) rfl dX10_readPerson_74 ?_
        refine lv_iload_n hx hb dX10_readPerson_77 rfl (lv_at hl 0 rfl) ?_
        obtain ⟨c78, hf⟩ := gd hf
        refine va_iast (f := (V4 18)) hx hb hK hP hD hS 11 0 rfl rfl c78 dX10_readPerson_78 (fun H locs hP hD hS => ?_)
        obtain ⟨V5, eV5, hf⟩ := nme hf
        have hP : va_P D vwCl (w_M cs o h Im_45 V5) H := by rw [eV5]; exact hP
        have hD : va_D A (w_M cs o h Im_45 V5) := by rw [eV5]; exact hD
        refine lv_aload_n hx hb dX10_readPerson_79 rfl (lv_at hl 1 rfl) ?_
        refine lv_dup hx hb dX10_readPerson_80 rfl ?_
        refine va_get (D := D) (ci := 10) (v := .int (Im_45 15)) (C := RX10) (T := TX10) (N := 38) hx hb hts in_X10 hown hK hP 0 rfl rfl 15 (by decide) g_115 (fun _ h9 => h9) rfl dX10_readPerson_81 ?_
        refine lv_iconst (v := 1) hx hb dX10_readPerson_84 (by decide) ?_
        refine lv_iadd hx hb dX10_readPerson_85 ?_
        refine va_put (D := D) (ci := 10) (v := .int ((Im_45 15) + 1)) (ty := .int) (C := RX10) (T := TX10) (N := 38) hx hb hts in_X10 tyX10 tyX10_ok nmX10 hown hK hP hD hS 0 rfl rfl 15 (by decide) g_115 (fun _ h9 => h9) rfl (by decide +kernel) rfl rfl (Nat.le_of_ble_eq_true rfl) dX10_readPerson_86 (fun H locs hP hD hS => ?_)
        obtain ⟨I6, eI6, hf⟩ := nme hf
        have hP : va_P D vwCl (w_M cs o h I6 V5) H := by rw [eI6]; exact hP
        have hD : va_D A (w_M cs o h I6 V5) := by rw [eI6]; exact hD
        refine lv_iconst (v := 1) hx hb dX10_readPerson_89 (by decide) ?_
        exact hret 1 I6 V5 _ _ 90 _ rfl hf hP hD hS dX10_readPerson_90
      · replace hf := ip c49 hf
        refine lv_iconst (v := 0) hx hb dX10_readPerson_52 (by decide) ?_
        exact hret 0 Im_45 Vm_45 _ _ 53 _ rfl hf hP hD hS dX10_readPerson_53
    refine lv_icmp_ne (tgt := 38) hx hb dX10_readPerson_30 (by decide) (fun c30 => ?_) (fun c30 => ?_)
    · replace hf := im c30 hf
      refine lv_aload_n hx hb dX10_readPerson_38 rfl (lv_at hl 1 rfl) ?_
      refine lv_iconst (v := 0) hx hb dX10_readPerson_39 (by decide) ?_
      refine lv_bipush (v := 9) hx hb dX10_readPerson_40 (by decide) ?_
      obtain ⟨zr7, I8, V9, qr7, hf⟩ := bd3 hf
      have hFc := xfree hD hS hA
      refine va_calli (va_runV (As := [.int 0, .int 9]) (rest := []) ⟨hx, hb, hml, hown, hts⟩ (c_M_figure l D cs o h _ Im_26 Vm_26 0 9 f _ qr7) w_figure_111 ⟨xP_moved, va_recv hK hP (ci := 10) (q0 := 0) rfl rfl, fun U hU hW => ⟨rfl, by rw [hU], by rw [hU]; exact hP, va_K.moved hW.alike hK, hD.weaken (fun _ _ _ _ => trivial)⟩⟩ rfl rfl hl.1 rfl (lv_room (Nat.le_of_ble_eq_true rfl)) dX10_readPerson_42 ⟨Nat.zero_le _, Nat.zero_le _⟩) hS (fun q _ h9 => hFc q h9) hFc (fun r7 u t H1 locs ht hvm hw hB hz1 hk1 hS => ?_)
      have er7 := congrArg Prod.fst hw
      have eu := congrArg Prod.snd hw
      dsimp only at er7 eu
      rw [er7]
      rw [eu] at hB
      obtain ⟨hP1, hK1, hD1⟩ := hB
      have hP : va_P D vwCl (w_M cs o h I8 V9) H1 := by rw [← ht]; exact hP1
      have hD : va_D A (w_M cs o h I8 V9) := hD1.weaken (fun _ q _ h9 => hFc q.1 h9)
      exact J45 zr7 I8 V9 hf _ _ hP hD hS _ (lv_sub hl [1, 2, 0] rfl)
    · replace hf := ip c30 hf
      refine lv_bipush (v := (-9)) hx hb dX10_readPerson_33 (by decide) ?_
      refine lv_goto (tgt := 45) hx hb dX10_readPerson_35 (by decide) ?_
      exact J45 (-9) Im_26 Vm_26 hf _ _ hP hD hS _ (lv_sub hl [1, 2, 0] rfl)
  refine lv_icmp_ne (tgt := 19) hx hb dX10_readPerson_11 (by decide) (fun c11 => ?_) (fun c11 => ?_)
  · replace hf := im c11 hf
    refine lv_aload_n hx hb dX10_readPerson_19 rfl (lv_at hl 1 rfl) ?_
    refine lv_iconst (v := 0) hx hb dX10_readPerson_20 (by decide) ?_
    refine lv_bipush (v := 9) hx hb dX10_readPerson_21 (by decide) ?_
    obtain ⟨zr10, I11, V12, qr10, hf⟩ := bd3 hf
    have hFc := xfree hD hS hA
    refine va_calli (va_runV (As := [.int 0, .int 9]) (rest := []) ⟨hx, hb, hml, hown, hts⟩ (c_M_figure l D cs o h _ I2 V3 0 9 f _ qr10) w_figure_111 ⟨xP_moved, va_recv hK hP (ci := 10) (q0 := 0) rfl rfl, fun U hU hW => ⟨rfl, by rw [hU], by rw [hU]; exact hP, va_K.moved hW.alike hK, hD.weaken (fun _ _ _ _ => trivial)⟩⟩ rfl rfl hl.1 rfl (lv_room (Nat.le_of_ble_eq_true rfl)) dX10_readPerson_23 ⟨Nat.zero_le _, Nat.zero_le _⟩) hS (fun q _ h9 => hFc q h9) hFc (fun r10 u t H1 locs ht hvm hw hB hz1 hk1 hS => ?_)
    have er10 := congrArg Prod.fst hw
    have eu := congrArg Prod.snd hw
    dsimp only at er10 eu
    rw [er10]
    rw [eu] at hB
    obtain ⟨hP1, hK1, hD1⟩ := hB
    have hP : va_P D vwCl (w_M cs o h I11 V12) H1 := by rw [← ht]; exact hP1
    have hD : va_D A (w_M cs o h I11 V12) := hD1.weaken (fun _ q _ h9 => hFc q.1 h9)
    exact J26 zr10 I11 V12 hf _ _ hP hD hS _ (lv_sub hl [1, 0] rfl)
  · replace hf := ip c11 hf
    refine lv_bipush (v := (-9)) hx hb dX10_readPerson_14 (by decide) ?_
    refine lv_goto (tgt := 26) hx hb dX10_readPerson_16 (by decide) ?_
    exact J26 (-9) I2 V3 hf _ _ hP hD hS _ (lv_sub hl [1, 0] rfl)
set_option maxHeartbeats 4000000 in
set_option maxRecDepth 100000 in
theorem c_M_readPerson (l : Launch) (D : va_G) (cs : Nat → ClassId) (o : Nat) (h : Nat → Nat) (sz : Nat) (I : FI) (V : FV) (f : Nat) (out : Int32 × FI × FV) (hf : M_readPerson f I V = some out) : Met l yX10_readPerson wsX10_readPerson rm_M_readPerson (va_Pc [.ref o] (xP D cs (w_M cs o h I V) sz)) (va_Qi (fun r u => (r, u) = out) (fun (u : FI × FV) t => xA D cs (va_A (w_M cs o h I V) sz) (w_M cs o h u.1 u.2) t) (va_A (w_M cs o h I V) sz)) 0 0 (va_A (w_M cs o h I V) sz) := by
  refine Met.ofW (cc := cX10_readPerson) (maxL := 4) (ret := (some .boolean)) (by decide) rfl ?_
  intro p e s m args below meth c s₁ B hml hv
  obtain ⟨ha, hsz, hP, hK, hD0⟩ := hv
  have hx := B.exec
  have hb := B.bytes
  have hr := B.returns
  have hts := atoms_spec (ws := wsX10_readPerson) B.pre
  have hown : s.vm.findClass RX10 = some m.cls := findClass_of_methodNamed B.named
  have hlocks := B.notSynchronized
  have in_X10 : ∀ w ∈ u_ws RX10 TX10 38, w ∈ wsX10_readPerson := fun w h => List.mem_cons_of_mem _ (List.mem_append_right _ h)
  have w_figure_111 := cwV (R := rm_M_readPerson) (s := s) (args := args) (rm := rm_M_figure) (mc := 0) (ms := 0) 2 hts gX10_readPerson_X10_figure rfl rfl rfl (by decide +kernel) ⟨Nat.le_of_ble_eq_true rfl, Nat.le_of_ble_eq_true rfl⟩
  have g_38 := hts (Cond.fieldLink RX10 38 "DaysLentModel" "readMornings" "[I") (by decide +kernel)
  have g_115 := hts (Cond.fieldLink RX10 115 "DaysLentModel" "readPeople" "I") (by decide +kernel)
  have g_41 := hts (Cond.fieldLink RX10 41 "DaysLentModel" "readAsks" "[I") (by decide +kernel)
  subst hsz
  have hD := hD0.self (sz := s.heap.size)
  generalize hAe : va_A (w_M cs o h I V) s.heap.size = A at hD ⊢
  have hA : ∀ q : Nat, s.heap.size ≤ q → A q := fun q h => by rw [← hAe]; exact Or.inr h
  have hl := lv_entry ([.ref o]) (n := 4) (Nat.le_of_ble_eq_true rfl)
  rw [show entryFrame m args 4 = entryFrame m ([.ref o] : List Value).toArray 4 from by rw [ha], lg_entry_eq]
  generalize (lg_sl ([.ref o]) ++ List.replicate (4 - (lg_sl ([.ref o])).length) Slot.unset).toArray = ls at hl ⊢
  generalize hQ : MQ below (va_Qi (fun r u => (r, u) = out) (fun (u : FI × FV) t => xA D cs A (w_M cs o h u.1 u.2) t) A) args s 0 0 A = Q
  have hret : ∀ (v : Int32) (Im9 : FI) (Vm9 : FV) (H : Heap) (locs : List Loc) (pc : Nat) (ls : Array Slot), narrow .boolean (.int v) = .int v → some (v, Im9, Vm9) = some out → va_P D vwCl (w_M cs o h Im9 Vm9) H → va_D A (w_M cs o h Im9 Vm9) → va_S A s.heap H locs → decode cX10_readPerson pc = .ok (.ireturn, 1) → W p l e rm_M_readPerson s m args below meth c H locs 0 0 Q (F0 m pc ls [.int v]) := by
    intro v Im9 Vm9 H locs pc ls hz hf hP hD hS hd
    rw [← hQ]
    exact W.zret (v := v) hx hb hr hz (fun t ht hW => ⟨⟨v, (Im9, Vm9), rfl, Option.some.inj hf, by show va_P D vwCl (w_M cs o h Im9 Vm9) t.heap; rw [ht]; exact hP, va_K.moved hW.alike hK, hD⟩, hS.F ht⟩) hS.2.2 hd
  exact v_M_readPerson hf hx hb hml hown hts in_X10 w_figure_111 g_38 g_115 g_41 hA hP hD hK hret ls hl
def M_readDebt (f : Nat) (I : FI) (V : FV) : Option (Int32 × FI × FV) := ob3 (M_figure f 0 ((I 15) - 1) I V) (fun zr1 I2 V3 => (nm (fun (t0_61 : Int32) (Im_61 : FI) (Vm_61 : FV) => (nm (fun (t0_80 : Int32) (Im_80 : FI) (Vm_80 : FV) => (nm (fun (t0_107 : Int32) (Im_107 : FI) (Vm_107 : FV) => (nm (fun (t0_128 : Int32) (Im_128 : FI) (Vm_128 : FV) => (if t0_128 = (-9) then some (0, Im_128, Vm_128) else if (Im_128 16) < 0 ∨ 8 ≤ (Im_128 16).toNatClampNeg then none else (nm (va_up Vm_128 19 (upd (Vm_128 19) (Im_128 16).toNatClampNeg zr1)) (fun V4 => if (Im_128 16) < 0 ∨ 8 ≤ (Im_128 16).toNatClampNeg then none else (nm (va_up V4 20 (upd (V4 20) (Im_128 16).toNatClampNeg t0_61)) (fun V5 => if (Im_128 16) < 0 ∨ 8 ≤ (Im_128 16).toNatClampNeg then none else (nm (va_up V5 21 (upd (V5 21) (Im_128 16).toNatClampNeg ((10 * t0_80) + t0_107))) (fun V6 => if (Im_128 16) < 0 ∨ 8 ≤ (Im_128 16).toNatClampNeg then none else (nm (va_up V6 22 (upd (V6 22) (Im_128 16).toNatClampNeg t0_128)) (fun V7 => nm (va_up Im_128 16 ((Im_128 16) + 1)) (fun I8 => some (1, I8, V7)))))))))))) (fun j128 => (if t0_107 = (-9) then (j128 (-9) Im_107 Vm_107) else ob3 (M_figure f 1 9 Im_107 Vm_107) (fun zr9 I10 V11 => (j128 zr9 I10 V11)))))) (fun j107 => (if t0_80 = (-9) then (j107 (-9) Im_80 Vm_80) else (nm (fun (t1_102 : Int32) => ob3 (M_figure f t1_102 9 Im_80 Vm_80) (fun zr12 I13 V14 => (j107 zr12 I13 V14))) (fun j102 => (if t0_80 = 0 then (j102 1) else (j102 0)))))))) (fun j80 => (if t0_61 = (-9) then (j80 (-9) Im_61 Vm_61) else ob3 (M_figure f 0 9 Im_61 Vm_61) (fun zr15 I16 V17 => (j80 zr15 I16 V17)))))) (fun j61 => nm (fun (u_45 : Unit) => (j61 (-9) I2 V3)) (fun j45 => (if zr1 = (-9) then (j45 ()) else (nm (fun (u_50 : Unit) => ob3 (M_figure f 0 ((I2 15) - 1) I2 V3) (fun zr18 I19 V20 => (j61 zr18 I19 V20))) (fun j50 => (if (I2 2) ≤ (I2 3) then (j50 ()) else if (I2 3) < 0 ∨ 80 ≤ (I2 3).toNatClampNeg then none else ((if (((V3 1) (I2 3).toNatClampNeg) - 48) = zr1 then (j45 ()) else (j50 ())))))))))))
abbrev rm_M_readDebt : Room := { frames := 2, cells := 0, slots := 0, locals := 47 }
set_option maxHeartbeats 4000000 in
set_option maxRecDepth 100000 in
theorem v_M_readDebt {l : Launch} {p : Program} {e : Env} {s : State} {m : MethodId} {args : Array Value} {below : List Frame} {meth : Method} {c : Code} {Q : State → Prop} {D : va_G} {cs : Nat → ClassId} {o : Nat} {h : Nat → Nat} {A : Nat → Prop} {I : FI} {V : FV} {f : Nat} {out : Int32 × FI × FV} (hf : M_readDebt f I V = some out) (hx : p.tables.exec = Jvm.exec) (hb : c.code = cX10_readDebt) (hml : c.maxLocals = 6) (hown : s.vm.findClass RX10 = some m.cls) (hts : ∀ w ∈ wsX10_readDebt, w.before args s = true) (in_X10 : ∀ w ∈ u_ws RX10 TX10 38, w ∈ wsX10_readDebt) (g_115 : (Cond.fieldLink RX10 115 "DaysLentModel" "readPeople" "I").before args s = true) (w_figure_111 : CallW rm_M_readDebt s args RX10 RX10 111 yX10_figure cX10_figure 3 (some .int) wsX10_figure rm_M_figure 0 0 2) (g_108 : (Cond.fieldLink RX10 108 "DaysLentModel" "place" "I").before args s = true) (g_105 : (Cond.fieldLink RX10 105 "DaysLentModel" "textSize" "I").before args s = true) (g_7 : (Cond.fieldLink RX10 7 "DaysLentModel" "text" "[I").before args s = true) (g_44 : (Cond.fieldLink RX10 44 "DaysLentModel" "readOwed" "[I").before args s = true) (g_118 : (Cond.fieldLink RX10 118 "DaysLentModel" "readDebts" "I").before args s = true) (g_47 : (Cond.fieldLink RX10 47 "DaysLentModel" "readOwes" "[I").before args s = true) (g_50 : (Cond.fieldLink RX10 50 "DaysLentModel" "readMuch" "[I").before args s = true) (g_53 : (Cond.fieldLink RX10 53 "DaysLentModel" "readDue" "[I").before args s = true) (hA : ∀ q : Nat, s.heap.size ≤ q → A q) (hP : va_P D vwCl (w_M cs o h I V) s.heap) (hD : va_D A (w_M cs o h I V)) (hK : va_K D vwCl (tyA cs) s) (hret : ∀ (v : Int32) (Im9 : FI) (Vm9 : FV) (H : Heap) (locs : List Loc) (pc : Nat) (ls : Array Slot), narrow .boolean (.int v) = .int v → some (v, Im9, Vm9) = some out → va_P D vwCl (w_M cs o h Im9 Vm9) H → va_D A (w_M cs o h Im9 Vm9) → va_S A s.heap H locs → decode cX10_readDebt pc = .ok (.ireturn, 1) → W p l e rm_M_readDebt s m args below meth c H locs 0 0 Q (F0 m pc ls [.int v])) : ∀ ls : Array Slot, lv_has ls 6 [(0, .ref o)] → W p l e rm_M_readDebt s m args below meth c s.heap [] 0 0 Q (F0 m 0 ls []) := by
  intro ls hl
  have hS : va_S A s.heap s.heap [] := va_S.rf
  unfold M_readDebt at hf
  refine lv_aload_n hx hb dX10_readDebt_0 rfl (lv_at hl 0 rfl) ?_
  refine lv_iconst (v := 0) hx hb dX10_readDebt_1 (by decide) ?_
  refine lv_aload_n hx hb dX10_readDebt_2 rfl (lv_at hl 0 rfl) ?_
  refine va_get (D := D) (ci := 10) (v := .int (I 15)) (C := RX10) (T := TX10) (N := 38) hx hb hts in_X10 hown hK hP 0 rfl rfl 15 (by decide) g_115 (fun _ h9 => h9) rfl dX10_readDebt_3 ?_
  refine lv_iconst (v := 1) hx hb dX10_readDebt_6 (by decide) ?_
  refine lv_isub hx hb dX10_readDebt_7 ?_
  obtain ⟨zr1, I2, V3, qr1, hf⟩ := bd3 hf
  have hFc := xfree hD hS hA
  refine va_calli (va_runV (As := [.int 0, .int ((I 15) - 1)]) (rest := []) ⟨hx, hb, hml, hown, hts⟩ (c_M_figure l D cs o h _ I V 0 ((I 15) - 1) f _ qr1) w_figure_111 ⟨xP_moved, va_recv hK hP (ci := 10) (q0 := 0) rfl rfl, fun U hU hW => ⟨rfl, by rw [hU], by rw [hU]; exact hP, va_K.moved hW.alike hK, hD.weaken (fun _ _ _ _ => trivial)⟩⟩ rfl rfl hl.1 rfl (lv_room (Nat.le_of_ble_eq_true rfl)) dX10_readDebt_8 ⟨Nat.zero_le _, Nat.zero_le _⟩) hS (fun q _ h9 => hFc q h9) hFc (fun r1 u t H1 locs ht hvm hw hB hz1 hk1 hS => ?_)
  have er1 := congrArg Prod.fst hw
  have eu := congrArg Prod.snd hw
  dsimp only at er1 eu
  rw [er1]
  rw [eu] at hB
  obtain ⟨hP1, hK1, hD1⟩ := hB
  have hP : va_P D vwCl (w_M cs o h I2 V3) H1 := by rw [← ht]; exact hP1
  have hD : va_D A (w_M cs o h I2 V3) := hD1.weaken (fun _ q _ h9 => hFc q.1 h9)
  refine lv_istore_n (lv' := [(1, .int zr1), (0, .ref o)]) hx hb dX10_readDebt_11 rfl hl (by decide) rfl (fun ls hl => ?_)
  refine lv_iload_n hx hb dX10_readDebt_12 rfl (lv_at hl 0 rfl) ?_
  refine lv_bipush (v := (-9)) hx hb dX10_readDebt_13 (by decide) ?_
  obtain ⟨j61, ej61, hf⟩ := nme hf
  have J61 : ∀ (t0_61 : Int32) (Im_61 : FI) (Vm_61 : FV), j61 t0_61 Im_61 Vm_61 = some out → ∀ (H : Heap) (locs : List Loc), va_P D vwCl (w_M cs o h Im_61 Vm_61) H → va_D A (w_M cs o h Im_61 Vm_61) → va_S A s.heap H locs → ∀ ls : Array Slot, lv_has ls 6 [(0, .ref o), (1, .int zr1)] → W p l e rm_M_readDebt s m args below meth c H locs 0 0 Q (F0 m 61 ls [.int t0_61]) := by
    intro t0_61 Im_61 Vm_61 hf H locs hP hD hS ls hl
    rw [ej61] at hf
    refine lv_istore_n (lv' := [(2, .int t0_61), (0, .ref o), (1, .int zr1)]) hx hb dX10_readDebt_61 rfl hl (by decide) rfl (fun ls hl => ?_)
    refine lv_iload_n hx hb dX10_readDebt_62 rfl (lv_at hl 0 rfl) ?_
    refine lv_bipush (v := (-9)) hx hb dX10_readDebt_63 (by decide) ?_
    obtain ⟨j80, ej80, hf⟩ := nme hf
    have J80 : ∀ (t0_80 : Int32) (Im_80 : FI) (Vm_80 : FV), j80 t0_80 Im_80 Vm_80 = some out → ∀ (H : Heap) (locs : List Loc), va_P D vwCl (w_M cs o h Im_80 Vm_80) H → va_D A (w_M cs o h Im_80 Vm_80) → va_S A s.heap H locs → ∀ ls : Array Slot, lv_has ls 6 [(0, .ref o), (1, .int zr1), (2, .int t0_61)] → W p l e rm_M_readDebt s m args below meth c H locs 0 0 Q (F0 m 80 ls [.int t0_80]) := by
      intro t0_80 Im_80 Vm_80 hf H locs hP hD hS ls hl
      rw [ej80] at hf
      refine lv_istore_n (lv' := [(3, .int t0_80), (0, .ref o), (1, .int zr1), (2, .int t0_61)]) hx hb dX10_readDebt_80 rfl hl (by decide) rfl (fun ls hl => ?_)
      refine lv_iload_n hx hb dX10_readDebt_81 rfl (lv_at hl 0 rfl) ?_
      refine lv_bipush (v := (-9)) hx hb dX10_readDebt_82 (by decide) ?_
      obtain ⟨j107, ej107, hf⟩ := nme hf
      have J107 : ∀ (t0_107 : Int32) (Im_107 : FI) (Vm_107 : FV), j107 t0_107 Im_107 Vm_107 = some out → ∀ (H : Heap) (locs : List Loc), va_P D vwCl (w_M cs o h Im_107 Vm_107) H → va_D A (w_M cs o h Im_107 Vm_107) → va_S A s.heap H locs → ∀ ls : Array Slot, lv_has ls 6 [(0, .ref o), (1, .int zr1), (2, .int t0_61), (3, .int t0_80)] → W p l e rm_M_readDebt s m args below meth c H locs 0 0 Q (F0 m 107 ls [.int t0_107]) := by
        intro t0_107 Im_107 Vm_107 hf H locs hP hD hS ls hl
        rw [ej107] at hf
        refine lv_istore (lv' := [(4, .int t0_107), (0, .ref o), (1, .int zr1), (2, .int t0_61), (3, .int t0_80)]) hx hb dX10_readDebt_107 hl (by decide) rfl (fun ls hl => ?_)
        refine lv_iload hx hb dX10_readDebt_109 (lv_at hl 0 rfl) ?_
        refine lv_bipush (v := (-9)) hx hb dX10_readDebt_111 (by decide) ?_
        obtain ⟨j128, ej128, hf⟩ := nme hf
        have J128 : ∀ (t0_128 : Int32) (Im_128 : FI) (Vm_128 : FV), j128 t0_128 Im_128 Vm_128 = some out → ∀ (H : Heap) (locs : List Loc), va_P D vwCl (w_M cs o h Im_128 Vm_128) H → va_D A (w_M cs o h Im_128 Vm_128) → va_S A s.heap H locs → ∀ ls : Array Slot, lv_has ls 6 [(0, .ref o), (1, .int zr1), (2, .int t0_61), (3, .int t0_80), (4, .int t0_107)] → W p l e rm_M_readDebt s m args below meth c H locs 0 0 Q (F0 m 128 ls [.int t0_128]) := by
          intro t0_128 Im_128 Vm_128 hf H locs hP hD hS ls hl
          rw [ej128] at hf
          refine lv_istore (lv' := [(5, .int t0_128), (0, .ref o), (1, .int zr1), (2, .int t0_61), (3, .int t0_80), (4, .int t0_107)]) hx hb dX10_readDebt_128 hl (by decide) rfl (fun ls hl => ?_)
          refine lv_iload hx hb dX10_readDebt_130 (lv_at hl 0 rfl) ?_
          refine lv_bipush (v := (-9)) hx hb dX10_readDebt_132 (by decide) ?_
          refine lv_icmp_ne (tgt := 139) hx hb dX10_readDebt_134 (by decide) (fun c134 => ?_) (fun c134 => ?_)
          · replace hf := im c134 hf
            refine lv_aload_n hx hb dX10_readDebt_139 rfl (lv_at hl 1 rfl) ?_
            refine va_get (D := D) (ci := 10) (v := .ref (h 19)) (C := RX10) (T := TX10) (N := 38) hx hb hts in_X10 hown hK hP 0 rfl rfl 19 (by decide) g_44 (fun _ h9 => h9) rfl dX10_readDebt_140 ?_
            refine lv_aload_n hx hb dX10_readDebt_143 rfl (lv_at hl 1 rfl) ?_
            refine va_get (D := D) (ci := 10) (v := .int (Im_128 16)) (C := RX10) (T := TX10) (N := 38) hx hb hts in_X10 hown hK hP 0 rfl rfl 16 (by decide) g_118 (fun _ h9 => h9) rfl dX10_readDebt_144 ?_
            refine lv_iload_n hx hb dX10_readDebt_147 rfl (lv_at hl 2 rfl) ?_
            obtain ⟨c148, hf⟩ := gd hf
            refine va_iast (f := (Vm_128 19)) hx hb hK hP hD hS 12 0 rfl rfl c148 dX10_readDebt_148 (fun H locs hP hD hS => ?_)
            obtain ⟨V4, eV4, hf⟩ := nme hf
            have hP : va_P D vwCl (w_M cs o h Im_128 V4) H := by rw [eV4]; exact hP
            have hD : va_D A (w_M cs o h Im_128 V4) := by rw [eV4]; exact hD
            refine lv_aload_n hx hb dX10_readDebt_149 rfl (lv_at hl 1 rfl) ?_
            refine va_get (D := D) (ci := 10) (v := .ref (h 20)) (C := RX10) (T := TX10) (N := 38) hx hb hts in_X10 hown hK hP 0 rfl rfl 20 (by decide) g_47 (fun _ h9 => h9) rfl dX10_readDebt_150 ?_
            refine lv_aload_n hx hb dX10_readDebt_153 rfl (lv_at hl 1 rfl) ?_
            refine va_get (D := D) (ci := 10) (v := .int (Im_128 16)) (C := RX10) (T := TX10) (N := 38) hx hb hts in_X10 hown hK hP 0 rfl rfl 16 (by decide) g_118 (fun _ h9 => h9) rfl dX10_readDebt_154 ?_
            refine lv_iload_n hx hb dX10_readDebt_157 rfl (lv_at hl 3 rfl) ?_
            obtain ⟨c158, hf⟩ := gd hf
            refine va_iast (f := (V4 20)) hx hb hK hP hD hS 13 0 rfl rfl c158 dX10_readDebt_158 (fun H locs hP hD hS => ?_)
            obtain ⟨V5, eV5, hf⟩ := nme hf
            have hP : va_P D vwCl (w_M cs o h Im_128 V5) H := by rw [eV5]; exact hP
            have hD : va_D A (w_M cs o h Im_128 V5) := by rw [eV5]; exact hD
            refine lv_aload_n hx hb dX10_readDebt_159 rfl (lv_at hl 1 rfl) ?_
            refine va_get (D := D) (ci := 10) (v := .ref (h 21)) (C := RX10) (T := TX10) (N := 38) hx hb hts in_X10 hown hK hP 0 rfl rfl 21 (by decide) g_50 (fun _ h9 => h9) rfl dX10_readDebt_160 ?_
            refine lv_aload_n hx hb dX10_readDebt_163 rfl (lv_at hl 1 rfl) ?_
            refine va_get (D := D) (ci := 10) (v := .int (Im_128 16)) (C := RX10) (T := TX10) (N := 38) hx hb hts in_X10 hown hK hP 0 rfl rfl 16 (by decide) g_118 (fun _ h9 => h9) rfl dX10_readDebt_164 ?_
            refine lv_bipush (v := 10) hx hb dX10_readDebt_167 (by decide) ?_
            refine lv_iload_n hx hb dX10_readDebt_169 rfl (lv_at hl 4 rfl) ?_
            refine lv_imul hx hb dX10_readDebt_170 ?_
            refine lv_iload hx hb dX10_readDebt_171 (lv_at hl 5 rfl) ?_
            refine lv_iadd hx hb dX10_readDebt_173 ?_
            obtain ⟨c174, hf⟩ := gd hf
            refine va_iast (f := (V5 21)) hx hb hK hP hD hS 14 0 rfl rfl c174 dX10_readDebt_174 (fun H locs hP hD hS => ?_)
            obtain ⟨V6, eV6, hf⟩ := nme hf
            have hP : va_P D vwCl (w_M cs o h Im_128 V6) H := by rw [eV6]; exact hP
            have hD : va_D A (w_M cs o h Im_128 V6) := by rw [eV6]; exact hD
            refine lv_aload_n hx hb dX10_readDebt_175 rfl (lv_at hl 1 rfl) ?_
            refine va_get (D := D) (ci := 10) (v := .ref (h 22)) (C := RX10) (T := TX10) (N := 38) hx hb hts in_X10 hown hK hP 0 rfl rfl 22 (by decide) g_53 (fun _ h9 => h9) rfl dX10_readDebt_176 ?_
            refine lv_aload_n hx hb dX10_readDebt_179 rfl (lv_at hl 1 rfl) ?_
            refine va_get (D := D) (ci := 10) (v := .int (Im_128 16)) (C := RX10) (T := TX10) (N := 38) hx hb hts in_X10 hown hK hP 0 rfl rfl 16 (by decide) g_118 (fun _ h9 => h9) rfl dX10_readDebt_180 ?_
            refine lv_iload hx hb dX10_readDebt_183 (lv_at hl 0 rfl) ?_
            obtain ⟨c185, hf⟩ := gd hf
            refine va_iast (f := (V6 22)) hx hb hK hP hD hS 15 0 rfl rfl c185 dX10_readDebt_185 (fun H locs hP hD hS => ?_)
            obtain ⟨V7, eV7, hf⟩ := nme hf
            have hP : va_P D vwCl (w_M cs o h Im_128 V7) H := by rw [eV7]; exact hP
            have hD : va_D A (w_M cs o h Im_128 V7) := by rw [eV7]; exact hD
            refine lv_aload_n hx hb dX10_readDebt_186 rfl (lv_at hl 1 rfl) ?_
            refine lv_dup hx hb dX10_readDebt_187 rfl ?_
            refine va_get (D := D) (ci := 10) (v := .int (Im_128 16)) (C := RX10) (T := TX10) (N := 38) hx hb hts in_X10 hown hK hP 0 rfl rfl 16 (by decide) g_118 (fun _ h9 => h9) rfl dX10_readDebt_188 ?_
            refine lv_iconst (v := 1) hx hb dX10_readDebt_191 (by decide) ?_
            refine lv_iadd hx hb dX10_readDebt_192 ?_
            refine va_put (D := D) (ci := 10) (v := .int ((Im_128 16) + 1)) (ty := .int) (C := RX10) (T := TX10) (N := 38) hx hb hts in_X10 tyX10 tyX10_ok nmX10 hown hK hP hD hS 0 rfl rfl 16 (by decide) g_118 (fun _ h9 => h9) rfl (by decide +kernel) rfl rfl (Nat.le_of_ble_eq_true rfl) dX10_readDebt_193 (fun H locs hP hD hS => ?_)
            obtain ⟨I8, eI8, hf⟩ := nme hf
            have hP : va_P D vwCl (w_M cs o h I8 V7) H := by rw [eI8]; exact hP
            have hD : va_D A (w_M cs o h I8 V7) := by rw [eI8]; exact hD
            refine lv_iconst (v := 1) hx hb dX10_readDebt_196 (by decide) ?_
            exact hret 1 I8 V7 _ _ 197 _ rfl hf hP hD hS dX10_readDebt_197
          · replace hf := ip c134 hf
            refine lv_iconst (v := 0) hx hb dX10_readDebt_137 (by decide) ?_
            exact hret 0 Im_128 Vm_128 _ _ 138 _ rfl hf hP hD hS dX10_readDebt_138
        refine lv_icmp_ne (tgt := 121) hx hb dX10_readDebt_113 (by decide) (fun c113 => ?_) (fun c113 => ?_)
        · replace hf := im c113 hf
          refine lv_aload_n hx hb dX10_readDebt_121 rfl (lv_at hl 1 rfl) ?_
          refine lv_iconst (v := 1) hx hb dX10_readDebt_122 (by decide) ?_
          refine lv_bipush (v := 9) hx hb dX10_readDebt_123 (by decide) ?_
          obtain ⟨zr9, I10, V11, qr9, hf⟩ := bd3 hf
          have hFc := xfree hD hS hA
          refine va_calli (va_runV (As := [.int 1, .int 9]) (rest := []) ⟨hx, hb, hml, hown, hts⟩ (c_M_figure l D cs o h _ Im_107 Vm_107 1 9 f _ qr9) w_figure_111 ⟨xP_moved, va_recv hK hP (ci := 10) (q0 := 0) rfl rfl, fun U hU hW => ⟨rfl, by rw [hU], by rw [hU]; exact hP, va_K.moved hW.alike hK, hD.weaken (fun _ _ _ _ => trivial)⟩⟩ rfl rfl hl.1 rfl (lv_room (Nat.le_of_ble_eq_true rfl)) dX10_readDebt_125 ⟨Nat.zero_le _, Nat.zero_le _⟩) hS (fun q _ h9 => hFc q h9) hFc (fun r9 u t H1 locs ht hvm hw hB hz1 hk1 hS => ?_)
          have er9 := congrArg Prod.fst hw
          have eu := congrArg Prod.snd hw
          dsimp only at er9 eu
          rw [er9]
          rw [eu] at hB
          obtain ⟨hP1, hK1, hD1⟩ := hB
          have hP : va_P D vwCl (w_M cs o h I10 V11) H1 := by rw [← ht]; exact hP1
          have hD : va_D A (w_M cs o h I10 V11) := hD1.weaken (fun _ q _ h9 => hFc q.1 h9)
          exact J128 zr9 I10 V11 hf _ _ hP hD hS _ (lv_sub hl [1, 2, 3, 4, 0] rfl)
        · replace hf := ip c113 hf
          refine lv_bipush (v := (-9)) hx hb dX10_readDebt_116 (by decide) ?_
          refine lv_goto (tgt := 128) hx hb dX10_readDebt_118 (by decide) ?_
          exact J128 (-9) Im_107 Vm_107 hf _ _ hP hD hS _ (lv_sub hl [1, 2, 3, 4, 0] rfl)
      refine lv_icmp_ne (tgt := 92) hx hb dX10_readDebt_84 (by decide) (fun c84 => ?_) (fun c84 => ?_)
      · replace hf := im c84 hf
        refine lv_aload_n hx hb dX10_readDebt_92 rfl (lv_at hl 1 rfl) ?_
        refine lv_iload_n hx hb dX10_readDebt_93 rfl (lv_at hl 0 rfl) ?_
        obtain ⟨j102, ej102, hf⟩ := nme hf
        have J102 : ∀ (t1_102 : Int32), j102 t1_102 = some out → ∀ (H : Heap) (locs : List Loc), va_P D vwCl (w_M cs o h Im_80 Vm_80) H → va_D A (w_M cs o h Im_80 Vm_80) → va_S A s.heap H locs → ∀ ls : Array Slot, lv_has ls 6 [(0, .ref o), (1, .int zr1), (2, .int t0_61), (3, .int t0_80)] → W p l e rm_M_readDebt s m args below meth c H locs 0 0 Q (F0 m 102 ls [.int t1_102, .ref o]) := by
          intro t1_102 hf H locs hP hD hS ls hl
          rw [ej102] at hf
          refine lv_bipush (v := 9) hx hb dX10_readDebt_102 (by decide) ?_
          obtain ⟨zr12, I13, V14, qr12, hf⟩ := bd3 hf
          have hFc := xfree hD hS hA
          refine va_calli (va_runV (As := [.int t1_102, .int 9]) (rest := []) ⟨hx, hb, hml, hown, hts⟩ (c_M_figure l D cs o h _ Im_80 Vm_80 t1_102 9 f _ qr12) w_figure_111 ⟨xP_moved, va_recv hK hP (ci := 10) (q0 := 0) rfl rfl, fun U hU hW => ⟨rfl, by rw [hU], by rw [hU]; exact hP, va_K.moved hW.alike hK, hD.weaken (fun _ _ _ _ => trivial)⟩⟩ rfl rfl hl.1 rfl (lv_room (Nat.le_of_ble_eq_true rfl)) dX10_readDebt_104 ⟨Nat.zero_le _, Nat.zero_le _⟩) hS (fun q _ h9 => hFc q h9) hFc (fun r12 u t H1 locs ht hvm hw hB hz1 hk1 hS => ?_)
          have er12 := congrArg Prod.fst hw
          have eu := congrArg Prod.snd hw
          dsimp only at er12 eu
          rw [er12]
          rw [eu] at hB
          obtain ⟨hP1, hK1, hD1⟩ := hB
          have hP : va_P D vwCl (w_M cs o h I13 V14) H1 := by rw [← ht]; exact hP1
          have hD : va_D A (w_M cs o h I13 V14) := hD1.weaken (fun _ q _ h9 => hFc q.1 h9)
          exact J107 zr12 I13 V14 hf _ _ hP hD hS _ (lv_sub hl [0, 1, 2, 3] rfl)
        refine lv_if_ne (tgt := 101) hx hb dX10_readDebt_94 (by decide) (fun c94 => ?_) (fun c94 => ?_)
        · replace hf := im c94 hf
          refine lv_iconst (v := 0) hx hb dX10_readDebt_101 (by decide) ?_
          exact J102 0 hf _ _ hP hD hS _ (lv_sub hl [1, 2, 3, 0] rfl)
        · replace hf := ip c94 hf
          refine lv_iconst (v := 1) hx hb dX10_readDebt_97 (by decide) ?_
          refine lv_goto (tgt := 102) hx hb dX10_readDebt_98 (by decide) ?_
          exact J102 1 hf _ _ hP hD hS _ (lv_sub hl [1, 2, 3, 0] rfl)
      · replace hf := ip c84 hf
        refine lv_bipush (v := (-9)) hx hb dX10_readDebt_87 (by decide) ?_
        refine lv_goto (tgt := 107) hx hb dX10_readDebt_89 (by decide) ?_
        exact J107 (-9) Im_80 Vm_80 hf _ _ hP hD hS _ (lv_sub hl [1, 2, 3, 0] rfl)
    refine lv_icmp_ne (tgt := 73) hx hb dX10_readDebt_65 (by decide) (fun c65 => ?_) (fun c65 => ?_)
    · replace hf := im c65 hf
      refine lv_aload_n hx hb dX10_readDebt_73 rfl (lv_at hl 1 rfl) ?_
      refine lv_iconst (v := 0) hx hb dX10_readDebt_74 (by decide) ?_
      refine lv_bipush (v := 9) hx hb dX10_readDebt_75 (by decide) ?_
      obtain ⟨zr15, I16, V17, qr15, hf⟩ := bd3 hf
      have hFc := xfree hD hS hA
      refine va_calli (va_runV (As := [.int 0, .int 9]) (rest := []) ⟨hx, hb, hml, hown, hts⟩ (c_M_figure l D cs o h _ Im_61 Vm_61 0 9 f _ qr15) w_figure_111 ⟨xP_moved, va_recv hK hP (ci := 10) (q0 := 0) rfl rfl, fun U hU hW => ⟨rfl, by rw [hU], by rw [hU]; exact hP, va_K.moved hW.alike hK, hD.weaken (fun _ _ _ _ => trivial)⟩⟩ rfl rfl hl.1 rfl (lv_room (Nat.le_of_ble_eq_true rfl)) dX10_readDebt_77 ⟨Nat.zero_le _, Nat.zero_le _⟩) hS (fun q _ h9 => hFc q h9) hFc (fun r15 u t H1 locs ht hvm hw hB hz1 hk1 hS => ?_)
      have er15 := congrArg Prod.fst hw
      have eu := congrArg Prod.snd hw
      dsimp only at er15 eu
      rw [er15]
      rw [eu] at hB
      obtain ⟨hP1, hK1, hD1⟩ := hB
      have hP : va_P D vwCl (w_M cs o h I16 V17) H1 := by rw [← ht]; exact hP1
      have hD : va_D A (w_M cs o h I16 V17) := hD1.weaken (fun _ q _ h9 => hFc q.1 h9)
      exact J80 zr15 I16 V17 hf _ _ hP hD hS _ (lv_sub hl [1, 2, 0] rfl)
    · replace hf := ip c65 hf
      refine lv_bipush (v := (-9)) hx hb dX10_readDebt_68 (by decide) ?_
      refine lv_goto (tgt := 80) hx hb dX10_readDebt_70 (by decide) ?_
      exact J80 (-9) Im_61 Vm_61 hf _ _ hP hD hS _ (lv_sub hl [1, 2, 0] rfl)
  obtain ⟨j45, ej45, hf⟩ := nme hf
  have J45 : ∀ (u_45 : Unit), j45 u_45 = some out → ∀ (H : Heap) (locs : List Loc), va_P D vwCl (w_M cs o h I2 V3) H → va_D A (w_M cs o h I2 V3) → va_S A s.heap H locs → ∀ ls : Array Slot, lv_has ls 6 [(0, .ref o), (1, .int zr1)] → W p l e rm_M_readDebt s m args below meth c H locs 0 0 Q (F0 m 45 ls []) := by
    intro u_45 hf H locs hP hD hS ls hl
    rw [ej45] at hf
    refine lv_bipush (v := (-9)) hx hb dX10_readDebt_45 (by decide) ?_
    refine lv_goto (tgt := 61) hx hb dX10_readDebt_47 (by decide) ?_
    exact J61 (-9) I2 V3 hf _ _ hP hD hS _ (lv_sub hl [0, 1] rfl)
  refine lv_icmp_eq (tgt := 45) hx hb dX10_readDebt_15 (by decide) (fun c15 => ?_) (fun c15 => ?_)
  · replace hf := ip c15 hf
    exact J45 () hf _ _ hP hD hS _ (lv_sub hl [1, 0] rfl)
  · replace hf := im c15 hf
    refine lv_aload_n hx hb dX10_readDebt_18 rfl (lv_at hl 1 rfl) ?_
    refine va_get (D := D) (ci := 10) (v := .int (I2 3)) (C := RX10) (T := TX10) (N := 38) hx hb hts in_X10 hown hK hP 0 rfl rfl 3 (by decide) g_108 (fun _ h9 => h9) rfl dX10_readDebt_19 ?_
    refine lv_aload_n hx hb dX10_readDebt_22 rfl (lv_at hl 1 rfl) ?_
    refine va_get (D := D) (ci := 10) (v := .int (I2 2)) (C := RX10) (T := TX10) (N := 38) hx hb hts in_X10 hown hK hP 0 rfl rfl 2 (by decide) g_105 (fun _ h9 => h9) rfl dX10_readDebt_23 ?_
    obtain ⟨j50, ej50, hf⟩ := nme hf
    have J50 : ∀ (u_50 : Unit), j50 u_50 = some out → ∀ (H : Heap) (locs : List Loc), va_P D vwCl (w_M cs o h I2 V3) H → va_D A (w_M cs o h I2 V3) → va_S A s.heap H locs → ∀ ls : Array Slot, lv_has ls 6 [(0, .ref o), (1, .int zr1)] → W p l e rm_M_readDebt s m args below meth c H locs 0 0 Q (F0 m 50 ls []) := by
      intro u_50 hf H locs hP hD hS ls hl
      rw [ej50] at hf
      refine lv_aload_n hx hb dX10_readDebt_50 rfl (lv_at hl 0 rfl) ?_
      refine lv_iconst (v := 0) hx hb dX10_readDebt_51 (by decide) ?_
      refine lv_aload_n hx hb dX10_readDebt_52 rfl (lv_at hl 0 rfl) ?_
      refine va_get (D := D) (ci := 10) (v := .int (I2 15)) (C := RX10) (T := TX10) (N := 38) hx hb hts in_X10 hown hK hP 0 rfl rfl 15 (by decide) g_115 (fun _ h9 => h9) rfl dX10_readDebt_53 ?_
      refine lv_iconst (v := 1) hx hb dX10_readDebt_56 (by decide) ?_
      refine lv_isub hx hb dX10_readDebt_57 ?_
      obtain ⟨zr18, I19, V20, qr18, hf⟩ := bd3 hf
      have hFc := xfree hD hS hA
      refine va_calli (va_runV (As := [.int 0, .int ((I2 15) - 1)]) (rest := []) ⟨hx, hb, hml, hown, hts⟩ (c_M_figure l D cs o h _ I2 V3 0 ((I2 15) - 1) f _ qr18) w_figure_111 ⟨xP_moved, va_recv hK hP (ci := 10) (q0 := 0) rfl rfl, fun U hU hW => ⟨rfl, by rw [hU], by rw [hU]; exact hP, va_K.moved hW.alike hK, hD.weaken (fun _ _ _ _ => trivial)⟩⟩ rfl rfl hl.1 rfl (lv_room (Nat.le_of_ble_eq_true rfl)) dX10_readDebt_58 ⟨Nat.zero_le _, Nat.zero_le _⟩) hS (fun q _ h9 => hFc q h9) hFc (fun r18 u t H1 locs ht hvm hw hB hz1 hk1 hS => ?_)
      have er18 := congrArg Prod.fst hw
      have eu := congrArg Prod.snd hw
      dsimp only at er18 eu
      rw [er18]
      rw [eu] at hB
      obtain ⟨hP1, hK1, hD1⟩ := hB
      have hP : va_P D vwCl (w_M cs o h I19 V20) H1 := by rw [← ht]; exact hP1
      have hD : va_D A (w_M cs o h I19 V20) := hD1.weaken (fun _ q _ h9 => hFc q.1 h9)
      exact J61 zr18 I19 V20 hf _ _ hP hD hS _ (lv_sub hl [0, 1] rfl)
    refine lv_icmp_ge (tgt := 50) hx hb dX10_readDebt_26 (by decide) (fun c26 => ?_) (fun c26 => ?_)
    · replace hf := ip c26 hf
      exact J50 () hf _ _ hP hD hS _ (lv_sub hl [1, 0] rfl)
    · replace hf := im c26 hf
      refine lv_aload_n hx hb dX10_readDebt_29 rfl (lv_at hl 1 rfl) ?_
      refine va_get (D := D) (ci := 10) (v := .ref (h 1)) (C := RX10) (T := TX10) (N := 38) hx hb hts in_X10 hown hK hP 0 rfl rfl 1 (by decide) g_7 (fun _ h9 => h9) rfl dX10_readDebt_30 ?_
      refine lv_aload_n hx hb dX10_readDebt_33 rfl (lv_at hl 1 rfl) ?_
      refine va_get (D := D) (ci := 10) (v := .int (I2 3)) (C := RX10) (T := TX10) (N := 38) hx hb hts in_X10 hown hK hP 0 rfl rfl 3 (by decide) g_108 (fun _ h9 => h9) rfl dX10_readDebt_34 ?_
      obtain ⟨c37, hf⟩ := gd hf
      refine va_iald (f := (V3 1)) hx hb hK hP 1 0 rfl rfl c37 dX10_readDebt_37 ?_
      refine lv_bipush (v := 48) hx hb dX10_readDebt_38 (by decide) ?_
      refine lv_isub hx hb dX10_readDebt_40 ?_
      refine lv_iload_n hx hb dX10_readDebt_41 rfl (lv_at hl 0 rfl) ?_
      refine lv_icmp_ne (tgt := 50) hx hb dX10_readDebt_42 (by decide) (fun c42 => ?_) (fun c42 => ?_)
      · replace hf := im c42 hf
        exact J50 () hf _ _ hP hD hS _ (lv_sub hl [1, 0] rfl)
      · replace hf := ip c42 hf
        exact J45 () hf _ _ hP hD hS _ (lv_sub hl [1, 0] rfl)
set_option maxHeartbeats 4000000 in
set_option maxRecDepth 100000 in
theorem c_M_readDebt (l : Launch) (D : va_G) (cs : Nat → ClassId) (o : Nat) (h : Nat → Nat) (sz : Nat) (I : FI) (V : FV) (f : Nat) (out : Int32 × FI × FV) (hf : M_readDebt f I V = some out) : Met l yX10_readDebt wsX10_readDebt rm_M_readDebt (va_Pc [.ref o] (xP D cs (w_M cs o h I V) sz)) (va_Qi (fun r u => (r, u) = out) (fun (u : FI × FV) t => xA D cs (va_A (w_M cs o h I V) sz) (w_M cs o h u.1 u.2) t) (va_A (w_M cs o h I V) sz)) 0 0 (va_A (w_M cs o h I V) sz) := by
  refine Met.ofW (cc := cX10_readDebt) (maxL := 6) (ret := (some .boolean)) (by decide) rfl ?_
  intro p e s m args below meth c s₁ B hml hv
  obtain ⟨ha, hsz, hP, hK, hD0⟩ := hv
  have hx := B.exec
  have hb := B.bytes
  have hr := B.returns
  have hts := atoms_spec (ws := wsX10_readDebt) B.pre
  have hown : s.vm.findClass RX10 = some m.cls := findClass_of_methodNamed B.named
  have hlocks := B.notSynchronized
  have in_X10 : ∀ w ∈ u_ws RX10 TX10 38, w ∈ wsX10_readDebt := fun w h => List.mem_cons_of_mem _ (List.mem_append_right _ h)
  have g_115 := hts (Cond.fieldLink RX10 115 "DaysLentModel" "readPeople" "I") (by decide +kernel)
  have w_figure_111 := cwV (R := rm_M_readDebt) (s := s) (args := args) (rm := rm_M_figure) (mc := 0) (ms := 0) 2 hts gX10_readDebt_X10_figure rfl rfl rfl (by decide +kernel) ⟨Nat.le_of_ble_eq_true rfl, Nat.le_of_ble_eq_true rfl⟩
  have g_108 := hts (Cond.fieldLink RX10 108 "DaysLentModel" "place" "I") (by decide +kernel)
  have g_105 := hts (Cond.fieldLink RX10 105 "DaysLentModel" "textSize" "I") (by decide +kernel)
  have g_7 := hts (Cond.fieldLink RX10 7 "DaysLentModel" "text" "[I") (by decide +kernel)
  have g_44 := hts (Cond.fieldLink RX10 44 "DaysLentModel" "readOwed" "[I") (by decide +kernel)
  have g_118 := hts (Cond.fieldLink RX10 118 "DaysLentModel" "readDebts" "I") (by decide +kernel)
  have g_47 := hts (Cond.fieldLink RX10 47 "DaysLentModel" "readOwes" "[I") (by decide +kernel)
  have g_50 := hts (Cond.fieldLink RX10 50 "DaysLentModel" "readMuch" "[I") (by decide +kernel)
  have g_53 := hts (Cond.fieldLink RX10 53 "DaysLentModel" "readDue" "[I") (by decide +kernel)
  subst hsz
  have hD := hD0.self (sz := s.heap.size)
  generalize hAe : va_A (w_M cs o h I V) s.heap.size = A at hD ⊢
  have hA : ∀ q : Nat, s.heap.size ≤ q → A q := fun q h => by rw [← hAe]; exact Or.inr h
  have hl := lv_entry ([.ref o]) (n := 6) (Nat.le_of_ble_eq_true rfl)
  rw [show entryFrame m args 6 = entryFrame m ([.ref o] : List Value).toArray 6 from by rw [ha], lg_entry_eq]
  generalize (lg_sl ([.ref o]) ++ List.replicate (6 - (lg_sl ([.ref o])).length) Slot.unset).toArray = ls at hl ⊢
  generalize hQ : MQ below (va_Qi (fun r u => (r, u) = out) (fun (u : FI × FV) t => xA D cs A (w_M cs o h u.1 u.2) t) A) args s 0 0 A = Q
  have hret : ∀ (v : Int32) (Im9 : FI) (Vm9 : FV) (H : Heap) (locs : List Loc) (pc : Nat) (ls : Array Slot), narrow .boolean (.int v) = .int v → some (v, Im9, Vm9) = some out → va_P D vwCl (w_M cs o h Im9 Vm9) H → va_D A (w_M cs o h Im9 Vm9) → va_S A s.heap H locs → decode cX10_readDebt pc = .ok (.ireturn, 1) → W p l e rm_M_readDebt s m args below meth c H locs 0 0 Q (F0 m pc ls [.int v]) := by
    intro v Im9 Vm9 H locs pc ls hz hf hP hD hS hd
    rw [← hQ]
    exact W.zret (v := v) hx hb hr hz (fun t ht hW => ⟨⟨v, (Im9, Vm9), rfl, Option.some.inj hf, by show va_P D vwCl (w_M cs o h Im9 Vm9) t.heap; rw [ht]; exact hP, va_K.moved hW.alike hK, hD⟩, hS.F ht⟩) hS.2.2 hd
  exact v_M_readDebt hf hx hb hml hown hts in_X10 g_115 w_figure_111 g_108 g_105 g_7 g_44 g_118 g_47 g_50 g_53 hA hP hD hK hret ls hl
def M_readPart (f : Nat) (I : FI) (V : FV) : Option (Int32 × FI × FV) := if (I 3) < 0 ∨ 80 ≤ (I 3).toNatClampNeg then none else (nm ((V 1) (I 3).toNatClampNeg) (fun y1 => (nm (fun (u_40 : Unit) => (if y1 = 68 then (if 8 ≤ (I 16) then some (0, I, V) else (if (I 15) ≤ 1 then some (0, I, V) else nm (va_up I 3 ((I 3) + 1)) (fun I2 => ob3 (M_readDebt f I2 V) (fun zr3 I4 V5 => if zr3 &&& 1 = zr3 then some (zr3, I4, V5) else none)))) else some (0, I, V))) (fun j40 => (if y1 = 80 then (if 6 ≤ (I 15) then (j40 ()) else nm (va_up I 3 ((I 3) + 1)) (fun I6 => ob3 (M_readPerson f I6 V) (fun zr7 I8 V9 => if zr7 &&& 1 = zr7 then some (zr7, I8, V9) else none))) else (j40 ()))))))
abbrev rm_M_readPart : Room := { frames := 3, cells := 0, slots := 0, locals := 72 }
set_option maxHeartbeats 4000000 in
set_option maxRecDepth 100000 in
theorem v_M_readPart {l : Launch} {p : Program} {e : Env} {s : State} {m : MethodId} {args : Array Value} {below : List Frame} {meth : Method} {c : Code} {Q : State → Prop} {D : va_G} {cs : Nat → ClassId} {o : Nat} {h : Nat → Nat} {A : Nat → Prop} {I : FI} {V : FV} {f : Nat} {out : Int32 × FI × FV} (hf : M_readPart f I V = some out) (hx : p.tables.exec = Jvm.exec) (hb : c.code = cX10_readPart) (hml : c.maxLocals = 2) (hown : s.vm.findClass RX10 = some m.cls) (hts : ∀ w ∈ wsX10_readPart, w.before args s = true) (in_X10 : ∀ w ∈ u_ws RX10 TX10 38, w ∈ wsX10_readPart) (g_7 : (Cond.fieldLink RX10 7 "DaysLentModel" "text" "[I").before args s = true) (g_108 : (Cond.fieldLink RX10 108 "DaysLentModel" "place" "I").before args s = true) (g_115 : (Cond.fieldLink RX10 115 "DaysLentModel" "readPeople" "I").before args s = true) (w_readPerson_121 : CallW rm_M_readPart s args RX10 RX10 121 yX10_readPerson cX10_readPerson 4 (some .boolean) wsX10_readPerson rm_M_readPerson 0 0 0) (g_118 : (Cond.fieldLink RX10 118 "DaysLentModel" "readDebts" "I").before args s = true) (w_readDebt_125 : CallW rm_M_readPart s args RX10 RX10 125 yX10_readDebt cX10_readDebt 6 (some .boolean) wsX10_readDebt rm_M_readDebt 0 0 0) (hA : ∀ q : Nat, s.heap.size ≤ q → A q) (hP : va_P D vwCl (w_M cs o h I V) s.heap) (hD : va_D A (w_M cs o h I V)) (hK : va_K D vwCl (tyA cs) s) (hret : ∀ (v : Int32) (Im9 : FI) (Vm9 : FV) (H : Heap) (locs : List Loc) (pc : Nat) (ls : Array Slot), narrow .boolean (.int v) = .int v → some (v, Im9, Vm9) = some out → va_P D vwCl (w_M cs o h Im9 Vm9) H → va_D A (w_M cs o h Im9 Vm9) → va_S A s.heap H locs → decode cX10_readPart pc = .ok (.ireturn, 1) → W p l e rm_M_readPart s m args below meth c H locs 0 0 Q (F0 m pc ls [.int v])) : ∀ ls : Array Slot, lv_has ls 2 [(0, .ref o)] → W p l e rm_M_readPart s m args below meth c s.heap [] 0 0 Q (F0 m 0 ls []) := by
  intro ls hl
  have hS : va_S A s.heap s.heap [] := va_S.rf
  unfold M_readPart at hf
  refine lv_aload_n hx hb dX10_readPart_0 rfl (lv_at hl 0 rfl) ?_
  refine va_get (D := D) (ci := 10) (v := .ref (h 1)) (C := RX10) (T := TX10) (N := 38) hx hb hts in_X10 hown hK hP 0 rfl rfl 1 (by decide) g_7 (fun _ h9 => h9) rfl dX10_readPart_1 ?_
  refine lv_aload_n hx hb dX10_readPart_4 rfl (lv_at hl 0 rfl) ?_
  refine va_get (D := D) (ci := 10) (v := .int (I 3)) (C := RX10) (T := TX10) (N := 38) hx hb hts in_X10 hown hK hP 0 rfl rfl 3 (by decide) g_108 (fun _ h9 => h9) rfl dX10_readPart_5 ?_
  obtain ⟨c8, hf⟩ := gd hf
  refine va_iald (f := (V 1)) hx hb hK hP 1 0 rfl rfl c8 dX10_readPart_8 ?_
  refine lv_topi (fun y1 ey1 => ?_)
  replace hf := nmd hf ey1
  refine lv_istore_n (lv' := [(1, .int y1), (0, .ref o)]) hx hb dX10_readPart_9 rfl hl (by decide) rfl (fun ls hl => ?_)
  refine lv_iload_n hx hb dX10_readPart_10 rfl (lv_at hl 0 rfl) ?_
  refine lv_bipush (v := 80) hx hb dX10_readPart_11 (by decide) ?_
  obtain ⟨j40, ej40, hf⟩ := nme hf
  have J40 : ∀ (u_40 : Unit), j40 u_40 = some out → ∀ (H : Heap) (locs : List Loc), va_P D vwCl (w_M cs o h I V) H → va_D A (w_M cs o h I V) → va_S A s.heap H locs → ∀ ls : Array Slot, lv_has ls 2 [(0, .ref o), (1, .int y1)] → W p l e rm_M_readPart s m args below meth c H locs 0 0 Q (F0 m 40 ls []) := by
    intro u_40 hf H locs hP hD hS ls hl
    rw [ej40] at hf
    refine lv_iload_n hx hb dX10_readPart_40 rfl (lv_at hl 1 rfl) ?_
    refine lv_bipush (v := 68) hx hb dX10_readPart_41 (by decide) ?_
    refine lv_icmp_ne (tgt := 78) hx hb dX10_readPart_43 (by decide) (fun c43 => ?_) (fun c43 => ?_)
    · replace hf := im c43 hf
      refine lv_iconst (v := 0) hx hb dX10_readPart_78 (by decide) ?_
      exact hret 0 I V _ _ 79 _ rfl hf hP hD hS dX10_readPart_79
    · replace hf := ip c43 hf
      refine lv_aload_n hx hb dX10_readPart_46 rfl (lv_at hl 0 rfl) ?_
      refine va_get (D := D) (ci := 10) (v := .int (I 16)) (C := RX10) (T := TX10) (N := 38) hx hb hts in_X10 hown hK hP 0 rfl rfl 16 (by decide) g_118 (fun _ h9 => h9) rfl dX10_readPart_47 ?_
      refine lv_bipush (v := 8) hx hb dX10_readPart_50 (by decide) ?_
      refine lv_icmp_ge (tgt := 78) hx hb dX10_readPart_52 (by decide) (fun c52 => ?_) (fun c52 => ?_)
      · replace hf := ip c52 hf
        refine lv_iconst (v := 0) hx hb dX10_readPart_78 (by decide) ?_
        exact hret 0 I V _ _ 79 _ rfl hf hP hD hS dX10_readPart_79
      · replace hf := im c52 hf
        refine lv_aload_n hx hb dX10_readPart_55 rfl (lv_at hl 0 rfl) ?_
        refine va_get (D := D) (ci := 10) (v := .int (I 15)) (C := RX10) (T := TX10) (N := 38) hx hb hts in_X10 hown hK hP 0 rfl rfl 15 (by decide) g_115 (fun _ h9 => h9) rfl dX10_readPart_56 ?_
        refine lv_iconst (v := 1) hx hb dX10_readPart_59 (by decide) ?_
        refine lv_icmp_le (tgt := 78) hx hb dX10_readPart_60 (by decide) (fun c60 => ?_) (fun c60 => ?_)
        · replace hf := ip c60 hf
          refine lv_iconst (v := 0) hx hb dX10_readPart_78 (by decide) ?_
          exact hret 0 I V _ _ 79 _ rfl hf hP hD hS dX10_readPart_79
        · replace hf := im c60 hf
          refine lv_aload_n hx hb dX10_readPart_63 rfl (lv_at hl 0 rfl) ?_
          refine lv_dup hx hb dX10_readPart_64 rfl ?_
          refine va_get (D := D) (ci := 10) (v := .int (I 3)) (C := RX10) (T := TX10) (N := 38) hx hb hts in_X10 hown hK hP 0 rfl rfl 3 (by decide) g_108 (fun _ h9 => h9) rfl dX10_readPart_65 ?_
          refine lv_iconst (v := 1) hx hb dX10_readPart_68 (by decide) ?_
          refine lv_iadd hx hb dX10_readPart_69 ?_
          refine va_put (D := D) (ci := 10) (v := .int ((I 3) + 1)) (ty := .int) (C := RX10) (T := TX10) (N := 38) hx hb hts in_X10 tyX10 tyX10_ok nmX10 hown hK hP hD hS 0 rfl rfl 3 (by decide) g_108 (fun _ h9 => h9) rfl (by decide +kernel) rfl rfl (Nat.le_of_ble_eq_true rfl) dX10_readPart_70 (fun H locs hP hD hS => ?_)
          obtain ⟨I2, eI2, hf⟩ := nme hf
          have hP : va_P D vwCl (w_M cs o h I2 V) H := by rw [eI2]; exact hP
          have hD : va_D A (w_M cs o h I2 V) := by rw [eI2]; exact hD
          refine lv_aload_n hx hb dX10_readPart_73 rfl (lv_at hl 0 rfl) ?_
          obtain ⟨zr3, I4, V5, qr3, hf⟩ := bd3 hf
          have hFc := xfree hD hS hA
          refine va_calli (va_runV (As := []) (rest := []) ⟨hx, hb, hml, hown, hts⟩ (c_M_readDebt l D cs o h _ I2 V f _ qr3) w_readDebt_125 ⟨xP_moved, va_recv hK hP (ci := 10) (q0 := 0) rfl rfl, fun U hU hW => ⟨rfl, by rw [hU], by rw [hU]; exact hP, va_K.moved hW.alike hK, hD.weaken (fun _ _ _ _ => trivial)⟩⟩ rfl rfl hl.1 rfl (lv_room (Nat.le_of_ble_eq_true rfl)) dX10_readPart_74 ⟨Nat.zero_le _, Nat.zero_le _⟩) hS (fun q _ h9 => hFc q h9) hFc (fun r3 u t H1 locs ht hvm hw hB hz1 hk1 hS => ?_)
          have er3 := congrArg Prod.fst hw
          have eu := congrArg Prod.snd hw
          dsimp only at er3 eu
          rw [er3]
          rw [eu] at hB
          obtain ⟨hP1, hK1, hD1⟩ := hB
          have hP : va_P D vwCl (w_M cs o h I4 V5) H1 := by rw [← ht]; exact hP1
          have hD : va_D A (w_M cs o h I4 V5) := hD1.weaken (fun _ q _ h9 => hFc q.1 h9)
          obtain ⟨c77, hf⟩ := gp hf
          exact hret zr3 I4 V5 _ _ 77 _ (by show Value.int (zr3 &&& 1) = .int zr3; rw [c77]) hf hP hD hS dX10_readPart_77
  refine lv_icmp_ne (tgt := 40) hx hb dX10_readPart_13 (by decide) (fun c13 => ?_) (fun c13 => ?_)
  · replace hf := im c13 hf
    exact J40 () hf _ _ hP hD hS _ (lv_sub hl [1, 0] rfl)
  · replace hf := ip c13 hf
    refine lv_aload_n hx hb dX10_readPart_16 rfl (lv_at hl 1 rfl) ?_
    refine va_get (D := D) (ci := 10) (v := .int (I 15)) (C := RX10) (T := TX10) (N := 38) hx hb hts in_X10 hown hK hP 0 rfl rfl 15 (by decide) g_115 (fun _ h9 => h9) rfl dX10_readPart_17 ?_
    refine lv_bipush (v := 6) hx hb dX10_readPart_20 (by decide) ?_
    refine lv_icmp_ge (tgt := 40) hx hb dX10_readPart_22 (by decide) (fun c22 => ?_) (fun c22 => ?_)
    · replace hf := ip c22 hf
      exact J40 () hf _ _ hP hD hS _ (lv_sub hl [1, 0] rfl)
    · replace hf := im c22 hf
      refine lv_aload_n hx hb dX10_readPart_25 rfl (lv_at hl 1 rfl) ?_
      refine lv_dup hx hb dX10_readPart_26 rfl ?_
      refine va_get (D := D) (ci := 10) (v := .int (I 3)) (C := RX10) (T := TX10) (N := 38) hx hb hts in_X10 hown hK hP 0 rfl rfl 3 (by decide) g_108 (fun _ h9 => h9) rfl dX10_readPart_27 ?_
      refine lv_iconst (v := 1) hx hb dX10_readPart_30 (by decide) ?_
      refine lv_iadd hx hb dX10_readPart_31 ?_
      refine va_put (D := D) (ci := 10) (v := .int ((I 3) + 1)) (ty := .int) (C := RX10) (T := TX10) (N := 38) hx hb hts in_X10 tyX10 tyX10_ok nmX10 hown hK hP hD hS 0 rfl rfl 3 (by decide) g_108 (fun _ h9 => h9) rfl (by decide +kernel) rfl rfl (Nat.le_of_ble_eq_true rfl) dX10_readPart_32 (fun H locs hP hD hS => ?_)
      obtain ⟨I6, eI6, hf⟩ := nme hf
      have hP : va_P D vwCl (w_M cs o h I6 V) H := by rw [eI6]; exact hP
      have hD : va_D A (w_M cs o h I6 V) := by rw [eI6]; exact hD
      refine lv_aload_n hx hb dX10_readPart_35 rfl (lv_at hl 1 rfl) ?_
      obtain ⟨zr7, I8, V9, qr7, hf⟩ := bd3 hf
      have hFc := xfree hD hS hA
      refine va_calli (va_runV (As := []) (rest := []) ⟨hx, hb, hml, hown, hts⟩ (c_M_readPerson l D cs o h _ I6 V f _ qr7) w_readPerson_121 ⟨xP_moved, va_recv hK hP (ci := 10) (q0 := 0) rfl rfl, fun U hU hW => ⟨rfl, by rw [hU], by rw [hU]; exact hP, va_K.moved hW.alike hK, hD.weaken (fun _ _ _ _ => trivial)⟩⟩ rfl rfl hl.1 rfl (lv_room (Nat.le_of_ble_eq_true rfl)) dX10_readPart_36 ⟨Nat.zero_le _, Nat.zero_le _⟩) hS (fun q _ h9 => hFc q h9) hFc (fun r7 u t H1 locs ht hvm hw hB hz1 hk1 hS => ?_)
      have er7 := congrArg Prod.fst hw
      have eu := congrArg Prod.snd hw
      dsimp only at er7 eu
      rw [er7]
      rw [eu] at hB
      obtain ⟨hP1, hK1, hD1⟩ := hB
      have hP : va_P D vwCl (w_M cs o h I8 V9) H1 := by rw [← ht]; exact hP1
      have hD : va_D A (w_M cs o h I8 V9) := hD1.weaken (fun _ q _ h9 => hFc q.1 h9)
      obtain ⟨c39, hf⟩ := gp hf
      exact hret zr7 I8 V9 _ _ 39 _ (by show Value.int (zr7 &&& 1) = .int zr7; rw [c39]) hf hP hD hS dX10_readPart_39
set_option maxHeartbeats 4000000 in
set_option maxRecDepth 100000 in
theorem c_M_readPart (l : Launch) (D : va_G) (cs : Nat → ClassId) (o : Nat) (h : Nat → Nat) (sz : Nat) (I : FI) (V : FV) (f : Nat) (out : Int32 × FI × FV) (hf : M_readPart f I V = some out) : Met l yX10_readPart wsX10_readPart rm_M_readPart (va_Pc [.ref o] (xP D cs (w_M cs o h I V) sz)) (va_Qi (fun r u => (r, u) = out) (fun (u : FI × FV) t => xA D cs (va_A (w_M cs o h I V) sz) (w_M cs o h u.1 u.2) t) (va_A (w_M cs o h I V) sz)) 0 0 (va_A (w_M cs o h I V) sz) := by
  refine Met.ofW (cc := cX10_readPart) (maxL := 2) (ret := (some .boolean)) (by decide) rfl ?_
  intro p e s m args below meth c s₁ B hml hv
  obtain ⟨ha, hsz, hP, hK, hD0⟩ := hv
  have hx := B.exec
  have hb := B.bytes
  have hr := B.returns
  have hts := atoms_spec (ws := wsX10_readPart) B.pre
  have hown : s.vm.findClass RX10 = some m.cls := findClass_of_methodNamed B.named
  have hlocks := B.notSynchronized
  have in_X10 : ∀ w ∈ u_ws RX10 TX10 38, w ∈ wsX10_readPart := fun w h => List.mem_cons_of_mem _ (List.mem_append_right _ h)
  have g_7 := hts (Cond.fieldLink RX10 7 "DaysLentModel" "text" "[I") (by decide +kernel)
  have g_108 := hts (Cond.fieldLink RX10 108 "DaysLentModel" "place" "I") (by decide +kernel)
  have g_115 := hts (Cond.fieldLink RX10 115 "DaysLentModel" "readPeople" "I") (by decide +kernel)
  have w_readPerson_121 := cwV (R := rm_M_readPart) (s := s) (args := args) (rm := rm_M_readPerson) (mc := 0) (ms := 0) 0 hts gX10_readPart_X10_readPerson rfl rfl rfl (by decide +kernel) ⟨Nat.le_of_ble_eq_true rfl, Nat.le_of_ble_eq_true rfl⟩
  have g_118 := hts (Cond.fieldLink RX10 118 "DaysLentModel" "readDebts" "I") (by decide +kernel)
  have w_readDebt_125 := cwV (R := rm_M_readPart) (s := s) (args := args) (rm := rm_M_readDebt) (mc := 0) (ms := 0) 0 hts gX10_readPart_X10_readDebt rfl rfl rfl (by decide +kernel) ⟨Nat.le_of_ble_eq_true rfl, Nat.le_of_ble_eq_true rfl⟩
  subst hsz
  have hD := hD0.self (sz := s.heap.size)
  generalize hAe : va_A (w_M cs o h I V) s.heap.size = A at hD ⊢
  have hA : ∀ q : Nat, s.heap.size ≤ q → A q := fun q h => by rw [← hAe]; exact Or.inr h
  have hl := lv_entry ([.ref o]) (n := 2) (Nat.le_of_ble_eq_true rfl)
  rw [show entryFrame m args 2 = entryFrame m ([.ref o] : List Value).toArray 2 from by rw [ha], lg_entry_eq]
  generalize (lg_sl ([.ref o]) ++ List.replicate (2 - (lg_sl ([.ref o])).length) Slot.unset).toArray = ls at hl ⊢
  generalize hQ : MQ below (va_Qi (fun r u => (r, u) = out) (fun (u : FI × FV) t => xA D cs A (w_M cs o h u.1 u.2) t) A) args s 0 0 A = Q
  have hret : ∀ (v : Int32) (Im9 : FI) (Vm9 : FV) (H : Heap) (locs : List Loc) (pc : Nat) (ls : Array Slot), narrow .boolean (.int v) = .int v → some (v, Im9, Vm9) = some out → va_P D vwCl (w_M cs o h Im9 Vm9) H → va_D A (w_M cs o h Im9 Vm9) → va_S A s.heap H locs → decode cX10_readPart pc = .ok (.ireturn, 1) → W p l e rm_M_readPart s m args below meth c H locs 0 0 Q (F0 m pc ls [.int v]) := by
    intro v Im9 Vm9 H locs pc ls hz hf hP hD hS hd
    rw [← hQ]
    exact W.zret (v := v) hx hb hr hz (fun t ht hW => ⟨⟨v, (Im9, Vm9), rfl, Option.some.inj hf, by show va_P D vwCl (w_M cs o h Im9 Vm9) t.heap; rw [ht]; exact hP, va_K.moved hW.alike hK, hD⟩, hS.F ht⟩) hS.2.2 hd
  exact v_M_readPart hf hx hb hml hown hts in_X10 g_7 g_108 g_115 w_readPerson_121 g_118 w_readDebt_125 hA hP hD hK hret ls hl
def M_readBook_L15 (f : Nat) (k_15 : FI → FV → Option (Int32 × FI × FV)) : Nat → FI → FV → Option (Int32 × FI × FV)
  | 0, _, _ => none
  | n_15 + 1, Im_15, Vm_15 => (if (Im_15 2) ≤ (Im_15 3) then (k_15 Im_15 Vm_15) else ob3 (M_readPart f Im_15 Vm_15) (fun zr4 I5 V6 => (if zr4 = 0 then some ((I5 3), I5, V6) else (M_readBook_L15 f k_15 n_15 I5 V6))))
def M_readBook (f : Nat) (I : FI) (V : FV) : Option (Int32 × FI × FV) := nm (va_up I 3 0) (fun I1 => nm (va_up I1 15 0) (fun I2 => nm (va_up I2 16 0) (fun I3 => (M_readBook_L15 f (fun (Im_15 : FI) (Vm_15 : FV) => some ((-9), Im_15, Vm_15)) f I3 V))))
abbrev rm_M_readBook : Room := { frames := 4, cells := 0, slots := 0, locals := 93 }
set_option maxHeartbeats 4000000 in
set_option maxRecDepth 100000 in
theorem v_M_readBook {l : Launch} {p : Program} {e : Env} {s : State} {m : MethodId} {args : Array Value} {below : List Frame} {meth : Method} {c : Code} {Q : State → Prop} {D : va_G} {cs : Nat → ClassId} {o : Nat} {h : Nat → Nat} {A : Nat → Prop} {I : FI} {V : FV} {f : Nat} {out : Int32 × FI × FV} (hf : M_readBook f I V = some out) (hx : p.tables.exec = Jvm.exec) (hb : c.code = cX10_readBook) (hml : c.maxLocals = 1) (hown : s.vm.findClass RX10 = some m.cls) (hts : ∀ w ∈ wsX10_readBook, w.before args s = true) (in_X10 : ∀ w ∈ u_ws RX10 TX10 38, w ∈ wsX10_readBook) (g_108 : (Cond.fieldLink RX10 108 "DaysLentModel" "place" "I").before args s = true) (g_115 : (Cond.fieldLink RX10 115 "DaysLentModel" "readPeople" "I").before args s = true) (g_118 : (Cond.fieldLink RX10 118 "DaysLentModel" "readDebts" "I").before args s = true) (g_105 : (Cond.fieldLink RX10 105 "DaysLentModel" "textSize" "I").before args s = true) (w_readPart_128 : CallW rm_M_readBook s args RX10 RX10 128 yX10_readPart cX10_readPart 2 (some .boolean) wsX10_readPart rm_M_readPart 0 0 0) (hA : ∀ q : Nat, s.heap.size ≤ q → A q) (hP : va_P D vwCl (w_M cs o h I V) s.heap) (hD : va_D A (w_M cs o h I V)) (hK : va_K D vwCl (tyA cs) s) (hret : ∀ (v : Int32) (Im9 : FI) (Vm9 : FV) (H : Heap) (locs : List Loc) (pc : Nat) (ls : Array Slot), some (v, Im9, Vm9) = some out → va_P D vwCl (w_M cs o h Im9 Vm9) H → va_D A (w_M cs o h Im9 Vm9) → va_S A s.heap H locs → decode cX10_readBook pc = .ok (.ireturn, 1) → W p l e rm_M_readBook s m args below meth c H locs 0 0 Q (F0 m pc ls [.int v])) : ∀ ls : Array Slot, lv_has ls 1 [(0, .ref o)] → W p l e rm_M_readBook s m args below meth c s.heap [] 0 0 Q (F0 m 0 ls []) := by
  intro ls hl
  have hS : va_S A s.heap s.heap [] := va_S.rf
  unfold M_readBook at hf
  refine lv_aload_n hx hb dX10_readBook_0 rfl (lv_at hl 0 rfl) ?_
  refine lv_iconst (v := 0) hx hb dX10_readBook_1 (by decide) ?_
  refine va_put (D := D) (ci := 10) (v := .int 0) (ty := .int) (C := RX10) (T := TX10) (N := 38) hx hb hts in_X10 tyX10 tyX10_ok nmX10 hown hK hP hD hS 0 rfl rfl 3 (by decide) g_108 (fun _ h9 => h9) rfl (by decide +kernel) rfl rfl (Nat.le_of_ble_eq_true rfl) dX10_readBook_2 (fun H locs hP hD hS => ?_)
  obtain ⟨I1, eI1, hf⟩ := nme hf
  have hP : va_P D vwCl (w_M cs o h I1 V) H := by rw [eI1]; exact hP
  have hD : va_D A (w_M cs o h I1 V) := by rw [eI1]; exact hD
  refine lv_aload_n hx hb dX10_readBook_5 rfl (lv_at hl 0 rfl) ?_
  refine lv_iconst (v := 0) hx hb dX10_readBook_6 (by decide) ?_
  refine va_put (D := D) (ci := 10) (v := .int 0) (ty := .int) (C := RX10) (T := TX10) (N := 38) hx hb hts in_X10 tyX10 tyX10_ok nmX10 hown hK hP hD hS 0 rfl rfl 15 (by decide) g_115 (fun _ h9 => h9) rfl (by decide +kernel) rfl rfl (Nat.le_of_ble_eq_true rfl) dX10_readBook_7 (fun H locs hP hD hS => ?_)
  obtain ⟨I2, eI2, hf⟩ := nme hf
  have hP : va_P D vwCl (w_M cs o h I2 V) H := by rw [eI2]; exact hP
  have hD : va_D A (w_M cs o h I2 V) := by rw [eI2]; exact hD
  refine lv_aload_n hx hb dX10_readBook_10 rfl (lv_at hl 0 rfl) ?_
  refine lv_iconst (v := 0) hx hb dX10_readBook_11 (by decide) ?_
  refine va_put (D := D) (ci := 10) (v := .int 0) (ty := .int) (C := RX10) (T := TX10) (N := 38) hx hb hts in_X10 tyX10 tyX10_ok nmX10 hown hK hP hD hS 0 rfl rfl 16 (by decide) g_118 (fun _ h9 => h9) rfl (by decide +kernel) rfl rfl (Nat.le_of_ble_eq_true rfl) dX10_readBook_12 (fun H locs hP hD hS => ?_)
  obtain ⟨I3, eI3, hf⟩ := nme hf
  have hP : va_P D vwCl (w_M cs o h I3 V) H := by rw [eI3]; exact hP
  have hD : va_D A (w_M cs o h I3 V) := by rw [eI3]; exact hD
  have L15 : ∀ (k_15 : FI → FV → Option (Int32 × FI × FV)) (hk_15 : ∀ (Im_15 : FI) (Vm_15 : FV), k_15 Im_15 Vm_15 = some out → ∀ (H : Heap) (locs : List Loc), va_P D vwCl (w_M cs o h Im_15 Vm_15) H → va_D A (w_M cs o h Im_15 Vm_15) → va_S A s.heap H locs → ∀ ls : Array Slot, lv_has ls 1 [] → W p l e rm_M_readBook s m args below meth c H locs 0 0 Q (F0 m 38 ls [])), ∀ (n_15 : Nat) (Im_15 : FI) (Vm_15 : FV), M_readBook_L15 f k_15 n_15 Im_15 Vm_15 = some out → ∀ (H : Heap) (locs : List Loc), va_P D vwCl (w_M cs o h Im_15 Vm_15) H → va_D A (w_M cs o h Im_15 Vm_15) → va_S A s.heap H locs → ∀ ls : Array Slot, lv_has ls 1 [(0, .ref o)] → W p l e rm_M_readBook s m args below meth c H locs 0 0 Q (F0 m 15 ls []) := by
    intro k_15 hk_15 n_15
    induction n_15 with
    | zero => intro Im_15 Vm_15 hf; rw [M_readBook_L15] at hf; cases hf
    | succ n_15 ih_15 =>
      intro Im_15 Vm_15 hf H locs hP hD hS ls hl
      rw [M_readBook_L15] at hf
      refine lv_aload_n hx hb dX10_readBook_15 rfl (lv_at hl 0 rfl) ?_
      refine va_get (D := D) (ci := 10) (v := .int (Im_15 3)) (C := RX10) (T := TX10) (N := 38) hx hb hts in_X10 hown hK hP 0 rfl rfl 3 (by decide) g_108 (fun _ h9 => h9) rfl dX10_readBook_16 ?_
      refine lv_aload_n hx hb dX10_readBook_19 rfl (lv_at hl 0 rfl) ?_
      refine va_get (D := D) (ci := 10) (v := .int (Im_15 2)) (C := RX10) (T := TX10) (N := 38) hx hb hts in_X10 hown hK hP 0 rfl rfl 2 (by decide) g_105 (fun _ h9 => h9) rfl dX10_readBook_20 ?_
      refine lv_icmp_ge (tgt := 38) hx hb dX10_readBook_23 (by decide) (fun c23 => ?_) (fun c23 => ?_)
      · replace hf := ip c23 hf
        exact hk_15 Im_15 Vm_15 hf _ _ hP hD hS _ (lv_sub hl [] rfl)
      · replace hf := im c23 hf
        refine lv_aload_n hx hb dX10_readBook_26 rfl (lv_at hl 0 rfl) ?_
        obtain ⟨zr4, I5, V6, qr4, hf⟩ := bd3 hf
        have hFc := xfree hD hS hA
        refine va_calli (va_runV (As := []) (rest := []) ⟨hx, hb, hml, hown, hts⟩ (c_M_readPart l D cs o h _ Im_15 Vm_15 f _ qr4) w_readPart_128 ⟨xP_moved, va_recv hK hP (ci := 10) (q0 := 0) rfl rfl, fun U hU hW => ⟨rfl, by rw [hU], by rw [hU]; exact hP, va_K.moved hW.alike hK, hD.weaken (fun _ _ _ _ => trivial)⟩⟩ rfl rfl hl.1 rfl (lv_room (Nat.le_of_ble_eq_true rfl)) dX10_readBook_27 ⟨Nat.zero_le _, Nat.zero_le _⟩) hS (fun q _ h9 => hFc q h9) hFc (fun r4 u t H1 locs ht hvm hw hB hz1 hk1 hS => ?_)
        have er4 := congrArg Prod.fst hw
        have eu := congrArg Prod.snd hw
        dsimp only at er4 eu
        rw [er4]
        rw [eu] at hB
        obtain ⟨hP1, hK1, hD1⟩ := hB
        have hP : va_P D vwCl (w_M cs o h I5 V6) H1 := by rw [← ht]; exact hP1
        have hD : va_D A (w_M cs o h I5 V6) := hD1.weaken (fun _ q _ h9 => hFc q.1 h9)
        refine lv_if_ne (tgt := 15) hx hb dX10_readBook_30 (by decide) (fun c30 => ?_) (fun c30 => ?_)
        · replace hf := im c30 hf
          exact ih_15 I5 V6 hf _ _ hP hD hS _ (lv_sub hl [0] rfl)
        · replace hf := ip c30 hf
          refine lv_aload_n hx hb dX10_readBook_33 rfl (lv_at hl 0 rfl) ?_
          refine va_get (D := D) (ci := 10) (v := .int (I5 3)) (C := RX10) (T := TX10) (N := 38) hx hb hts in_X10 hown hK hP 0 rfl rfl 3 (by decide) g_108 (fun _ h9 => h9) rfl dX10_readBook_34 ?_
          exact hret (I5 3) I5 V6 _ _ 37 _ hf hP hD hS dX10_readBook_37
  refine L15 _ (fun Im_15 Vm_15 hf H locs hP hD hS ls hl => ?_) f I3 V hf _ _ hP hD hS _ (lv_sub hl [0] rfl)
  refine lv_bipush (v := (-9)) hx hb dX10_readBook_38 (by decide) ?_
  exact hret (-9) Im_15 Vm_15 _ _ 40 _ hf hP hD hS dX10_readBook_40
set_option maxHeartbeats 4000000 in
set_option maxRecDepth 100000 in
theorem c_M_readBook (l : Launch) (D : va_G) (cs : Nat → ClassId) (o : Nat) (h : Nat → Nat) (sz : Nat) (I : FI) (V : FV) (f : Nat) (out : Int32 × FI × FV) (hf : M_readBook f I V = some out) : Met l yX10_readBook wsX10_readBook rm_M_readBook (va_Pc [.ref o] (xP D cs (w_M cs o h I V) sz)) (va_Qi (fun r u => (r, u) = out) (fun (u : FI × FV) t => xA D cs (va_A (w_M cs o h I V) sz) (w_M cs o h u.1 u.2) t) (va_A (w_M cs o h I V) sz)) 0 0 (va_A (w_M cs o h I V) sz) := by
  refine Met.ofW (cc := cX10_readBook) (maxL := 1) (ret := (some .int)) (by decide) rfl ?_
  intro p e s m args below meth c s₁ B hml hv
  obtain ⟨ha, hsz, hP, hK, hD0⟩ := hv
  have hx := B.exec
  have hb := B.bytes
  have hr := B.returns
  have hts := atoms_spec (ws := wsX10_readBook) B.pre
  have hown : s.vm.findClass RX10 = some m.cls := findClass_of_methodNamed B.named
  have hlocks := B.notSynchronized
  have in_X10 : ∀ w ∈ u_ws RX10 TX10 38, w ∈ wsX10_readBook := fun w h => List.mem_cons_of_mem _ (List.mem_append_right _ h)
  have g_108 := hts (Cond.fieldLink RX10 108 "DaysLentModel" "place" "I") (by decide +kernel)
  have g_115 := hts (Cond.fieldLink RX10 115 "DaysLentModel" "readPeople" "I") (by decide +kernel)
  have g_118 := hts (Cond.fieldLink RX10 118 "DaysLentModel" "readDebts" "I") (by decide +kernel)
  have g_105 := hts (Cond.fieldLink RX10 105 "DaysLentModel" "textSize" "I") (by decide +kernel)
  have w_readPart_128 := cwV (R := rm_M_readBook) (s := s) (args := args) (rm := rm_M_readPart) (mc := 0) (ms := 0) 0 hts gX10_readBook_X10_readPart rfl rfl rfl (by decide +kernel) ⟨Nat.le_of_ble_eq_true rfl, Nat.le_of_ble_eq_true rfl⟩
  subst hsz
  have hD := hD0.self (sz := s.heap.size)
  generalize hAe : va_A (w_M cs o h I V) s.heap.size = A at hD ⊢
  have hA : ∀ q : Nat, s.heap.size ≤ q → A q := fun q h => by rw [← hAe]; exact Or.inr h
  have hl := lv_entry ([.ref o]) (n := 1) (Nat.le_of_ble_eq_true rfl)
  rw [show entryFrame m args 1 = entryFrame m ([.ref o] : List Value).toArray 1 from by rw [ha], lg_entry_eq]
  generalize (lg_sl ([.ref o]) ++ List.replicate (1 - (lg_sl ([.ref o])).length) Slot.unset).toArray = ls at hl ⊢
  generalize hQ : MQ below (va_Qi (fun r u => (r, u) = out) (fun (u : FI × FV) t => xA D cs A (w_M cs o h u.1 u.2) t) A) args s 0 0 A = Q
  have hret : ∀ (v : Int32) (Im9 : FI) (Vm9 : FV) (H : Heap) (locs : List Loc) (pc : Nat) (ls : Array Slot), some (v, Im9, Vm9) = some out → va_P D vwCl (w_M cs o h Im9 Vm9) H → va_D A (w_M cs o h Im9 Vm9) → va_S A s.heap H locs → decode cX10_readBook pc = .ok (.ireturn, 1) → W p l e rm_M_readBook s m args below meth c H locs 0 0 Q (F0 m pc ls [.int v]) := by
    intro v Im9 Vm9 H locs pc ls hf hP hD hS hd
    rw [← hQ]
    exact W.iret (v := v) hx hb hr (fun t ht hW => ⟨⟨v, (Im9, Vm9), rfl, Option.some.inj hf, by show va_P D vwCl (w_M cs o h Im9 Vm9) t.heap; rw [ht]; exact hP, va_K.moved hW.alike hK, hD⟩, hS.F ht⟩) hS.2.2 hd
  exact v_M_readBook hf hx hb hml hown hts in_X10 g_108 g_115 g_118 g_105 w_readPart_128 hA hP hD hK hret ls hl
def M_fault (f : Nat) (I : FI) (V : FV) : Option (Int32 × FI × FV) := nm (va_up I 0 0) (fun I1 => ob3 (M_readBook f I1 V) (fun zr2 I3 V4 => some (zr2, I3, V4)))
abbrev rm_M_fault : Room := { frames := 5, cells := 0, slots := 0, locals := 113 }
set_option maxHeartbeats 4000000 in
set_option maxRecDepth 100000 in
theorem v_M_fault {l : Launch} {p : Program} {e : Env} {s : State} {m : MethodId} {args : Array Value} {below : List Frame} {meth : Method} {c : Code} {Q : State → Prop} {D : va_G} {cs : Nat → ClassId} {o : Nat} {h : Nat → Nat} {A : Nat → Prop} {I : FI} {V : FV} {f : Nat} {out : Int32 × FI × FV} (hf : M_fault f I V = some out) (hx : p.tables.exec = Jvm.exec) (hb : c.code = cX10_fault) (hml : c.maxLocals = 1) (hown : s.vm.findClass RX10 = some m.cls) (hts : ∀ w ∈ wsX10_fault, w.before args s = true) (in_X10 : ∀ w ∈ u_ws RX10 TX10 38, w ∈ wsX10_fault) (g_92 : (Cond.fieldLink RX10 92 "DaysLentModel" "thrown" "I").before args s = true) (w_readBook_131 : CallW rm_M_fault s args RX10 RX10 131 yX10_readBook cX10_readBook 1 (some .int) wsX10_readBook rm_M_readBook 0 0 0) (hA : ∀ q : Nat, s.heap.size ≤ q → A q) (hP : va_P D vwCl (w_M cs o h I V) s.heap) (hD : va_D A (w_M cs o h I V)) (hK : va_K D vwCl (tyA cs) s) (hret : ∀ (v : Int32) (Im9 : FI) (Vm9 : FV) (H : Heap) (locs : List Loc) (pc : Nat) (ls : Array Slot), some (v, Im9, Vm9) = some out → va_P D vwCl (w_M cs o h Im9 Vm9) H → va_D A (w_M cs o h Im9 Vm9) → va_S A s.heap H locs → decode cX10_fault pc = .ok (.ireturn, 1) → W p l e rm_M_fault s m args below meth c H locs 0 0 Q (F0 m pc ls [.int v])) : ∀ ls : Array Slot, lv_has ls 1 [(0, .ref o)] → W p l e rm_M_fault s m args below meth c s.heap [] 0 0 Q (F0 m 0 ls []) := by
  intro ls hl
  have hS : va_S A s.heap s.heap [] := va_S.rf
  unfold M_fault at hf
  refine lv_aload_n hx hb dX10_fault_0 rfl (lv_at hl 0 rfl) ?_
  refine lv_iconst (v := 0) hx hb dX10_fault_1 (by decide) ?_
  refine va_put (D := D) (ci := 10) (v := .int 0) (ty := .int) (C := RX10) (T := TX10) (N := 38) hx hb hts in_X10 tyX10 tyX10_ok nmX10 hown hK hP hD hS 0 rfl rfl 0 (by decide) g_92 (fun _ h9 => h9) rfl (by decide +kernel) rfl rfl (Nat.le_of_ble_eq_true rfl) dX10_fault_2 (fun H locs hP hD hS => ?_)
  obtain ⟨I1, eI1, hf⟩ := nme hf
  have hP : va_P D vwCl (w_M cs o h I1 V) H := by rw [eI1]; exact hP
  have hD : va_D A (w_M cs o h I1 V) := by rw [eI1]; exact hD
  refine lv_aload_n hx hb dX10_fault_5 rfl (lv_at hl 0 rfl) ?_
  obtain ⟨zr2, I3, V4, qr2, hf⟩ := bd3 hf
  have hFc := xfree hD hS hA
  refine va_calli (va_runV (As := []) (rest := []) ⟨hx, hb, hml, hown, hts⟩ (c_M_readBook l D cs o h _ I1 V f _ qr2) w_readBook_131 ⟨xP_moved, va_recv hK hP (ci := 10) (q0 := 0) rfl rfl, fun U hU hW => ⟨rfl, by rw [hU], by rw [hU]; exact hP, va_K.moved hW.alike hK, hD.weaken (fun _ _ _ _ => trivial)⟩⟩ rfl rfl hl.1 rfl (lv_room (Nat.le_of_ble_eq_true rfl)) dX10_fault_6 ⟨Nat.zero_le _, Nat.zero_le _⟩) hS (fun q _ h9 => hFc q h9) hFc (fun r2 u t H1 locs ht hvm hw hB hz1 hk1 hS => ?_)
  have er2 := congrArg Prod.fst hw
  have eu := congrArg Prod.snd hw
  dsimp only at er2 eu
  rw [er2]
  rw [eu] at hB
  obtain ⟨hP1, hK1, hD1⟩ := hB
  have hP : va_P D vwCl (w_M cs o h I3 V4) H1 := by rw [← ht]; exact hP1
  have hD : va_D A (w_M cs o h I3 V4) := hD1.weaken (fun _ q _ h9 => hFc q.1 h9)
  exact hret zr2 I3 V4 _ _ 9 _ hf hP hD hS dX10_fault_9
set_option maxHeartbeats 4000000 in
set_option maxRecDepth 100000 in
theorem c_M_fault (l : Launch) (D : va_G) (cs : Nat → ClassId) (o : Nat) (h : Nat → Nat) (sz : Nat) (I : FI) (V : FV) (f : Nat) (out : Int32 × FI × FV) (hf : M_fault f I V = some out) : Met l yX10_fault wsX10_fault rm_M_fault (va_Pc [.ref o] (xP D cs (w_M cs o h I V) sz)) (va_Qi (fun r u => (r, u) = out) (fun (u : FI × FV) t => xA D cs (va_A (w_M cs o h I V) sz) (w_M cs o h u.1 u.2) t) (va_A (w_M cs o h I V) sz)) 0 0 (va_A (w_M cs o h I V) sz) := by
  refine Met.ofW (cc := cX10_fault) (maxL := 1) (ret := (some .int)) (by decide) rfl ?_
  intro p e s m args below meth c s₁ B hml hv
  obtain ⟨ha, hsz, hP, hK, hD0⟩ := hv
  have hx := B.exec
  have hb := B.bytes
  have hr := B.returns
  have hts := atoms_spec (ws := wsX10_fault) B.pre
  have hown : s.vm.findClass RX10 = some m.cls := findClass_of_methodNamed B.named
  have hlocks := B.notSynchronized
  have in_X10 : ∀ w ∈ u_ws RX10 TX10 38, w ∈ wsX10_fault := fun w h => List.mem_cons_of_mem _ (List.mem_append_right _ h)
  have g_92 := hts (Cond.fieldLink RX10 92 "DaysLentModel" "thrown" "I") (by decide +kernel)
  have w_readBook_131 := cwV (R := rm_M_fault) (s := s) (args := args) (rm := rm_M_readBook) (mc := 0) (ms := 0) 0 hts gX10_fault_X10_readBook rfl rfl rfl (by decide +kernel) ⟨Nat.le_of_ble_eq_true rfl, Nat.le_of_ble_eq_true rfl⟩
  subst hsz
  have hD := hD0.self (sz := s.heap.size)
  generalize hAe : va_A (w_M cs o h I V) s.heap.size = A at hD ⊢
  have hA : ∀ q : Nat, s.heap.size ≤ q → A q := fun q h => by rw [← hAe]; exact Or.inr h
  have hl := lv_entry ([.ref o]) (n := 1) (Nat.le_of_ble_eq_true rfl)
  rw [show entryFrame m args 1 = entryFrame m ([.ref o] : List Value).toArray 1 from by rw [ha], lg_entry_eq]
  generalize (lg_sl ([.ref o]) ++ List.replicate (1 - (lg_sl ([.ref o])).length) Slot.unset).toArray = ls at hl ⊢
  generalize hQ : MQ below (va_Qi (fun r u => (r, u) = out) (fun (u : FI × FV) t => xA D cs A (w_M cs o h u.1 u.2) t) A) args s 0 0 A = Q
  have hret : ∀ (v : Int32) (Im9 : FI) (Vm9 : FV) (H : Heap) (locs : List Loc) (pc : Nat) (ls : Array Slot), some (v, Im9, Vm9) = some out → va_P D vwCl (w_M cs o h Im9 Vm9) H → va_D A (w_M cs o h Im9 Vm9) → va_S A s.heap H locs → decode cX10_fault pc = .ok (.ireturn, 1) → W p l e rm_M_fault s m args below meth c H locs 0 0 Q (F0 m pc ls [.int v]) := by
    intro v Im9 Vm9 H locs pc ls hf hP hD hS hd
    rw [← hQ]
    exact W.iret (v := v) hx hb hr (fun t ht hW => ⟨⟨v, (Im9, Vm9), rfl, Option.some.inj hf, by show va_P D vwCl (w_M cs o h Im9 Vm9) t.heap; rw [ht]; exact hP, va_K.moved hW.alike hK, hD⟩, hS.F ht⟩) hS.2.2 hd
  exact v_M_fault hf hx hb hml hown hts in_X10 g_92 w_readBook_131 hA hP hD hK hret ls hl
def M_book_L35 {ρ : Type} (f : Nat) (I6 : FI) (k_35 : FV → Option ρ) : Nat → Int32 → FV → Option ρ
  | 0, _, _ => none
  | n_35 + 1, x1_35, Vm_35 => (if (I6 4) ≤ x1_35 then (k_35 Vm_35) else if x1_35 < 0 ∨ 6 ≤ x1_35.toNatClampNeg then none else (if x1_35 < 0 ∨ 6 ≤ x1_35.toNatClampNeg then none else (nm (va_up Vm_35 5 (upd (Vm_35 5) x1_35.toNatClampNeg ((Vm_35 17) x1_35.toNatClampNeg))) (fun V7 => if x1_35 < 0 ∨ 6 ≤ x1_35.toNatClampNeg then none else (if x1_35 < 0 ∨ 6 ≤ x1_35.toNatClampNeg then none else (nm (va_up V7 6 (upd (V7 6) x1_35.toNatClampNeg ((V7 18) x1_35.toNatClampNeg))) (fun V8 => if x1_35 < 0 ∨ 6 ≤ x1_35.toNatClampNeg then none else (nm (va_up V8 7 (upd (V8 7) x1_35.toNatClampNeg (vp_nar .boolean 0))) (fun V9 => if x1_35 < 0 ∨ 6 ≤ x1_35.toNatClampNeg then none else (nm (va_up V9 8 (upd (V9 8) x1_35.toNatClampNeg (vp_nar .boolean 0))) (fun V10 => (M_book_L35 f I6 k_35 n_35 (x1_35 + 1) V10))))))))))))
def M_book_L89 {ρ : Type} (f : Nat) (I6 : FI) (k_89 : FV → Option ρ) : Nat → Int32 → FV → Option ρ
  | 0, _, _ => none
  | n_89 + 1, x1_89, Vm_89 => (if (I6 9) ≤ x1_89 then (k_89 Vm_89) else if x1_89 < 0 ∨ 8 ≤ x1_89.toNatClampNeg then none else (if x1_89 < 0 ∨ 12 ≤ x1_89.toNatClampNeg then none else (nm (va_up Vm_89 10 (upd (Vm_89 10) x1_89.toNatClampNeg ((Vm_89 19) x1_89.toNatClampNeg))) (fun V11 => if x1_89 < 0 ∨ 8 ≤ x1_89.toNatClampNeg then none else (if x1_89 < 0 ∨ 12 ≤ x1_89.toNatClampNeg then none else (nm (va_up V11 11 (upd (V11 11) x1_89.toNatClampNeg ((V11 20) x1_89.toNatClampNeg))) (fun V12 => if x1_89 < 0 ∨ 8 ≤ x1_89.toNatClampNeg then none else (if x1_89 < 0 ∨ 12 ≤ x1_89.toNatClampNeg then none else (nm (va_up V12 12 (upd (V12 12) x1_89.toNatClampNeg ((V12 21) x1_89.toNatClampNeg))) (fun V13 => if x1_89 < 0 ∨ 8 ≤ x1_89.toNatClampNeg then none else (if x1_89 < 0 ∨ 12 ≤ x1_89.toNatClampNeg then none else (nm (va_up V13 13 (upd (V13 13) x1_89.toNatClampNeg ((V13 22) x1_89.toNatClampNeg))) (fun V14 => (M_book_L89 f I6 k_89 n_89 (x1_89 + 1) V14))))))))))))))
def M_book (f : Nat) (I : FI) (V : FV) : Option (Int32 × FI × FV) := nm (va_up I 0 0) (fun I1 => ob3 (M_readBook f I1 V) (fun zr2 I3 V4 => (if zr2 = (-9) then nm (va_up I3 4 (I3 15)) (fun I5 => nm (va_up I5 9 (I5 16)) (fun I6 => (M_book_L35 f I6 (fun (Vm_35 : FV) => (M_book_L89 f I6 (fun (Vm_89 : FV) => nm (va_up I6 14 0) (fun I15 => nm (va_up I15 24 0) (fun I16 => nm (va_up Vm_89 26 (upd (Vm_89 26) (0 : Int32).toNatClampNeg (vp_nar .boolean 0))) (fun V17 => nm (va_up V17 26 (upd (V17 26) (1 : Int32).toNatClampNeg (vp_nar .boolean 0))) (fun V18 => some ((I16 4), I16, V18)))))) f 0 Vm_35)) f 0 V4))) else some ((-3), I3, V4))))
abbrev rm_M_book : Room := { frames := 5, cells := 0, slots := 0, locals := 113 }
set_option maxHeartbeats 4000000 in
set_option maxRecDepth 100000 in
theorem v_M_book {l : Launch} {p : Program} {e : Env} {s : State} {m : MethodId} {args : Array Value} {below : List Frame} {meth : Method} {c : Code} {Q : State → Prop} {D : va_G} {cs : Nat → ClassId} {o : Nat} {h : Nat → Nat} {A : Nat → Prop} {I : FI} {V : FV} {f : Nat} {out : Int32 × FI × FV} (hf : M_book f I V = some out) (hx : p.tables.exec = Jvm.exec) (hb : c.code = cX10_book) (hml : c.maxLocals = 2) (hown : s.vm.findClass RX10 = some m.cls) (hts : ∀ w ∈ wsX10_book, w.before args s = true) (in_X10 : ∀ w ∈ u_ws RX10 TX10 38, w ∈ wsX10_book) (g_92 : (Cond.fieldLink RX10 92 "DaysLentModel" "thrown" "I").before args s = true) (w_readBook_131 : CallW rm_M_book s args RX10 RX10 131 yX10_readBook cX10_readBook 1 (some .int) wsX10_readBook rm_M_readBook 0 0 0) (g_115 : (Cond.fieldLink RX10 115 "DaysLentModel" "readPeople" "I").before args s = true) (g_96 : (Cond.fieldLink RX10 96 "DaysLentModel" "people" "I").before args s = true) (g_118 : (Cond.fieldLink RX10 118 "DaysLentModel" "readDebts" "I").before args s = true) (g_135 : (Cond.fieldLink RX10 135 "DaysLentModel" "debts" "I").before args s = true) (g_13 : (Cond.fieldLink RX10 13 "DaysLentModel" "mornings" "[I").before args s = true) (g_38 : (Cond.fieldLink RX10 38 "DaysLentModel" "readMornings" "[I").before args s = true) (g_16 : (Cond.fieldLink RX10 16 "DaysLentModel" "asks" "[I").before args s = true) (g_41 : (Cond.fieldLink RX10 41 "DaysLentModel" "readAsks" "[I").before args s = true) (g_19 : (Cond.fieldLink RX10 19 "DaysLentModel" "dead" "[Z").before args s = true) (g_23 : (Cond.fieldLink RX10 23 "DaysLentModel" "broken" "[Z").before args s = true) (g_26 : (Cond.fieldLink RX10 26 "DaysLentModel" "owed" "[I").before args s = true) (g_44 : (Cond.fieldLink RX10 44 "DaysLentModel" "readOwed" "[I").before args s = true) (g_29 : (Cond.fieldLink RX10 29 "DaysLentModel" "owes" "[I").before args s = true) (g_47 : (Cond.fieldLink RX10 47 "DaysLentModel" "readOwes" "[I").before args s = true) (g_32 : (Cond.fieldLink RX10 32 "DaysLentModel" "much" "[I").before args s = true) (g_50 : (Cond.fieldLink RX10 50 "DaysLentModel" "readMuch" "[I").before args s = true) (g_35 : (Cond.fieldLink RX10 35 "DaysLentModel" "due" "[I").before args s = true) (g_53 : (Cond.fieldLink RX10 53 "DaysLentModel" "readDue" "[I").before args s = true) (g_138 : (Cond.fieldLink RX10 138 "DaysLentModel" "week" "I").before args s = true) (g_141 : (Cond.fieldLink RX10 141 "DaysLentModel" "acts" "I").before args s = true) (g_62 : (Cond.fieldLink RX10 62 "DaysLentModel" "isKept" "[Z").before args s = true) (hA : ∀ q : Nat, s.heap.size ≤ q → A q) (hP : va_P D vwCl (w_M cs o h I V) s.heap) (hD : va_D A (w_M cs o h I V)) (hK : va_K D vwCl (tyA cs) s) (hret : ∀ (v : Int32) (Im9 : FI) (Vm9 : FV) (H : Heap) (locs : List Loc) (pc : Nat) (ls : Array Slot), some (v, Im9, Vm9) = some out → va_P D vwCl (w_M cs o h Im9 Vm9) H → va_D A (w_M cs o h Im9 Vm9) → va_S A s.heap H locs → decode cX10_book pc = .ok (.ireturn, 1) → W p l e rm_M_book s m args below meth c H locs 0 0 Q (F0 m pc ls [.int v])) : ∀ ls : Array Slot, lv_has ls 2 [(0, .ref o)] → W p l e rm_M_book s m args below meth c s.heap [] 0 0 Q (F0 m 0 ls []) := by
  intro ls hl
  have hS : va_S A s.heap s.heap [] := va_S.rf
  unfold M_book at hf
  refine lv_aload_n hx hb dX10_book_0 rfl (lv_at hl 0 rfl) ?_
  refine lv_iconst (v := 0) hx hb dX10_book_1 (by decide) ?_
  refine va_put (D := D) (ci := 10) (v := .int 0) (ty := .int) (C := RX10) (T := TX10) (N := 38) hx hb hts in_X10 tyX10 tyX10_ok nmX10 hown hK hP hD hS 0 rfl rfl 0 (by decide) g_92 (fun _ h9 => h9) rfl (by decide +kernel) rfl rfl (Nat.le_of_ble_eq_true rfl) dX10_book_2 (fun H locs hP hD hS => ?_)
  obtain ⟨I1, eI1, hf⟩ := nme hf
  have hP : va_P D vwCl (w_M cs o h I1 V) H := by rw [eI1]; exact hP
  have hD : va_D A (w_M cs o h I1 V) := by rw [eI1]; exact hD
  refine lv_aload_n hx hb dX10_book_5 rfl (lv_at hl 0 rfl) ?_
  obtain ⟨zr2, I3, V4, qr2, hf⟩ := bd3 hf
  have hFc := xfree hD hS hA
  refine va_calli (va_runV (As := []) (rest := []) ⟨hx, hb, hml, hown, hts⟩ (c_M_readBook l D cs o h _ I1 V f _ qr2) w_readBook_131 ⟨xP_moved, va_recv hK hP (ci := 10) (q0 := 0) rfl rfl, fun U hU hW => ⟨rfl, by rw [hU], by rw [hU]; exact hP, va_K.moved hW.alike hK, hD.weaken (fun _ _ _ _ => trivial)⟩⟩ rfl rfl hl.1 rfl (lv_room (Nat.le_of_ble_eq_true rfl)) dX10_book_6 ⟨Nat.zero_le _, Nat.zero_le _⟩) hS (fun q _ h9 => hFc q h9) hFc (fun r2 u t H1 locs ht hvm hw hB hz1 hk1 hS => ?_)
  have er2 := congrArg Prod.fst hw
  have eu := congrArg Prod.snd hw
  dsimp only at er2 eu
  rw [er2]
  rw [eu] at hB
  obtain ⟨hP1, hK1, hD1⟩ := hB
  have hP : va_P D vwCl (w_M cs o h I3 V4) H1 := by rw [← ht]; exact hP1
  have hD : va_D A (w_M cs o h I3 V4) := hD1.weaken (fun _ q _ h9 => hFc q.1 h9)
  refine lv_bipush (v := (-9)) hx hb dX10_book_9 (by decide) ?_
  refine lv_icmp_eq (tgt := 17) hx hb dX10_book_11 (by decide) (fun c11 => ?_) (fun c11 => ?_)
  · replace hf := ip c11 hf
    refine lv_aload_n hx hb dX10_book_17 rfl (lv_at hl 0 rfl) ?_
    refine lv_aload_n hx hb dX10_book_18 rfl (lv_at hl 0 rfl) ?_
    refine va_get (D := D) (ci := 10) (v := .int (I3 15)) (C := RX10) (T := TX10) (N := 38) hx hb hts in_X10 hown hK hP 0 rfl rfl 15 (by decide) g_115 (fun _ h9 => h9) rfl dX10_book_19 ?_
    refine va_put (D := D) (ci := 10) (v := .int (I3 15)) (ty := .int) (C := RX10) (T := TX10) (N := 38) hx hb hts in_X10 tyX10 tyX10_ok nmX10 hown hK hP hD hS 0 rfl rfl 4 (by decide) g_96 (fun _ h9 => h9) rfl (by decide +kernel) rfl rfl (Nat.le_of_ble_eq_true rfl) dX10_book_22 (fun H locs hP hD hS => ?_)
    obtain ⟨I5, eI5, hf⟩ := nme hf
    have hP : va_P D vwCl (w_M cs o h I5 V4) H := by rw [eI5]; exact hP
    have hD : va_D A (w_M cs o h I5 V4) := by rw [eI5]; exact hD
    refine lv_aload_n hx hb dX10_book_25 rfl (lv_at hl 0 rfl) ?_
    refine lv_aload_n hx hb dX10_book_26 rfl (lv_at hl 0 rfl) ?_
    refine va_get (D := D) (ci := 10) (v := .int (I5 16)) (C := RX10) (T := TX10) (N := 38) hx hb hts in_X10 hown hK hP 0 rfl rfl 16 (by decide) g_118 (fun _ h9 => h9) rfl dX10_book_27 ?_
    refine va_put (D := D) (ci := 10) (v := .int (I5 16)) (ty := .int) (C := RX10) (T := TX10) (N := 38) hx hb hts in_X10 tyX10 tyX10_ok nmX10 hown hK hP hD hS 0 rfl rfl 9 (by decide) g_135 (fun _ h9 => h9) rfl (by decide +kernel) rfl rfl (Nat.le_of_ble_eq_true rfl) dX10_book_30 (fun H locs hP hD hS => ?_)
    obtain ⟨I6, eI6, hf⟩ := nme hf
    have hP : va_P D vwCl (w_M cs o h I6 V4) H := by rw [eI6]; exact hP
    have hD : va_D A (w_M cs o h I6 V4) := by rw [eI6]; exact hD
    refine lv_iconst (v := 0) hx hb dX10_book_33 (by decide) ?_
    refine lv_istore_n (lv' := [(1, .int 0), (0, .ref o)]) hx hb dX10_book_34 rfl hl (by decide) rfl (fun ls hl => ?_)
    have L35 : ∀ (k_35 : FV → Option (Int32 × FI × FV)) (hk_35 : ∀ (Vm_35 : FV), k_35 Vm_35 = some out → ∀ (H : Heap) (locs : List Loc), va_P D vwCl (w_M cs o h I6 Vm_35) H → va_D A (w_M cs o h I6 Vm_35) → va_S A s.heap H locs → ∀ ls : Array Slot, lv_has ls 2 [(0, .ref o)] → W p l e rm_M_book s m args below meth c H locs 0 0 Q (F0 m 87 ls [])), ∀ (n_35 : Nat) (x1_35 : Int32) (Vm_35 : FV), M_book_L35 f I6 k_35 n_35 x1_35 Vm_35 = some out → ∀ (H : Heap) (locs : List Loc), va_P D vwCl (w_M cs o h I6 Vm_35) H → va_D A (w_M cs o h I6 Vm_35) → va_S A s.heap H locs → ∀ ls : Array Slot, lv_has ls 2 [(0, .ref o), (1, .int x1_35)] → W p l e rm_M_book s m args below meth c H locs 0 0 Q (F0 m 35 ls []) := by
      intro k_35 hk_35 n_35
      induction n_35 with
      | zero => intro x1_35 Vm_35 hf; rw [M_book_L35] at hf; cases hf
      | succ n_35 ih_35 =>
        intro x1_35 Vm_35 hf H locs hP hD hS ls hl
        rw [M_book_L35] at hf
        refine lv_iload_n hx hb dX10_book_35 rfl (lv_at hl 1 rfl) ?_
        refine lv_aload_n hx hb dX10_book_36 rfl (lv_at hl 0 rfl) ?_
        refine va_get (D := D) (ci := 10) (v := .int (I6 4)) (C := RX10) (T := TX10) (N := 38) hx hb hts in_X10 hown hK hP 0 rfl rfl 4 (by decide) g_96 (fun _ h9 => h9) rfl dX10_book_37 ?_
        refine lv_icmp_ge (tgt := 87) hx hb dX10_book_40 (by decide) (fun c40 => ?_) (fun c40 => ?_)
        · replace hf := ip c40 hf
          exact hk_35 Vm_35 hf _ _ hP hD hS _ (lv_sub hl [0] rfl)
        · replace hf := im c40 hf
          refine lv_aload_n hx hb dX10_book_43 rfl (lv_at hl 0 rfl) ?_
          refine va_get (D := D) (ci := 10) (v := .ref (h 5)) (C := RX10) (T := TX10) (N := 38) hx hb hts in_X10 hown hK hP 0 rfl rfl 5 (by decide) g_13 (fun _ h9 => h9) rfl dX10_book_44 ?_
          refine lv_iload_n hx hb dX10_book_47 rfl (lv_at hl 1 rfl) ?_
          refine lv_aload_n hx hb dX10_book_48 rfl (lv_at hl 0 rfl) ?_
          refine va_get (D := D) (ci := 10) (v := .ref (h 17)) (C := RX10) (T := TX10) (N := 38) hx hb hts in_X10 hown hK hP 0 rfl rfl 17 (by decide) g_38 (fun _ h9 => h9) rfl dX10_book_49 ?_
          refine lv_iload_n hx hb dX10_book_52 rfl (lv_at hl 1 rfl) ?_
          obtain ⟨c53, hf⟩ := gd hf
          refine va_iald (f := (Vm_35 17)) hx hb hK hP 10 0 rfl rfl c53 dX10_book_53 ?_
          obtain ⟨c54, hf⟩ := gd hf
          refine va_iast (f := (Vm_35 5)) hx hb hK hP hD hS 2 0 rfl rfl c54 dX10_book_54 (fun H locs hP hD hS => ?_)
          obtain ⟨V7, eV7, hf⟩ := nme hf
          have hP : va_P D vwCl (w_M cs o h I6 V7) H := by rw [eV7]; exact hP
          have hD : va_D A (w_M cs o h I6 V7) := by rw [eV7]; exact hD
          refine lv_aload_n hx hb dX10_book_55 rfl (lv_at hl 0 rfl) ?_
          refine va_get (D := D) (ci := 10) (v := .ref (h 6)) (C := RX10) (T := TX10) (N := 38) hx hb hts in_X10 hown hK hP 0 rfl rfl 6 (by decide) g_16 (fun _ h9 => h9) rfl dX10_book_56 ?_
          refine lv_iload_n hx hb dX10_book_59 rfl (lv_at hl 1 rfl) ?_
          refine lv_aload_n hx hb dX10_book_60 rfl (lv_at hl 0 rfl) ?_
          refine va_get (D := D) (ci := 10) (v := .ref (h 18)) (C := RX10) (T := TX10) (N := 38) hx hb hts in_X10 hown hK hP 0 rfl rfl 18 (by decide) g_41 (fun _ h9 => h9) rfl dX10_book_61 ?_
          refine lv_iload_n hx hb dX10_book_64 rfl (lv_at hl 1 rfl) ?_
          obtain ⟨c65, hf⟩ := gd hf
          refine va_iald (f := (V7 18)) hx hb hK hP 11 0 rfl rfl c65 dX10_book_65 ?_
          obtain ⟨c66, hf⟩ := gd hf
          refine va_iast (f := (V7 6)) hx hb hK hP hD hS 3 0 rfl rfl c66 dX10_book_66 (fun H locs hP hD hS => ?_)
          obtain ⟨V8, eV8, hf⟩ := nme hf
          have hP : va_P D vwCl (w_M cs o h I6 V8) H := by rw [eV8]; exact hP
          have hD : va_D A (w_M cs o h I6 V8) := by rw [eV8]; exact hD
          refine lv_aload_n hx hb dX10_book_67 rfl (lv_at hl 0 rfl) ?_
          refine va_get (D := D) (ci := 10) (v := .ref (h 7)) (C := RX10) (T := TX10) (N := 38) hx hb hts in_X10 hown hK hP 0 rfl rfl 7 (by decide) g_19 (fun _ h9 => h9) rfl dX10_book_68 ?_
          refine lv_iload_n hx hb dX10_book_71 rfl (lv_at hl 1 rfl) ?_
          refine lv_iconst (v := 0) hx hb dX10_book_72 (by decide) ?_
          obtain ⟨c73, hf⟩ := gd hf
          refine va_zast (f := (V8 7)) hx hb hK hP hD hS 4 1 rfl rfl c73 dX10_book_73 (fun H locs hP hD hS => ?_)
          obtain ⟨V9, eV9, hf⟩ := nme hf
          have hP : va_P D vwCl (w_M cs o h I6 V9) H := by rw [eV9]; exact hP
          have hD : va_D A (w_M cs o h I6 V9) := by rw [eV9]; exact hD
          refine lv_aload_n hx hb dX10_book_74 rfl (lv_at hl 0 rfl) ?_
          refine va_get (D := D) (ci := 10) (v := .ref (h 8)) (C := RX10) (T := TX10) (N := 38) hx hb hts in_X10 hown hK hP 0 rfl rfl 8 (by decide) g_23 (fun _ h9 => h9) rfl dX10_book_75 ?_
          refine lv_iload_n hx hb dX10_book_78 rfl (lv_at hl 1 rfl) ?_
          refine lv_iconst (v := 0) hx hb dX10_book_79 (by decide) ?_
          obtain ⟨c80, hf⟩ := gd hf
          refine va_zast (f := (V9 8)) hx hb hK hP hD hS 5 1 rfl rfl c80 dX10_book_80 (fun H locs hP hD hS => ?_)
          obtain ⟨V10, eV10, hf⟩ := nme hf
          have hP : va_P D vwCl (w_M cs o h I6 V10) H := by rw [eV10]; exact hP
          have hD : va_D A (w_M cs o h I6 V10) := by rw [eV10]; exact hD
          refine lv_iinc (v := (x1_35 + 1)) (lv' := [(1, .int (x1_35 + 1)), (0, .ref o)]) hx hb dX10_book_81 hl (k := 1) rfl (by rfl) (by decide) rfl (fun ls hl => ?_)
          refine lv_goto (tgt := 35) hx hb dX10_book_84 (by decide) ?_
          exact ih_35 (x1_35 + 1) V10 hf _ _ hP hD hS _ (lv_sub hl [1, 0] rfl)
    refine L35 _ (fun Vm_35 hf H locs hP hD hS ls hl => ?_) f 0 V4 hf _ _ hP hD hS _ (lv_sub hl [1, 0] rfl)
    refine lv_iconst (v := 0) hx hb dX10_book_87 (by decide) ?_
    refine lv_istore_n (lv' := [(1, .int 0), (0, .ref o)]) hx hb dX10_book_88 rfl hl (by decide) rfl (fun ls hl => ?_)
    have L89 : ∀ (k_89 : FV → Option (Int32 × FI × FV)) (hk_89 : ∀ (Vm_89 : FV), k_89 Vm_89 = some out → ∀ (H : Heap) (locs : List Loc), va_P D vwCl (w_M cs o h I6 Vm_89) H → va_D A (w_M cs o h I6 Vm_89) → va_S A s.heap H locs → ∀ ls : Array Slot, lv_has ls 2 [(0, .ref o)] → W p l e rm_M_book s m args below meth c H locs 0 0 Q (F0 m 151 ls [])), ∀ (n_89 : Nat) (x1_89 : Int32) (Vm_89 : FV), M_book_L89 f I6 k_89 n_89 x1_89 Vm_89 = some out → ∀ (H : Heap) (locs : List Loc), va_P D vwCl (w_M cs o h I6 Vm_89) H → va_D A (w_M cs o h I6 Vm_89) → va_S A s.heap H locs → ∀ ls : Array Slot, lv_has ls 2 [(0, .ref o), (1, .int x1_89)] → W p l e rm_M_book s m args below meth c H locs 0 0 Q (F0 m 89 ls []) := by
      intro k_89 hk_89 n_89
      induction n_89 with
      | zero => intro x1_89 Vm_89 hf; rw [M_book_L89] at hf; cases hf
      | succ n_89 ih_89 =>
        intro x1_89 Vm_89 hf H locs hP hD hS ls hl
        rw [M_book_L89] at hf
        refine lv_iload_n hx hb dX10_book_89 rfl (lv_at hl 1 rfl) ?_
        refine lv_aload_n hx hb dX10_book_90 rfl (lv_at hl 0 rfl) ?_
        refine va_get (D := D) (ci := 10) (v := .int (I6 9)) (C := RX10) (T := TX10) (N := 38) hx hb hts in_X10 hown hK hP 0 rfl rfl 9 (by decide) g_135 (fun _ h9 => h9) rfl dX10_book_91 ?_
        refine lv_icmp_ge (tgt := 151) hx hb dX10_book_94 (by decide) (fun c94 => ?_) (fun c94 => ?_)
        · replace hf := ip c94 hf
          exact hk_89 Vm_89 hf _ _ hP hD hS _ (lv_sub hl [0] rfl)
        · replace hf := im c94 hf
          refine lv_aload_n hx hb dX10_book_97 rfl (lv_at hl 0 rfl) ?_
          refine va_get (D := D) (ci := 10) (v := .ref (h 10)) (C := RX10) (T := TX10) (N := 38) hx hb hts in_X10 hown hK hP 0 rfl rfl 10 (by decide) g_26 (fun _ h9 => h9) rfl dX10_book_98 ?_
          refine lv_iload_n hx hb dX10_book_101 rfl (lv_at hl 1 rfl) ?_
          refine lv_aload_n hx hb dX10_book_102 rfl (lv_at hl 0 rfl) ?_
          refine va_get (D := D) (ci := 10) (v := .ref (h 19)) (C := RX10) (T := TX10) (N := 38) hx hb hts in_X10 hown hK hP 0 rfl rfl 19 (by decide) g_44 (fun _ h9 => h9) rfl dX10_book_103 ?_
          refine lv_iload_n hx hb dX10_book_106 rfl (lv_at hl 1 rfl) ?_
          obtain ⟨c107, hf⟩ := gd hf
          refine va_iald (f := (Vm_89 19)) hx hb hK hP 12 0 rfl rfl c107 dX10_book_107 ?_
          obtain ⟨c108, hf⟩ := gd hf
          refine va_iast (f := (Vm_89 10)) hx hb hK hP hD hS 6 0 rfl rfl c108 dX10_book_108 (fun H locs hP hD hS => ?_)
          obtain ⟨V11, eV11, hf⟩ := nme hf
          have hP : va_P D vwCl (w_M cs o h I6 V11) H := by rw [eV11]; exact hP
          have hD : va_D A (w_M cs o h I6 V11) := by rw [eV11]; exact hD
          refine lv_aload_n hx hb dX10_book_109 rfl (lv_at hl 0 rfl) ?_
          refine va_get (D := D) (ci := 10) (v := .ref (h 11)) (C := RX10) (T := TX10) (N := 38) hx hb hts in_X10 hown hK hP 0 rfl rfl 11 (by decide) g_29 (fun _ h9 => h9) rfl dX10_book_110 ?_
          refine lv_iload_n hx hb dX10_book_113 rfl (lv_at hl 1 rfl) ?_
          refine lv_aload_n hx hb dX10_book_114 rfl (lv_at hl 0 rfl) ?_
          refine va_get (D := D) (ci := 10) (v := .ref (h 20)) (C := RX10) (T := TX10) (N := 38) hx hb hts in_X10 hown hK hP 0 rfl rfl 20 (by decide) g_47 (fun _ h9 => h9) rfl dX10_book_115 ?_
          refine lv_iload_n hx hb dX10_book_118 rfl (lv_at hl 1 rfl) ?_
          obtain ⟨c119, hf⟩ := gd hf
          refine va_iald (f := (V11 20)) hx hb hK hP 13 0 rfl rfl c119 dX10_book_119 ?_
          obtain ⟨c120, hf⟩ := gd hf
          refine va_iast (f := (V11 11)) hx hb hK hP hD hS 7 0 rfl rfl c120 dX10_book_120 (fun H locs hP hD hS => ?_)
          obtain ⟨V12, eV12, hf⟩ := nme hf
          have hP : va_P D vwCl (w_M cs o h I6 V12) H := by rw [eV12]; exact hP
          have hD : va_D A (w_M cs o h I6 V12) := by rw [eV12]; exact hD
          refine lv_aload_n hx hb dX10_book_121 rfl (lv_at hl 0 rfl) ?_
          refine va_get (D := D) (ci := 10) (v := .ref (h 12)) (C := RX10) (T := TX10) (N := 38) hx hb hts in_X10 hown hK hP 0 rfl rfl 12 (by decide) g_32 (fun _ h9 => h9) rfl dX10_book_122 ?_
          refine lv_iload_n hx hb dX10_book_125 rfl (lv_at hl 1 rfl) ?_
          refine lv_aload_n hx hb dX10_book_126 rfl (lv_at hl 0 rfl) ?_
          refine va_get (D := D) (ci := 10) (v := .ref (h 21)) (C := RX10) (T := TX10) (N := 38) hx hb hts in_X10 hown hK hP 0 rfl rfl 21 (by decide) g_50 (fun _ h9 => h9) rfl dX10_book_127 ?_
          refine lv_iload_n hx hb dX10_book_130 rfl (lv_at hl 1 rfl) ?_
          obtain ⟨c131, hf⟩ := gd hf
          refine va_iald (f := (V12 21)) hx hb hK hP 14 0 rfl rfl c131 dX10_book_131 ?_
          obtain ⟨c132, hf⟩ := gd hf
          refine va_iast (f := (V12 12)) hx hb hK hP hD hS 8 0 rfl rfl c132 dX10_book_132 (fun H locs hP hD hS => ?_)
          obtain ⟨V13, eV13, hf⟩ := nme hf
          have hP : va_P D vwCl (w_M cs o h I6 V13) H := by rw [eV13]; exact hP
          have hD : va_D A (w_M cs o h I6 V13) := by rw [eV13]; exact hD
          refine lv_aload_n hx hb dX10_book_133 rfl (lv_at hl 0 rfl) ?_
          refine va_get (D := D) (ci := 10) (v := .ref (h 13)) (C := RX10) (T := TX10) (N := 38) hx hb hts in_X10 hown hK hP 0 rfl rfl 13 (by decide) g_35 (fun _ h9 => h9) rfl dX10_book_134 ?_
          refine lv_iload_n hx hb dX10_book_137 rfl (lv_at hl 1 rfl) ?_
          refine lv_aload_n hx hb dX10_book_138 rfl (lv_at hl 0 rfl) ?_
          refine va_get (D := D) (ci := 10) (v := .ref (h 22)) (C := RX10) (T := TX10) (N := 38) hx hb hts in_X10 hown hK hP 0 rfl rfl 22 (by decide) g_53 (fun _ h9 => h9) rfl dX10_book_139 ?_
          refine lv_iload_n hx hb dX10_book_142 rfl (lv_at hl 1 rfl) ?_
          obtain ⟨c143, hf⟩ := gd hf
          refine va_iald (f := (V13 22)) hx hb hK hP 15 0 rfl rfl c143 dX10_book_143 ?_
          obtain ⟨c144, hf⟩ := gd hf
          refine va_iast (f := (V13 13)) hx hb hK hP hD hS 9 0 rfl rfl c144 dX10_book_144 (fun H locs hP hD hS => ?_)
          obtain ⟨V14, eV14, hf⟩ := nme hf
          have hP : va_P D vwCl (w_M cs o h I6 V14) H := by rw [eV14]; exact hP
          have hD : va_D A (w_M cs o h I6 V14) := by rw [eV14]; exact hD
          refine lv_iinc (v := (x1_89 + 1)) (lv' := [(1, .int (x1_89 + 1)), (0, .ref o)]) hx hb dX10_book_145 hl (k := 1) rfl (by rfl) (by decide) rfl (fun ls hl => ?_)
          refine lv_goto (tgt := 89) hx hb dX10_book_148 (by decide) ?_
          exact ih_89 (x1_89 + 1) V14 hf _ _ hP hD hS _ (lv_sub hl [1, 0] rfl)
    refine L89 _ (fun Vm_89 hf H locs hP hD hS ls hl => ?_) f 0 Vm_35 hf _ _ hP hD hS _ (lv_sub hl [1, 0] rfl)
    refine lv_aload_n hx hb dX10_book_151 rfl (lv_at hl 0 rfl) ?_
    refine lv_iconst (v := 0) hx hb dX10_book_152 (by decide) ?_
    refine va_put (D := D) (ci := 10) (v := .int 0) (ty := .int) (C := RX10) (T := TX10) (N := 38) hx hb hts in_X10 tyX10 tyX10_ok nmX10 hown hK hP hD hS 0 rfl rfl 14 (by decide) g_138 (fun _ h9 => h9) rfl (by decide +kernel) rfl rfl (Nat.le_of_ble_eq_true rfl) dX10_book_153 (fun H locs hP hD hS => ?_)
    obtain ⟨I15, eI15, hf⟩ := nme hf
    have hP : va_P D vwCl (w_M cs o h I15 Vm_89) H := by rw [eI15]; exact hP
    have hD : va_D A (w_M cs o h I15 Vm_89) := by rw [eI15]; exact hD
    refine lv_aload_n hx hb dX10_book_156 rfl (lv_at hl 0 rfl) ?_
    refine lv_iconst (v := 0) hx hb dX10_book_157 (by decide) ?_
    refine va_put (D := D) (ci := 10) (v := .int 0) (ty := .int) (C := RX10) (T := TX10) (N := 38) hx hb hts in_X10 tyX10 tyX10_ok nmX10 hown hK hP hD hS 0 rfl rfl 24 (by decide) g_141 (fun _ h9 => h9) rfl (by decide +kernel) rfl rfl (Nat.le_of_ble_eq_true rfl) dX10_book_158 (fun H locs hP hD hS => ?_)
    obtain ⟨I16, eI16, hf⟩ := nme hf
    have hP : va_P D vwCl (w_M cs o h I16 Vm_89) H := by rw [eI16]; exact hP
    have hD : va_D A (w_M cs o h I16 Vm_89) := by rw [eI16]; exact hD
    refine lv_aload_n hx hb dX10_book_161 rfl (lv_at hl 0 rfl) ?_
    refine va_get (D := D) (ci := 10) (v := .ref (h 26)) (C := RX10) (T := TX10) (N := 38) hx hb hts in_X10 hown hK hP 0 rfl rfl 26 (by decide) g_62 (fun _ h9 => h9) rfl dX10_book_162 ?_
    refine lv_iconst (v := 0) hx hb dX10_book_165 (by decide) ?_
    refine lv_iconst (v := 0) hx hb dX10_book_166 (by decide) ?_
    refine va_zast (f := (Vm_89 26)) hx hb hK hP hD hS 18 1 rfl rfl (by unfold vp_in; decide) dX10_book_167 (fun H locs hP hD hS => ?_)
    obtain ⟨V17, eV17, hf⟩ := nme hf
    have hP : va_P D vwCl (w_M cs o h I16 V17) H := by rw [eV17]; exact hP
    have hD : va_D A (w_M cs o h I16 V17) := by rw [eV17]; exact hD
    refine lv_aload_n hx hb dX10_book_168 rfl (lv_at hl 0 rfl) ?_
    refine va_get (D := D) (ci := 10) (v := .ref (h 26)) (C := RX10) (T := TX10) (N := 38) hx hb hts in_X10 hown hK hP 0 rfl rfl 26 (by decide) g_62 (fun _ h9 => h9) rfl dX10_book_169 ?_
    refine lv_iconst (v := 1) hx hb dX10_book_172 (by decide) ?_
    refine lv_iconst (v := 0) hx hb dX10_book_173 (by decide) ?_
    refine va_zast (f := (V17 26)) hx hb hK hP hD hS 18 1 rfl rfl (by unfold vp_in; decide) dX10_book_174 (fun H locs hP hD hS => ?_)
    obtain ⟨V18, eV18, hf⟩ := nme hf
    have hP : va_P D vwCl (w_M cs o h I16 V18) H := by rw [eV18]; exact hP
    have hD : va_D A (w_M cs o h I16 V18) := by rw [eV18]; exact hD
    refine lv_aload_n hx hb dX10_book_175 rfl (lv_at hl 0 rfl) ?_
    refine va_get (D := D) (ci := 10) (v := .int (I16 4)) (C := RX10) (T := TX10) (N := 38) hx hb hts in_X10 hown hK hP 0 rfl rfl 4 (by decide) g_96 (fun _ h9 => h9) rfl dX10_book_176 ?_
    exact hret (I16 4) I16 V18 _ _ 179 _ hf hP hD hS dX10_book_179
  · replace hf := im c11 hf
    refine lv_bipush (v := (-3)) hx hb dX10_book_14 (by decide) ?_
    exact hret (-3) I3 V4 _ _ 16 _ hf hP hD hS dX10_book_16
set_option maxHeartbeats 4000000 in
set_option maxRecDepth 100000 in
theorem c_M_book (l : Launch) (D : va_G) (cs : Nat → ClassId) (o : Nat) (h : Nat → Nat) (sz : Nat) (I : FI) (V : FV) (f : Nat) (out : Int32 × FI × FV) (hf : M_book f I V = some out) : Met l yX10_book wsX10_book rm_M_book (va_Pc [.ref o] (xP D cs (w_M cs o h I V) sz)) (va_Qi (fun r u => (r, u) = out) (fun (u : FI × FV) t => xA D cs (va_A (w_M cs o h I V) sz) (w_M cs o h u.1 u.2) t) (va_A (w_M cs o h I V) sz)) 0 0 (va_A (w_M cs o h I V) sz) := by
  refine Met.ofW (cc := cX10_book) (maxL := 2) (ret := (some .int)) (by decide) rfl ?_
  intro p e s m args below meth c s₁ B hml hv
  obtain ⟨ha, hsz, hP, hK, hD0⟩ := hv
  have hx := B.exec
  have hb := B.bytes
  have hr := B.returns
  have hts := atoms_spec (ws := wsX10_book) B.pre
  have hown : s.vm.findClass RX10 = some m.cls := findClass_of_methodNamed B.named
  have hlocks := B.notSynchronized
  have in_X10 : ∀ w ∈ u_ws RX10 TX10 38, w ∈ wsX10_book := fun w h => List.mem_cons_of_mem _ (List.mem_append_right _ h)
  have g_92 := hts (Cond.fieldLink RX10 92 "DaysLentModel" "thrown" "I") (by decide +kernel)
  have w_readBook_131 := cwV (R := rm_M_book) (s := s) (args := args) (rm := rm_M_readBook) (mc := 0) (ms := 0) 0 hts gX10_book_X10_readBook rfl rfl rfl (by decide +kernel) ⟨Nat.le_of_ble_eq_true rfl, Nat.le_of_ble_eq_true rfl⟩
  have g_115 := hts (Cond.fieldLink RX10 115 "DaysLentModel" "readPeople" "I") (by decide +kernel)
  have g_96 := hts (Cond.fieldLink RX10 96 "DaysLentModel" "people" "I") (by decide +kernel)
  have g_118 := hts (Cond.fieldLink RX10 118 "DaysLentModel" "readDebts" "I") (by decide +kernel)
  have g_135 := hts (Cond.fieldLink RX10 135 "DaysLentModel" "debts" "I") (by decide +kernel)
  have g_13 := hts (Cond.fieldLink RX10 13 "DaysLentModel" "mornings" "[I") (by decide +kernel)
  have g_38 := hts (Cond.fieldLink RX10 38 "DaysLentModel" "readMornings" "[I") (by decide +kernel)
  have g_16 := hts (Cond.fieldLink RX10 16 "DaysLentModel" "asks" "[I") (by decide +kernel)
  have g_41 := hts (Cond.fieldLink RX10 41 "DaysLentModel" "readAsks" "[I") (by decide +kernel)
  have g_19 := hts (Cond.fieldLink RX10 19 "DaysLentModel" "dead" "[Z") (by decide +kernel)
  have g_23 := hts (Cond.fieldLink RX10 23 "DaysLentModel" "broken" "[Z") (by decide +kernel)
  have g_26 := hts (Cond.fieldLink RX10 26 "DaysLentModel" "owed" "[I") (by decide +kernel)
  have g_44 := hts (Cond.fieldLink RX10 44 "DaysLentModel" "readOwed" "[I") (by decide +kernel)
  have g_29 := hts (Cond.fieldLink RX10 29 "DaysLentModel" "owes" "[I") (by decide +kernel)
  have g_47 := hts (Cond.fieldLink RX10 47 "DaysLentModel" "readOwes" "[I") (by decide +kernel)
  have g_32 := hts (Cond.fieldLink RX10 32 "DaysLentModel" "much" "[I") (by decide +kernel)
  have g_50 := hts (Cond.fieldLink RX10 50 "DaysLentModel" "readMuch" "[I") (by decide +kernel)
  have g_35 := hts (Cond.fieldLink RX10 35 "DaysLentModel" "due" "[I") (by decide +kernel)
  have g_53 := hts (Cond.fieldLink RX10 53 "DaysLentModel" "readDue" "[I") (by decide +kernel)
  have g_138 := hts (Cond.fieldLink RX10 138 "DaysLentModel" "week" "I") (by decide +kernel)
  have g_141 := hts (Cond.fieldLink RX10 141 "DaysLentModel" "acts" "I") (by decide +kernel)
  have g_62 := hts (Cond.fieldLink RX10 62 "DaysLentModel" "isKept" "[Z") (by decide +kernel)
  subst hsz
  have hD := hD0.self (sz := s.heap.size)
  generalize hAe : va_A (w_M cs o h I V) s.heap.size = A at hD ⊢
  have hA : ∀ q : Nat, s.heap.size ≤ q → A q := fun q h => by rw [← hAe]; exact Or.inr h
  have hl := lv_entry ([.ref o]) (n := 2) (Nat.le_of_ble_eq_true rfl)
  rw [show entryFrame m args 2 = entryFrame m ([.ref o] : List Value).toArray 2 from by rw [ha], lg_entry_eq]
  generalize (lg_sl ([.ref o]) ++ List.replicate (2 - (lg_sl ([.ref o])).length) Slot.unset).toArray = ls at hl ⊢
  generalize hQ : MQ below (va_Qi (fun r u => (r, u) = out) (fun (u : FI × FV) t => xA D cs A (w_M cs o h u.1 u.2) t) A) args s 0 0 A = Q
  have hret : ∀ (v : Int32) (Im9 : FI) (Vm9 : FV) (H : Heap) (locs : List Loc) (pc : Nat) (ls : Array Slot), some (v, Im9, Vm9) = some out → va_P D vwCl (w_M cs o h Im9 Vm9) H → va_D A (w_M cs o h Im9 Vm9) → va_S A s.heap H locs → decode cX10_book pc = .ok (.ireturn, 1) → W p l e rm_M_book s m args below meth c H locs 0 0 Q (F0 m pc ls [.int v]) := by
    intro v Im9 Vm9 H locs pc ls hf hP hD hS hd
    rw [← hQ]
    exact W.iret (v := v) hx hb hr (fun t ht hW => ⟨⟨v, (Im9, Vm9), rfl, Option.some.inj hf, by show va_P D vwCl (w_M cs o h Im9 Vm9) t.heap; rw [ht]; exact hP, va_K.moved hW.alike hK, hD⟩, hS.F ht⟩) hS.2.2 hd
  exact v_M_book hf hx hb hml hown hts in_X10 g_92 w_readBook_131 g_115 g_96 g_118 g_135 g_13 g_38 g_16 g_41 g_19 g_23 g_26 g_44 g_29 g_47 g_32 g_50 g_35 g_53 g_138 g_141 g_62 hA hP hD hK hret ls hl
