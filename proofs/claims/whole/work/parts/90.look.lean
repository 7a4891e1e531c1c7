def M_in (f : Nat) (x0 : Int64) (x2 : Int64) (x4 : Int64) : Option (Int32) := (if (lg_cmp x0 x2) < 0 then some 0 else (if 0 < (lg_cmp x0 x4) then some 0 else some 1))
abbrev rm_M_in : Room := { frames := 0, cells := 0, slots := 0, locals := 0 }
set_option maxHeartbeats 4000000 in
set_option maxRecDepth 100000 in
theorem c_M_in (l : Launch) (x0 : Int64) (x2 : Int64) (x4 : Int64) (f : Nat) (out : Int32) (hf : M_in f x0 x2 x4 = some out) : Met l yX10_in wsX10_in rm_M_in (va_Pc [.long x0, .long x2, .long x4] (fun _ => True)) (vp_Si (fun r => r = out)) 0 0 (fun _ => False) := by
  refine Met.ofW (cc := cX10_in) (maxL := 6) (ret := (some .boolean)) (by decide) rfl ?_
  intro p e s m args below meth c s₁ B hml hv
  obtain ⟨ha, -⟩ := hv
  have hx := B.exec
  have hb := B.bytes
  have hr := B.returns
  have hts := atoms_spec (ws := wsX10_in) B.pre
  have hown : s.vm.findClass RX10 = some m.cls := findClass_of_methodNamed B.named
  have hlocks := B.notSynchronized
  have hl := lv_entry ([.long x0, .long x2, .long x4]) (n := 6) (Nat.le_of_ble_eq_true rfl)
  rw [show entryFrame m args 6 = entryFrame m ([.long x0, .long x2, .long x4] : List Value).toArray 6 from by rw [ha], lg_entry_eq]
  generalize (lg_sl ([.long x0, .long x2, .long x4]) ++ List.replicate (6 - (lg_sl ([.long x0, .long x2, .long x4])).length) Slot.unset).toArray = ls at hl ⊢
  have hl : lv_has ls 6 [(0, .long x0), (2, .long x2), (4, .long x4)] := hl
  generalize hQ : MQ below (vp_Si (fun r => r = out)) args s 0 0 (fun _ => False) = Q
  show W p l e rm_M_in s m args below meth c s.heap [] 0 0 Q (F0 m 0 ls [])
  have hret : ∀ (v : Int32) (pc : Nat) (ls : Array Slot), narrow .boolean (.int v) = .int v → some v = some out → decode cX10_in pc = .ok (.ireturn, 1) → W p l e rm_M_in s m args below meth c s.heap [] 0 0 Q (F0 m pc ls [.int v]) := by
    intro v pc ls hz hf hd
    rw [← hQ]
    exact W.zret (v := v) hx hb hr hz (fun t ht hW => ⟨v, rfl, Option.some.inj hf, ht⟩) (fun q h => by cases h) hd
  unfold M_in at hf
  refine lv_lload_n hx hb dX10_in_0 rfl (lv_at hl 0 rfl) ?_
  refine lv_lload_n hx hb dX10_in_1 rfl (lv_at hl 1 rfl) ?_
  refine W.lcmp hx hb dX10_in_2 ?_
  refine lv_if_lt (tgt := 17) hx hb dX10_in_3 (by decide) (fun c3 => ?_) (fun c3 => ?_)
  · replace hf := ip c3 hf
    refine lv_iconst (v := 0) hx hb dX10_in_17 (by decide) ?_
    exact hret 0 18 _ rfl hf dX10_in_18
  · replace hf := im c3 hf
    refine lv_lload_n hx hb dX10_in_6 rfl (lv_at hl 0 rfl) ?_
    refine lv_lload hx hb dX10_in_7 (lv_at hl 2 rfl) ?_
    refine W.lcmp hx hb dX10_in_9 ?_
    refine lv_if_gt (tgt := 17) hx hb dX10_in_10 (by decide) (fun c10 => ?_) (fun c10 => ?_)
    · replace hf := ip c10 hf
      refine lv_iconst (v := 0) hx hb dX10_in_17 (by decide) ?_
      exact hret 0 18 _ rfl hf dX10_in_18
    · replace hf := im c10 hf
      refine lv_iconst (v := 1) hx hb dX10_in_13 (by decide) ?_
      refine lv_goto (tgt := 18) hx hb dX10_in_14 (by decide) ?_
      exact hret 1 18 _ rfl hf dX10_in_18
def M_has (f : Nat) (x0 : Int32) (x1 : Int32) : Option (Int32) := (if ((x0 >>> (x1 &&& 31)) &&& 1) = 1 then some 1 else some 0)
abbrev rm_M_has : Room := { frames := 0, cells := 0, slots := 0, locals := 0 }
set_option maxHeartbeats 4000000 in
set_option maxRecDepth 100000 in
theorem c_M_has (l : Launch) (x0 : Int32) (x1 : Int32) (f : Nat) (out : Int32) (hf : M_has f x0 x1 = some out) : Met l yX10_has wsX10_has rm_M_has (va_Pc [.int x0, .int x1] (fun _ => True)) (vp_Si (fun r => r = out)) 0 0 (fun _ => False) := by
  refine Met.ofW (cc := cX10_has) (maxL := 2) (ret := (some .boolean)) (by decide) rfl ?_
  intro p e s m args below meth c s₁ B hml hv
  obtain ⟨ha, -⟩ := hv
  have hx := B.exec
  have hb := B.bytes
  have hr := B.returns
  have hts := atoms_spec (ws := wsX10_has) B.pre
  have hown : s.vm.findClass RX10 = some m.cls := findClass_of_methodNamed B.named
  have hlocks := B.notSynchronized
  have hl := lv_entry ([.int x0, .int x1]) (n := 2) (Nat.le_of_ble_eq_true rfl)
  rw [show entryFrame m args 2 = entryFrame m ([.int x0, .int x1] : List Value).toArray 2 from by rw [ha], lg_entry_eq]
  generalize (lg_sl ([.int x0, .int x1]) ++ List.replicate (2 - (lg_sl ([.int x0, .int x1])).length) Slot.unset).toArray = ls at hl ⊢
  have hl : lv_has ls 2 [(0, .int x0), (1, .int x1)] := hl
  generalize hQ : MQ below (vp_Si (fun r => r = out)) args s 0 0 (fun _ => False) = Q
  show W p l e rm_M_has s m args below meth c s.heap [] 0 0 Q (F0 m 0 ls [])
  have hret : ∀ (v : Int32) (pc : Nat) (ls : Array Slot), narrow .boolean (.int v) = .int v → some v = some out → decode cX10_has pc = .ok (.ireturn, 1) → W p l e rm_M_has s m args below meth c s.heap [] 0 0 Q (F0 m pc ls [.int v]) := by
    intro v pc ls hz hf hd
    rw [← hQ]
    exact W.zret (v := v) hx hb hr hz (fun t ht hW => ⟨v, rfl, Option.some.inj hf, ht⟩) (fun q h => by cases h) hd
  unfold M_has at hf
  refine lv_iload_n hx hb dX10_has_0 rfl (lv_at hl 0 rfl) ?_
  refine lv_iload_n hx hb dX10_has_1 rfl (lv_at hl 1 rfl) ?_
  refine lv_ishr hx hb dX10_has_2 ?_
  refine lv_iconst (v := 1) hx hb dX10_has_3 (by decide) ?_
  refine lv_iand hx hb dX10_has_4 ?_
  refine lv_iconst (v := 1) hx hb dX10_has_5 (by decide) ?_
  refine lv_icmp_ne (tgt := 13) hx hb dX10_has_6 (by decide) (fun c6 => ?_) (fun c6 => ?_)
  · replace hf := im c6 hf
    refine lv_iconst (v := 0) hx hb dX10_has_13 (by decide) ?_
    exact hret 0 14 _ rfl hf dX10_has_14
  · replace hf := ip c6 hf
    refine lv_iconst (v := 1) hx hb dX10_has_9 (by decide) ?_
    refine lv_goto (tgt := 14) hx hb dX10_has_10 (by decide) ?_
    exact hret 1 14 _ rfl hf dX10_has_14
def M_noOne (f : Nat) (x1 : Int32) (I : FI) (V : FV) : Option (Int32) := ob1 (M_in f (x1.toInt64) 0 (((I 4) - 1).toInt64)) (fun zr1 => (if zr1 = 0 then some 1 else some 0))
abbrev rm_M_noOne : Room := { frames := 1, cells := 0, slots := 0, locals := 25 }
set_option maxHeartbeats 4000000 in
set_option maxRecDepth 100000 in
theorem c_M_noOne (l : Launch) (D : va_G) (cs : Nat → ClassId) (o : Nat) (h : Nat → Nat) (I : FI) (V : FV) (x1 : Int32) (f : Nat) (out : Int32) (hf : M_noOne f x1 I V = some out) : Met l yX10_noOne wsX10_noOne rm_M_noOne (va_Pc [.ref o, .int x1] (xR D cs (w_M cs o h I V))) (vp_Si (fun r => r = out)) 0 0 (fun _ => False) := by
  refine Met.ofW (cc := cX10_noOne) (maxL := 2) (ret := (some .boolean)) (by decide) rfl ?_
  intro p e s m args below meth c s₁ B hml hv
  obtain ⟨ha, hP, hK⟩ := hv
  have hx := B.exec
  have hb := B.bytes
  have hr := B.returns
  have hts := atoms_spec (ws := wsX10_noOne) B.pre
  have hown : s.vm.findClass RX10 = some m.cls := findClass_of_methodNamed B.named
  have hlocks := B.notSynchronized
  have in_X10 : ∀ w ∈ u_ws RX10 TX10 38, w ∈ wsX10_noOne := fun w h => List.mem_cons_of_mem _ (List.mem_append_right _ h)
  have g_96 := hts (.fieldLink RX10 96 "DaysLentModel" "people" "I") (by decide +kernel)
  have w_in_99 := va_cwS (R := rm_M_noOne) (s := s) (args := args) (rm := rm_M_in) (mc := 0) (ms := 0) 3 hts gX10_noOne_X10_in rfl rfl rfl (by decide +kernel) ⟨Nat.le_of_ble_eq_true rfl, Nat.le_of_ble_eq_true rfl⟩
  have hl := lv_entry ([.ref o, .int x1]) (n := 2) (Nat.le_of_ble_eq_true rfl)
  rw [show entryFrame m args 2 = entryFrame m ([.ref o, .int x1] : List Value).toArray 2 from by rw [ha], lg_entry_eq]
  generalize (lg_sl ([.ref o, .int x1]) ++ List.replicate (2 - (lg_sl ([.ref o, .int x1])).length) Slot.unset).toArray = ls at hl ⊢
  have hl : lv_has ls 2 [(0, .ref o), (1, .int x1)] := hl
  generalize hQ : MQ below (vp_Si (fun r => r = out)) args s 0 0 (fun _ => False) = Q
  show W p l e rm_M_noOne s m args below meth c s.heap [] 0 0 Q (F0 m 0 ls [])
  have hret : ∀ (v : Int32) (pc : Nat) (ls : Array Slot), narrow .boolean (.int v) = .int v → some v = some out → decode cX10_noOne pc = .ok (.ireturn, 1) → W p l e rm_M_noOne s m args below meth c s.heap [] 0 0 Q (F0 m pc ls [.int v]) := by
    intro v pc ls hz hf hd
    rw [← hQ]
    exact W.zret (v := v) hx hb hr hz (fun t ht hW => ⟨v, rfl, Option.some.inj hf, ht⟩) (fun q h => by cases h) hd
  unfold M_noOne at hf
  refine lv_iload_n hx hb dX10_noOne_0 rfl (lv_at hl 1 rfl) ?_
  refine lv_i2l (v := x1.toInt64) hx hb dX10_noOne_1 rfl ?_
  refine lv_lconst (v := 0) hx hb dX10_noOne_2 (by decide) ?_
  refine lv_aload_n hx hb dX10_noOne_3 rfl (lv_at hl 0 rfl) ?_
  refine va_get (D := D) (ci := 10) (v := .int (I 4)) (C := RX10) (T := TX10) (N := 38) hx hb hts in_X10 hown hK hP 0 rfl rfl 4 (by decide) g_96 (fun _ h9 => h9) rfl dX10_noOne_4 ?_
  refine lv_iconst (v := 1) hx hb dX10_noOne_7 (by decide) ?_
  refine lv_isub hx hb dX10_noOne_8 ?_
  refine lv_i2l (v := ((I 4) - 1).toInt64) hx hb dX10_noOne_9 rfl ?_
  obtain ⟨zr1, qr1, hf⟩ := bd1 hf
  refine vp_callSi (va_Run.run (va_runS (As := [.long (x1.toInt64), .long 0, .long (((I 4) - 1).toInt64)]) (rest := []) ⟨hx, hb, hml, hown, hts⟩ (c_M_in l (x1.toInt64) 0 (((I 4) - 1).toInt64) f zr1 qr1) w_in_99 ⟨fun a U g mk q => q, fun U hU hW => ⟨rfl, trivial⟩⟩ rfl rfl hl.1 rfl (lv_room (Nat.le_of_ble_eq_true rfl)) dX10_noOne_10 ⟨Nat.zero_le _, Nat.zero_le _⟩)) (fun r1 er1 => ?_)
  rw [er1]
  refine lv_if_ne (tgt := 20) hx hb dX10_noOne_13 (by decide) (fun c13 => ?_) (fun c13 => ?_)
  · replace hf := im c13 hf
    refine lv_iconst (v := 0) hx hb dX10_noOne_20 (by decide) ?_
    exact hret 0 21 _ rfl hf dX10_noOne_21
  · replace hf := ip c13 hf
    refine lv_iconst (v := 1) hx hb dX10_noOne_16 (by decide) ?_
    refine lv_goto (tgt := 21) hx hb dX10_noOne_17 (by decide) ?_
    exact hret 1 21 _ rfl hf dX10_noOne_21
def M_write_L39 {ρ : Type} (f : Nat) (x2 : Int64) (k_39 : FI → FV → Option ρ) : Nat → Int32 → FI → FV → Option ρ
  | 0, _, _, _ => none
  | n_39 + 1, x4_39, Im_39, Vm_39 => (if x4_39 < 0 then (k_39 Im_39 Vm_39) else if (Im_39 2) < 0 ∨ 80 ≤ (Im_39 2).toNatClampNeg then none else ((M_write_L39 f x2 k_39 n_39 (x4_39 + (-1)) (va_up Im_39 2 ((Im_39 2) + 1)) (va_up Vm_39 1 (upd (Vm_39 1) (Im_39 2).toNatClampNeg (((x2 >>> ((8 * x4_39).toInt64 &&& 63)).toInt32) &&& 255))))))
def M_write (f : Nat) (x1 : Int32) (x2 : Int64) (I : FI) (V : FV) : Option (Int32 × FI × FV) := ob1 (M_in f (x1.toInt64) 1 8) (fun zr1 => (if zr1 = 0 then some ((-2), (va_up I 0 0), V) else (if ((I 2) + x1) ≤ 80 then (M_write_L39 f x2 (fun (Im_39 : FI) (Vm_39 : FV) => some ((Im_39 2), Im_39, Vm_39)) f (x1 - 1) (va_up I 0 0) V) else some ((-4), (va_up I 0 0), V))))
abbrev rm_M_write : Room := { frames := 1, cells := 0, slots := 0, locals := 25 }
set_option maxHeartbeats 4000000 in
set_option maxRecDepth 100000 in
theorem c_M_write (l : Launch) (D : va_G) (cs : Nat → ClassId) (o : Nat) (h : Nat → Nat) (sz : Nat) (I : FI) (V : FV) (x1 : Int32) (x2 : Int64) (f : Nat) (out : Int32 × FI × FV) (hf : M_write f x1 x2 I V = some out) : Met l yX10_write wsX10_write rm_M_write (va_Pc [.ref o, .int x1, .long x2] (xP D cs (w_M cs o h I V) sz)) (va_Qi (fun r u => (r, u) = out) (fun (u : FI × FV) t => xA D cs (va_A (w_M cs o h I V) sz) (w_M cs o h u.1 u.2) t) (va_A (w_M cs o h I V) sz)) 0 0 (va_A (w_M cs o h I V) sz) := by
  refine Met.ofW (cc := cX10_write) (maxL := 5) (ret := (some .int)) (by decide) rfl ?_
  intro p e s m args below meth c s₁ B hml hv
  obtain ⟨ha, hsz, hP, hK, hD0⟩ := hv
  have hx := B.exec
  have hb := B.bytes
  have hr := B.returns
  have hts := atoms_spec (ws := wsX10_write) B.pre
  have hown : s.vm.findClass RX10 = some m.cls := findClass_of_methodNamed B.named
  have hlocks := B.notSynchronized
  have in_X10 : ∀ w ∈ u_ws RX10 TX10 38, w ∈ wsX10_write := fun w h => List.mem_cons_of_mem _ (List.mem_append_right _ h)
  have g_92 := hts (.fieldLink RX10 92 "DaysLentModel" "thrown" "I") (by decide +kernel)
  have k_103 := hts (.constantLong RX10 103 (8)) (by decide +kernel)
  have w_in_99 := va_cwS (R := rm_M_write) (s := s) (args := args) (rm := rm_M_in) (mc := 0) (ms := 0) 3 hts gX10_write_X10_in rfl rfl rfl (by decide +kernel) ⟨Nat.le_of_ble_eq_true rfl, Nat.le_of_ble_eq_true rfl⟩
  have g_105 := hts (.fieldLink RX10 105 "DaysLentModel" "textSize" "I") (by decide +kernel)
  have g_7 := hts (.fieldLink RX10 7 "DaysLentModel" "text" "[I") (by decide +kernel)
  subst hsz
  have hD := hD0.self (sz := s.heap.size)
  generalize hAe : va_A (w_M cs o h I V) s.heap.size = A at hD ⊢
  have hA : ∀ q : Nat, s.heap.size ≤ q → A q := fun q h => by rw [← hAe]; exact Or.inr h
  have hS : va_S A s.heap s.heap [] := va_S.rf
  have hl := lv_entry ([.ref o, .int x1, .long x2]) (n := 5) (Nat.le_of_ble_eq_true rfl)
  rw [show entryFrame m args 5 = entryFrame m ([.ref o, .int x1, .long x2] : List Value).toArray 5 from by rw [ha], lg_entry_eq]
  generalize (lg_sl ([.ref o, .int x1, .long x2]) ++ List.replicate (5 - (lg_sl ([.ref o, .int x1, .long x2])).length) Slot.unset).toArray = ls at hl ⊢
  have hl : lv_has ls 5 [(0, .ref o), (1, .int x1), (2, .long x2)] := hl
  generalize hQ : MQ below (va_Qi (fun r u => (r, u) = out) (fun (u : FI × FV) t => xA D cs A (w_M cs o h u.1 u.2) t) A) args s 0 0 A = Q
  show W p l e rm_M_write s m args below meth c s.heap [] 0 0 Q (F0 m 0 ls [])
  have hret : ∀ (v : Int32) (Im9 : FI) (Vm9 : FV) (H : Heap) (locs : List Loc) (pc : Nat) (ls : Array Slot), some (v, Im9, Vm9) = some out → va_P D vwCl (w_M cs o h Im9 Vm9) H → va_D A (w_M cs o h Im9 Vm9) → va_S A s.heap H locs → decode cX10_write pc = .ok (.ireturn, 1) → W p l e rm_M_write s m args below meth c H locs 0 0 Q (F0 m pc ls [.int v]) := by
    intro v Im9 Vm9 H locs pc ls hf hP hD hS hd
    rw [← hQ]
    exact W.iret (v := v) hx hb hr (fun t ht hW => ⟨⟨v, (Im9, Vm9), rfl, Option.some.inj hf, by show va_P D vwCl (w_M cs o h Im9 Vm9) t.heap; rw [ht]; exact hP, va_K.moved hW.alike hK, hD⟩, hS.F ht⟩) hS.2.2 hd
  unfold M_write at hf
  refine lv_aload_n hx hb dX10_write_0 rfl (lv_at hl 0 rfl) ?_
  refine lv_iconst (v := 0) hx hb dX10_write_1 (by decide) ?_
  refine va_put (D := D) (ci := 10) (v := .int 0) (ty := .int) (C := RX10) (T := TX10) (N := 38) hx hb hts in_X10 tyX10 tyX10_ok nmX10 hown hK hP hD hS 0 rfl rfl 0 (by decide) g_92 (fun _ h9 => h9) rfl (by decide +kernel) rfl rfl (Nat.le_of_ble_eq_true rfl) dX10_write_2 (fun H locs hP hD hS => ?_)
  have hP : va_P D vwCl (w_M cs o h (va_up I 0 0) V) H := hP
  have hD : va_D A (w_M cs o h (va_up I 0 0) V) := hD
  refine lv_iload_n hx hb dX10_write_5 rfl (lv_at hl 1 rfl) ?_
  refine lv_i2l (v := x1.toInt64) hx hb dX10_write_6 rfl ?_
  refine lv_lconst (v := 1) hx hb dX10_write_7 (by decide) ?_
  refine lv_ldc2 (v := 8) hx hb hown k_103 dX10_write_8 ?_
  obtain ⟨zr1, qr1, hf⟩ := bd1 hf
  refine vp_callSi (va_Run.run (va_runS (As := [.long (x1.toInt64), .long 1, .long 8]) (rest := []) ⟨hx, hb, hml, hown, hts⟩ (c_M_in l (x1.toInt64) 1 8 f zr1 qr1) w_in_99 ⟨fun a U g mk q => q, fun U hU hW => ⟨rfl, trivial⟩⟩ rfl rfl hl.1 rfl (lv_room (Nat.le_of_ble_eq_true rfl)) dX10_write_11 ⟨Nat.zero_le _, Nat.zero_le _⟩)) (fun r1 er1 => ?_)
  rw [er1]
  refine lv_if_ne (tgt := 20) hx hb dX10_write_14 (by decide) (fun c14 => ?_) (fun c14 => ?_)
  · replace hf := im c14 hf
    refine lv_aload_n hx hb dX10_write_20 rfl (lv_at hl 0 rfl) ?_
    refine va_get (D := D) (ci := 10) (v := .int (I 2)) (C := RX10) (T := TX10) (N := 38) hx hb hts in_X10 hown hK hP 0 rfl rfl 2 (by decide) g_105 (fun _ h9 => h9) rfl dX10_write_21 ?_
    refine lv_iload_n hx hb dX10_write_24 rfl (lv_at hl 1 rfl) ?_
    refine lv_iadd hx hb dX10_write_25 ?_
    refine lv_bipush (v := 80) hx hb dX10_write_26 (by decide) ?_
    refine lv_icmp_le (tgt := 34) hx hb dX10_write_28 (by decide) (fun c28 => ?_) (fun c28 => ?_)
    · replace hf := ip c28 hf
      refine lv_iload_n hx hb dX10_write_34 rfl (lv_at hl 1 rfl) ?_
      refine lv_iconst (v := 1) hx hb dX10_write_35 (by decide) ?_
      refine lv_isub hx hb dX10_write_36 ?_
      refine lv_istore (lv' := [(4, .int (x1 - 1)), (0, .ref o), (1, .int x1), (2, .long x2)]) hx hb dX10_write_37 hl (by decide) rfl (fun ls hl => ?_)
      have L39 : ∀ (k_39 : FI → FV → Option (Int32 × FI × FV)) (hk_39 : ∀ (Im_39 : FI) (Vm_39 : FV), k_39 Im_39 Vm_39 = some out → ∀ (H : Heap) (locs : List Loc), va_P D vwCl (w_M cs o h Im_39 Vm_39) H → va_D A (w_M cs o h Im_39 Vm_39) → va_S A s.heap H locs → ∀ ls : Array Slot, lv_has ls 5 [(0, .ref o)] → W p l e rm_M_write s m args below meth c H locs 0 0 Q (F0 m 81 ls [])), ∀ (n_39 : Nat) (x4_39 : Int32) (Im_39 : FI) (Vm_39 : FV), M_write_L39 f x2 k_39 n_39 x4_39 Im_39 Vm_39 = some out → ∀ (H : Heap) (locs : List Loc), va_P D vwCl (w_M cs o h Im_39 Vm_39) H → va_D A (w_M cs o h Im_39 Vm_39) → va_S A s.heap H locs → ∀ ls : Array Slot, lv_has ls 5 [(0, .ref o), (2, .long x2), (4, .int x4_39)] → W p l e rm_M_write s m args below meth c H locs 0 0 Q (F0 m 39 ls []) := by
        intro k_39 hk_39 n_39
        induction n_39 with
        | zero => intro x4_39 Im_39 Vm_39 hf; rw [M_write_L39] at hf; cases hf
        | succ n_39 ih_39 =>
          intro x4_39 Im_39 Vm_39 hf H locs hP hD hS ls hl
          rw [M_write_L39] at hf
          refine lv_iload hx hb dX10_write_39 (lv_at hl 2 rfl) ?_
          refine lv_if_lt (tgt := 81) hx hb dX10_write_41 (by decide) (fun c41 => ?_) (fun c41 => ?_)
          · replace hf := ip c41 hf
            exact hk_39 Im_39 Vm_39 hf _ _ hP hD hS _ (lv_sub hl [0] rfl)
          · replace hf := im c41 hf
            refine lv_aload_n hx hb dX10_write_44 rfl (lv_at hl 0 rfl) ?_
            refine va_get (D := D) (ci := 10) (v := .ref (h 1)) (C := RX10) (T := TX10) (N := 38) hx hb hts in_X10 hown hK hP 0 rfl rfl 1 (by decide) g_7 (fun _ h9 => h9) rfl dX10_write_45 ?_
            refine lv_aload_n hx hb dX10_write_48 rfl (lv_at hl 0 rfl) ?_
            refine va_get (D := D) (ci := 10) (v := .int (Im_39 2)) (C := RX10) (T := TX10) (N := 38) hx hb hts in_X10 hown hK hP 0 rfl rfl 2 (by decide) g_105 (fun _ h9 => h9) rfl dX10_write_49 ?_
            refine lv_lload_n hx hb dX10_write_52 rfl (lv_at hl 1 rfl) ?_
            refine lv_bipush (v := 8) hx hb dX10_write_53 (by decide) ?_
            refine lv_iload hx hb dX10_write_55 (lv_at hl 2 rfl) ?_
            refine lv_imul hx hb dX10_write_57 ?_
            refine lv_lshr (v := (x2 >>> ((8 * x4_39).toInt64 &&& 63))) hx hb dX10_write_58 rfl ?_
            refine lv_l2i (v := (x2 >>> ((8 * x4_39).toInt64 &&& 63)).toInt32) hx hb dX10_write_59 rfl ?_
            refine lv_sipush (v := 255) hx hb dX10_write_60 (by decide) ?_
            refine lv_iand hx hb dX10_write_63 ?_
            obtain ⟨c64, hf⟩ := gd hf
            refine va_iast hx hb hK hP hD hS 1 0 rfl rfl c64 dX10_write_64 (fun H locs hP hD hS => ?_)
            have hP : va_P D vwCl (w_M cs o h Im_39 (va_up Vm_39 1 (upd (Vm_39 1) (Im_39 2).toNatClampNeg (((x2 >>> ((8 * x4_39).toInt64 &&& 63)).toInt32) &&& 255)))) H := hP
            have hD : va_D A (w_M cs o h Im_39 (va_up Vm_39 1 (upd (Vm_39 1) (Im_39 2).toNatClampNeg (((x2 >>> ((8 * x4_39).toInt64 &&& 63)).toInt32) &&& 255)))) := hD
            refine lv_aload_n hx hb dX10_write_65 rfl (lv_at hl 0 rfl) ?_
            refine lv_dup hx hb dX10_write_66 rfl ?_
            refine va_get (D := D) (ci := 10) (v := .int (Im_39 2)) (C := RX10) (T := TX10) (N := 38) hx hb hts in_X10 hown hK hP 0 rfl rfl 2 (by decide) g_105 (fun _ h9 => h9) rfl dX10_write_67 ?_
            refine lv_iconst (v := 1) hx hb dX10_write_70 (by decide) ?_
            refine lv_iadd hx hb dX10_write_71 ?_
            refine va_put (D := D) (ci := 10) (v := .int ((Im_39 2) + 1)) (ty := .int) (C := RX10) (T := TX10) (N := 38) hx hb hts in_X10 tyX10 tyX10_ok nmX10 hown hK hP hD hS 0 rfl rfl 2 (by decide) g_105 (fun _ h9 => h9) rfl (by decide +kernel) rfl rfl (Nat.le_of_ble_eq_true rfl) dX10_write_72 (fun H locs hP hD hS => ?_)
            have hP : va_P D vwCl (w_M cs o h (va_up Im_39 2 ((Im_39 2) + 1)) (va_up Vm_39 1 (upd (Vm_39 1) (Im_39 2).toNatClampNeg (((x2 >>> ((8 * x4_39).toInt64 &&& 63)).toInt32) &&& 255)))) H := hP
            have hD : va_D A (w_M cs o h (va_up Im_39 2 ((Im_39 2) + 1)) (va_up Vm_39 1 (upd (Vm_39 1) (Im_39 2).toNatClampNeg (((x2 >>> ((8 * x4_39).toInt64 &&& 63)).toInt32) &&& 255)))) := hD
            refine lv_iinc (v := (x4_39 + (-1))) (lv' := [(4, .int (x4_39 + (-1))), (0, .ref o), (2, .long x2)]) hx hb dX10_write_75 hl (k := 2) rfl (by rfl) (by decide) rfl (fun ls hl => ?_)
            refine lv_goto (tgt := 39) hx hb dX10_write_78 (by decide) ?_
            exact ih_39 (x4_39 + (-1)) (va_up Im_39 2 ((Im_39 2) + 1)) (va_up Vm_39 1 (upd (Vm_39 1) (Im_39 2).toNatClampNeg (((x2 >>> ((8 * x4_39).toInt64 &&& 63)).toInt32) &&& 255))) hf _ _ hP hD hS _ (lv_sub hl [1, 2, 0] rfl)
      refine L39 _ (fun Im_39 Vm_39 hf H locs hP hD hS ls hl => ?_) f (x1 - 1) (va_up I 0 0) V hf _ _ hP hD hS _ (lv_sub hl [1, 3, 0] rfl)
      refine lv_aload_n hx hb dX10_write_81 rfl (lv_at hl 0 rfl) ?_
      refine va_get (D := D) (ci := 10) (v := .int (Im_39 2)) (C := RX10) (T := TX10) (N := 38) hx hb hts in_X10 hown hK hP 0 rfl rfl 2 (by decide) g_105 (fun _ h9 => h9) rfl dX10_write_82 ?_
      exact hret (Im_39 2) Im_39 Vm_39 _ _ 85 _ hf hP hD hS dX10_write_85
    · replace hf := im c28 hf
      refine lv_bipush (v := (-4)) hx hb dX10_write_31 (by decide) ?_
      exact hret (-4) (va_up I 0 0) V _ _ 33 _ hf hP hD hS dX10_write_33
  · replace hf := ip c14 hf
    refine lv_bipush (v := (-2)) hx hb dX10_write_17 (by decide) ?_
    exact hret (-2) (va_up I 0 0) V _ _ 19 _ hf hP hD hS dX10_write_19
def M_wipe (f : Nat) (I : FI) (V : FV) : Option (Int32 × FI × FV) := some ((I 2), (va_up (va_up I 0 0) 2 0), V)
abbrev rm_M_wipe : Room := { frames := 0, cells := 0, slots := 0, locals := 0 }
set_option maxHeartbeats 4000000 in
set_option maxRecDepth 100000 in
theorem c_M_wipe (l : Launch) (D : va_G) (cs : Nat → ClassId) (o : Nat) (h : Nat → Nat) (sz : Nat) (I : FI) (V : FV) (f : Nat) (out : Int32 × FI × FV) (hf : M_wipe f I V = some out) : Met l yX10_wipe wsX10_wipe rm_M_wipe (va_Pc [.ref o] (xP D cs (w_M cs o h I V) sz)) (va_Qi (fun r u => (r, u) = out) (fun (u : FI × FV) t => xA D cs (va_A (w_M cs o h I V) sz) (w_M cs o h u.1 u.2) t) (va_A (w_M cs o h I V) sz)) 0 0 (va_A (w_M cs o h I V) sz) := by
  refine Met.ofW (cc := cX10_wipe) (maxL := 2) (ret := (some .int)) (by decide) rfl ?_
  intro p e s m args below meth c s₁ B hml hv
  obtain ⟨ha, hsz, hP, hK, hD0⟩ := hv
  have hx := B.exec
  have hb := B.bytes
  have hr := B.returns
  have hts := atoms_spec (ws := wsX10_wipe) B.pre
  have hown : s.vm.findClass RX10 = some m.cls := findClass_of_methodNamed B.named
  have hlocks := B.notSynchronized
  have in_X10 : ∀ w ∈ u_ws RX10 TX10 38, w ∈ wsX10_wipe := fun w h => List.mem_cons_of_mem _ (List.mem_append_right _ h)
  have g_92 := hts (.fieldLink RX10 92 "DaysLentModel" "thrown" "I") (by decide +kernel)
  have g_105 := hts (.fieldLink RX10 105 "DaysLentModel" "textSize" "I") (by decide +kernel)
  subst hsz
  have hD := hD0.self (sz := s.heap.size)
  generalize hAe : va_A (w_M cs o h I V) s.heap.size = A at hD ⊢
  have hA : ∀ q : Nat, s.heap.size ≤ q → A q := fun q h => by rw [← hAe]; exact Or.inr h
  have hS : va_S A s.heap s.heap [] := va_S.rf
  have hl := lv_entry ([.ref o]) (n := 2) (Nat.le_of_ble_eq_true rfl)
  rw [show entryFrame m args 2 = entryFrame m ([.ref o] : List Value).toArray 2 from by rw [ha], lg_entry_eq]
  generalize (lg_sl ([.ref o]) ++ List.replicate (2 - (lg_sl ([.ref o])).length) Slot.unset).toArray = ls at hl ⊢
  have hl : lv_has ls 2 [(0, .ref o)] := hl
  generalize hQ : MQ below (va_Qi (fun r u => (r, u) = out) (fun (u : FI × FV) t => xA D cs A (w_M cs o h u.1 u.2) t) A) args s 0 0 A = Q
  show W p l e rm_M_wipe s m args below meth c s.heap [] 0 0 Q (F0 m 0 ls [])
  have hret : ∀ (v : Int32) (Im9 : FI) (Vm9 : FV) (H : Heap) (locs : List Loc) (pc : Nat) (ls : Array Slot), some (v, Im9, Vm9) = some out → va_P D vwCl (w_M cs o h Im9 Vm9) H → va_D A (w_M cs o h Im9 Vm9) → va_S A s.heap H locs → decode cX10_wipe pc = .ok (.ireturn, 1) → W p l e rm_M_wipe s m args below meth c H locs 0 0 Q (F0 m pc ls [.int v]) := by
    intro v Im9 Vm9 H locs pc ls hf hP hD hS hd
    rw [← hQ]
    exact W.iret (v := v) hx hb hr (fun t ht hW => ⟨⟨v, (Im9, Vm9), rfl, Option.some.inj hf, by show va_P D vwCl (w_M cs o h Im9 Vm9) t.heap; rw [ht]; exact hP, va_K.moved hW.alike hK, hD⟩, hS.F ht⟩) hS.2.2 hd
  unfold M_wipe at hf
  refine lv_aload_n hx hb dX10_wipe_0 rfl (lv_at hl 0 rfl) ?_
  refine lv_iconst (v := 0) hx hb dX10_wipe_1 (by decide) ?_
  refine va_put (D := D) (ci := 10) (v := .int 0) (ty := .int) (C := RX10) (T := TX10) (N := 38) hx hb hts in_X10 tyX10 tyX10_ok nmX10 hown hK hP hD hS 0 rfl rfl 0 (by decide) g_92 (fun _ h9 => h9) rfl (by decide +kernel) rfl rfl (Nat.le_of_ble_eq_true rfl) dX10_wipe_2 (fun H locs hP hD hS => ?_)
  have hP : va_P D vwCl (w_M cs o h (va_up I 0 0) V) H := hP
  have hD : va_D A (w_M cs o h (va_up I 0 0) V) := hD
  refine lv_aload_n hx hb dX10_wipe_5 rfl (lv_at hl 0 rfl) ?_
  refine va_get (D := D) (ci := 10) (v := .int (I 2)) (C := RX10) (T := TX10) (N := 38) hx hb hts in_X10 hown hK hP 0 rfl rfl 2 (by decide) g_105 (fun _ h9 => h9) rfl dX10_wipe_6 ?_
  refine lv_istore_n (lv' := [(1, .int (I 2)), (0, .ref o)]) hx hb dX10_wipe_9 rfl hl (by decide) rfl (fun ls hl => ?_)
  refine lv_aload_n hx hb dX10_wipe_10 rfl (lv_at hl 1 rfl) ?_
  refine lv_iconst (v := 0) hx hb dX10_wipe_11 (by decide) ?_
  refine va_put (D := D) (ci := 10) (v := .int 0) (ty := .int) (C := RX10) (T := TX10) (N := 38) hx hb hts in_X10 tyX10 tyX10_ok nmX10 hown hK hP hD hS 0 rfl rfl 2 (by decide) g_105 (fun _ h9 => h9) rfl (by decide +kernel) rfl rfl (Nat.le_of_ble_eq_true rfl) dX10_wipe_12 (fun H locs hP hD hS => ?_)
  have hP : va_P D vwCl (w_M cs o h (va_up (va_up I 0 0) 2 0) V) H := hP
  have hD : va_D A (w_M cs o h (va_up (va_up I 0 0) 2 0) V) := hD
  refine lv_iload_n hx hb dX10_wipe_15 rfl (lv_at hl 0 rfl) ?_
  exact hret (I 2) (va_up (va_up I 0 0) 2 0) V _ _ 16 _ hf hP hD hS dX10_wipe_16
def M_figure (f : Nat) (x1 : Int32) (x2 : Int32) (I : FI) (V : FV) : Option (Int32 × FI × FV) := (if (I 3) = (I 2) then some ((-9), I, V) else if (I 3) < 0 ∨ 80 ≤ (I 3).toNatClampNeg then none else (ob1 (M_in f ((((V 1) (I 3).toNatClampNeg) - 48).toInt64) (x1.toInt64) (x2.toInt64)) (fun zr1 => (if zr1 = 0 then some ((-9), I, V) else if (((I 3) + 1) - 1) < 0 ∨ 80 ≤ (((I 3) + 1) - 1).toNatClampNeg then none else (some ((((V 1) (((I 3) + 1) - 1).toNatClampNeg) - 48), (va_up I 3 ((I 3) + 1)), V))))))
abbrev rm_M_figure : Room := { frames := 1, cells := 0, slots := 0, locals := 25 }
set_option maxHeartbeats 4000000 in
set_option maxRecDepth 100000 in
theorem c_M_figure (l : Launch) (D : va_G) (cs : Nat → ClassId) (o : Nat) (h : Nat → Nat) (sz : Nat) (I : FI) (V : FV) (x1 : Int32) (x2 : Int32) (f : Nat) (out : Int32 × FI × FV) (hf : M_figure f x1 x2 I V = some out) : Met l yX10_figure wsX10_figure rm_M_figure (va_Pc [.ref o, .int x1, .int x2] (xP D cs (w_M cs o h I V) sz)) (va_Qi (fun r u => (r, u) = out) (fun (u : FI × FV) t => xA D cs (va_A (w_M cs o h I V) sz) (w_M cs o h u.1 u.2) t) (va_A (w_M cs o h I V) sz)) 0 0 (va_A (w_M cs o h I V) sz) := by
  refine Met.ofW (cc := cX10_figure) (maxL := 3) (ret := (some .int)) (by decide) rfl ?_
  intro p e s m args below meth c s₁ B hml hv
  obtain ⟨ha, hsz, hP, hK, hD0⟩ := hv
  have hx := B.exec
  have hb := B.bytes
  have hr := B.returns
  have hts := atoms_spec (ws := wsX10_figure) B.pre
  have hown : s.vm.findClass RX10 = some m.cls := findClass_of_methodNamed B.named
  have hlocks := B.notSynchronized
  have in_X10 : ∀ w ∈ u_ws RX10 TX10 38, w ∈ wsX10_figure := fun w h => List.mem_cons_of_mem _ (List.mem_append_right _ h)
  have g_108 := hts (.fieldLink RX10 108 "DaysLentModel" "place" "I") (by decide +kernel)
  have g_105 := hts (.fieldLink RX10 105 "DaysLentModel" "textSize" "I") (by decide +kernel)
  have g_7 := hts (.fieldLink RX10 7 "DaysLentModel" "text" "[I") (by decide +kernel)
  have w_in_99 := va_cwS (R := rm_M_figure) (s := s) (args := args) (rm := rm_M_in) (mc := 0) (ms := 0) 3 hts gX10_figure_X10_in rfl rfl rfl (by decide +kernel) ⟨Nat.le_of_ble_eq_true rfl, Nat.le_of_ble_eq_true rfl⟩
  subst hsz
  have hD := hD0.self (sz := s.heap.size)
  generalize hAe : va_A (w_M cs o h I V) s.heap.size = A at hD ⊢
  have hA : ∀ q : Nat, s.heap.size ≤ q → A q := fun q h => by rw [← hAe]; exact Or.inr h
  have hS : va_S A s.heap s.heap [] := va_S.rf
  have hl := lv_entry ([.ref o, .int x1, .int x2]) (n := 3) (Nat.le_of_ble_eq_true rfl)
  rw [show entryFrame m args 3 = entryFrame m ([.ref o, .int x1, .int x2] : List Value).toArray 3 from by rw [ha], lg_entry_eq]
  generalize (lg_sl ([.ref o, .int x1, .int x2]) ++ List.replicate (3 - (lg_sl ([.ref o, .int x1, .int x2])).length) Slot.unset).toArray = ls at hl ⊢
  have hl : lv_has ls 3 [(0, .ref o), (1, .int x1), (2, .int x2)] := hl
  generalize hQ : MQ below (va_Qi (fun r u => (r, u) = out) (fun (u : FI × FV) t => xA D cs A (w_M cs o h u.1 u.2) t) A) args s 0 0 A = Q
  show W p l e rm_M_figure s m args below meth c s.heap [] 0 0 Q (F0 m 0 ls [])
  have hret : ∀ (v : Int32) (Im9 : FI) (Vm9 : FV) (H : Heap) (locs : List Loc) (pc : Nat) (ls : Array Slot), some (v, Im9, Vm9) = some out → va_P D vwCl (w_M cs o h Im9 Vm9) H → va_D A (w_M cs o h Im9 Vm9) → va_S A s.heap H locs → decode cX10_figure pc = .ok (.ireturn, 1) → W p l e rm_M_figure s m args below meth c H locs 0 0 Q (F0 m pc ls [.int v]) := by
    intro v Im9 Vm9 H locs pc ls hf hP hD hS hd
    rw [← hQ]
    exact W.iret (v := v) hx hb hr (fun t ht hW => ⟨⟨v, (Im9, Vm9), rfl, Option.some.inj hf, by show va_P D vwCl (w_M cs o h Im9 Vm9) t.heap; rw [ht]; exact hP, va_K.moved hW.alike hK, hD⟩, hS.F ht⟩) hS.2.2 hd
  unfold M_figure at hf
  refine lv_aload_n hx hb dX10_figure_0 rfl (lv_at hl 0 rfl) ?_
  refine va_get (D := D) (ci := 10) (v := .int (I 3)) (C := RX10) (T := TX10) (N := 38) hx hb hts in_X10 hown hK hP 0 rfl rfl 3 (by decide) g_108 (fun _ h9 => h9) rfl dX10_figure_1 ?_
  refine lv_aload_n hx hb dX10_figure_4 rfl (lv_at hl 0 rfl) ?_
  refine va_get (D := D) (ci := 10) (v := .int (I 2)) (C := RX10) (T := TX10) (N := 38) hx hb hts in_X10 hown hK hP 0 rfl rfl 2 (by decide) g_105 (fun _ h9 => h9) rfl dX10_figure_5 ?_
  refine lv_icmp_eq (tgt := 34) hx hb dX10_figure_8 (by decide) (fun c8 => ?_) (fun c8 => ?_)
  · replace hf := ip c8 hf
    refine lv_bipush (v := (-9)) hx hb dX10_figure_34 (by decide) ?_
    exact hret (-9) I V _ _ 36 _ hf hP hD hS dX10_figure_36
  · replace hf := im c8 hf
    refine lv_aload_n hx hb dX10_figure_11 rfl (lv_at hl 0 rfl) ?_
    refine va_get (D := D) (ci := 10) (v := .ref (h 1)) (C := RX10) (T := TX10) (N := 38) hx hb hts in_X10 hown hK hP 0 rfl rfl 1 (by decide) g_7 (fun _ h9 => h9) rfl dX10_figure_12 ?_
    refine lv_aload_n hx hb dX10_figure_15 rfl (lv_at hl 0 rfl) ?_
    refine va_get (D := D) (ci := 10) (v := .int (I 3)) (C := RX10) (T := TX10) (N := 38) hx hb hts in_X10 hown hK hP 0 rfl rfl 3 (by decide) g_108 (fun _ h9 => h9) rfl dX10_figure_16 ?_
    obtain ⟨c19, hf⟩ := gd hf
    refine va_iald hx hb hK hP 1 0 rfl rfl c19 dX10_figure_19 ?_
    refine lv_bipush (v := 48) hx hb dX10_figure_20 (by decide) ?_
    refine lv_isub hx hb dX10_figure_22 ?_
    refine lv_i2l (v := (((V 1) (I 3).toNatClampNeg) - 48).toInt64) hx hb dX10_figure_23 rfl ?_
    refine lv_iload_n hx hb dX10_figure_24 rfl (lv_at hl 1 rfl) ?_
    refine lv_i2l (v := x1.toInt64) hx hb dX10_figure_25 rfl ?_
    refine lv_iload_n hx hb dX10_figure_26 rfl (lv_at hl 2 rfl) ?_
    refine lv_i2l (v := x2.toInt64) hx hb dX10_figure_27 rfl ?_
    obtain ⟨zr1, qr1, hf⟩ := bd1 hf
    refine vp_callSi (va_Run.run (va_runS (As := [.long ((((V 1) (I 3).toNatClampNeg) - 48).toInt64), .long (x1.toInt64), .long (x2.toInt64)]) (rest := []) ⟨hx, hb, hml, hown, hts⟩ (c_M_in l ((((V 1) (I 3).toNatClampNeg) - 48).toInt64) (x1.toInt64) (x2.toInt64) f zr1 qr1) w_in_99 ⟨fun a U g mk q => q, fun U hU hW => ⟨rfl, trivial⟩⟩ rfl rfl hl.1 rfl (lv_room (Nat.le_of_ble_eq_true rfl)) dX10_figure_28 ⟨Nat.zero_le _, Nat.zero_le _⟩)) (fun r1 er1 => ?_)
    rw [er1]
    refine lv_if_ne (tgt := 37) hx hb dX10_figure_31 (by decide) (fun c31 => ?_) (fun c31 => ?_)
    · replace hf := im c31 hf
      refine lv_aload_n hx hb dX10_figure_37 rfl (lv_at hl 0 rfl) ?_
      refine lv_dup hx hb dX10_figure_38 rfl ?_
      refine va_get (D := D) (ci := 10) (v := .int (I 3)) (C := RX10) (T := TX10) (N := 38) hx hb hts in_X10 hown hK hP 0 rfl rfl 3 (by decide) g_108 (fun _ h9 => h9) rfl dX10_figure_39 ?_
      refine lv_iconst (v := 1) hx hb dX10_figure_42 (by decide) ?_
      refine lv_iadd hx hb dX10_figure_43 ?_
      refine va_put (D := D) (ci := 10) (v := .int ((I 3) + 1)) (ty := .int) (C := RX10) (T := TX10) (N := 38) hx hb hts in_X10 tyX10 tyX10_ok nmX10 hown hK hP hD hS 0 rfl rfl 3 (by decide) g_108 (fun _ h9 => h9) rfl (by decide +kernel) rfl rfl (Nat.le_of_ble_eq_true rfl) dX10_figure_44 (fun H locs hP hD hS => ?_)
      have hP : va_P D vwCl (w_M cs o h (va_up I 3 ((I 3) + 1)) V) H := hP
      have hD : va_D A (w_M cs o h (va_up I 3 ((I 3) + 1)) V) := hD
      refine lv_aload_n hx hb dX10_figure_47 rfl (lv_at hl 0 rfl) ?_
      refine va_get (D := D) (ci := 10) (v := .ref (h 1)) (C := RX10) (T := TX10) (N := 38) hx hb hts in_X10 hown hK hP 0 rfl rfl 1 (by decide) g_7 (fun _ h9 => h9) rfl dX10_figure_48 ?_
      refine lv_aload_n hx hb dX10_figure_51 rfl (lv_at hl 0 rfl) ?_
      refine va_get (D := D) (ci := 10) (v := .int ((I 3) + 1)) (C := RX10) (T := TX10) (N := 38) hx hb hts in_X10 hown hK hP 0 rfl rfl 3 (by decide) g_108 (fun _ h9 => h9) rfl dX10_figure_52 ?_
      refine lv_iconst (v := 1) hx hb dX10_figure_55 (by decide) ?_
      refine lv_isub hx hb dX10_figure_56 ?_
      obtain ⟨c57, hf⟩ := gd hf
      refine va_iald hx hb hK hP 1 0 rfl rfl c57 dX10_figure_57 ?_
      refine lv_bipush (v := 48) hx hb dX10_figure_58 (by decide) ?_
      refine lv_isub hx hb dX10_figure_60 ?_
      exact hret (((V 1) (((I 3) + 1) - 1).toNatClampNeg) - 48) (va_up I 3 ((I 3) + 1)) V _ _ 61 _ hf hP hD hS dX10_figure_61
    · replace hf := ip c31 hf
      refine lv_bipush (v := (-9)) hx hb dX10_figure_34 (by decide) ?_
      exact hret (-9) I V _ _ 36 _ hf hP hD hS dX10_figure_36
def M_readPerson (f : Nat) (I : FI) (V : FV) : Option (Int32 × FI × FV) := ob3 (M_figure f 0 9 I V) (fun zr1 I2 V3 => (nm (fun (t0_26 : Int32) (Im_26 : FI) (Vm_26 : FV) => (nm (fun (t0_45 : Int32) (Im_45 : FI) (Vm_45 : FV) => (if t0_45 = (-9) then some (0, Im_45, Vm_45) else if (Im_45 15) < 0 ∨ 6 ≤ (Im_45 15).toNatClampNeg then none else (if (Im_45 15) < 0 ∨ 6 ≤ (Im_45 15).toNatClampNeg then none else (some (1, (va_up Im_45 15 ((Im_45 15) + 1)), (va_up (va_up Vm_45 17 (upd (Vm_45 17) (Im_45 15).toNatClampNeg ((10 * zr1) + t0_26))) 18 (upd (Vm_45 18) (Im_45 15).toNatClampNeg t0_45))))))) (fun j45 => (if t0_26 = (-9) then (j45 (-9) Im_26 Vm_26) else ob3 (M_figure f 0 9 Im_26 Vm_26) (fun zr4 I5 V6 => (j45 zr4 I5 V6)))))) (fun j26 => (if zr1 = (-9) then (j26 (-9) I2 V3) else ob3 (M_figure f 0 9 I2 V3) (fun zr7 I8 V9 => (j26 zr7 I8 V9))))))
abbrev rm_M_readPerson : Room := { frames := 2, cells := 0, slots := 0, locals := 47 }
set_option maxHeartbeats 4000000 in
set_option maxRecDepth 100000 in
theorem c_M_readPerson (l : Launch) (D : va_G) (cs : Nat → ClassId) (o : Nat) (h : Nat → Nat) (sz : Nat) (I : FI) (V : FV) (f : Nat) (out : Int32 × FI × FV) (hf : M_readPerson f I V = some out) : Met l yX10_readPerson wsX10_readPerson rm_M_readPerson (va_Pc [.ref o] (xP D cs (w_M cs o h I V) sz)) (va_Qi (fun r u => (r, u) = out) (fun (u : FI × FV) t => xA D cs (va_A (w_M cs o h I V) sz) (w_M cs o h u.1 u.2) t) (va_A (w_M cs o h I V) sz)) 0 0 (va_A (w_M cs o h I V) sz) := by
  refine Met.ofW (cc := cX10_readPerson) (maxL := 4) (ret := (some .boolean)) (by decide) rfl ?_
  intro p e s m args below meth c s₁ B hml hv
  obtain ⟨ha, hsz, hP, hK, hD0⟩ := hv
  have hx := B.exec
  have hb := B.bytes
  have hr := B.returns
  have hts := atoms_spec (ws := wsX10_readPerson) B.pre
  have hown : s.vm.findClass RX10 = some m.cls := findClass_of_methodNamed B.named
  have hlocks := B.notSynchronized
  have in_X10 : ∀ w ∈ u_ws RX10 TX10 38, w ∈ wsX10_readPerson := fun w h => List.mem_cons_of_mem _ (List.mem_append_right _ h)
  have w_figure_111 := cwV (R := rm_M_readPerson) (s := s) (args := args) (rm := rm_M_figure) (mc := 0) (ms := 0) 2 hts gX10_readPerson_X10_figure rfl rfl rfl (by decide +kernel) ⟨Nat.le_of_ble_eq_true rfl, Nat.le_of_ble_eq_true rfl⟩
  have g_38 := hts (.fieldLink RX10 38 "DaysLentModel" "readMornings" "[I") (by decide +kernel)
  have g_115 := hts (.fieldLink RX10 115 "DaysLentModel" "readPeople" "I") (by decide +kernel)
  have g_41 := hts (.fieldLink RX10 41 "DaysLentModel" "readAsks" "[I") (by decide +kernel)
  subst hsz
  have hD := hD0.self (sz := s.heap.size)
  generalize hAe : va_A (w_M cs o h I V) s.heap.size = A at hD ⊢
  have hA : ∀ q : Nat, s.heap.size ≤ q → A q := fun q h => by rw [← hAe]; exact Or.inr h
  have hS : va_S A s.heap s.heap [] := va_S.rf
  have hl := lv_entry ([.ref o]) (n := 4) (Nat.le_of_ble_eq_true rfl)
  rw [show entryFrame m args 4 = entryFrame m ([.ref o] : List Value).toArray 4 from by rw [ha], lg_entry_eq]
  generalize (lg_sl ([.ref o]) ++ List.replicate (4 - (lg_sl ([.ref o])).length) Slot.unset).toArray = ls at hl ⊢
  have hl : lv_has ls 4 [(0, .ref o)] := hl
  generalize hQ : MQ below (va_Qi (fun r u => (r, u) = out) (fun (u : FI × FV) t => xA D cs A (w_M cs o h u.1 u.2) t) A) args s 0 0 A = Q
  show W p l e rm_M_readPerson s m args below meth c s.heap [] 0 0 Q (F0 m 0 ls [])
  have hret : ∀ (v : Int32) (Im9 : FI) (Vm9 : FV) (H : Heap) (locs : List Loc) (pc : Nat) (ls : Array Slot), narrow .boolean (.int v) = .int v → some (v, Im9, Vm9) = some out → va_P D vwCl (w_M cs o h Im9 Vm9) H → va_D A (w_M cs o h Im9 Vm9) → va_S A s.heap H locs → decode cX10_readPerson pc = .ok (.ireturn, 1) → W p l e rm_M_readPerson s m args below meth c H locs 0 0 Q (F0 m pc ls [.int v]) := by
    intro v Im9 Vm9 H locs pc ls hz hf hP hD hS hd
    rw [← hQ]
    exact W.zret (v := v) hx hb hr hz (fun t ht hW => ⟨⟨v, (Im9, Vm9), rfl, Option.some.inj hf, by show va_P D vwCl (w_M cs o h Im9 Vm9) t.heap; rw [ht]; exact hP, va_K.moved hW.alike hK, hD⟩, hS.F ht⟩) hS.2.2 hd
  unfold M_readPerson at hf
  refine lv_aload_n hx hb dX10_readPerson_0 rfl (lv_at hl 0 rfl) ?_
  refine lv_iconst (v := 0) hx hb dX10_readPerson_1 (by decide) ?_
  refine lv_bipush (v := 9) hx hb dX10_readPerson_2 (by decide) ?_
  obtain ⟨zr1, I2, V3, qr1, hf⟩ := bd3 hf
  have hFc := xfree hD hS hA
  refine va_calli (va_runV (As := [.int 0, .int 9]) (rest := []) ⟨hx, hb, hml, hown, hts⟩ (c_M_figure l D cs o h _ I V 0 9 f _ qr1) w_figure_111 ⟨xP_moved, va_recv hK hP (ci := 10) (q0 := 0) rfl rfl, fun U hU hW => ⟨rfl, by rw [hU], by rw [hU]; exact hP, va_K.moved hW.alike hK, hD.weaken (fun _ _ _ _ => trivial)⟩⟩ rfl rfl hl.1 rfl (lv_room (Nat.le_of_ble_eq_true rfl)) dX10_readPerson_4 ⟨Nat.zero_le _, Nat.zero_le _⟩) hS (fun q _ h9 => hFc q h9) hFc (fun r1 u t H1 locs ht hvm hw hB hz1 hk1 hS => ?_)
  have er1 := congrArg Prod.fst hw
  have eu := congrArg Prod.snd hw
  dsimp only at er1 eu
  rw [er1]
  rw [eu] at hB
  obtain ⟨hP1, hK1, hD1⟩ := hB
  have hP : va_P D vwCl (w_M cs o h I2 V3) H1 := by rw [← ht]; exact hP1
  have hD : va_D A (w_M cs o h I2 V3) := hD1.weaken (fun _ q _ h9 => hFc q.1 h9)
  refine lv_istore_n (lv' := [(1, .int zr1), (0, .ref o)]) hx hb dX10_readPerson_7 rfl hl (by decide) rfl (fun ls hl => ?_)
  refine lv_iload_n hx hb dX10_readPerson_8 rfl (lv_at hl 0 rfl) ?_
  refine lv_bipush (v := (-9)) hx hb dX10_readPerson_9 (by decide) ?_
  obtain ⟨j26, ej26, hf⟩ := nme hf
  have J26 : ∀ (t0_26 : Int32) (Im_26 : FI) (Vm_26 : FV), j26 t0_26 Im_26 Vm_26 = some out → ∀ (H : Heap) (locs : List Loc), va_P D vwCl (w_M cs o h Im_26 Vm_26) H → va_D A (w_M cs o h Im_26 Vm_26) → va_S A s.heap H locs → ∀ ls : Array Slot, lv_has ls 4 [(0, .ref o), (1, .int zr1)] → W p l e rm_M_readPerson s m args below meth c H locs 0 0 Q (F0 m 26 ls [.int t0_26]) := by
    intro t0_26 Im_26 Vm_26 hf H locs hP hD hS ls hl
    rw [ej26] at hf
    refine lv_istore_n (lv' := [(2, .int t0_26), (0, .ref o), (1, .int zr1)]) hx hb dX10_readPerson_26 rfl hl (by decide) rfl (fun ls hl => ?_)
    refine lv_iload_n hx hb dX10_readPerson_27 rfl (lv_at hl 0 rfl) ?_
    refine lv_bipush (v := (-9)) hx hb dX10_readPerson_28 (by decide) ?_
    obtain ⟨j45, ej45, hf⟩ := nme hf
    have J45 : ∀ (t0_45 : Int32) (Im_45 : FI) (Vm_45 : FV), j45 t0_45 Im_45 Vm_45 = some out → ∀ (H : Heap) (locs : List Loc), va_P D vwCl (w_M cs o h Im_45 Vm_45) H → va_D A (w_M cs o h Im_45 Vm_45) → va_S A s.heap H locs → ∀ ls : Array Slot, lv_has ls 4 [(0, .ref o), (1, .int zr1), (2, .int t0_26)] → W p l e rm_M_readPerson s m args below meth c H locs 0 0 Q (F0 m 45 ls [.int t0_45]) := by
      intro t0_45 Im_45 Vm_45 hf H locs hP hD hS ls hl
      rw [ej45] at hf
      refine lv_istore_n (lv' := [(3, .int t0_45), (0, .ref o), (1, .int zr1), (2, .int t0_26)]) hx hb dX10_readPerson_45 rfl hl (by decide) rfl (fun ls hl => ?_)
      refine lv_iload_n hx hb dX10_readPerson_46 rfl (lv_at hl 0 rfl) ?_
      refine lv_bipush (v := (-9)) hx hb dX10_readPerson_47 (by decide) ?_
      refine lv_icmp_ne (tgt := 54) hx hb dX10_readPerson_49 (by decide) (fun c49 => ?_) (fun c49 => ?_)
      · replace hf := im c49 hf
        refine lv_aload_n hx hb dX10_readPerson_54 rfl (lv_at hl 1 rfl) ?_
        refine va_get (D := D) (ci := 10) (v := .ref (h 17)) (C := RX10) (T := TX10) (N := 38) hx hb hts in_X10 hown hK hP 0 rfl rfl 17 (by decide) g_38 (fun _ h9 => h9) rfl dX10_readPerson_55 ?_
        refine lv_aload_n hx hb dX10_readPerson_58 rfl (lv_at hl 1 rfl) ?_
        refine va_get (D := D) (ci := 10) (v := .int (Im_45 15)) (C := RX10) (T := TX10) (N := 38) hx hb hts in_X10 hown hK hP 0 rfl rfl 15 (by decide) g_115 (fun _ h9 => h9) rfl dX10_readPerson_59 ?_
        refine lv_bipush (v := 10) hx hb dX10_readPerson_62 (by decide) ?_
        refine lv_iload_n hx hb dX10_readPerson_64 rfl (lv_at hl 2 rfl) ?_
        refine lv_imul hx hb dX10_readPerson_65 ?_
        refine lv_iload_n hx hb dX10_readPerson_66 rfl (lv_at hl 3 rfl) ?_
        refine lv_iadd hx hb dX10_readPerson_67 ?_
        obtain ⟨c68, hf⟩ := gd hf
        refine va_iast hx hb hK hP hD hS 10 0 rfl rfl c68 dX10_readPerson_68 (fun H locs hP hD hS => ?_)
        have hP : va_P D vwCl (w_M cs o h Im_45 (va_up Vm_45 17 (upd (Vm_45 17) (Im_45 15).toNatClampNeg ((10 * zr1) + t0_26)))) H := hP
        have hD : va_D A (w_M cs o h Im_45 (va_up Vm_45 17 (upd (Vm_45 17) (Im_45 15).toNatClampNeg ((10 * zr1) + t0_26)))) := hD
        refine lv_aload_n hx hb dX10_readPerson_69 rfl (lv_at hl 1 rfl) ?_
        refine va_get (D := D) (ci := 10) (v := .ref (h 18)) (C := RX10) (T := TX10) (N := 38) hx hb hts in_X10 hown hK hP 0 rfl rfl 18 (by decide) g_41 (fun _ h9 => h9) rfl dX10_readPerson_70 ?_
        refine lv_aload_n hx hb dX10_readPerson_73 rfl (lv_at hl 1 rfl) ?_
        refine va_get (D := D) (ci := 10) (v := .int (Im_45 15)) (C := RX10) (T := TX10) (N := 38) hx hb hts in_X10 hown hK hP 0 rfl rfl 15 (by decide) g_115 (fun _ h9 => h9) rfl dX10_readPerson_74 ?_
        refine lv_iload_n hx hb dX10_readPerson_77 rfl (lv_at hl 0 rfl) ?_
        obtain ⟨c78, hf⟩ := gd hf
        refine va_iast hx hb hK hP hD hS 11 0 rfl rfl c78 dX10_readPerson_78 (fun H locs hP hD hS => ?_)
        have hP : va_P D vwCl (w_M cs o h Im_45 (va_up (va_up Vm_45 17 (upd (Vm_45 17) (Im_45 15).toNatClampNeg ((10 * zr1) + t0_26))) 18 (upd (Vm_45 18) (Im_45 15).toNatClampNeg t0_45))) H := hP
        have hD : va_D A (w_M cs o h Im_45 (va_up (va_up Vm_45 17 (upd (Vm_45 17) (Im_45 15).toNatClampNeg ((10 * zr1) + t0_26))) 18 (upd (Vm_45 18) (Im_45 15).toNatClampNeg t0_45))) := hD
        refine lv_aload_n hx hb dX10_readPerson_79 rfl (lv_at hl 1 rfl) ?_
        refine lv_dup hx hb dX10_readPerson_80 rfl ?_
        refine va_get (D := D) (ci := 10) (v := .int (Im_45 15)) (C := RX10) (T := TX10) (N := 38) hx hb hts in_X10 hown hK hP 0 rfl rfl 15 (by decide) g_115 (fun _ h9 => h9) rfl dX10_readPerson_81 ?_
        refine lv_iconst (v := 1) hx hb dX10_readPerson_84 (by decide) ?_
        refine lv_iadd hx hb dX10_readPerson_85 ?_
        refine va_put (D := D) (ci := 10) (v := .int ((Im_45 15) + 1)) (ty := .int) (C := RX10) (T := TX10) (N := 38) hx hb hts in_X10 tyX10 tyX10_ok nmX10 hown hK hP hD hS 0 rfl rfl 15 (by decide) g_115 (fun _ h9 => h9) rfl (by decide +kernel) rfl rfl (Nat.le_of_ble_eq_true rfl) dX10_readPerson_86 (fun H locs hP hD hS => ?_)
        have hP : va_P D vwCl (w_M cs o h (va_up Im_45 15 ((Im_45 15) + 1)) (va_up (va_up Vm_45 17 (upd (Vm_45 17) (Im_45 15).toNatClampNeg ((10 * zr1) + t0_26))) 18 (upd (Vm_45 18) (Im_45 15).toNatClampNeg t0_45))) H := hP
        have hD : va_D A (w_M cs o h (va_up Im_45 15 ((Im_45 15) + 1)) (va_up (va_up Vm_45 17 (upd (Vm_45 17) (Im_45 15).toNatClampNeg ((10 * zr1) + t0_26))) 18 (upd (Vm_45 18) (Im_45 15).toNatClampNeg t0_45))) := hD
        refine lv_iconst (v := 1) hx hb dX10_readPerson_89 (by decide) ?_
        exact hret 1 (va_up Im_45 15 ((Im_45 15) + 1)) (va_up (va_up Vm_45 17 (upd (Vm_45 17) (Im_45 15).toNatClampNeg ((10 * zr1) + t0_26))) 18 (upd (Vm_45 18) (Im_45 15).toNatClampNeg t0_45)) _ _ 90 _ rfl hf hP hD hS dX10_readPerson_90
      · replace hf := ip c49 hf
        refine lv_iconst (v := 0) hx hb dX10_readPerson_52 (by decide) ?_
        exact hret 0 Im_45 Vm_45 _ _ 53 _ rfl hf hP hD hS dX10_readPerson_53
    refine lv_icmp_ne (tgt := 38) hx hb dX10_readPerson_30 (by decide) (fun c30 => ?_) (fun c30 => ?_)
    · replace hf := im c30 hf
      refine lv_aload_n hx hb dX10_readPerson_38 rfl (lv_at hl 1 rfl) ?_
      refine lv_iconst (v := 0) hx hb dX10_readPerson_39 (by decide) ?_
      refine lv_bipush (v := 9) hx hb dX10_readPerson_40 (by decide) ?_
      obtain ⟨zr4, I5, V6, qr4, hf⟩ := bd3 hf
      have hFc := xfree hD hS hA
      refine va_calli (va_runV (As := [.int 0, .int 9]) (rest := []) ⟨hx, hb, hml, hown, hts⟩ (c_M_figure l D cs o h _ Im_26 Vm_26 0 9 f _ qr4) w_figure_111 ⟨xP_moved, va_recv hK hP (ci := 10) (q0 := 0) rfl rfl, fun U hU hW => ⟨rfl, by rw [hU], by rw [hU]; exact hP, va_K.moved hW.alike hK, hD.weaken (fun _ _ _ _ => trivial)⟩⟩ rfl rfl hl.1 rfl (lv_room (Nat.le_of_ble_eq_true rfl)) dX10_readPerson_42 ⟨Nat.zero_le _, Nat.zero_le _⟩) hS (fun q _ h9 => hFc q h9) hFc (fun r4 u t H1 locs ht hvm hw hB hz1 hk1 hS => ?_)
      have er4 := congrArg Prod.fst hw
      have eu := congrArg Prod.snd hw
      dsimp only at er4 eu
      rw [er4]
      rw [eu] at hB
      obtain ⟨hP1, hK1, hD1⟩ := hB
      have hP : va_P D vwCl (w_M cs o h I5 V6) H1 := by rw [← ht]; exact hP1
      have hD : va_D A (w_M cs o h I5 V6) := hD1.weaken (fun _ q _ h9 => hFc q.1 h9)
      exact J45 zr4 I5 V6 hf _ _ hP hD hS _ (lv_sub hl [1, 2, 0] rfl)
    · replace hf := ip c30 hf
      refine lv_bipush (v := (-9)) hx hb dX10_readPerson_33 (by decide) ?_
      refine lv_goto (tgt := 45) hx hb dX10_readPerson_35 (by decide) ?_
      exact J45 (-9) Im_26 Vm_26 hf _ _ hP hD hS _ (lv_sub hl [1, 2, 0] rfl)
  refine lv_icmp_ne (tgt := 19) hx hb dX10_readPerson_11 (by decide) (fun c11 => ?_) (fun c11 => ?_)
  · replace hf := im c11 hf
    refine lv_aload_n hx hb dX10_readPerson_19 rfl (lv_at hl 1 rfl) ?_
    refine lv_iconst (v := 0) hx hb dX10_readPerson_20 (by decide) ?_
    refine lv_bipush (v := 9) hx hb dX10_readPerson_21 (by decide) ?_
    obtain ⟨zr7, I8, V9, qr7, hf⟩ := bd3 hf
    have hFc := xfree hD hS hA
    refine va_calli (va_runV (As := [.int 0, .int 9]) (rest := []) ⟨hx, hb, hml, hown, hts⟩ (c_M_figure l D cs o h _ I2 V3 0 9 f _ qr7) w_figure_111 ⟨xP_moved, va_recv hK hP (ci := 10) (q0 := 0) rfl rfl, fun U hU hW => ⟨rfl, by rw [hU], by rw [hU]; exact hP, va_K.moved hW.alike hK, hD.weaken (fun _ _ _ _ => trivial)⟩⟩ rfl rfl hl.1 rfl (lv_room (Nat.le_of_ble_eq_true rfl)) dX10_readPerson_23 ⟨Nat.zero_le _, Nat.zero_le _⟩) hS (fun q _ h9 => hFc q h9) hFc (fun r7 u t H1 locs ht hvm hw hB hz1 hk1 hS => ?_)
    have er7 := congrArg Prod.fst hw
    have eu := congrArg Prod.snd hw
    dsimp only at er7 eu
    rw [er7]
    rw [eu] at hB
    obtain ⟨hP1, hK1, hD1⟩ := hB
    have hP : va_P D vwCl (w_M cs o h I8 V9) H1 := by rw [← ht]; exact hP1
    have hD : va_D A (w_M cs o h I8 V9) := hD1.weaken (fun _ q _ h9 => hFc q.1 h9)
    exact J26 zr7 I8 V9 hf _ _ hP hD hS _ (lv_sub hl [1, 0] rfl)
  · replace hf := ip c11 hf
    refine lv_bipush (v := (-9)) hx hb dX10_readPerson_14 (by decide) ?_
    refine lv_goto (tgt := 26) hx hb dX10_readPerson_16 (by decide) ?_
    exact J26 (-9) I2 V3 hf _ _ hP hD hS _ (lv_sub hl [1, 0] rfl)
def M_readDebt (f : Nat) (I : FI) (V : FV) : Option (Int32 × FI × FV) := ob3 (M_figure f 0 ((I 15) - 1) I V) (fun zr1 I2 V3 => (nm (fun (t0_61 : Int32) (Im_61 : FI) (Vm_61 : FV) => (nm (fun (t0_80 : Int32) (Im_80 : FI) (Vm_80 : FV) => (nm (fun (t0_107 : Int32) (Im_107 : FI) (Vm_107 : FV) => (nm (fun (t0_128 : Int32) (Im_128 : FI) (Vm_128 : FV) => (if t0_128 = (-9) then some (0, Im_128, Vm_128) else if (Im_128 16) < 0 ∨ 8 ≤ (Im_128 16).toNatClampNeg then none else (if (Im_128 16) < 0 ∨ 8 ≤ (Im_128 16).toNatClampNeg then none else (if (Im_128 16) < 0 ∨ 8 ≤ (Im_128 16).toNatClampNeg then none else (if (Im_128 16) < 0 ∨ 8 ≤ (Im_128 16).toNatClampNeg then none else (some (1, (va_up Im_128 16 ((Im_128 16) + 1)), (va_up (va_up (va_up (va_up Vm_128 19 (upd (Vm_128 19) (Im_128 16).toNatClampNeg zr1)) 20 (upd (Vm_128 20) (Im_128 16).toNatClampNeg t0_61)) 21 (upd (Vm_128 21) (Im_128 16).toNatClampNeg ((10 * t0_80) + t0_107))) 22 (upd (Vm_128 22) (Im_128 16).toNatClampNeg t0_128))))))))) (fun j128 => (if t0_107 = (-9) then (j128 (-9) Im_107 Vm_107) else ob3 (M_figure f 1 9 Im_107 Vm_107) (fun zr4 I5 V6 => (j128 zr4 I5 V6)))))) (fun j107 => (if t0_80 = (-9) then (j107 (-9) Im_80 Vm_80) else (nm (fun (t1_102 : Int32) => ob3 (M_figure f t1_102 9 Im_80 Vm_80) (fun zr7 I8 V9 => (j107 zr7 I8 V9))) (fun j102 => (if t0_80 = 0 then (j102 1) else (j102 0)))))))) (fun j80 => (if t0_61 = (-9) then (j80 (-9) Im_61 Vm_61) else ob3 (M_figure f 0 9 Im_61 Vm_61) (fun zr10 I11 V12 => (j80 zr10 I11 V12)))))) (fun j61 => nm (fun (u_45 : Unit) => (j61 (-9) I2 V3)) (fun j45 => (if zr1 = (-9) then (j45 ()) else (nm (fun (u_50 : Unit) => ob3 (M_figure f 0 ((I2 15) - 1) I2 V3) (fun zr13 I14 V15 => (j61 zr13 I14 V15))) (fun j50 => (if (I2 2) ≤ (I2 3) then (j50 ()) else if (I2 3) < 0 ∨ 80 ≤ (I2 3).toNatClampNeg then none else ((if (((V3 1) (I2 3).toNatClampNeg) - 48) = zr1 then (j45 ()) else (j50 ())))))))))))
abbrev rm_M_readDebt : Room := { frames := 2, cells := 0, slots := 0, locals := 47 }
set_option maxHeartbeats 4000000 in
set_option maxRecDepth 100000 in
theorem c_M_readDebt (l : Launch) (D : va_G) (cs : Nat → ClassId) (o : Nat) (h : Nat → Nat) (sz : Nat) (I : FI) (V : FV) (f : Nat) (out : Int32 × FI × FV) (hf : M_readDebt f I V = some out) : Met l yX10_readDebt wsX10_readDebt rm_M_readDebt (va_Pc [.ref o] (xP D cs (w_M cs o h I V) sz)) (va_Qi (fun r u => (r, u) = out) (fun (u : FI × FV) t => xA D cs (va_A (w_M cs o h I V) sz) (w_M cs o h u.1 u.2) t) (va_A (w_M cs o h I V) sz)) 0 0 (va_A (w_M cs o h I V) sz) := by
  refine Met.ofW (cc := cX10_readDebt) (maxL := 6) (ret := (some .boolean)) (by decide) rfl ?_
  intro p e s m args below meth c s₁ B hml hv
  obtain ⟨ha, hsz, hP, hK, hD0⟩ := hv
  have hx := B.exec
  have hb := B.bytes
  have hr := B.returns
  have hts := atoms_spec (ws := wsX10_readDebt) B.pre
  have hown : s.vm.findClass RX10 = some m.cls := findClass_of_methodNamed B.named
  have hlocks := B.notSynchronized
  have in_X10 : ∀ w ∈ u_ws RX10 TX10 38, w ∈ wsX10_readDebt := fun w h => List.mem_cons_of_mem _ (List.mem_append_right _ h)
  have g_115 := hts (.fieldLink RX10 115 "DaysLentModel" "readPeople" "I") (by decide +kernel)
  have w_figure_111 := cwV (R := rm_M_readDebt) (s := s) (args := args) (rm := rm_M_figure) (mc := 0) (ms := 0) 2 hts gX10_readDebt_X10_figure rfl rfl rfl (by decide +kernel) ⟨Nat.le_of_ble_eq_true rfl, Nat.le_of_ble_eq_true rfl⟩
  have g_108 := hts (.fieldLink RX10 108 "DaysLentModel" "place" "I") (by decide +kernel)
  have g_105 := hts (.fieldLink RX10 105 "DaysLentModel" "textSize" "I") (by decide +kernel)
  have g_7 := hts (.fieldLink RX10 7 "DaysLentModel" "text" "[I") (by decide +kernel)
  have g_44 := hts (.fieldLink RX10 44 "DaysLentModel" "readOwed" "[I") (by decide +kernel)
  have g_118 := hts (.fieldLink RX10 118 "DaysLentModel" "readDebts" "I") (by decide +kernel)
  have g_47 := hts (.fieldLink RX10 47 "DaysLentModel" "readOwes" "[I") (by decide +kernel)
  have g_50 := hts (.fieldLink RX10 50 "DaysLentModel" "readMuch" "[I") (by decide +kernel)
  have g_53 := hts (.fieldLink RX10 53 "DaysLentModel" "readDue" "[I") (by decide +kernel)
  subst hsz
  have hD := hD0.self (sz := s.heap.size)
  generalize hAe : va_A (w_M cs o h I V) s.heap.size = A at hD ⊢
  have hA : ∀ q : Nat, s.heap.size ≤ q → A q := fun q h => by rw [← hAe]; exact Or.inr h
  have hS : va_S A s.heap s.heap [] := va_S.rf
  have hl := lv_entry ([.ref o]) (n := 6) (Nat.le_of_ble_eq_true rfl)
  rw [show entryFrame m args 6 = entryFrame m ([.ref o] : List Value).toArray 6 from by rw [ha], lg_entry_eq]
  generalize (lg_sl ([.ref o]) ++ List.replicate (6 - (lg_sl ([.ref o])).length) Slot.unset).toArray = ls at hl ⊢
  have hl : lv_has ls 6 [(0, .ref o)] := hl
  generalize hQ : MQ below (va_Qi (fun r u => (r, u) = out) (fun (u : FI × FV) t => xA D cs A (w_M cs o h u.1 u.2) t) A) args s 0 0 A = Q
  show W p l e rm_M_readDebt s m args below meth c s.heap [] 0 0 Q (F0 m 0 ls [])
  have hret : ∀ (v : Int32) (Im9 : FI) (Vm9 : FV) (H : Heap) (locs : List Loc) (pc : Nat) (ls : Array Slot), narrow .boolean (.int v) = .int v → some (v, Im9, Vm9) = some out → va_P D vwCl (w_M cs o h Im9 Vm9) H → va_D A (w_M cs o h Im9 Vm9) → va_S A s.heap H locs → decode cX10_readDebt pc = .ok (.ireturn, 1) → W p l e rm_M_readDebt s m args below meth c H locs 0 0 Q (F0 m pc ls [.int v]) := by
    intro v Im9 Vm9 H locs pc ls hz hf hP hD hS hd
    rw [← hQ]
    exact W.zret (v := v) hx hb hr hz (fun t ht hW => ⟨⟨v, (Im9, Vm9), rfl, Option.some.inj hf, by show va_P D vwCl (w_M cs o h Im9 Vm9) t.heap; rw [ht]; exact hP, va_K.moved hW.alike hK, hD⟩, hS.F ht⟩) hS.2.2 hd
  unfold M_readDebt at hf
  refine lv_aload_n hx hb dX10_readDebt_0 rfl (lv_at hl 0 rfl) ?_
  refine lv_iconst (v := 0) hx hb dX10_readDebt_1 (by decide) ?_
  refine lv_aload_n hx hb dX10_readDebt_2 rfl (lv_at hl 0 rfl) ?_
  refine va_get (D := D) (ci := 10) (v := .int (I 15)) (C := RX10) (T := TX10) (N := 38) hx hb hts in_X10 hown hK hP 0 rfl rfl 15 (by decide) g_115 (fun _ h9 => h9) rfl dX10_readDebt_3 ?_
  refine lv_iconst (v := 1) hx hb dX10_readDebt_6 (by decide) ?_
  refine lv_isub hx hb dX10_readDebt_7 ?_
  obtain ⟨zr1, I2, V3, qr1, hf⟩ := bd3 hf
  have hFc := xfree hD hS hA
  refine va_calli (va_runV (As := [.int 0, .int ((I 15) - 1)]) (rest := []) ⟨hx, hb, hml, hown, hts⟩ (c_M_figure l D cs o h _ I V 0 ((I 15) - 1) f _ qr1) w_figure_111 ⟨xP_moved, va_recv hK hP (ci := 10) (q0 := 0) rfl rfl, fun U hU hW => ⟨rfl, by rw [hU], by rw [hU]; exact hP, va_K.moved hW.alike hK, hD.weaken (fun _ _ _ _ => trivial)⟩⟩ rfl rfl hl.1 rfl (lv_room (Nat.le_of_ble_eq_true rfl)) dX10_readDebt_8 ⟨Nat.zero_le _, Nat.zero_le _⟩) hS (fun q _ h9 => hFc q h9) hFc (fun r1 u t H1 locs ht hvm hw hB hz1 hk1 hS => ?_)
  have er1 := congrArg Prod.fst hw
  have eu := congrArg Prod.snd hw
  dsimp only at er1 eu
  rw [er1]
  rw [eu] at hB
  obtain ⟨hP1, hK1, hD1⟩ := hB
  have hP : va_P D vwCl (w_M cs o h I2 V3) H1 := by rw [← ht]; exact hP1
  have hD : va_D A (w_M cs o h I2 V3) := hD1.weaken (fun _ q _ h9 => hFc q.1 h9)
  refine lv_istore_n (lv' := [(1, .int zr1), (0, .ref o)]) hx hb dX10_readDebt_11 rfl hl (by decide) rfl (fun ls hl => ?_)
  refine lv_iload_n hx hb dX10_readDebt_12 rfl (lv_at hl 0 rfl) ?_
  refine lv_bipush (v := (-9)) hx hb dX10_readDebt_13 (by decide) ?_
  obtain ⟨j61, ej61, hf⟩ := nme hf
  have J61 : ∀ (t0_61 : Int32) (Im_61 : FI) (Vm_61 : FV), j61 t0_61 Im_61 Vm_61 = some out → ∀ (H : Heap) (locs : List Loc), va_P D vwCl (w_M cs o h Im_61 Vm_61) H → va_D A (w_M cs o h Im_61 Vm_61) → va_S A s.heap H locs → ∀ ls : Array Slot, lv_has ls 6 [(0, .ref o), (1, .int zr1)] → W p l e rm_M_readDebt s m args below meth c H locs 0 0 Q (F0 m 61 ls [.int t0_61]) := by
    intro t0_61 Im_61 Vm_61 hf H locs hP hD hS ls hl
    rw [ej61] at hf
    refine lv_istore_n (lv' := [(2, .int t0_61), (0, .ref o), (1, .int zr1)]) hx hb dX10_readDebt_61 rfl hl (by decide) rfl (fun ls hl => ?_)
    refine lv_iload_n hx hb dX10_readDebt_62 rfl (lv_at hl 0 rfl) ?_
    refine lv_bipush (v := (-9)) hx hb dX10_readDebt_63 (by decide) ?_
    obtain ⟨j80, ej80, hf⟩ := nme hf
    have J80 : ∀ (t0_80 : Int32) (Im_80 : FI) (Vm_80 : FV), j80 t0_80 Im_80 Vm_80 = some out → ∀ (H : Heap) (locs : List Loc), va_P D vwCl (w_M cs o h Im_80 Vm_80) H → va_D A (w_M cs o h Im_80 Vm_80) → va_S A s.heap H locs → ∀ ls : Array Slot, lv_has ls 6 [(0, .ref o), (1, .int zr1), (2, .int t0_61)] → W p l e rm_M_readDebt s m args below meth c H locs 0 0 Q (F0 m 80 ls [.int t0_80]) := by
      intro t0_80 Im_80 Vm_80 hf H locs hP hD hS ls hl
      rw [ej80] at hf
      refine lv_istore_n (lv' := [(3, .int t0_80), (0, .ref o), (1, .int zr1), (2, .int t0_61)]) hx hb dX10_readDebt_80 rfl hl (by decide) rfl (fun ls hl => ?_)
      refine lv_iload_n hx hb dX10_readDebt_81 rfl (lv_at hl 0 rfl) ?_
      refine lv_bipush (v := (-9)) hx hb dX10_readDebt_82 (by decide) ?_
      obtain ⟨j107, ej107, hf⟩ := nme hf
      have J107 : ∀ (t0_107 : Int32) (Im_107 : FI) (Vm_107 : FV), j107 t0_107 Im_107 Vm_107 = some out → ∀ (H : Heap) (locs : List Loc), va_P D vwCl (w_M cs o h Im_107 Vm_107) H → va_D A (w_M cs o h Im_107 Vm_107) → va_S A s.heap H locs → ∀ ls : Array Slot, lv_has ls 6 [(0, .ref o), (1, .int zr1), (2, .int t0_61), (3, .int t0_80)] → W p l e rm_M_readDebt s m args below meth c H locs 0 0 Q (F0 m 107 ls [.int t0_107]) := by
        intro t0_107 Im_107 Vm_107 hf H locs hP hD hS ls hl
        rw [ej107] at hf
        refine lv_istore (lv' := [(4, .int t0_107), (0, .ref o), (1, .int zr1), (2, .int t0_61), (3, .int t0_80)]) hx hb dX10_readDebt_107 hl (by decide) rfl (fun ls hl => ?_)
        refine lv_iload hx hb dX10_readDebt_109 (lv_at hl 0 rfl) ?_
        refine lv_bipush (v := (-9)) hx hb dX10_readDebt_111 (by decide) ?_
        obtain ⟨j128, ej128, hf⟩ := nme hf
        have J128 : ∀ (t0_128 : Int32) (Im_128 : FI) (Vm_128 : FV), j128 t0_128 Im_128 Vm_128 = some out → ∀ (H : Heap) (locs : List Loc), va_P D vwCl (w_M cs o h Im_128 Vm_128) H → va_D A (w_M cs o h Im_128 Vm_128) → va_S A s.heap H locs → ∀ ls : Array Slot, lv_has ls 6 [(0, .ref o), (1, .int zr1), (2, .int t0_61), (3, .int t0_80), (4, .int t0_107)] → W p l e rm_M_readDebt s m args below meth c H locs 0 0 Q (F0 m 128 ls [.int t0_128]) := by
          intro t0_128 Im_128 Vm_128 hf H locs hP hD hS ls hl
          rw [ej128] at hf
          refine lv_istore (lv' := [(5, .int t0_128), (0, .ref o), (1, .int zr1), (2, .int t0_61), (3, .int t0_80), (4, .int t0_107)]) hx hb dX10_readDebt_128 hl (by decide) rfl (fun ls hl => ?_)
          refine lv_iload hx hb dX10_readDebt_130 (lv_at hl 0 rfl) ?_
          refine lv_bipush (v := (-9)) hx hb dX10_readDebt_132 (by decide) ?_
          refine lv_icmp_ne (tgt := 139) hx hb dX10_readDebt_134 (by decide) (fun c134 => ?_) (fun c134 => ?_)
          · replace hf := im c134 hf
            refine lv_aload_n hx hb dX10_readDebt_139 rfl (lv_at hl 1 rfl) ?_
            refine va_get (D := D) (ci := 10) (v := .ref (h 19)) (C := RX10) (T := TX10) (N := 38) hx hb hts in_X10 hown hK hP 0 rfl rfl 19 (by decide) g_44 (fun _ h9 => h9) rfl dX10_readDebt_140 ?_
            refine lv_aload_n hx hb dX10_readDebt_143 rfl (lv_at hl 1 rfl) ?_
            refine va_get (D := D) (ci := 10) (v := .int (Im_128 16)) (C := RX10) (T := TX10) (N := 38) hx hb hts in_X10 hown hK hP 0 rfl rfl 16 (by decide) g_118 (fun _ h9 => h9) rfl dX10_readDebt_144 ?_
            refine lv_iload_n hx hb dX10_readDebt_147 rfl (lv_at hl 2 rfl) ?_
            obtain ⟨c148, hf⟩ := gd hf
            refine va_iast hx hb hK hP hD hS 12 0 rfl rfl c148 dX10_readDebt_148 (fun H locs hP hD hS => ?_)
            have hP : va_P D vwCl (w_M cs o h Im_128 (va_up Vm_128 19 (upd (Vm_128 19) (Im_128 16).toNatClampNeg zr1))) H := hP
            have hD : va_D A (w_M cs o h Im_128 (va_up Vm_128 19 (upd (Vm_128 19) (Im_128 16).toNatClampNeg zr1))) := hD
            refine lv_aload_n hx hb dX10_readDebt_149 rfl (lv_at hl 1 rfl) ?_
            refine va_get (D := D) (ci := 10) (v := .ref (h 20)) (C := RX10) (T := TX10) (N := 38) hx hb hts in_X10 hown hK hP 0 rfl rfl 20 (by decide) g_47 (fun _ h9 => h9) rfl dX10_readDebt_150 ?_
            refine lv_aload_n hx hb dX10_readDebt_153 rfl (lv_at hl 1 rfl) ?_
            refine va_get (D := D) (ci := 10) (v := .int (Im_128 16)) (C := RX10) (T := TX10) (N := 38) hx hb hts in_X10 hown hK hP 0 rfl rfl 16 (by decide) g_118 (fun _ h9 => h9) rfl dX10_readDebt_154 ?_
            refine lv_iload_n hx hb dX10_readDebt_157 rfl (lv_at hl 3 rfl) ?_
            obtain ⟨c158, hf⟩ := gd hf
            refine va_iast hx hb hK hP hD hS 13 0 rfl rfl c158 dX10_readDebt_158 (fun H locs hP hD hS => ?_)
            have hP : va_P D vwCl (w_M cs o h Im_128 (va_up (va_up Vm_128 19 (upd (Vm_128 19) (Im_128 16).toNatClampNeg zr1)) 20 (upd (Vm_128 20) (Im_128 16).toNatClampNeg t0_61))) H := hP
            have hD : va_D A (w_M cs o h Im_128 (va_up (va_up Vm_128 19 (upd (Vm_128 19) (Im_128 16).toNatClampNeg zr1)) 20 (upd (Vm_128 20) (Im_128 16).toNatClampNeg t0_61))) := hD
            refine lv_aload_n hx hb dX10_readDebt_159 rfl (lv_at hl 1 rfl) ?_
            refine va_get (D := D) (ci := 10) (v := .ref (h 21)) (C := RX10) (T := TX10) (N := 38) hx hb hts in_X10 hown hK hP 0 rfl rfl 21 (by decide) g_50 (fun _ h9 => h9) rfl dX10_readDebt_160 ?_
            refine lv_aload_n hx hb dX10_readDebt_163 rfl (lv_at hl 1 rfl) ?_
            refine va_get (D := D) (ci := 10) (v := .int (Im_128 16)) (C := RX10) (T := TX10) (N := 38) hx hb hts in_X10 hown hK hP 0 rfl rfl 16 (by decide) g_118 (fun _ h9 => h9) rfl dX10_readDebt_164 ?_
            refine lv_bipush (v := 10) hx hb dX10_readDebt_167 (by decide) ?_
            refine lv_iload_n hx hb dX10_readDebt_169 rfl (lv_at hl 4 rfl) ?_
            refine lv_imul hx hb dX10_readDebt_170 ?_
            refine lv_iload hx hb dX10_readDebt_171 (lv_at hl 5 rfl) ?_
            refine lv_iadd hx hb dX10_readDebt_173 ?_
            obtain ⟨c174, hf⟩ := gd hf
            refine va_iast hx hb hK hP hD hS 14 0 rfl rfl c174 dX10_readDebt_174 (fun H locs hP hD hS => ?_)
            have hP : va_P D vwCl (w_M cs o h Im_128 (va_up (va_up (va_up Vm_128 19 (upd (Vm_128 19) (Im_128 16).toNatClampNeg zr1)) 20 (upd (Vm_128 20) (Im_128 16).toNatClampNeg t0_61)) 21 (upd (Vm_128 21) (Im_128 16).toNatClampNeg ((10 * t0_80) + t0_107)))) H := hP
            have hD : va_D A (w_M cs o h Im_128 (va_up (va_up (va_up Vm_128 19 (upd (Vm_128 19) (Im_128 16).toNatClampNeg zr1)) 20 (upd (Vm_128 20) (Im_128 16).toNatClampNeg t0_61)) 21 (upd (Vm_128 21) (Im_128 16).toNatClampNeg ((10 * t0_80) + t0_107)))) := hD
            refine lv_aload_n hx hb dX10_readDebt_175 rfl (lv_at hl 1 rfl) ?_
            refine va_get (D := D) (ci := 10) (v := .ref (h 22)) (C := RX10) (T := TX10) (N := 38) hx hb hts in_X10 hown hK hP 0 rfl rfl 22 (by decide) g_53 (fun _ h9 => h9) rfl dX10_readDebt_176 ?_
            refine lv_aload_n hx hb dX10_readDebt_179 rfl (lv_at hl 1 rfl) ?_
            refine va_get (D := D) (ci := 10) (v := .int (Im_128 16)) (C := RX10) (T := TX10) (N := 38) hx hb hts in_X10 hown hK hP 0 rfl rfl 16 (by decide) g_118 (fun _ h9 => h9) rfl dX10_readDebt_180 ?_
            refine lv_iload hx hb dX10_readDebt_183 (lv_at hl 0 rfl) ?_
            obtain ⟨c185, hf⟩ := gd hf
            refine va_iast hx hb hK hP hD hS 15 0 rfl rfl c185 dX10_readDebt_185 (fun H locs hP hD hS => ?_)
            have hP : va_P D vwCl (w_M cs o h Im_128 (va_up (va_up (va_up (va_up Vm_128 19 (upd (Vm_128 19) (Im_128 16).toNatClampNeg zr1)) 20 (upd (Vm_128 20) (Im_128 16).toNatClampNeg t0_61)) 21 (upd (Vm_128 21) (Im_128 16).toNatClampNeg ((10 * t0_80) + t0_107))) 22 (upd (Vm_128 22) (Im_128 16).toNatClampNeg t0_128))) H := hP
            have hD : va_D A (w_M cs o h Im_128 (va_up (va_up (va_up (va_up Vm_128 19 (upd (Vm_128 19) (Im_128 16).toNatClampNeg zr1)) 20 (upd (Vm_128 20) (Im_128 16).toNatClampNeg t0_61)) 21 (upd (Vm_128 21) (Im_128 16).toNatClampNeg ((10 * t0_80) + t0_107))) 22 (upd (Vm_128 22) (Im_128 16).toNatClampNeg t0_128))) := hD
            refine lv_aload_n hx hb dX10_readDebt_186 rfl (lv_at hl 1 rfl) ?_
            refine lv_dup hx hb dX10_readDebt_187 rfl ?_
            refine va_get (D := D) (ci := 10) (v := .int (Im_128 16)) (C := RX10) (T := TX10) (N := 38) hx hb hts in_X10 hown hK hP 0 rfl rfl 16 (by decide) g_118 (fun _ h9 => h9) rfl dX10_readDebt_188 ?_
            refine lv_iconst (v := 1) hx hb dX10_readDebt_191 (by decide) ?_
            refine lv_iadd hx hb dX10_readDebt_192 ?_
            refine va_put (D := D) (ci := 10) (v := .int ((Im_128 16) + 1)) (ty := .int) (C := RX10) (T := TX10) (N := 38) hx hb hts in_X10 tyX10 tyX10_ok nmX10 hown hK hP hD hS 0 rfl rfl 16 (by decide) g_118 (fun _ h9 => h9) rfl (by decide +kernel) rfl rfl (Nat.le_of_ble_eq_true rfl) dX10_readDebt_193 (fun H locs hP hD hS => ?_)
            have hP : va_P D vwCl (w_M cs o h (va_up Im_128 16 ((Im_128 16) + 1)) (va_up (va_up (va_up (va_up Vm_128 19 (upd (Vm_128 19) (Im_128 16).toNatClampNeg zr1)) 20 (upd (Vm_128 20) (Im_128 16).toNatClampNeg t0_61)) 21 (upd (Vm_128 21) (Im_128 16).toNatClampNeg ((10 * t0_80) + t0_107))) 22 (upd (Vm_128 22) (Im_128 16).toNatClampNeg t0_128))) H := hP
            have hD : va_D A (w_M cs o h (va_up Im_128 16 ((Im_128 16) + 1)) (va_up (va_up (va_up (va_up Vm_128 19 (upd (Vm_128 19) (Im_128 16).toNatClampNeg zr1)) 20 (upd (Vm_128 20) (Im_128 16).toNatClampNeg t0_61)) 21 (upd (Vm_128 21) (Im_128 16).toNatClampNeg ((10 * t0_80) + t0_107))) 22 (upd (Vm_128 22) (Im_128 16).toNatClampNeg t0_128))) := hD
            refine lv_iconst (v := 1) hx hb dX10_readDebt_196 (by decide) ?_
            exact hret 1 (va_up Im_128 16 ((Im_128 16) + 1)) (va_up (va_up (va_up (va_up Vm_128 19 (upd (Vm_128 19) (Im_128 16).toNatClampNeg zr1)) 20 (upd (Vm_128 20) (Im_128 16).toNatClampNeg t0_61)) 21 (upd (Vm_128 21) (Im_128 16).toNatClampNeg ((10 * t0_80) + t0_107))) 22 (upd (Vm_128 22) (Im_128 16).toNatClampNeg t0_128)) _ _ 197 _ rfl hf hP hD hS dX10_readDebt_197
          · replace hf := ip c134 hf
            refine lv_iconst (v := 0) hx hb dX10_readDebt_137 (by decide) ?_
            exact hret 0 Im_128 Vm_128 _ _ 138 _ rfl hf hP hD hS dX10_readDebt_138
        refine lv_icmp_ne (tgt := 121) hx hb dX10_readDebt_113 (by decide) (fun c113 => ?_) (fun c113 => ?_)
        · replace hf := im c113 hf
          refine lv_aload_n hx hb dX10_readDebt_121 rfl (lv_at hl 1 rfl) ?_
          refine lv_iconst (v := 1) hx hb dX10_readDebt_122 (by decide) ?_
          refine lv_bipush (v := 9) hx hb dX10_readDebt_123 (by decide) ?_
          obtain ⟨zr4, I5, V6, qr4, hf⟩ := bd3 hf
          have hFc := xfree hD hS hA
          refine va_calli (va_runV (As := [.int 1, .int 9]) (rest := []) ⟨hx, hb, hml, hown, hts⟩ (c_M_figure l D cs o h _ Im_107 Vm_107 1 9 f _ qr4) w_figure_111 ⟨xP_moved, va_recv hK hP (ci := 10) (q0 := 0) rfl rfl, fun U hU hW => ⟨rfl, by rw [hU], by rw [hU]; exact hP, va_K.moved hW.alike hK, hD.weaken (fun _ _ _ _ => trivial)⟩⟩ rfl rfl hl.1 rfl (lv_room (Nat.le_of_ble_eq_true rfl)) dX10_readDebt_125 ⟨Nat.zero_le _, Nat.zero_le _⟩) hS (fun q _ h9 => hFc q h9) hFc (fun r4 u t H1 locs ht hvm hw hB hz1 hk1 hS => ?_)
          have er4 := congrArg Prod.fst hw
          have eu := congrArg Prod.snd hw
          dsimp only at er4 eu
          rw [er4]
          rw [eu] at hB
          obtain ⟨hP1, hK1, hD1⟩ := hB
          have hP : va_P D vwCl (w_M cs o h I5 V6) H1 := by rw [← ht]; exact hP1
          have hD : va_D A (w_M cs o h I5 V6) := hD1.weaken (fun _ q _ h9 => hFc q.1 h9)
          exact J128 zr4 I5 V6 hf _ _ hP hD hS _ (lv_sub hl [1, 2, 3, 4, 0] rfl)
        · replace hf := ip c113 hf
          refine lv_bipush (v := (-9)) hx hb dX10_readDebt_116 (by decide) ?_
          refine lv_goto (tgt := 128) hx hb dX10_readDebt_118 (by decide) ?_
          exact J128 (-9) Im_107 Vm_107 hf _ _ hP hD hS _ (lv_sub hl [1, 2, 3, 4, 0] rfl)
      refine lv_icmp_ne (tgt := 92) hx hb dX10_readDebt_84 (by decide) (fun c84 => ?_) (fun c84 => ?_)
      · replace hf := im c84 hf
        refine lv_aload_n hx hb dX10_readDebt_92 rfl (lv_at hl 1 rfl) ?_
        refine lv_iload_n hx hb dX10_readDebt_93 rfl (lv_at hl 0 rfl) ?_
        obtain ⟨j102, ej102, hf⟩ := nme hf
        have J102 : ∀ (t1_102 : Int32), j102 t1_102 = some out → ∀ (H : Heap) (locs : List Loc), va_P D vwCl (w_M cs o h Im_80 Vm_80) H → va_D A (w_M cs o h Im_80 Vm_80) → va_S A s.heap H locs → ∀ ls : Array Slot, lv_has ls 6 [(0, .ref o), (1, .int zr1), (2, .int t0_61), (3, .int t0_80)] → W p l e rm_M_readDebt s m args below meth c H locs 0 0 Q (F0 m 102 ls [.int t1_102, .ref o]) := by
          intro t1_102 hf H locs hP hD hS ls hl
          rw [ej102] at hf
          refine lv_bipush (v := 9) hx hb dX10_readDebt_102 (by decide) ?_
          obtain ⟨zr7, I8, V9, qr7, hf⟩ := bd3 hf
          have hFc := xfree hD hS hA
          refine va_calli (va_runV (As := [.int t1_102, .int 9]) (rest := []) ⟨hx, hb, hml, hown, hts⟩ (c_M_figure l D cs o h _ Im_80 Vm_80 t1_102 9 f _ qr7) w_figure_111 ⟨xP_moved, va_recv hK hP (ci := 10) (q0 := 0) rfl rfl, fun U hU hW => ⟨rfl, by rw [hU], by rw [hU]; exact hP, va_K.moved hW.alike hK, hD.weaken (fun _ _ _ _ => trivial)⟩⟩ rfl rfl hl.1 rfl (lv_room (Nat.le_of_ble_eq_true rfl)) dX10_readDebt_104 ⟨Nat.zero_le _, Nat.zero_le _⟩) hS (fun q _ h9 => hFc q h9) hFc (fun r7 u t H1 locs ht hvm hw hB hz1 hk1 hS => ?_)
          have er7 := congrArg Prod.fst hw
          have eu := congrArg Prod.snd hw
          dsimp only at er7 eu
          rw [er7]
          rw [eu] at hB
          obtain ⟨hP1, hK1, hD1⟩ := hB
          have hP : va_P D vwCl (w_M cs o h I8 V9) H1 := by rw [← ht]; exact hP1
          have hD : va_D A (w_M cs o h I8 V9) := hD1.weaken (fun _ q _ h9 => hFc q.1 h9)
          exact J107 zr7 I8 V9 hf _ _ hP hD hS _ (lv_sub hl [0, 1, 2, 3] rfl)
        refine lv_if_ne (tgt := 101) hx hb dX10_readDebt_94 (by decide) (fun c94 => ?_) (fun c94 => ?_)
        · replace hf := im c94 hf
          refine lv_iconst (v := 0) hx hb dX10_readDebt_101 (by decide) ?_
          exact J102 0 hf _ _ hP hD hS _ (lv_sub hl [1, 2, 3, 0] rfl)
        · replace hf := ip c94 hf
          refine lv_iconst (v := 1) hx hb dX10_readDebt_97 (by decide) ?_
          refine lv_goto (tgt := 102) hx hb dX10_readDebt_98 (by decide) ?_
          exact J102 1 hf _ _ hP hD hS _ (lv_sub hl [1, 2, 3, 0] rfl)
      · replace hf := ip c84 hf
        refine lv_bipush (v := (-9)) hx hb dX10_readDebt_87 (by decide) ?_
        refine lv_goto (tgt := 107) hx hb dX10_readDebt_89 (by decide) ?_
        exact J107 (-9) Im_80 Vm_80 hf _ _ hP hD hS _ (lv_sub hl [1, 2, 3, 0] rfl)
    refine lv_icmp_ne (tgt := 73) hx hb dX10_readDebt_65 (by decide) (fun c65 => ?_) (fun c65 => ?_)
    · replace hf := im c65 hf
      refine lv_aload_n hx hb dX10_readDebt_73 rfl (lv_at hl 1 rfl) ?_
      refine lv_iconst (v := 0) hx hb dX10_readDebt_74 (by decide) ?_
      refine lv_bipush (v := 9) hx hb dX10_readDebt_75 (by decide) ?_
      obtain ⟨zr10, I11, V12, qr10, hf⟩ := bd3 hf
      have hFc := xfree hD hS hA
      refine va_calli (va_runV (As := [.int 0, .int 9]) (rest := []) ⟨hx, hb, hml, hown, hts⟩ (c_M_figure l D cs o h _ Im_61 Vm_61 0 9 f _ qr10) w_figure_111 ⟨xP_moved, va_recv hK hP (ci := 10) (q0 := 0) rfl rfl, fun U hU hW => ⟨rfl, by rw [hU], by rw [hU]; exact hP, va_K.moved hW.alike hK, hD.weaken (fun _ _ _ _ => trivial)⟩⟩ rfl rfl hl.1 rfl (lv_room (Nat.le_of_ble_eq_true rfl)) dX10_readDebt_77 ⟨Nat.zero_le _, Nat.zero_le _⟩) hS (fun q _ h9 => hFc q h9) hFc (fun r10 u t H1 locs ht hvm hw hB hz1 hk1 hS => ?_)
      have er10 := congrArg Prod.fst hw
      have eu := congrArg Prod.snd hw
      dsimp only at er10 eu
      rw [er10]
      rw [eu] at hB
      obtain ⟨hP1, hK1, hD1⟩ := hB
      have hP : va_P D vwCl (w_M cs o h I11 V12) H1 := by rw [← ht]; exact hP1
      have hD : va_D A (w_M cs o h I11 V12) := hD1.weaken (fun _ q _ h9 => hFc q.1 h9)
      exact J80 zr10 I11 V12 hf _ _ hP hD hS _ (lv_sub hl [1, 2, 0] rfl)
    · replace hf := ip c65 hf
      refine lv_bipush (v := (-9)) hx hb dX10_readDebt_68 (by decide) ?_
      refine lv_goto (tgt := 80) hx hb dX10_readDebt_70 (by decide) ?_
      exact J80 (-9) Im_61 Vm_61 hf _ _ hP hD hS _ (lv_sub hl [1, 2, 0] rfl)
  obtain ⟨j45, ej45, hf⟩ := nme hf
  have J45 : ∀ (u_45 : Unit), j45 u_45 = some out → ∀ (H : Heap) (locs : List Loc), va_P D vwCl (w_M cs o h I2 V3) H → va_D A (w_M cs o h I2 V3) → va_S A s.heap H locs → ∀ ls : Array Slot, lv_has ls 6 [(0, .ref o), (1, .int zr1)] → W p l e rm_M_readDebt s m args below meth c H locs 0 0 Q (F0 m 45 ls []) := by
    intro u_45 hf H locs hP hD hS ls hl
    rw [ej45] at hf
    refine lv_bipush (v := (-9)) hx hb dX10_readDebt_45 (by decide) ?_
    refine lv_goto (tgt := 61) hx hb dX10_readDebt_47 (by decide) ?_
    exact J61 (-9) I2 V3 hf _ _ hP hD hS _ (lv_sub hl [0, 1] rfl)
  refine lv_icmp_eq (tgt := 45) hx hb dX10_readDebt_15 (by decide) (fun c15 => ?_) (fun c15 => ?_)
  · replace hf := ip c15 hf
    exact J45 () hf _ _ hP hD hS _ (lv_sub hl [1, 0] rfl)
  · replace hf := im c15 hf
    refine lv_aload_n hx hb dX10_readDebt_18 rfl (lv_at hl 1 rfl) ?_
    refine va_get (D := D) (ci := 10) (v := .int (I2 3)) (C := RX10) (T := TX10) (N := 38) hx hb hts in_X10 hown hK hP 0 rfl rfl 3 (by decide) g_108 (fun _ h9 => h9) rfl dX10_readDebt_19 ?_
    refine lv_aload_n hx hb dX10_readDebt_22 rfl (lv_at hl 1 rfl) ?_
    refine va_get (D := D) (ci := 10) (v := .int (I2 2)) (C := RX10) (T := TX10) (N := 38) hx hb hts in_X10 hown hK hP 0 rfl rfl 2 (by decide) g_105 (fun _ h9 => h9) rfl dX10_readDebt_23 ?_
    obtain ⟨j50, ej50, hf⟩ := nme hf
    have J50 : ∀ (u_50 : Unit), j50 u_50 = some out → ∀ (H : Heap) (locs : List Loc), va_P D vwCl (w_M cs o h I2 V3) H → va_D A (w_M cs o h I2 V3) → va_S A s.heap H locs → ∀ ls : Array Slot, lv_has ls 6 [(0, .ref o), (1, .int zr1)] → W p l e rm_M_readDebt s m args below meth c H locs 0 0 Q (F0 m 50 ls []) := by
      intro u_50 hf H locs hP hD hS ls hl
      rw [ej50] at hf
      refine lv_aload_n hx hb dX10_readDebt_50 rfl (lv_at hl 0 rfl) ?_
      refine lv_iconst (v := 0) hx hb dX10_readDebt_51 (by decide) ?_
      refine lv_aload_n hx hb dX10_readDebt_52 rfl (lv_at hl 0 rfl) ?_
      refine va_get (D := D) (ci := 10) (v := .int (I2 15)) (C := RX10) (T := TX10) (N := 38) hx hb hts in_X10 hown hK hP 0 rfl rfl 15 (by decide) g_115 (fun _ h9 => h9) rfl dX10_readDebt_53 ?_
      refine lv_iconst (v := 1) hx hb dX10_readDebt_56 (by decide) ?_
      refine lv_isub hx hb dX10_readDebt_57 ?_
      obtain ⟨zr13, I14, V15, qr13, hf⟩ := bd3 hf
      have hFc := xfree hD hS hA
      refine va_calli (va_runV (As := [.int 0, .int ((I2 15) - 1)]) (rest := []) ⟨hx, hb, hml, hown, hts⟩ (c_M_figure l D cs o h _ I2 V3 0 ((I2 15) - 1) f _ qr13) w_figure_111 ⟨xP_moved, va_recv hK hP (ci := 10) (q0 := 0) rfl rfl, fun U hU hW => ⟨rfl, by rw [hU], by rw [hU]; exact hP, va_K.moved hW.alike hK, hD.weaken (fun _ _ _ _ => trivial)⟩⟩ rfl rfl hl.1 rfl (lv_room (Nat.le_of_ble_eq_true rfl)) dX10_readDebt_58 ⟨Nat.zero_le _, Nat.zero_le _⟩) hS (fun q _ h9 => hFc q h9) hFc (fun r13 u t H1 locs ht hvm hw hB hz1 hk1 hS => ?_)
      have er13 := congrArg Prod.fst hw
      have eu := congrArg Prod.snd hw
      dsimp only at er13 eu
      rw [er13]
      rw [eu] at hB
      obtain ⟨hP1, hK1, hD1⟩ := hB
      have hP : va_P D vwCl (w_M cs o h I14 V15) H1 := by rw [← ht]; exact hP1
      have hD : va_D A (w_M cs o h I14 V15) := hD1.weaken (fun _ q _ h9 => hFc q.1 h9)
      exact J61 zr13 I14 V15 hf _ _ hP hD hS _ (lv_sub hl [0, 1] rfl)
    refine lv_icmp_ge (tgt := 50) hx hb dX10_readDebt_26 (by decide) (fun c26 => ?_) (fun c26 => ?_)
    · replace hf := ip c26 hf
      exact J50 () hf _ _ hP hD hS _ (lv_sub hl [1, 0] rfl)
    · replace hf := im c26 hf
      refine lv_aload_n hx hb dX10_readDebt_29 rfl (lv_at hl 1 rfl) ?_
      refine va_get (D := D) (ci := 10) (v := .ref (h 1)) (C := RX10) (T := TX10) (N := 38) hx hb hts in_X10 hown hK hP 0 rfl rfl 1 (by decide) g_7 (fun _ h9 => h9) rfl dX10_readDebt_30 ?_
      refine lv_aload_n hx hb dX10_readDebt_33 rfl (lv_at hl 1 rfl) ?_
      refine va_get (D := D) (ci := 10) (v := .int (I2 3)) (C := RX10) (T := TX10) (N := 38) hx hb hts in_X10 hown hK hP 0 rfl rfl 3 (by decide) g_108 (fun _ h9 => h9) rfl dX10_readDebt_34 ?_
      obtain ⟨c37, hf⟩ := gd hf
      refine va_iald hx hb hK hP 1 0 rfl rfl c37 dX10_readDebt_37 ?_
      refine lv_bipush (v := 48) hx hb dX10_readDebt_38 (by decide) ?_
      refine lv_isub hx hb dX10_readDebt_40 ?_
      refine lv_iload_n hx hb dX10_readDebt_41 rfl (lv_at hl 0 rfl) ?_
      refine lv_icmp_ne (tgt := 50) hx hb dX10_readDebt_42 (by decide) (fun c42 => ?_) (fun c42 => ?_)
      · replace hf := im c42 hf
        exact J50 () hf _ _ hP hD hS _ (lv_sub hl [1, 0] rfl)
      · replace hf := ip c42 hf
        exact J45 () hf _ _ hP hD hS _ (lv_sub hl [1, 0] rfl)
def M_readPart (f : Nat) (I : FI) (V : FV) : Option (Int32 × FI × FV) := if (I 3) < 0 ∨ 80 ≤ (I 3).toNatClampNeg then none else (nm ((V 1) (I 3).toNatClampNeg) (fun y1 => (nm (fun (u_40 : Unit) => (if y1 = 68 then (if 8 ≤ (I 16) then some (0, I, V) else (if (I 15) ≤ 1 then some (0, I, V) else ob3 (M_readDebt f (va_up I 3 ((I 3) + 1)) V) (fun zr2 I3 V4 => if zr2 &&& 1 = zr2 then some (zr2, I3, V4) else none))) else some (0, I, V))) (fun j40 => (if y1 = 80 then (if 6 ≤ (I 15) then (j40 ()) else ob3 (M_readPerson f (va_up I 3 ((I 3) + 1)) V) (fun zr5 I6 V7 => if zr5 &&& 1 = zr5 then some (zr5, I6, V7) else none)) else (j40 ()))))))
abbrev rm_M_readPart : Room := { frames := 3, cells := 0, slots := 0, locals := 72 }
set_option maxHeartbeats 4000000 in
set_option maxRecDepth 100000 in
theorem c_M_readPart (l : Launch) (D : va_G) (cs : Nat → ClassId) (o : Nat) (h : Nat → Nat) (sz : Nat) (I : FI) (V : FV) (f : Nat) (out : Int32 × FI × FV) (hf : M_readPart f I V = some out) : Met l yX10_readPart wsX10_readPart rm_M_readPart (va_Pc [.ref o] (xP D cs (w_M cs o h I V) sz)) (va_Qi (fun r u => (r, u) = out) (fun (u : FI × FV) t => xA D cs (va_A (w_M cs o h I V) sz) (w_M cs o h u.1 u.2) t) (va_A (w_M cs o h I V) sz)) 0 0 (va_A (w_M cs o h I V) sz) := by
  refine Met.ofW (cc := cX10_readPart) (maxL := 2) (ret := (some .boolean)) (by decide) rfl ?_
  intro p e s m args below meth c s₁ B hml hv
  obtain ⟨ha, hsz, hP, hK, hD0⟩ := hv
  have hx := B.exec
  have hb := B.bytes
  have hr := B.returns
  have hts := atoms_spec (ws := wsX10_readPart) B.pre
  have hown : s.vm.findClass RX10 = some m.cls := findClass_of_methodNamed B.named
  have hlocks := B.notSynchronized
  have in_X10 : ∀ w ∈ u_ws RX10 TX10 38, w ∈ wsX10_readPart := fun w h => List.mem_cons_of_mem _ (List.mem_append_right _ h)
  have g_7 := hts (.fieldLink RX10 7 "DaysLentModel" "text" "[I") (by decide +kernel)
  have g_108 := hts (.fieldLink RX10 108 "DaysLentModel" "place" "I") (by decide +kernel)
  have g_115 := hts (.fieldLink RX10 115 "DaysLentModel" "readPeople" "I") (by decide +kernel)
  have w_readPerson_121 := cwV (R := rm_M_readPart) (s := s) (args := args) (rm := rm_M_readPerson) (mc := 0) (ms := 0) 0 hts gX10_readPart_X10_readPerson rfl rfl rfl (by decide +kernel) ⟨Nat.le_of_ble_eq_true rfl, Nat.le_of_ble_eq_true rfl⟩
  have g_118 := hts (.fieldLink RX10 118 "DaysLentModel" "readDebts" "I") (by decide +kernel)
  have w_readDebt_125 := cwV (R := rm_M_readPart) (s := s) (args := args) (rm := rm_M_readDebt) (mc := 0) (ms := 0) 0 hts gX10_readPart_X10_readDebt rfl rfl rfl (by decide +kernel) ⟨Nat.le_of_ble_eq_true rfl, Nat.le_of_ble_eq_true rfl⟩
  subst hsz
  have hD := hD0.self (sz := s.heap.size)
  generalize hAe : va_A (w_M cs o h I V) s.heap.size = A at hD ⊢
  have hA : ∀ q : Nat, s.heap.size ≤ q → A q := fun q h => by rw [← hAe]; exact Or.inr h
  have hS : va_S A s.heap s.heap [] := va_S.rf
  have hl := lv_entry ([.ref o]) (n := 2) (Nat.le_of_ble_eq_true rfl)
  rw [show entryFrame m args 2 = entryFrame m ([.ref o] : List Value).toArray 2 from by rw [ha], lg_entry_eq]
  generalize (lg_sl ([.ref o]) ++ List.replicate (2 - (lg_sl ([.ref o])).length) Slot.unset).toArray = ls at hl ⊢
  have hl : lv_has ls 2 [(0, .ref o)] := hl
  generalize hQ : MQ below (va_Qi (fun r u => (r, u) = out) (fun (u : FI × FV) t => xA D cs A (w_M cs o h u.1 u.2) t) A) args s 0 0 A = Q
  show W p l e rm_M_readPart s m args below meth c s.heap [] 0 0 Q (F0 m 0 ls [])
  have hret : ∀ (v : Int32) (Im9 : FI) (Vm9 : FV) (H : Heap) (locs : List Loc) (pc : Nat) (ls : Array Slot), narrow .boolean (.int v) = .int v → some (v, Im9, Vm9) = some out → va_P D vwCl (w_M cs o h Im9 Vm9) H → va_D A (w_M cs o h Im9 Vm9) → va_S A s.heap H locs → decode cX10_readPart pc = .ok (.ireturn, 1) → W p l e rm_M_readPart s m args below meth c H locs 0 0 Q (F0 m pc ls [.int v]) := by
    intro v Im9 Vm9 H locs pc ls hz hf hP hD hS hd
    rw [← hQ]
    exact W.zret (v := v) hx hb hr hz (fun t ht hW => ⟨⟨v, (Im9, Vm9), rfl, Option.some.inj hf, by show va_P D vwCl (w_M cs o h Im9 Vm9) t.heap; rw [ht]; exact hP, va_K.moved hW.alike hK, hD⟩, hS.F ht⟩) hS.2.2 hd
  unfold M_readPart at hf
  refine lv_aload_n hx hb dX10_readPart_0 rfl (lv_at hl 0 rfl) ?_
  refine va_get (D := D) (ci := 10) (v := .ref (h 1)) (C := RX10) (T := TX10) (N := 38) hx hb hts in_X10 hown hK hP 0 rfl rfl 1 (by decide) g_7 (fun _ h9 => h9) rfl dX10_readPart_1 ?_
  refine lv_aload_n hx hb dX10_readPart_4 rfl (lv_at hl 0 rfl) ?_
  refine va_get (D := D) (ci := 10) (v := .int (I 3)) (C := RX10) (T := TX10) (N := 38) hx hb hts in_X10 hown hK hP 0 rfl rfl 3 (by decide) g_108 (fun _ h9 => h9) rfl dX10_readPart_5 ?_
  obtain ⟨c8, hf⟩ := gd hf
  refine va_iald hx hb hK hP 1 0 rfl rfl c8 dX10_readPart_8 ?_
  refine lv_topi (fun y1 ey1 => ?_)
  replace hf := nmd hf ey1
  refine lv_istore_n (lv' := [(1, .int y1), (0, .ref o)]) hx hb dX10_readPart_9 rfl hl (by decide) rfl (fun ls hl => ?_)
  refine lv_iload_n hx hb dX10_readPart_10 rfl (lv_at hl 0 rfl) ?_
  refine lv_bipush (v := 80) hx hb dX10_readPart_11 (by decide) ?_
  obtain ⟨j40, ej40, hf⟩ := nme hf
  have J40 : ∀ (u_40 : Unit), j40 u_40 = some out → ∀ (H : Heap) (locs : List Loc), va_P D vwCl (w_M cs o h I V) H → va_D A (w_M cs o h I V) → va_S A s.heap H locs → ∀ ls : Array Slot, lv_has ls 2 [(0, .ref o), (1, .int y1)] → W p l e rm_M_readPart s m args below meth c H locs 0 0 Q (F0 m 40 ls []) := by
    intro u_40 hf H locs hP hD hS ls hl
    rw [ej40] at hf
    refine lv_iload_n hx hb dX10_readPart_40 rfl (lv_at hl 1 rfl) ?_
    refine lv_bipush (v := 68) hx hb dX10_readPart_41 (by decide) ?_
    refine lv_icmp_ne (tgt := 78) hx hb dX10_readPart_43 (by decide) (fun c43 => ?_) (fun c43 => ?_)
    · replace hf := im c43 hf
      refine lv_iconst (v := 0) hx hb dX10_readPart_78 (by decide) ?_
      exact hret 0 I V _ _ 79 _ rfl hf hP hD hS dX10_readPart_79
    · replace hf := ip c43 hf
      refine lv_aload_n hx hb dX10_readPart_46 rfl (lv_at hl 0 rfl) ?_
      refine va_get (D := D) (ci := 10) (v := .int (I 16)) (C := RX10) (T := TX10) (N := 38) hx hb hts in_X10 hown hK hP 0 rfl rfl 16 (by decide) g_118 (fun _ h9 => h9) rfl dX10_readPart_47 ?_
      refine lv_bipush (v := 8) hx hb dX10_readPart_50 (by decide) ?_
      refine lv_icmp_ge (tgt := 78) hx hb dX10_readPart_52 (by decide) (fun c52 => ?_) (fun c52 => ?_)
      · replace hf := ip c52 hf
        refine lv_iconst (v := 0) hx hb dX10_readPart_78 (by decide) ?_
        exact hret 0 I V _ _ 79 _ rfl hf hP hD hS dX10_readPart_79
      · replace hf := im c52 hf
        refine lv_aload_n hx hb dX10_readPart_55 rfl (lv_at hl 0 rfl) ?_
        refine va_get (D := D) (ci := 10) (v := .int (I 15)) (C := RX10) (T := TX10) (N := 38) hx hb hts in_X10 hown hK hP 0 rfl rfl 15 (by decide) g_115 (fun _ h9 => h9) rfl dX10_readPart_56 ?_
        refine lv_iconst (v := 1) hx hb dX10_readPart_59 (by decide) ?_
        refine lv_icmp_le (tgt := 78) hx hb dX10_readPart_60 (by decide) (fun c60 => ?_) (fun c60 => ?_)
        · replace hf := ip c60 hf
          refine lv_iconst (v := 0) hx hb dX10_readPart_78 (by decide) ?_
          exact hret 0 I V _ _ 79 _ rfl hf hP hD hS dX10_readPart_79
        · replace hf := im c60 hf
          refine lv_aload_n hx hb dX10_readPart_63 rfl (lv_at hl 0 rfl) ?_
          refine lv_dup hx hb dX10_readPart_64 rfl ?_
          refine va_get (D := D) (ci := 10) (v := .int (I 3)) (C := RX10) (T := TX10) (N := 38) hx hb hts in_X10 hown hK hP 0 rfl rfl 3 (by decide) g_108 (fun _ h9 => h9) rfl dX10_readPart_65 ?_
          refine lv_iconst (v := 1) hx hb dX10_readPart_68 (by decide) ?_
          refine lv_iadd hx hb dX10_readPart_69 ?_
          refine va_put (D := D) (ci := 10) (v := .int ((I 3) + 1)) (ty := .int) (C := RX10) (T := TX10) (N := 38) hx hb hts in_X10 tyX10 tyX10_ok nmX10 hown hK hP hD hS 0 rfl rfl 3 (by decide) g_108 (fun _ h9 => h9) rfl (by decide +kernel) rfl rfl (Nat.le_of_ble_eq_true rfl) dX10_readPart_70 (fun H locs hP hD hS => ?_)
          have hP : va_P D vwCl (w_M cs o h (va_up I 3 ((I 3) + 1)) V) H := hP
          have hD : va_D A (w_M cs o h (va_up I 3 ((I 3) + 1)) V) := hD
          refine lv_aload_n hx hb dX10_readPart_73 rfl (lv_at hl 0 rfl) ?_
          obtain ⟨zr2, I3, V4, qr2, hf⟩ := bd3 hf
          have hFc := xfree hD hS hA
          refine va_calli (va_runV (As := []) (rest := []) ⟨hx, hb, hml, hown, hts⟩ (c_M_readDebt l D cs o h _ (va_up I 3 ((I 3) + 1)) V f _ qr2) w_readDebt_125 ⟨xP_moved, va_recv hK hP (ci := 10) (q0 := 0) rfl rfl, fun U hU hW => ⟨rfl, by rw [hU], by rw [hU]; exact hP, va_K.moved hW.alike hK, hD.weaken (fun _ _ _ _ => trivial)⟩⟩ rfl rfl hl.1 rfl (lv_room (Nat.le_of_ble_eq_true rfl)) dX10_readPart_74 ⟨Nat.zero_le _, Nat.zero_le _⟩) hS (fun q _ h9 => hFc q h9) hFc (fun r2 u t H1 locs ht hvm hw hB hz1 hk1 hS => ?_)
          have er2 := congrArg Prod.fst hw
          have eu := congrArg Prod.snd hw
          dsimp only at er2 eu
          rw [er2]
          rw [eu] at hB
          obtain ⟨hP1, hK1, hD1⟩ := hB
          have hP : va_P D vwCl (w_M cs o h I3 V4) H1 := by rw [← ht]; exact hP1
          have hD : va_D A (w_M cs o h I3 V4) := hD1.weaken (fun _ q _ h9 => hFc q.1 h9)
          obtain ⟨c77, hf⟩ := gp hf
          exact hret zr2 I3 V4 _ _ 77 _ (by show Value.int (zr2 &&& 1) = .int zr2; rw [c77]) hf hP hD hS dX10_readPart_77
  refine lv_icmp_ne (tgt := 40) hx hb dX10_readPart_13 (by decide) (fun c13 => ?_) (fun c13 => ?_)
  · replace hf := im c13 hf
    exact J40 () hf _ _ hP hD hS _ (lv_sub hl [1, 0] rfl)
  · replace hf := ip c13 hf
    refine lv_aload_n hx hb dX10_readPart_16 rfl (lv_at hl 1 rfl) ?_
    refine va_get (D := D) (ci := 10) (v := .int (I 15)) (C := RX10) (T := TX10) (N := 38) hx hb hts in_X10 hown hK hP 0 rfl rfl 15 (by decide) g_115 (fun _ h9 => h9) rfl dX10_readPart_17 ?_
    refine lv_bipush (v := 6) hx hb dX10_readPart_20 (by decide) ?_
    refine lv_icmp_ge (tgt := 40) hx hb dX10_readPart_22 (by decide) (fun c22 => ?_) (fun c22 => ?_)
    · replace hf := ip c22 hf
      exact J40 () hf _ _ hP hD hS _ (lv_sub hl [1, 0] rfl)
    · replace hf := im c22 hf
      refine lv_aload_n hx hb dX10_readPart_25 rfl (lv_at hl 1 rfl) ?_
      refine lv_dup hx hb dX10_readPart_26 rfl ?_
      refine va_get (D := D) (ci := 10) (v := .int (I 3)) (C := RX10) (T := TX10) (N := 38) hx hb hts in_X10 hown hK hP 0 rfl rfl 3 (by decide) g_108 (fun _ h9 => h9) rfl dX10_readPart_27 ?_
      refine lv_iconst (v := 1) hx hb dX10_readPart_30 (by decide) ?_
      refine lv_iadd hx hb dX10_readPart_31 ?_
      refine va_put (D := D) (ci := 10) (v := .int ((I 3) + 1)) (ty := .int) (C := RX10) (T := TX10) (N := 38) hx hb hts in_X10 tyX10 tyX10_ok nmX10 hown hK hP hD hS 0 rfl rfl 3 (by decide) g_108 (fun _ h9 => h9) rfl (by decide +kernel) rfl rfl (Nat.le_of_ble_eq_true rfl) dX10_readPart_32 (fun H locs hP hD hS => ?_)
      have hP : va_P D vwCl (w_M cs o h (va_up I 3 ((I 3) + 1)) V) H := hP
      have hD : va_D A (w_M cs o h (va_up I 3 ((I 3) + 1)) V) := hD
      refine lv_aload_n hx hb dX10_readPart_35 rfl (lv_at hl 1 rfl) ?_
      obtain ⟨zr5, I6, V7, qr5, hf⟩ := bd3 hf
      have hFc := xfree hD hS hA
      refine va_calli (va_runV (As := []) (rest := []) ⟨hx, hb, hml, hown, hts⟩ (c_M_readPerson l D cs o h _ (va_up I 3 ((I 3) + 1)) V f _ qr5) w_readPerson_121 ⟨xP_moved, va_recv hK hP (ci := 10) (q0 := 0) rfl rfl, fun U hU hW => ⟨rfl, by rw [hU], by rw [hU]; exact hP, va_K.moved hW.alike hK, hD.weaken (fun _ _ _ _ => trivial)⟩⟩ rfl rfl hl.1 rfl (lv_room (Nat.le_of_ble_eq_true rfl)) dX10_readPart_36 ⟨Nat.zero_le _, Nat.zero_le _⟩) hS (fun q _ h9 => hFc q h9) hFc (fun r5 u t H1 locs ht hvm hw hB hz1 hk1 hS => ?_)
      have er5 := congrArg Prod.fst hw
      have eu := congrArg Prod.snd hw
      dsimp only at er5 eu
      rw [er5]
      rw [eu] at hB
      obtain ⟨hP1, hK1, hD1⟩ := hB
      have hP : va_P D vwCl (w_M cs o h I6 V7) H1 := by rw [← ht]; exact hP1
      have hD : va_D A (w_M cs o h I6 V7) := hD1.weaken (fun _ q _ h9 => hFc q.1 h9)
      obtain ⟨c39, hf⟩ := gp hf
      exact hret zr5 I6 V7 _ _ 39 _ (by show Value.int (zr5 &&& 1) = .int zr5; rw [c39]) hf hP hD hS dX10_readPart_39
def M_readBook_L15 {ρ : Type} (f : Nat) (k_15 : FI → FV → Option ρ) : Nat → FI → FV → Option ρ
  | 0, _, _ => none
  | n_15 + 1, Im_15, Vm_15 => (if (Im_15 2) ≤ (Im_15 3) then (k_15 Im_15 Vm_15) else ob3 (M_readPart f Im_15 Vm_15) (fun zr1 I2 V3 => (if zr1 = 0 then some ((I2 3), I2, V3) else (M_readBook_L15 f k_15 n_15 I2 V3))))
def M_readBook (f : Nat) (I : FI) (V : FV) : Option (Int32 × FI × FV) := (M_readBook_L15 f (fun (Im_15 : FI) (Vm_15 : FV) => some ((-9), Im_15, Vm_15)) f (va_up (va_up (va_up I 3 0) 15 0) 16 0) V)
abbrev rm_M_readBook : Room := { frames := 4, cells := 0, slots := 0, locals := 93 }
set_option maxHeartbeats 4000000 in
set_option maxRecDepth 100000 in
theorem c_M_readBook (l : Launch) (D : va_G) (cs : Nat → ClassId) (o : Nat) (h : Nat → Nat) (sz : Nat) (I : FI) (V : FV) (f : Nat) (out : Int32 × FI × FV) (hf : M_readBook f I V = some out) : Met l yX10_readBook wsX10_readBook rm_M_readBook (va_Pc [.ref o] (xP D cs (w_M cs o h I V) sz)) (va_Qi (fun r u => (r, u) = out) (fun (u : FI × FV) t => xA D cs (va_A (w_M cs o h I V) sz) (w_M cs o h u.1 u.2) t) (va_A (w_M cs o h I V) sz)) 0 0 (va_A (w_M cs o h I V) sz) := by
  refine Met.ofW (cc := cX10_readBook) (maxL := 1) (ret := (some .int)) (by decide) rfl ?_
  intro p e s m args below meth c s₁ B hml hv
  obtain ⟨ha, hsz, hP, hK, hD0⟩ := hv
  have hx := B.exec
  have hb := B.bytes
  have hr := B.returns
  have hts := atoms_spec (ws := wsX10_readBook) B.pre
  have hown : s.vm.findClass RX10 = some m.cls := findClass_of_methodNamed B.named
  have hlocks := B.notSynchronized
  have in_X10 : ∀ w ∈ u_ws RX10 TX10 38, w ∈ wsX10_readBook := fun w h => List.mem_cons_of_mem _ (List.mem_append_right _ h)
  have g_108 := hts (.fieldLink RX10 108 "DaysLentModel" "place" "I") (by decide +kernel)
  have g_115 := hts (.fieldLink RX10 115 "DaysLentModel" "readPeople" "I") (by decide +kernel)
  have g_118 := hts (.fieldLink RX10 118 "DaysLentModel" "readDebts" "I") (by decide +kernel)
  have g_105 := hts (.fieldLink RX10 105 "DaysLentModel" "textSize" "I") (by decide +kernel)
  have w_readPart_128 := cwV (R := rm_M_readBook) (s := s) (args := args) (rm := rm_M_readPart) (mc := 0) (ms := 0) 0 hts gX10_readBook_X10_readPart rfl rfl rfl (by decide +kernel) ⟨Nat.le_of_ble_eq_true rfl, Nat.le_of_ble_eq_true rfl⟩
  subst hsz
  have hD := hD0.self (sz := s.heap.size)
  generalize hAe : va_A (w_M cs o h I V) s.heap.size = A at hD ⊢
  have hA : ∀ q : Nat, s.heap.size ≤ q → A q := fun q h => by rw [← hAe]; exact Or.inr h
  have hS : va_S A s.heap s.heap [] := va_S.rf
  have hl := lv_entry ([.ref o]) (n := 1) (Nat.le_of_ble_eq_true rfl)
  rw [show entryFrame m args 1 = entryFrame m ([.ref o] : List Value).toArray 1 from by rw [ha], lg_entry_eq]
  generalize (lg_sl ([.ref o]) ++ List.replicate (1 - (lg_sl ([.ref o])).length) Slot.unset).toArray = ls at hl ⊢
  have hl : lv_has ls 1 [(0, .ref o)] := hl
  generalize hQ : MQ below (va_Qi (fun r u => (r, u) = out) (fun (u : FI × FV) t => xA D cs A (w_M cs o h u.1 u.2) t) A) args s 0 0 A = Q
  show W p l e rm_M_readBook s m args below meth c s.heap [] 0 0 Q (F0 m 0 ls [])
  have hret : ∀ (v : Int32) (Im9 : FI) (Vm9 : FV) (H : Heap) (locs : List Loc) (pc : Nat) (ls : Array Slot), some (v, Im9, Vm9) = some out → va_P D vwCl (w_M cs o h Im9 Vm9) H → va_D A (w_M cs o h Im9 Vm9) → va_S A s.heap H locs → decode cX10_readBook pc = .ok (.ireturn, 1) → W p l e rm_M_readBook s m args below meth c H locs 0 0 Q (F0 m pc ls [.int v]) := by
    intro v Im9 Vm9 H locs pc ls hf hP hD hS hd
    rw [← hQ]
    exact W.iret (v := v) hx hb hr (fun t ht hW => ⟨⟨v, (Im9, Vm9), rfl, Option.some.inj hf, by show va_P D vwCl (w_M cs o h Im9 Vm9) t.heap; rw [ht]; exact hP, va_K.moved hW.alike hK, hD⟩, hS.F ht⟩) hS.2.2 hd
  unfold M_readBook at hf
  refine lv_aload_n hx hb dX10_readBook_0 rfl (lv_at hl 0 rfl) ?_
  refine lv_iconst (v := 0) hx hb dX10_readBook_1 (by decide) ?_
  refine va_put (D := D) (ci := 10) (v := .int 0) (ty := .int) (C := RX10) (T := TX10) (N := 38) hx hb hts in_X10 tyX10 tyX10_ok nmX10 hown hK hP hD hS 0 rfl rfl 3 (by decide) g_108 (fun _ h9 => h9) rfl (by decide +kernel) rfl rfl (Nat.le_of_ble_eq_true rfl) dX10_readBook_2 (fun H locs hP hD hS => ?_)
  have hP : va_P D vwCl (w_M cs o h (va_up I 3 0) V) H := hP
  have hD : va_D A (w_M cs o h (va_up I 3 0) V) := hD
  refine lv_aload_n hx hb dX10_readBook_5 rfl (lv_at hl 0 rfl) ?_
  refine lv_iconst (v := 0) hx hb dX10_readBook_6 (by decide) ?_
  refine va_put (D := D) (ci := 10) (v := .int 0) (ty := .int) (C := RX10) (T := TX10) (N := 38) hx hb hts in_X10 tyX10 tyX10_ok nmX10 hown hK hP hD hS 0 rfl rfl 15 (by decide) g_115 (fun _ h9 => h9) rfl (by decide +kernel) rfl rfl (Nat.le_of_ble_eq_true rfl) dX10_readBook_7 (fun H locs hP hD hS => ?_)
  have hP : va_P D vwCl (w_M cs o h (va_up (va_up I 3 0) 15 0) V) H := hP
  have hD : va_D A (w_M cs o h (va_up (va_up I 3 0) 15 0) V) := hD
  refine lv_aload_n hx hb dX10_readBook_10 rfl (lv_at hl 0 rfl) ?_
  refine lv_iconst (v := 0) hx hb dX10_readBook_11 (by decide) ?_
  refine va_put (D := D) (ci := 10) (v := .int 0) (ty := .int) (C := RX10) (T := TX10) (N := 38) hx hb hts in_X10 tyX10 tyX10_ok nmX10 hown hK hP hD hS 0 rfl rfl 16 (by decide) g_118 (fun _ h9 => h9) rfl (by decide +kernel) rfl rfl (Nat.le_of_ble_eq_true rfl) dX10_readBook_12 (fun H locs hP hD hS => ?_)
  have hP : va_P D vwCl (w_M cs o h (va_up (va_up (va_up I 3 0) 15 0) 16 0) V) H := hP
  have hD : va_D A (w_M cs o h (va_up (va_up (va_up I 3 0) 15 0) 16 0) V) := hD
  have L15 : ∀ (k_15 : FI → FV → Option (Int32 × FI × FV)) (hk_15 : ∀ (Im_15 : FI) (Vm_15 : FV), k_15 Im_15 Vm_15 = some out → ∀ (H : Heap) (locs : List Loc), va_P D vwCl (w_M cs o h Im_15 Vm_15) H → va_D A (w_M cs o h Im_15 Vm_15) → va_S A s.heap H locs → ∀ ls : Array Slot, lv_has ls 1 [] → W p l e rm_M_readBook s m args below meth c H locs 0 0 Q (F0 m 38 ls [])), ∀ (n_15 : Nat) (Im_15 : FI) (Vm_15 : FV), M_readBook_L15 f k_15 n_15 Im_15 Vm_15 = some out → ∀ (H : Heap) (locs : List Loc), va_P D vwCl (w_M cs o h Im_15 Vm_15) H → va_D A (w_M cs o h Im_15 Vm_15) → va_S A s.heap H locs → ∀ ls : Array Slot, lv_has ls 1 [(0, .ref o)] → W p l e rm_M_readBook s m args below meth c H locs 0 0 Q (F0 m 15 ls []) := by
    intro k_15 hk_15 n_15
    induction n_15 with
    | zero => intro Im_15 Vm_15 hf; rw [M_readBook_L15] at hf; cases hf
    | succ n_15 ih_15 =>
      intro Im_15 Vm_15 hf H locs hP hD hS ls hl
      rw [M_readBook_L15] at hf
      refine lv_aload_n hx hb dX10_readBook_15 rfl (lv_at hl 0 rfl) ?_
      refine va_get (D := D) (ci := 10) (v := .int (Im_15 3)) (C := RX10) (T := TX10) (N := 38) hx hb hts in_X10 hown hK hP 0 rfl rfl 3 (by decide) g_108 (fun _ h9 => h9) rfl dX10_readBook_16 ?_
      refine lv_aload_n hx hb dX10_readBook_19 rfl (lv_at hl 0 rfl) ?_
      refine va_get (D := D) (ci := 10) (v := .int (Im_15 2)) (C := RX10) (T := TX10) (N := 38) hx hb hts in_X10 hown hK hP 0 rfl rfl 2 (by decide) g_105 (fun _ h9 => h9) rfl dX10_readBook_20 ?_
      refine lv_icmp_ge (tgt := 38) hx hb dX10_readBook_23 (by decide) (fun c23 => ?_) (fun c23 => ?_)
      · replace hf := ip c23 hf
        exact hk_15 Im_15 Vm_15 hf _ _ hP hD hS _ (lv_sub hl [] rfl)
      · replace hf := im c23 hf
        refine lv_aload_n hx hb dX10_readBook_26 rfl (lv_at hl 0 rfl) ?_
        obtain ⟨zr1, I2, V3, qr1, hf⟩ := bd3 hf
        have hFc := xfree hD hS hA
        refine va_calli (va_runV (As := []) (rest := []) ⟨hx, hb, hml, hown, hts⟩ (c_M_readPart l D cs o h _ Im_15 Vm_15 f _ qr1) w_readPart_128 ⟨xP_moved, va_recv hK hP (ci := 10) (q0 := 0) rfl rfl, fun U hU hW => ⟨rfl, by rw [hU], by rw [hU]; exact hP, va_K.moved hW.alike hK, hD.weaken (fun _ _ _ _ => trivial)⟩⟩ rfl rfl hl.1 rfl (lv_room (Nat.le_of_ble_eq_true rfl)) dX10_readBook_27 ⟨Nat.zero_le _, Nat.zero_le _⟩) hS (fun q _ h9 => hFc q h9) hFc (fun r1 u t H1 locs ht hvm hw hB hz1 hk1 hS => ?_)
        have er1 := congrArg Prod.fst hw
        have eu := congrArg Prod.snd hw
        dsimp only at er1 eu
        rw [er1]
        rw [eu] at hB
        obtain ⟨hP1, hK1, hD1⟩ := hB
        have hP : va_P D vwCl (w_M cs o h I2 V3) H1 := by rw [← ht]; exact hP1
        have hD : va_D A (w_M cs o h I2 V3) := hD1.weaken (fun _ q _ h9 => hFc q.1 h9)
        refine lv_if_ne (tgt := 15) hx hb dX10_readBook_30 (by decide) (fun c30 => ?_) (fun c30 => ?_)
        · replace hf := im c30 hf
          exact ih_15 I2 V3 hf _ _ hP hD hS _ (lv_sub hl [0] rfl)
        · replace hf := ip c30 hf
          refine lv_aload_n hx hb dX10_readBook_33 rfl (lv_at hl 0 rfl) ?_
          refine va_get (D := D) (ci := 10) (v := .int (I2 3)) (C := RX10) (T := TX10) (N := 38) hx hb hts in_X10 hown hK hP 0 rfl rfl 3 (by decide) g_108 (fun _ h9 => h9) rfl dX10_readBook_34 ?_
          exact hret (I2 3) I2 V3 _ _ 37 _ hf hP hD hS dX10_readBook_37
  refine L15 _ (fun Im_15 Vm_15 hf H locs hP hD hS ls hl => ?_) f (va_up (va_up (va_up I 3 0) 15 0) 16 0) V hf _ _ hP hD hS _ (lv_sub hl [0] rfl)
  refine lv_bipush (v := (-9)) hx hb dX10_readBook_38 (by decide) ?_
  exact hret (-9) Im_15 Vm_15 _ _ 40 _ hf hP hD hS dX10_readBook_40
def M_fault (f : Nat) (I : FI) (V : FV) : Option (Int32 × FI × FV) := ob3 (M_readBook f (va_up I 0 0) V) (fun zr1 I2 V3 => some (zr1, I2, V3))
abbrev rm_M_fault : Room := { frames := 5, cells := 0, slots := 0, locals := 113 }
set_option maxHeartbeats 4000000 in
set_option maxRecDepth 100000 in
theorem c_M_fault (l : Launch) (D : va_G) (cs : Nat → ClassId) (o : Nat) (h : Nat → Nat) (sz : Nat) (I : FI) (V : FV) (f : Nat) (out : Int32 × FI × FV) (hf : M_fault f I V = some out) : Met l yX10_fault wsX10_fault rm_M_fault (va_Pc [.ref o] (xP D cs (w_M cs o h I V) sz)) (va_Qi (fun r u => (r, u) = out) (fun (u : FI × FV) t => xA D cs (va_A (w_M cs o h I V) sz) (w_M cs o h u.1 u.2) t) (va_A (w_M cs o h I V) sz)) 0 0 (va_A (w_M cs o h I V) sz) := by
  refine Met.ofW (cc := cX10_fault) (maxL := 1) (ret := (some .int)) (by decide) rfl ?_
  intro p e s m args below meth c s₁ B hml hv
  obtain ⟨ha, hsz, hP, hK, hD0⟩ := hv
  have hx := B.exec
  have hb := B.bytes
  have hr := B.returns
  have hts := atoms_spec (ws := wsX10_fault) B.pre
  have hown : s.vm.findClass RX10 = some m.cls := findClass_of_methodNamed B.named
  have hlocks := B.notSynchronized
  have in_X10 : ∀ w ∈ u_ws RX10 TX10 38, w ∈ wsX10_fault := fun w h => List.mem_cons_of_mem _ (List.mem_append_right _ h)
  have g_92 := hts (.fieldLink RX10 92 "DaysLentModel" "thrown" "I") (by decide +kernel)
  have w_readBook_131 := cwV (R := rm_M_fault) (s := s) (args := args) (rm := rm_M_readBook) (mc := 0) (ms := 0) 0 hts gX10_fault_X10_readBook rfl rfl rfl (by decide +kernel) ⟨Nat.le_of_ble_eq_true rfl, Nat.le_of_ble_eq_true rfl⟩
  subst hsz
  have hD := hD0.self (sz := s.heap.size)
  generalize hAe : va_A (w_M cs o h I V) s.heap.size = A at hD ⊢
  have hA : ∀ q : Nat, s.heap.size ≤ q → A q := fun q h => by rw [← hAe]; exact Or.inr h
  have hS : va_S A s.heap s.heap [] := va_S.rf
  have hl := lv_entry ([.ref o]) (n := 1) (Nat.le_of_ble_eq_true rfl)
  rw [show entryFrame m args 1 = entryFrame m ([.ref o] : List Value).toArray 1 from by rw [ha], lg_entry_eq]
  generalize (lg_sl ([.ref o]) ++ List.replicate (1 - (lg_sl ([.ref o])).length) Slot.unset).toArray = ls at hl ⊢
  have hl : lv_has ls 1 [(0, .ref o)] := hl
  generalize hQ : MQ below (va_Qi (fun r u => (r, u) = out) (fun (u : FI × FV) t => xA D cs A (w_M cs o h u.1 u.2) t) A) args s 0 0 A = Q
  show W p l e rm_M_fault s m args below meth c s.heap [] 0 0 Q (F0 m 0 ls [])
  have hret : ∀ (v : Int32) (Im9 : FI) (Vm9 : FV) (H : Heap) (locs : List Loc) (pc : Nat) (ls : Array Slot), some (v, Im9, Vm9) = some out → va_P D vwCl (w_M cs o h Im9 Vm9) H → va_D A (w_M cs o h Im9 Vm9) → va_S A s.heap H locs → decode cX10_fault pc = .ok (.ireturn, 1) → W p l e rm_M_fault s m args below meth c H locs 0 0 Q (F0 m pc ls [.int v]) := by
    intro v Im9 Vm9 H locs pc ls hf hP hD hS hd
    rw [← hQ]
    exact W.iret (v := v) hx hb hr (fun t ht hW => ⟨⟨v, (Im9, Vm9), rfl, Option.some.inj hf, by show va_P D vwCl (w_M cs o h Im9 Vm9) t.heap; rw [ht]; exact hP, va_K.moved hW.alike hK, hD⟩, hS.F ht⟩) hS.2.2 hd
  unfold M_fault at hf
  refine lv_aload_n hx hb dX10_fault_0 rfl (lv_at hl 0 rfl) ?_
  refine lv_iconst (v := 0) hx hb dX10_fault_1 (by decide) ?_
  refine va_put (D := D) (ci := 10) (v := .int 0) (ty := .int) (C := RX10) (T := TX10) (N := 38) hx hb hts in_X10 tyX10 tyX10_ok nmX10 hown hK hP hD hS 0 rfl rfl 0 (by decide) g_92 (fun _ h9 => h9) rfl (by decide +kernel) rfl rfl (Nat.le_of_ble_eq_true rfl) dX10_fault_2 (fun H locs hP hD hS => ?_)
  have hP : va_P D vwCl (w_M cs o h (va_up I 0 0) V) H := hP
  have hD : va_D A (w_M cs o h (va_up I 0 0) V) := hD
  refine lv_aload_n hx hb dX10_fault_5 rfl (lv_at hl 0 rfl) ?_
  obtain ⟨zr1, I2, V3, qr1, hf⟩ := bd3 hf
  have hFc := xfree hD hS hA
  refine va_calli (va_runV (As := []) (rest := []) ⟨hx, hb, hml, hown, hts⟩ (c_M_readBook l D cs o h _ (va_up I 0 0) V f _ qr1) w_readBook_131 ⟨xP_moved, va_recv hK hP (ci := 10) (q0 := 0) rfl rfl, fun U hU hW => ⟨rfl, by rw [hU], by rw [hU]; exact hP, va_K.moved hW.alike hK, hD.weaken (fun _ _ _ _ => trivial)⟩⟩ rfl rfl hl.1 rfl (lv_room (Nat.le_of_ble_eq_true rfl)) dX10_fault_6 ⟨Nat.zero_le _, Nat.zero_le _⟩) hS (fun q _ h9 => hFc q h9) hFc (fun r1 u t H1 locs ht hvm hw hB hz1 hk1 hS => ?_)
  have er1 := congrArg Prod.fst hw
  have eu := congrArg Prod.snd hw
  dsimp only at er1 eu
  rw [er1]
  rw [eu] at hB
  obtain ⟨hP1, hK1, hD1⟩ := hB
  have hP : va_P D vwCl (w_M cs o h I2 V3) H1 := by rw [← ht]; exact hP1
  have hD : va_D A (w_M cs o h I2 V3) := hD1.weaken (fun _ q _ h9 => hFc q.1 h9)
  exact hret zr1 I2 V3 _ _ 9 _ hf hP hD hS dX10_fault_9
def M_book_L35 {ρ : Type} (f : Nat) (I4 : FI) (k_35 : FV → Option ρ) : Nat → Int32 → FV → Option ρ
  | 0, _, _ => none
  | n_35 + 1, x1_35, Vm_35 => (if (I4 4) ≤ x1_35 then (k_35 Vm_35) else if x1_35 < 0 ∨ 6 ≤ x1_35.toNatClampNeg then none else (if x1_35 < 0 ∨ 6 ≤ x1_35.toNatClampNeg then none else (if x1_35 < 0 ∨ 6 ≤ x1_35.toNatClampNeg then none else (if x1_35 < 0 ∨ 6 ≤ x1_35.toNatClampNeg then none else (if x1_35 < 0 ∨ 6 ≤ x1_35.toNatClampNeg then none else (if x1_35 < 0 ∨ 6 ≤ x1_35.toNatClampNeg then none else ((M_book_L35 f I4 k_35 n_35 (x1_35 + 1) (va_up (va_up (va_up (va_up Vm_35 5 (upd (Vm_35 5) x1_35.toNatClampNeg ((Vm_35 17) x1_35.toNatClampNeg))) 6 (upd (Vm_35 6) x1_35.toNatClampNeg ((Vm_35 18) x1_35.toNatClampNeg))) 7 (upd (Vm_35 7) x1_35.toNatClampNeg (vp_nar .boolean 0))) 8 (upd (Vm_35 8) x1_35.toNatClampNeg (vp_nar .boolean 0)))))))))))
def M_book_L89 {ρ : Type} (f : Nat) (I4 : FI) (k_89 : FV → Option ρ) : Nat → Int32 → FV → Option ρ
  | 0, _, _ => none
  | n_89 + 1, x1_89, Vm_89 => (if (I4 9) ≤ x1_89 then (k_89 Vm_89) else if x1_89 < 0 ∨ 8 ≤ x1_89.toNatClampNeg then none else (if x1_89 < 0 ∨ 12 ≤ x1_89.toNatClampNeg then none else (if x1_89 < 0 ∨ 8 ≤ x1_89.toNatClampNeg then none else (if x1_89 < 0 ∨ 12 ≤ x1_89.toNatClampNeg then none else (if x1_89 < 0 ∨ 8 ≤ x1_89.toNatClampNeg then none else (if x1_89 < 0 ∨ 12 ≤ x1_89.toNatClampNeg then none else (if x1_89 < 0 ∨ 8 ≤ x1_89.toNatClampNeg then none else (if x1_89 < 0 ∨ 12 ≤ x1_89.toNatClampNeg then none else ((M_book_L89 f I4 k_89 n_89 (x1_89 + 1) (va_up (va_up (va_up (va_up Vm_89 10 (upd (Vm_89 10) x1_89.toNatClampNeg ((Vm_89 19) x1_89.toNatClampNeg))) 11 (upd (Vm_89 11) x1_89.toNatClampNeg ((Vm_89 20) x1_89.toNatClampNeg))) 12 (upd (Vm_89 12) x1_89.toNatClampNeg ((Vm_89 21) x1_89.toNatClampNeg))) 13 (upd (Vm_89 13) x1_89.toNatClampNeg ((Vm_89 22) x1_89.toNatClampNeg)))))))))))))
def M_book (f : Nat) (I : FI) (V : FV) : Option (Int32 × FI × FV) := ob3 (M_readBook f (va_up I 0 0) V) (fun zr1 I2 V3 => (if zr1 = (-9) then nm (va_up (va_up I2 4 (I2 15)) 9 (I2 16)) (fun I4 => (M_book_L35 f I4 (fun (Vm_35 : FV) => (M_book_L89 f I4 (fun (Vm_89 : FV) => some ((I4 4), (va_up (va_up I4 14 0) 24 0), (va_up Vm_89 26 (upd (upd (Vm_89 26) (0 : Int32).toNatClampNeg (vp_nar .boolean 0)) (1 : Int32).toNatClampNeg (vp_nar .boolean 0))))) f 0 Vm_35)) f 0 V3)) else some ((-3), I2, V3)))
abbrev rm_M_book : Room := { frames := 5, cells := 0, slots := 0, locals := 113 }
set_option maxHeartbeats 4000000 in
set_option maxRecDepth 100000 in
theorem c_M_book (l : Launch) (D : va_G) (cs : Nat → ClassId) (o : Nat) (h : Nat → Nat) (sz : Nat) (I : FI) (V : FV) (f : Nat) (out : Int32 × FI × FV) (hf : M_book f I V = some out) : Met l yX10_book wsX10_book rm_M_book (va_Pc [.ref o] (xP D cs (w_M cs o h I V) sz)) (va_Qi (fun r u => (r, u) = out) (fun (u : FI × FV) t => xA D cs (va_A (w_M cs o h I V) sz) (w_M cs o h u.1 u.2) t) (va_A (w_M cs o h I V) sz)) 0 0 (va_A (w_M cs o h I V) sz) := by
  refine Met.ofW (cc := cX10_book) (maxL := 2) (ret := (some .int)) (by decide) rfl ?_
  intro p e s m args below meth c s₁ B hml hv
  obtain ⟨ha, hsz, hP, hK, hD0⟩ := hv
  have hx := B.exec
  have hb := B.bytes
  have hr := B.returns
  have hts := atoms_spec (ws := wsX10_book) B.pre
  have hown : s.vm.findClass RX10 = some m.cls := findClass_of_methodNamed B.named
  have hlocks := B.notSynchronized
  have in_X10 : ∀ w ∈ u_ws RX10 TX10 38, w ∈ wsX10_book := fun w h => List.mem_cons_of_mem _ (List.mem_append_right _ h)
  have g_92 := hts (.fieldLink RX10 92 "DaysLentModel" "thrown" "I") (by decide +kernel)
  have w_readBook_131 := cwV (R := rm_M_book) (s := s) (args := args) (rm := rm_M_readBook) (mc := 0) (ms := 0) 0 hts gX10_book_X10_readBook rfl rfl rfl (by decide +kernel) ⟨Nat.le_of_ble_eq_true rfl, Nat.le_of_ble_eq_true rfl⟩
  have g_115 := hts (.fieldLink RX10 115 "DaysLentModel" "readPeople" "I") (by decide +kernel)
  have g_96 := hts (.fieldLink RX10 96 "DaysLentModel" "people" "I") (by decide +kernel)
  have g_118 := hts (.fieldLink RX10 118 "DaysLentModel" "readDebts" "I") (by decide +kernel)
  have g_135 := hts (.fieldLink RX10 135 "DaysLentModel" "debts" "I") (by decide +kernel)
  have g_13 := hts (.fieldLink RX10 13 "DaysLentModel" "mornings" "[I") (by decide +kernel)
  have g_38 := hts (.fieldLink RX10 38 "DaysLentModel" "readMornings" "[I") (by decide +kernel)
  have g_16 := hts (.fieldLink RX10 16 "DaysLentModel" "asks" "[I") (by decide +kernel)
  have g_41 := hts (.fieldLink RX10 41 "DaysLentModel" "readAsks" "[I") (by decide +kernel)
  have g_19 := hts (.fieldLink RX10 19 "DaysLentModel" "dead" "[Z") (by decide +kernel)
  have g_23 := hts (.fieldLink RX10 23 "DaysLentModel" "broken" "[Z") (by decide +kernel)
  have g_26 := hts (.fieldLink RX10 26 "DaysLentModel" "owed" "[I") (by decide +kernel)
  have g_44 := hts (.fieldLink RX10 44 "DaysLentModel" "readOwed" "[I") (by decide +kernel)
  have g_29 := hts (.fieldLink RX10 29 "DaysLentModel" "owes" "[I") (by decide +kernel)
  have g_47 := hts (.fieldLink RX10 47 "DaysLentModel" "readOwes" "[I") (by decide +kernel)
  have g_32 := hts (.fieldLink RX10 32 "DaysLentModel" "much" "[I") (by decide +kernel)
  have g_50 := hts (.fieldLink RX10 50 "DaysLentModel" "readMuch" "[I") (by decide +kernel)
  have g_35 := hts (.fieldLink RX10 35 "DaysLentModel" "due" "[I") (by decide +kernel)
  have g_53 := hts (.fieldLink RX10 53 "DaysLentModel" "readDue" "[I") (by decide +kernel)
  have g_138 := hts (.fieldLink RX10 138 "DaysLentModel" "week" "I") (by decide +kernel)
  have g_141 := hts (.fieldLink RX10 141 "DaysLentModel" "acts" "I") (by decide +kernel)
  have g_62 := hts (.fieldLink RX10 62 "DaysLentModel" "isKept" "[Z") (by decide +kernel)
  subst hsz
  have hD := hD0.self (sz := s.heap.size)
  generalize hAe : va_A (w_M cs o h I V) s.heap.size = A at hD ⊢
  have hA : ∀ q : Nat, s.heap.size ≤ q → A q := fun q h => by rw [← hAe]; exact Or.inr h
  have hS : va_S A s.heap s.heap [] := va_S.rf
  have hl := lv_entry ([.ref o]) (n := 2) (Nat.le_of_ble_eq_true rfl)
  rw [show entryFrame m args 2 = entryFrame m ([.ref o] : List Value).toArray 2 from by rw [ha], lg_entry_eq]
  generalize (lg_sl ([.ref o]) ++ List.replicate (2 - (lg_sl ([.ref o])).length) Slot.unset).toArray = ls at hl ⊢
  have hl : lv_has ls 2 [(0, .ref o)] := hl
  generalize hQ : MQ below (va_Qi (fun r u => (r, u) = out) (fun (u : FI × FV) t => xA D cs A (w_M cs o h u.1 u.2) t) A) args s 0 0 A = Q
  show W p l e rm_M_book s m args below meth c s.heap [] 0 0 Q (F0 m 0 ls [])
  have hret : ∀ (v : Int32) (Im9 : FI) (Vm9 : FV) (H : Heap) (locs : List Loc) (pc : Nat) (ls : Array Slot), some (v, Im9, Vm9) = some out → va_P D vwCl (w_M cs o h Im9 Vm9) H → va_D A (w_M cs o h Im9 Vm9) → va_S A s.heap H locs → decode cX10_book pc = .ok (.ireturn, 1) → W p l e rm_M_book s m args below meth c H locs 0 0 Q (F0 m pc ls [.int v]) := by
    intro v Im9 Vm9 H locs pc ls hf hP hD hS hd
    rw [← hQ]
    exact W.iret (v := v) hx hb hr (fun t ht hW => ⟨⟨v, (Im9, Vm9), rfl, Option.some.inj hf, by show va_P D vwCl (w_M cs o h Im9 Vm9) t.heap; rw [ht]; exact hP, va_K.moved hW.alike hK, hD⟩, hS.F ht⟩) hS.2.2 hd
  unfold M_book at hf
  refine lv_aload_n hx hb dX10_book_0 rfl (lv_at hl 0 rfl) ?_
  refine lv_iconst (v := 0) hx hb dX10_book_1 (by decide) ?_
  refine va_put (D := D) (ci := 10) (v := .int 0) (ty := .int) (C := RX10) (T := TX10) (N := 38) hx hb hts in_X10 tyX10 tyX10_ok nmX10 hown hK hP hD hS 0 rfl rfl 0 (by decide) g_92 (fun _ h9 => h9) rfl (by decide +kernel) rfl rfl (Nat.le_of_ble_eq_true rfl) dX10_book_2 (fun H locs hP hD hS => ?_)
  have hP : va_P D vwCl (w_M cs o h (va_up I 0 0) V) H := hP
  have hD : va_D A (w_M cs o h (va_up I 0 0) V) := hD
  refine lv_aload_n hx hb dX10_book_5 rfl (lv_at hl 0 rfl) ?_
  obtain ⟨zr1, I2, V3, qr1, hf⟩ := bd3 hf
  have hFc := xfree hD hS hA
  refine va_calli (va_runV (As := []) (rest := []) ⟨hx, hb, hml, hown, hts⟩ (c_M_readBook l D cs o h _ (va_up I 0 0) V f _ qr1) w_readBook_131 ⟨xP_moved, va_recv hK hP (ci := 10) (q0 := 0) rfl rfl, fun U hU hW => ⟨rfl, by rw [hU], by rw [hU]; exact hP, va_K.moved hW.alike hK, hD.weaken (fun _ _ _ _ => trivial)⟩⟩ rfl rfl hl.1 rfl (lv_room (Nat.le_of_ble_eq_true rfl)) dX10_book_6 ⟨Nat.zero_le _, Nat.zero_le _⟩) hS (fun q _ h9 => hFc q h9) hFc (fun r1 u t H1 locs ht hvm hw hB hz1 hk1 hS => ?_)
  have er1 := congrArg Prod.fst hw
  have eu := congrArg Prod.snd hw
  dsimp only at er1 eu
  rw [er1]
  rw [eu] at hB
  obtain ⟨hP1, hK1, hD1⟩ := hB
  have hP : va_P D vwCl (w_M cs o h I2 V3) H1 := by rw [← ht]; exact hP1
  have hD : va_D A (w_M cs o h I2 V3) := hD1.weaken (fun _ q _ h9 => hFc q.1 h9)
  refine lv_bipush (v := (-9)) hx hb dX10_book_9 (by decide) ?_
  refine lv_icmp_eq (tgt := 17) hx hb dX10_book_11 (by decide) (fun c11 => ?_) (fun c11 => ?_)
  · replace hf := ip c11 hf
    refine lv_aload_n hx hb dX10_book_17 rfl (lv_at hl 0 rfl) ?_
    refine lv_aload_n hx hb dX10_book_18 rfl (lv_at hl 0 rfl) ?_
    refine va_get (D := D) (ci := 10) (v := .int (I2 15)) (C := RX10) (T := TX10) (N := 38) hx hb hts in_X10 hown hK hP 0 rfl rfl 15 (by decide) g_115 (fun _ h9 => h9) rfl dX10_book_19 ?_
    refine va_put (D := D) (ci := 10) (v := .int (I2 15)) (ty := .int) (C := RX10) (T := TX10) (N := 38) hx hb hts in_X10 tyX10 tyX10_ok nmX10 hown hK hP hD hS 0 rfl rfl 4 (by decide) g_96 (fun _ h9 => h9) rfl (by decide +kernel) rfl rfl (Nat.le_of_ble_eq_true rfl) dX10_book_22 (fun H locs hP hD hS => ?_)
    have hP : va_P D vwCl (w_M cs o h (va_up I2 4 (I2 15)) V3) H := hP
    have hD : va_D A (w_M cs o h (va_up I2 4 (I2 15)) V3) := hD
    refine lv_aload_n hx hb dX10_book_25 rfl (lv_at hl 0 rfl) ?_
    refine lv_aload_n hx hb dX10_book_26 rfl (lv_at hl 0 rfl) ?_
    refine va_get (D := D) (ci := 10) (v := .int (I2 16)) (C := RX10) (T := TX10) (N := 38) hx hb hts in_X10 hown hK hP 0 rfl rfl 16 (by decide) g_118 (fun _ h9 => h9) rfl dX10_book_27 ?_
    refine va_put (D := D) (ci := 10) (v := .int (I2 16)) (ty := .int) (C := RX10) (T := TX10) (N := 38) hx hb hts in_X10 tyX10 tyX10_ok nmX10 hown hK hP hD hS 0 rfl rfl 9 (by decide) g_135 (fun _ h9 => h9) rfl (by decide +kernel) rfl rfl (Nat.le_of_ble_eq_true rfl) dX10_book_30 (fun H locs hP hD hS => ?_)
    have hP : va_P D vwCl (w_M cs o h (va_up (va_up I2 4 (I2 15)) 9 (I2 16)) V3) H := hP
    have hD : va_D A (w_M cs o h (va_up (va_up I2 4 (I2 15)) 9 (I2 16)) V3) := hD
    refine lv_iconst (v := 0) hx hb dX10_book_33 (by decide) ?_
    refine lv_istore_n (lv' := [(1, .int 0), (0, .ref o)]) hx hb dX10_book_34 rfl hl (by decide) rfl (fun ls hl => ?_)
    obtain ⟨I4, eI4, hf⟩ := nme hf
    rw [← eI4] at hP hD
    have L35 : ∀ (k_35 : FV → Option (Int32 × FI × FV)) (hk_35 : ∀ (Vm_35 : FV), k_35 Vm_35 = some out → ∀ (H : Heap) (locs : List Loc), va_P D vwCl (w_M cs o h I4 Vm_35) H → va_D A (w_M cs o h I4 Vm_35) → va_S A s.heap H locs → ∀ ls : Array Slot, lv_has ls 2 [(0, .ref o)] → W p l e rm_M_book s m args below meth c H locs 0 0 Q (F0 m 87 ls [])), ∀ (n_35 : Nat) (x1_35 : Int32) (Vm_35 : FV), M_book_L35 f I4 k_35 n_35 x1_35 Vm_35 = some out → ∀ (H : Heap) (locs : List Loc), va_P D vwCl (w_M cs o h I4 Vm_35) H → va_D A (w_M cs o h I4 Vm_35) → va_S A s.heap H locs → ∀ ls : Array Slot, lv_has ls 2 [(0, .ref o), (1, .int x1_35)] → W p l e rm_M_book s m args below meth c H locs 0 0 Q (F0 m 35 ls []) := by
      intro k_35 hk_35 n_35
      induction n_35 with
      | zero => intro x1_35 Vm_35 hf; rw [M_book_L35] at hf; cases hf
      | succ n_35 ih_35 =>
        intro x1_35 Vm_35 hf H locs hP hD hS ls hl
        rw [M_book_L35] at hf
        refine lv_iload_n hx hb dX10_book_35 rfl (lv_at hl 1 rfl) ?_
        refine lv_aload_n hx hb dX10_book_36 rfl (lv_at hl 0 rfl) ?_
        refine va_get (D := D) (ci := 10) (v := .int (I4 4)) (C := RX10) (T := TX10) (N := 38) hx hb hts in_X10 hown hK hP 0 rfl rfl 4 (by decide) g_96 (fun _ h9 => h9) rfl dX10_book_37 ?_
        refine lv_icmp_ge (tgt := 87) hx hb dX10_book_40 (by decide) (fun c40 => ?_) (fun c40 => ?_)
        · replace hf := ip c40 hf
          exact hk_35 Vm_35 hf _ _ hP hD hS _ (lv_sub hl [0] rfl)
        · replace hf := im c40 hf
          refine lv_aload_n hx hb dX10_book_43 rfl (lv_at hl 0 rfl) ?_
          refine va_get (D := D) (ci := 10) (v := .ref (h 5)) (C := RX10) (T := TX10) (N := 38) hx hb hts in_X10 hown hK hP 0 rfl rfl 5 (by decide) g_13 (fun _ h9 => h9) rfl dX10_book_44 ?_
          refine lv_iload_n hx hb dX10_book_47 rfl (lv_at hl 1 rfl) ?_
          refine lv_aload_n hx hb dX10_book_48 rfl (lv_at hl 0 rfl) ?_
          refine va_get (D := D) (ci := 10) (v := .ref (h 17)) (C := RX10) (T := TX10) (N := 38) hx hb hts in_X10 hown hK hP 0 rfl rfl 17 (by decide) g_38 (fun _ h9 => h9) rfl dX10_book_49 ?_
          refine lv_iload_n hx hb dX10_book_52 rfl (lv_at hl 1 rfl) ?_
          obtain ⟨c53, hf⟩ := gd hf
          refine va_iald hx hb hK hP 10 0 rfl rfl c53 dX10_book_53 ?_
          obtain ⟨c54, hf⟩ := gd hf
          refine va_iast hx hb hK hP hD hS 2 0 rfl rfl c54 dX10_book_54 (fun H locs hP hD hS => ?_)
          have hP : va_P D vwCl (w_M cs o h I4 (va_up Vm_35 5 (upd (Vm_35 5) x1_35.toNatClampNeg ((Vm_35 17) x1_35.toNatClampNeg)))) H := hP
          have hD : va_D A (w_M cs o h I4 (va_up Vm_35 5 (upd (Vm_35 5) x1_35.toNatClampNeg ((Vm_35 17) x1_35.toNatClampNeg)))) := hD
          refine lv_aload_n hx hb dX10_book_55 rfl (lv_at hl 0 rfl) ?_
          refine va_get (D := D) (ci := 10) (v := .ref (h 6)) (C := RX10) (T := TX10) (N := 38) hx hb hts in_X10 hown hK hP 0 rfl rfl 6 (by decide) g_16 (fun _ h9 => h9) rfl dX10_book_56 ?_
          refine lv_iload_n hx hb dX10_book_59 rfl (lv_at hl 1 rfl) ?_
          refine lv_aload_n hx hb dX10_book_60 rfl (lv_at hl 0 rfl) ?_
          refine va_get (D := D) (ci := 10) (v := .ref (h 18)) (C := RX10) (T := TX10) (N := 38) hx hb hts in_X10 hown hK hP 0 rfl rfl 18 (by decide) g_41 (fun _ h9 => h9) rfl dX10_book_61 ?_
          refine lv_iload_n hx hb dX10_book_64 rfl (lv_at hl 1 rfl) ?_
          obtain ⟨c65, hf⟩ := gd hf
          refine va_iald hx hb hK hP 11 0 rfl rfl c65 dX10_book_65 ?_
          obtain ⟨c66, hf⟩ := gd hf
          refine va_iast hx hb hK hP hD hS 3 0 rfl rfl c66 dX10_book_66 (fun H locs hP hD hS => ?_)
          have hP : va_P D vwCl (w_M cs o h I4 (va_up (va_up Vm_35 5 (upd (Vm_35 5) x1_35.toNatClampNeg ((Vm_35 17) x1_35.toNatClampNeg))) 6 (upd (Vm_35 6) x1_35.toNatClampNeg ((Vm_35 18) x1_35.toNatClampNeg)))) H := hP
          have hD : va_D A (w_M cs o h I4 (va_up (va_up Vm_35 5 (upd (Vm_35 5) x1_35.toNatClampNeg ((Vm_35 17) x1_35.toNatClampNeg))) 6 (upd (Vm_35 6) x1_35.toNatClampNeg ((Vm_35 18) x1_35.toNatClampNeg)))) := hD
          refine lv_aload_n hx hb dX10_book_67 rfl (lv_at hl 0 rfl) ?_
          refine va_get (D := D) (ci := 10) (v := .ref (h 7)) (C := RX10) (T := TX10) (N := 38) hx hb hts in_X10 hown hK hP 0 rfl rfl 7 (by decide) g_19 (fun _ h9 => h9) rfl dX10_book_68 ?_
          refine lv_iload_n hx hb dX10_book_71 rfl (lv_at hl 1 rfl) ?_
          refine lv_iconst (v := 0) hx hb dX10_book_72 (by decide) ?_
          obtain ⟨c73, hf⟩ := gd hf
          refine va_zast hx hb hK hP hD hS 4 1 rfl rfl c73 dX10_book_73 (fun H locs hP hD hS => ?_)
          have hP : va_P D vwCl (w_M cs o h I4 (va_up (va_up (va_up Vm_35 5 (upd (Vm_35 5) x1_35.toNatClampNeg ((Vm_35 17) x1_35.toNatClampNeg))) 6 (upd (Vm_35 6) x1_35.toNatClampNeg ((Vm_35 18) x1_35.toNatClampNeg))) 7 (upd (Vm_35 7) x1_35.toNatClampNeg (vp_nar .boolean 0)))) H := hP
          have hD : va_D A (w_M cs o h I4 (va_up (va_up (va_up Vm_35 5 (upd (Vm_35 5) x1_35.toNatClampNeg ((Vm_35 17) x1_35.toNatClampNeg))) 6 (upd (Vm_35 6) x1_35.toNatClampNeg ((Vm_35 18) x1_35.toNatClampNeg))) 7 (upd (Vm_35 7) x1_35.toNatClampNeg (vp_nar .boolean 0)))) := hD
          refine lv_aload_n hx hb dX10_book_74 rfl (lv_at hl 0 rfl) ?_
          refine va_get (D := D) (ci := 10) (v := .ref (h 8)) (C := RX10) (T := TX10) (N := 38) hx hb hts in_X10 hown hK hP 0 rfl rfl 8 (by decide) g_23 (fun _ h9 => h9) rfl dX10_book_75 ?_
          refine lv_iload_n hx hb dX10_book_78 rfl (lv_at hl 1 rfl) ?_
          refine lv_iconst (v := 0) hx hb dX10_book_79 (by decide) ?_
          obtain ⟨c80, hf⟩ := gd hf
          refine va_zast hx hb hK hP hD hS 5 1 rfl rfl c80 dX10_book_80 (fun H locs hP hD hS => ?_)
          have hP : va_P D vwCl (w_M cs o h I4 (va_up (va_up (va_up (va_up Vm_35 5 (upd (Vm_35 5) x1_35.toNatClampNeg ((Vm_35 17) x1_35.toNatClampNeg))) 6 (upd (Vm_35 6) x1_35.toNatClampNeg ((Vm_35 18) x1_35.toNatClampNeg))) 7 (upd (Vm_35 7) x1_35.toNatClampNeg (vp_nar .boolean 0))) 8 (upd (Vm_35 8) x1_35.toNatClampNeg (vp_nar .boolean 0)))) H := hP
          have hD : va_D A (w_M cs o h I4 (va_up (va_up (va_up (va_up Vm_35 5 (upd (Vm_35 5) x1_35.toNatClampNeg ((Vm_35 17) x1_35.toNatClampNeg))) 6 (upd (Vm_35 6) x1_35.toNatClampNeg ((Vm_35 18) x1_35.toNatClampNeg))) 7 (upd (Vm_35 7) x1_35.toNatClampNeg (vp_nar .boolean 0))) 8 (upd (Vm_35 8) x1_35.toNatClampNeg (vp_nar .boolean 0)))) := hD
          refine lv_iinc (v := (x1_35 + 1)) (lv' := [(1, .int (x1_35 + 1)), (0, .ref o)]) hx hb dX10_book_81 hl (k := 1) rfl (by rfl) (by decide) rfl (fun ls hl => ?_)
          refine lv_goto (tgt := 35) hx hb dX10_book_84 (by decide) ?_
          exact ih_35 (x1_35 + 1) (va_up (va_up (va_up (va_up Vm_35 5 (upd (Vm_35 5) x1_35.toNatClampNeg ((Vm_35 17) x1_35.toNatClampNeg))) 6 (upd (Vm_35 6) x1_35.toNatClampNeg ((Vm_35 18) x1_35.toNatClampNeg))) 7 (upd (Vm_35 7) x1_35.toNatClampNeg (vp_nar .boolean 0))) 8 (upd (Vm_35 8) x1_35.toNatClampNeg (vp_nar .boolean 0))) hf _ _ hP hD hS _ (lv_sub hl [1, 0] rfl)
    refine L35 _ (fun Vm_35 hf H locs hP hD hS ls hl => ?_) f 0 V3 hf _ _ hP hD hS _ (lv_sub hl [1, 0] rfl)
    refine lv_iconst (v := 0) hx hb dX10_book_87 (by decide) ?_
    refine lv_istore_n (lv' := [(1, .int 0), (0, .ref o)]) hx hb dX10_book_88 rfl hl (by decide) rfl (fun ls hl => ?_)
    have L89 : ∀ (k_89 : FV → Option (Int32 × FI × FV)) (hk_89 : ∀ (Vm_89 : FV), k_89 Vm_89 = some out → ∀ (H : Heap) (locs : List Loc), va_P D vwCl (w_M cs o h I4 Vm_89) H → va_D A (w_M cs o h I4 Vm_89) → va_S A s.heap H locs → ∀ ls : Array Slot, lv_has ls 2 [(0, .ref o)] → W p l e rm_M_book s m args below meth c H locs 0 0 Q (F0 m 151 ls [])), ∀ (n_89 : Nat) (x1_89 : Int32) (Vm_89 : FV), M_book_L89 f I4 k_89 n_89 x1_89 Vm_89 = some out → ∀ (H : Heap) (locs : List Loc), va_P D vwCl (w_M cs o h I4 Vm_89) H → va_D A (w_M cs o h I4 Vm_89) → va_S A s.heap H locs → ∀ ls : Array Slot, lv_has ls 2 [(0, .ref o), (1, .int x1_89)] → W p l e rm_M_book s m args below meth c H locs 0 0 Q (F0 m 89 ls []) := by
      intro k_89 hk_89 n_89
      induction n_89 with
      | zero => intro x1_89 Vm_89 hf; rw [M_book_L89] at hf; cases hf
      | succ n_89 ih_89 =>
        intro x1_89 Vm_89 hf H locs hP hD hS ls hl
        rw [M_book_L89] at hf
        refine lv_iload_n hx hb dX10_book_89 rfl (lv_at hl 1 rfl) ?_
        refine lv_aload_n hx hb dX10_book_90 rfl (lv_at hl 0 rfl) ?_
        refine va_get (D := D) (ci := 10) (v := .int (I4 9)) (C := RX10) (T := TX10) (N := 38) hx hb hts in_X10 hown hK hP 0 rfl rfl 9 (by decide) g_135 (fun _ h9 => h9) rfl dX10_book_91 ?_
        refine lv_icmp_ge (tgt := 151) hx hb dX10_book_94 (by decide) (fun c94 => ?_) (fun c94 => ?_)
        · replace hf := ip c94 hf
          exact hk_89 Vm_89 hf _ _ hP hD hS _ (lv_sub hl [0] rfl)
        · replace hf := im c94 hf
          refine lv_aload_n hx hb dX10_book_97 rfl (lv_at hl 0 rfl) ?_
          refine va_get (D := D) (ci := 10) (v := .ref (h 10)) (C := RX10) (T := TX10) (N := 38) hx hb hts in_X10 hown hK hP 0 rfl rfl 10 (by decide) g_26 (fun _ h9 => h9) rfl dX10_book_98 ?_
          refine lv_iload_n hx hb dX10_book_101 rfl (lv_at hl 1 rfl) ?_
          refine lv_aload_n hx hb dX10_book_102 rfl (lv_at hl 0 rfl) ?_
          refine va_get (D := D) (ci := 10) (v := .ref (h 19)) (C := RX10) (T := TX10) (N := 38) hx hb hts in_X10 hown hK hP 0 rfl rfl 19 (by decide) g_44 (fun _ h9 => h9) rfl dX10_book_103 ?_
          refine lv_iload_n hx hb dX10_book_106 rfl (lv_at hl 1 rfl) ?_
          obtain ⟨c107, hf⟩ := gd hf
          refine va_iald hx hb hK hP 12 0 rfl rfl c107 dX10_book_107 ?_
          obtain ⟨c108, hf⟩ := gd hf
          refine va_iast hx hb hK hP hD hS 6 0 rfl rfl c108 dX10_book_108 (fun H locs hP hD hS => ?_)
          have hP : va_P D vwCl (w_M cs o h I4 (va_up Vm_89 10 (upd (Vm_89 10) x1_89.toNatClampNeg ((Vm_89 19) x1_89.toNatClampNeg)))) H := hP
          have hD : va_D A (w_M cs o h I4 (va_up Vm_89 10 (upd (Vm_89 10) x1_89.toNatClampNeg ((Vm_89 19) x1_89.toNatClampNeg)))) := hD
          refine lv_aload_n hx hb dX10_book_109 rfl (lv_at hl 0 rfl) ?_
          refine va_get (D := D) (ci := 10) (v := .ref (h 11)) (C := RX10) (T := TX10) (N := 38) hx hb hts in_X10 hown hK hP 0 rfl rfl 11 (by decide) g_29 (fun _ h9 => h9) rfl dX10_book_110 ?_
          refine lv_iload_n hx hb dX10_book_113 rfl (lv_at hl 1 rfl) ?_
          refine lv_aload_n hx hb dX10_book_114 rfl (lv_at hl 0 rfl) ?_
          refine va_get (D := D) (ci := 10) (v := .ref (h 20)) (C := RX10) (T := TX10) (N := 38) hx hb hts in_X10 hown hK hP 0 rfl rfl 20 (by decide) g_47 (fun _ h9 => h9) rfl dX10_book_115 ?_
          refine lv_iload_n hx hb dX10_book_118 rfl (lv_at hl 1 rfl) ?_
          obtain ⟨c119, hf⟩ := gd hf
          refine va_iald hx hb hK hP 13 0 rfl rfl c119 dX10_book_119 ?_
          obtain ⟨c120, hf⟩ := gd hf
          refine va_iast hx hb hK hP hD hS 7 0 rfl rfl c120 dX10_book_120 (fun H locs hP hD hS => ?_)
          have hP : va_P D vwCl (w_M cs o h I4 (va_up (va_up Vm_89 10 (upd (Vm_89 10) x1_89.toNatClampNeg ((Vm_89 19) x1_89.toNatClampNeg))) 11 (upd (Vm_89 11) x1_89.toNatClampNeg ((Vm_89 20) x1_89.toNatClampNeg)))) H := hP
          have hD : va_D A (w_M cs o h I4 (va_up (va_up Vm_89 10 (upd (Vm_89 10) x1_89.toNatClampNeg ((Vm_89 19) x1_89.toNatClampNeg))) 11 (upd (Vm_89 11) x1_89.toNatClampNeg ((Vm_89 20) x1_89.toNatClampNeg)))) := hD
          refine lv_aload_n hx hb dX10_book_121 rfl (lv_at hl 0 rfl) ?_
          refine va_get (D := D) (ci := 10) (v := .ref (h 12)) (C := RX10) (T := TX10) (N := 38) hx hb hts in_X10 hown hK hP 0 rfl rfl 12 (by decide) g_32 (fun _ h9 => h9) rfl dX10_book_122 ?_
          refine lv_iload_n hx hb dX10_book_125 rfl (lv_at hl 1 rfl) ?_
          refine lv_aload_n hx hb dX10_book_126 rfl (lv_at hl 0 rfl) ?_
          refine va_get (D := D) (ci := 10) (v := .ref (h 21)) (C := RX10) (T := TX10) (N := 38) hx hb hts in_X10 hown hK hP 0 rfl rfl 21 (by decide) g_50 (fun _ h9 => h9) rfl dX10_book_127 ?_
          refine lv_iload_n hx hb dX10_book_130 rfl (lv_at hl 1 rfl) ?_
          obtain ⟨c131, hf⟩ := gd hf
          refine va_iald hx hb hK hP 14 0 rfl rfl c131 dX10_book_131 ?_
          obtain ⟨c132, hf⟩ := gd hf
          refine va_iast hx hb hK hP hD hS 8 0 rfl rfl c132 dX10_book_132 (fun H locs hP hD hS => ?_)
          have hP : va_P D vwCl (w_M cs o h I4 (va_up (va_up (va_up Vm_89 10 (upd (Vm_89 10) x1_89.toNatClampNeg ((Vm_89 19) x1_89.toNatClampNeg))) 11 (upd (Vm_89 11) x1_89.toNatClampNeg ((Vm_89 20) x1_89.toNatClampNeg))) 12 (upd (Vm_89 12) x1_89.toNatClampNeg ((Vm_89 21) x1_89.toNatClampNeg)))) H := hP
          have hD : va_D A (w_M cs o h I4 (va_up (va_up (va_up Vm_89 10 (upd (Vm_89 10) x1_89.toNatClampNeg ((Vm_89 19) x1_89.toNatClampNeg))) 11 (upd (Vm_89 11) x1_89.toNatClampNeg ((Vm_89 20) x1_89.toNatClampNeg))) 12 (upd (Vm_89 12) x1_89.toNatClampNeg ((Vm_89 21) x1_89.toNatClampNeg)))) := hD
          refine lv_aload_n hx hb dX10_book_133 rfl (lv_at hl 0 rfl) ?_
          refine va_get (D := D) (ci := 10) (v := .ref (h 13)) (C := RX10) (T := TX10) (N := 38) hx hb hts in_X10 hown hK hP 0 rfl rfl 13 (by decide) g_35 (fun _ h9 => h9) rfl dX10_book_134 ?_
          refine lv_iload_n hx hb dX10_book_137 rfl (lv_at hl 1 rfl) ?_
          refine lv_aload_n hx hb dX10_book_138 rfl (lv_at hl 0 rfl) ?_
          refine va_get (D := D) (ci := 10) (v := .ref (h 22)) (C := RX10) (T := TX10) (N := 38) hx hb hts in_X10 hown hK hP 0 rfl rfl 22 (by decide) g_53 (fun _ h9 => h9) rfl dX10_book_139 ?_
          refine lv_iload_n hx hb dX10_book_142 rfl (lv_at hl 1 rfl) ?_
          obtain ⟨c143, hf⟩ := gd hf
          refine va_iald hx hb hK hP 15 0 rfl rfl c143 dX10_book_143 ?_
          obtain ⟨c144, hf⟩ := gd hf
          refine va_iast hx hb hK hP hD hS 9 0 rfl rfl c144 dX10_book_144 (fun H locs hP hD hS => ?_)
          have hP : va_P D vwCl (w_M cs o h I4 (va_up (va_up (va_up (va_up Vm_89 10 (upd (Vm_89 10) x1_89.toNatClampNeg ((Vm_89 19) x1_89.toNatClampNeg))) 11 (upd (Vm_89 11) x1_89.toNatClampNeg ((Vm_89 20) x1_89.toNatClampNeg))) 12 (upd (Vm_89 12) x1_89.toNatClampNeg ((Vm_89 21) x1_89.toNatClampNeg))) 13 (upd (Vm_89 13) x1_89.toNatClampNeg ((Vm_89 22) x1_89.toNatClampNeg)))) H := hP
          have hD : va_D A (w_M cs o h I4 (va_up (va_up (va_up (va_up Vm_89 10 (upd (Vm_89 10) x1_89.toNatClampNeg ((Vm_89 19) x1_89.toNatClampNeg))) 11 (upd (Vm_89 11) x1_89.toNatClampNeg ((Vm_89 20) x1_89.toNatClampNeg))) 12 (upd (Vm_89 12) x1_89.toNatClampNeg ((Vm_89 21) x1_89.toNatClampNeg))) 13 (upd (Vm_89 13) x1_89.toNatClampNeg ((Vm_89 22) x1_89.toNatClampNeg)))) := hD
          refine lv_iinc (v := (x1_89 + 1)) (lv' := [(1, .int (x1_89 + 1)), (0, .ref o)]) hx hb dX10_book_145 hl (k := 1) rfl (by rfl) (by decide) rfl (fun ls hl => ?_)
          refine lv_goto (tgt := 89) hx hb dX10_book_148 (by decide) ?_
          exact ih_89 (x1_89 + 1) (va_up (va_up (va_up (va_up Vm_89 10 (upd (Vm_89 10) x1_89.toNatClampNeg ((Vm_89 19) x1_89.toNatClampNeg))) 11 (upd (Vm_89 11) x1_89.toNatClampNeg ((Vm_89 20) x1_89.toNatClampNeg))) 12 (upd (Vm_89 12) x1_89.toNatClampNeg ((Vm_89 21) x1_89.toNatClampNeg))) 13 (upd (Vm_89 13) x1_89.toNatClampNeg ((Vm_89 22) x1_89.toNatClampNeg))) hf _ _ hP hD hS _ (lv_sub hl [1, 0] rfl)
    refine L89 _ (fun Vm_89 hf H locs hP hD hS ls hl => ?_) f 0 Vm_35 hf _ _ hP hD hS _ (lv_sub hl [1, 0] rfl)
    refine lv_aload_n hx hb dX10_book_151 rfl (lv_at hl 0 rfl) ?_
    refine lv_iconst (v := 0) hx hb dX10_book_152 (by decide) ?_
    refine va_put (D := D) (ci := 10) (v := .int 0) (ty := .int) (C := RX10) (T := TX10) (N := 38) hx hb hts in_X10 tyX10 tyX10_ok nmX10 hown hK hP hD hS 0 rfl rfl 14 (by decide) g_138 (fun _ h9 => h9) rfl (by decide +kernel) rfl rfl (Nat.le_of_ble_eq_true rfl) dX10_book_153 (fun H locs hP hD hS => ?_)
    have hP : va_P D vwCl (w_M cs o h (va_up I4 14 0) Vm_89) H := hP
    have hD : va_D A (w_M cs o h (va_up I4 14 0) Vm_89) := hD
    refine lv_aload_n hx hb dX10_book_156 rfl (lv_at hl 0 rfl) ?_
    refine lv_iconst (v := 0) hx hb dX10_book_157 (by decide) ?_
    refine va_put (D := D) (ci := 10) (v := .int 0) (ty := .int) (C := RX10) (T := TX10) (N := 38) hx hb hts in_X10 tyX10 tyX10_ok nmX10 hown hK hP hD hS 0 rfl rfl 24 (by decide) g_141 (fun _ h9 => h9) rfl (by decide +kernel) rfl rfl (Nat.le_of_ble_eq_true rfl) dX10_book_158 (fun H locs hP hD hS => ?_)
    have hP : va_P D vwCl (w_M cs o h (va_up (va_up I4 14 0) 24 0) Vm_89) H := hP
    have hD : va_D A (w_M cs o h (va_up (va_up I4 14 0) 24 0) Vm_89) := hD
    refine lv_aload_n hx hb dX10_book_161 rfl (lv_at hl 0 rfl) ?_
    refine va_get (D := D) (ci := 10) (v := .ref (h 26)) (C := RX10) (T := TX10) (N := 38) hx hb hts in_X10 hown hK hP 0 rfl rfl 26 (by decide) g_62 (fun _ h9 => h9) rfl dX10_book_162 ?_
    refine lv_iconst (v := 0) hx hb dX10_book_165 (by decide) ?_
    refine lv_iconst (v := 0) hx hb dX10_book_166 (by decide) ?_
    refine va_zast hx hb hK hP hD hS 18 1 rfl rfl (by unfold vp_in; decide) dX10_book_167 (fun H locs hP hD hS => ?_)
    have hP : va_P D vwCl (w_M cs o h (va_up (va_up I4 14 0) 24 0) (va_up Vm_89 26 (upd (Vm_89 26) (0 : Int32).toNatClampNeg (vp_nar .boolean 0)))) H := hP
    have hD : va_D A (w_M cs o h (va_up (va_up I4 14 0) 24 0) (va_up Vm_89 26 (upd (Vm_89 26) (0 : Int32).toNatClampNeg (vp_nar .boolean 0)))) := hD
    refine lv_aload_n hx hb dX10_book_168 rfl (lv_at hl 0 rfl) ?_
    refine va_get (D := D) (ci := 10) (v := .ref (h 26)) (C := RX10) (T := TX10) (N := 38) hx hb hts in_X10 hown hK hP 0 rfl rfl 26 (by decide) g_62 (fun _ h9 => h9) rfl dX10_book_169 ?_
    refine lv_iconst (v := 1) hx hb dX10_book_172 (by decide) ?_
    refine lv_iconst (v := 0) hx hb dX10_book_173 (by decide) ?_
    refine va_zast hx hb hK hP hD hS 18 1 rfl rfl (by unfold vp_in; decide) dX10_book_174 (fun H locs hP hD hS => ?_)
    have hP : va_P D vwCl (w_M cs o h (va_up (va_up I4 14 0) 24 0) (va_up Vm_89 26 (upd (upd (Vm_89 26) (0 : Int32).toNatClampNeg (vp_nar .boolean 0)) (1 : Int32).toNatClampNeg (vp_nar .boolean 0)))) H := hP
    have hD : va_D A (w_M cs o h (va_up (va_up I4 14 0) 24 0) (va_up Vm_89 26 (upd (upd (Vm_89 26) (0 : Int32).toNatClampNeg (vp_nar .boolean 0)) (1 : Int32).toNatClampNeg (vp_nar .boolean 0)))) := hD
    refine lv_aload_n hx hb dX10_book_175 rfl (lv_at hl 0 rfl) ?_
    refine va_get (D := D) (ci := 10) (v := .int (I4 4)) (C := RX10) (T := TX10) (N := 38) hx hb hts in_X10 hown hK hP 0 rfl rfl 4 (by decide) g_96 (fun _ h9 => h9) rfl dX10_book_176 ?_
    exact hret (I4 4) (va_up (va_up I4 14 0) 24 0) (va_up Vm_89 26 (upd (upd (Vm_89 26) (0 : Int32).toNatClampNeg (vp_nar .boolean 0)) (1 : Int32).toNatClampNeg (vp_nar .boolean 0))) _ _ 179 _ hf hP hD hS dX10_book_179
  · replace hf := im c11 hf
    refine lv_bipush (v := (-3)) hx hb dX10_book_14 (by decide) ?_
    exact hret (-3) I2 V3 _ _ 16 _ hf hP hD hS dX10_book_16
def M_owesAll_L4 {ρ : Type} (f : Nat) (I : FI) (V : FV) (x1 : Int32) (k_4 : Int32 → Option ρ) : Nat → Int32 → Int32 → Option ρ
  | 0, _, _ => none
  | n_4 + 1, x2_4, x3_4 => (if (I 9) ≤ x3_4 then (k_4 x2_4) else if x3_4 < 0 ∨ 12 ≤ x3_4.toNatClampNeg then none else ((nm (fun (t1_33 : Int32) => (M_owesAll_L4 f I V x1 k_4 n_4 (x2_4 + t1_33) (x3_4 + 1))) (fun j33 => (if ((V 11) x3_4.toNatClampNeg) = x1 then if x3_4 < 0 ∨ 12 ≤ x3_4.toNatClampNeg then none else ((j33 ((V 12) x3_4.toNatClampNeg))) else (j33 0))))))
def M_owesAll (f : Nat) (x1 : Int32) (I : FI) (V : FV) : Option (Int32) := (M_owesAll_L4 f I V x1 (fun (x2_4 : Int32) => some x2_4) f 0 0)
abbrev rm_M_owesAll : Room := { frames := 0, cells := 0, slots := 0, locals := 0 }
set_option maxHeartbeats 4000000 in
set_option maxRecDepth 100000 in
theorem c_M_owesAll (l : Launch) (D : va_G) (cs : Nat → ClassId) (o : Nat) (h : Nat → Nat) (I : FI) (V : FV) (x1 : Int32) (f : Nat) (out : Int32) (hf : M_owesAll f x1 I V = some out) : Met l yX10_owesAll wsX10_owesAll rm_M_owesAll (va_Pc [.ref o, .int x1] (xR D cs (w_M cs o h I V))) (vp_Si (fun r => r = out)) 0 0 (fun _ => False) := by
  refine Met.ofW (cc := cX10_owesAll) (maxL := 4) (ret := (some .int)) (by decide) rfl ?_
  intro p e s m args below meth c s₁ B hml hv
  obtain ⟨ha, hP, hK⟩ := hv
  have hx := B.exec
  have hb := B.bytes
  have hr := B.returns
  have hts := atoms_spec (ws := wsX10_owesAll) B.pre
  have hown : s.vm.findClass RX10 = some m.cls := findClass_of_methodNamed B.named
  have hlocks := B.notSynchronized
  have in_X10 : ∀ w ∈ u_ws RX10 TX10 38, w ∈ wsX10_owesAll := fun w h => List.mem_cons_of_mem _ (List.mem_append_right _ h)
  have g_135 := hts (.fieldLink RX10 135 "DaysLentModel" "debts" "I") (by decide +kernel)
  have g_29 := hts (.fieldLink RX10 29 "DaysLentModel" "owes" "[I") (by decide +kernel)
  have g_32 := hts (.fieldLink RX10 32 "DaysLentModel" "much" "[I") (by decide +kernel)
  have hl := lv_entry ([.ref o, .int x1]) (n := 4) (Nat.le_of_ble_eq_true rfl)
  rw [show entryFrame m args 4 = entryFrame m ([.ref o, .int x1] : List Value).toArray 4 from by rw [ha], lg_entry_eq]
  generalize (lg_sl ([.ref o, .int x1]) ++ List.replicate (4 - (lg_sl ([.ref o, .int x1])).length) Slot.unset).toArray = ls at hl ⊢
  have hl : lv_has ls 4 [(0, .ref o), (1, .int x1)] := hl
  generalize hQ : MQ below (vp_Si (fun r => r = out)) args s 0 0 (fun _ => False) = Q
  show W p l e rm_M_owesAll s m args below meth c s.heap [] 0 0 Q (F0 m 0 ls [])
  have hret : ∀ (v : Int32) (pc : Nat) (ls : Array Slot), some v = some out → decode cX10_owesAll pc = .ok (.ireturn, 1) → W p l e rm_M_owesAll s m args below meth c s.heap [] 0 0 Q (F0 m pc ls [.int v]) := by
    intro v pc ls hf hd
    rw [← hQ]
    exact W.iret (v := v) hx hb hr (fun t ht hW => ⟨v, rfl, Option.some.inj hf, ht⟩) (fun q h => by cases h) hd
  unfold M_owesAll at hf
  refine lv_iconst (v := 0) hx hb dX10_owesAll_0 (by decide) ?_
  refine lv_istore_n (lv' := [(2, .int 0), (0, .ref o), (1, .int x1)]) hx hb dX10_owesAll_1 rfl hl (by decide) rfl (fun ls hl => ?_)
  refine lv_iconst (v := 0) hx hb dX10_owesAll_2 (by decide) ?_
  refine lv_istore_n (lv' := [(3, .int 0), (2, .int 0), (0, .ref o), (1, .int x1)]) hx hb dX10_owesAll_3 rfl hl (by decide) rfl (fun ls hl => ?_)
  have L4 : ∀ (k_4 : Int32 → Option (Int32)) (hk_4 : ∀ (x2_4 : Int32), k_4 x2_4 = some out → ∀ ls : Array Slot, lv_has ls 4 [(2, .int x2_4)] → W p l e rm_M_owesAll s m args below meth c s.heap [] 0 0 Q (F0 m 41 ls [])), ∀ (n_4 : Nat) (x2_4 : Int32) (x3_4 : Int32), M_owesAll_L4 f I V x1 k_4 n_4 x2_4 x3_4 = some out → ∀ ls : Array Slot, lv_has ls 4 [(0, .ref o), (1, .int x1), (2, .int x2_4), (3, .int x3_4)] → W p l e rm_M_owesAll s m args below meth c s.heap [] 0 0 Q (F0 m 4 ls []) := by
    intro k_4 hk_4 n_4
    induction n_4 with
    | zero => intro x2_4 x3_4 hf; rw [M_owesAll_L4] at hf; cases hf
    | succ n_4 ih_4 =>
      intro x2_4 x3_4 hf ls hl
      rw [M_owesAll_L4] at hf
      refine lv_iload_n hx hb dX10_owesAll_4 rfl (lv_at hl 3 rfl) ?_
      refine lv_aload_n hx hb dX10_owesAll_5 rfl (lv_at hl 0 rfl) ?_
      refine va_get (D := D) (ci := 10) (v := .int (I 9)) (C := RX10) (T := TX10) (N := 38) hx hb hts in_X10 hown hK hP 0 rfl rfl 9 (by decide) g_135 (fun _ h9 => h9) rfl dX10_owesAll_6 ?_
      refine lv_icmp_ge (tgt := 41) hx hb dX10_owesAll_9 (by decide) (fun c9 => ?_) (fun c9 => ?_)
      · replace hf := ip c9 hf
        exact hk_4 x2_4 hf _ (lv_sub hl [2] rfl)
      · replace hf := im c9 hf
        refine lv_iload_n hx hb dX10_owesAll_12 rfl (lv_at hl 2 rfl) ?_
        refine lv_aload_n hx hb dX10_owesAll_13 rfl (lv_at hl 0 rfl) ?_
        refine va_get (D := D) (ci := 10) (v := .ref (h 11)) (C := RX10) (T := TX10) (N := 38) hx hb hts in_X10 hown hK hP 0 rfl rfl 11 (by decide) g_29 (fun _ h9 => h9) rfl dX10_owesAll_14 ?_
        refine lv_iload_n hx hb dX10_owesAll_17 rfl (lv_at hl 3 rfl) ?_
        obtain ⟨c18, hf⟩ := gd hf
        refine va_iald hx hb hK hP 7 0 rfl rfl c18 dX10_owesAll_18 ?_
        refine lv_iload_n hx hb dX10_owesAll_19 rfl (lv_at hl 1 rfl) ?_
        obtain ⟨j33, ej33, hf⟩ := nme hf
        have J33 : ∀ (t1_33 : Int32), j33 t1_33 = some out → ∀ ls : Array Slot, lv_has ls 4 [(0, .ref o), (1, .int x1), (3, .int x3_4)] → W p l e rm_M_owesAll s m args below meth c s.heap [] 0 0 Q (F0 m 33 ls [.int t1_33, .int x2_4]) := by
          intro t1_33 hf ls hl
          rw [ej33] at hf
          refine lv_iadd hx hb dX10_owesAll_33 ?_
          refine lv_istore_n (lv' := [(2, .int (x2_4 + t1_33)), (0, .ref o), (1, .int x1), (3, .int x3_4)]) hx hb dX10_owesAll_34 rfl hl (by decide) rfl (fun ls hl => ?_)
          refine lv_iinc (v := (x3_4 + 1)) (lv' := [(3, .int (x3_4 + 1)), (2, .int (x2_4 + t1_33)), (0, .ref o), (1, .int x1)]) hx hb dX10_owesAll_35 hl (k := 3) rfl (by rfl) (by decide) rfl (fun ls hl => ?_)
          refine lv_goto (tgt := 4) hx hb dX10_owesAll_38 (by decide) ?_
          exact ih_4 (x2_4 + t1_33) (x3_4 + 1) hf _ (lv_sub hl [2, 3, 1, 0] rfl)
        refine lv_icmp_ne (tgt := 32) hx hb dX10_owesAll_20 (by decide) (fun c20 => ?_) (fun c20 => ?_)
        · replace hf := im c20 hf
          refine lv_iconst (v := 0) hx hb dX10_owesAll_32 (by decide) ?_
          exact J33 0 hf _ (lv_sub hl [0, 1, 3] rfl)
        · replace hf := ip c20 hf
          refine lv_aload_n hx hb dX10_owesAll_23 rfl (lv_at hl 0 rfl) ?_
          refine va_get (D := D) (ci := 10) (v := .ref (h 12)) (C := RX10) (T := TX10) (N := 38) hx hb hts in_X10 hown hK hP 0 rfl rfl 12 (by decide) g_32 (fun _ h9 => h9) rfl dX10_owesAll_24 ?_
          refine lv_iload_n hx hb dX10_owesAll_27 rfl (lv_at hl 3 rfl) ?_
          obtain ⟨c28, hf⟩ := gd hf
          refine va_iald hx hb hK hP 8 0 rfl rfl c28 dX10_owesAll_28 ?_
          refine lv_goto (tgt := 33) hx hb dX10_owesAll_29 (by decide) ?_
          exact J33 ((V 12) x3_4.toNatClampNeg) hf _ (lv_sub hl [0, 1, 3] rfl)
  refine L4 _ (fun x2_4 hf ls hl => ?_) f 0 0 hf _ (lv_sub hl [2, 3, 1, 0] rfl)
  refine lv_iload_n hx hb dX10_owesAll_41 rfl (lv_at hl 0 rfl) ?_
  exact hret x2_4 42 _ hf dX10_owesAll_42
def M_owedAll_L4 {ρ : Type} (f : Nat) (I : FI) (V : FV) (x1 : Int32) (k_4 : Int32 → Option ρ) : Nat → Int32 → Int32 → Option ρ
  | 0, _, _ => none
  | n_4 + 1, x2_4, x3_4 => (if (I 9) ≤ x3_4 then (k_4 x2_4) else if x3_4 < 0 ∨ 12 ≤ x3_4.toNatClampNeg then none else ((nm (fun (t1_33 : Int32) => (M_owedAll_L4 f I V x1 k_4 n_4 (x2_4 + t1_33) (x3_4 + 1))) (fun j33 => (if ((V 10) x3_4.toNatClampNeg) = x1 then if x3_4 < 0 ∨ 12 ≤ x3_4.toNatClampNeg then none else ((j33 ((V 12) x3_4.toNatClampNeg))) else (j33 0))))))
def M_owedAll (f : Nat) (x1 : Int32) (I : FI) (V : FV) : Option (Int32) := (M_owedAll_L4 f I V x1 (fun (x2_4 : Int32) => some x2_4) f 0 0)
abbrev rm_M_owedAll : Room := { frames := 0, cells := 0, slots := 0, locals := 0 }
set_option maxHeartbeats 4000000 in
set_option maxRecDepth 100000 in
theorem c_M_owedAll (l : Launch) (D : va_G) (cs : Nat → ClassId) (o : Nat) (h : Nat → Nat) (I : FI) (V : FV) (x1 : Int32) (f : Nat) (out : Int32) (hf : M_owedAll f x1 I V = some out) : Met l yX10_owedAll wsX10_owedAll rm_M_owedAll (va_Pc [.ref o, .int x1] (xR D cs (w_M cs o h I V))) (vp_Si (fun r => r = out)) 0 0 (fun _ => False) := by
  refine Met.ofW (cc := cX10_owedAll) (maxL := 4) (ret := (some .int)) (by decide) rfl ?_
  intro p e s m args below meth c s₁ B hml hv
  obtain ⟨ha, hP, hK⟩ := hv
  have hx := B.exec
  have hb := B.bytes
  have hr := B.returns
  have hts := atoms_spec (ws := wsX10_owedAll) B.pre
  have hown : s.vm.findClass RX10 = some m.cls := findClass_of_methodNamed B.named
  have hlocks := B.notSynchronized
  have in_X10 : ∀ w ∈ u_ws RX10 TX10 38, w ∈ wsX10_owedAll := fun w h => List.mem_cons_of_mem _ (List.mem_append_right _ h)
  have g_135 := hts (.fieldLink RX10 135 "DaysLentModel" "debts" "I") (by decide +kernel)
  have g_26 := hts (.fieldLink RX10 26 "DaysLentModel" "owed" "[I") (by decide +kernel)
  have g_32 := hts (.fieldLink RX10 32 "DaysLentModel" "much" "[I") (by decide +kernel)
  have hl := lv_entry ([.ref o, .int x1]) (n := 4) (Nat.le_of_ble_eq_true rfl)
  rw [show entryFrame m args 4 = entryFrame m ([.ref o, .int x1] : List Value).toArray 4 from by rw [ha], lg_entry_eq]
  generalize (lg_sl ([.ref o, .int x1]) ++ List.replicate (4 - (lg_sl ([.ref o, .int x1])).length) Slot.unset).toArray = ls at hl ⊢
  have hl : lv_has ls 4 [(0, .ref o), (1, .int x1)] := hl
  generalize hQ : MQ below (vp_Si (fun r => r = out)) args s 0 0 (fun _ => False) = Q
  show W p l e rm_M_owedAll s m args below meth c s.heap [] 0 0 Q (F0 m 0 ls [])
  have hret : ∀ (v : Int32) (pc : Nat) (ls : Array Slot), some v = some out → decode cX10_owedAll pc = .ok (.ireturn, 1) → W p l e rm_M_owedAll s m args below meth c s.heap [] 0 0 Q (F0 m pc ls [.int v]) := by
    intro v pc ls hf hd
    rw [← hQ]
    exact W.iret (v := v) hx hb hr (fun t ht hW => ⟨v, rfl, Option.some.inj hf, ht⟩) (fun q h => by cases h) hd
  unfold M_owedAll at hf
  refine lv_iconst (v := 0) hx hb dX10_owedAll_0 (by decide) ?_
  refine lv_istore_n (lv' := [(2, .int 0), (0, .ref o), (1, .int x1)]) hx hb dX10_owedAll_1 rfl hl (by decide) rfl (fun ls hl => ?_)
  refine lv_iconst (v := 0) hx hb dX10_owedAll_2 (by decide) ?_
  refine lv_istore_n (lv' := [(3, .int 0), (2, .int 0), (0, .ref o), (1, .int x1)]) hx hb dX10_owedAll_3 rfl hl (by decide) rfl (fun ls hl => ?_)
  have L4 : ∀ (k_4 : Int32 → Option (Int32)) (hk_4 : ∀ (x2_4 : Int32), k_4 x2_4 = some out → ∀ ls : Array Slot, lv_has ls 4 [(2, .int x2_4)] → W p l e rm_M_owedAll s m args below meth c s.heap [] 0 0 Q (F0 m 41 ls [])), ∀ (n_4 : Nat) (x2_4 : Int32) (x3_4 : Int32), M_owedAll_L4 f I V x1 k_4 n_4 x2_4 x3_4 = some out → ∀ ls : Array Slot, lv_has ls 4 [(0, .ref o), (1, .int x1), (2, .int x2_4), (3, .int x3_4)] → W p l e rm_M_owedAll s m args below meth c s.heap [] 0 0 Q (F0 m 4 ls []) := by
    intro k_4 hk_4 n_4
    induction n_4 with
    | zero => intro x2_4 x3_4 hf; rw [M_owedAll_L4] at hf; cases hf
    | succ n_4 ih_4 =>
      intro x2_4 x3_4 hf ls hl
      rw [M_owedAll_L4] at hf
      refine lv_iload_n hx hb dX10_owedAll_4 rfl (lv_at hl 3 rfl) ?_
      refine lv_aload_n hx hb dX10_owedAll_5 rfl (lv_at hl 0 rfl) ?_
      refine va_get (D := D) (ci := 10) (v := .int (I 9)) (C := RX10) (T := TX10) (N := 38) hx hb hts in_X10 hown hK hP 0 rfl rfl 9 (by decide) g_135 (fun _ h9 => h9) rfl dX10_owedAll_6 ?_
      refine lv_icmp_ge (tgt := 41) hx hb dX10_owedAll_9 (by decide) (fun c9 => ?_) (fun c9 => ?_)
      · replace hf := ip c9 hf
        exact hk_4 x2_4 hf _ (lv_sub hl [2] rfl)
      · replace hf := im c9 hf
        refine lv_iload_n hx hb dX10_owedAll_12 rfl (lv_at hl 2 rfl) ?_
        refine lv_aload_n hx hb dX10_owedAll_13 rfl (lv_at hl 0 rfl) ?_
        refine va_get (D := D) (ci := 10) (v := .ref (h 10)) (C := RX10) (T := TX10) (N := 38) hx hb hts in_X10 hown hK hP 0 rfl rfl 10 (by decide) g_26 (fun _ h9 => h9) rfl dX10_owedAll_14 ?_
        refine lv_iload_n hx hb dX10_owedAll_17 rfl (lv_at hl 3 rfl) ?_
        obtain ⟨c18, hf⟩ := gd hf
        refine va_iald hx hb hK hP 6 0 rfl rfl c18 dX10_owedAll_18 ?_
        refine lv_iload_n hx hb dX10_owedAll_19 rfl (lv_at hl 1 rfl) ?_
        obtain ⟨j33, ej33, hf⟩ := nme hf
        have J33 : ∀ (t1_33 : Int32), j33 t1_33 = some out → ∀ ls : Array Slot, lv_has ls 4 [(0, .ref o), (1, .int x1), (3, .int x3_4)] → W p l e rm_M_owedAll s m args below meth c s.heap [] 0 0 Q (F0 m 33 ls [.int t1_33, .int x2_4]) := by
          intro t1_33 hf ls hl
          rw [ej33] at hf
          refine lv_iadd hx hb dX10_owedAll_33 ?_
          refine lv_istore_n (lv' := [(2, .int (x2_4 + t1_33)), (0, .ref o), (1, .int x1), (3, .int x3_4)]) hx hb dX10_owedAll_34 rfl hl (by decide) rfl (fun ls hl => ?_)
          refine lv_iinc (v := (x3_4 + 1)) (lv' := [(3, .int (x3_4 + 1)), (2, .int (x2_4 + t1_33)), (0, .ref o), (1, .int x1)]) hx hb dX10_owedAll_35 hl (k := 3) rfl (by rfl) (by decide) rfl (fun ls hl => ?_)
          refine lv_goto (tgt := 4) hx hb dX10_owedAll_38 (by decide) ?_
          exact ih_4 (x2_4 + t1_33) (x3_4 + 1) hf _ (lv_sub hl [2, 3, 1, 0] rfl)
        refine lv_icmp_ne (tgt := 32) hx hb dX10_owedAll_20 (by decide) (fun c20 => ?_) (fun c20 => ?_)
        · replace hf := im c20 hf
          refine lv_iconst (v := 0) hx hb dX10_owedAll_32 (by decide) ?_
          exact J33 0 hf _ (lv_sub hl [0, 1, 3] rfl)
        · replace hf := ip c20 hf
          refine lv_aload_n hx hb dX10_owedAll_23 rfl (lv_at hl 0 rfl) ?_
          refine va_get (D := D) (ci := 10) (v := .ref (h 12)) (C := RX10) (T := TX10) (N := 38) hx hb hts in_X10 hown hK hP 0 rfl rfl 12 (by decide) g_32 (fun _ h9 => h9) rfl dX10_owedAll_24 ?_
          refine lv_iload_n hx hb dX10_owedAll_27 rfl (lv_at hl 3 rfl) ?_
          obtain ⟨c28, hf⟩ := gd hf
          refine va_iald hx hb hK hP 8 0 rfl rfl c28 dX10_owedAll_28 ?_
          refine lv_goto (tgt := 33) hx hb dX10_owedAll_29 (by decide) ?_
          exact J33 ((V 12) x3_4.toNatClampNeg) hf _ (lv_sub hl [0, 1, 3] rfl)
  refine L4 _ (fun x2_4 hf ls hl => ?_) f 0 0 hf _ (lv_sub hl [2, 3, 1, 0] rfl)
  refine lv_iload_n hx hb dX10_owedAll_41 rfl (lv_at hl 0 rfl) ?_
  exact hret x2_4 42 _ hf dX10_owedAll_42
def M_about_L18 {ρ : Type} (f : Nat) (I1 : FI) (V : FV) (k_18 : Int32 → Int32 → Int32 → Int32 → Option ρ) : Nat → Int32 → Int32 → Int32 → Int32 → Int32 → Option ρ
  | 0, _, _, _, _, _ => none
  | n_18 + 1, x2_18, x3_18, x4_18, x5_18, x6_18 => (if (I1 4) ≤ x6_18 then (k_18 x2_18 x3_18 x4_18 x5_18) else if x6_18 < 0 ∨ 6 ≤ x6_18.toNatClampNeg then none else ((nm (fun (t1_46 : Int32) => if x6_18 < 0 ∨ 6 ≤ x6_18.toNatClampNeg then none else ((nm (fun (t1_67 : Int32) => if x6_18 < 0 ∨ 6 ≤ x6_18.toNatClampNeg then none else (nm (x4_18 + ((V 5) x6_18.toNatClampNeg)) (fun y2 => ob1 (M_owesAll f x6_18 I1 V) (fun zr3 => (M_about_L18 f I1 V k_18 n_18 (x2_18 ||| t1_46) (x3_18 ||| t1_67) y2 (x5_18 + zr3) (x6_18 + 1)))))) (fun j67 => (if ((V 8) x6_18.toNatClampNeg) = 0 then (j67 0) else (j67 (1 <<< (x6_18 &&& 31)))))))) (fun j46 => (if ((V 7) x6_18.toNatClampNeg) = 0 then (j46 (1 <<< (x6_18 &&& 31))) else (j46 0))))))
def M_about (f : Nat) (x1 : Int32) (I : FI) (V : FV) : Option (Int32 × FI × FV) := nm (va_up I 0 0) (fun I1 => (M_about_L18 f I1 V (fun (x2_18 : Int32) (x3_18 : Int32) (x4_18 : Int32) (x5_18 : Int32) => (if x1 = 0 then some ((I1 4), I1, V) else if x1 = 1 then some ((I1 9), I1, V) else if x1 = 2 then some ((I1 14), I1, V) else if x1 = 3 then some ((I1 24), I1, V) else if x1 = 4 then some (x2_18, I1, V) else if x1 = 5 then some (x3_18, I1, V) else if x1 = 6 then some (x4_18, I1, V) else if x1 = 7 then some (x5_18, I1, V) else if x1 = 8 then some ((I1 27), I1, V) else if x1 = 9 then some ((I1 2), I1, V) else some ((-2), I1, V))) f 0 0 0 0 0))
abbrev rm_M_about : Room := { frames := 1, cells := 0, slots := 0, locals := 23 }
set_option maxHeartbeats 4000000 in
set_option maxRecDepth 100000 in
theorem c_M_about (l : Launch) (D : va_G) (cs : Nat → ClassId) (o : Nat) (h : Nat → Nat) (sz : Nat) (I : FI) (V : FV) (x1 : Int32) (f : Nat) (out : Int32 × FI × FV) (hf : M_about f x1 I V = some out) : Met l yX10_about wsX10_about rm_M_about (va_Pc [.ref o, .int x1] (xP D cs (w_M cs o h I V) sz)) (va_Qi (fun r u => (r, u) = out) (fun (u : FI × FV) t => xA D cs (va_A (w_M cs o h I V) sz) (w_M cs o h u.1 u.2) t) (va_A (w_M cs o h I V) sz)) 0 0 (va_A (w_M cs o h I V) sz) := by
  refine Met.ofW (cc := cX10_about) (maxL := 7) (ret := (some .int)) (by decide) rfl ?_
  intro p e s m args below meth c s₁ B hml hv
  obtain ⟨ha, hsz, hP, hK, hD0⟩ := hv
  have hx := B.exec
  have hb := B.bytes
  have hr := B.returns
  have hts := atoms_spec (ws := wsX10_about) B.pre
  have hown : s.vm.findClass RX10 = some m.cls := findClass_of_methodNamed B.named
  have hlocks := B.notSynchronized
  have in_X10 : ∀ w ∈ u_ws RX10 TX10 38, w ∈ wsX10_about := fun w h => List.mem_cons_of_mem _ (List.mem_append_right _ h)
  have g_92 := hts (.fieldLink RX10 92 "DaysLentModel" "thrown" "I") (by decide +kernel)
  have g_96 := hts (.fieldLink RX10 96 "DaysLentModel" "people" "I") (by decide +kernel)
  have g_19 := hts (.fieldLink RX10 19 "DaysLentModel" "dead" "[Z") (by decide +kernel)
  have g_23 := hts (.fieldLink RX10 23 "DaysLentModel" "broken" "[Z") (by decide +kernel)
  have g_13 := hts (.fieldLink RX10 13 "DaysLentModel" "mornings" "[I") (by decide +kernel)
  have w_owesAll_144 := cwV (R := rm_M_about) (s := s) (args := args) (rm := rm_M_owesAll) (mc := 0) (ms := 0) 1 hts gX10_about_X10_owesAll rfl rfl rfl (by decide +kernel) ⟨Nat.le_of_ble_eq_true rfl, Nat.le_of_ble_eq_true rfl⟩
  have g_135 := hts (.fieldLink RX10 135 "DaysLentModel" "debts" "I") (by decide +kernel)
  have g_138 := hts (.fieldLink RX10 138 "DaysLentModel" "week" "I") (by decide +kernel)
  have g_141 := hts (.fieldLink RX10 141 "DaysLentModel" "acts" "I") (by decide +kernel)
  have g_148 := hts (.fieldLink RX10 148 "DaysLentModel" "days" "I") (by decide +kernel)
  have g_105 := hts (.fieldLink RX10 105 "DaysLentModel" "textSize" "I") (by decide +kernel)
  subst hsz
  have hD := hD0.self (sz := s.heap.size)
  generalize hAe : va_A (w_M cs o h I V) s.heap.size = A at hD ⊢
  have hA : ∀ q : Nat, s.heap.size ≤ q → A q := fun q h => by rw [← hAe]; exact Or.inr h
  have hS : va_S A s.heap s.heap [] := va_S.rf
  have hl := lv_entry ([.ref o, .int x1]) (n := 7) (Nat.le_of_ble_eq_true rfl)
  rw [show entryFrame m args 7 = entryFrame m ([.ref o, .int x1] : List Value).toArray 7 from by rw [ha], lg_entry_eq]
  generalize (lg_sl ([.ref o, .int x1]) ++ List.replicate (7 - (lg_sl ([.ref o, .int x1])).length) Slot.unset).toArray = ls at hl ⊢
  have hl : lv_has ls 7 [(0, .ref o), (1, .int x1)] := hl
  generalize hQ : MQ below (va_Qi (fun r u => (r, u) = out) (fun (u : FI × FV) t => xA D cs A (w_M cs o h u.1 u.2) t) A) args s 0 0 A = Q
  show W p l e rm_M_about s m args below meth c s.heap [] 0 0 Q (F0 m 0 ls [])
  have hret : ∀ (v : Int32) (Im9 : FI) (Vm9 : FV) (H : Heap) (locs : List Loc) (pc : Nat) (ls : Array Slot), some (v, Im9, Vm9) = some out → va_P D vwCl (w_M cs o h Im9 Vm9) H → va_D A (w_M cs o h Im9 Vm9) → va_S A s.heap H locs → decode cX10_about pc = .ok (.ireturn, 1) → W p l e rm_M_about s m args below meth c H locs 0 0 Q (F0 m pc ls [.int v]) := by
    intro v Im9 Vm9 H locs pc ls hf hP hD hS hd
    rw [← hQ]
    exact W.iret (v := v) hx hb hr (fun t ht hW => ⟨⟨v, (Im9, Vm9), rfl, Option.some.inj hf, by show va_P D vwCl (w_M cs o h Im9 Vm9) t.heap; rw [ht]; exact hP, va_K.moved hW.alike hK, hD⟩, hS.F ht⟩) hS.2.2 hd
  unfold M_about at hf
  refine lv_aload_n hx hb dX10_about_0 rfl (lv_at hl 0 rfl) ?_
  refine lv_iconst (v := 0) hx hb dX10_about_1 (by decide) ?_
  refine va_put (D := D) (ci := 10) (v := .int 0) (ty := .int) (C := RX10) (T := TX10) (N := 38) hx hb hts in_X10 tyX10 tyX10_ok nmX10 hown hK hP hD hS 0 rfl rfl 0 (by decide) g_92 (fun _ h9 => h9) rfl (by decide +kernel) rfl rfl (Nat.le_of_ble_eq_true rfl) dX10_about_2 (fun H locs hP hD hS => ?_)
  have hP : va_P D vwCl (w_M cs o h (va_up I 0 0) V) H := hP
  have hD : va_D A (w_M cs o h (va_up I 0 0) V) := hD
  refine lv_iconst (v := 0) hx hb dX10_about_5 (by decide) ?_
  refine lv_istore_n (lv' := [(2, .int 0), (0, .ref o), (1, .int x1)]) hx hb dX10_about_6 rfl hl (by decide) rfl (fun ls hl => ?_)
  refine lv_iconst (v := 0) hx hb dX10_about_7 (by decide) ?_
  refine lv_istore_n (lv' := [(3, .int 0), (2, .int 0), (0, .ref o), (1, .int x1)]) hx hb dX10_about_8 rfl hl (by decide) rfl (fun ls hl => ?_)
  refine lv_iconst (v := 0) hx hb dX10_about_9 (by decide) ?_
  refine lv_istore (lv' := [(4, .int 0), (3, .int 0), (2, .int 0), (0, .ref o), (1, .int x1)]) hx hb dX10_about_10 hl (by decide) rfl (fun ls hl => ?_)
  refine lv_iconst (v := 0) hx hb dX10_about_12 (by decide) ?_
  refine lv_istore (lv' := [(5, .int 0), (4, .int 0), (3, .int 0), (2, .int 0), (0, .ref o), (1, .int x1)]) hx hb dX10_about_13 hl (by decide) rfl (fun ls hl => ?_)
  refine lv_iconst (v := 0) hx hb dX10_about_15 (by decide) ?_
  refine lv_istore (lv' := [(6, .int 0), (5, .int 0), (4, .int 0), (3, .int 0), (2, .int 0), (0, .ref o), (1, .int x1)]) hx hb dX10_about_16 hl (by decide) rfl (fun ls hl => ?_)
  obtain ⟨I1, eI1, hf⟩ := nme hf
  rw [← eI1] at hP hD
  have L18 : ∀ (k_18 : Int32 → Int32 → Int32 → Int32 → Option (Int32 × FI × FV)) (hk_18 : ∀ (x2_18 : Int32) (x3_18 : Int32) (x4_18 : Int32) (x5_18 : Int32), k_18 x2_18 x3_18 x4_18 x5_18 = some out → ∀ (H : Heap) (locs : List Loc), va_P D vwCl (w_M cs o h I1 V) H → va_D A (w_M cs o h I1 V) → va_S A s.heap H locs → ∀ ls : Array Slot, lv_has ls 7 [(0, .ref o), (1, .int x1), (2, .int x2_18), (3, .int x3_18), (4, .int x4_18), (5, .int x5_18)] → W p l e rm_M_about s m args below meth c H locs 0 0 Q (F0 m 98 ls [])), ∀ (n_18 : Nat) (x2_18 : Int32) (x3_18 : Int32) (x4_18 : Int32) (x5_18 : Int32) (x6_18 : Int32), M_about_L18 f I1 V k_18 n_18 x2_18 x3_18 x4_18 x5_18 x6_18 = some out → ∀ (H : Heap) (locs : List Loc), va_P D vwCl (w_M cs o h I1 V) H → va_D A (w_M cs o h I1 V) → va_S A s.heap H locs → ∀ ls : Array Slot, lv_has ls 7 [(0, .ref o), (1, .int x1), (2, .int x2_18), (3, .int x3_18), (4, .int x4_18), (5, .int x5_18), (6, .int x6_18)] → W p l e rm_M_about s m args below meth c H locs 0 0 Q (F0 m 18 ls []) := by
    intro k_18 hk_18 n_18
    induction n_18 with
    | zero => intro x2_18 x3_18 x4_18 x5_18 x6_18 hf; rw [M_about_L18] at hf; cases hf
    | succ n_18 ih_18 =>
      intro x2_18 x3_18 x4_18 x5_18 x6_18 hf H locs hP hD hS ls hl
      rw [M_about_L18] at hf
      refine lv_iload hx hb dX10_about_18 (lv_at hl 6 rfl) ?_
      refine lv_aload_n hx hb dX10_about_20 rfl (lv_at hl 0 rfl) ?_
      refine va_get (D := D) (ci := 10) (v := .int (I1 4)) (C := RX10) (T := TX10) (N := 38) hx hb hts in_X10 hown hK hP 0 rfl rfl 4 (by decide) g_96 (fun _ h9 => h9) rfl dX10_about_21 ?_
      refine lv_icmp_ge (tgt := 98) hx hb dX10_about_24 (by decide) (fun c24 => ?_) (fun c24 => ?_)
      · replace hf := ip c24 hf
        exact hk_18 x2_18 x3_18 x4_18 x5_18 hf _ _ hP hD hS _ (lv_sub hl [0, 1, 2, 3, 4, 5] rfl)
      · replace hf := im c24 hf
        refine lv_iload_n hx hb dX10_about_27 rfl (lv_at hl 2 rfl) ?_
        refine lv_aload_n hx hb dX10_about_28 rfl (lv_at hl 0 rfl) ?_
        refine va_get (D := D) (ci := 10) (v := .ref (h 7)) (C := RX10) (T := TX10) (N := 38) hx hb hts in_X10 hown hK hP 0 rfl rfl 7 (by decide) g_19 (fun _ h9 => h9) rfl dX10_about_29 ?_
        refine lv_iload hx hb dX10_about_32 (lv_at hl 6 rfl) ?_
        obtain ⟨c34, hf⟩ := gd hf
        refine va_zald hx hb hK hP 4 1 rfl rfl c34 dX10_about_34 ?_
        obtain ⟨j46, ej46, hf⟩ := nme hf
        have J46 : ∀ (t1_46 : Int32), j46 t1_46 = some out → ∀ (H : Heap) (locs : List Loc), va_P D vwCl (w_M cs o h I1 V) H → va_D A (w_M cs o h I1 V) → va_S A s.heap H locs → ∀ ls : Array Slot, lv_has ls 7 [(0, .ref o), (1, .int x1), (3, .int x3_18), (4, .int x4_18), (5, .int x5_18), (6, .int x6_18)] → W p l e rm_M_about s m args below meth c H locs 0 0 Q (F0 m 46 ls [.int t1_46, .int x2_18]) := by
          intro t1_46 hf H locs hP hD hS ls hl
          rw [ej46] at hf
          refine lv_ior hx hb dX10_about_46 ?_
          refine lv_istore_n (lv' := [(2, .int (x2_18 ||| t1_46)), (0, .ref o), (1, .int x1), (3, .int x3_18), (4, .int x4_18), (5, .int x5_18), (6, .int x6_18)]) hx hb dX10_about_47 rfl hl (by decide) rfl (fun ls hl => ?_)
          refine lv_iload_n hx hb dX10_about_48 rfl (lv_at hl 3 rfl) ?_
          refine lv_aload_n hx hb dX10_about_49 rfl (lv_at hl 1 rfl) ?_
          refine va_get (D := D) (ci := 10) (v := .ref (h 8)) (C := RX10) (T := TX10) (N := 38) hx hb hts in_X10 hown hK hP 0 rfl rfl 8 (by decide) g_23 (fun _ h9 => h9) rfl dX10_about_50 ?_
          refine lv_iload hx hb dX10_about_53 (lv_at hl 6 rfl) ?_
          obtain ⟨c55, hf⟩ := gd hf
          refine va_zald hx hb hK hP 5 1 rfl rfl c55 dX10_about_55 ?_
          obtain ⟨j67, ej67, hf⟩ := nme hf
          have J67 : ∀ (t1_67 : Int32), j67 t1_67 = some out → ∀ (H : Heap) (locs : List Loc), va_P D vwCl (w_M cs o h I1 V) H → va_D A (w_M cs o h I1 V) → va_S A s.heap H locs → ∀ ls : Array Slot, lv_has ls 7 [(0, .ref o), (1, .int x1), (2, .int (x2_18 ||| t1_46)), (4, .int x4_18), (5, .int x5_18), (6, .int x6_18)] → W p l e rm_M_about s m args below meth c H locs 0 0 Q (F0 m 67 ls [.int t1_67, .int x3_18]) := by
            intro t1_67 hf H locs hP hD hS ls hl
            rw [ej67] at hf
            refine lv_ior hx hb dX10_about_67 ?_
            refine lv_istore_n (lv' := [(3, .int (x3_18 ||| t1_67)), (0, .ref o), (1, .int x1), (2, .int (x2_18 ||| t1_46)), (4, .int x4_18), (5, .int x5_18), (6, .int x6_18)]) hx hb dX10_about_68 rfl hl (by decide) rfl (fun ls hl => ?_)
            refine lv_iload hx hb dX10_about_69 (lv_at hl 4 rfl) ?_
            refine lv_aload_n hx hb dX10_about_71 rfl (lv_at hl 1 rfl) ?_
            refine va_get (D := D) (ci := 10) (v := .ref (h 5)) (C := RX10) (T := TX10) (N := 38) hx hb hts in_X10 hown hK hP 0 rfl rfl 5 (by decide) g_13 (fun _ h9 => h9) rfl dX10_about_72 ?_
            refine lv_iload hx hb dX10_about_75 (lv_at hl 6 rfl) ?_
            obtain ⟨c77, hf⟩ := gd hf
            refine va_iald hx hb hK hP 2 0 rfl rfl c77 dX10_about_77 ?_
            refine lv_iadd hx hb dX10_about_78 ?_
            refine lv_topi (fun y2 ey2 => ?_)
            replace hf := nmd hf ey2
            refine lv_istore (lv' := [(4, .int y2), (3, .int (x3_18 ||| t1_67)), (0, .ref o), (1, .int x1), (2, .int (x2_18 ||| t1_46)), (5, .int x5_18), (6, .int x6_18)]) hx hb dX10_about_79 hl (by decide) rfl (fun ls hl => ?_)
            refine lv_iload hx hb dX10_about_81 (lv_at hl 5 rfl) ?_
            refine lv_aload_n hx hb dX10_about_83 rfl (lv_at hl 2 rfl) ?_
            refine lv_iload hx hb dX10_about_84 (lv_at hl 6 rfl) ?_
            obtain ⟨zr3, qr3, hf⟩ := bd1 hf
            refine vp_callSi (va_Run.run (va_runV (As := [.int x6_18]) (rest := [.int x5_18]) ⟨hx, hb, hml, hown, hts⟩ (c_M_owesAll l D cs o h I1 V x6_18 f zr3 qr3) w_owesAll_144 ⟨xR_moved, va_recv hK hP (ci := 10) (q0 := 0) rfl rfl, fun U hU hW => ⟨rfl, by rw [hU]; exact hP, va_K.moved hW.alike hK⟩⟩ rfl rfl hl.1 rfl (lv_room (Nat.le_of_ble_eq_true rfl)) dX10_about_86 ⟨Nat.zero_le _, Nat.zero_le _⟩)) (fun r3 er3 => ?_)
            rw [er3]
            refine lv_iadd hx hb dX10_about_89 ?_
            refine lv_istore (lv' := [(5, .int (x5_18 + zr3)), (4, .int y2), (3, .int (x3_18 ||| t1_67)), (0, .ref o), (1, .int x1), (2, .int (x2_18 ||| t1_46)), (6, .int x6_18)]) hx hb dX10_about_90 hl (by decide) rfl (fun ls hl => ?_)
            refine lv_iinc (v := (x6_18 + 1)) (lv' := [(6, .int (x6_18 + 1)), (5, .int (x5_18 + zr3)), (4, .int y2), (3, .int (x3_18 ||| t1_67)), (0, .ref o), (1, .int x1), (2, .int (x2_18 ||| t1_46))]) hx hb dX10_about_92 hl (k := 6) rfl (by rfl) (by decide) rfl (fun ls hl => ?_)
            refine lv_goto (tgt := 18) hx hb dX10_about_95 (by decide) ?_
            exact ih_18 (x2_18 ||| t1_46) (x3_18 ||| t1_67) y2 (x5_18 + zr3) (x6_18 + 1) hf _ _ hP hD hS _ (lv_sub hl [4, 5, 6, 3, 2, 1, 0] rfl)
          refine lv_if_eq (tgt := 66) hx hb dX10_about_56 (by decide) (fun c56 => ?_) (fun c56 => ?_)
          · replace hf := ip c56 hf
            refine lv_iconst (v := 0) hx hb dX10_about_66 (by decide) ?_
            exact J67 0 hf _ _ hP hD hS _ (lv_sub hl [1, 2, 0, 4, 5, 6] rfl)
          · replace hf := im c56 hf
            refine lv_iconst (v := 1) hx hb dX10_about_59 (by decide) ?_
            refine lv_iload hx hb dX10_about_60 (lv_at hl 6 rfl) ?_
            refine lv_ishl hx hb dX10_about_62 ?_
            refine lv_goto (tgt := 67) hx hb dX10_about_63 (by decide) ?_
            exact J67 (1 <<< (x6_18 &&& 31)) hf _ _ hP hD hS _ (lv_sub hl [1, 2, 0, 4, 5, 6] rfl)
        refine lv_if_eq (tgt := 42) hx hb dX10_about_35 (by decide) (fun c35 => ?_) (fun c35 => ?_)
        · replace hf := ip c35 hf
          refine lv_iconst (v := 1) hx hb dX10_about_42 (by decide) ?_
          refine lv_iload hx hb dX10_about_43 (lv_at hl 6 rfl) ?_
          refine lv_ishl hx hb dX10_about_45 ?_
          exact J46 (1 <<< (x6_18 &&& 31)) hf _ _ hP hD hS _ (lv_sub hl [0, 1, 3, 4, 5, 6] rfl)
        · replace hf := im c35 hf
          refine lv_iconst (v := 0) hx hb dX10_about_38 (by decide) ?_
          refine lv_goto (tgt := 46) hx hb dX10_about_39 (by decide) ?_
          exact J46 0 hf _ _ hP hD hS _ (lv_sub hl [0, 1, 3, 4, 5, 6] rfl)
  refine L18 _ (fun x2_18 x3_18 x4_18 x5_18 hf H locs hP hD hS ls hl => ?_) f 0 0 0 0 0 hf _ _ hP hD hS _ (lv_sub hl [5, 6, 4, 3, 2, 1, 0] rfl)
  refine lv_iload_n hx hb dX10_about_98 rfl (lv_at hl 1 rfl) ?_
  by_cases c99_0 : x1 = 0
  · replace hf := ip c99_0 hf
    refine lv_tableIn (tgt := 152) hx hb dX10_about_99 (by rw [c99_0]; decide) (by rw [c99_0]; decide) (by rw [c99_0]; rfl) (by decide) ?_
    refine lv_aload_n hx hb dX10_about_152 rfl (lv_at hl 0 rfl) ?_
    refine va_get (D := D) (ci := 10) (v := .int (I1 4)) (C := RX10) (T := TX10) (N := 38) hx hb hts in_X10 hown hK hP 0 rfl rfl 4 (by decide) g_96 (fun _ h9 => h9) rfl dX10_about_153 ?_
    exact hret (I1 4) I1 V _ _ 156 _ hf hP hD hS dX10_about_156
  replace hf := im c99_0 hf
  by_cases c99_1 : x1 = 1
  · replace hf := ip c99_1 hf
    refine lv_tableIn (tgt := 157) hx hb dX10_about_99 (by rw [c99_1]; decide) (by rw [c99_1]; decide) (by rw [c99_1]; rfl) (by decide) ?_
    refine lv_aload_n hx hb dX10_about_157 rfl (lv_at hl 0 rfl) ?_
    refine va_get (D := D) (ci := 10) (v := .int (I1 9)) (C := RX10) (T := TX10) (N := 38) hx hb hts in_X10 hown hK hP 0 rfl rfl 9 (by decide) g_135 (fun _ h9 => h9) rfl dX10_about_158 ?_
    exact hret (I1 9) I1 V _ _ 161 _ hf hP hD hS dX10_about_161
  replace hf := im c99_1 hf
  by_cases c99_2 : x1 = 2
  · replace hf := ip c99_2 hf
    refine lv_tableIn (tgt := 162) hx hb dX10_about_99 (by rw [c99_2]; decide) (by rw [c99_2]; decide) (by rw [c99_2]; rfl) (by decide) ?_
    refine lv_aload_n hx hb dX10_about_162 rfl (lv_at hl 0 rfl) ?_
    refine va_get (D := D) (ci := 10) (v := .int (I1 14)) (C := RX10) (T := TX10) (N := 38) hx hb hts in_X10 hown hK hP 0 rfl rfl 14 (by decide) g_138 (fun _ h9 => h9) rfl dX10_about_163 ?_
    exact hret (I1 14) I1 V _ _ 166 _ hf hP hD hS dX10_about_166
  replace hf := im c99_2 hf
  by_cases c99_3 : x1 = 3
  · replace hf := ip c99_3 hf
    refine lv_tableIn (tgt := 167) hx hb dX10_about_99 (by rw [c99_3]; decide) (by rw [c99_3]; decide) (by rw [c99_3]; rfl) (by decide) ?_
    refine lv_aload_n hx hb dX10_about_167 rfl (lv_at hl 0 rfl) ?_
    refine va_get (D := D) (ci := 10) (v := .int (I1 24)) (C := RX10) (T := TX10) (N := 38) hx hb hts in_X10 hown hK hP 0 rfl rfl 24 (by decide) g_141 (fun _ h9 => h9) rfl dX10_about_168 ?_
    exact hret (I1 24) I1 V _ _ 171 _ hf hP hD hS dX10_about_171
  replace hf := im c99_3 hf
  by_cases c99_4 : x1 = 4
  · replace hf := ip c99_4 hf
    refine lv_tableIn (tgt := 172) hx hb dX10_about_99 (by rw [c99_4]; decide) (by rw [c99_4]; decide) (by rw [c99_4]; rfl) (by decide) ?_
    refine lv_iload_n hx hb dX10_about_172 rfl (lv_at hl 2 rfl) ?_
    exact hret x2_18 I1 V _ _ 173 _ hf hP hD hS dX10_about_173
  replace hf := im c99_4 hf
  by_cases c99_5 : x1 = 5
  · replace hf := ip c99_5 hf
    refine lv_tableIn (tgt := 174) hx hb dX10_about_99 (by rw [c99_5]; decide) (by rw [c99_5]; decide) (by rw [c99_5]; rfl) (by decide) ?_
    refine lv_iload_n hx hb dX10_about_174 rfl (lv_at hl 3 rfl) ?_
    exact hret x3_18 I1 V _ _ 175 _ hf hP hD hS dX10_about_175
  replace hf := im c99_5 hf
  by_cases c99_6 : x1 = 6
  · replace hf := ip c99_6 hf
    refine lv_tableIn (tgt := 176) hx hb dX10_about_99 (by rw [c99_6]; decide) (by rw [c99_6]; decide) (by rw [c99_6]; rfl) (by decide) ?_
    refine lv_iload hx hb dX10_about_176 (lv_at hl 4 rfl) ?_
    exact hret x4_18 I1 V _ _ 178 _ hf hP hD hS dX10_about_178
  replace hf := im c99_6 hf
  by_cases c99_7 : x1 = 7
  · replace hf := ip c99_7 hf
    refine lv_tableIn (tgt := 179) hx hb dX10_about_99 (by rw [c99_7]; decide) (by rw [c99_7]; decide) (by rw [c99_7]; rfl) (by decide) ?_
    refine lv_iload hx hb dX10_about_179 (lv_at hl 5 rfl) ?_
    exact hret x5_18 I1 V _ _ 181 _ hf hP hD hS dX10_about_181
  replace hf := im c99_7 hf
  by_cases c99_8 : x1 = 8
  · replace hf := ip c99_8 hf
    refine lv_tableIn (tgt := 182) hx hb dX10_about_99 (by rw [c99_8]; decide) (by rw [c99_8]; decide) (by rw [c99_8]; rfl) (by decide) ?_
    refine lv_aload_n hx hb dX10_about_182 rfl (lv_at hl 0 rfl) ?_
    refine va_get (D := D) (ci := 10) (v := .int (I1 27)) (C := RX10) (T := TX10) (N := 38) hx hb hts in_X10 hown hK hP 0 rfl rfl 27 (by decide) g_148 (fun _ h9 => h9) rfl dX10_about_183 ?_
    exact hret (I1 27) I1 V _ _ 186 _ hf hP hD hS dX10_about_186
  replace hf := im c99_8 hf
  by_cases c99_9 : x1 = 9
  · replace hf := ip c99_9 hf
    refine lv_tableIn (tgt := 187) hx hb dX10_about_99 (by rw [c99_9]; decide) (by rw [c99_9]; decide) (by rw [c99_9]; rfl) (by decide) ?_
    refine lv_aload_n hx hb dX10_about_187 rfl (lv_at hl 0 rfl) ?_
    refine va_get (D := D) (ci := 10) (v := .int (I1 2)) (C := RX10) (T := TX10) (N := 38) hx hb hts in_X10 hown hK hP 0 rfl rfl 2 (by decide) g_105 (fun _ h9 => h9) rfl dX10_about_188 ?_
    exact hret (I1 2) I1 V _ _ 191 _ hf hP hD hS dX10_about_191
  replace hf := im c99_9 hf
  refine lv_tableOut (tgt := 192) hx hb dX10_about_99 (by have nc99_0 := lv_neT c99_0 (rfl : (0 : Int32).toInt = 0); have nc99_1 := lv_neT c99_1 (rfl : (1 : Int32).toInt = 1); have nc99_2 := lv_neT c99_2 (rfl : (2 : Int32).toInt = 2); have nc99_3 := lv_neT c99_3 (rfl : (3 : Int32).toInt = 3); have nc99_4 := lv_neT c99_4 (rfl : (4 : Int32).toInt = 4); have nc99_5 := lv_neT c99_5 (rfl : (5 : Int32).toInt = 5); have nc99_6 := lv_neT c99_6 (rfl : (6 : Int32).toInt = 6); have nc99_7 := lv_neT c99_7 (rfl : (7 : Int32).toInt = 7); have nc99_8 := lv_neT c99_8 (rfl : (8 : Int32).toInt = 8); have nc99_9 := lv_neT c99_9 (rfl : (9 : Int32).toInt = 9); omega) (by decide) ?_
  refine lv_bipush (v := (-2)) hx hb dX10_about_192 (by decide) ?_
  exact hret (-2) I1 V _ _ 194 _ hf hP hD hS dX10_about_194
def M_person (f : Nat) (x1 : Int32) (x2 : Int32) (I : FI) (V : FV) : Option (Int32 × FI × FV) := ob1 (M_noOne f x1 (va_up I 0 0) V) (fun zr1 => (if zr1 = 0 then (if x2 = 0 then if x1 < 0 ∨ 6 ≤ x1.toNatClampNeg then none else (some (((V 5) x1.toNatClampNeg), (va_up I 0 0), V)) else if x2 = 1 then if x1 < 0 ∨ 6 ≤ x1.toNatClampNeg then none else (some (((V 6) x1.toNatClampNeg), (va_up I 0 0), V)) else if x2 = 2 then if x1 < 0 ∨ 6 ≤ x1.toNatClampNeg then none else ((if ((V 7) x1.toNatClampNeg) = 0 then some (1, (va_up I 0 0), V) else some (0, (va_up I 0 0), V))) else if x2 = 3 then if x1 < 0 ∨ 6 ≤ x1.toNatClampNeg then none else ((if ((V 8) x1.toNatClampNeg) = 0 then some (0, (va_up I 0 0), V) else some (1, (va_up I 0 0), V))) else if x2 = 4 then ob1 (M_owesAll f x1 (va_up I 0 0) V) (fun zr2 => some (zr2, (va_up I 0 0), V)) else if x2 = 5 then ob1 (M_owedAll f x1 (va_up I 0 0) V) (fun zr3 => some (zr3, (va_up I 0 0), V)) else if x2 = 6 then ob1 (M_owedAll f x1 (va_up I 0 0) V) (fun zr4 => ob1 (M_owesAll f x1 (va_up I 0 0) V) (fun zr5 => some (((10000 + zr4) - zr5), (va_up I 0 0), V))) else some ((-2), (va_up I 0 0), V)) else some ((-1), (va_up I 0 0), V)))
abbrev rm_M_person : Room := { frames := 2, cells := 0, slots := 0, locals := 46 }
set_option maxHeartbeats 4000000 in
set_option maxRecDepth 100000 in
theorem c_M_person (l : Launch) (D : va_G) (cs : Nat → ClassId) (o : Nat) (h : Nat → Nat) (sz : Nat) (I : FI) (V : FV) (x1 : Int32) (x2 : Int32) (f : Nat) (out : Int32 × FI × FV) (hf : M_person f x1 x2 I V = some out) : Met l yX10_person wsX10_person rm_M_person (va_Pc [.ref o, .int x1, .int x2] (xP D cs (w_M cs o h I V) sz)) (va_Qi (fun r u => (r, u) = out) (fun (u : FI × FV) t => xA D cs (va_A (w_M cs o h I V) sz) (w_M cs o h u.1 u.2) t) (va_A (w_M cs o h I V) sz)) 0 0 (va_A (w_M cs o h I V) sz) := by
  refine Met.ofW (cc := cX10_person) (maxL := 3) (ret := (some .int)) (by decide) rfl ?_
  intro p e s m args below meth c s₁ B hml hv
  obtain ⟨ha, hsz, hP, hK, hD0⟩ := hv
  have hx := B.exec
  have hb := B.bytes
  have hr := B.returns
  have hts := atoms_spec (ws := wsX10_person) B.pre
  have hown : s.vm.findClass RX10 = some m.cls := findClass_of_methodNamed B.named
  have hlocks := B.notSynchronized
  have in_X10 : ∀ w ∈ u_ws RX10 TX10 38, w ∈ wsX10_person := fun w h => List.mem_cons_of_mem _ (List.mem_append_right _ h)
  have g_92 := hts (.fieldLink RX10 92 "DaysLentModel" "thrown" "I") (by decide +kernel)
  have w_noOne_151 := cwV (R := rm_M_person) (s := s) (args := args) (rm := rm_M_noOne) (mc := 0) (ms := 0) 1 hts gX10_person_X10_noOne rfl rfl rfl (by decide +kernel) ⟨Nat.le_of_ble_eq_true rfl, Nat.le_of_ble_eq_true rfl⟩
  have g_13 := hts (.fieldLink RX10 13 "DaysLentModel" "mornings" "[I") (by decide +kernel)
  have g_16 := hts (.fieldLink RX10 16 "DaysLentModel" "asks" "[I") (by decide +kernel)
  have g_19 := hts (.fieldLink RX10 19 "DaysLentModel" "dead" "[Z") (by decide +kernel)
  have g_23 := hts (.fieldLink RX10 23 "DaysLentModel" "broken" "[Z") (by decide +kernel)
  have w_owesAll_144 := cwV (R := rm_M_person) (s := s) (args := args) (rm := rm_M_owesAll) (mc := 0) (ms := 0) 1 hts gX10_person_X10_owesAll rfl rfl rfl (by decide +kernel) ⟨Nat.le_of_ble_eq_true rfl, Nat.le_of_ble_eq_true rfl⟩
  have w_owedAll_155 := cwV (R := rm_M_person) (s := s) (args := args) (rm := rm_M_owedAll) (mc := 0) (ms := 0) 1 hts gX10_person_X10_owedAll rfl rfl rfl (by decide +kernel) ⟨Nat.le_of_ble_eq_true rfl, Nat.le_of_ble_eq_true rfl⟩
  subst hsz
  have hD := hD0.self (sz := s.heap.size)
  generalize hAe : va_A (w_M cs o h I V) s.heap.size = A at hD ⊢
  have hA : ∀ q : Nat, s.heap.size ≤ q → A q := fun q h => by rw [← hAe]; exact Or.inr h
  have hS : va_S A s.heap s.heap [] := va_S.rf
  have hl := lv_entry ([.ref o, .int x1, .int x2]) (n := 3) (Nat.le_of_ble_eq_true rfl)
  rw [show entryFrame m args 3 = entryFrame m ([.ref o, .int x1, .int x2] : List Value).toArray 3 from by rw [ha], lg_entry_eq]
  generalize (lg_sl ([.ref o, .int x1, .int x2]) ++ List.replicate (3 - (lg_sl ([.ref o, .int x1, .int x2])).length) Slot.unset).toArray = ls at hl ⊢
  have hl : lv_has ls 3 [(0, .ref o), (1, .int x1), (2, .int x2)] := hl
  generalize hQ : MQ below (va_Qi (fun r u => (r, u) = out) (fun (u : FI × FV) t => xA D cs A (w_M cs o h u.1 u.2) t) A) args s 0 0 A = Q
  show W p l e rm_M_person s m args below meth c s.heap [] 0 0 Q (F0 m 0 ls [])
  have hret : ∀ (v : Int32) (Im9 : FI) (Vm9 : FV) (H : Heap) (locs : List Loc) (pc : Nat) (ls : Array Slot), some (v, Im9, Vm9) = some out → va_P D vwCl (w_M cs o h Im9 Vm9) H → va_D A (w_M cs o h Im9 Vm9) → va_S A s.heap H locs → decode cX10_person pc = .ok (.ireturn, 1) → W p l e rm_M_person s m args below meth c H locs 0 0 Q (F0 m pc ls [.int v]) := by
    intro v Im9 Vm9 H locs pc ls hf hP hD hS hd
    rw [← hQ]
    exact W.iret (v := v) hx hb hr (fun t ht hW => ⟨⟨v, (Im9, Vm9), rfl, Option.some.inj hf, by show va_P D vwCl (w_M cs o h Im9 Vm9) t.heap; rw [ht]; exact hP, va_K.moved hW.alike hK, hD⟩, hS.F ht⟩) hS.2.2 hd
  unfold M_person at hf
  refine lv_aload_n hx hb dX10_person_0 rfl (lv_at hl 0 rfl) ?_
  refine lv_iconst (v := 0) hx hb dX10_person_1 (by decide) ?_
  refine va_put (D := D) (ci := 10) (v := .int 0) (ty := .int) (C := RX10) (T := TX10) (N := 38) hx hb hts in_X10 tyX10 tyX10_ok nmX10 hown hK hP hD hS 0 rfl rfl 0 (by decide) g_92 (fun _ h9 => h9) rfl (by decide +kernel) rfl rfl (Nat.le_of_ble_eq_true rfl) dX10_person_2 (fun H locs hP hD hS => ?_)
  have hP : va_P D vwCl (w_M cs o h (va_up I 0 0) V) H := hP
  have hD : va_D A (w_M cs o h (va_up I 0 0) V) := hD
  refine lv_aload_n hx hb dX10_person_5 rfl (lv_at hl 0 rfl) ?_
  refine lv_iload_n hx hb dX10_person_6 rfl (lv_at hl 1 rfl) ?_
  obtain ⟨zr1, qr1, hf⟩ := bd1 hf
  refine vp_callSi (va_Run.run (va_runV (As := [.int x1]) (rest := []) ⟨hx, hb, hml, hown, hts⟩ (c_M_noOne l D cs o h (va_up I 0 0) V x1 f zr1 qr1) w_noOne_151 ⟨xR_moved, va_recv hK hP (ci := 10) (q0 := 0) rfl rfl, fun U hU hW => ⟨rfl, by rw [hU]; exact hP, va_K.moved hW.alike hK⟩⟩ rfl rfl hl.1 rfl (lv_room (Nat.le_of_ble_eq_true rfl)) dX10_person_7 ⟨Nat.zero_le _, Nat.zero_le _⟩)) (fun r1 er1 => ?_)
  rw [er1]
  refine lv_if_eq (tgt := 15) hx hb dX10_person_10 (by decide) (fun c10 => ?_) (fun c10 => ?_)
  · replace hf := ip c10 hf
    refine lv_iload_n hx hb dX10_person_15 rfl (lv_at hl 2 rfl) ?_
    by_cases c16_0 : x2 = 0
    · replace hf := ip c16_0 hf
      refine lv_tableIn (tgt := 60) hx hb dX10_person_16 (by rw [c16_0]; decide) (by rw [c16_0]; decide) (by rw [c16_0]; rfl) (by decide) ?_
      refine lv_aload_n hx hb dX10_person_60 rfl (lv_at hl 0 rfl) ?_
      refine va_get (D := D) (ci := 10) (v := .ref (h 5)) (C := RX10) (T := TX10) (N := 38) hx hb hts in_X10 hown hK hP 0 rfl rfl 5 (by decide) g_13 (fun _ h9 => h9) rfl dX10_person_61 ?_
      refine lv_iload_n hx hb dX10_person_64 rfl (lv_at hl 1 rfl) ?_
      obtain ⟨c65, hf⟩ := gd hf
      refine va_iald hx hb hK hP 2 0 rfl rfl c65 dX10_person_65 ?_
      exact hret ((V 5) x1.toNatClampNeg) (va_up I 0 0) V _ _ 66 _ hf hP hD hS dX10_person_66
    replace hf := im c16_0 hf
    by_cases c16_1 : x2 = 1
    · replace hf := ip c16_1 hf
      refine lv_tableIn (tgt := 67) hx hb dX10_person_16 (by rw [c16_1]; decide) (by rw [c16_1]; decide) (by rw [c16_1]; rfl) (by decide) ?_
      refine lv_aload_n hx hb dX10_person_67 rfl (lv_at hl 0 rfl) ?_
      refine va_get (D := D) (ci := 10) (v := .ref (h 6)) (C := RX10) (T := TX10) (N := 38) hx hb hts in_X10 hown hK hP 0 rfl rfl 6 (by decide) g_16 (fun _ h9 => h9) rfl dX10_person_68 ?_
      refine lv_iload_n hx hb dX10_person_71 rfl (lv_at hl 1 rfl) ?_
      obtain ⟨c72, hf⟩ := gd hf
      refine va_iald hx hb hK hP 3 0 rfl rfl c72 dX10_person_72 ?_
      exact hret ((V 6) x1.toNatClampNeg) (va_up I 0 0) V _ _ 73 _ hf hP hD hS dX10_person_73
    replace hf := im c16_1 hf
    by_cases c16_2 : x2 = 2
    · replace hf := ip c16_2 hf
      refine lv_tableIn (tgt := 74) hx hb dX10_person_16 (by rw [c16_2]; decide) (by rw [c16_2]; decide) (by rw [c16_2]; rfl) (by decide) ?_
      refine lv_aload_n hx hb dX10_person_74 rfl (lv_at hl 0 rfl) ?_
      refine va_get (D := D) (ci := 10) (v := .ref (h 7)) (C := RX10) (T := TX10) (N := 38) hx hb hts in_X10 hown hK hP 0 rfl rfl 7 (by decide) g_19 (fun _ h9 => h9) rfl dX10_person_75 ?_
      refine lv_iload_n hx hb dX10_person_78 rfl (lv_at hl 1 rfl) ?_
      obtain ⟨c79, hf⟩ := gd hf
      refine va_zald hx hb hK hP 4 1 rfl rfl c79 dX10_person_79 ?_
      refine lv_if_eq (tgt := 87) hx hb dX10_person_80 (by decide) (fun c80 => ?_) (fun c80 => ?_)
      · replace hf := ip c80 hf
        refine lv_iconst (v := 1) hx hb dX10_person_87 (by decide) ?_
        exact hret 1 (va_up I 0 0) V _ _ 88 _ hf hP hD hS dX10_person_88
      · replace hf := im c80 hf
        refine lv_iconst (v := 0) hx hb dX10_person_83 (by decide) ?_
        refine lv_goto (tgt := 88) hx hb dX10_person_84 (by decide) ?_
        exact hret 0 (va_up I 0 0) V _ _ 88 _ hf hP hD hS dX10_person_88
    replace hf := im c16_2 hf
    by_cases c16_3 : x2 = 3
    · replace hf := ip c16_3 hf
      refine lv_tableIn (tgt := 89) hx hb dX10_person_16 (by rw [c16_3]; decide) (by rw [c16_3]; decide) (by rw [c16_3]; rfl) (by decide) ?_
      refine lv_aload_n hx hb dX10_person_89 rfl (lv_at hl 0 rfl) ?_
      refine va_get (D := D) (ci := 10) (v := .ref (h 8)) (C := RX10) (T := TX10) (N := 38) hx hb hts in_X10 hown hK hP 0 rfl rfl 8 (by decide) g_23 (fun _ h9 => h9) rfl dX10_person_90 ?_
      refine lv_iload_n hx hb dX10_person_93 rfl (lv_at hl 1 rfl) ?_
      obtain ⟨c94, hf⟩ := gd hf
      refine va_zald hx hb hK hP 5 1 rfl rfl c94 dX10_person_94 ?_
      refine lv_if_eq (tgt := 102) hx hb dX10_person_95 (by decide) (fun c95 => ?_) (fun c95 => ?_)
      · replace hf := ip c95 hf
        refine lv_iconst (v := 0) hx hb dX10_person_102 (by decide) ?_
        exact hret 0 (va_up I 0 0) V _ _ 103 _ hf hP hD hS dX10_person_103
      · replace hf := im c95 hf
        refine lv_iconst (v := 1) hx hb dX10_person_98 (by decide) ?_
        refine lv_goto (tgt := 103) hx hb dX10_person_99 (by decide) ?_
        exact hret 1 (va_up I 0 0) V _ _ 103 _ hf hP hD hS dX10_person_103
    replace hf := im c16_3 hf
    by_cases c16_4 : x2 = 4
    · replace hf := ip c16_4 hf
      refine lv_tableIn (tgt := 104) hx hb dX10_person_16 (by rw [c16_4]; decide) (by rw [c16_4]; decide) (by rw [c16_4]; rfl) (by decide) ?_
      refine lv_aload_n hx hb dX10_person_104 rfl (lv_at hl 0 rfl) ?_
      refine lv_iload_n hx hb dX10_person_105 rfl (lv_at hl 1 rfl) ?_
      obtain ⟨zr2, qr2, hf⟩ := bd1 hf
      refine vp_callSi (va_Run.run (va_runV (As := [.int x1]) (rest := []) ⟨hx, hb, hml, hown, hts⟩ (c_M_owesAll l D cs o h (va_up I 0 0) V x1 f zr2 qr2) w_owesAll_144 ⟨xR_moved, va_recv hK hP (ci := 10) (q0 := 0) rfl rfl, fun U hU hW => ⟨rfl, by rw [hU]; exact hP, va_K.moved hW.alike hK⟩⟩ rfl rfl hl.1 rfl (lv_room (Nat.le_of_ble_eq_true rfl)) dX10_person_106 ⟨Nat.zero_le _, Nat.zero_le _⟩)) (fun r2 er2 => ?_)
      rw [er2]
      exact hret zr2 (va_up I 0 0) V _ _ 109 _ hf hP hD hS dX10_person_109
    replace hf := im c16_4 hf
    by_cases c16_5 : x2 = 5
    · replace hf := ip c16_5 hf
      refine lv_tableIn (tgt := 110) hx hb dX10_person_16 (by rw [c16_5]; decide) (by rw [c16_5]; decide) (by rw [c16_5]; rfl) (by decide) ?_
      refine lv_aload_n hx hb dX10_person_110 rfl (lv_at hl 0 rfl) ?_
      refine lv_iload_n hx hb dX10_person_111 rfl (lv_at hl 1 rfl) ?_
      obtain ⟨zr3, qr3, hf⟩ := bd1 hf
      refine vp_callSi (va_Run.run (va_runV (As := [.int x1]) (rest := []) ⟨hx, hb, hml, hown, hts⟩ (c_M_owedAll l D cs o h (va_up I 0 0) V x1 f zr3 qr3) w_owedAll_155 ⟨xR_moved, va_recv hK hP (ci := 10) (q0 := 0) rfl rfl, fun U hU hW => ⟨rfl, by rw [hU]; exact hP, va_K.moved hW.alike hK⟩⟩ rfl rfl hl.1 rfl (lv_room (Nat.le_of_ble_eq_true rfl)) dX10_person_112 ⟨Nat.zero_le _, Nat.zero_le _⟩)) (fun r3 er3 => ?_)
      rw [er3]
      exact hret zr3 (va_up I 0 0) V _ _ 115 _ hf hP hD hS dX10_person_115
    replace hf := im c16_5 hf
    by_cases c16_6 : x2 = 6
    · replace hf := ip c16_6 hf
      refine lv_tableIn (tgt := 116) hx hb dX10_person_16 (by rw [c16_6]; decide) (by rw [c16_6]; decide) (by rw [c16_6]; rfl) (by decide) ?_
      refine lv_sipush (v := 10000) hx hb dX10_person_116 (by decide) ?_
      refine lv_aload_n hx hb dX10_person_119 rfl (lv_at hl 0 rfl) ?_
      refine lv_iload_n hx hb dX10_person_120 rfl (lv_at hl 1 rfl) ?_
      obtain ⟨zr4, qr4, hf⟩ := bd1 hf
      refine vp_callSi (va_Run.run (va_runV (As := [.int x1]) (rest := [.int 10000]) ⟨hx, hb, hml, hown, hts⟩ (c_M_owedAll l D cs o h (va_up I 0 0) V x1 f zr4 qr4) w_owedAll_155 ⟨xR_moved, va_recv hK hP (ci := 10) (q0 := 0) rfl rfl, fun U hU hW => ⟨rfl, by rw [hU]; exact hP, va_K.moved hW.alike hK⟩⟩ rfl rfl hl.1 rfl (lv_room (Nat.le_of_ble_eq_true rfl)) dX10_person_121 ⟨Nat.zero_le _, Nat.zero_le _⟩)) (fun r4 er4 => ?_)
      rw [er4]
      refine lv_iadd hx hb dX10_person_124 ?_
      refine lv_aload_n hx hb dX10_person_125 rfl (lv_at hl 0 rfl) ?_
      refine lv_iload_n hx hb dX10_person_126 rfl (lv_at hl 1 rfl) ?_
      obtain ⟨zr5, qr5, hf⟩ := bd1 hf
      refine vp_callSi (va_Run.run (va_runV (As := [.int x1]) (rest := [.int (10000 + zr4)]) ⟨hx, hb, hml, hown, hts⟩ (c_M_owesAll l D cs o h (va_up I 0 0) V x1 f zr5 qr5) w_owesAll_144 ⟨xR_moved, va_recv hK hP (ci := 10) (q0 := 0) rfl rfl, fun U hU hW => ⟨rfl, by rw [hU]; exact hP, va_K.moved hW.alike hK⟩⟩ rfl rfl hl.1 rfl (lv_room (Nat.le_of_ble_eq_true rfl)) dX10_person_127 ⟨Nat.zero_le _, Nat.zero_le _⟩)) (fun r5 er5 => ?_)
      rw [er5]
      refine lv_isub hx hb dX10_person_130 ?_
      exact hret ((10000 + zr4) - zr5) (va_up I 0 0) V _ _ 131 _ hf hP hD hS dX10_person_131
    replace hf := im c16_6 hf
    refine lv_tableOut (tgt := 132) hx hb dX10_person_16 (by have nc16_0 := lv_neT c16_0 (rfl : (0 : Int32).toInt = 0); have nc16_1 := lv_neT c16_1 (rfl : (1 : Int32).toInt = 1); have nc16_2 := lv_neT c16_2 (rfl : (2 : Int32).toInt = 2); have nc16_3 := lv_neT c16_3 (rfl : (3 : Int32).toInt = 3); have nc16_4 := lv_neT c16_4 (rfl : (4 : Int32).toInt = 4); have nc16_5 := lv_neT c16_5 (rfl : (5 : Int32).toInt = 5); have nc16_6 := lv_neT c16_6 (rfl : (6 : Int32).toInt = 6); omega) (by decide) ?_
    refine lv_bipush (v := (-2)) hx hb dX10_person_132 (by decide) ?_
    exact hret (-2) (va_up I 0 0) V _ _ 134 _ hf hP hD hS dX10_person_134
  · replace hf := im c10 hf
    refine lv_iconst (v := (-1)) hx hb dX10_person_13 (by decide) ?_
    exact hret (-1) (va_up I 0 0) V _ _ 14 _ hf hP hD hS dX10_person_14
def M_debt (f : Nat) (x1 : Int32) (x2 : Int32) (I : FI) (V : FV) : Option (Int32 × FI × FV) := ob1 (M_in f (x1.toInt64) 0 (((I 9) - 1).toInt64)) (fun zr1 => (if zr1 = 0 then some ((-1), (va_up I 0 0), V) else (if x2 = 0 then if x1 < 0 ∨ 12 ≤ x1.toNatClampNeg then none else (some (((V 10) x1.toNatClampNeg), (va_up I 0 0), V)) else (if x2 = 1 then if x1 < 0 ∨ 12 ≤ x1.toNatClampNeg then none else (some (((V 11) x1.toNatClampNeg), (va_up I 0 0), V)) else (if x2 = 2 then if x1 < 0 ∨ 12 ≤ x1.toNatClampNeg then none else (some (((V 12) x1.toNatClampNeg), (va_up I 0 0), V)) else (if x2 = 3 then if x1 < 0 ∨ 12 ≤ x1.toNatClampNeg then none else (some (((V 13) x1.toNatClampNeg), (va_up I 0 0), V)) else some ((-2), (va_up I 0 0), V)))))))
abbrev rm_M_debt : Room := { frames := 1, cells := 0, slots := 0, locals := 25 }
set_option maxHeartbeats 4000000 in
set_option maxRecDepth 100000 in
theorem c_M_debt (l : Launch) (D : va_G) (cs : Nat → ClassId) (o : Nat) (h : Nat → Nat) (sz : Nat) (I : FI) (V : FV) (x1 : Int32) (x2 : Int32) (f : Nat) (out : Int32 × FI × FV) (hf : M_debt f x1 x2 I V = some out) : Met l yX10_debt wsX10_debt rm_M_debt (va_Pc [.ref o, .int x1, .int x2] (xP D cs (w_M cs o h I V) sz)) (va_Qi (fun r u => (r, u) = out) (fun (u : FI × FV) t => xA D cs (va_A (w_M cs o h I V) sz) (w_M cs o h u.1 u.2) t) (va_A (w_M cs o h I V) sz)) 0 0 (va_A (w_M cs o h I V) sz) := by
  refine Met.ofW (cc := cX10_debt) (maxL := 3) (ret := (some .int)) (by decide) rfl ?_
  intro p e s m args below meth c s₁ B hml hv
  obtain ⟨ha, hsz, hP, hK, hD0⟩ := hv
  have hx := B.exec
  have hb := B.bytes
  have hr := B.returns
  have hts := atoms_spec (ws := wsX10_debt) B.pre
  have hown : s.vm.findClass RX10 = some m.cls := findClass_of_methodNamed B.named
  have hlocks := B.notSynchronized
  have in_X10 : ∀ w ∈ u_ws RX10 TX10 38, w ∈ wsX10_debt := fun w h => List.mem_cons_of_mem _ (List.mem_append_right _ h)
  have g_92 := hts (.fieldLink RX10 92 "DaysLentModel" "thrown" "I") (by decide +kernel)
  have g_135 := hts (.fieldLink RX10 135 "DaysLentModel" "debts" "I") (by decide +kernel)
  have w_in_99 := va_cwS (R := rm_M_debt) (s := s) (args := args) (rm := rm_M_in) (mc := 0) (ms := 0) 3 hts gX10_debt_X10_in rfl rfl rfl (by decide +kernel) ⟨Nat.le_of_ble_eq_true rfl, Nat.le_of_ble_eq_true rfl⟩
  have g_26 := hts (.fieldLink RX10 26 "DaysLentModel" "owed" "[I") (by decide +kernel)
  have g_29 := hts (.fieldLink RX10 29 "DaysLentModel" "owes" "[I") (by decide +kernel)
  have g_32 := hts (.fieldLink RX10 32 "DaysLentModel" "much" "[I") (by decide +kernel)
  have g_35 := hts (.fieldLink RX10 35 "DaysLentModel" "due" "[I") (by decide +kernel)
  subst hsz
  have hD := hD0.self (sz := s.heap.size)
  generalize hAe : va_A (w_M cs o h I V) s.heap.size = A at hD ⊢
  have hA : ∀ q : Nat, s.heap.size ≤ q → A q := fun q h => by rw [← hAe]; exact Or.inr h
  have hS : va_S A s.heap s.heap [] := va_S.rf
  have hl := lv_entry ([.ref o, .int x1, .int x2]) (n := 3) (Nat.le_of_ble_eq_true rfl)
  rw [show entryFrame m args 3 = entryFrame m ([.ref o, .int x1, .int x2] : List Value).toArray 3 from by rw [ha], lg_entry_eq]
  generalize (lg_sl ([.ref o, .int x1, .int x2]) ++ List.replicate (3 - (lg_sl ([.ref o, .int x1, .int x2])).length) Slot.unset).toArray = ls at hl ⊢
  have hl : lv_has ls 3 [(0, .ref o), (1, .int x1), (2, .int x2)] := hl
  generalize hQ : MQ below (va_Qi (fun r u => (r, u) = out) (fun (u : FI × FV) t => xA D cs A (w_M cs o h u.1 u.2) t) A) args s 0 0 A = Q
  show W p l e rm_M_debt s m args below meth c s.heap [] 0 0 Q (F0 m 0 ls [])
  have hret : ∀ (v : Int32) (Im9 : FI) (Vm9 : FV) (H : Heap) (locs : List Loc) (pc : Nat) (ls : Array Slot), some (v, Im9, Vm9) = some out → va_P D vwCl (w_M cs o h Im9 Vm9) H → va_D A (w_M cs o h Im9 Vm9) → va_S A s.heap H locs → decode cX10_debt pc = .ok (.ireturn, 1) → W p l e rm_M_debt s m args below meth c H locs 0 0 Q (F0 m pc ls [.int v]) := by
    intro v Im9 Vm9 H locs pc ls hf hP hD hS hd
    rw [← hQ]
    exact W.iret (v := v) hx hb hr (fun t ht hW => ⟨⟨v, (Im9, Vm9), rfl, Option.some.inj hf, by show va_P D vwCl (w_M cs o h Im9 Vm9) t.heap; rw [ht]; exact hP, va_K.moved hW.alike hK, hD⟩, hS.F ht⟩) hS.2.2 hd
  unfold M_debt at hf
  refine lv_aload_n hx hb dX10_debt_0 rfl (lv_at hl 0 rfl) ?_
  refine lv_iconst (v := 0) hx hb dX10_debt_1 (by decide) ?_
  refine va_put (D := D) (ci := 10) (v := .int 0) (ty := .int) (C := RX10) (T := TX10) (N := 38) hx hb hts in_X10 tyX10 tyX10_ok nmX10 hown hK hP hD hS 0 rfl rfl 0 (by decide) g_92 (fun _ h9 => h9) rfl (by decide +kernel) rfl rfl (Nat.le_of_ble_eq_true rfl) dX10_debt_2 (fun H locs hP hD hS => ?_)
  have hP : va_P D vwCl (w_M cs o h (va_up I 0 0) V) H := hP
  have hD : va_D A (w_M cs o h (va_up I 0 0) V) := hD
  refine lv_iload_n hx hb dX10_debt_5 rfl (lv_at hl 1 rfl) ?_
  refine lv_i2l (v := x1.toInt64) hx hb dX10_debt_6 rfl ?_
  refine lv_lconst (v := 0) hx hb dX10_debt_7 (by decide) ?_
  refine lv_aload_n hx hb dX10_debt_8 rfl (lv_at hl 0 rfl) ?_
  refine va_get (D := D) (ci := 10) (v := .int (I 9)) (C := RX10) (T := TX10) (N := 38) hx hb hts in_X10 hown hK hP 0 rfl rfl 9 (by decide) g_135 (fun _ h9 => h9) rfl dX10_debt_9 ?_
  refine lv_iconst (v := 1) hx hb dX10_debt_12 (by decide) ?_
  refine lv_isub hx hb dX10_debt_13 ?_
  refine lv_i2l (v := ((I 9) - 1).toInt64) hx hb dX10_debt_14 rfl ?_
  obtain ⟨zr1, qr1, hf⟩ := bd1 hf
  refine vp_callSi (va_Run.run (va_runS (As := [.long (x1.toInt64), .long 0, .long (((I 9) - 1).toInt64)]) (rest := []) ⟨hx, hb, hml, hown, hts⟩ (c_M_in l (x1.toInt64) 0 (((I 9) - 1).toInt64) f zr1 qr1) w_in_99 ⟨fun a U g mk q => q, fun U hU hW => ⟨rfl, trivial⟩⟩ rfl rfl hl.1 rfl (lv_room (Nat.le_of_ble_eq_true rfl)) dX10_debt_15 ⟨Nat.zero_le _, Nat.zero_le _⟩)) (fun r1 er1 => ?_)
  rw [er1]
  refine lv_if_ne (tgt := 23) hx hb dX10_debt_18 (by decide) (fun c18 => ?_) (fun c18 => ?_)
  · replace hf := im c18 hf
    refine lv_iload_n hx hb dX10_debt_23 rfl (lv_at hl 2 rfl) ?_
    refine lv_if_ne (tgt := 36) hx hb dX10_debt_24 (by decide) (fun c24 => ?_) (fun c24 => ?_)
    · replace hf := im c24 hf
      refine lv_iload_n hx hb dX10_debt_36 rfl (lv_at hl 2 rfl) ?_
      refine lv_iconst (v := 1) hx hb dX10_debt_37 (by decide) ?_
      refine lv_icmp_ne (tgt := 50) hx hb dX10_debt_38 (by decide) (fun c38 => ?_) (fun c38 => ?_)
      · replace hf := im c38 hf
        refine lv_iload_n hx hb dX10_debt_50 rfl (lv_at hl 2 rfl) ?_
        refine lv_iconst (v := 2) hx hb dX10_debt_51 (by decide) ?_
        refine lv_icmp_ne (tgt := 64) hx hb dX10_debt_52 (by decide) (fun c52 => ?_) (fun c52 => ?_)
        · replace hf := im c52 hf
          refine lv_iload_n hx hb dX10_debt_64 rfl (lv_at hl 2 rfl) ?_
          refine lv_iconst (v := 3) hx hb dX10_debt_65 (by decide) ?_
          refine lv_icmp_ne (tgt := 78) hx hb dX10_debt_66 (by decide) (fun c66 => ?_) (fun c66 => ?_)
          · replace hf := im c66 hf
            refine lv_bipush (v := (-2)) hx hb dX10_debt_78 (by decide) ?_
            exact hret (-2) (va_up I 0 0) V _ _ 80 _ hf hP hD hS dX10_debt_80
          · replace hf := ip c66 hf
            refine lv_aload_n hx hb dX10_debt_69 rfl (lv_at hl 0 rfl) ?_
            refine va_get (D := D) (ci := 10) (v := .ref (h 13)) (C := RX10) (T := TX10) (N := 38) hx hb hts in_X10 hown hK hP 0 rfl rfl 13 (by decide) g_35 (fun _ h9 => h9) rfl dX10_debt_70 ?_
            refine lv_iload_n hx hb dX10_debt_73 rfl (lv_at hl 1 rfl) ?_
            obtain ⟨c74, hf⟩ := gd hf
            refine va_iald hx hb hK hP 9 0 rfl rfl c74 dX10_debt_74 ?_
            refine lv_goto (tgt := 80) hx hb dX10_debt_75 (by decide) ?_
            exact hret ((V 13) x1.toNatClampNeg) (va_up I 0 0) V _ _ 80 _ hf hP hD hS dX10_debt_80
        · replace hf := ip c52 hf
          refine lv_aload_n hx hb dX10_debt_55 rfl (lv_at hl 0 rfl) ?_
          refine va_get (D := D) (ci := 10) (v := .ref (h 12)) (C := RX10) (T := TX10) (N := 38) hx hb hts in_X10 hown hK hP 0 rfl rfl 12 (by decide) g_32 (fun _ h9 => h9) rfl dX10_debt_56 ?_
          refine lv_iload_n hx hb dX10_debt_59 rfl (lv_at hl 1 rfl) ?_
          obtain ⟨c60, hf⟩ := gd hf
          refine va_iald hx hb hK hP 8 0 rfl rfl c60 dX10_debt_60 ?_
          refine lv_goto (tgt := 80) hx hb dX10_debt_61 (by decide) ?_
          exact hret ((V 12) x1.toNatClampNeg) (va_up I 0 0) V _ _ 80 _ hf hP hD hS dX10_debt_80
      · replace hf := ip c38 hf
        refine lv_aload_n hx hb dX10_debt_41 rfl (lv_at hl 0 rfl) ?_
        refine va_get (D := D) (ci := 10) (v := .ref (h 11)) (C := RX10) (T := TX10) (N := 38) hx hb hts in_X10 hown hK hP 0 rfl rfl 11 (by decide) g_29 (fun _ h9 => h9) rfl dX10_debt_42 ?_
        refine lv_iload_n hx hb dX10_debt_45 rfl (lv_at hl 1 rfl) ?_
        obtain ⟨c46, hf⟩ := gd hf
        refine va_iald hx hb hK hP 7 0 rfl rfl c46 dX10_debt_46 ?_
        refine lv_goto (tgt := 80) hx hb dX10_debt_47 (by decide) ?_
        exact hret ((V 11) x1.toNatClampNeg) (va_up I 0 0) V _ _ 80 _ hf hP hD hS dX10_debt_80
    · replace hf := ip c24 hf
      refine lv_aload_n hx hb dX10_debt_27 rfl (lv_at hl 0 rfl) ?_
      refine va_get (D := D) (ci := 10) (v := .ref (h 10)) (C := RX10) (T := TX10) (N := 38) hx hb hts in_X10 hown hK hP 0 rfl rfl 10 (by decide) g_26 (fun _ h9 => h9) rfl dX10_debt_28 ?_
      refine lv_iload_n hx hb dX10_debt_31 rfl (lv_at hl 1 rfl) ?_
      obtain ⟨c32, hf⟩ := gd hf
      refine va_iald hx hb hK hP 6 0 rfl rfl c32 dX10_debt_32 ?_
      refine lv_goto (tgt := 80) hx hb dX10_debt_33 (by decide) ?_
      exact hret ((V 10) x1.toNatClampNeg) (va_up I 0 0) V _ _ 80 _ hf hP hD hS dX10_debt_80
  · replace hf := ip c18 hf
    refine lv_iconst (v := (-1)) hx hb dX10_debt_21 (by decide) ?_
    exact hret (-1) (va_up I 0 0) V _ _ 22 _ hf hP hD hS dX10_debt_22
def M_ask (f : Nat) (x1 : Int32) (x2 : Int32) (I : FI) (V : FV) : Option (Int32 × FI × FV) := ob1 (M_noOne f x1 (va_up I 0 0) V) (fun zr1 => (if zr1 = 0 then ob1 (M_in f (x2.toInt64) 0 9) (fun zr2 => (if zr2 = 0 then some ((-2), (va_up I 0 0), V) else if x1 < 0 ∨ 6 ≤ x1.toNatClampNeg then none else (nm ((V 6) x1.toNatClampNeg) (fun y3 => if x1 < 0 ∨ 6 ≤ x1.toNatClampNeg then none else (some (y3, (va_up I 0 0), (va_up V 6 (upd (V 6) x1.toNatClampNeg x2)))))))) else some ((-1), (va_up I 0 0), V)))
abbrev rm_M_ask : Room := { frames := 2, cells := 0, slots := 0, locals := 46 }
set_option maxHeartbeats 4000000 in
set_option maxRecDepth 100000 in
theorem c_M_ask (l : Launch) (D : va_G) (cs : Nat → ClassId) (o : Nat) (h : Nat → Nat) (sz : Nat) (I : FI) (V : FV) (x1 : Int32) (x2 : Int32) (f : Nat) (out : Int32 × FI × FV) (hf : M_ask f x1 x2 I V = some out) : Met l yX10_ask wsX10_ask rm_M_ask (va_Pc [.ref o, .int x1, .int x2] (xP D cs (w_M cs o h I V) sz)) (va_Qi (fun r u => (r, u) = out) (fun (u : FI × FV) t => xA D cs (va_A (w_M cs o h I V) sz) (w_M cs o h u.1 u.2) t) (va_A (w_M cs o h I V) sz)) 0 0 (va_A (w_M cs o h I V) sz) := by
  refine Met.ofW (cc := cX10_ask) (maxL := 4) (ret := (some .int)) (by decide) rfl ?_
  intro p e s m args below meth c s₁ B hml hv
  obtain ⟨ha, hsz, hP, hK, hD0⟩ := hv
  have hx := B.exec
  have hb := B.bytes
  have hr := B.returns
  have hts := atoms_spec (ws := wsX10_ask) B.pre
  have hown : s.vm.findClass RX10 = some m.cls := findClass_of_methodNamed B.named
  have hlocks := B.notSynchronized
  have in_X10 : ∀ w ∈ u_ws RX10 TX10 38, w ∈ wsX10_ask := fun w h => List.mem_cons_of_mem _ (List.mem_append_right _ h)
  have g_92 := hts (.fieldLink RX10 92 "DaysLentModel" "thrown" "I") (by decide +kernel)
  have w_noOne_151 := cwV (R := rm_M_ask) (s := s) (args := args) (rm := rm_M_noOne) (mc := 0) (ms := 0) 1 hts gX10_ask_X10_noOne rfl rfl rfl (by decide +kernel) ⟨Nat.le_of_ble_eq_true rfl, Nat.le_of_ble_eq_true rfl⟩
  have k_158 := hts (.constantLong RX10 158 (9)) (by decide +kernel)
  have w_in_99 := va_cwS (R := rm_M_ask) (s := s) (args := args) (rm := rm_M_in) (mc := 0) (ms := 0) 3 hts gX10_ask_X10_in rfl rfl rfl (by decide +kernel) ⟨Nat.le_of_ble_eq_true rfl, Nat.le_of_ble_eq_true rfl⟩
  have g_16 := hts (.fieldLink RX10 16 "DaysLentModel" "asks" "[I") (by decide +kernel)
  subst hsz
  have hD := hD0.self (sz := s.heap.size)
  generalize hAe : va_A (w_M cs o h I V) s.heap.size = A at hD ⊢
  have hA : ∀ q : Nat, s.heap.size ≤ q → A q := fun q h => by rw [← hAe]; exact Or.inr h
  have hS : va_S A s.heap s.heap [] := va_S.rf
  have hl := lv_entry ([.ref o, .int x1, .int x2]) (n := 4) (Nat.le_of_ble_eq_true rfl)
  rw [show entryFrame m args 4 = entryFrame m ([.ref o, .int x1, .int x2] : List Value).toArray 4 from by rw [ha], lg_entry_eq]
  generalize (lg_sl ([.ref o, .int x1, .int x2]) ++ List.replicate (4 - (lg_sl ([.ref o, .int x1, .int x2])).length) Slot.unset).toArray = ls at hl ⊢
  have hl : lv_has ls 4 [(0, .ref o), (1, .int x1), (2, .int x2)] := hl
  generalize hQ : MQ below (va_Qi (fun r u => (r, u) = out) (fun (u : FI × FV) t => xA D cs A (w_M cs o h u.1 u.2) t) A) args s 0 0 A = Q
  show W p l e rm_M_ask s m args below meth c s.heap [] 0 0 Q (F0 m 0 ls [])
  have hret : ∀ (v : Int32) (Im9 : FI) (Vm9 : FV) (H : Heap) (locs : List Loc) (pc : Nat) (ls : Array Slot), some (v, Im9, Vm9) = some out → va_P D vwCl (w_M cs o h Im9 Vm9) H → va_D A (w_M cs o h Im9 Vm9) → va_S A s.heap H locs → decode cX10_ask pc = .ok (.ireturn, 1) → W p l e rm_M_ask s m args below meth c H locs 0 0 Q (F0 m pc ls [.int v]) := by
    intro v Im9 Vm9 H locs pc ls hf hP hD hS hd
    rw [← hQ]
    exact W.iret (v := v) hx hb hr (fun t ht hW => ⟨⟨v, (Im9, Vm9), rfl, Option.some.inj hf, by show va_P D vwCl (w_M cs o h Im9 Vm9) t.heap; rw [ht]; exact hP, va_K.moved hW.alike hK, hD⟩, hS.F ht⟩) hS.2.2 hd
  unfold M_ask at hf
  refine lv_aload_n hx hb dX10_ask_0 rfl (lv_at hl 0 rfl) ?_
  refine lv_iconst (v := 0) hx hb dX10_ask_1 (by decide) ?_
  refine va_put (D := D) (ci := 10) (v := .int 0) (ty := .int) (C := RX10) (T := TX10) (N := 38) hx hb hts in_X10 tyX10 tyX10_ok nmX10 hown hK hP hD hS 0 rfl rfl 0 (by decide) g_92 (fun _ h9 => h9) rfl (by decide +kernel) rfl rfl (Nat.le_of_ble_eq_true rfl) dX10_ask_2 (fun H locs hP hD hS => ?_)
  have hP : va_P D vwCl (w_M cs o h (va_up I 0 0) V) H := hP
  have hD : va_D A (w_M cs o h (va_up I 0 0) V) := hD
  refine lv_aload_n hx hb dX10_ask_5 rfl (lv_at hl 0 rfl) ?_
  refine lv_iload_n hx hb dX10_ask_6 rfl (lv_at hl 1 rfl) ?_
  obtain ⟨zr1, qr1, hf⟩ := bd1 hf
  refine vp_callSi (va_Run.run (va_runV (As := [.int x1]) (rest := []) ⟨hx, hb, hml, hown, hts⟩ (c_M_noOne l D cs o h (va_up I 0 0) V x1 f zr1 qr1) w_noOne_151 ⟨xR_moved, va_recv hK hP (ci := 10) (q0 := 0) rfl rfl, fun U hU hW => ⟨rfl, by rw [hU]; exact hP, va_K.moved hW.alike hK⟩⟩ rfl rfl hl.1 rfl (lv_room (Nat.le_of_ble_eq_true rfl)) dX10_ask_7 ⟨Nat.zero_le _, Nat.zero_le _⟩)) (fun r1 er1 => ?_)
  rw [er1]
  refine lv_if_eq (tgt := 15) hx hb dX10_ask_10 (by decide) (fun c10 => ?_) (fun c10 => ?_)
  · replace hf := ip c10 hf
    refine lv_iload_n hx hb dX10_ask_15 rfl (lv_at hl 2 rfl) ?_
    refine lv_i2l (v := x2.toInt64) hx hb dX10_ask_16 rfl ?_
    refine lv_lconst (v := 0) hx hb dX10_ask_17 (by decide) ?_
    refine lv_ldc2 (v := 9) hx hb hown k_158 dX10_ask_18 ?_
    obtain ⟨zr2, qr2, hf⟩ := bd1 hf
    refine vp_callSi (va_Run.run (va_runS (As := [.long (x2.toInt64), .long 0, .long 9]) (rest := []) ⟨hx, hb, hml, hown, hts⟩ (c_M_in l (x2.toInt64) 0 9 f zr2 qr2) w_in_99 ⟨fun a U g mk q => q, fun U hU hW => ⟨rfl, trivial⟩⟩ rfl rfl hl.1 rfl (lv_room (Nat.le_of_ble_eq_true rfl)) dX10_ask_21 ⟨Nat.zero_le _, Nat.zero_le _⟩)) (fun r2 er2 => ?_)
    rw [er2]
    refine lv_if_ne (tgt := 30) hx hb dX10_ask_24 (by decide) (fun c24 => ?_) (fun c24 => ?_)
    · replace hf := im c24 hf
      refine lv_aload_n hx hb dX10_ask_30 rfl (lv_at hl 0 rfl) ?_
      refine va_get (D := D) (ci := 10) (v := .ref (h 6)) (C := RX10) (T := TX10) (N := 38) hx hb hts in_X10 hown hK hP 0 rfl rfl 6 (by decide) g_16 (fun _ h9 => h9) rfl dX10_ask_31 ?_
      refine lv_iload_n hx hb dX10_ask_34 rfl (lv_at hl 1 rfl) ?_
      obtain ⟨c35, hf⟩ := gd hf
      refine va_iald hx hb hK hP 3 0 rfl rfl c35 dX10_ask_35 ?_
      refine lv_topi (fun y3 ey3 => ?_)
      replace hf := nmd hf ey3
      refine lv_istore_n (lv' := [(3, .int y3), (0, .ref o), (1, .int x1), (2, .int x2)]) hx hb dX10_ask_36 rfl hl (by decide) rfl (fun ls hl => ?_)
      refine lv_aload_n hx hb dX10_ask_37 rfl (lv_at hl 1 rfl) ?_
      refine va_get (D := D) (ci := 10) (v := .ref (h 6)) (C := RX10) (T := TX10) (N := 38) hx hb hts in_X10 hown hK hP 0 rfl rfl 6 (by decide) g_16 (fun _ h9 => h9) rfl dX10_ask_38 ?_
      refine lv_iload_n hx hb dX10_ask_41 rfl (lv_at hl 2 rfl) ?_
      refine lv_iload_n hx hb dX10_ask_42 rfl (lv_at hl 3 rfl) ?_
      obtain ⟨c43, hf⟩ := gd hf
      refine va_iast hx hb hK hP hD hS 3 0 rfl rfl c43 dX10_ask_43 (fun H locs hP hD hS => ?_)
      have hP : va_P D vwCl (w_M cs o h (va_up I 0 0) (va_up V 6 (upd (V 6) x1.toNatClampNeg x2))) H := hP
      have hD : va_D A (w_M cs o h (va_up I 0 0) (va_up V 6 (upd (V 6) x1.toNatClampNeg x2))) := hD
      refine lv_iload_n hx hb dX10_ask_44 rfl (lv_at hl 0 rfl) ?_
      exact hret y3 (va_up I 0 0) (va_up V 6 (upd (V 6) x1.toNatClampNeg x2)) _ _ 45 _ hf hP hD hS dX10_ask_45
    · replace hf := ip c24 hf
      refine lv_bipush (v := (-2)) hx hb dX10_ask_27 (by decide) ?_
      exact hret (-2) (va_up I 0 0) V _ _ 29 _ hf hP hD hS dX10_ask_29
  · replace hf := im c10 hf
    refine lv_iconst (v := (-1)) hx hb dX10_ask_13 (by decide) ?_
    exact hret (-1) (va_up I 0 0) V _ _ 14 _ hf hP hD hS dX10_ask_14
def M_layPage_book_L2 {ρ : Type} (f : Nat) (x2 : Int32) (k_2 : FV → Option ρ) : Nat → Int32 → FV → Option ρ
  | 0, _, _ => none
  | n_2 + 1, x3_2, Vm_2 => (if 6 ≤ x3_2 then (k_2 Vm_2) else if x3_2 < 0 ∨ 6 ≤ x3_2.toNatClampNeg then none else (if (x2 + x3_2) < 0 ∨ 740 ≤ (x2 + x3_2).toNatClampNeg then none else (if x3_2 < 0 ∨ 6 ≤ x3_2.toNatClampNeg then none else (if ((x2 + 6) + x3_2) < 0 ∨ 740 ≤ ((x2 + 6) + x3_2).toNatClampNeg then none else (if x3_2 < 0 ∨ 6 ≤ x3_2.toNatClampNeg then none else ((nm (fun (t2_54 : Int32) => if x3_2 < 0 ∨ 6 ≤ x3_2.toNatClampNeg then none else ((nm (fun (t3_68 : Int32) => if ((x2 + 12) + x3_2) < 0 ∨ 740 ≤ ((x2 + 12) + x3_2).toNatClampNeg then none else ((M_layPage_book_L2 f x2 k_2 n_2 (x3_2 + 1) (va_up Vm_2 23 (upd (upd (upd (Vm_2 23) (x2 + x3_2).toNatClampNeg ((Vm_2 5) x3_2.toNatClampNeg)) ((x2 + 6) + x3_2).toNatClampNeg ((Vm_2 6) x3_2.toNatClampNeg)) ((x2 + 12) + x3_2).toNatClampNeg (t2_54 + t3_68)))))) (fun j68 => (if ((Vm_2 8) x3_2.toNatClampNeg) = 0 then (j68 0) else (j68 2)))))) (fun j54 => (if ((Vm_2 7) x3_2.toNatClampNeg) = 0 then (j54 0) else (j54 1))))))))))
def M_layPage_book_L78 {ρ : Type} (f : Nat) (x2 : Int32) (k_78 : FV → Option ρ) : Nat → Int32 → FV → Option ρ
  | 0, _, _ => none
  | n_78 + 1, x3_78, Vm_78 => (if 12 ≤ x3_78 then (k_78 Vm_78) else if x3_78 < 0 ∨ 12 ≤ x3_78.toNatClampNeg then none else (if ((x2 + 18) + x3_78) < 0 ∨ 740 ≤ ((x2 + 18) + x3_78).toNatClampNeg then none else (if x3_78 < 0 ∨ 12 ≤ x3_78.toNatClampNeg then none else (if ((x2 + 30) + x3_78) < 0 ∨ 740 ≤ ((x2 + 30) + x3_78).toNatClampNeg then none else (if x3_78 < 0 ∨ 12 ≤ x3_78.toNatClampNeg then none else (if ((x2 + 42) + x3_78) < 0 ∨ 740 ≤ ((x2 + 42) + x3_78).toNatClampNeg then none else (if x3_78 < 0 ∨ 12 ≤ x3_78.toNatClampNeg then none else (if ((x2 + 54) + x3_78) < 0 ∨ 740 ≤ ((x2 + 54) + x3_78).toNatClampNeg then none else ((M_layPage_book_L78 f x2 k_78 n_78 (x3_78 + 1) (va_up Vm_78 23 (upd (upd (upd (upd (Vm_78 23) ((x2 + 18) + x3_78).toNatClampNeg ((Vm_78 10) x3_78.toNatClampNeg)) ((x2 + 30) + x3_78).toNatClampNeg ((Vm_78 11) x3_78.toNatClampNeg)) ((x2 + 42) + x3_78).toNatClampNeg ((Vm_78 12) x3_78.toNatClampNeg)) ((x2 + 54) + x3_78).toNatClampNeg ((Vm_78 13) x3_78.toNatClampNeg)))))))))))))
def M_layPage_book (f : Nat) (x2 : Int32) (I : FI) (V : FV) : Option (FI × FV) := (M_layPage_book_L2 f x2 (fun (Vm_2 : FV) => (M_layPage_book_L78 f x2 (fun (Vm_78 : FV) => if (x2 + 66) < 0 ∨ 740 ≤ (x2 + 66).toNatClampNeg then none else (if (x2 + 67) < 0 ∨ 740 ≤ (x2 + 67).toNatClampNeg then none else (some (I, (va_up Vm_78 23 (upd (upd (Vm_78 23) (x2 + 66).toNatClampNeg (I 9)) (x2 + 67).toNatClampNeg (I 14))))))) f 0 Vm_2)) f 0 V)
abbrev rm_M_layPage_book : Room := { frames := 0, cells := 0, slots := 0, locals := 0 }
set_option maxHeartbeats 4000000 in
set_option maxRecDepth 100000 in
theorem c_M_layPage_book (l : Launch) (D : va_G) (cs : Nat → ClassId) (o : Nat) (h : Nat → Nat) (sz : Nat) (I : FI) (V : FV) (x2 : Int32) (f : Nat) (out : FI × FV) (hf : M_layPage_book f x2 I V = some out) : Met l yX10_layPage wsX10_layPage rm_M_layPage_book (va_Pc [.ref o, .ref (h 23), .int x2] (xP D cs (w_M cs o h I V) sz)) (va_Qv (fun u => u = out) (fun (u : FI × FV) t => xA D cs (va_A (w_M cs o h I V) sz) (w_M cs o h u.1 u.2) t) (va_A (w_M cs o h I V) sz)) 0 0 (va_A (w_M cs o h I V) sz) := by
  refine Met.ofW (cc := cX10_layPage) (maxL := 4) (ret := none) (by decide) rfl ?_
  intro p e s m args below meth c s₁ B hml hv
  obtain ⟨ha, hsz, hP, hK, hD0⟩ := hv
  have hx := B.exec
  have hb := B.bytes
  have hr := B.returns
  have hts := atoms_spec (ws := wsX10_layPage) B.pre
  have hown : s.vm.findClass RX10 = some m.cls := findClass_of_methodNamed B.named
  have hlocks := B.notSynchronized
  have in_X10 : ∀ w ∈ u_ws RX10 TX10 38, w ∈ wsX10_layPage := fun w h => List.mem_cons_of_mem _ (List.mem_append_right _ h)
  have g_13 := hts (.fieldLink RX10 13 "DaysLentModel" "mornings" "[I") (by decide +kernel)
  have g_16 := hts (.fieldLink RX10 16 "DaysLentModel" "asks" "[I") (by decide +kernel)
  have g_19 := hts (.fieldLink RX10 19 "DaysLentModel" "dead" "[Z") (by decide +kernel)
  have g_23 := hts (.fieldLink RX10 23 "DaysLentModel" "broken" "[Z") (by decide +kernel)
  have g_26 := hts (.fieldLink RX10 26 "DaysLentModel" "owed" "[I") (by decide +kernel)
  have g_29 := hts (.fieldLink RX10 29 "DaysLentModel" "owes" "[I") (by decide +kernel)
  have g_32 := hts (.fieldLink RX10 32 "DaysLentModel" "much" "[I") (by decide +kernel)
  have g_35 := hts (.fieldLink RX10 35 "DaysLentModel" "due" "[I") (by decide +kernel)
  have g_135 := hts (.fieldLink RX10 135 "DaysLentModel" "debts" "I") (by decide +kernel)
  have g_138 := hts (.fieldLink RX10 138 "DaysLentModel" "week" "I") (by decide +kernel)
  subst hsz
  have hD := hD0.self (sz := s.heap.size)
  generalize hAe : va_A (w_M cs o h I V) s.heap.size = A at hD ⊢
  have hA : ∀ q : Nat, s.heap.size ≤ q → A q := fun q h => by rw [← hAe]; exact Or.inr h
  have hS : va_S A s.heap s.heap [] := va_S.rf
  have hl := lv_entry ([.ref o, .ref (h 23), .int x2]) (n := 4) (Nat.le_of_ble_eq_true rfl)
  rw [show entryFrame m args 4 = entryFrame m ([.ref o, .ref (h 23), .int x2] : List Value).toArray 4 from by rw [ha], lg_entry_eq]
  generalize (lg_sl ([.ref o, .ref (h 23), .int x2]) ++ List.replicate (4 - (lg_sl ([.ref o, .ref (h 23), .int x2])).length) Slot.unset).toArray = ls at hl ⊢
  have hl : lv_has ls 4 [(0, .ref o), (1, .ref (h 23)), (2, .int x2)] := hl
  generalize hQ : MQ below (va_Qv (fun u => u = out) (fun (u : FI × FV) t => xA D cs A (w_M cs o h u.1 u.2) t) A) args s 0 0 A = Q
  show W p l e rm_M_layPage_book s m args below meth c s.heap [] 0 0 Q (F0 m 0 ls [])
  have hret : ∀ (Im9 : FI) (Vm9 : FV) (H : Heap) (locs : List Loc) (pc : Nat) (ls : Array Slot), some (Im9, Vm9) = some out → va_P D vwCl (w_M cs o h Im9 Vm9) H → va_D A (w_M cs o h Im9 Vm9) → va_S A s.heap H locs → decode cX10_layPage pc = .ok (.return_, 1) → W p l e rm_M_layPage_book s m args below meth c H locs 0 0 Q (F0 m pc ls []) := by
    intro Im9 Vm9 H locs pc ls hf hP hD hS hd
    rw [← hQ]
    exact W.vret hx hb hr (fun t ht hW => ⟨⟨(Im9, Vm9), rfl, Option.some.inj hf, by show va_P D vwCl (w_M cs o h Im9 Vm9) t.heap; rw [ht]; exact hP, va_K.moved hW.alike hK, hD⟩, hS.F ht⟩) hS.2.2 hd
  unfold M_layPage_book at hf
  refine lv_iconst (v := 0) hx hb dX10_layPage_0 (by decide) ?_
  refine lv_istore_n (lv' := [(3, .int 0), (0, .ref o), (1, .ref (h 23)), (2, .int x2)]) hx hb dX10_layPage_1 rfl hl (by decide) rfl (fun ls hl => ?_)
  have L2 : ∀ (k_2 : FV → Option (FI × FV)) (hk_2 : ∀ (Vm_2 : FV), k_2 Vm_2 = some out → ∀ (H : Heap) (locs : List Loc), va_P D vwCl (w_M cs o h I Vm_2) H → va_D A (w_M cs o h I Vm_2) → va_S A s.heap H locs → ∀ ls : Array Slot, lv_has ls 4 [(0, .ref o), (1, .ref (h 23)), (2, .int x2)] → W p l e rm_M_layPage_book s m args below meth c H locs 0 0 Q (F0 m 76 ls [])), ∀ (n_2 : Nat) (x3_2 : Int32) (Vm_2 : FV), M_layPage_book_L2 f x2 k_2 n_2 x3_2 Vm_2 = some out → ∀ (H : Heap) (locs : List Loc), va_P D vwCl (w_M cs o h I Vm_2) H → va_D A (w_M cs o h I Vm_2) → va_S A s.heap H locs → ∀ ls : Array Slot, lv_has ls 4 [(0, .ref o), (1, .ref (h 23)), (2, .int x2), (3, .int x3_2)] → W p l e rm_M_layPage_book s m args below meth c H locs 0 0 Q (F0 m 2 ls []) := by
    intro k_2 hk_2 n_2
    induction n_2 with
    | zero => intro x3_2 Vm_2 hf; rw [M_layPage_book_L2] at hf; cases hf
    | succ n_2 ih_2 =>
      intro x3_2 Vm_2 hf H locs hP hD hS ls hl
      rw [M_layPage_book_L2] at hf
      refine lv_iload_n hx hb dX10_layPage_2 rfl (lv_at hl 3 rfl) ?_
      refine lv_bipush (v := 6) hx hb dX10_layPage_3 (by decide) ?_
      refine lv_icmp_ge (tgt := 76) hx hb dX10_layPage_5 (by decide) (fun c5 => ?_) (fun c5 => ?_)
      · replace hf := ip c5 hf
        exact hk_2 Vm_2 hf _ _ hP hD hS _ (lv_sub hl [0, 1, 2] rfl)
      · replace hf := im c5 hf
        refine lv_aload_n hx hb dX10_layPage_8 rfl (lv_at hl 1 rfl) ?_
        refine lv_iload_n hx hb dX10_layPage_9 rfl (lv_at hl 2 rfl) ?_
        refine lv_iload_n hx hb dX10_layPage_10 rfl (lv_at hl 3 rfl) ?_
        refine lv_iadd hx hb dX10_layPage_11 ?_
        refine lv_aload_n hx hb dX10_layPage_12 rfl (lv_at hl 0 rfl) ?_
        refine va_get (D := D) (ci := 10) (v := .ref (h 5)) (C := RX10) (T := TX10) (N := 38) hx hb hts in_X10 hown hK hP 0 rfl rfl 5 (by decide) g_13 (fun _ h9 => h9) rfl dX10_layPage_13 ?_
        refine lv_iload_n hx hb dX10_layPage_16 rfl (lv_at hl 3 rfl) ?_
        obtain ⟨c17, hf⟩ := gd hf
        refine va_iald hx hb hK hP 2 0 rfl rfl c17 dX10_layPage_17 ?_
        obtain ⟨c18, hf⟩ := gd hf
        refine va_iast hx hb hK hP hD hS 16 0 rfl rfl c18 dX10_layPage_18 (fun H locs hP hD hS => ?_)
        have hP : va_P D vwCl (w_M cs o h I (va_up Vm_2 23 (upd (Vm_2 23) (x2 + x3_2).toNatClampNeg ((Vm_2 5) x3_2.toNatClampNeg)))) H := hP
        have hD : va_D A (w_M cs o h I (va_up Vm_2 23 (upd (Vm_2 23) (x2 + x3_2).toNatClampNeg ((Vm_2 5) x3_2.toNatClampNeg)))) := hD
        refine lv_aload_n hx hb dX10_layPage_19 rfl (lv_at hl 1 rfl) ?_
        refine lv_iload_n hx hb dX10_layPage_20 rfl (lv_at hl 2 rfl) ?_
        refine lv_bipush (v := 6) hx hb dX10_layPage_21 (by decide) ?_
        refine lv_iadd hx hb dX10_layPage_23 ?_
        refine lv_iload_n hx hb dX10_layPage_24 rfl (lv_at hl 3 rfl) ?_
        refine lv_iadd hx hb dX10_layPage_25 ?_
        refine lv_aload_n hx hb dX10_layPage_26 rfl (lv_at hl 0 rfl) ?_
        refine va_get (D := D) (ci := 10) (v := .ref (h 6)) (C := RX10) (T := TX10) (N := 38) hx hb hts in_X10 hown hK hP 0 rfl rfl 6 (by decide) g_16 (fun _ h9 => h9) rfl dX10_layPage_27 ?_
        refine lv_iload_n hx hb dX10_layPage_30 rfl (lv_at hl 3 rfl) ?_
        obtain ⟨c31, hf⟩ := gd hf
        refine va_iald hx hb hK hP 3 0 rfl rfl c31 dX10_layPage_31 ?_
        obtain ⟨c32, hf⟩ := gd hf
        refine va_iast hx hb hK hP hD hS 16 0 rfl rfl c32 dX10_layPage_32 (fun H locs hP hD hS => ?_)
        have hP : va_P D vwCl (w_M cs o h I (va_up Vm_2 23 (upd (upd (Vm_2 23) (x2 + x3_2).toNatClampNeg ((Vm_2 5) x3_2.toNatClampNeg)) ((x2 + 6) + x3_2).toNatClampNeg ((Vm_2 6) x3_2.toNatClampNeg)))) H := hP
        have hD : va_D A (w_M cs o h I (va_up Vm_2 23 (upd (upd (Vm_2 23) (x2 + x3_2).toNatClampNeg ((Vm_2 5) x3_2.toNatClampNeg)) ((x2 + 6) + x3_2).toNatClampNeg ((Vm_2 6) x3_2.toNatClampNeg)))) := hD
        refine lv_aload_n hx hb dX10_layPage_33 rfl (lv_at hl 1 rfl) ?_
        refine lv_iload_n hx hb dX10_layPage_34 rfl (lv_at hl 2 rfl) ?_
        refine lv_bipush (v := 12) hx hb dX10_layPage_35 (by decide) ?_
        refine lv_iadd hx hb dX10_layPage_37 ?_
        refine lv_iload_n hx hb dX10_layPage_38 rfl (lv_at hl 3 rfl) ?_
        refine lv_iadd hx hb dX10_layPage_39 ?_
        refine lv_aload_n hx hb dX10_layPage_40 rfl (lv_at hl 0 rfl) ?_
        refine va_get (D := D) (ci := 10) (v := .ref (h 7)) (C := RX10) (T := TX10) (N := 38) hx hb hts in_X10 hown hK hP 0 rfl rfl 7 (by decide) g_19 (fun _ h9 => h9) rfl dX10_layPage_41 ?_
        refine lv_iload_n hx hb dX10_layPage_44 rfl (lv_at hl 3 rfl) ?_
        obtain ⟨c45, hf⟩ := gd hf
        refine va_zald hx hb hK hP 4 1 rfl rfl c45 dX10_layPage_45 ?_
        obtain ⟨j54, ej54, hf⟩ := nme hf
        have J54 : ∀ (t2_54 : Int32), j54 t2_54 = some out → ∀ (H : Heap) (locs : List Loc), va_P D vwCl (w_M cs o h I (va_up Vm_2 23 (upd (upd (Vm_2 23) (x2 + x3_2).toNatClampNeg ((Vm_2 5) x3_2.toNatClampNeg)) ((x2 + 6) + x3_2).toNatClampNeg ((Vm_2 6) x3_2.toNatClampNeg)))) H → va_D A (w_M cs o h I (va_up Vm_2 23 (upd (upd (Vm_2 23) (x2 + x3_2).toNatClampNeg ((Vm_2 5) x3_2.toNatClampNeg)) ((x2 + 6) + x3_2).toNatClampNeg ((Vm_2 6) x3_2.toNatClampNeg)))) → va_S A s.heap H locs → ∀ ls : Array Slot, lv_has ls 4 [(0, .ref o), (1, .ref (h 23)), (2, .int x2), (3, .int x3_2)] → W p l e rm_M_layPage_book s m args below meth c H locs 0 0 Q (F0 m 54 ls [.int t2_54, .int ((x2 + 12) + x3_2), .ref (h 23)]) := by
          intro t2_54 hf H locs hP hD hS ls hl
          rw [ej54] at hf
          refine lv_aload_n hx hb dX10_layPage_54 rfl (lv_at hl 0 rfl) ?_
          refine va_get (D := D) (ci := 10) (v := .ref (h 8)) (C := RX10) (T := TX10) (N := 38) hx hb hts in_X10 hown hK hP 0 rfl rfl 8 (by decide) g_23 (fun _ h9 => h9) rfl dX10_layPage_55 ?_
          refine lv_iload_n hx hb dX10_layPage_58 rfl (lv_at hl 3 rfl) ?_
          obtain ⟨c59, hf⟩ := gd hf
          refine va_zald hx hb hK hP 5 1 rfl rfl c59 dX10_layPage_59 ?_
          obtain ⟨j68, ej68, hf⟩ := nme hf
          have J68 : ∀ (t3_68 : Int32), j68 t3_68 = some out → ∀ (H : Heap) (locs : List Loc), va_P D vwCl (w_M cs o h I (va_up Vm_2 23 (upd (upd (Vm_2 23) (x2 + x3_2).toNatClampNeg ((Vm_2 5) x3_2.toNatClampNeg)) ((x2 + 6) + x3_2).toNatClampNeg ((Vm_2 6) x3_2.toNatClampNeg)))) H → va_D A (w_M cs o h I (va_up Vm_2 23 (upd (upd (Vm_2 23) (x2 + x3_2).toNatClampNeg ((Vm_2 5) x3_2.toNatClampNeg)) ((x2 + 6) + x3_2).toNatClampNeg ((Vm_2 6) x3_2.toNatClampNeg)))) → va_S A s.heap H locs → ∀ ls : Array Slot, lv_has ls 4 [(0, .ref o), (1, .ref (h 23)), (2, .int x2), (3, .int x3_2)] → W p l e rm_M_layPage_book s m args below meth c H locs 0 0 Q (F0 m 68 ls [.int t3_68, .int t2_54, .int ((x2 + 12) + x3_2), .ref (h 23)]) := by
            intro t3_68 hf H locs hP hD hS ls hl
            rw [ej68] at hf
            refine lv_iadd hx hb dX10_layPage_68 ?_
            obtain ⟨c69, hf⟩ := gd hf
            refine va_iast hx hb hK hP hD hS 16 0 rfl rfl c69 dX10_layPage_69 (fun H locs hP hD hS => ?_)
            have hP : va_P D vwCl (w_M cs o h I (va_up Vm_2 23 (upd (upd (upd (Vm_2 23) (x2 + x3_2).toNatClampNeg ((Vm_2 5) x3_2.toNatClampNeg)) ((x2 + 6) + x3_2).toNatClampNeg ((Vm_2 6) x3_2.toNatClampNeg)) ((x2 + 12) + x3_2).toNatClampNeg (t2_54 + t3_68)))) H := hP
            have hD : va_D A (w_M cs o h I (va_up Vm_2 23 (upd (upd (upd (Vm_2 23) (x2 + x3_2).toNatClampNeg ((Vm_2 5) x3_2.toNatClampNeg)) ((x2 + 6) + x3_2).toNatClampNeg ((Vm_2 6) x3_2.toNatClampNeg)) ((x2 + 12) + x3_2).toNatClampNeg (t2_54 + t3_68)))) := hD
            refine lv_iinc (v := (x3_2 + 1)) (lv' := [(3, .int (x3_2 + 1)), (0, .ref o), (1, .ref (h 23)), (2, .int x2)]) hx hb dX10_layPage_70 hl (k := 3) rfl (by rfl) (by decide) rfl (fun ls hl => ?_)
            refine lv_goto (tgt := 2) hx hb dX10_layPage_73 (by decide) ?_
            exact ih_2 (x3_2 + 1) (va_up Vm_2 23 (upd (upd (upd (Vm_2 23) (x2 + x3_2).toNatClampNeg ((Vm_2 5) x3_2.toNatClampNeg)) ((x2 + 6) + x3_2).toNatClampNeg ((Vm_2 6) x3_2.toNatClampNeg)) ((x2 + 12) + x3_2).toNatClampNeg (t2_54 + t3_68))) hf _ _ hP hD hS _ (lv_sub hl [1, 2, 3, 0] rfl)
          refine lv_if_eq (tgt := 67) hx hb dX10_layPage_60 (by decide) (fun c60 => ?_) (fun c60 => ?_)
          · replace hf := ip c60 hf
            refine lv_iconst (v := 0) hx hb dX10_layPage_67 (by decide) ?_
            exact J68 0 hf _ _ hP hD hS _ (lv_sub hl [0, 1, 2, 3] rfl)
          · replace hf := im c60 hf
            refine lv_iconst (v := 2) hx hb dX10_layPage_63 (by decide) ?_
            refine lv_goto (tgt := 68) hx hb dX10_layPage_64 (by decide) ?_
            exact J68 2 hf _ _ hP hD hS _ (lv_sub hl [0, 1, 2, 3] rfl)
        refine lv_if_eq (tgt := 53) hx hb dX10_layPage_46 (by decide) (fun c46 => ?_) (fun c46 => ?_)
        · replace hf := ip c46 hf
          refine lv_iconst (v := 0) hx hb dX10_layPage_53 (by decide) ?_
          exact J54 0 hf _ _ hP hD hS _ (lv_sub hl [0, 1, 2, 3] rfl)
        · replace hf := im c46 hf
          refine lv_iconst (v := 1) hx hb dX10_layPage_49 (by decide) ?_
          refine lv_goto (tgt := 54) hx hb dX10_layPage_50 (by decide) ?_
          exact J54 1 hf _ _ hP hD hS _ (lv_sub hl [0, 1, 2, 3] rfl)
  refine L2 _ (fun Vm_2 hf H locs hP hD hS ls hl => ?_) f 0 V hf _ _ hP hD hS _ (lv_sub hl [1, 2, 3, 0] rfl)
  refine lv_iconst (v := 0) hx hb dX10_layPage_76 (by decide) ?_
  refine lv_istore_n (lv' := [(3, .int 0), (0, .ref o), (1, .ref (h 23)), (2, .int x2)]) hx hb dX10_layPage_77 rfl hl (by decide) rfl (fun ls hl => ?_)
  have L78 : ∀ (k_78 : FV → Option (FI × FV)) (hk_78 : ∀ (Vm_78 : FV), k_78 Vm_78 = some out → ∀ (H : Heap) (locs : List Loc), va_P D vwCl (w_M cs o h I Vm_78) H → va_D A (w_M cs o h I Vm_78) → va_S A s.heap H locs → ∀ ls : Array Slot, lv_has ls 4 [(0, .ref o), (1, .ref (h 23)), (2, .int x2)] → W p l e rm_M_layPage_book s m args below meth c H locs 0 0 Q (F0 m 146 ls [])), ∀ (n_78 : Nat) (x3_78 : Int32) (Vm_78 : FV), M_layPage_book_L78 f x2 k_78 n_78 x3_78 Vm_78 = some out → ∀ (H : Heap) (locs : List Loc), va_P D vwCl (w_M cs o h I Vm_78) H → va_D A (w_M cs o h I Vm_78) → va_S A s.heap H locs → ∀ ls : Array Slot, lv_has ls 4 [(0, .ref o), (1, .ref (h 23)), (2, .int x2), (3, .int x3_78)] → W p l e rm_M_layPage_book s m args below meth c H locs 0 0 Q (F0 m 78 ls []) := by
    intro k_78 hk_78 n_78
    induction n_78 with
    | zero => intro x3_78 Vm_78 hf; rw [M_layPage_book_L78] at hf; cases hf
    | succ n_78 ih_78 =>
      intro x3_78 Vm_78 hf H locs hP hD hS ls hl
      rw [M_layPage_book_L78] at hf
      refine lv_iload_n hx hb dX10_layPage_78 rfl (lv_at hl 3 rfl) ?_
      refine lv_bipush (v := 12) hx hb dX10_layPage_79 (by decide) ?_
      refine lv_icmp_ge (tgt := 146) hx hb dX10_layPage_81 (by decide) (fun c81 => ?_) (fun c81 => ?_)
      · replace hf := ip c81 hf
        exact hk_78 Vm_78 hf _ _ hP hD hS _ (lv_sub hl [0, 1, 2] rfl)
      · replace hf := im c81 hf
        refine lv_aload_n hx hb dX10_layPage_84 rfl (lv_at hl 1 rfl) ?_
        refine lv_iload_n hx hb dX10_layPage_85 rfl (lv_at hl 2 rfl) ?_
        refine lv_bipush (v := 18) hx hb dX10_layPage_86 (by decide) ?_
        refine lv_iadd hx hb dX10_layPage_88 ?_
        refine lv_iload_n hx hb dX10_layPage_89 rfl (lv_at hl 3 rfl) ?_
        refine lv_iadd hx hb dX10_layPage_90 ?_
        refine lv_aload_n hx hb dX10_layPage_91 rfl (lv_at hl 0 rfl) ?_
        refine va_get (D := D) (ci := 10) (v := .ref (h 10)) (C := RX10) (T := TX10) (N := 38) hx hb hts in_X10 hown hK hP 0 rfl rfl 10 (by decide) g_26 (fun _ h9 => h9) rfl dX10_layPage_92 ?_
        refine lv_iload_n hx hb dX10_layPage_95 rfl (lv_at hl 3 rfl) ?_
        obtain ⟨c96, hf⟩ := gd hf
        refine va_iald hx hb hK hP 6 0 rfl rfl c96 dX10_layPage_96 ?_
        obtain ⟨c97, hf⟩ := gd hf
        refine va_iast hx hb hK hP hD hS 16 0 rfl rfl c97 dX10_layPage_97 (fun H locs hP hD hS => ?_)
        have hP : va_P D vwCl (w_M cs o h I (va_up Vm_78 23 (upd (Vm_78 23) ((x2 + 18) + x3_78).toNatClampNeg ((Vm_78 10) x3_78.toNatClampNeg)))) H := hP
        have hD : va_D A (w_M cs o h I (va_up Vm_78 23 (upd (Vm_78 23) ((x2 + 18) + x3_78).toNatClampNeg ((Vm_78 10) x3_78.toNatClampNeg)))) := hD
        refine lv_aload_n hx hb dX10_layPage_98 rfl (lv_at hl 1 rfl) ?_
        refine lv_iload_n hx hb dX10_layPage_99 rfl (lv_at hl 2 rfl) ?_
        refine lv_bipush (v := 30) hx hb dX10_layPage_100 (by decide) ?_
        refine lv_iadd hx hb dX10_layPage_102 ?_
        refine lv_iload_n hx hb dX10_layPage_103 rfl (lv_at hl 3 rfl) ?_
        refine lv_iadd hx hb dX10_layPage_104 ?_
        refine lv_aload_n hx hb dX10_layPage_105 rfl (lv_at hl 0 rfl) ?_
        refine va_get (D := D) (ci := 10) (v := .ref (h 11)) (C := RX10) (T := TX10) (N := 38) hx hb hts in_X10 hown hK hP 0 rfl rfl 11 (by decide) g_29 (fun _ h9 => h9) rfl dX10_layPage_106 ?_
        refine lv_iload_n hx hb dX10_layPage_109 rfl (lv_at hl 3 rfl) ?_
        obtain ⟨c110, hf⟩ := gd hf
        refine va_iald hx hb hK hP 7 0 rfl rfl c110 dX10_layPage_110 ?_
        obtain ⟨c111, hf⟩ := gd hf
        refine va_iast hx hb hK hP hD hS 16 0 rfl rfl c111 dX10_layPage_111 (fun H locs hP hD hS => ?_)
        have hP : va_P D vwCl (w_M cs o h I (va_up Vm_78 23 (upd (upd (Vm_78 23) ((x2 + 18) + x3_78).toNatClampNeg ((Vm_78 10) x3_78.toNatClampNeg)) ((x2 + 30) + x3_78).toNatClampNeg ((Vm_78 11) x3_78.toNatClampNeg)))) H := hP
        have hD : va_D A (w_M cs o h I (va_up Vm_78 23 (upd (upd (Vm_78 23) ((x2 + 18) + x3_78).toNatClampNeg ((Vm_78 10) x3_78.toNatClampNeg)) ((x2 + 30) + x3_78).toNatClampNeg ((Vm_78 11) x3_78.toNatClampNeg)))) := hD
        refine lv_aload_n hx hb dX10_layPage_112 rfl (lv_at hl 1 rfl) ?_
        refine lv_iload_n hx hb dX10_layPage_113 rfl (lv_at hl 2 rfl) ?_
        refine lv_bipush (v := 42) hx hb dX10_layPage_114 (by decide) ?_
        refine lv_iadd hx hb dX10_layPage_116 ?_
        refine lv_iload_n hx hb dX10_layPage_117 rfl (lv_at hl 3 rfl) ?_
        refine lv_iadd hx hb dX10_layPage_118 ?_
        refine lv_aload_n hx hb dX10_layPage_119 rfl (lv_at hl 0 rfl) ?_
        refine va_get (D := D) (ci := 10) (v := .ref (h 12)) (C := RX10) (T := TX10) (N := 38) hx hb hts in_X10 hown hK hP 0 rfl rfl 12 (by decide) g_32 (fun _ h9 => h9) rfl dX10_layPage_120 ?_
        refine lv_iload_n hx hb dX10_layPage_123 rfl (lv_at hl 3 rfl) ?_
        obtain ⟨c124, hf⟩ := gd hf
        refine va_iald hx hb hK hP 8 0 rfl rfl c124 dX10_layPage_124 ?_
        obtain ⟨c125, hf⟩ := gd hf
        refine va_iast hx hb hK hP hD hS 16 0 rfl rfl c125 dX10_layPage_125 (fun H locs hP hD hS => ?_)
        have hP : va_P D vwCl (w_M cs o h I (va_up Vm_78 23 (upd (upd (upd (Vm_78 23) ((x2 + 18) + x3_78).toNatClampNeg ((Vm_78 10) x3_78.toNatClampNeg)) ((x2 + 30) + x3_78).toNatClampNeg ((Vm_78 11) x3_78.toNatClampNeg)) ((x2 + 42) + x3_78).toNatClampNeg ((Vm_78 12) x3_78.toNatClampNeg)))) H := hP
        have hD : va_D A (w_M cs o h I (va_up Vm_78 23 (upd (upd (upd (Vm_78 23) ((x2 + 18) + x3_78).toNatClampNeg ((Vm_78 10) x3_78.toNatClampNeg)) ((x2 + 30) + x3_78).toNatClampNeg ((Vm_78 11) x3_78.toNatClampNeg)) ((x2 + 42) + x3_78).toNatClampNeg ((Vm_78 12) x3_78.toNatClampNeg)))) := hD
        refine lv_aload_n hx hb dX10_layPage_126 rfl (lv_at hl 1 rfl) ?_
        refine lv_iload_n hx hb dX10_layPage_127 rfl (lv_at hl 2 rfl) ?_
        refine lv_bipush (v := 54) hx hb dX10_layPage_128 (by decide) ?_
        refine lv_iadd hx hb dX10_layPage_130 ?_
        refine lv_iload_n hx hb dX10_layPage_131 rfl (lv_at hl 3 rfl) ?_
        refine lv_iadd hx hb dX10_layPage_132 ?_
        refine lv_aload_n hx hb dX10_layPage_133 rfl (lv_at hl 0 rfl) ?_
        refine va_get (D := D) (ci := 10) (v := .ref (h 13)) (C := RX10) (T := TX10) (N := 38) hx hb hts in_X10 hown hK hP 0 rfl rfl 13 (by decide) g_35 (fun _ h9 => h9) rfl dX10_layPage_134 ?_
        refine lv_iload_n hx hb dX10_layPage_137 rfl (lv_at hl 3 rfl) ?_
        obtain ⟨c138, hf⟩ := gd hf
        refine va_iald hx hb hK hP 9 0 rfl rfl c138 dX10_layPage_138 ?_
        obtain ⟨c139, hf⟩ := gd hf
        refine va_iast hx hb hK hP hD hS 16 0 rfl rfl c139 dX10_layPage_139 (fun H locs hP hD hS => ?_)
        have hP : va_P D vwCl (w_M cs o h I (va_up Vm_78 23 (upd (upd (upd (upd (Vm_78 23) ((x2 + 18) + x3_78).toNatClampNeg ((Vm_78 10) x3_78.toNatClampNeg)) ((x2 + 30) + x3_78).toNatClampNeg ((Vm_78 11) x3_78.toNatClampNeg)) ((x2 + 42) + x3_78).toNatClampNeg ((Vm_78 12) x3_78.toNatClampNeg)) ((x2 + 54) + x3_78).toNatClampNeg ((Vm_78 13) x3_78.toNatClampNeg)))) H := hP
        have hD : va_D A (w_M cs o h I (va_up Vm_78 23 (upd (upd (upd (upd (Vm_78 23) ((x2 + 18) + x3_78).toNatClampNeg ((Vm_78 10) x3_78.toNatClampNeg)) ((x2 + 30) + x3_78).toNatClampNeg ((Vm_78 11) x3_78.toNatClampNeg)) ((x2 + 42) + x3_78).toNatClampNeg ((Vm_78 12) x3_78.toNatClampNeg)) ((x2 + 54) + x3_78).toNatClampNeg ((Vm_78 13) x3_78.toNatClampNeg)))) := hD
        refine lv_iinc (v := (x3_78 + 1)) (lv' := [(3, .int (x3_78 + 1)), (0, .ref o), (1, .ref (h 23)), (2, .int x2)]) hx hb dX10_layPage_140 hl (k := 3) rfl (by rfl) (by decide) rfl (fun ls hl => ?_)
        refine lv_goto (tgt := 78) hx hb dX10_layPage_143 (by decide) ?_
        exact ih_78 (x3_78 + 1) (va_up Vm_78 23 (upd (upd (upd (upd (Vm_78 23) ((x2 + 18) + x3_78).toNatClampNeg ((Vm_78 10) x3_78.toNatClampNeg)) ((x2 + 30) + x3_78).toNatClampNeg ((Vm_78 11) x3_78.toNatClampNeg)) ((x2 + 42) + x3_78).toNatClampNeg ((Vm_78 12) x3_78.toNatClampNeg)) ((x2 + 54) + x3_78).toNatClampNeg ((Vm_78 13) x3_78.toNatClampNeg))) hf _ _ hP hD hS _ (lv_sub hl [1, 2, 3, 0] rfl)
  refine L78 _ (fun Vm_78 hf H locs hP hD hS ls hl => ?_) f 0 Vm_2 hf _ _ hP hD hS _ (lv_sub hl [1, 2, 3, 0] rfl)
  refine lv_aload_n hx hb dX10_layPage_146 rfl (lv_at hl 1 rfl) ?_
  refine lv_iload_n hx hb dX10_layPage_147 rfl (lv_at hl 2 rfl) ?_
  refine lv_bipush (v := 66) hx hb dX10_layPage_148 (by decide) ?_
  refine lv_iadd hx hb dX10_layPage_150 ?_
  refine lv_aload_n hx hb dX10_layPage_151 rfl (lv_at hl 0 rfl) ?_
  refine va_get (D := D) (ci := 10) (v := .int (I 9)) (C := RX10) (T := TX10) (N := 38) hx hb hts in_X10 hown hK hP 0 rfl rfl 9 (by decide) g_135 (fun _ h9 => h9) rfl dX10_layPage_152 ?_
  obtain ⟨c155, hf⟩ := gd hf
  refine va_iast hx hb hK hP hD hS 16 0 rfl rfl c155 dX10_layPage_155 (fun H locs hP hD hS => ?_)
  have hP : va_P D vwCl (w_M cs o h I (va_up Vm_78 23 (upd (Vm_78 23) (x2 + 66).toNatClampNeg (I 9)))) H := hP
  have hD : va_D A (w_M cs o h I (va_up Vm_78 23 (upd (Vm_78 23) (x2 + 66).toNatClampNeg (I 9)))) := hD
  refine lv_aload_n hx hb dX10_layPage_156 rfl (lv_at hl 1 rfl) ?_
  refine lv_iload_n hx hb dX10_layPage_157 rfl (lv_at hl 2 rfl) ?_
  refine lv_bipush (v := 67) hx hb dX10_layPage_158 (by decide) ?_
  refine lv_iadd hx hb dX10_layPage_160 ?_
  refine lv_aload_n hx hb dX10_layPage_161 rfl (lv_at hl 0 rfl) ?_
  refine va_get (D := D) (ci := 10) (v := .int (I 14)) (C := RX10) (T := TX10) (N := 38) hx hb hts in_X10 hown hK hP 0 rfl rfl 14 (by decide) g_138 (fun _ h9 => h9) rfl dX10_layPage_162 ?_
  obtain ⟨c165, hf⟩ := gd hf
  refine va_iast hx hb hK hP hD hS 16 0 rfl rfl c165 dX10_layPage_165 (fun H locs hP hD hS => ?_)
  have hP : va_P D vwCl (w_M cs o h I (va_up Vm_78 23 (upd (upd (Vm_78 23) (x2 + 66).toNatClampNeg (I 9)) (x2 + 67).toNatClampNeg (I 14)))) H := hP
  have hD : va_D A (w_M cs o h I (va_up Vm_78 23 (upd (upd (Vm_78 23) (x2 + 66).toNatClampNeg (I 9)) (x2 + 67).toNatClampNeg (I 14)))) := hD
  exact hret I (va_up Vm_78 23 (upd (upd (Vm_78 23) (x2 + 66).toNatClampNeg (I 9)) (x2 + 67).toNatClampNeg (I 14))) _ _ 166 _ hf hP hD hS dX10_layPage_166
def M_layPage_kept_L2 {ρ : Type} (f : Nat) (x2 : Int32) (k_2 : FV → Option ρ) : Nat → Int32 → FV → Option ρ
  | 0, _, _ => none
  | n_2 + 1, x3_2, Vm_2 => (if 6 ≤ x3_2 then (k_2 Vm_2) else if x3_2 < 0 ∨ 6 ≤ x3_2.toNatClampNeg then none else (if (x2 + x3_2) < 0 ∨ 148 ≤ (x2 + x3_2).toNatClampNeg then none else (if x3_2 < 0 ∨ 6 ≤ x3_2.toNatClampNeg then none else (if ((x2 + 6) + x3_2) < 0 ∨ 148 ≤ ((x2 + 6) + x3_2).toNatClampNeg then none else (if x3_2 < 0 ∨ 6 ≤ x3_2.toNatClampNeg then none else ((nm (fun (t2_54 : Int32) => if x3_2 < 0 ∨ 6 ≤ x3_2.toNatClampNeg then none else ((nm (fun (t3_68 : Int32) => if ((x2 + 12) + x3_2) < 0 ∨ 148 ≤ ((x2 + 12) + x3_2).toNatClampNeg then none else ((M_layPage_kept_L2 f x2 k_2 n_2 (x3_2 + 1) (va_up Vm_2 25 (upd (upd (upd (Vm_2 25) (x2 + x3_2).toNatClampNeg ((Vm_2 5) x3_2.toNatClampNeg)) ((x2 + 6) + x3_2).toNatClampNeg ((Vm_2 6) x3_2.toNatClampNeg)) ((x2 + 12) + x3_2).toNatClampNeg (t2_54 + t3_68)))))) (fun j68 => (if ((Vm_2 8) x3_2.toNatClampNeg) = 0 then (j68 0) else (j68 2)))))) (fun j54 => (if ((Vm_2 7) x3_2.toNatClampNeg) = 0 then (j54 0) else (j54 1))))))))))
def M_layPage_kept_L78 {ρ : Type} (f : Nat) (x2 : Int32) (k_78 : FV → Option ρ) : Nat → Int32 → FV → Option ρ
  | 0, _, _ => none
  | n_78 + 1, x3_78, Vm_78 => (if 12 ≤ x3_78 then (k_78 Vm_78) else if x3_78 < 0 ∨ 12 ≤ x3_78.toNatClampNeg then none else (if ((x2 + 18) + x3_78) < 0 ∨ 148 ≤ ((x2 + 18) + x3_78).toNatClampNeg then none else (if x3_78 < 0 ∨ 12 ≤ x3_78.toNatClampNeg then none else (if ((x2 + 30) + x3_78) < 0 ∨ 148 ≤ ((x2 + 30) + x3_78).toNatClampNeg then none else (if x3_78 < 0 ∨ 12 ≤ x3_78.toNatClampNeg then none else (if ((x2 + 42) + x3_78) < 0 ∨ 148 ≤ ((x2 + 42) + x3_78).toNatClampNeg then none else (if x3_78 < 0 ∨ 12 ≤ x3_78.toNatClampNeg then none else (if ((x2 + 54) + x3_78) < 0 ∨ 148 ≤ ((x2 + 54) + x3_78).toNatClampNeg then none else ((M_layPage_kept_L78 f x2 k_78 n_78 (x3_78 + 1) (va_up Vm_78 25 (upd (upd (upd (upd (Vm_78 25) ((x2 + 18) + x3_78).toNatClampNeg ((Vm_78 10) x3_78.toNatClampNeg)) ((x2 + 30) + x3_78).toNatClampNeg ((Vm_78 11) x3_78.toNatClampNeg)) ((x2 + 42) + x3_78).toNatClampNeg ((Vm_78 12) x3_78.toNatClampNeg)) ((x2 + 54) + x3_78).toNatClampNeg ((Vm_78 13) x3_78.toNatClampNeg)))))))))))))
def M_layPage_kept (f : Nat) (x2 : Int32) (I : FI) (V : FV) : Option (FI × FV) := (M_layPage_kept_L2 f x2 (fun (Vm_2 : FV) => (M_layPage_kept_L78 f x2 (fun (Vm_78 : FV) => if (x2 + 66) < 0 ∨ 148 ≤ (x2 + 66).toNatClampNeg then none else (if (x2 + 67) < 0 ∨ 148 ≤ (x2 + 67).toNatClampNeg then none else (some (I, (va_up Vm_78 25 (upd (upd (Vm_78 25) (x2 + 66).toNatClampNeg (I 9)) (x2 + 67).toNatClampNeg (I 14))))))) f 0 Vm_2)) f 0 V)
abbrev rm_M_layPage_kept : Room := { frames := 0, cells := 0, slots := 0, locals := 0 }
set_option maxHeartbeats 4000000 in
set_option maxRecDepth 100000 in
theorem c_M_layPage_kept (l : Launch) (D : va_G) (cs : Nat → ClassId) (o : Nat) (h : Nat → Nat) (sz : Nat) (I : FI) (V : FV) (x2 : Int32) (f : Nat) (out : FI × FV) (hf : M_layPage_kept f x2 I V = some out) : Met l yX10_layPage wsX10_layPage rm_M_layPage_kept (va_Pc [.ref o, .ref (h 25), .int x2] (xP D cs (w_M cs o h I V) sz)) (va_Qv (fun u => u = out) (fun (u : FI × FV) t => xA D cs (va_A (w_M cs o h I V) sz) (w_M cs o h u.1 u.2) t) (va_A (w_M cs o h I V) sz)) 0 0 (va_A (w_M cs o h I V) sz) := by
  refine Met.ofW (cc := cX10_layPage) (maxL := 4) (ret := none) (by decide) rfl ?_
  intro p e s m args below meth c s₁ B hml hv
  obtain ⟨ha, hsz, hP, hK, hD0⟩ := hv
  have hx := B.exec
  have hb := B.bytes
  have hr := B.returns
  have hts := atoms_spec (ws := wsX10_layPage) B.pre
  have hown : s.vm.findClass RX10 = some m.cls := findClass_of_methodNamed B.named
  have hlocks := B.notSynchronized
  have in_X10 : ∀ w ∈ u_ws RX10 TX10 38, w ∈ wsX10_layPage := fun w h => List.mem_cons_of_mem _ (List.mem_append_right _ h)
  have g_13 := hts (.fieldLink RX10 13 "DaysLentModel" "mornings" "[I") (by decide +kernel)
  have g_16 := hts (.fieldLink RX10 16 "DaysLentModel" "asks" "[I") (by decide +kernel)
  have g_19 := hts (.fieldLink RX10 19 "DaysLentModel" "dead" "[Z") (by decide +kernel)
  have g_23 := hts (.fieldLink RX10 23 "DaysLentModel" "broken" "[Z") (by decide +kernel)
  have g_26 := hts (.fieldLink RX10 26 "DaysLentModel" "owed" "[I") (by decide +kernel)
  have g_29 := hts (.fieldLink RX10 29 "DaysLentModel" "owes" "[I") (by decide +kernel)
  have g_32 := hts (.fieldLink RX10 32 "DaysLentModel" "much" "[I") (by decide +kernel)
  have g_35 := hts (.fieldLink RX10 35 "DaysLentModel" "due" "[I") (by decide +kernel)
  have g_135 := hts (.fieldLink RX10 135 "DaysLentModel" "debts" "I") (by decide +kernel)
  have g_138 := hts (.fieldLink RX10 138 "DaysLentModel" "week" "I") (by decide +kernel)
  subst hsz
  have hD := hD0.self (sz := s.heap.size)
  generalize hAe : va_A (w_M cs o h I V) s.heap.size = A at hD ⊢
  have hA : ∀ q : Nat, s.heap.size ≤ q → A q := fun q h => by rw [← hAe]; exact Or.inr h
  have hS : va_S A s.heap s.heap [] := va_S.rf
  have hl := lv_entry ([.ref o, .ref (h 25), .int x2]) (n := 4) (Nat.le_of_ble_eq_true rfl)
  rw [show entryFrame m args 4 = entryFrame m ([.ref o, .ref (h 25), .int x2] : List Value).toArray 4 from by rw [ha], lg_entry_eq]
  generalize (lg_sl ([.ref o, .ref (h 25), .int x2]) ++ List.replicate (4 - (lg_sl ([.ref o, .ref (h 25), .int x2])).length) Slot.unset).toArray = ls at hl ⊢
  have hl : lv_has ls 4 [(0, .ref o), (1, .ref (h 25)), (2, .int x2)] := hl
  generalize hQ : MQ below (va_Qv (fun u => u = out) (fun (u : FI × FV) t => xA D cs A (w_M cs o h u.1 u.2) t) A) args s 0 0 A = Q
  show W p l e rm_M_layPage_kept s m args below meth c s.heap [] 0 0 Q (F0 m 0 ls [])
  have hret : ∀ (Im9 : FI) (Vm9 : FV) (H : Heap) (locs : List Loc) (pc : Nat) (ls : Array Slot), some (Im9, Vm9) = some out → va_P D vwCl (w_M cs o h Im9 Vm9) H → va_D A (w_M cs o h Im9 Vm9) → va_S A s.heap H locs → decode cX10_layPage pc = .ok (.return_, 1) → W p l e rm_M_layPage_kept s m args below meth c H locs 0 0 Q (F0 m pc ls []) := by
    intro Im9 Vm9 H locs pc ls hf hP hD hS hd
    rw [← hQ]
    exact W.vret hx hb hr (fun t ht hW => ⟨⟨(Im9, Vm9), rfl, Option.some.inj hf, by show va_P D vwCl (w_M cs o h Im9 Vm9) t.heap; rw [ht]; exact hP, va_K.moved hW.alike hK, hD⟩, hS.F ht⟩) hS.2.2 hd
  unfold M_layPage_kept at hf
  refine lv_iconst (v := 0) hx hb dX10_layPage_0 (by decide) ?_
  refine lv_istore_n (lv' := [(3, .int 0), (0, .ref o), (1, .ref (h 25)), (2, .int x2)]) hx hb dX10_layPage_1 rfl hl (by decide) rfl (fun ls hl => ?_)
  have L2 : ∀ (k_2 : FV → Option (FI × FV)) (hk_2 : ∀ (Vm_2 : FV), k_2 Vm_2 = some out → ∀ (H : Heap) (locs : List Loc), va_P D vwCl (w_M cs o h I Vm_2) H → va_D A (w_M cs o h I Vm_2) → va_S A s.heap H locs → ∀ ls : Array Slot, lv_has ls 4 [(0, .ref o), (1, .ref (h 25)), (2, .int x2)] → W p l e rm_M_layPage_kept s m args below meth c H locs 0 0 Q (F0 m 76 ls [])), ∀ (n_2 : Nat) (x3_2 : Int32) (Vm_2 : FV), M_layPage_kept_L2 f x2 k_2 n_2 x3_2 Vm_2 = some out → ∀ (H : Heap) (locs : List Loc), va_P D vwCl (w_M cs o h I Vm_2) H → va_D A (w_M cs o h I Vm_2) → va_S A s.heap H locs → ∀ ls : Array Slot, lv_has ls 4 [(0, .ref o), (1, .ref (h 25)), (2, .int x2), (3, .int x3_2)] → W p l e rm_M_layPage_kept s m args below meth c H locs 0 0 Q (F0 m 2 ls []) := by
    intro k_2 hk_2 n_2
    induction n_2 with
    | zero => intro x3_2 Vm_2 hf; rw [M_layPage_kept_L2] at hf; cases hf
    | succ n_2 ih_2 =>
      intro x3_2 Vm_2 hf H locs hP hD hS ls hl
      rw [M_layPage_kept_L2] at hf
      refine lv_iload_n hx hb dX10_layPage_2 rfl (lv_at hl 3 rfl) ?_
      refine lv_bipush (v := 6) hx hb dX10_layPage_3 (by decide) ?_
      refine lv_icmp_ge (tgt := 76) hx hb dX10_layPage_5 (by decide) (fun c5 => ?_) (fun c5 => ?_)
      · replace hf := ip c5 hf
        exact hk_2 Vm_2 hf _ _ hP hD hS _ (lv_sub hl [0, 1, 2] rfl)
      · replace hf := im c5 hf
        refine lv_aload_n hx hb dX10_layPage_8 rfl (lv_at hl 1 rfl) ?_
        refine lv_iload_n hx hb dX10_layPage_9 rfl (lv_at hl 2 rfl) ?_
        refine lv_iload_n hx hb dX10_layPage_10 rfl (lv_at hl 3 rfl) ?_
        refine lv_iadd hx hb dX10_layPage_11 ?_
        refine lv_aload_n hx hb dX10_layPage_12 rfl (lv_at hl 0 rfl) ?_
        refine va_get (D := D) (ci := 10) (v := .ref (h 5)) (C := RX10) (T := TX10) (N := 38) hx hb hts in_X10 hown hK hP 0 rfl rfl 5 (by decide) g_13 (fun _ h9 => h9) rfl dX10_layPage_13 ?_
        refine lv_iload_n hx hb dX10_layPage_16 rfl (lv_at hl 3 rfl) ?_
        obtain ⟨c17, hf⟩ := gd hf
        refine va_iald hx hb hK hP 2 0 rfl rfl c17 dX10_layPage_17 ?_
        obtain ⟨c18, hf⟩ := gd hf
        refine va_iast hx hb hK hP hD hS 17 0 rfl rfl c18 dX10_layPage_18 (fun H locs hP hD hS => ?_)
        have hP : va_P D vwCl (w_M cs o h I (va_up Vm_2 25 (upd (Vm_2 25) (x2 + x3_2).toNatClampNeg ((Vm_2 5) x3_2.toNatClampNeg)))) H := hP
        have hD : va_D A (w_M cs o h I (va_up Vm_2 25 (upd (Vm_2 25) (x2 + x3_2).toNatClampNeg ((Vm_2 5) x3_2.toNatClampNeg)))) := hD
        refine lv_aload_n hx hb dX10_layPage_19 rfl (lv_at hl 1 rfl) ?_
        refine lv_iload_n hx hb dX10_layPage_20 rfl (lv_at hl 2 rfl) ?_
        refine lv_bipush (v := 6) hx hb dX10_layPage_21 (by decide) ?_
        refine lv_iadd hx hb dX10_layPage_23 ?_
        refine lv_iload_n hx hb dX10_layPage_24 rfl (lv_at hl 3 rfl) ?_
        refine lv_iadd hx hb dX10_layPage_25 ?_
        refine lv_aload_n hx hb dX10_layPage_26 rfl (lv_at hl 0 rfl) ?_
        refine va_get (D := D) (ci := 10) (v := .ref (h 6)) (C := RX10) (T := TX10) (N := 38) hx hb hts in_X10 hown hK hP 0 rfl rfl 6 (by decide) g_16 (fun _ h9 => h9) rfl dX10_layPage_27 ?_
        refine lv_iload_n hx hb dX10_layPage_30 rfl (lv_at hl 3 rfl) ?_
        obtain ⟨c31, hf⟩ := gd hf
        refine va_iald hx hb hK hP 3 0 rfl rfl c31 dX10_layPage_31 ?_
        obtain ⟨c32, hf⟩ := gd hf
        refine va_iast hx hb hK hP hD hS 17 0 rfl rfl c32 dX10_layPage_32 (fun H locs hP hD hS => ?_)
        have hP : va_P D vwCl (w_M cs o h I (va_up Vm_2 25 (upd (upd (Vm_2 25) (x2 + x3_2).toNatClampNeg ((Vm_2 5) x3_2.toNatClampNeg)) ((x2 + 6) + x3_2).toNatClampNeg ((Vm_2 6) x3_2.toNatClampNeg)))) H := hP
        have hD : va_D A (w_M cs o h I (va_up Vm_2 25 (upd (upd (Vm_2 25) (x2 + x3_2).toNatClampNeg ((Vm_2 5) x3_2.toNatClampNeg)) ((x2 + 6) + x3_2).toNatClampNeg ((Vm_2 6) x3_2.toNatClampNeg)))) := hD
        refine lv_aload_n hx hb dX10_layPage_33 rfl (lv_at hl 1 rfl) ?_
        refine lv_iload_n hx hb dX10_layPage_34 rfl (lv_at hl 2 rfl) ?_
        refine lv_bipush (v := 12) hx hb dX10_layPage_35 (by decide) ?_
        refine lv_iadd hx hb dX10_layPage_37 ?_
        refine lv_iload_n hx hb dX10_layPage_38 rfl (lv_at hl 3 rfl) ?_
        refine lv_iadd hx hb dX10_layPage_39 ?_
        refine lv_aload_n hx hb dX10_layPage_40 rfl (lv_at hl 0 rfl) ?_
        refine va_get (D := D) (ci := 10) (v := .ref (h 7)) (C := RX10) (T := TX10) (N := 38) hx hb hts in_X10 hown hK hP 0 rfl rfl 7 (by decide) g_19 (fun _ h9 => h9) rfl dX10_layPage_41 ?_
        refine lv_iload_n hx hb dX10_layPage_44 rfl (lv_at hl 3 rfl) ?_
        obtain ⟨c45, hf⟩ := gd hf
        refine va_zald hx hb hK hP 4 1 rfl rfl c45 dX10_layPage_45 ?_
        obtain ⟨j54, ej54, hf⟩ := nme hf
        have J54 : ∀ (t2_54 : Int32), j54 t2_54 = some out → ∀ (H : Heap) (locs : List Loc), va_P D vwCl (w_M cs o h I (va_up Vm_2 25 (upd (upd (Vm_2 25) (x2 + x3_2).toNatClampNeg ((Vm_2 5) x3_2.toNatClampNeg)) ((x2 + 6) + x3_2).toNatClampNeg ((Vm_2 6) x3_2.toNatClampNeg)))) H → va_D A (w_M cs o h I (va_up Vm_2 25 (upd (upd (Vm_2 25) (x2 + x3_2).toNatClampNeg ((Vm_2 5) x3_2.toNatClampNeg)) ((x2 + 6) + x3_2).toNatClampNeg ((Vm_2 6) x3_2.toNatClampNeg)))) → va_S A s.heap H locs → ∀ ls : Array Slot, lv_has ls 4 [(0, .ref o), (1, .ref (h 25)), (2, .int x2), (3, .int x3_2)] → W p l e rm_M_layPage_kept s m args below meth c H locs 0 0 Q (F0 m 54 ls [.int t2_54, .int ((x2 + 12) + x3_2), .ref (h 25)]) := by
          intro t2_54 hf H locs hP hD hS ls hl
          rw [ej54] at hf
          refine lv_aload_n hx hb dX10_layPage_54 rfl (lv_at hl 0 rfl) ?_
          refine va_get (D := D) (ci := 10) (v := .ref (h 8)) (C := RX10) (T := TX10) (N := 38) hx hb hts in_X10 hown hK hP 0 rfl rfl 8 (by decide) g_23 (fun _ h9 => h9) rfl dX10_layPage_55 ?_
          refine lv_iload_n hx hb dX10_layPage_58 rfl (lv_at hl 3 rfl) ?_
          obtain ⟨c59, hf⟩ := gd hf
          refine va_zald hx hb hK hP 5 1 rfl rfl c59 dX10_layPage_59 ?_
          obtain ⟨j68, ej68, hf⟩ := nme hf
          have J68 : ∀ (t3_68 : Int32), j68 t3_68 = some out → ∀ (H : Heap) (locs : List Loc), va_P D vwCl (w_M cs o h I (va_up Vm_2 25 (upd (upd (Vm_2 25) (x2 + x3_2).toNatClampNeg ((Vm_2 5) x3_2.toNatClampNeg)) ((x2 + 6) + x3_2).toNatClampNeg ((Vm_2 6) x3_2.toNatClampNeg)))) H → va_D A (w_M cs o h I (va_up Vm_2 25 (upd (upd (Vm_2 25) (x2 + x3_2).toNatClampNeg ((Vm_2 5) x3_2.toNatClampNeg)) ((x2 + 6) + x3_2).toNatClampNeg ((Vm_2 6) x3_2.toNatClampNeg)))) → va_S A s.heap H locs → ∀ ls : Array Slot, lv_has ls 4 [(0, .ref o), (1, .ref (h 25)), (2, .int x2), (3, .int x3_2)] → W p l e rm_M_layPage_kept s m args below meth c H locs 0 0 Q (F0 m 68 ls [.int t3_68, .int t2_54, .int ((x2 + 12) + x3_2), .ref (h 25)]) := by
            intro t3_68 hf H locs hP hD hS ls hl
            rw [ej68] at hf
            refine lv_iadd hx hb dX10_layPage_68 ?_
            obtain ⟨c69, hf⟩ := gd hf
            refine va_iast hx hb hK hP hD hS 17 0 rfl rfl c69 dX10_layPage_69 (fun H locs hP hD hS => ?_)
            have hP : va_P D vwCl (w_M cs o h I (va_up Vm_2 25 (upd (upd (upd (Vm_2 25) (x2 + x3_2).toNatClampNeg ((Vm_2 5) x3_2.toNatClampNeg)) ((x2 + 6) + x3_2).toNatClampNeg ((Vm_2 6) x3_2.toNatClampNeg)) ((x2 + 12) + x3_2).toNatClampNeg (t2_54 + t3_68)))) H := hP
            have hD : va_D A (w_M cs o h I (va_up Vm_2 25 (upd (upd (upd (Vm_2 25) (x2 + x3_2).toNatClampNeg ((Vm_2 5) x3_2.toNatClampNeg)) ((x2 + 6) + x3_2).toNatClampNeg ((Vm_2 6) x3_2.toNatClampNeg)) ((x2 + 12) + x3_2).toNatClampNeg (t2_54 + t3_68)))) := hD
            refine lv_iinc (v := (x3_2 + 1)) (lv' := [(3, .int (x3_2 + 1)), (0, .ref o), (1, .ref (h 25)), (2, .int x2)]) hx hb dX10_layPage_70 hl (k := 3) rfl (by rfl) (by decide) rfl (fun ls hl => ?_)
            refine lv_goto (tgt := 2) hx hb dX10_layPage_73 (by decide) ?_
            exact ih_2 (x3_2 + 1) (va_up Vm_2 25 (upd (upd (upd (Vm_2 25) (x2 + x3_2).toNatClampNeg ((Vm_2 5) x3_2.toNatClampNeg)) ((x2 + 6) + x3_2).toNatClampNeg ((Vm_2 6) x3_2.toNatClampNeg)) ((x2 + 12) + x3_2).toNatClampNeg (t2_54 + t3_68))) hf _ _ hP hD hS _ (lv_sub hl [1, 2, 3, 0] rfl)
          refine lv_if_eq (tgt := 67) hx hb dX10_layPage_60 (by decide) (fun c60 => ?_) (fun c60 => ?_)
          · replace hf := ip c60 hf
            refine lv_iconst (v := 0) hx hb dX10_layPage_67 (by decide) ?_
            exact J68 0 hf _ _ hP hD hS _ (lv_sub hl [0, 1, 2, 3] rfl)
          · replace hf := im c60 hf
            refine lv_iconst (v := 2) hx hb dX10_layPage_63 (by decide) ?_
            refine lv_goto (tgt := 68) hx hb dX10_layPage_64 (by decide) ?_
            exact J68 2 hf _ _ hP hD hS _ (lv_sub hl [0, 1, 2, 3] rfl)
        refine lv_if_eq (tgt := 53) hx hb dX10_layPage_46 (by decide) (fun c46 => ?_) (fun c46 => ?_)
        · replace hf := ip c46 hf
          refine lv_iconst (v := 0) hx hb dX10_layPage_53 (by decide) ?_
          exact J54 0 hf _ _ hP hD hS _ (lv_sub hl [0, 1, 2, 3] rfl)
        · replace hf := im c46 hf
          refine lv_iconst (v := 1) hx hb dX10_layPage_49 (by decide) ?_
          refine lv_goto (tgt := 54) hx hb dX10_layPage_50 (by decide) ?_
          exact J54 1 hf _ _ hP hD hS _ (lv_sub hl [0, 1, 2, 3] rfl)
  refine L2 _ (fun Vm_2 hf H locs hP hD hS ls hl => ?_) f 0 V hf _ _ hP hD hS _ (lv_sub hl [1, 2, 3, 0] rfl)
  refine lv_iconst (v := 0) hx hb dX10_layPage_76 (by decide) ?_
  refine lv_istore_n (lv' := [(3, .int 0), (0, .ref o), (1, .ref (h 25)), (2, .int x2)]) hx hb dX10_layPage_77 rfl hl (by decide) rfl (fun ls hl => ?_)
  have L78 : ∀ (k_78 : FV → Option (FI × FV)) (hk_78 : ∀ (Vm_78 : FV), k_78 Vm_78 = some out → ∀ (H : Heap) (locs : List Loc), va_P D vwCl (w_M cs o h I Vm_78) H → va_D A (w_M cs o h I Vm_78) → va_S A s.heap H locs → ∀ ls : Array Slot, lv_has ls 4 [(0, .ref o), (1, .ref (h 25)), (2, .int x2)] → W p l e rm_M_layPage_kept s m args below meth c H locs 0 0 Q (F0 m 146 ls [])), ∀ (n_78 : Nat) (x3_78 : Int32) (Vm_78 : FV), M_layPage_kept_L78 f x2 k_78 n_78 x3_78 Vm_78 = some out → ∀ (H : Heap) (locs : List Loc), va_P D vwCl (w_M cs o h I Vm_78) H → va_D A (w_M cs o h I Vm_78) → va_S A s.heap H locs → ∀ ls : Array Slot, lv_has ls 4 [(0, .ref o), (1, .ref (h 25)), (2, .int x2), (3, .int x3_78)] → W p l e rm_M_layPage_kept s m args below meth c H locs 0 0 Q (F0 m 78 ls []) := by
    intro k_78 hk_78 n_78
    induction n_78 with
    | zero => intro x3_78 Vm_78 hf; rw [M_layPage_kept_L78] at hf; cases hf
    | succ n_78 ih_78 =>
      intro x3_78 Vm_78 hf H locs hP hD hS ls hl
      rw [M_layPage_kept_L78] at hf
      refine lv_iload_n hx hb dX10_layPage_78 rfl (lv_at hl 3 rfl) ?_
      refine lv_bipush (v := 12) hx hb dX10_layPage_79 (by decide) ?_
      refine lv_icmp_ge (tgt := 146) hx hb dX10_layPage_81 (by decide) (fun c81 => ?_) (fun c81 => ?_)
      · replace hf := ip c81 hf
        exact hk_78 Vm_78 hf _ _ hP hD hS _ (lv_sub hl [0, 1, 2] rfl)
      · replace hf := im c81 hf
        refine lv_aload_n hx hb dX10_layPage_84 rfl (lv_at hl 1 rfl) ?_
        refine lv_iload_n hx hb dX10_layPage_85 rfl (lv_at hl 2 rfl) ?_
        refine lv_bipush (v := 18) hx hb dX10_layPage_86 (by decide) ?_
        refine lv_iadd hx hb dX10_layPage_88 ?_
        refine lv_iload_n hx hb dX10_layPage_89 rfl (lv_at hl 3 rfl) ?_
        refine lv_iadd hx hb dX10_layPage_90 ?_
        refine lv_aload_n hx hb dX10_layPage_91 rfl (lv_at hl 0 rfl) ?_
        refine va_get (D := D) (ci := 10) (v := .ref (h 10)) (C := RX10) (T := TX10) (N := 38) hx hb hts in_X10 hown hK hP 0 rfl rfl 10 (by decide) g_26 (fun _ h9 => h9) rfl dX10_layPage_92 ?_
        refine lv_iload_n hx hb dX10_layPage_95 rfl (lv_at hl 3 rfl) ?_
        obtain ⟨c96, hf⟩ := gd hf
        refine va_iald hx hb hK hP 6 0 rfl rfl c96 dX10_layPage_96 ?_
        obtain ⟨c97, hf⟩ := gd hf
        refine va_iast hx hb hK hP hD hS 17 0 rfl rfl c97 dX10_layPage_97 (fun H locs hP hD hS => ?_)
        have hP : va_P D vwCl (w_M cs o h I (va_up Vm_78 25 (upd (Vm_78 25) ((x2 + 18) + x3_78).toNatClampNeg ((Vm_78 10) x3_78.toNatClampNeg)))) H := hP
        have hD : va_D A (w_M cs o h I (va_up Vm_78 25 (upd (Vm_78 25) ((x2 + 18) + x3_78).toNatClampNeg ((Vm_78 10) x3_78.toNatClampNeg)))) := hD
        refine lv_aload_n hx hb dX10_layPage_98 rfl (lv_at hl 1 rfl) ?_
        refine lv_iload_n hx hb dX10_layPage_99 rfl (lv_at hl 2 rfl) ?_
        refine lv_bipush (v := 30) hx hb dX10_layPage_100 (by decide) ?_
        refine lv_iadd hx hb dX10_layPage_102 ?_
        refine lv_iload_n hx hb dX10_layPage_103 rfl (lv_at hl 3 rfl) ?_
        refine lv_iadd hx hb dX10_layPage_104 ?_
        refine lv_aload_n hx hb dX10_layPage_105 rfl (lv_at hl 0 rfl) ?_
        refine va_get (D := D) (ci := 10) (v := .ref (h 11)) (C := RX10) (T := TX10) (N := 38) hx hb hts in_X10 hown hK hP 0 rfl rfl 11 (by decide) g_29 (fun _ h9 => h9) rfl dX10_layPage_106 ?_
        refine lv_iload_n hx hb dX10_layPage_109 rfl (lv_at hl 3 rfl) ?_
        obtain ⟨c110, hf⟩ := gd hf
        refine va_iald hx hb hK hP 7 0 rfl rfl c110 dX10_layPage_110 ?_
        obtain ⟨c111, hf⟩ := gd hf
        refine va_iast hx hb hK hP hD hS 17 0 rfl rfl c111 dX10_layPage_111 (fun H locs hP hD hS => ?_)
        have hP : va_P D vwCl (w_M cs o h I (va_up Vm_78 25 (upd (upd (Vm_78 25) ((x2 + 18) + x3_78).toNatClampNeg ((Vm_78 10) x3_78.toNatClampNeg)) ((x2 + 30) + x3_78).toNatClampNeg ((Vm_78 11) x3_78.toNatClampNeg)))) H := hP
        have hD : va_D A (w_M cs o h I (va_up Vm_78 25 (upd (upd (Vm_78 25) ((x2 + 18) + x3_78).toNatClampNeg ((Vm_78 10) x3_78.toNatClampNeg)) ((x2 + 30) + x3_78).toNatClampNeg ((Vm_78 11) x3_78.toNatClampNeg)))) := hD
        refine lv_aload_n hx hb dX10_layPage_112 rfl (lv_at hl 1 rfl) ?_
        refine lv_iload_n hx hb dX10_layPage_113 rfl (lv_at hl 2 rfl) ?_
        refine lv_bipush (v := 42) hx hb dX10_layPage_114 (by decide) ?_
        refine lv_iadd hx hb dX10_layPage_116 ?_
        refine lv_iload_n hx hb dX10_layPage_117 rfl (lv_at hl 3 rfl) ?_
        refine lv_iadd hx hb dX10_layPage_118 ?_
        refine lv_aload_n hx hb dX10_layPage_119 rfl (lv_at hl 0 rfl) ?_
        refine va_get (D := D) (ci := 10) (v := .ref (h 12)) (C := RX10) (T := TX10) (N := 38) hx hb hts in_X10 hown hK hP 0 rfl rfl 12 (by decide) g_32 (fun _ h9 => h9) rfl dX10_layPage_120 ?_
        refine lv_iload_n hx hb dX10_layPage_123 rfl (lv_at hl 3 rfl) ?_
        obtain ⟨c124, hf⟩ := gd hf
        refine va_iald hx hb hK hP 8 0 rfl rfl c124 dX10_layPage_124 ?_
        obtain ⟨c125, hf⟩ := gd hf
        refine va_iast hx hb hK hP hD hS 17 0 rfl rfl c125 dX10_layPage_125 (fun H locs hP hD hS => ?_)
        have hP : va_P D vwCl (w_M cs o h I (va_up Vm_78 25 (upd (upd (upd (Vm_78 25) ((x2 + 18) + x3_78).toNatClampNeg ((Vm_78 10) x3_78.toNatClampNeg)) ((x2 + 30) + x3_78).toNatClampNeg ((Vm_78 11) x3_78.toNatClampNeg)) ((x2 + 42) + x3_78).toNatClampNeg ((Vm_78 12) x3_78.toNatClampNeg)))) H := hP
        have hD : va_D A (w_M cs o h I (va_up Vm_78 25 (upd (upd (upd (Vm_78 25) ((x2 + 18) + x3_78).toNatClampNeg ((Vm_78 10) x3_78.toNatClampNeg)) ((x2 + 30) + x3_78).toNatClampNeg ((Vm_78 11) x3_78.toNatClampNeg)) ((x2 + 42) + x3_78).toNatClampNeg ((Vm_78 12) x3_78.toNatClampNeg)))) := hD
        refine lv_aload_n hx hb dX10_layPage_126 rfl (lv_at hl 1 rfl) ?_
        refine lv_iload_n hx hb dX10_layPage_127 rfl (lv_at hl 2 rfl) ?_
        refine lv_bipush (v := 54) hx hb dX10_layPage_128 (by decide) ?_
        refine lv_iadd hx hb dX10_layPage_130 ?_
        refine lv_iload_n hx hb dX10_layPage_131 rfl (lv_at hl 3 rfl) ?_
        refine lv_iadd hx hb dX10_layPage_132 ?_
        refine lv_aload_n hx hb dX10_layPage_133 rfl (lv_at hl 0 rfl) ?_
        refine va_get (D := D) (ci := 10) (v := .ref (h 13)) (C := RX10) (T := TX10) (N := 38) hx hb hts in_X10 hown hK hP 0 rfl rfl 13 (by decide) g_35 (fun _ h9 => h9) rfl dX10_layPage_134 ?_
        refine lv_iload_n hx hb dX10_layPage_137 rfl (lv_at hl 3 rfl) ?_
        obtain ⟨c138, hf⟩ := gd hf
        refine va_iald hx hb hK hP 9 0 rfl rfl c138 dX10_layPage_138 ?_
        obtain ⟨c139, hf⟩ := gd hf
        refine va_iast hx hb hK hP hD hS 17 0 rfl rfl c139 dX10_layPage_139 (fun H locs hP hD hS => ?_)
        have hP : va_P D vwCl (w_M cs o h I (va_up Vm_78 25 (upd (upd (upd (upd (Vm_78 25) ((x2 + 18) + x3_78).toNatClampNeg ((Vm_78 10) x3_78.toNatClampNeg)) ((x2 + 30) + x3_78).toNatClampNeg ((Vm_78 11) x3_78.toNatClampNeg)) ((x2 + 42) + x3_78).toNatClampNeg ((Vm_78 12) x3_78.toNatClampNeg)) ((x2 + 54) + x3_78).toNatClampNeg ((Vm_78 13) x3_78.toNatClampNeg)))) H := hP
        have hD : va_D A (w_M cs o h I (va_up Vm_78 25 (upd (upd (upd (upd (Vm_78 25) ((x2 + 18) + x3_78).toNatClampNeg ((Vm_78 10) x3_78.toNatClampNeg)) ((x2 + 30) + x3_78).toNatClampNeg ((Vm_78 11) x3_78.toNatClampNeg)) ((x2 + 42) + x3_78).toNatClampNeg ((Vm_78 12) x3_78.toNatClampNeg)) ((x2 + 54) + x3_78).toNatClampNeg ((Vm_78 13) x3_78.toNatClampNeg)))) := hD
        refine lv_iinc (v := (x3_78 + 1)) (lv' := [(3, .int (x3_78 + 1)), (0, .ref o), (1, .ref (h 25)), (2, .int x2)]) hx hb dX10_layPage_140 hl (k := 3) rfl (by rfl) (by decide) rfl (fun ls hl => ?_)
        refine lv_goto (tgt := 78) hx hb dX10_layPage_143 (by decide) ?_
        exact ih_78 (x3_78 + 1) (va_up Vm_78 25 (upd (upd (upd (upd (Vm_78 25) ((x2 + 18) + x3_78).toNatClampNeg ((Vm_78 10) x3_78.toNatClampNeg)) ((x2 + 30) + x3_78).toNatClampNeg ((Vm_78 11) x3_78.toNatClampNeg)) ((x2 + 42) + x3_78).toNatClampNeg ((Vm_78 12) x3_78.toNatClampNeg)) ((x2 + 54) + x3_78).toNatClampNeg ((Vm_78 13) x3_78.toNatClampNeg))) hf _ _ hP hD hS _ (lv_sub hl [1, 2, 3, 0] rfl)
  refine L78 _ (fun Vm_78 hf H locs hP hD hS ls hl => ?_) f 0 Vm_2 hf _ _ hP hD hS _ (lv_sub hl [1, 2, 3, 0] rfl)
  refine lv_aload_n hx hb dX10_layPage_146 rfl (lv_at hl 1 rfl) ?_
  refine lv_iload_n hx hb dX10_layPage_147 rfl (lv_at hl 2 rfl) ?_
  refine lv_bipush (v := 66) hx hb dX10_layPage_148 (by decide) ?_
  refine lv_iadd hx hb dX10_layPage_150 ?_
  refine lv_aload_n hx hb dX10_layPage_151 rfl (lv_at hl 0 rfl) ?_
  refine va_get (D := D) (ci := 10) (v := .int (I 9)) (C := RX10) (T := TX10) (N := 38) hx hb hts in_X10 hown hK hP 0 rfl rfl 9 (by decide) g_135 (fun _ h9 => h9) rfl dX10_layPage_152 ?_
  obtain ⟨c155, hf⟩ := gd hf
  refine va_iast hx hb hK hP hD hS 17 0 rfl rfl c155 dX10_layPage_155 (fun H locs hP hD hS => ?_)
  have hP : va_P D vwCl (w_M cs o h I (va_up Vm_78 25 (upd (Vm_78 25) (x2 + 66).toNatClampNeg (I 9)))) H := hP
  have hD : va_D A (w_M cs o h I (va_up Vm_78 25 (upd (Vm_78 25) (x2 + 66).toNatClampNeg (I 9)))) := hD
  refine lv_aload_n hx hb dX10_layPage_156 rfl (lv_at hl 1 rfl) ?_
  refine lv_iload_n hx hb dX10_layPage_157 rfl (lv_at hl 2 rfl) ?_
  refine lv_bipush (v := 67) hx hb dX10_layPage_158 (by decide) ?_
  refine lv_iadd hx hb dX10_layPage_160 ?_
  refine lv_aload_n hx hb dX10_layPage_161 rfl (lv_at hl 0 rfl) ?_
  refine va_get (D := D) (ci := 10) (v := .int (I 14)) (C := RX10) (T := TX10) (N := 38) hx hb hts in_X10 hown hK hP 0 rfl rfl 14 (by decide) g_138 (fun _ h9 => h9) rfl dX10_layPage_162 ?_
  obtain ⟨c165, hf⟩ := gd hf
  refine va_iast hx hb hK hP hD hS 17 0 rfl rfl c165 dX10_layPage_165 (fun H locs hP hD hS => ?_)
  have hP : va_P D vwCl (w_M cs o h I (va_up Vm_78 25 (upd (upd (Vm_78 25) (x2 + 66).toNatClampNeg (I 9)) (x2 + 67).toNatClampNeg (I 14)))) H := hP
  have hD : va_D A (w_M cs o h I (va_up Vm_78 25 (upd (upd (Vm_78 25) (x2 + 66).toNatClampNeg (I 9)) (x2 + 67).toNatClampNeg (I 14)))) := hD
  exact hret I (va_up Vm_78 25 (upd (upd (Vm_78 25) (x2 + 66).toNatClampNeg (I 9)) (x2 + 67).toNatClampNeg (I 14))) _ _ 166 _ hf hP hD hS dX10_layPage_166
def M_takePage_book_L2 {ρ : Type} (f : Nat) (x2 : Int32) (k_2 : FV → Option ρ) : Nat → Int32 → FV → Option ρ
  | 0, _, _ => none
  | n_2 + 1, x3_2, Vm_2 => (if 6 ≤ x3_2 then (k_2 Vm_2) else if (x2 + x3_2) < 0 ∨ 740 ≤ (x2 + x3_2).toNatClampNeg then none else (if x3_2 < 0 ∨ 6 ≤ x3_2.toNatClampNeg then none else (if ((x2 + 6) + x3_2) < 0 ∨ 740 ≤ ((x2 + 6) + x3_2).toNatClampNeg then none else (if x3_2 < 0 ∨ 6 ≤ x3_2.toNatClampNeg then none else (if ((x2 + 12) + x3_2) < 0 ∨ 740 ≤ ((x2 + 12) + x3_2).toNatClampNeg then none else (ob1 (M_has f ((Vm_2 23) ((x2 + 12) + x3_2).toNatClampNeg) 0) (fun zr1 => if x3_2 < 0 ∨ 6 ≤ x3_2.toNatClampNeg then none else (if ((x2 + 12) + x3_2) < 0 ∨ 740 ≤ ((x2 + 12) + x3_2).toNatClampNeg then none else (ob1 (M_has f ((Vm_2 23) ((x2 + 12) + x3_2).toNatClampNeg) 1) (fun zr2 => if x3_2 < 0 ∨ 6 ≤ x3_2.toNatClampNeg then none else ((M_takePage_book_L2 f x2 k_2 n_2 (x3_2 + 1) (va_up (va_up (va_up (va_up Vm_2 5 (upd (Vm_2 5) x3_2.toNatClampNeg ((Vm_2 23) (x2 + x3_2).toNatClampNeg))) 6 (upd (Vm_2 6) x3_2.toNatClampNeg ((Vm_2 23) ((x2 + 6) + x3_2).toNatClampNeg))) 7 (upd (Vm_2 7) x3_2.toNatClampNeg (vp_nar .boolean zr1))) 8 (upd (Vm_2 8) x3_2.toNatClampNeg (vp_nar .boolean zr2)))))))))))))))
def M_takePage_book_L77 {ρ : Type} (f : Nat) (x2 : Int32) (k_77 : FV → Option ρ) : Nat → Int32 → FV → Option ρ
  | 0, _, _ => none
  | n_77 + 1, x3_77, Vm_77 => (if 12 ≤ x3_77 then (k_77 Vm_77) else if ((x2 + 18) + x3_77) < 0 ∨ 740 ≤ ((x2 + 18) + x3_77).toNatClampNeg then none else (if x3_77 < 0 ∨ 12 ≤ x3_77.toNatClampNeg then none else (if ((x2 + 30) + x3_77) < 0 ∨ 740 ≤ ((x2 + 30) + x3_77).toNatClampNeg then none else (if x3_77 < 0 ∨ 12 ≤ x3_77.toNatClampNeg then none else (if ((x2 + 42) + x3_77) < 0 ∨ 740 ≤ ((x2 + 42) + x3_77).toNatClampNeg then none else (if x3_77 < 0 ∨ 12 ≤ x3_77.toNatClampNeg then none else (if ((x2 + 54) + x3_77) < 0 ∨ 740 ≤ ((x2 + 54) + x3_77).toNatClampNeg then none else (if x3_77 < 0 ∨ 12 ≤ x3_77.toNatClampNeg then none else ((M_takePage_book_L77 f x2 k_77 n_77 (x3_77 + 1) (va_up (va_up (va_up (va_up Vm_77 10 (upd (Vm_77 10) x3_77.toNatClampNeg ((Vm_77 23) ((x2 + 18) + x3_77).toNatClampNeg))) 11 (upd (Vm_77 11) x3_77.toNatClampNeg ((Vm_77 23) ((x2 + 30) + x3_77).toNatClampNeg))) 12 (upd (Vm_77 12) x3_77.toNatClampNeg ((Vm_77 23) ((x2 + 42) + x3_77).toNatClampNeg))) 13 (upd (Vm_77 13) x3_77.toNatClampNeg ((Vm_77 23) ((x2 + 54) + x3_77).toNatClampNeg)))))))))))))
def M_takePage_book (f : Nat) (x2 : Int32) (I : FI) (V : FV) : Option (FI × FV) := (M_takePage_book_L2 f x2 (fun (Vm_2 : FV) => (M_takePage_book_L77 f x2 (fun (Vm_77 : FV) => if (x2 + 66) < 0 ∨ 740 ≤ (x2 + 66).toNatClampNeg then none else (if (x2 + 67) < 0 ∨ 740 ≤ (x2 + 67).toNatClampNeg then none else (some ((va_up (va_up I 9 ((Vm_77 23) (x2 + 66).toNatClampNeg)) 14 ((Vm_77 23) (x2 + 67).toNatClampNeg)), Vm_77)))) f 0 Vm_2)) f 0 V)
abbrev rm_M_takePage_book : Room := { frames := 1, cells := 0, slots := 0, locals := 21 }
set_option maxHeartbeats 4000000 in
set_option maxRecDepth 100000 in
theorem c_M_takePage_book (l : Launch) (D : va_G) (cs : Nat → ClassId) (o : Nat) (h : Nat → Nat) (sz : Nat) (I : FI) (V : FV) (x2 : Int32) (f : Nat) (out : FI × FV) (hf : M_takePage_book f x2 I V = some out) : Met l yX10_takePage wsX10_takePage rm_M_takePage_book (va_Pc [.ref o, .ref (h 23), .int x2] (xP D cs (w_M cs o h I V) sz)) (va_Qv (fun u => u = out) (fun (u : FI × FV) t => xA D cs (va_A (w_M cs o h I V) sz) (w_M cs o h u.1 u.2) t) (va_A (w_M cs o h I V) sz)) 0 0 (va_A (w_M cs o h I V) sz) := by
  refine Met.ofW (cc := cX10_takePage) (maxL := 4) (ret := none) (by decide) rfl ?_
  intro p e s m args below meth c s₁ B hml hv
  obtain ⟨ha, hsz, hP, hK, hD0⟩ := hv
  have hx := B.exec
  have hb := B.bytes
  have hr := B.returns
  have hts := atoms_spec (ws := wsX10_takePage) B.pre
  have hown : s.vm.findClass RX10 = some m.cls := findClass_of_methodNamed B.named
  have hlocks := B.notSynchronized
  have in_X10 : ∀ w ∈ u_ws RX10 TX10 38, w ∈ wsX10_takePage := fun w h => List.mem_cons_of_mem _ (List.mem_append_right _ h)
  have g_13 := hts (.fieldLink RX10 13 "DaysLentModel" "mornings" "[I") (by decide +kernel)
  have g_16 := hts (.fieldLink RX10 16 "DaysLentModel" "asks" "[I") (by decide +kernel)
  have g_19 := hts (.fieldLink RX10 19 "DaysLentModel" "dead" "[Z") (by decide +kernel)
  have w_has_160 := va_cwS (R := rm_M_takePage_book) (s := s) (args := args) (rm := rm_M_has) (mc := 0) (ms := 0) 2 hts gX10_takePage_X10_has rfl rfl rfl (by decide +kernel) ⟨Nat.le_of_ble_eq_true rfl, Nat.le_of_ble_eq_true rfl⟩
  have g_23 := hts (.fieldLink RX10 23 "DaysLentModel" "broken" "[Z") (by decide +kernel)
  have g_26 := hts (.fieldLink RX10 26 "DaysLentModel" "owed" "[I") (by decide +kernel)
  have g_29 := hts (.fieldLink RX10 29 "DaysLentModel" "owes" "[I") (by decide +kernel)
  have g_32 := hts (.fieldLink RX10 32 "DaysLentModel" "much" "[I") (by decide +kernel)
  have g_35 := hts (.fieldLink RX10 35 "DaysLentModel" "due" "[I") (by decide +kernel)
  have g_135 := hts (.fieldLink RX10 135 "DaysLentModel" "debts" "I") (by decide +kernel)
  have g_138 := hts (.fieldLink RX10 138 "DaysLentModel" "week" "I") (by decide +kernel)
  subst hsz
  have hD := hD0.self (sz := s.heap.size)
  generalize hAe : va_A (w_M cs o h I V) s.heap.size = A at hD ⊢
  have hA : ∀ q : Nat, s.heap.size ≤ q → A q := fun q h => by rw [← hAe]; exact Or.inr h
  have hS : va_S A s.heap s.heap [] := va_S.rf
  have hl := lv_entry ([.ref o, .ref (h 23), .int x2]) (n := 4) (Nat.le_of_ble_eq_true rfl)
  rw [show entryFrame m args 4 = entryFrame m ([.ref o, .ref (h 23), .int x2] : List Value).toArray 4 from by rw [ha], lg_entry_eq]
  generalize (lg_sl ([.ref o, .ref (h 23), .int x2]) ++ List.replicate (4 - (lg_sl ([.ref o, .ref (h 23), .int x2])).length) Slot.unset).toArray = ls at hl ⊢
  have hl : lv_has ls 4 [(0, .ref o), (1, .ref (h 23)), (2, .int x2)] := hl
  generalize hQ : MQ below (va_Qv (fun u => u = out) (fun (u : FI × FV) t => xA D cs A (w_M cs o h u.1 u.2) t) A) args s 0 0 A = Q
  show W p l e rm_M_takePage_book s m args below meth c s.heap [] 0 0 Q (F0 m 0 ls [])
  have hret : ∀ (Im9 : FI) (Vm9 : FV) (H : Heap) (locs : List Loc) (pc : Nat) (ls : Array Slot), some (Im9, Vm9) = some out → va_P D vwCl (w_M cs o h Im9 Vm9) H → va_D A (w_M cs o h Im9 Vm9) → va_S A s.heap H locs → decode cX10_takePage pc = .ok (.return_, 1) → W p l e rm_M_takePage_book s m args below meth c H locs 0 0 Q (F0 m pc ls []) := by
    intro Im9 Vm9 H locs pc ls hf hP hD hS hd
    rw [← hQ]
    exact W.vret hx hb hr (fun t ht hW => ⟨⟨(Im9, Vm9), rfl, Option.some.inj hf, by show va_P D vwCl (w_M cs o h Im9 Vm9) t.heap; rw [ht]; exact hP, va_K.moved hW.alike hK, hD⟩, hS.F ht⟩) hS.2.2 hd
  unfold M_takePage_book at hf
  refine lv_iconst (v := 0) hx hb dX10_takePage_0 (by decide) ?_
  refine lv_istore_n (lv' := [(3, .int 0), (0, .ref o), (1, .ref (h 23)), (2, .int x2)]) hx hb dX10_takePage_1 rfl hl (by decide) rfl (fun ls hl => ?_)
  have L2 : ∀ (k_2 : FV → Option (FI × FV)) (hk_2 : ∀ (Vm_2 : FV), k_2 Vm_2 = some out → ∀ (H : Heap) (locs : List Loc), va_P D vwCl (w_M cs o h I Vm_2) H → va_D A (w_M cs o h I Vm_2) → va_S A s.heap H locs → ∀ ls : Array Slot, lv_has ls 4 [(0, .ref o), (1, .ref (h 23)), (2, .int x2)] → W p l e rm_M_takePage_book s m args below meth c H locs 0 0 Q (F0 m 75 ls [])), ∀ (n_2 : Nat) (x3_2 : Int32) (Vm_2 : FV), M_takePage_book_L2 f x2 k_2 n_2 x3_2 Vm_2 = some out → ∀ (H : Heap) (locs : List Loc), va_P D vwCl (w_M cs o h I Vm_2) H → va_D A (w_M cs o h I Vm_2) → va_S A s.heap H locs → ∀ ls : Array Slot, lv_has ls 4 [(0, .ref o), (1, .ref (h 23)), (2, .int x2), (3, .int x3_2)] → W p l e rm_M_takePage_book s m args below meth c H locs 0 0 Q (F0 m 2 ls []) := by
    intro k_2 hk_2 n_2
    induction n_2 with
    | zero => intro x3_2 Vm_2 hf; rw [M_takePage_book_L2] at hf; cases hf
    | succ n_2 ih_2 =>
      intro x3_2 Vm_2 hf H locs hP hD hS ls hl
      rw [M_takePage_book_L2] at hf
      refine lv_iload_n hx hb dX10_takePage_2 rfl (lv_at hl 3 rfl) ?_
      refine lv_bipush (v := 6) hx hb dX10_takePage_3 (by decide) ?_
      refine lv_icmp_ge (tgt := 75) hx hb dX10_takePage_5 (by decide) (fun c5 => ?_) (fun c5 => ?_)
      · replace hf := ip c5 hf
        exact hk_2 Vm_2 hf _ _ hP hD hS _ (lv_sub hl [0, 1, 2] rfl)
      · replace hf := im c5 hf
        refine lv_aload_n hx hb dX10_takePage_8 rfl (lv_at hl 0 rfl) ?_
        refine va_get (D := D) (ci := 10) (v := .ref (h 5)) (C := RX10) (T := TX10) (N := 38) hx hb hts in_X10 hown hK hP 0 rfl rfl 5 (by decide) g_13 (fun _ h9 => h9) rfl dX10_takePage_9 ?_
        refine lv_iload_n hx hb dX10_takePage_12 rfl (lv_at hl 3 rfl) ?_
        refine lv_aload_n hx hb dX10_takePage_13 rfl (lv_at hl 1 rfl) ?_
        refine lv_iload_n hx hb dX10_takePage_14 rfl (lv_at hl 2 rfl) ?_
        refine lv_iload_n hx hb dX10_takePage_15 rfl (lv_at hl 3 rfl) ?_
        refine lv_iadd hx hb dX10_takePage_16 ?_
        obtain ⟨c17, hf⟩ := gd hf
        refine va_iald hx hb hK hP 16 0 rfl rfl c17 dX10_takePage_17 ?_
        obtain ⟨c18, hf⟩ := gd hf
        refine va_iast hx hb hK hP hD hS 2 0 rfl rfl c18 dX10_takePage_18 (fun H locs hP hD hS => ?_)
        have hP : va_P D vwCl (w_M cs o h I (va_up Vm_2 5 (upd (Vm_2 5) x3_2.toNatClampNeg ((Vm_2 23) (x2 + x3_2).toNatClampNeg)))) H := hP
        have hD : va_D A (w_M cs o h I (va_up Vm_2 5 (upd (Vm_2 5) x3_2.toNatClampNeg ((Vm_2 23) (x2 + x3_2).toNatClampNeg)))) := hD
        refine lv_aload_n hx hb dX10_takePage_19 rfl (lv_at hl 0 rfl) ?_
        refine va_get (D := D) (ci := 10) (v := .ref (h 6)) (C := RX10) (T := TX10) (N := 38) hx hb hts in_X10 hown hK hP 0 rfl rfl 6 (by decide) g_16 (fun _ h9 => h9) rfl dX10_takePage_20 ?_
        refine lv_iload_n hx hb dX10_takePage_23 rfl (lv_at hl 3 rfl) ?_
        refine lv_aload_n hx hb dX10_takePage_24 rfl (lv_at hl 1 rfl) ?_
        refine lv_iload_n hx hb dX10_takePage_25 rfl (lv_at hl 2 rfl) ?_
        refine lv_bipush (v := 6) hx hb dX10_takePage_26 (by decide) ?_
        refine lv_iadd hx hb dX10_takePage_28 ?_
        refine lv_iload_n hx hb dX10_takePage_29 rfl (lv_at hl 3 rfl) ?_
        refine lv_iadd hx hb dX10_takePage_30 ?_
        obtain ⟨c31, hf⟩ := gd hf
        refine va_iald hx hb hK hP 16 0 rfl rfl c31 dX10_takePage_31 ?_
        obtain ⟨c32, hf⟩ := gd hf
        refine va_iast hx hb hK hP hD hS 3 0 rfl rfl c32 dX10_takePage_32 (fun H locs hP hD hS => ?_)
        have hP : va_P D vwCl (w_M cs o h I (va_up (va_up Vm_2 5 (upd (Vm_2 5) x3_2.toNatClampNeg ((Vm_2 23) (x2 + x3_2).toNatClampNeg))) 6 (upd (Vm_2 6) x3_2.toNatClampNeg ((Vm_2 23) ((x2 + 6) + x3_2).toNatClampNeg)))) H := hP
        have hD : va_D A (w_M cs o h I (va_up (va_up Vm_2 5 (upd (Vm_2 5) x3_2.toNatClampNeg ((Vm_2 23) (x2 + x3_2).toNatClampNeg))) 6 (upd (Vm_2 6) x3_2.toNatClampNeg ((Vm_2 23) ((x2 + 6) + x3_2).toNatClampNeg)))) := hD
        refine lv_aload_n hx hb dX10_takePage_33 rfl (lv_at hl 0 rfl) ?_
        refine va_get (D := D) (ci := 10) (v := .ref (h 7)) (C := RX10) (T := TX10) (N := 38) hx hb hts in_X10 hown hK hP 0 rfl rfl 7 (by decide) g_19 (fun _ h9 => h9) rfl dX10_takePage_34 ?_
        refine lv_iload_n hx hb dX10_takePage_37 rfl (lv_at hl 3 rfl) ?_
        refine lv_aload_n hx hb dX10_takePage_38 rfl (lv_at hl 1 rfl) ?_
        refine lv_iload_n hx hb dX10_takePage_39 rfl (lv_at hl 2 rfl) ?_
        refine lv_bipush (v := 12) hx hb dX10_takePage_40 (by decide) ?_
        refine lv_iadd hx hb dX10_takePage_42 ?_
        refine lv_iload_n hx hb dX10_takePage_43 rfl (lv_at hl 3 rfl) ?_
        refine lv_iadd hx hb dX10_takePage_44 ?_
        obtain ⟨c45, hf⟩ := gd hf
        refine va_iald hx hb hK hP 16 0 rfl rfl c45 dX10_takePage_45 ?_
        refine lv_iconst (v := 0) hx hb dX10_takePage_46 (by decide) ?_
        obtain ⟨zr1, qr1, hf⟩ := bd1 hf
        refine vp_callSi (va_Run.run (va_runS (As := [.int ((Vm_2 23) ((x2 + 12) + x3_2).toNatClampNeg), .int 0]) (rest := [.int x3_2, .ref (h 7)]) ⟨hx, hb, hml, hown, hts⟩ (c_M_has l ((Vm_2 23) ((x2 + 12) + x3_2).toNatClampNeg) 0 f zr1 qr1) w_has_160 ⟨fun a U g mk q => q, fun U hU hW => ⟨rfl, trivial⟩⟩ rfl rfl hl.1 rfl (lv_room (Nat.le_of_ble_eq_true rfl)) dX10_takePage_47 ⟨Nat.zero_le _, Nat.zero_le _⟩)) (fun r1 er1 => ?_)
        rw [er1]
        obtain ⟨c50, hf⟩ := gd hf
        refine va_zast hx hb hK hP hD hS 4 1 rfl rfl c50 dX10_takePage_50 (fun H locs hP hD hS => ?_)
        have hP : va_P D vwCl (w_M cs o h I (va_up (va_up (va_up Vm_2 5 (upd (Vm_2 5) x3_2.toNatClampNeg ((Vm_2 23) (x2 + x3_2).toNatClampNeg))) 6 (upd (Vm_2 6) x3_2.toNatClampNeg ((Vm_2 23) ((x2 + 6) + x3_2).toNatClampNeg))) 7 (upd (Vm_2 7) x3_2.toNatClampNeg (vp_nar .boolean zr1)))) H := hP
        have hD : va_D A (w_M cs o h I (va_up (va_up (va_up Vm_2 5 (upd (Vm_2 5) x3_2.toNatClampNeg ((Vm_2 23) (x2 + x3_2).toNatClampNeg))) 6 (upd (Vm_2 6) x3_2.toNatClampNeg ((Vm_2 23) ((x2 + 6) + x3_2).toNatClampNeg))) 7 (upd (Vm_2 7) x3_2.toNatClampNeg (vp_nar .boolean zr1)))) := hD
        refine lv_aload_n hx hb dX10_takePage_51 rfl (lv_at hl 0 rfl) ?_
        refine va_get (D := D) (ci := 10) (v := .ref (h 8)) (C := RX10) (T := TX10) (N := 38) hx hb hts in_X10 hown hK hP 0 rfl rfl 8 (by decide) g_23 (fun _ h9 => h9) rfl dX10_takePage_52 ?_
        refine lv_iload_n hx hb dX10_takePage_55 rfl (lv_at hl 3 rfl) ?_
        refine lv_aload_n hx hb dX10_takePage_56 rfl (lv_at hl 1 rfl) ?_
        refine lv_iload_n hx hb dX10_takePage_57 rfl (lv_at hl 2 rfl) ?_
        refine lv_bipush (v := 12) hx hb dX10_takePage_58 (by decide) ?_
        refine lv_iadd hx hb dX10_takePage_60 ?_
        refine lv_iload_n hx hb dX10_takePage_61 rfl (lv_at hl 3 rfl) ?_
        refine lv_iadd hx hb dX10_takePage_62 ?_
        obtain ⟨c63, hf⟩ := gd hf
        refine va_iald hx hb hK hP 16 0 rfl rfl c63 dX10_takePage_63 ?_
        refine lv_iconst (v := 1) hx hb dX10_takePage_64 (by decide) ?_
        obtain ⟨zr2, qr2, hf⟩ := bd1 hf
        refine vp_callSi (va_Run.run (va_runS (As := [.int ((Vm_2 23) ((x2 + 12) + x3_2).toNatClampNeg), .int 1]) (rest := [.int x3_2, .ref (h 8)]) ⟨hx, hb, hml, hown, hts⟩ (c_M_has l ((Vm_2 23) ((x2 + 12) + x3_2).toNatClampNeg) 1 f zr2 qr2) w_has_160 ⟨fun a U g mk q => q, fun U hU hW => ⟨rfl, trivial⟩⟩ rfl rfl hl.1 rfl (lv_room (Nat.le_of_ble_eq_true rfl)) dX10_takePage_65 ⟨Nat.zero_le _, Nat.zero_le _⟩)) (fun r2 er2 => ?_)
        rw [er2]
        obtain ⟨c68, hf⟩ := gd hf
        refine va_zast hx hb hK hP hD hS 5 1 rfl rfl c68 dX10_takePage_68 (fun H locs hP hD hS => ?_)
        have hP : va_P D vwCl (w_M cs o h I (va_up (va_up (va_up (va_up Vm_2 5 (upd (Vm_2 5) x3_2.toNatClampNeg ((Vm_2 23) (x2 + x3_2).toNatClampNeg))) 6 (upd (Vm_2 6) x3_2.toNatClampNeg ((Vm_2 23) ((x2 + 6) + x3_2).toNatClampNeg))) 7 (upd (Vm_2 7) x3_2.toNatClampNeg (vp_nar .boolean zr1))) 8 (upd (Vm_2 8) x3_2.toNatClampNeg (vp_nar .boolean zr2)))) H := hP
        have hD : va_D A (w_M cs o h I (va_up (va_up (va_up (va_up Vm_2 5 (upd (Vm_2 5) x3_2.toNatClampNeg ((Vm_2 23) (x2 + x3_2).toNatClampNeg))) 6 (upd (Vm_2 6) x3_2.toNatClampNeg ((Vm_2 23) ((x2 + 6) + x3_2).toNatClampNeg))) 7 (upd (Vm_2 7) x3_2.toNatClampNeg (vp_nar .boolean zr1))) 8 (upd (Vm_2 8) x3_2.toNatClampNeg (vp_nar .boolean zr2)))) := hD
        refine lv_iinc (v := (x3_2 + 1)) (lv' := [(3, .int (x3_2 + 1)), (0, .ref o), (1, .ref (h 23)), (2, .int x2)]) hx hb dX10_takePage_69 hl (k := 3) rfl (by rfl) (by decide) rfl (fun ls hl => ?_)
        refine lv_goto (tgt := 2) hx hb dX10_takePage_72 (by decide) ?_
        exact ih_2 (x3_2 + 1) (va_up (va_up (va_up (va_up Vm_2 5 (upd (Vm_2 5) x3_2.toNatClampNeg ((Vm_2 23) (x2 + x3_2).toNatClampNeg))) 6 (upd (Vm_2 6) x3_2.toNatClampNeg ((Vm_2 23) ((x2 + 6) + x3_2).toNatClampNeg))) 7 (upd (Vm_2 7) x3_2.toNatClampNeg (vp_nar .boolean zr1))) 8 (upd (Vm_2 8) x3_2.toNatClampNeg (vp_nar .boolean zr2))) hf _ _ hP hD hS _ (lv_sub hl [1, 2, 3, 0] rfl)
  refine L2 _ (fun Vm_2 hf H locs hP hD hS ls hl => ?_) f 0 V hf _ _ hP hD hS _ (lv_sub hl [1, 2, 3, 0] rfl)
  refine lv_iconst (v := 0) hx hb dX10_takePage_75 (by decide) ?_
  refine lv_istore_n (lv' := [(3, .int 0), (0, .ref o), (1, .ref (h 23)), (2, .int x2)]) hx hb dX10_takePage_76 rfl hl (by decide) rfl (fun ls hl => ?_)
  have L77 : ∀ (k_77 : FV → Option (FI × FV)) (hk_77 : ∀ (Vm_77 : FV), k_77 Vm_77 = some out → ∀ (H : Heap) (locs : List Loc), va_P D vwCl (w_M cs o h I Vm_77) H → va_D A (w_M cs o h I Vm_77) → va_S A s.heap H locs → ∀ ls : Array Slot, lv_has ls 4 [(0, .ref o), (1, .ref (h 23)), (2, .int x2)] → W p l e rm_M_takePage_book s m args below meth c H locs 0 0 Q (F0 m 145 ls [])), ∀ (n_77 : Nat) (x3_77 : Int32) (Vm_77 : FV), M_takePage_book_L77 f x2 k_77 n_77 x3_77 Vm_77 = some out → ∀ (H : Heap) (locs : List Loc), va_P D vwCl (w_M cs o h I Vm_77) H → va_D A (w_M cs o h I Vm_77) → va_S A s.heap H locs → ∀ ls : Array Slot, lv_has ls 4 [(0, .ref o), (1, .ref (h 23)), (2, .int x2), (3, .int x3_77)] → W p l e rm_M_takePage_book s m args below meth c H locs 0 0 Q (F0 m 77 ls []) := by
    intro k_77 hk_77 n_77
    induction n_77 with
    | zero => intro x3_77 Vm_77 hf; rw [M_takePage_book_L77] at hf; cases hf
    | succ n_77 ih_77 =>
      intro x3_77 Vm_77 hf H locs hP hD hS ls hl
      rw [M_takePage_book_L77] at hf
      refine lv_iload_n hx hb dX10_takePage_77 rfl (lv_at hl 3 rfl) ?_
      refine lv_bipush (v := 12) hx hb dX10_takePage_78 (by decide) ?_
      refine lv_icmp_ge (tgt := 145) hx hb dX10_takePage_80 (by decide) (fun c80 => ?_) (fun c80 => ?_)
      · replace hf := ip c80 hf
        exact hk_77 Vm_77 hf _ _ hP hD hS _ (lv_sub hl [0, 1, 2] rfl)
      · replace hf := im c80 hf
        refine lv_aload_n hx hb dX10_takePage_83 rfl (lv_at hl 0 rfl) ?_
        refine va_get (D := D) (ci := 10) (v := .ref (h 10)) (C := RX10) (T := TX10) (N := 38) hx hb hts in_X10 hown hK hP 0 rfl rfl 10 (by decide) g_26 (fun _ h9 => h9) rfl dX10_takePage_84 ?_
        refine lv_iload_n hx hb dX10_takePage_87 rfl (lv_at hl 3 rfl) ?_
        refine lv_aload_n hx hb dX10_takePage_88 rfl (lv_at hl 1 rfl) ?_
        refine lv_iload_n hx hb dX10_takePage_89 rfl (lv_at hl 2 rfl) ?_
        refine lv_bipush (v := 18) hx hb dX10_takePage_90 (by decide) ?_
        refine lv_iadd hx hb dX10_takePage_92 ?_
        refine lv_iload_n hx hb dX10_takePage_93 rfl (lv_at hl 3 rfl) ?_
        refine lv_iadd hx hb dX10_takePage_94 ?_
        obtain ⟨c95, hf⟩ := gd hf
        refine va_iald hx hb hK hP 16 0 rfl rfl c95 dX10_takePage_95 ?_
        obtain ⟨c96, hf⟩ := gd hf
        refine va_iast hx hb hK hP hD hS 6 0 rfl rfl c96 dX10_takePage_96 (fun H locs hP hD hS => ?_)
        have hP : va_P D vwCl (w_M cs o h I (va_up Vm_77 10 (upd (Vm_77 10) x3_77.toNatClampNeg ((Vm_77 23) ((x2 + 18) + x3_77).toNatClampNeg)))) H := hP
        have hD : va_D A (w_M cs o h I (va_up Vm_77 10 (upd (Vm_77 10) x3_77.toNatClampNeg ((Vm_77 23) ((x2 + 18) + x3_77).toNatClampNeg)))) := hD
        refine lv_aload_n hx hb dX10_takePage_97 rfl (lv_at hl 0 rfl) ?_
        refine va_get (D := D) (ci := 10) (v := .ref (h 11)) (C := RX10) (T := TX10) (N := 38) hx hb hts in_X10 hown hK hP 0 rfl rfl 11 (by decide) g_29 (fun _ h9 => h9) rfl dX10_takePage_98 ?_
        refine lv_iload_n hx hb dX10_takePage_101 rfl (lv_at hl 3 rfl) ?_
        refine lv_aload_n hx hb dX10_takePage_102 rfl (lv_at hl 1 rfl) ?_
        refine lv_iload_n hx hb dX10_takePage_103 rfl (lv_at hl 2 rfl) ?_
        refine lv_bipush (v := 30) hx hb dX10_takePage_104 (by decide) ?_
        refine lv_iadd hx hb dX10_takePage_106 ?_
        refine lv_iload_n hx hb dX10_takePage_107 rfl (lv_at hl 3 rfl) ?_
        refine lv_iadd hx hb dX10_takePage_108 ?_
        obtain ⟨c109, hf⟩ := gd hf
        refine va_iald hx hb hK hP 16 0 rfl rfl c109 dX10_takePage_109 ?_
        obtain ⟨c110, hf⟩ := gd hf
        refine va_iast hx hb hK hP hD hS 7 0 rfl rfl c110 dX10_takePage_110 (fun H locs hP hD hS => ?_)
        have hP : va_P D vwCl (w_M cs o h I (va_up (va_up Vm_77 10 (upd (Vm_77 10) x3_77.toNatClampNeg ((Vm_77 23) ((x2 + 18) + x3_77).toNatClampNeg))) 11 (upd (Vm_77 11) x3_77.toNatClampNeg ((Vm_77 23) ((x2 + 30) + x3_77).toNatClampNeg)))) H := hP
        have hD : va_D A (w_M cs o h I (va_up (va_up Vm_77 10 (upd (Vm_77 10) x3_77.toNatClampNeg ((Vm_77 23) ((x2 + 18) + x3_77).toNatClampNeg))) 11 (upd (Vm_77 11) x3_77.toNatClampNeg ((Vm_77 23) ((x2 + 30) + x3_77).toNatClampNeg)))) := hD
        refine lv_aload_n hx hb dX10_takePage_111 rfl (lv_at hl 0 rfl) ?_
        refine va_get (D := D) (ci := 10) (v := .ref (h 12)) (C := RX10) (T := TX10) (N := 38) hx hb hts in_X10 hown hK hP 0 rfl rfl 12 (by decide) g_32 (fun _ h9 => h9) rfl dX10_takePage_112 ?_
        refine lv_iload_n hx hb dX10_takePage_115 rfl (lv_at hl 3 rfl) ?_
        refine lv_aload_n hx hb dX10_takePage_116 rfl (lv_at hl 1 rfl) ?_
        refine lv_iload_n hx hb dX10_takePage_117 rfl (lv_at hl 2 rfl) ?_
        refine lv_bipush (v := 42) hx hb dX10_takePage_118 (by decide) ?_
        refine lv_iadd hx hb dX10_takePage_120 ?_
        refine lv_iload_n hx hb dX10_takePage_121 rfl (lv_at hl 3 rfl) ?_
        refine lv_iadd hx hb dX10_takePage_122 ?_
        obtain ⟨c123, hf⟩ := gd hf
        refine va_iald hx hb hK hP 16 0 rfl rfl c123 dX10_takePage_123 ?_
        obtain ⟨c124, hf⟩ := gd hf
        refine va_iast hx hb hK hP hD hS 8 0 rfl rfl c124 dX10_takePage_124 (fun H locs hP hD hS => ?_)
        have hP : va_P D vwCl (w_M cs o h I (va_up (va_up (va_up Vm_77 10 (upd (Vm_77 10) x3_77.toNatClampNeg ((Vm_77 23) ((x2 + 18) + x3_77).toNatClampNeg))) 11 (upd (Vm_77 11) x3_77.toNatClampNeg ((Vm_77 23) ((x2 + 30) + x3_77).toNatClampNeg))) 12 (upd (Vm_77 12) x3_77.toNatClampNeg ((Vm_77 23) ((x2 + 42) + x3_77).toNatClampNeg)))) H := hP
        have hD : va_D A (w_M cs o h I (va_up (va_up (va_up Vm_77 10 (upd (Vm_77 10) x3_77.toNatClampNeg ((Vm_77 23) ((x2 + 18) + x3_77).toNatClampNeg))) 11 (upd (Vm_77 11) x3_77.toNatClampNeg ((Vm_77 23) ((x2 + 30) + x3_77).toNatClampNeg))) 12 (upd (Vm_77 12) x3_77.toNatClampNeg ((Vm_77 23) ((x2 + 42) + x3_77).toNatClampNeg)))) := hD
        refine lv_aload_n hx hb dX10_takePage_125 rfl (lv_at hl 0 rfl) ?_
        refine va_get (D := D) (ci := 10) (v := .ref (h 13)) (C := RX10) (T := TX10) (N := 38) hx hb hts in_X10 hown hK hP 0 rfl rfl 13 (by decide) g_35 (fun _ h9 => h9) rfl dX10_takePage_126 ?_
        refine lv_iload_n hx hb dX10_takePage_129 rfl (lv_at hl 3 rfl) ?_
        refine lv_aload_n hx hb dX10_takePage_130 rfl (lv_at hl 1 rfl) ?_
        refine lv_iload_n hx hb dX10_takePage_131 rfl (lv_at hl 2 rfl) ?_
        refine lv_bipush (v := 54) hx hb dX10_takePage_132 (by decide) ?_
        refine lv_iadd hx hb dX10_takePage_134 ?_
        refine lv_iload_n hx hb dX10_takePage_135 rfl (lv_at hl 3 rfl) ?_
        refine lv_iadd hx hb dX10_takePage_136 ?_
        obtain ⟨c137, hf⟩ := gd hf
        refine va_iald hx hb hK hP 16 0 rfl rfl c137 dX10_takePage_137 ?_
        obtain ⟨c138, hf⟩ := gd hf
        refine va_iast hx hb hK hP hD hS 9 0 rfl rfl c138 dX10_takePage_138 (fun H locs hP hD hS => ?_)
        have hP : va_P D vwCl (w_M cs o h I (va_up (va_up (va_up (va_up Vm_77 10 (upd (Vm_77 10) x3_77.toNatClampNeg ((Vm_77 23) ((x2 + 18) + x3_77).toNatClampNeg))) 11 (upd (Vm_77 11) x3_77.toNatClampNeg ((Vm_77 23) ((x2 + 30) + x3_77).toNatClampNeg))) 12 (upd (Vm_77 12) x3_77.toNatClampNeg ((Vm_77 23) ((x2 + 42) + x3_77).toNatClampNeg))) 13 (upd (Vm_77 13) x3_77.toNatClampNeg ((Vm_77 23) ((x2 + 54) + x3_77).toNatClampNeg)))) H := hP
        have hD : va_D A (w_M cs o h I (va_up (va_up (va_up (va_up Vm_77 10 (upd (Vm_77 10) x3_77.toNatClampNeg ((Vm_77 23) ((x2 + 18) + x3_77).toNatClampNeg))) 11 (upd (Vm_77 11) x3_77.toNatClampNeg ((Vm_77 23) ((x2 + 30) + x3_77).toNatClampNeg))) 12 (upd (Vm_77 12) x3_77.toNatClampNeg ((Vm_77 23) ((x2 + 42) + x3_77).toNatClampNeg))) 13 (upd (Vm_77 13) x3_77.toNatClampNeg ((Vm_77 23) ((x2 + 54) + x3_77).toNatClampNeg)))) := hD
        refine lv_iinc (v := (x3_77 + 1)) (lv' := [(3, .int (x3_77 + 1)), (0, .ref o), (1, .ref (h 23)), (2, .int x2)]) hx hb dX10_takePage_139 hl (k := 3) rfl (by rfl) (by decide) rfl (fun ls hl => ?_)
        refine lv_goto (tgt := 77) hx hb dX10_takePage_142 (by decide) ?_
        exact ih_77 (x3_77 + 1) (va_up (va_up (va_up (va_up Vm_77 10 (upd (Vm_77 10) x3_77.toNatClampNeg ((Vm_77 23) ((x2 + 18) + x3_77).toNatClampNeg))) 11 (upd (Vm_77 11) x3_77.toNatClampNeg ((Vm_77 23) ((x2 + 30) + x3_77).toNatClampNeg))) 12 (upd (Vm_77 12) x3_77.toNatClampNeg ((Vm_77 23) ((x2 + 42) + x3_77).toNatClampNeg))) 13 (upd (Vm_77 13) x3_77.toNatClampNeg ((Vm_77 23) ((x2 + 54) + x3_77).toNatClampNeg))) hf _ _ hP hD hS _ (lv_sub hl [1, 2, 3, 0] rfl)
  refine L77 _ (fun Vm_77 hf H locs hP hD hS ls hl => ?_) f 0 Vm_2 hf _ _ hP hD hS _ (lv_sub hl [1, 2, 3, 0] rfl)
  refine lv_aload_n hx hb dX10_takePage_145 rfl (lv_at hl 0 rfl) ?_
  refine lv_aload_n hx hb dX10_takePage_146 rfl (lv_at hl 1 rfl) ?_
  refine lv_iload_n hx hb dX10_takePage_147 rfl (lv_at hl 2 rfl) ?_
  refine lv_bipush (v := 66) hx hb dX10_takePage_148 (by decide) ?_
  refine lv_iadd hx hb dX10_takePage_150 ?_
  obtain ⟨c151, hf⟩ := gd hf
  refine va_iald hx hb hK hP 16 0 rfl rfl c151 dX10_takePage_151 ?_
  refine va_put (D := D) (ci := 10) (v := .int ((Vm_77 23) (x2 + 66).toNatClampNeg)) (ty := .int) (C := RX10) (T := TX10) (N := 38) hx hb hts in_X10 tyX10 tyX10_ok nmX10 hown hK hP hD hS 0 rfl rfl 9 (by decide) g_135 (fun _ h9 => h9) rfl (by decide +kernel) rfl rfl (Nat.le_of_ble_eq_true rfl) dX10_takePage_152 (fun H locs hP hD hS => ?_)
  have hP : va_P D vwCl (w_M cs o h (va_up I 9 ((Vm_77 23) (x2 + 66).toNatClampNeg)) Vm_77) H := hP
  have hD : va_D A (w_M cs o h (va_up I 9 ((Vm_77 23) (x2 + 66).toNatClampNeg)) Vm_77) := hD
  refine lv_aload_n hx hb dX10_takePage_155 rfl (lv_at hl 0 rfl) ?_
  refine lv_aload_n hx hb dX10_takePage_156 rfl (lv_at hl 1 rfl) ?_
  refine lv_iload_n hx hb dX10_takePage_157 rfl (lv_at hl 2 rfl) ?_
  refine lv_bipush (v := 67) hx hb dX10_takePage_158 (by decide) ?_
  refine lv_iadd hx hb dX10_takePage_160 ?_
  obtain ⟨c161, hf⟩ := gd hf
  refine va_iald hx hb hK hP 16 0 rfl rfl c161 dX10_takePage_161 ?_
  refine va_put (D := D) (ci := 10) (v := .int ((Vm_77 23) (x2 + 67).toNatClampNeg)) (ty := .int) (C := RX10) (T := TX10) (N := 38) hx hb hts in_X10 tyX10 tyX10_ok nmX10 hown hK hP hD hS 0 rfl rfl 14 (by decide) g_138 (fun _ h9 => h9) rfl (by decide +kernel) rfl rfl (Nat.le_of_ble_eq_true rfl) dX10_takePage_162 (fun H locs hP hD hS => ?_)
  have hP : va_P D vwCl (w_M cs o h (va_up (va_up I 9 ((Vm_77 23) (x2 + 66).toNatClampNeg)) 14 ((Vm_77 23) (x2 + 67).toNatClampNeg)) Vm_77) H := hP
  have hD : va_D A (w_M cs o h (va_up (va_up I 9 ((Vm_77 23) (x2 + 66).toNatClampNeg)) 14 ((Vm_77 23) (x2 + 67).toNatClampNeg)) Vm_77) := hD
  exact hret (va_up (va_up I 9 ((Vm_77 23) (x2 + 66).toNatClampNeg)) 14 ((Vm_77 23) (x2 + 67).toNatClampNeg)) Vm_77 _ _ 165 _ hf hP hD hS dX10_takePage_165
def M_takePage_kept_L2 {ρ : Type} (f : Nat) (x2 : Int32) (k_2 : FV → Option ρ) : Nat → Int32 → FV → Option ρ
  | 0, _, _ => none
  | n_2 + 1, x3_2, Vm_2 => (if 6 ≤ x3_2 then (k_2 Vm_2) else if (x2 + x3_2) < 0 ∨ 148 ≤ (x2 + x3_2).toNatClampNeg then none else (if x3_2 < 0 ∨ 6 ≤ x3_2.toNatClampNeg then none else (if ((x2 + 6) + x3_2) < 0 ∨ 148 ≤ ((x2 + 6) + x3_2).toNatClampNeg then none else (if x3_2 < 0 ∨ 6 ≤ x3_2.toNatClampNeg then none else (if ((x2 + 12) + x3_2) < 0 ∨ 148 ≤ ((x2 + 12) + x3_2).toNatClampNeg then none else (ob1 (M_has f ((Vm_2 25) ((x2 + 12) + x3_2).toNatClampNeg) 0) (fun zr1 => if x3_2 < 0 ∨ 6 ≤ x3_2.toNatClampNeg then none else (if ((x2 + 12) + x3_2) < 0 ∨ 148 ≤ ((x2 + 12) + x3_2).toNatClampNeg then none else (ob1 (M_has f ((Vm_2 25) ((x2 + 12) + x3_2).toNatClampNeg) 1) (fun zr2 => if x3_2 < 0 ∨ 6 ≤ x3_2.toNatClampNeg then none else ((M_takePage_kept_L2 f x2 k_2 n_2 (x3_2 + 1) (va_up (va_up (va_up (va_up Vm_2 5 (upd (Vm_2 5) x3_2.toNatClampNeg ((Vm_2 25) (x2 + x3_2).toNatClampNeg))) 6 (upd (Vm_2 6) x3_2.toNatClampNeg ((Vm_2 25) ((x2 + 6) + x3_2).toNatClampNeg))) 7 (upd (Vm_2 7) x3_2.toNatClampNeg (vp_nar .boolean zr1))) 8 (upd (Vm_2 8) x3_2.toNatClampNeg (vp_nar .boolean zr2)))))))))))))))
def M_takePage_kept_L77 {ρ : Type} (f : Nat) (x2 : Int32) (k_77 : FV → Option ρ) : Nat → Int32 → FV → Option ρ
  | 0, _, _ => none
  | n_77 + 1, x3_77, Vm_77 => (if 12 ≤ x3_77 then (k_77 Vm_77) else if ((x2 + 18) + x3_77) < 0 ∨ 148 ≤ ((x2 + 18) + x3_77).toNatClampNeg then none else (if x3_77 < 0 ∨ 12 ≤ x3_77.toNatClampNeg then none else (if ((x2 + 30) + x3_77) < 0 ∨ 148 ≤ ((x2 + 30) + x3_77).toNatClampNeg then none else (if x3_77 < 0 ∨ 12 ≤ x3_77.toNatClampNeg then none else (if ((x2 + 42) + x3_77) < 0 ∨ 148 ≤ ((x2 + 42) + x3_77).toNatClampNeg then none else (if x3_77 < 0 ∨ 12 ≤ x3_77.toNatClampNeg then none else (if ((x2 + 54) + x3_77) < 0 ∨ 148 ≤ ((x2 + 54) + x3_77).toNatClampNeg then none else (if x3_77 < 0 ∨ 12 ≤ x3_77.toNatClampNeg then none else ((M_takePage_kept_L77 f x2 k_77 n_77 (x3_77 + 1) (va_up (va_up (va_up (va_up Vm_77 10 (upd (Vm_77 10) x3_77.toNatClampNeg ((Vm_77 25) ((x2 + 18) + x3_77).toNatClampNeg))) 11 (upd (Vm_77 11) x3_77.toNatClampNeg ((Vm_77 25) ((x2 + 30) + x3_77).toNatClampNeg))) 12 (upd (Vm_77 12) x3_77.toNatClampNeg ((Vm_77 25) ((x2 + 42) + x3_77).toNatClampNeg))) 13 (upd (Vm_77 13) x3_77.toNatClampNeg ((Vm_77 25) ((x2 + 54) + x3_77).toNatClampNeg)))))))))))))
def M_takePage_kept (f : Nat) (x2 : Int32) (I : FI) (V : FV) : Option (FI × FV) := (M_takePage_kept_L2 f x2 (fun (Vm_2 : FV) => (M_takePage_kept_L77 f x2 (fun (Vm_77 : FV) => if (x2 + 66) < 0 ∨ 148 ≤ (x2 + 66).toNatClampNeg then none else (if (x2 + 67) < 0 ∨ 148 ≤ (x2 + 67).toNatClampNeg then none else (some ((va_up (va_up I 9 ((Vm_77 25) (x2 + 66).toNatClampNeg)) 14 ((Vm_77 25) (x2 + 67).toNatClampNeg)), Vm_77)))) f 0 Vm_2)) f 0 V)
abbrev rm_M_takePage_kept : Room := { frames := 1, cells := 0, slots := 0, locals := 21 }
set_option maxHeartbeats 4000000 in
set_option maxRecDepth 100000 in
theorem c_M_takePage_kept (l : Launch) (D : va_G) (cs : Nat → ClassId) (o : Nat) (h : Nat → Nat) (sz : Nat) (I : FI) (V : FV) (x2 : Int32) (f : Nat) (out : FI × FV) (hf : M_takePage_kept f x2 I V = some out) : Met l yX10_takePage wsX10_takePage rm_M_takePage_kept (va_Pc [.ref o, .ref (h 25), .int x2] (xP D cs (w_M cs o h I V) sz)) (va_Qv (fun u => u = out) (fun (u : FI × FV) t => xA D cs (va_A (w_M cs o h I V) sz) (w_M cs o h u.1 u.2) t) (va_A (w_M cs o h I V) sz)) 0 0 (va_A (w_M cs o h I V) sz) := by
  refine Met.ofW (cc := cX10_takePage) (maxL := 4) (ret := none) (by decide) rfl ?_
  intro p e s m args below meth c s₁ B hml hv
  obtain ⟨ha, hsz, hP, hK, hD0⟩ := hv
  have hx := B.exec
  have hb := B.bytes
  have hr := B.returns
  have hts := atoms_spec (ws := wsX10_takePage) B.pre
  have hown : s.vm.findClass RX10 = some m.cls := findClass_of_methodNamed B.named
  have hlocks := B.notSynchronized
  have in_X10 : ∀ w ∈ u_ws RX10 TX10 38, w ∈ wsX10_takePage := fun w h => List.mem_cons_of_mem _ (List.mem_append_right _ h)
  have g_13 := hts (.fieldLink RX10 13 "DaysLentModel" "mornings" "[I") (by decide +kernel)
  have g_16 := hts (.fieldLink RX10 16 "DaysLentModel" "asks" "[I") (by decide +kernel)
  have g_19 := hts (.fieldLink RX10 19 "DaysLentModel" "dead" "[Z") (by decide +kernel)
  have w_has_160 := va_cwS (R := rm_M_takePage_kept) (s := s) (args := args) (rm := rm_M_has) (mc := 0) (ms := 0) 2 hts gX10_takePage_X10_has rfl rfl rfl (by decide +kernel) ⟨Nat.le_of_ble_eq_true rfl, Nat.le_of_ble_eq_true rfl⟩
  have g_23 := hts (.fieldLink RX10 23 "DaysLentModel" "broken" "[Z") (by decide +kernel)
  have g_26 := hts (.fieldLink RX10 26 "DaysLentModel" "owed" "[I") (by decide +kernel)
  have g_29 := hts (.fieldLink RX10 29 "DaysLentModel" "owes" "[I") (by decide +kernel)
  have g_32 := hts (.fieldLink RX10 32 "DaysLentModel" "much" "[I") (by decide +kernel)
  have g_35 := hts (.fieldLink RX10 35 "DaysLentModel" "due" "[I") (by decide +kernel)
  have g_135 := hts (.fieldLink RX10 135 "DaysLentModel" "debts" "I") (by decide +kernel)
  have g_138 := hts (.fieldLink RX10 138 "DaysLentModel" "week" "I") (by decide +kernel)
  subst hsz
  have hD := hD0.self (sz := s.heap.size)
  generalize hAe : va_A (w_M cs o h I V) s.heap.size = A at hD ⊢
  have hA : ∀ q : Nat, s.heap.size ≤ q → A q := fun q h => by rw [← hAe]; exact Or.inr h
  have hS : va_S A s.heap s.heap [] := va_S.rf
  have hl := lv_entry ([.ref o, .ref (h 25), .int x2]) (n := 4) (Nat.le_of_ble_eq_true rfl)
  rw [show entryFrame m args 4 = entryFrame m ([.ref o, .ref (h 25), .int x2] : List Value).toArray 4 from by rw [ha], lg_entry_eq]
  generalize (lg_sl ([.ref o, .ref (h 25), .int x2]) ++ List.replicate (4 - (lg_sl ([.ref o, .ref (h 25), .int x2])).length) Slot.unset).toArray = ls at hl ⊢
  have hl : lv_has ls 4 [(0, .ref o), (1, .ref (h 25)), (2, .int x2)] := hl
  generalize hQ : MQ below (va_Qv (fun u => u = out) (fun (u : FI × FV) t => xA D cs A (w_M cs o h u.1 u.2) t) A) args s 0 0 A = Q
  show W p l e rm_M_takePage_kept s m args below meth c s.heap [] 0 0 Q (F0 m 0 ls [])
  have hret : ∀ (Im9 : FI) (Vm9 : FV) (H : Heap) (locs : List Loc) (pc : Nat) (ls : Array Slot), some (Im9, Vm9) = some out → va_P D vwCl (w_M cs o h Im9 Vm9) H → va_D A (w_M cs o h Im9 Vm9) → va_S A s.heap H locs → decode cX10_takePage pc = .ok (.return_, 1) → W p l e rm_M_takePage_kept s m args below meth c H locs 0 0 Q (F0 m pc ls []) := by
    intro Im9 Vm9 H locs pc ls hf hP hD hS hd
    rw [← hQ]
    exact W.vret hx hb hr (fun t ht hW => ⟨⟨(Im9, Vm9), rfl, Option.some.inj hf, by show va_P D vwCl (w_M cs o h Im9 Vm9) t.heap; rw [ht]; exact hP, va_K.moved hW.alike hK, hD⟩, hS.F ht⟩) hS.2.2 hd
  unfold M_takePage_kept at hf
  refine lv_iconst (v := 0) hx hb dX10_takePage_0 (by decide) ?_
  refine lv_istore_n (lv' := [(3, .int 0), (0, .ref o), (1, .ref (h 25)), (2, .int x2)]) hx hb dX10_takePage_1 rfl hl (by decide) rfl (fun ls hl => ?_)
  have L2 : ∀ (k_2 : FV → Option (FI × FV)) (hk_2 : ∀ (Vm_2 : FV), k_2 Vm_2 = some out → ∀ (H : Heap) (locs : List Loc), va_P D vwCl (w_M cs o h I Vm_2) H → va_D A (w_M cs o h I Vm_2) → va_S A s.heap H locs → ∀ ls : Array Slot, lv_has ls 4 [(0, .ref o), (1, .ref (h 25)), (2, .int x2)] → W p l e rm_M_takePage_kept s m args below meth c H locs 0 0 Q (F0 m 75 ls [])), ∀ (n_2 : Nat) (x3_2 : Int32) (Vm_2 : FV), M_takePage_kept_L2 f x2 k_2 n_2 x3_2 Vm_2 = some out → ∀ (H : Heap) (locs : List Loc), va_P D vwCl (w_M cs o h I Vm_2) H → va_D A (w_M cs o h I Vm_2) → va_S A s.heap H locs → ∀ ls : Array Slot, lv_has ls 4 [(0, .ref o), (1, .ref (h 25)), (2, .int x2), (3, .int x3_2)] → W p l e rm_M_takePage_kept s m args below meth c H locs 0 0 Q (F0 m 2 ls []) := by
    intro k_2 hk_2 n_2
    induction n_2 with
    | zero => intro x3_2 Vm_2 hf; rw [M_takePage_kept_L2] at hf; cases hf
    | succ n_2 ih_2 =>
      intro x3_2 Vm_2 hf H locs hP hD hS ls hl
      rw [M_takePage_kept_L2] at hf
      refine lv_iload_n hx hb dX10_takePage_2 rfl (lv_at hl 3 rfl) ?_
      refine lv_bipush (v := 6) hx hb dX10_takePage_3 (by decide) ?_
      refine lv_icmp_ge (tgt := 75) hx hb dX10_takePage_5 (by decide) (fun c5 => ?_) (fun c5 => ?_)
      · replace hf := ip c5 hf
        exact hk_2 Vm_2 hf _ _ hP hD hS _ (lv_sub hl [0, 1, 2] rfl)
      · replace hf := im c5 hf
        refine lv_aload_n hx hb dX10_takePage_8 rfl (lv_at hl 0 rfl) ?_
        refine va_get (D := D) (ci := 10) (v := .ref (h 5)) (C := RX10) (T := TX10) (N := 38) hx hb hts in_X10 hown hK hP 0 rfl rfl 5 (by decide) g_13 (fun _ h9 => h9) rfl dX10_takePage_9 ?_
        refine lv_iload_n hx hb dX10_takePage_12 rfl (lv_at hl 3 rfl) ?_
        refine lv_aload_n hx hb dX10_takePage_13 rfl (lv_at hl 1 rfl) ?_
        refine lv_iload_n hx hb dX10_takePage_14 rfl (lv_at hl 2 rfl) ?_
        refine lv_iload_n hx hb dX10_takePage_15 rfl (lv_at hl 3 rfl) ?_
        refine lv_iadd hx hb dX10_takePage_16 ?_
        obtain ⟨c17, hf⟩ := gd hf
        refine va_iald hx hb hK hP 17 0 rfl rfl c17 dX10_takePage_17 ?_
        obtain ⟨c18, hf⟩ := gd hf
        refine va_iast hx hb hK hP hD hS 2 0 rfl rfl c18 dX10_takePage_18 (fun H locs hP hD hS => ?_)
        have hP : va_P D vwCl (w_M cs o h I (va_up Vm_2 5 (upd (Vm_2 5) x3_2.toNatClampNeg ((Vm_2 25) (x2 + x3_2).toNatClampNeg)))) H := hP
        have hD : va_D A (w_M cs o h I (va_up Vm_2 5 (upd (Vm_2 5) x3_2.toNatClampNeg ((Vm_2 25) (x2 + x3_2).toNatClampNeg)))) := hD
        refine lv_aload_n hx hb dX10_takePage_19 rfl (lv_at hl 0 rfl) ?_
        refine va_get (D := D) (ci := 10) (v := .ref (h 6)) (C := RX10) (T := TX10) (N := 38) hx hb hts in_X10 hown hK hP 0 rfl rfl 6 (by decide) g_16 (fun _ h9 => h9) rfl dX10_takePage_20 ?_
        refine lv_iload_n hx hb dX10_takePage_23 rfl (lv_at hl 3 rfl) ?_
        refine lv_aload_n hx hb dX10_takePage_24 rfl (lv_at hl 1 rfl) ?_
        refine lv_iload_n hx hb dX10_takePage_25 rfl (lv_at hl 2 rfl) ?_
        refine lv_bipush (v := 6) hx hb dX10_takePage_26 (by decide) ?_
        refine lv_iadd hx hb dX10_takePage_28 ?_
        refine lv_iload_n hx hb dX10_takePage_29 rfl (lv_at hl 3 rfl) ?_
        refine lv_iadd hx hb dX10_takePage_30 ?_
        obtain ⟨c31, hf⟩ := gd hf
        refine va_iald hx hb hK hP 17 0 rfl rfl c31 dX10_takePage_31 ?_
        obtain ⟨c32, hf⟩ := gd hf
        refine va_iast hx hb hK hP hD hS 3 0 rfl rfl c32 dX10_takePage_32 (fun H locs hP hD hS => ?_)
        have hP : va_P D vwCl (w_M cs o h I (va_up (va_up Vm_2 5 (upd (Vm_2 5) x3_2.toNatClampNeg ((Vm_2 25) (x2 + x3_2).toNatClampNeg))) 6 (upd (Vm_2 6) x3_2.toNatClampNeg ((Vm_2 25) ((x2 + 6) + x3_2).toNatClampNeg)))) H := hP
        have hD : va_D A (w_M cs o h I (va_up (va_up Vm_2 5 (upd (Vm_2 5) x3_2.toNatClampNeg ((Vm_2 25) (x2 + x3_2).toNatClampNeg))) 6 (upd (Vm_2 6) x3_2.toNatClampNeg ((Vm_2 25) ((x2 + 6) + x3_2).toNatClampNeg)))) := hD
        refine lv_aload_n hx hb dX10_takePage_33 rfl (lv_at hl 0 rfl) ?_
        refine va_get (D := D) (ci := 10) (v := .ref (h 7)) (C := RX10) (T := TX10) (N := 38) hx hb hts in_X10 hown hK hP 0 rfl rfl 7 (by decide) g_19 (fun _ h9 => h9) rfl dX10_takePage_34 ?_
        refine lv_iload_n hx hb dX10_takePage_37 rfl (lv_at hl 3 rfl) ?_
        refine lv_aload_n hx hb dX10_takePage_38 rfl (lv_at hl 1 rfl) ?_
        refine lv_iload_n hx hb dX10_takePage_39 rfl (lv_at hl 2 rfl) ?_
        refine lv_bipush (v := 12) hx hb dX10_takePage_40 (by decide) ?_
        refine lv_iadd hx hb dX10_takePage_42 ?_
        refine lv_iload_n hx hb dX10_takePage_43 rfl (lv_at hl 3 rfl) ?_
        refine lv_iadd hx hb dX10_takePage_44 ?_
        obtain ⟨c45, hf⟩ := gd hf
        refine va_iald hx hb hK hP 17 0 rfl rfl c45 dX10_takePage_45 ?_
        refine lv_iconst (v := 0) hx hb dX10_takePage_46 (by decide) ?_
        obtain ⟨zr1, qr1, hf⟩ := bd1 hf
        refine vp_callSi (va_Run.run (va_runS (As := [.int ((Vm_2 25) ((x2 + 12) + x3_2).toNatClampNeg), .int 0]) (rest := [.int x3_2, .ref (h 7)]) ⟨hx, hb, hml, hown, hts⟩ (c_M_has l ((Vm_2 25) ((x2 + 12) + x3_2).toNatClampNeg) 0 f zr1 qr1) w_has_160 ⟨fun a U g mk q => q, fun U hU hW => ⟨rfl, trivial⟩⟩ rfl rfl hl.1 rfl (lv_room (Nat.le_of_ble_eq_true rfl)) dX10_takePage_47 ⟨Nat.zero_le _, Nat.zero_le _⟩)) (fun r1 er1 => ?_)
        rw [er1]
        obtain ⟨c50, hf⟩ := gd hf
        refine va_zast hx hb hK hP hD hS 4 1 rfl rfl c50 dX10_takePage_50 (fun H locs hP hD hS => ?_)
        have hP : va_P D vwCl (w_M cs o h I (va_up (va_up (va_up Vm_2 5 (upd (Vm_2 5) x3_2.toNatClampNeg ((Vm_2 25) (x2 + x3_2).toNatClampNeg))) 6 (upd (Vm_2 6) x3_2.toNatClampNeg ((Vm_2 25) ((x2 + 6) + x3_2).toNatClampNeg))) 7 (upd (Vm_2 7) x3_2.toNatClampNeg (vp_nar .boolean zr1)))) H := hP
        have hD : va_D A (w_M cs o h I (va_up (va_up (va_up Vm_2 5 (upd (Vm_2 5) x3_2.toNatClampNeg ((Vm_2 25) (x2 + x3_2).toNatClampNeg))) 6 (upd (Vm_2 6) x3_2.toNatClampNeg ((Vm_2 25) ((x2 + 6) + x3_2).toNatClampNeg))) 7 (upd (Vm_2 7) x3_2.toNatClampNeg (vp_nar .boolean zr1)))) := hD
        refine lv_aload_n hx hb dX10_takePage_51 rfl (lv_at hl 0 rfl) ?_
        refine va_get (D := D) (ci := 10) (v := .ref (h 8)) (C := RX10) (T := TX10) (N := 38) hx hb hts in_X10 hown hK hP 0 rfl rfl 8 (by decide) g_23 (fun _ h9 => h9) rfl dX10_takePage_52 ?_
        refine lv_iload_n hx hb dX10_takePage_55 rfl (lv_at hl 3 rfl) ?_
        refine lv_aload_n hx hb dX10_takePage_56 rfl (lv_at hl 1 rfl) ?_
        refine lv_iload_n hx hb dX10_takePage_57 rfl (lv_at hl 2 rfl) ?_
        refine lv_bipush (v := 12) hx hb dX10_takePage_58 (by decide) ?_
        refine lv_iadd hx hb dX10_takePage_60 ?_
        refine lv_iload_n hx hb dX10_takePage_61 rfl (lv_at hl 3 rfl) ?_
        refine lv_iadd hx hb dX10_takePage_62 ?_
        obtain ⟨c63, hf⟩ := gd hf
        refine va_iald hx hb hK hP 17 0 rfl rfl c63 dX10_takePage_63 ?_
        refine lv_iconst (v := 1) hx hb dX10_takePage_64 (by decide) ?_
        obtain ⟨zr2, qr2, hf⟩ := bd1 hf
        refine vp_callSi (va_Run.run (va_runS (As := [.int ((Vm_2 25) ((x2 + 12) + x3_2).toNatClampNeg), .int 1]) (rest := [.int x3_2, .ref (h 8)]) ⟨hx, hb, hml, hown, hts⟩ (c_M_has l ((Vm_2 25) ((x2 + 12) + x3_2).toNatClampNeg) 1 f zr2 qr2) w_has_160 ⟨fun a U g mk q => q, fun U hU hW => ⟨rfl, trivial⟩⟩ rfl rfl hl.1 rfl (lv_room (Nat.le_of_ble_eq_true rfl)) dX10_takePage_65 ⟨Nat.zero_le _, Nat.zero_le _⟩)) (fun r2 er2 => ?_)
        rw [er2]
        obtain ⟨c68, hf⟩ := gd hf
        refine va_zast hx hb hK hP hD hS 5 1 rfl rfl c68 dX10_takePage_68 (fun H locs hP hD hS => ?_)
        have hP : va_P D vwCl (w_M cs o h I (va_up (va_up (va_up (va_up Vm_2 5 (upd (Vm_2 5) x3_2.toNatClampNeg ((Vm_2 25) (x2 + x3_2).toNatClampNeg))) 6 (upd (Vm_2 6) x3_2.toNatClampNeg ((Vm_2 25) ((x2 + 6) + x3_2).toNatClampNeg))) 7 (upd (Vm_2 7) x3_2.toNatClampNeg (vp_nar .boolean zr1))) 8 (upd (Vm_2 8) x3_2.toNatClampNeg (vp_nar .boolean zr2)))) H := hP
        have hD : va_D A (w_M cs o h I (va_up (va_up (va_up (va_up Vm_2 5 (upd (Vm_2 5) x3_2.toNatClampNeg ((Vm_2 25) (x2 + x3_2).toNatClampNeg))) 6 (upd (Vm_2 6) x3_2.toNatClampNeg ((Vm_2 25) ((x2 + 6) + x3_2).toNatClampNeg))) 7 (upd (Vm_2 7) x3_2.toNatClampNeg (vp_nar .boolean zr1))) 8 (upd (Vm_2 8) x3_2.toNatClampNeg (vp_nar .boolean zr2)))) := hD
        refine lv_iinc (v := (x3_2 + 1)) (lv' := [(3, .int (x3_2 + 1)), (0, .ref o), (1, .ref (h 25)), (2, .int x2)]) hx hb dX10_takePage_69 hl (k := 3) rfl (by rfl) (by decide) rfl (fun ls hl => ?_)
        refine lv_goto (tgt := 2) hx hb dX10_takePage_72 (by decide) ?_
        exact ih_2 (x3_2 + 1) (va_up (va_up (va_up (va_up Vm_2 5 (upd (Vm_2 5) x3_2.toNatClampNeg ((Vm_2 25) (x2 + x3_2).toNatClampNeg))) 6 (upd (Vm_2 6) x3_2.toNatClampNeg ((Vm_2 25) ((x2 + 6) + x3_2).toNatClampNeg))) 7 (upd (Vm_2 7) x3_2.toNatClampNeg (vp_nar .boolean zr1))) 8 (upd (Vm_2 8) x3_2.toNatClampNeg (vp_nar .boolean zr2))) hf _ _ hP hD hS _ (lv_sub hl [1, 2, 3, 0] rfl)
  refine L2 _ (fun Vm_2 hf H locs hP hD hS ls hl => ?_) f 0 V hf _ _ hP hD hS _ (lv_sub hl [1, 2, 3, 0] rfl)
  refine lv_iconst (v := 0) hx hb dX10_takePage_75 (by decide) ?_
  refine lv_istore_n (lv' := [(3, .int 0), (0, .ref o), (1, .ref (h 25)), (2, .int x2)]) hx hb dX10_takePage_76 rfl hl (by decide) rfl (fun ls hl => ?_)
  have L77 : ∀ (k_77 : FV → Option (FI × FV)) (hk_77 : ∀ (Vm_77 : FV), k_77 Vm_77 = some out → ∀ (H : Heap) (locs : List Loc), va_P D vwCl (w_M cs o h I Vm_77) H → va_D A (w_M cs o h I Vm_77) → va_S A s.heap H locs → ∀ ls : Array Slot, lv_has ls 4 [(0, .ref o), (1, .ref (h 25)), (2, .int x2)] → W p l e rm_M_takePage_kept s m args below meth c H locs 0 0 Q (F0 m 145 ls [])), ∀ (n_77 : Nat) (x3_77 : Int32) (Vm_77 : FV), M_takePage_kept_L77 f x2 k_77 n_77 x3_77 Vm_77 = some out → ∀ (H : Heap) (locs : List Loc), va_P D vwCl (w_M cs o h I Vm_77) H → va_D A (w_M cs o h I Vm_77) → va_S A s.heap H locs → ∀ ls : Array Slot, lv_has ls 4 [(0, .ref o), (1, .ref (h 25)), (2, .int x2), (3, .int x3_77)] → W p l e rm_M_takePage_kept s m args below meth c H locs 0 0 Q (F0 m 77 ls []) := by
    intro k_77 hk_77 n_77
    induction n_77 with
    | zero => intro x3_77 Vm_77 hf; rw [M_takePage_kept_L77] at hf; cases hf
    | succ n_77 ih_77 =>
      intro x3_77 Vm_77 hf H locs hP hD hS ls hl
      rw [M_takePage_kept_L77] at hf
      refine lv_iload_n hx hb dX10_takePage_77 rfl (lv_at hl 3 rfl) ?_
      refine lv_bipush (v := 12) hx hb dX10_takePage_78 (by decide) ?_
      refine lv_icmp_ge (tgt := 145) hx hb dX10_takePage_80 (by decide) (fun c80 => ?_) (fun c80 => ?_)
      · replace hf := ip c80 hf
        exact hk_77 Vm_77 hf _ _ hP hD hS _ (lv_sub hl [0, 1, 2] rfl)
      · replace hf := im c80 hf
        refine lv_aload_n hx hb dX10_takePage_83 rfl (lv_at hl 0 rfl) ?_
        refine va_get (D := D) (ci := 10) (v := .ref (h 10)) (C := RX10) (T := TX10) (N := 38) hx hb hts in_X10 hown hK hP 0 rfl rfl 10 (by decide) g_26 (fun _ h9 => h9) rfl dX10_takePage_84 ?_
        refine lv_iload_n hx hb dX10_takePage_87 rfl (lv_at hl 3 rfl) ?_
        refine lv_aload_n hx hb dX10_takePage_88 rfl (lv_at hl 1 rfl) ?_
        refine lv_iload_n hx hb dX10_takePage_89 rfl (lv_at hl 2 rfl) ?_
        refine lv_bipush (v := 18) hx hb dX10_takePage_90 (by decide) ?_
        refine lv_iadd hx hb dX10_takePage_92 ?_
        refine lv_iload_n hx hb dX10_takePage_93 rfl (lv_at hl 3 rfl) ?_
        refine lv_iadd hx hb dX10_takePage_94 ?_
        obtain ⟨c95, hf⟩ := gd hf
        refine va_iald hx hb hK hP 17 0 rfl rfl c95 dX10_takePage_95 ?_
        obtain ⟨c96, hf⟩ := gd hf
        refine va_iast hx hb hK hP hD hS 6 0 rfl rfl c96 dX10_takePage_96 (fun H locs hP hD hS => ?_)
        have hP : va_P D vwCl (w_M cs o h I (va_up Vm_77 10 (upd (Vm_77 10) x3_77.toNatClampNeg ((Vm_77 25) ((x2 + 18) + x3_77).toNatClampNeg)))) H := hP
        have hD : va_D A (w_M cs o h I (va_up Vm_77 10 (upd (Vm_77 10) x3_77.toNatClampNeg ((Vm_77 25) ((x2 + 18) + x3_77).toNatClampNeg)))) := hD
        refine lv_aload_n hx hb dX10_takePage_97 rfl (lv_at hl 0 rfl) ?_
        refine va_get (D := D) (ci := 10) (v := .ref (h 11)) (C := RX10) (T := TX10) (N := 38) hx hb hts in_X10 hown hK hP 0 rfl rfl 11 (by decide) g_29 (fun _ h9 => h9) rfl dX10_takePage_98 ?_
        refine lv_iload_n hx hb dX10_takePage_101 rfl (lv_at hl 3 rfl) ?_
        refine lv_aload_n hx hb dX10_takePage_102 rfl (lv_at hl 1 rfl) ?_
        refine lv_iload_n hx hb dX10_takePage_103 rfl (lv_at hl 2 rfl) ?_
        refine lv_bipush (v := 30) hx hb dX10_takePage_104 (by decide) ?_
        refine lv_iadd hx hb dX10_takePage_106 ?_
        refine lv_iload_n hx hb dX10_takePage_107 rfl (lv_at hl 3 rfl) ?_
        refine lv_iadd hx hb dX10_takePage_108 ?_
        obtain ⟨c109, hf⟩ := gd hf
        refine va_iald hx hb hK hP 17 0 rfl rfl c109 dX10_takePage_109 ?_
        obtain ⟨c110, hf⟩ := gd hf
        refine va_iast hx hb hK hP hD hS 7 0 rfl rfl c110 dX10_takePage_110 (fun H locs hP hD hS => ?_)
        have hP : va_P D vwCl (w_M cs o h I (va_up (va_up Vm_77 10 (upd (Vm_77 10) x3_77.toNatClampNeg ((Vm_77 25) ((x2 + 18) + x3_77).toNatClampNeg))) 11 (upd (Vm_77 11) x3_77.toNatClampNeg ((Vm_77 25) ((x2 + 30) + x3_77).toNatClampNeg)))) H := hP
        have hD : va_D A (w_M cs o h I (va_up (va_up Vm_77 10 (upd (Vm_77 10) x3_77.toNatClampNeg ((Vm_77 25) ((x2 + 18) + x3_77).toNatClampNeg))) 11 (upd (Vm_77 11) x3_77.toNatClampNeg ((Vm_77 25) ((x2 + 30) + x3_77).toNatClampNeg)))) := hD
        refine lv_aload_n hx hb dX10_takePage_111 rfl (lv_at hl 0 rfl) ?_
        refine va_get (D := D) (ci := 10) (v := .ref (h 12)) (C := RX10) (T := TX10) (N := 38) hx hb hts in_X10 hown hK hP 0 rfl rfl 12 (by decide) g_32 (fun _ h9 => h9) rfl dX10_takePage_112 ?_
        refine lv_iload_n hx hb dX10_takePage_115 rfl (lv_at hl 3 rfl) ?_
        refine lv_aload_n hx hb dX10_takePage_116 rfl (lv_at hl 1 rfl) ?_
        refine lv_iload_n hx hb dX10_takePage_117 rfl (lv_at hl 2 rfl) ?_
        refine lv_bipush (v := 42) hx hb dX10_takePage_118 (by decide) ?_
        refine lv_iadd hx hb dX10_takePage_120 ?_
        refine lv_iload_n hx hb dX10_takePage_121 rfl (lv_at hl 3 rfl) ?_
        refine lv_iadd hx hb dX10_takePage_122 ?_
        obtain ⟨c123, hf⟩ := gd hf
        refine va_iald hx hb hK hP 17 0 rfl rfl c123 dX10_takePage_123 ?_
        obtain ⟨c124, hf⟩ := gd hf
        refine va_iast hx hb hK hP hD hS 8 0 rfl rfl c124 dX10_takePage_124 (fun H locs hP hD hS => ?_)
        have hP : va_P D vwCl (w_M cs o h I (va_up (va_up (va_up Vm_77 10 (upd (Vm_77 10) x3_77.toNatClampNeg ((Vm_77 25) ((x2 + 18) + x3_77).toNatClampNeg))) 11 (upd (Vm_77 11) x3_77.toNatClampNeg ((Vm_77 25) ((x2 + 30) + x3_77).toNatClampNeg))) 12 (upd (Vm_77 12) x3_77.toNatClampNeg ((Vm_77 25) ((x2 + 42) + x3_77).toNatClampNeg)))) H := hP
        have hD : va_D A (w_M cs o h I (va_up (va_up (va_up Vm_77 10 (upd (Vm_77 10) x3_77.toNatClampNeg ((Vm_77 25) ((x2 + 18) + x3_77).toNatClampNeg))) 11 (upd (Vm_77 11) x3_77.toNatClampNeg ((Vm_77 25) ((x2 + 30) + x3_77).toNatClampNeg))) 12 (upd (Vm_77 12) x3_77.toNatClampNeg ((Vm_77 25) ((x2 + 42) + x3_77).toNatClampNeg)))) := hD
        refine lv_aload_n hx hb dX10_takePage_125 rfl (lv_at hl 0 rfl) ?_
        refine va_get (D := D) (ci := 10) (v := .ref (h 13)) (C := RX10) (T := TX10) (N := 38) hx hb hts in_X10 hown hK hP 0 rfl rfl 13 (by decide) g_35 (fun _ h9 => h9) rfl dX10_takePage_126 ?_
        refine lv_iload_n hx hb dX10_takePage_129 rfl (lv_at hl 3 rfl) ?_
        refine lv_aload_n hx hb dX10_takePage_130 rfl (lv_at hl 1 rfl) ?_
        refine lv_iload_n hx hb dX10_takePage_131 rfl (lv_at hl 2 rfl) ?_
        refine lv_bipush (v := 54) hx hb dX10_takePage_132 (by decide) ?_
        refine lv_iadd hx hb dX10_takePage_134 ?_
        refine lv_iload_n hx hb dX10_takePage_135 rfl (lv_at hl 3 rfl) ?_
        refine lv_iadd hx hb dX10_takePage_136 ?_
        obtain ⟨c137, hf⟩ := gd hf
        refine va_iald hx hb hK hP 17 0 rfl rfl c137 dX10_takePage_137 ?_
        obtain ⟨c138, hf⟩ := gd hf
        refine va_iast hx hb hK hP hD hS 9 0 rfl rfl c138 dX10_takePage_138 (fun H locs hP hD hS => ?_)
        have hP : va_P D vwCl (w_M cs o h I (va_up (va_up (va_up (va_up Vm_77 10 (upd (Vm_77 10) x3_77.toNatClampNeg ((Vm_77 25) ((x2 + 18) + x3_77).toNatClampNeg))) 11 (upd (Vm_77 11) x3_77.toNatClampNeg ((Vm_77 25) ((x2 + 30) + x3_77).toNatClampNeg))) 12 (upd (Vm_77 12) x3_77.toNatClampNeg ((Vm_77 25) ((x2 + 42) + x3_77).toNatClampNeg))) 13 (upd (Vm_77 13) x3_77.toNatClampNeg ((Vm_77 25) ((x2 + 54) + x3_77).toNatClampNeg)))) H := hP
        have hD : va_D A (w_M cs o h I (va_up (va_up (va_up (va_up Vm_77 10 (upd (Vm_77 10) x3_77.toNatClampNeg ((Vm_77 25) ((x2 + 18) + x3_77).toNatClampNeg))) 11 (upd (Vm_77 11) x3_77.toNatClampNeg ((Vm_77 25) ((x2 + 30) + x3_77).toNatClampNeg))) 12 (upd (Vm_77 12) x3_77.toNatClampNeg ((Vm_77 25) ((x2 + 42) + x3_77).toNatClampNeg))) 13 (upd (Vm_77 13) x3_77.toNatClampNeg ((Vm_77 25) ((x2 + 54) + x3_77).toNatClampNeg)))) := hD
        refine lv_iinc (v := (x3_77 + 1)) (lv' := [(3, .int (x3_77 + 1)), (0, .ref o), (1, .ref (h 25)), (2, .int x2)]) hx hb dX10_takePage_139 hl (k := 3) rfl (by rfl) (by decide) rfl (fun ls hl => ?_)
        refine lv_goto (tgt := 77) hx hb dX10_takePage_142 (by decide) ?_
        exact ih_77 (x3_77 + 1) (va_up (va_up (va_up (va_up Vm_77 10 (upd (Vm_77 10) x3_77.toNatClampNeg ((Vm_77 25) ((x2 + 18) + x3_77).toNatClampNeg))) 11 (upd (Vm_77 11) x3_77.toNatClampNeg ((Vm_77 25) ((x2 + 30) + x3_77).toNatClampNeg))) 12 (upd (Vm_77 12) x3_77.toNatClampNeg ((Vm_77 25) ((x2 + 42) + x3_77).toNatClampNeg))) 13 (upd (Vm_77 13) x3_77.toNatClampNeg ((Vm_77 25) ((x2 + 54) + x3_77).toNatClampNeg))) hf _ _ hP hD hS _ (lv_sub hl [1, 2, 3, 0] rfl)
  refine L77 _ (fun Vm_77 hf H locs hP hD hS ls hl => ?_) f 0 Vm_2 hf _ _ hP hD hS _ (lv_sub hl [1, 2, 3, 0] rfl)
  refine lv_aload_n hx hb dX10_takePage_145 rfl (lv_at hl 0 rfl) ?_
  refine lv_aload_n hx hb dX10_takePage_146 rfl (lv_at hl 1 rfl) ?_
  refine lv_iload_n hx hb dX10_takePage_147 rfl (lv_at hl 2 rfl) ?_
  refine lv_bipush (v := 66) hx hb dX10_takePage_148 (by decide) ?_
  refine lv_iadd hx hb dX10_takePage_150 ?_
  obtain ⟨c151, hf⟩ := gd hf
  refine va_iald hx hb hK hP 17 0 rfl rfl c151 dX10_takePage_151 ?_
  refine va_put (D := D) (ci := 10) (v := .int ((Vm_77 25) (x2 + 66).toNatClampNeg)) (ty := .int) (C := RX10) (T := TX10) (N := 38) hx hb hts in_X10 tyX10 tyX10_ok nmX10 hown hK hP hD hS 0 rfl rfl 9 (by decide) g_135 (fun _ h9 => h9) rfl (by decide +kernel) rfl rfl (Nat.le_of_ble_eq_true rfl) dX10_takePage_152 (fun H locs hP hD hS => ?_)
  have hP : va_P D vwCl (w_M cs o h (va_up I 9 ((Vm_77 25) (x2 + 66).toNatClampNeg)) Vm_77) H := hP
  have hD : va_D A (w_M cs o h (va_up I 9 ((Vm_77 25) (x2 + 66).toNatClampNeg)) Vm_77) := hD
  refine lv_aload_n hx hb dX10_takePage_155 rfl (lv_at hl 0 rfl) ?_
  refine lv_aload_n hx hb dX10_takePage_156 rfl (lv_at hl 1 rfl) ?_
  refine lv_iload_n hx hb dX10_takePage_157 rfl (lv_at hl 2 rfl) ?_
  refine lv_bipush (v := 67) hx hb dX10_takePage_158 (by decide) ?_
  refine lv_iadd hx hb dX10_takePage_160 ?_
  obtain ⟨c161, hf⟩ := gd hf
  refine va_iald hx hb hK hP 17 0 rfl rfl c161 dX10_takePage_161 ?_
  refine va_put (D := D) (ci := 10) (v := .int ((Vm_77 25) (x2 + 67).toNatClampNeg)) (ty := .int) (C := RX10) (T := TX10) (N := 38) hx hb hts in_X10 tyX10 tyX10_ok nmX10 hown hK hP hD hS 0 rfl rfl 14 (by decide) g_138 (fun _ h9 => h9) rfl (by decide +kernel) rfl rfl (Nat.le_of_ble_eq_true rfl) dX10_takePage_162 (fun H locs hP hD hS => ?_)
  have hP : va_P D vwCl (w_M cs o h (va_up (va_up I 9 ((Vm_77 25) (x2 + 66).toNatClampNeg)) 14 ((Vm_77 25) (x2 + 67).toNatClampNeg)) Vm_77) H := hP
  have hD : va_D A (w_M cs o h (va_up (va_up I 9 ((Vm_77 25) (x2 + 66).toNatClampNeg)) 14 ((Vm_77 25) (x2 + 67).toNatClampNeg)) Vm_77) := hD
  exact hret (va_up (va_up I 9 ((Vm_77 25) (x2 + 66).toNatClampNeg)) 14 ((Vm_77 25) (x2 + 67).toNatClampNeg)) Vm_77 _ _ 165 _ hf hP hD hS dX10_takePage_165
def M_note_L11 {ρ : Type} (f : Nat) (k_11 : FV → Option ρ) : Nat → Int32 → FV → Option ρ
  | 0, _, _ => none
  | n_11 + 1, x1_11, Vm_11 => (if 666 ≤ x1_11 then (k_11 Vm_11) else if (x1_11 + 74) < 0 ∨ 740 ≤ (x1_11 + 74).toNatClampNeg then none else (if x1_11 < 0 ∨ 740 ≤ x1_11.toNatClampNeg then none else ((M_note_L11 f k_11 n_11 (x1_11 + 1) (va_up Vm_11 23 (upd (Vm_11 23) x1_11.toNatClampNeg ((Vm_11 23) (x1_11 + 74).toNatClampNeg)))))))
def M_note_L11 {ρ : Type} (f : Nat) (k_11 : FV → Option ρ) : Nat → Int32 → FV → Option ρ
  | 0, _, _ => none
  | n_11 + 1, x1_11, Vm_11 => (if 666 ≤ x1_11 then (k_11 Vm_11) else if (x1_11 + 74) < 0 ∨ 740 ≤ (x1_11 + 74).toNatClampNeg then none else (if x1_11 < 0 ∨ 740 ≤ x1_11.toNatClampNeg then none else ((M_note_L11 f k_11 n_11 (x1_11 + 1) (va_up Vm_11 23 (upd (Vm_11 23) x1_11.toNatClampNeg ((Vm_11 23) (x1_11 + 74).toNatClampNeg)))))))
def M_note (f : Nat) (I : FI) (V : FV) : Option (FI × FV) := (nm (fun (Im_49 : FI) (Vm_49 : FV) => ob2 (M_layPage_book f (74 * (Im_49 24)) Im_49 Vm_49) (fun I2 V3 => some ((va_up I2 24 ((I2 24) + 1)), V3))) (fun j49 => (if (I 24) = 10 then (M_note_L11 f (fun (Vm_11 : FV) => (j49 (va_up I 24 ((I 24) - 1)) Vm_11)) f 0 V) else (j49 I V))))
abbrev rm_M_note : Room := { frames := 1, cells := 0, slots := 0, locals := 23 }
set_option maxHeartbeats 4000000 in
set_option maxRecDepth 100000 in
theorem c_M_note (l : Launch) (D : va_G) (cs : Nat → ClassId) (o : Nat) (h : Nat → Nat) (sz : Nat) (I : FI) (V : FV) (f : Nat) (out : FI × FV) (hf : M_note f I V = some out) : Met l yX10_note wsX10_note rm_M_note (va_Pc [.ref o] (xP D cs (w_M cs o h I V) sz)) (va_Qv (fun u => u = out) (fun (u : FI × FV) t => xA D cs (va_A (w_M cs o h I V) sz) (w_M cs o h u.1 u.2) t) (va_A (w_M cs o h I V) sz)) 0 0 (va_A (w_M cs o h I V) sz) := by
  refine Met.ofW (cc := cX10_note) (maxL := 2) (ret := none) (by decide) rfl ?_
  intro p e s m args below meth c s₁ B hml hv
  obtain ⟨ha, hsz, hP, hK, hD0⟩ := hv
  have hx := B.exec
  have hb := B.bytes
  have hr := B.returns
  have hts := atoms_spec (ws := wsX10_note) B.pre
  have hown : s.vm.findClass RX10 = some m.cls := findClass_of_methodNamed B.named
  have hlocks := B.notSynchronized
  have in_X10 : ∀ w ∈ u_ws RX10 TX10 38, w ∈ wsX10_note := fun w h => List.mem_cons_of_mem _ (List.mem_append_right _ h)
  have g_141 := hts (.fieldLink RX10 141 "DaysLentModel" "acts" "I") (by decide +kernel)
  have g_56 := hts (.fieldLink RX10 56 "DaysLentModel" "book" "[I") (by decide +kernel)
  have w_layPage_164 := cwV (R := rm_M_note) (s := s) (args := args) (rm := rm_M_layPage_book) (mc := 0) (ms := 0) 2 hts gX10_note_X10_layPage rfl rfl rfl (by decide +kernel) ⟨Nat.le_of_ble_eq_true rfl, Nat.le_of_ble_eq_true rfl⟩
  subst hsz
  have hD := hD0.self (sz := s.heap.size)
  generalize hAe : va_A (w_M cs o h I V) s.heap.size = A at hD ⊢
  have hA : ∀ q : Nat, s.heap.size ≤ q → A q := fun q h => by rw [← hAe]; exact Or.inr h
  have hS : va_S A s.heap s.heap [] := va_S.rf
  have hl := lv_entry ([.ref o]) (n := 2) (Nat.le_of_ble_eq_true rfl)
  rw [show entryFrame m args 2 = entryFrame m ([.ref o] : List Value).toArray 2 from by rw [ha], lg_entry_eq]
  generalize (lg_sl ([.ref o]) ++ List.replicate (2 - (lg_sl ([.ref o])).length) Slot.unset).toArray = ls at hl ⊢
  have hl : lv_has ls 2 [(0, .ref o)] := hl
  generalize hQ : MQ below (va_Qv (fun u => u = out) (fun (u : FI × FV) t => xA D cs A (w_M cs o h u.1 u.2) t) A) args s 0 0 A = Q
  show W p l e rm_M_note s m args below meth c s.heap [] 0 0 Q (F0 m 0 ls [])
  have hret : ∀ (Im9 : FI) (Vm9 : FV) (H : Heap) (locs : List Loc) (pc : Nat) (ls : Array Slot), some (Im9, Vm9) = some out → va_P D vwCl (w_M cs o h Im9 Vm9) H → va_D A (w_M cs o h Im9 Vm9) → va_S A s.heap H locs → decode cX10_note pc = .ok (.return_, 1) → W p l e rm_M_note s m args below meth c H locs 0 0 Q (F0 m pc ls []) := by
    intro Im9 Vm9 H locs pc ls hf hP hD hS hd
    rw [← hQ]
    exact W.vret hx hb hr (fun t ht hW => ⟨⟨(Im9, Vm9), rfl, Option.some.inj hf, by show va_P D vwCl (w_M cs o h Im9 Vm9) t.heap; rw [ht]; exact hP, va_K.moved hW.alike hK, hD⟩, hS.F ht⟩) hS.2.2 hd
  unfold M_note at hf
  refine lv_aload_n hx hb dX10_note_0 rfl (lv_at hl 0 rfl) ?_
  refine va_get (D := D) (ci := 10) (v := .int (I 24)) (C := RX10) (T := TX10) (N := 38) hx hb hts in_X10 hown hK hP 0 rfl rfl 24 (by decide) g_141 (fun _ h9 => h9) rfl dX10_note_1 ?_
  refine lv_bipush (v := 10) hx hb dX10_note_4 (by decide) ?_
  obtain ⟨j49, ej49, hf⟩ := nme hf
  have J49 : ∀ (Im_49 : FI) (Vm_49 : FV), j49 Im_49 Vm_49 = some out → ∀ (H : Heap) (locs : List Loc), va_P D vwCl (w_M cs o h Im_49 Vm_49) H → va_D A (w_M cs o h Im_49 Vm_49) → va_S A s.heap H locs → ∀ ls : Array Slot, lv_has ls 2 [(0, .ref o)] → W p l e rm_M_note s m args below meth c H locs 0 0 Q (F0 m 49 ls []) := by
    intro Im_49 Vm_49 hf H locs hP hD hS ls hl
    rw [ej49] at hf
    refine lv_aload_n hx hb dX10_note_49 rfl (lv_at hl 0 rfl) ?_
    refine lv_aload_n hx hb dX10_note_50 rfl (lv_at hl 0 rfl) ?_
    refine va_get (D := D) (ci := 10) (v := .ref (h 23)) (C := RX10) (T := TX10) (N := 38) hx hb hts in_X10 hown hK hP 0 rfl rfl 23 (by decide) g_56 (fun _ h9 => h9) rfl dX10_note_51 ?_
    refine lv_bipush (v := 74) hx hb dX10_note_54 (by decide) ?_
    refine lv_aload_n hx hb dX10_note_56 rfl (lv_at hl 0 rfl) ?_
    refine va_get (D := D) (ci := 10) (v := .int (Im_49 24)) (C := RX10) (T := TX10) (N := 38) hx hb hts in_X10 hown hK hP 0 rfl rfl 24 (by decide) g_141 (fun _ h9 => h9) rfl dX10_note_57 ?_
    refine lv_imul hx hb dX10_note_60 ?_
    obtain ⟨I2, V3, qr1, hf⟩ := bd2 hf
    have hFc := xfree hD hS hA
    refine va_callv (va_runV (As := [.ref (h 23), .int (74 * (Im_49 24))]) (rest := []) ⟨hx, hb, hml, hown, hts⟩ (c_M_layPage_book l D cs o h _ Im_49 Vm_49 (74 * (Im_49 24)) f _ qr1) w_layPage_164 ⟨xP_moved, va_recv hK hP (ci := 10) (q0 := 0) rfl rfl, fun U hU hW => ⟨rfl, by rw [hU], by rw [hU]; exact hP, va_K.moved hW.alike hK, hD.weaken (fun _ _ _ _ => trivial)⟩⟩ rfl rfl hl.1 rfl (lv_room (Nat.le_of_ble_eq_true rfl)) dX10_note_61 ⟨Nat.zero_le _, Nat.zero_le _⟩) hS (fun q _ h9 => hFc q h9) hFc (fun u t H1 locs ht hvm hw hB hz1 hk1 hS => ?_)
    rw [hw] at hB
    obtain ⟨hP1, hK1, hD1⟩ := hB
    have hP : va_P D vwCl (w_M cs o h I2 V3) H1 := by rw [← ht]; exact hP1
    have hD : va_D A (w_M cs o h I2 V3) := hD1.weaken (fun _ q _ h9 => hFc q.1 h9)
    refine lv_aload_n hx hb dX10_note_64 rfl (lv_at hl 0 rfl) ?_
    refine lv_dup hx hb dX10_note_65 rfl ?_
    refine va_get (D := D) (ci := 10) (v := .int (I2 24)) (C := RX10) (T := TX10) (N := 38) hx hb hts in_X10 hown hK hP 0 rfl rfl 24 (by decide) g_141 (fun _ h9 => h9) rfl dX10_note_66 ?_
    refine lv_iconst (v := 1) hx hb dX10_note_69 (by decide) ?_
    refine lv_iadd hx hb dX10_note_70 ?_
    refine va_put (D := D) (ci := 10) (v := .int ((I2 24) + 1)) (ty := .int) (C := RX10) (T := TX10) (N := 38) hx hb hts in_X10 tyX10 tyX10_ok nmX10 hown hK hP hD hS 0 rfl rfl 24 (by decide) g_141 (fun _ h9 => h9) rfl (by decide +kernel) rfl rfl (Nat.le_of_ble_eq_true rfl) dX10_note_71 (fun H locs hP hD hS => ?_)
    have hP : va_P D vwCl (w_M cs o h (va_up I2 24 ((I2 24) + 1)) V3) H := hP
    have hD : va_D A (w_M cs o h (va_up I2 24 ((I2 24) + 1)) V3) := hD
    exact hret (va_up I2 24 ((I2 24) + 1)) V3 _ _ 74 _ hf hP hD hS dX10_note_74
  refine lv_icmp_ne (tgt := 49) hx hb dX10_note_6 (by decide) (fun c6 => ?_) (fun c6 => ?_)
  · replace hf := im c6 hf
    exact J49 I V hf _ _ hP hD hS _ (lv_sub hl [0] rfl)
  · replace hf := ip c6 hf
    refine lv_iconst (v := 0) hx hb dX10_note_9 (by decide) ?_
    refine lv_istore_n (lv' := [(1, .int 0), (0, .ref o)]) hx hb dX10_note_10 rfl hl (by decide) rfl (fun ls hl => ?_)
    have L11 : ∀ (k_11 : FV → Option (FI × FV)) (hk_11 : ∀ (Vm_11 : FV), k_11 Vm_11 = some out → ∀ (H : Heap) (locs : List Loc), va_P D vwCl (w_M cs o h I Vm_11) H → va_D A (w_M cs o h I Vm_11) → va_S A s.heap H locs → ∀ ls : Array Slot, lv_has ls 2 [(0, .ref o)] → W p l e rm_M_note s m args below meth c H locs 0 0 Q (F0 m 39 ls [])), ∀ (n_11 : Nat) (x1_11 : Int32) (Vm_11 : FV), M_note_L11 f k_11 n_11 x1_11 Vm_11 = some out → ∀ (H : Heap) (locs : List Loc), va_P D vwCl (w_M cs o h I Vm_11) H → va_D A (w_M cs o h I Vm_11) → va_S A s.heap H locs → ∀ ls : Array Slot, lv_has ls 2 [(0, .ref o), (1, .int x1_11)] → W p l e rm_M_note s m args below meth c H locs 0 0 Q (F0 m 11 ls []) := by
      intro k_11 hk_11 n_11
      induction n_11 with
      | zero => intro x1_11 Vm_11 hf; rw [M_note_L11] at hf; cases hf
      | succ n_11 ih_11 =>
        intro x1_11 Vm_11 hf H locs hP hD hS ls hl
        rw [M_note_L11] at hf
        refine lv_iload_n hx hb dX10_note_11 rfl (lv_at hl 1 rfl) ?_
        refine lv_sipush (v := 666) hx hb dX10_note_12 (by decide) ?_
        refine lv_icmp_ge (tgt := 39) hx hb dX10_note_15 (by decide) (fun c15 => ?_) (fun c15 => ?_)
        · replace hf := ip c15 hf
          exact hk_11 Vm_11 hf _ _ hP hD hS _ (lv_sub hl [0] rfl)
        · replace hf := im c15 hf
          refine lv_aload_n hx hb dX10_note_18 rfl (lv_at hl 0 rfl) ?_
          refine va_get (D := D) (ci := 10) (v := .ref (h 23)) (C := RX10) (T := TX10) (N := 38) hx hb hts in_X10 hown hK hP 0 rfl rfl 23 (by decide) g_56 (fun _ h9 => h9) rfl dX10_note_19 ?_
          refine lv_iload_n hx hb dX10_note_22 rfl (lv_at hl 1 rfl) ?_
          refine lv_aload_n hx hb dX10_note_23 rfl (lv_at hl 0 rfl) ?_
          refine va_get (D := D) (ci := 10) (v := .ref (h 23)) (C := RX10) (T := TX10) (N := 38) hx hb hts in_X10 hown hK hP 0 rfl rfl 23 (by decide) g_56 (fun _ h9 => h9) rfl dX10_note_24 ?_
          refine lv_iload_n hx hb dX10_note_27 rfl (lv_at hl 1 rfl) ?_
          refine lv_bipush (v := 74) hx hb dX10_note_28 (by decide) ?_
          refine lv_iadd hx hb dX10_note_30 ?_
          obtain ⟨c31, hf⟩ := gd hf
          refine va_iald hx hb hK hP 16 0 rfl rfl c31 dX10_note_31 ?_
          obtain ⟨c32, hf⟩ := gd hf
          refine va_iast hx hb hK hP hD hS 16 0 rfl rfl c32 dX10_note_32 (fun H locs hP hD hS => ?_)
          have hP : va_P D vwCl (w_M cs o h I (va_up Vm_11 23 (upd (Vm_11 23) x1_11.toNatClampNeg ((Vm_11 23) (x1_11 + 74).toNatClampNeg)))) H := hP
          have hD : va_D A (w_M cs o h I (va_up Vm_11 23 (upd (Vm_11 23) x1_11.toNatClampNeg ((Vm_11 23) (x1_11 + 74).toNatClampNeg)))) := hD
          refine lv_iinc (v := (x1_11 + 1)) (lv' := [(1, .int (x1_11 + 1)), (0, .ref o)]) hx hb dX10_note_33 hl (k := 1) rfl (by rfl) (by decide) rfl (fun ls hl => ?_)
          refine lv_goto (tgt := 11) hx hb dX10_note_36 (by decide) ?_
          exact ih_11 (x1_11 + 1) (va_up Vm_11 23 (upd (Vm_11 23) x1_11.toNatClampNeg ((Vm_11 23) (x1_11 + 74).toNatClampNeg))) hf _ _ hP hD hS _ (lv_sub hl [1, 0] rfl)
    refine L11 _ (fun Vm_11 hf H locs hP hD hS ls hl => ?_) f 0 V hf _ _ hP hD hS _ (lv_sub hl [1, 0] rfl)
    refine lv_aload_n hx hb dX10_note_39 rfl (lv_at hl 0 rfl) ?_
    refine lv_dup hx hb dX10_note_40 rfl ?_
    refine va_get (D := D) (ci := 10) (v := .int (I 24)) (C := RX10) (T := TX10) (N := 38) hx hb hts in_X10 hown hK hP 0 rfl rfl 24 (by decide) g_141 (fun _ h9 => h9) rfl dX10_note_41 ?_
    refine lv_iconst (v := 1) hx hb dX10_note_44 (by decide) ?_
    refine lv_isub hx hb dX10_note_45 ?_
    refine va_put (D := D) (ci := 10) (v := .int ((I 24) - 1)) (ty := .int) (C := RX10) (T := TX10) (N := 38) hx hb hts in_X10 tyX10 tyX10_ok nmX10 hown hK hP hD hS 0 rfl rfl 24 (by decide) g_141 (fun _ h9 => h9) rfl (by decide +kernel) rfl rfl (Nat.le_of_ble_eq_true rfl) dX10_note_46 (fun H locs hP hD hS => ?_)
    have hP : va_P D vwCl (w_M cs o h (va_up I 24 ((I 24) - 1)) Vm_11) H := hP
    have hD : va_D A (w_M cs o h (va_up I 24 ((I 24) - 1)) Vm_11) := hD
    exact J49 (va_up I 24 ((I 24) - 1)) Vm_11 hf _ _ hP hD hS _ (lv_sub hl [0] rfl)
def M_drop_L12 {ρ : Type} (f : Nat) (I1 : FI) (k_12 : FV → Option ρ) : Nat → Int32 → FV → Option ρ
  | 0, _, _ => none
  | n_12 + 1, x2_12, Vm_12 => (if (I1 9) ≤ x2_12 then (k_12 Vm_12) else if (x2_12 + 1) < 0 ∨ 12 ≤ (x2_12 + 1).toNatClampNeg then none else (if x2_12 < 0 ∨ 12 ≤ x2_12.toNatClampNeg then none else (if (x2_12 + 1) < 0 ∨ 12 ≤ (x2_12 + 1).toNatClampNeg then none else (if x2_12 < 0 ∨ 12 ≤ x2_12.toNatClampNeg then none else (if (x2_12 + 1) < 0 ∨ 12 ≤ (x2_12 + 1).toNatClampNeg then none else (if x2_12 < 0 ∨ 12 ≤ x2_12.toNatClampNeg then none else (if (x2_12 + 1) < 0 ∨ 12 ≤ (x2_12 + 1).toNatClampNeg then none else (if x2_12 < 0 ∨ 12 ≤ x2_12.toNatClampNeg then none else ((M_drop_L12 f I1 k_12 n_12 (x2_12 + 1) (va_up (va_up (va_up (va_up Vm_12 10 (upd (Vm_12 10) x2_12.toNatClampNeg ((Vm_12 10) (x2_12 + 1).toNatClampNeg))) 11 (upd (Vm_12 11) x2_12.toNatClampNeg ((Vm_12 11) (x2_12 + 1).toNatClampNeg))) 12 (upd (Vm_12 12) x2_12.toNatClampNeg ((Vm_12 12) (x2_12 + 1).toNatClampNeg))) 13 (upd (Vm_12 13) x2_12.toNatClampNeg ((Vm_12 13) (x2_12 + 1).toNatClampNeg)))))))))))))
def M_drop (f : Nat) (x1 : Int32) (I : FI) (V : FV) : Option (FI × FV) := nm (va_up I 9 ((I 9) - 1)) (fun I1 => (M_drop_L12 f I1 (fun (Vm_12 : FV) => some (I1, Vm_12)) f x1 V))
abbrev rm_M_drop : Room := { frames := 0, cells := 0, slots := 0, locals := 0 }
set_option maxHeartbeats 4000000 in
set_option maxRecDepth 100000 in
theorem c_M_drop (l : Launch) (D : va_G) (cs : Nat → ClassId) (o : Nat) (h : Nat → Nat) (sz : Nat) (I : FI) (V : FV) (x1 : Int32) (f : Nat) (out : FI × FV) (hf : M_drop f x1 I V = some out) : Met l yX10_drop wsX10_drop rm_M_drop (va_Pc [.ref o, .int x1] (xP D cs (w_M cs o h I V) sz)) (va_Qv (fun u => u = out) (fun (u : FI × FV) t => xA D cs (va_A (w_M cs o h I V) sz) (w_M cs o h u.1 u.2) t) (va_A (w_M cs o h I V) sz)) 0 0 (va_A (w_M cs o h I V) sz) := by
  refine Met.ofW (cc := cX10_drop) (maxL := 3) (ret := none) (by decide) rfl ?_
  intro p e s m args below meth c s₁ B hml hv
  obtain ⟨ha, hsz, hP, hK, hD0⟩ := hv
  have hx := B.exec
  have hb := B.bytes
  have hr := B.returns
  have hts := atoms_spec (ws := wsX10_drop) B.pre
  have hown : s.vm.findClass RX10 = some m.cls := findClass_of_methodNamed B.named
  have hlocks := B.notSynchronized
  have in_X10 : ∀ w ∈ u_ws RX10 TX10 38, w ∈ wsX10_drop := fun w h => List.mem_cons_of_mem _ (List.mem_append_right _ h)
  have g_135 := hts (.fieldLink RX10 135 "DaysLentModel" "debts" "I") (by decide +kernel)
  have g_26 := hts (.fieldLink RX10 26 "DaysLentModel" "owed" "[I") (by decide +kernel)
  have g_29 := hts (.fieldLink RX10 29 "DaysLentModel" "owes" "[I") (by decide +kernel)
  have g_32 := hts (.fieldLink RX10 32 "DaysLentModel" "much" "[I") (by decide +kernel)
  have g_35 := hts (.fieldLink RX10 35 "DaysLentModel" "due" "[I") (by decide +kernel)
  subst hsz
  have hD := hD0.self (sz := s.heap.size)
  generalize hAe : va_A (w_M cs o h I V) s.heap.size = A at hD ⊢
  have hA : ∀ q : Nat, s.heap.size ≤ q → A q := fun q h => by rw [← hAe]; exact Or.inr h
  have hS : va_S A s.heap s.heap [] := va_S.rf
  have hl := lv_entry ([.ref o, .int x1]) (n := 3) (Nat.le_of_ble_eq_true rfl)
  rw [show entryFrame m args 3 = entryFrame m ([.ref o, .int x1] : List Value).toArray 3 from by rw [ha], lg_entry_eq]
  generalize (lg_sl ([.ref o, .int x1]) ++ List.replicate (3 - (lg_sl ([.ref o, .int x1])).length) Slot.unset).toArray = ls at hl ⊢
  have hl : lv_has ls 3 [(0, .ref o), (1, .int x1)] := hl
  generalize hQ : MQ below (va_Qv (fun u => u = out) (fun (u : FI × FV) t => xA D cs A (w_M cs o h u.1 u.2) t) A) args s 0 0 A = Q
  show W p l e rm_M_drop s m args below meth c s.heap [] 0 0 Q (F0 m 0 ls [])
  have hret : ∀ (Im9 : FI) (Vm9 : FV) (H : Heap) (locs : List Loc) (pc : Nat) (ls : Array Slot), some (Im9, Vm9) = some out → va_P D vwCl (w_M cs o h Im9 Vm9) H → va_D A (w_M cs o h Im9 Vm9) → va_S A s.heap H locs → decode cX10_drop pc = .ok (.return_, 1) → W p l e rm_M_drop s m args below meth c H locs 0 0 Q (F0 m pc ls []) := by
    intro Im9 Vm9 H locs pc ls hf hP hD hS hd
    rw [← hQ]
    exact W.vret hx hb hr (fun t ht hW => ⟨⟨(Im9, Vm9), rfl, Option.some.inj hf, by show va_P D vwCl (w_M cs o h Im9 Vm9) t.heap; rw [ht]; exact hP, va_K.moved hW.alike hK, hD⟩, hS.F ht⟩) hS.2.2 hd
  unfold M_drop at hf
  refine lv_aload_n hx hb dX10_drop_0 rfl (lv_at hl 0 rfl) ?_
  refine lv_dup hx hb dX10_drop_1 rfl ?_
  refine va_get (D := D) (ci := 10) (v := .int (I 9)) (C := RX10) (T := TX10) (N := 38) hx hb hts in_X10 hown hK hP 0 rfl rfl 9 (by decide) g_135 (fun _ h9 => h9) rfl dX10_drop_2 ?_
  refine lv_iconst (v := 1) hx hb dX10_drop_5 (by decide) ?_
  refine lv_isub hx hb dX10_drop_6 ?_
  refine va_put (D := D) (ci := 10) (v := .int ((I 9) - 1)) (ty := .int) (C := RX10) (T := TX10) (N := 38) hx hb hts in_X10 tyX10 tyX10_ok nmX10 hown hK hP hD hS 0 rfl rfl 9 (by decide) g_135 (fun _ h9 => h9) rfl (by decide +kernel) rfl rfl (Nat.le_of_ble_eq_true rfl) dX10_drop_7 (fun H locs hP hD hS => ?_)
  have hP : va_P D vwCl (w_M cs o h (va_up I 9 ((I 9) - 1)) V) H := hP
  have hD : va_D A (w_M cs o h (va_up I 9 ((I 9) - 1)) V) := hD
  refine lv_iload_n hx hb dX10_drop_10 rfl (lv_at hl 1 rfl) ?_
  refine lv_istore_n (lv' := [(2, .int x1), (0, .ref o), (1, .int x1)]) hx hb dX10_drop_11 rfl hl (by decide) rfl (fun ls hl => ?_)
  obtain ⟨I1, eI1, hf⟩ := nme hf
  rw [← eI1] at hP hD
  have L12 : ∀ (k_12 : FV → Option (FI × FV)) (hk_12 : ∀ (Vm_12 : FV), k_12 Vm_12 = some out → ∀ (H : Heap) (locs : List Loc), va_P D vwCl (w_M cs o h I1 Vm_12) H → va_D A (w_M cs o h I1 Vm_12) → va_S A s.heap H locs → ∀ ls : Array Slot, lv_has ls 3 [] → W p l e rm_M_drop s m args below meth c H locs 0 0 Q (F0 m 82 ls [])), ∀ (n_12 : Nat) (x2_12 : Int32) (Vm_12 : FV), M_drop_L12 f I1 k_12 n_12 x2_12 Vm_12 = some out → ∀ (H : Heap) (locs : List Loc), va_P D vwCl (w_M cs o h I1 Vm_12) H → va_D A (w_M cs o h I1 Vm_12) → va_S A s.heap H locs → ∀ ls : Array Slot, lv_has ls 3 [(0, .ref o), (2, .int x2_12)] → W p l e rm_M_drop s m args below meth c H locs 0 0 Q (F0 m 12 ls []) := by
    intro k_12 hk_12 n_12
    induction n_12 with
    | zero => intro x2_12 Vm_12 hf; rw [M_drop_L12] at hf; cases hf
    | succ n_12 ih_12 =>
      intro x2_12 Vm_12 hf H locs hP hD hS ls hl
      rw [M_drop_L12] at hf
      refine lv_iload_n hx hb dX10_drop_12 rfl (lv_at hl 1 rfl) ?_
      refine lv_aload_n hx hb dX10_drop_13 rfl (lv_at hl 0 rfl) ?_
      refine va_get (D := D) (ci := 10) (v := .int (I1 9)) (C := RX10) (T := TX10) (N := 38) hx hb hts in_X10 hown hK hP 0 rfl rfl 9 (by decide) g_135 (fun _ h9 => h9) rfl dX10_drop_14 ?_
      refine lv_icmp_ge (tgt := 82) hx hb dX10_drop_17 (by decide) (fun c17 => ?_) (fun c17 => ?_)
      · replace hf := ip c17 hf
        exact hk_12 Vm_12 hf _ _ hP hD hS _ (lv_sub hl [] rfl)
      · replace hf := im c17 hf
        refine lv_aload_n hx hb dX10_drop_20 rfl (lv_at hl 0 rfl) ?_
        refine va_get (D := D) (ci := 10) (v := .ref (h 10)) (C := RX10) (T := TX10) (N := 38) hx hb hts in_X10 hown hK hP 0 rfl rfl 10 (by decide) g_26 (fun _ h9 => h9) rfl dX10_drop_21 ?_
        refine lv_iload_n hx hb dX10_drop_24 rfl (lv_at hl 1 rfl) ?_
        refine lv_aload_n hx hb dX10_drop_25 rfl (lv_at hl 0 rfl) ?_
        refine va_get (D := D) (ci := 10) (v := .ref (h 10)) (C := RX10) (T := TX10) (N := 38) hx hb hts in_X10 hown hK hP 0 rfl rfl 10 (by decide) g_26 (fun _ h9 => h9) rfl dX10_drop_26 ?_
        refine lv_iload_n hx hb dX10_drop_29 rfl (lv_at hl 1 rfl) ?_
        refine lv_iconst (v := 1) hx hb dX10_drop_30 (by decide) ?_
        refine lv_iadd hx hb dX10_drop_31 ?_
        obtain ⟨c32, hf⟩ := gd hf
        refine va_iald hx hb hK hP 6 0 rfl rfl c32 dX10_drop_32 ?_
        obtain ⟨c33, hf⟩ := gd hf
        refine va_iast hx hb hK hP hD hS 6 0 rfl rfl c33 dX10_drop_33 (fun H locs hP hD hS => ?_)
        have hP : va_P D vwCl (w_M cs o h I1 (va_up Vm_12 10 (upd (Vm_12 10) x2_12.toNatClampNeg ((Vm_12 10) (x2_12 + 1).toNatClampNeg)))) H := hP
        have hD : va_D A (w_M cs o h I1 (va_up Vm_12 10 (upd (Vm_12 10) x2_12.toNatClampNeg ((Vm_12 10) (x2_12 + 1).toNatClampNeg)))) := hD
        refine lv_aload_n hx hb dX10_drop_34 rfl (lv_at hl 0 rfl) ?_
        refine va_get (D := D) (ci := 10) (v := .ref (h 11)) (C := RX10) (T := TX10) (N := 38) hx hb hts in_X10 hown hK hP 0 rfl rfl 11 (by decide) g_29 (fun _ h9 => h9) rfl dX10_drop_35 ?_
        refine lv_iload_n hx hb dX10_drop_38 rfl (lv_at hl 1 rfl) ?_
        refine lv_aload_n hx hb dX10_drop_39 rfl (lv_at hl 0 rfl) ?_
        refine va_get (D := D) (ci := 10) (v := .ref (h 11)) (C := RX10) (T := TX10) (N := 38) hx hb hts in_X10 hown hK hP 0 rfl rfl 11 (by decide) g_29 (fun _ h9 => h9) rfl dX10_drop_40 ?_
        refine lv_iload_n hx hb dX10_drop_43 rfl (lv_at hl 1 rfl) ?_
        refine lv_iconst (v := 1) hx hb dX10_drop_44 (by decide) ?_
        refine lv_iadd hx hb dX10_drop_45 ?_
        obtain ⟨c46, hf⟩ := gd hf
        refine va_iald hx hb hK hP 7 0 rfl rfl c46 dX10_drop_46 ?_
        obtain ⟨c47, hf⟩ := gd hf
        refine va_iast hx hb hK hP hD hS 7 0 rfl rfl c47 dX10_drop_47 (fun H locs hP hD hS => ?_)
        have hP : va_P D vwCl (w_M cs o h I1 (va_up (va_up Vm_12 10 (upd (Vm_12 10) x2_12.toNatClampNeg ((Vm_12 10) (x2_12 + 1).toNatClampNeg))) 11 (upd (Vm_12 11) x2_12.toNatClampNeg ((Vm_12 11) (x2_12 + 1).toNatClampNeg)))) H := hP
        have hD : va_D A (w_M cs o h I1 (va_up (va_up Vm_12 10 (upd (Vm_12 10) x2_12.toNatClampNeg ((Vm_12 10) (x2_12 + 1).toNatClampNeg))) 11 (upd (Vm_12 11) x2_12.toNatClampNeg ((Vm_12 11) (x2_12 + 1).toNatClampNeg)))) := hD
        refine lv_aload_n hx hb dX10_drop_48 rfl (lv_at hl 0 rfl) ?_
        refine va_get (D := D) (ci := 10) (v := .ref (h 12)) (C := RX10) (T := TX10) (N := 38) hx hb hts in_X10 hown hK hP 0 rfl rfl 12 (by decide) g_32 (fun _ h9 => h9) rfl dX10_drop_49 ?_
        refine lv_iload_n hx hb dX10_drop_52 rfl (lv_at hl 1 rfl) ?_
        refine lv_aload_n hx hb dX10_drop_53 rfl (lv_at hl 0 rfl) ?_
        refine va_get (D := D) (ci := 10) (v := .ref (h 12)) (C := RX10) (T := TX10) (N := 38) hx hb hts in_X10 hown hK hP 0 rfl rfl 12 (by decide) g_32 (fun _ h9 => h9) rfl dX10_drop_54 ?_
        refine lv_iload_n hx hb dX10_drop_57 rfl (lv_at hl 1 rfl) ?_
        refine lv_iconst (v := 1) hx hb dX10_drop_58 (by decide) ?_
        refine lv_iadd hx hb dX10_drop_59 ?_
        obtain ⟨c60, hf⟩ := gd hf
        refine va_iald hx hb hK hP 8 0 rfl rfl c60 dX10_drop_60 ?_
        obtain ⟨c61, hf⟩ := gd hf
        refine va_iast hx hb hK hP hD hS 8 0 rfl rfl c61 dX10_drop_61 (fun H locs hP hD hS => ?_)
        have hP : va_P D vwCl (w_M cs o h I1 (va_up (va_up (va_up Vm_12 10 (upd (Vm_12 10) x2_12.toNatClampNeg ((Vm_12 10) (x2_12 + 1).toNatClampNeg))) 11 (upd (Vm_12 11) x2_12.toNatClampNeg ((Vm_12 11) (x2_12 + 1).toNatClampNeg))) 12 (upd (Vm_12 12) x2_12.toNatClampNeg ((Vm_12 12) (x2_12 + 1).toNatClampNeg)))) H := hP
        have hD : va_D A (w_M cs o h I1 (va_up (va_up (va_up Vm_12 10 (upd (Vm_12 10) x2_12.toNatClampNeg ((Vm_12 10) (x2_12 + 1).toNatClampNeg))) 11 (upd (Vm_12 11) x2_12.toNatClampNeg ((Vm_12 11) (x2_12 + 1).toNatClampNeg))) 12 (upd (Vm_12 12) x2_12.toNatClampNeg ((Vm_12 12) (x2_12 + 1).toNatClampNeg)))) := hD
        refine lv_aload_n hx hb dX10_drop_62 rfl (lv_at hl 0 rfl) ?_
        refine va_get (D := D) (ci := 10) (v := .ref (h 13)) (C := RX10) (T := TX10) (N := 38) hx hb hts in_X10 hown hK hP 0 rfl rfl 13 (by decide) g_35 (fun _ h9 => h9) rfl dX10_drop_63 ?_
        refine lv_iload_n hx hb dX10_drop_66 rfl (lv_at hl 1 rfl) ?_
        refine lv_aload_n hx hb dX10_drop_67 rfl (lv_at hl 0 rfl) ?_
        refine va_get (D := D) (ci := 10) (v := .ref (h 13)) (C := RX10) (T := TX10) (N := 38) hx hb hts in_X10 hown hK hP 0 rfl rfl 13 (by decide) g_35 (fun _ h9 => h9) rfl dX10_drop_68 ?_
        refine lv_iload_n hx hb dX10_drop_71 rfl (lv_at hl 1 rfl) ?_
        refine lv_iconst (v := 1) hx hb dX10_drop_72 (by decide) ?_
        refine lv_iadd hx hb dX10_drop_73 ?_
        obtain ⟨c74, hf⟩ := gd hf
        refine va_iald hx hb hK hP 9 0 rfl rfl c74 dX10_drop_74 ?_
        obtain ⟨c75, hf⟩ := gd hf
        refine va_iast hx hb hK hP hD hS 9 0 rfl rfl c75 dX10_drop_75 (fun H locs hP hD hS => ?_)
        have hP : va_P D vwCl (w_M cs o h I1 (va_up (va_up (va_up (va_up Vm_12 10 (upd (Vm_12 10) x2_12.toNatClampNeg ((Vm_12 10) (x2_12 + 1).toNatClampNeg))) 11 (upd (Vm_12 11) x2_12.toNatClampNeg ((Vm_12 11) (x2_12 + 1).toNatClampNeg))) 12 (upd (Vm_12 12) x2_12.toNatClampNeg ((Vm_12 12) (x2_12 + 1).toNatClampNeg))) 13 (upd (Vm_12 13) x2_12.toNatClampNeg ((Vm_12 13) (x2_12 + 1).toNatClampNeg)))) H := hP
        have hD : va_D A (w_M cs o h I1 (va_up (va_up (va_up (va_up Vm_12 10 (upd (Vm_12 10) x2_12.toNatClampNeg ((Vm_12 10) (x2_12 + 1).toNatClampNeg))) 11 (upd (Vm_12 11) x2_12.toNatClampNeg ((Vm_12 11) (x2_12 + 1).toNatClampNeg))) 12 (upd (Vm_12 12) x2_12.toNatClampNeg ((Vm_12 12) (x2_12 + 1).toNatClampNeg))) 13 (upd (Vm_12 13) x2_12.toNatClampNeg ((Vm_12 13) (x2_12 + 1).toNatClampNeg)))) := hD
        refine lv_iinc (v := (x2_12 + 1)) (lv' := [(2, .int (x2_12 + 1)), (0, .ref o)]) hx hb dX10_drop_76 hl (k := 1) rfl (by rfl) (by decide) rfl (fun ls hl => ?_)
        refine lv_goto (tgt := 12) hx hb dX10_drop_79 (by decide) ?_
        exact ih_12 (x2_12 + 1) (va_up (va_up (va_up (va_up Vm_12 10 (upd (Vm_12 10) x2_12.toNatClampNeg ((Vm_12 10) (x2_12 + 1).toNatClampNeg))) 11 (upd (Vm_12 11) x2_12.toNatClampNeg ((Vm_12 11) (x2_12 + 1).toNatClampNeg))) 12 (upd (Vm_12 12) x2_12.toNatClampNeg ((Vm_12 12) (x2_12 + 1).toNatClampNeg))) 13 (upd (Vm_12 13) x2_12.toNatClampNeg ((Vm_12 13) (x2_12 + 1).toNatClampNeg))) hf _ _ hP hD hS _ (lv_sub hl [1, 0] rfl)
  refine L12 _ (fun Vm_12 hf H locs hP hD hS ls hl => ?_) f x1 V hf _ _ hP hD hS _ (lv_sub hl [1, 0] rfl)
  exact hret I1 Vm_12 _ _ 82 _ hf hP hD hS dX10_drop_82
def M_priceOf (f : Nat) (x1 : Int32) (x2 : Int32) (I : FI) (V : FV) : Option (Int32) := if x1 < 0 ∨ 6 ≤ x1.toNatClampNeg then none else (some (((V 6) x1.toNatClampNeg) * ((x2 + 1) / 2)))
abbrev rm_M_priceOf : Room := { frames := 0, cells := 0, slots := 0, locals := 0 }
set_option maxHeartbeats 4000000 in
set_option maxRecDepth 100000 in
theorem c_M_priceOf (l : Launch) (D : va_G) (cs : Nat → ClassId) (o : Nat) (h : Nat → Nat) (I : FI) (V : FV) (x1 : Int32) (x2 : Int32) (f : Nat) (out : Int32) (hf : M_priceOf f x1 x2 I V = some out) : Met l yX10_priceOf wsX10_priceOf rm_M_priceOf (va_Pc [.ref o, .int x1, .int x2] (xR D cs (w_M cs o h I V))) (vp_Si (fun r => r = out)) 0 0 (fun _ => False) := by
  refine Met.ofW (cc := cX10_priceOf) (maxL := 3) (ret := (some .int)) (by decide) rfl ?_
  intro p e s m args below meth c s₁ B hml hv
  obtain ⟨ha, hP, hK⟩ := hv
  have hx := B.exec
  have hb := B.bytes
  have hr := B.returns
  have hts := atoms_spec (ws := wsX10_priceOf) B.pre
  have hown : s.vm.findClass RX10 = some m.cls := findClass_of_methodNamed B.named
  have hlocks := B.notSynchronized
  have in_X10 : ∀ w ∈ u_ws RX10 TX10 38, w ∈ wsX10_priceOf := fun w h => List.mem_cons_of_mem _ (List.mem_append_right _ h)
  have g_16 := hts (.fieldLink RX10 16 "DaysLentModel" "asks" "[I") (by decide +kernel)
  have hl := lv_entry ([.ref o, .int x1, .int x2]) (n := 3) (Nat.le_of_ble_eq_true rfl)
  rw [show entryFrame m args 3 = entryFrame m ([.ref o, .int x1, .int x2] : List Value).toArray 3 from by rw [ha], lg_entry_eq]
  generalize (lg_sl ([.ref o, .int x1, .int x2]) ++ List.replicate (3 - (lg_sl ([.ref o, .int x1, .int x2])).length) Slot.unset).toArray = ls at hl ⊢
  have hl : lv_has ls 3 [(0, .ref o), (1, .int x1), (2, .int x2)] := hl
  generalize hQ : MQ below (vp_Si (fun r => r = out)) args s 0 0 (fun _ => False) = Q
  show W p l e rm_M_priceOf s m args below meth c s.heap [] 0 0 Q (F0 m 0 ls [])
  have hret : ∀ (v : Int32) (pc : Nat) (ls : Array Slot), some v = some out → decode cX10_priceOf pc = .ok (.ireturn, 1) → W p l e rm_M_priceOf s m args below meth c s.heap [] 0 0 Q (F0 m pc ls [.int v]) := by
    intro v pc ls hf hd
    rw [← hQ]
    exact W.iret (v := v) hx hb hr (fun t ht hW => ⟨v, rfl, Option.some.inj hf, ht⟩) (fun q h => by cases h) hd
  unfold M_priceOf at hf
  refine lv_aload_n hx hb dX10_priceOf_0 rfl (lv_at hl 0 rfl) ?_
  refine va_get (D := D) (ci := 10) (v := .ref (h 6)) (C := RX10) (T := TX10) (N := 38) hx hb hts in_X10 hown hK hP 0 rfl rfl 6 (by decide) g_16 (fun _ h9 => h9) rfl dX10_priceOf_1 ?_
  refine lv_iload_n hx hb dX10_priceOf_4 rfl (lv_at hl 1 rfl) ?_
  obtain ⟨c5, hf⟩ := gd hf
  refine va_iald hx hb hK hP 3 0 rfl rfl c5 dX10_priceOf_5 ?_
  refine lv_iload_n hx hb dX10_priceOf_6 rfl (lv_at hl 2 rfl) ?_
  refine lv_iconst (v := 1) hx hb dX10_priceOf_7 (by decide) ?_
  refine lv_iadd hx hb dX10_priceOf_8 ?_
  refine lv_iconst (v := 2) hx hb dX10_priceOf_9 (by decide) ?_
  refine lv_idiv hx hb dX10_priceOf_10 (by decide) ?_
  refine lv_imul hx hb dX10_priceOf_11 ?_
  exact hret (((V 6) x1.toNatClampNeg) * ((x2 + 1) / 2)) 12 _ hf dX10_priceOf_12
def M_lend (f : Nat) (x1 : Int32) (x2 : Int32) (x3 : Int32) (x4 : Int32) (I : FI) (V : FV) : Option (Int32 × FI × FV) := ob1 (M_noOne f x1 (va_up I 0 0) V) (fun zr1 => (if zr1 = 0 then ob1 (M_noOne f x2 (va_up I 0 0) V) (fun zr2 => (if zr2 = 0 then (if x1 = x2 then some ((-2), (va_up I 0 0), V) else ob1 (M_in f (x3.toInt64) 1 99) (fun zr3 => (if zr3 = 0 then some ((-2), (va_up I 0 0), V) else ob1 (M_in f (x4.toInt64) 1 9) (fun zr4 => (if zr4 = 0 then some ((-2), (va_up I 0 0), V) else ob1 (M_priceOf f x1 x3 (va_up I 0 0) V) (fun zr5 => if x1 < 0 ∨ 6 ≤ x1.toNatClampNeg then none else ((if ((V 5) x1.toNatClampNeg) < x3 then some ((-3), (va_up I 0 0), V) else if x1 < 0 ∨ 6 ≤ x1.toNatClampNeg then none else ((if ((V 7) x1.toNatClampNeg) = 0 then if x2 < 0 ∨ 6 ≤ x2.toNatClampNeg then none else ((if ((V 7) x2.toNatClampNeg) = 0 then if x2 < 0 ∨ 6 ≤ x2.toNatClampNeg then none else ((if ((V 8) x2.toNatClampNeg) = 0 then ob1 (M_owesAll f x2 (va_up I 0 0) V) (fun zr6 => (if (zr6 + (x3 + zr5)) ≤ 80 then (if (I 9) = 12 then some ((-4), (va_up I 0 0), V) else ob2 (M_note f (va_up I 0 0) V) (fun I8 V9 => if x1 < 0 ∨ 6 ≤ x1.toNatClampNeg then none else (if x1 < 0 ∨ 6 ≤ x1.toNatClampNeg then none else (if x2 < 0 ∨ 6 ≤ x2.toNatClampNeg then none else (if x2 < 0 ∨ 6 ≤ x2.toNatClampNeg then none else (if (I8 9) < 0 ∨ 12 ≤ (I8 9).toNatClampNeg then none else (if (I8 9) < 0 ∨ 12 ≤ (I8 9).toNatClampNeg then none else (if (I8 9) < 0 ∨ 12 ≤ (I8 9).toNatClampNeg then none else (if (I8 9) < 0 ∨ 12 ≤ (I8 9).toNatClampNeg then none else (some ((x3 + zr5), (va_up I8 9 ((I8 9) + 1)), (va_up (va_up (va_up (va_up (va_up V9 5 (upd (upd (V9 5) x1.toNatClampNeg (((V9 5) x1.toNatClampNeg) - x3)) x2.toNatClampNeg (((upd (V9 5) x1.toNatClampNeg (((V9 5) x1.toNatClampNeg) - x3)) x2.toNatClampNeg) + x3))) 10 (upd (V9 10) (I8 9).toNatClampNeg x1)) 11 (upd (V9 11) (I8 9).toNatClampNeg x2)) 12 (upd (V9 12) (I8 9).toNatClampNeg (x3 + zr5))) 13 (upd (V9 13) (I8 9).toNatClampNeg ((I8 14) + x4)))))))))))))) else some ((-3), (va_up I 0 0), V))) else some ((-3), (va_up I 0 0), V))) else some ((-3), (va_up I 0 0), V))) else some ((-3), (va_up I 0 0), V))))))))))) else some ((-1), (va_up I 0 0), V))) else some ((-1), (va_up I 0 0), V)))
abbrev rm_M_lend : Room := { frames := 2, cells := 0, slots := 0, locals := 46 }
set_option maxHeartbeats 4000000 in
set_option maxRecDepth 100000 in
theorem c_M_lend (l : Launch) (D : va_G) (cs : Nat → ClassId) (o : Nat) (h : Nat → Nat) (sz : Nat) (I : FI) (V : FV) (x1 : Int32) (x2 : Int32) (x3 : Int32) (x4 : Int32) (f : Nat) (out : Int32 × FI × FV) (hf : M_lend f x1 x2 x3 x4 I V = some out) : Met l yX10_lend wsX10_lend rm_M_lend (va_Pc [.ref o, .int x1, .int x2, .int x3, .int x4] (xP D cs (w_M cs o h I V) sz)) (va_Qi (fun r u => (r, u) = out) (fun (u : FI × FV) t => xA D cs (va_A (w_M cs o h I V) sz) (w_M cs o h u.1 u.2) t) (va_A (w_M cs o h I V) sz)) 0 0 (va_A (w_M cs o h I V) sz) := by
  refine Met.ofW (cc := cX10_lend) (maxL := 6) (ret := (some .int)) (by decide) rfl ?_
  intro p e s m args below meth c s₁ B hml hv
  obtain ⟨ha, hsz, hP, hK, hD0⟩ := hv
  have hx := B.exec
  have hb := B.bytes
  have hr := B.returns
  have hts := atoms_spec (ws := wsX10_lend) B.pre
  have hown : s.vm.findClass RX10 = some m.cls := findClass_of_methodNamed B.named
  have hlocks := B.notSynchronized
  have in_X10 : ∀ w ∈ u_ws RX10 TX10 38, w ∈ wsX10_lend := fun w h => List.mem_cons_of_mem _ (List.mem_append_right _ h)
  have g_92 := hts (.fieldLink RX10 92 "DaysLentModel" "thrown" "I") (by decide +kernel)
  have w_noOne_151 := cwV (R := rm_M_lend) (s := s) (args := args) (rm := rm_M_noOne) (mc := 0) (ms := 0) 1 hts gX10_lend_X10_noOne rfl rfl rfl (by decide +kernel) ⟨Nat.le_of_ble_eq_true rfl, Nat.le_of_ble_eq_true rfl⟩
  have k_168 := hts (.constantLong RX10 168 (99)) (by decide +kernel)
  have w_in_99 := va_cwS (R := rm_M_lend) (s := s) (args := args) (rm := rm_M_in) (mc := 0) (ms := 0) 3 hts gX10_lend_X10_in rfl rfl rfl (by decide +kernel) ⟨Nat.le_of_ble_eq_true rfl, Nat.le_of_ble_eq_true rfl⟩
  have k_158 := hts (.constantLong RX10 158 (9)) (by decide +kernel)
  have w_priceOf_170 := cwV (R := rm_M_lend) (s := s) (args := args) (rm := rm_M_priceOf) (mc := 0) (ms := 0) 2 hts gX10_lend_X10_priceOf rfl rfl rfl (by decide +kernel) ⟨Nat.le_of_ble_eq_true rfl, Nat.le_of_ble_eq_true rfl⟩
  have g_13 := hts (.fieldLink RX10 13 "DaysLentModel" "mornings" "[I") (by decide +kernel)
  have g_19 := hts (.fieldLink RX10 19 "DaysLentModel" "dead" "[Z") (by decide +kernel)
  have g_23 := hts (.fieldLink RX10 23 "DaysLentModel" "broken" "[Z") (by decide +kernel)
  have w_owesAll_144 := cwV (R := rm_M_lend) (s := s) (args := args) (rm := rm_M_owesAll) (mc := 0) (ms := 0) 1 hts gX10_lend_X10_owesAll rfl rfl rfl (by decide +kernel) ⟨Nat.le_of_ble_eq_true rfl, Nat.le_of_ble_eq_true rfl⟩
  have g_135 := hts (.fieldLink RX10 135 "DaysLentModel" "debts" "I") (by decide +kernel)
  have w_note_173 := cwV (R := rm_M_lend) (s := s) (args := args) (rm := rm_M_note) (mc := 0) (ms := 0) 0 hts gX10_lend_X10_note rfl rfl rfl (by decide +kernel) ⟨Nat.le_of_ble_eq_true rfl, Nat.le_of_ble_eq_true rfl⟩
  have g_26 := hts (.fieldLink RX10 26 "DaysLentModel" "owed" "[I") (by decide +kernel)
  have g_29 := hts (.fieldLink RX10 29 "DaysLentModel" "owes" "[I") (by decide +kernel)
  have g_32 := hts (.fieldLink RX10 32 "DaysLentModel" "much" "[I") (by decide +kernel)
  have g_35 := hts (.fieldLink RX10 35 "DaysLentModel" "due" "[I") (by decide +kernel)
  have g_138 := hts (.fieldLink RX10 138 "DaysLentModel" "week" "I") (by decide +kernel)
  subst hsz
  have hD := hD0.self (sz := s.heap.size)
  generalize hAe : va_A (w_M cs o h I V) s.heap.size = A at hD ⊢
  have hA : ∀ q : Nat, s.heap.size ≤ q → A q := fun q h => by rw [← hAe]; exact Or.inr h
  have hS : va_S A s.heap s.heap [] := va_S.rf
  have hl := lv_entry ([.ref o, .int x1, .int x2, .int x3, .int x4]) (n := 6) (Nat.le_of_ble_eq_true rfl)
  rw [show entryFrame m args 6 = entryFrame m ([.ref o, .int x1, .int x2, .int x3, .int x4] : List Value).toArray 6 from by rw [ha], lg_entry_eq]
  generalize (lg_sl ([.ref o, .int x1, .int x2, .int x3, .int x4]) ++ List.replicate (6 - (lg_sl ([.ref o, .int x1, .int x2, .int x3, .int x4])).length) Slot.unset).toArray = ls at hl ⊢
  have hl : lv_has ls 6 [(0, .ref o), (1, .int x1), (2, .int x2), (3, .int x3), (4, .int x4)] := hl
  generalize hQ : MQ below (va_Qi (fun r u => (r, u) = out) (fun (u : FI × FV) t => xA D cs A (w_M cs o h u.1 u.2) t) A) args s 0 0 A = Q
  show W p l e rm_M_lend s m args below meth c s.heap [] 0 0 Q (F0 m 0 ls [])
  have hret : ∀ (v : Int32) (Im9 : FI) (Vm9 : FV) (H : Heap) (locs : List Loc) (pc : Nat) (ls : Array Slot), some (v, Im9, Vm9) = some out → va_P D vwCl (w_M cs o h Im9 Vm9) H → va_D A (w_M cs o h Im9 Vm9) → va_S A s.heap H locs → decode cX10_lend pc = .ok (.ireturn, 1) → W p l e rm_M_lend s m args below meth c H locs 0 0 Q (F0 m pc ls [.int v]) := by
    intro v Im9 Vm9 H locs pc ls hf hP hD hS hd
    rw [← hQ]
    exact W.iret (v := v) hx hb hr (fun t ht hW => ⟨⟨v, (Im9, Vm9), rfl, Option.some.inj hf, by show va_P D vwCl (w_M cs o h Im9 Vm9) t.heap; rw [ht]; exact hP, va_K.moved hW.alike hK, hD⟩, hS.F ht⟩) hS.2.2 hd
  unfold M_lend at hf
  refine lv_aload_n hx hb dX10_lend_0 rfl (lv_at hl 0 rfl) ?_
  refine lv_iconst (v := 0) hx hb dX10_lend_1 (by decide) ?_
  refine va_put (D := D) (ci := 10) (v := .int 0) (ty := .int) (C := RX10) (T := TX10) (N := 38) hx hb hts in_X10 tyX10 tyX10_ok nmX10 hown hK hP hD hS 0 rfl rfl 0 (by decide) g_92 (fun _ h9 => h9) rfl (by decide +kernel) rfl rfl (Nat.le_of_ble_eq_true rfl) dX10_lend_2 (fun H locs hP hD hS => ?_)
  have hP : va_P D vwCl (w_M cs o h (va_up I 0 0) V) H := hP
  have hD : va_D A (w_M cs o h (va_up I 0 0) V) := hD
  refine lv_aload_n hx hb dX10_lend_5 rfl (lv_at hl 0 rfl) ?_
  refine lv_iload_n hx hb dX10_lend_6 rfl (lv_at hl 1 rfl) ?_
  obtain ⟨zr1, qr1, hf⟩ := bd1 hf
  refine vp_callSi (va_Run.run (va_runV (As := [.int x1]) (rest := []) ⟨hx, hb, hml, hown, hts⟩ (c_M_noOne l D cs o h (va_up I 0 0) V x1 f zr1 qr1) w_noOne_151 ⟨xR_moved, va_recv hK hP (ci := 10) (q0 := 0) rfl rfl, fun U hU hW => ⟨rfl, by rw [hU]; exact hP, va_K.moved hW.alike hK⟩⟩ rfl rfl hl.1 rfl (lv_room (Nat.le_of_ble_eq_true rfl)) dX10_lend_7 ⟨Nat.zero_le _, Nat.zero_le _⟩)) (fun r1 er1 => ?_)
  rw [er1]
  refine lv_if_ne (tgt := 21) hx hb dX10_lend_10 (by decide) (fun c10 => ?_) (fun c10 => ?_)
  · replace hf := im c10 hf
    refine lv_iconst (v := (-1)) hx hb dX10_lend_21 (by decide) ?_
    exact hret (-1) (va_up I 0 0) V _ _ 22 _ hf hP hD hS dX10_lend_22
  · replace hf := ip c10 hf
    refine lv_aload_n hx hb dX10_lend_13 rfl (lv_at hl 0 rfl) ?_
    refine lv_iload_n hx hb dX10_lend_14 rfl (lv_at hl 2 rfl) ?_
    obtain ⟨zr2, qr2, hf⟩ := bd1 hf
    refine vp_callSi (va_Run.run (va_runV (As := [.int x2]) (rest := []) ⟨hx, hb, hml, hown, hts⟩ (c_M_noOne l D cs o h (va_up I 0 0) V x2 f zr2 qr2) w_noOne_151 ⟨xR_moved, va_recv hK hP (ci := 10) (q0 := 0) rfl rfl, fun U hU hW => ⟨rfl, by rw [hU]; exact hP, va_K.moved hW.alike hK⟩⟩ rfl rfl hl.1 rfl (lv_room (Nat.le_of_ble_eq_true rfl)) dX10_lend_15 ⟨Nat.zero_le _, Nat.zero_le _⟩)) (fun r2 er2 => ?_)
    rw [er2]
    refine lv_if_eq (tgt := 23) hx hb dX10_lend_18 (by decide) (fun c18 => ?_) (fun c18 => ?_)
    · replace hf := ip c18 hf
      refine lv_iload_n hx hb dX10_lend_23 rfl (lv_at hl 1 rfl) ?_
      refine lv_iload_n hx hb dX10_lend_24 rfl (lv_at hl 2 rfl) ?_
      refine lv_icmp_eq (tgt := 53) hx hb dX10_lend_25 (by decide) (fun c25 => ?_) (fun c25 => ?_)
      · replace hf := ip c25 hf
        refine lv_bipush (v := (-2)) hx hb dX10_lend_53 (by decide) ?_
        exact hret (-2) (va_up I 0 0) V _ _ 55 _ hf hP hD hS dX10_lend_55
      · replace hf := im c25 hf
        refine lv_iload_n hx hb dX10_lend_28 rfl (lv_at hl 3 rfl) ?_
        refine lv_i2l (v := x3.toInt64) hx hb dX10_lend_29 rfl ?_
        refine lv_lconst (v := 1) hx hb dX10_lend_30 (by decide) ?_
        refine lv_ldc2 (v := 99) hx hb hown k_168 dX10_lend_31 ?_
        obtain ⟨zr3, qr3, hf⟩ := bd1 hf
        refine vp_callSi (va_Run.run (va_runS (As := [.long (x3.toInt64), .long 1, .long 99]) (rest := []) ⟨hx, hb, hml, hown, hts⟩ (c_M_in l (x3.toInt64) 1 99 f zr3 qr3) w_in_99 ⟨fun a U g mk q => q, fun U hU hW => ⟨rfl, trivial⟩⟩ rfl rfl hl.1 rfl (lv_room (Nat.le_of_ble_eq_true rfl)) dX10_lend_34 ⟨Nat.zero_le _, Nat.zero_le _⟩)) (fun r3 er3 => ?_)
        rw [er3]
        refine lv_if_eq (tgt := 53) hx hb dX10_lend_37 (by decide) (fun c37 => ?_) (fun c37 => ?_)
        · replace hf := ip c37 hf
          refine lv_bipush (v := (-2)) hx hb dX10_lend_53 (by decide) ?_
          exact hret (-2) (va_up I 0 0) V _ _ 55 _ hf hP hD hS dX10_lend_55
        · replace hf := im c37 hf
          refine lv_iload hx hb dX10_lend_40 (lv_at hl 4 rfl) ?_
          refine lv_i2l (v := x4.toInt64) hx hb dX10_lend_42 rfl ?_
          refine lv_lconst (v := 1) hx hb dX10_lend_43 (by decide) ?_
          refine lv_ldc2 (v := 9) hx hb hown k_158 dX10_lend_44 ?_
          obtain ⟨zr4, qr4, hf⟩ := bd1 hf
          refine vp_callSi (va_Run.run (va_runS (As := [.long (x4.toInt64), .long 1, .long 9]) (rest := []) ⟨hx, hb, hml, hown, hts⟩ (c_M_in l (x4.toInt64) 1 9 f zr4 qr4) w_in_99 ⟨fun a U g mk q => q, fun U hU hW => ⟨rfl, trivial⟩⟩ rfl rfl hl.1 rfl (lv_room (Nat.le_of_ble_eq_true rfl)) dX10_lend_47 ⟨Nat.zero_le _, Nat.zero_le _⟩)) (fun r4 er4 => ?_)
          rw [er4]
          refine lv_if_ne (tgt := 56) hx hb dX10_lend_50 (by decide) (fun c50 => ?_) (fun c50 => ?_)
          · replace hf := im c50 hf
            refine lv_iload_n hx hb dX10_lend_56 rfl (lv_at hl 3 rfl) ?_
            refine lv_aload_n hx hb dX10_lend_57 rfl (lv_at hl 0 rfl) ?_
            refine lv_iload_n hx hb dX10_lend_58 rfl (lv_at hl 1 rfl) ?_
            refine lv_iload_n hx hb dX10_lend_59 rfl (lv_at hl 3 rfl) ?_
            obtain ⟨zr5, qr5, hf⟩ := bd1 hf
            refine vp_callSi (va_Run.run (va_runV (As := [.int x1, .int x3]) (rest := [.int x3]) ⟨hx, hb, hml, hown, hts⟩ (c_M_priceOf l D cs o h (va_up I 0 0) V x1 x3 f zr5 qr5) w_priceOf_170 ⟨xR_moved, va_recv hK hP (ci := 10) (q0 := 0) rfl rfl, fun U hU hW => ⟨rfl, by rw [hU]; exact hP, va_K.moved hW.alike hK⟩⟩ rfl rfl hl.1 rfl (lv_room (Nat.le_of_ble_eq_true rfl)) dX10_lend_60 ⟨Nat.zero_le _, Nat.zero_le _⟩)) (fun r5 er5 => ?_)
            rw [er5]
            refine lv_iadd hx hb dX10_lend_63 ?_
            refine lv_istore (lv' := [(5, .int (x3 + zr5)), (0, .ref o), (1, .int x1), (2, .int x2), (3, .int x3), (4, .int x4)]) hx hb dX10_lend_64 hl (by decide) rfl (fun ls hl => ?_)
            refine lv_aload_n hx hb dX10_lend_66 rfl (lv_at hl 1 rfl) ?_
            refine va_get (D := D) (ci := 10) (v := .ref (h 5)) (C := RX10) (T := TX10) (N := 38) hx hb hts in_X10 hown hK hP 0 rfl rfl 5 (by decide) g_13 (fun _ h9 => h9) rfl dX10_lend_67 ?_
            refine lv_iload_n hx hb dX10_lend_70 rfl (lv_at hl 2 rfl) ?_
            obtain ⟨c71, hf⟩ := gd hf
            refine va_iald hx hb hK hP 2 0 rfl rfl c71 dX10_lend_71 ?_
            refine lv_iload_n hx hb dX10_lend_72 rfl (lv_at hl 4 rfl) ?_
            refine lv_icmp_lt (tgt := 116) hx hb dX10_lend_73 (by decide) (fun c73 => ?_) (fun c73 => ?_)
            · replace hf := ip c73 hf
              refine lv_bipush (v := (-3)) hx hb dX10_lend_116 (by decide) ?_
              exact hret (-3) (va_up I 0 0) V _ _ 118 _ hf hP hD hS dX10_lend_118
            · replace hf := im c73 hf
              refine lv_aload_n hx hb dX10_lend_76 rfl (lv_at hl 1 rfl) ?_
              refine va_get (D := D) (ci := 10) (v := .ref (h 7)) (C := RX10) (T := TX10) (N := 38) hx hb hts in_X10 hown hK hP 0 rfl rfl 7 (by decide) g_19 (fun _ h9 => h9) rfl dX10_lend_77 ?_
              refine lv_iload_n hx hb dX10_lend_80 rfl (lv_at hl 2 rfl) ?_
              obtain ⟨c81, hf⟩ := gd hf
              refine va_zald hx hb hK hP 4 1 rfl rfl c81 dX10_lend_81 ?_
              refine lv_if_ne (tgt := 116) hx hb dX10_lend_82 (by decide) (fun c82 => ?_) (fun c82 => ?_)
              · replace hf := im c82 hf
                refine lv_bipush (v := (-3)) hx hb dX10_lend_116 (by decide) ?_
                exact hret (-3) (va_up I 0 0) V _ _ 118 _ hf hP hD hS dX10_lend_118
              · replace hf := ip c82 hf
                refine lv_aload_n hx hb dX10_lend_85 rfl (lv_at hl 1 rfl) ?_
                refine va_get (D := D) (ci := 10) (v := .ref (h 7)) (C := RX10) (T := TX10) (N := 38) hx hb hts in_X10 hown hK hP 0 rfl rfl 7 (by decide) g_19 (fun _ h9 => h9) rfl dX10_lend_86 ?_
                refine lv_iload_n hx hb dX10_lend_89 rfl (lv_at hl 3 rfl) ?_
                obtain ⟨c90, hf⟩ := gd hf
                refine va_zald hx hb hK hP 4 1 rfl rfl c90 dX10_lend_90 ?_
                refine lv_if_ne (tgt := 116) hx hb dX10_lend_91 (by decide) (fun c91 => ?_) (fun c91 => ?_)
                · replace hf := im c91 hf
                  refine lv_bipush (v := (-3)) hx hb dX10_lend_116 (by decide) ?_
                  exact hret (-3) (va_up I 0 0) V _ _ 118 _ hf hP hD hS dX10_lend_118
                · replace hf := ip c91 hf
                  refine lv_aload_n hx hb dX10_lend_94 rfl (lv_at hl 1 rfl) ?_
                  refine va_get (D := D) (ci := 10) (v := .ref (h 8)) (C := RX10) (T := TX10) (N := 38) hx hb hts in_X10 hown hK hP 0 rfl rfl 8 (by decide) g_23 (fun _ h9 => h9) rfl dX10_lend_95 ?_
                  refine lv_iload_n hx hb dX10_lend_98 rfl (lv_at hl 3 rfl) ?_
                  obtain ⟨c99, hf⟩ := gd hf
                  refine va_zald hx hb hK hP 5 1 rfl rfl c99 dX10_lend_99 ?_
                  refine lv_if_ne (tgt := 116) hx hb dX10_lend_100 (by decide) (fun c100 => ?_) (fun c100 => ?_)
                  · replace hf := im c100 hf
                    refine lv_bipush (v := (-3)) hx hb dX10_lend_116 (by decide) ?_
                    exact hret (-3) (va_up I 0 0) V _ _ 118 _ hf hP hD hS dX10_lend_118
                  · replace hf := ip c100 hf
                    refine lv_aload_n hx hb dX10_lend_103 rfl (lv_at hl 1 rfl) ?_
                    refine lv_iload_n hx hb dX10_lend_104 rfl (lv_at hl 3 rfl) ?_
                    obtain ⟨zr6, qr6, hf⟩ := bd1 hf
                    refine vp_callSi (va_Run.run (va_runV (As := [.int x2]) (rest := []) ⟨hx, hb, hml, hown, hts⟩ (c_M_owesAll l D cs o h (va_up I 0 0) V x2 f zr6 qr6) w_owesAll_144 ⟨xR_moved, va_recv hK hP (ci := 10) (q0 := 0) rfl rfl, fun U hU hW => ⟨rfl, by rw [hU]; exact hP, va_K.moved hW.alike hK⟩⟩ rfl rfl hl.1 rfl (lv_room (Nat.le_of_ble_eq_true rfl)) dX10_lend_105 ⟨Nat.zero_le _, Nat.zero_le _⟩)) (fun r6 er6 => ?_)
                    rw [er6]
                    refine lv_iload hx hb dX10_lend_108 (lv_at hl 0 rfl) ?_
                    refine lv_iadd hx hb dX10_lend_110 ?_
                    refine lv_bipush (v := 80) hx hb dX10_lend_111 (by decide) ?_
                    refine lv_icmp_le (tgt := 119) hx hb dX10_lend_113 (by decide) (fun c113 => ?_) (fun c113 => ?_)
                    · replace hf := ip c113 hf
                      refine lv_aload_n hx hb dX10_lend_119 rfl (lv_at hl 1 rfl) ?_
                      refine va_get (D := D) (ci := 10) (v := .int (I 9)) (C := RX10) (T := TX10) (N := 38) hx hb hts in_X10 hown hK hP 0 rfl rfl 9 (by decide) g_135 (fun _ h9 => h9) rfl dX10_lend_120 ?_
                      refine lv_bipush (v := 12) hx hb dX10_lend_123 (by decide) ?_
                      refine lv_icmp_ne (tgt := 131) hx hb dX10_lend_125 (by decide) (fun c125 => ?_) (fun c125 => ?_)
                      · replace hf := im c125 hf
                        refine lv_aload_n hx hb dX10_lend_131 rfl (lv_at hl 1 rfl) ?_
                        obtain ⟨I8, V9, qr7, hf⟩ := bd2 hf
                        have hFc := xfree hD hS hA
                        refine va_callv (va_runV (As := []) (rest := []) ⟨hx, hb, hml, hown, hts⟩ (c_M_note l D cs o h _ (va_up I 0 0) V f _ qr7) w_note_173 ⟨xP_moved, va_recv hK hP (ci := 10) (q0 := 0) rfl rfl, fun U hU hW => ⟨rfl, by rw [hU], by rw [hU]; exact hP, va_K.moved hW.alike hK, hD.weaken (fun _ _ _ _ => trivial)⟩⟩ rfl rfl hl.1 rfl (lv_room (Nat.le_of_ble_eq_true rfl)) dX10_lend_132 ⟨Nat.zero_le _, Nat.zero_le _⟩) hS (fun q _ h9 => hFc q h9) hFc (fun u t H1 locs ht hvm hw hB hz1 hk1 hS => ?_)
                        rw [hw] at hB
                        obtain ⟨hP1, hK1, hD1⟩ := hB
                        have hP : va_P D vwCl (w_M cs o h I8 V9) H1 := by rw [← ht]; exact hP1
                        have hD : va_D A (w_M cs o h I8 V9) := hD1.weaken (fun _ q _ h9 => hFc q.1 h9)
                        refine lv_aload_n hx hb dX10_lend_135 rfl (lv_at hl 1 rfl) ?_
                        refine va_get (D := D) (ci := 10) (v := .ref (h 5)) (C := RX10) (T := TX10) (N := 38) hx hb hts in_X10 hown hK hP 0 rfl rfl 5 (by decide) g_13 (fun _ h9 => h9) rfl dX10_lend_136 ?_
                        refine lv_iload_n hx hb dX10_lend_139 rfl (lv_at hl 2 rfl) ?_
                        refine lv_dup2_11 hx hb dX10_lend_140 rfl rfl ?_
                        obtain ⟨c141, hf⟩ := gd hf
                        refine va_iald hx hb hK hP 2 0 rfl rfl c141 dX10_lend_141 ?_
                        refine lv_iload_n hx hb dX10_lend_142 rfl (lv_at hl 4 rfl) ?_
                        refine lv_isub hx hb dX10_lend_143 ?_
                        obtain ⟨c144, hf⟩ := gd hf
                        refine va_iast hx hb hK hP hD hS 2 0 rfl rfl c144 dX10_lend_144 (fun H locs hP hD hS => ?_)
                        have hP : va_P D vwCl (w_M cs o h I8 (va_up V9 5 (upd (V9 5) x1.toNatClampNeg (((V9 5) x1.toNatClampNeg) - x3)))) H := hP
                        have hD : va_D A (w_M cs o h I8 (va_up V9 5 (upd (V9 5) x1.toNatClampNeg (((V9 5) x1.toNatClampNeg) - x3)))) := hD
                        refine lv_aload_n hx hb dX10_lend_145 rfl (lv_at hl 1 rfl) ?_
                        refine va_get (D := D) (ci := 10) (v := .ref (h 5)) (C := RX10) (T := TX10) (N := 38) hx hb hts in_X10 hown hK hP 0 rfl rfl 5 (by decide) g_13 (fun _ h9 => h9) rfl dX10_lend_146 ?_
                        refine lv_iload_n hx hb dX10_lend_149 rfl (lv_at hl 3 rfl) ?_
                        refine lv_dup2_11 hx hb dX10_lend_150 rfl rfl ?_
                        obtain ⟨c151, hf⟩ := gd hf
                        refine va_iald hx hb hK hP 2 0 rfl rfl c151 dX10_lend_151 ?_
                        refine lv_iload_n hx hb dX10_lend_152 rfl (lv_at hl 4 rfl) ?_
                        refine lv_iadd hx hb dX10_lend_153 ?_
                        obtain ⟨c154, hf⟩ := gd hf
                        refine va_iast hx hb hK hP hD hS 2 0 rfl rfl c154 dX10_lend_154 (fun H locs hP hD hS => ?_)
                        have hP : va_P D vwCl (w_M cs o h I8 (va_up V9 5 (upd (upd (V9 5) x1.toNatClampNeg (((V9 5) x1.toNatClampNeg) - x3)) x2.toNatClampNeg (((upd (V9 5) x1.toNatClampNeg (((V9 5) x1.toNatClampNeg) - x3)) x2.toNatClampNeg) + x3)))) H := hP
                        have hD : va_D A (w_M cs o h I8 (va_up V9 5 (upd (upd (V9 5) x1.toNatClampNeg (((V9 5) x1.toNatClampNeg) - x3)) x2.toNatClampNeg (((upd (V9 5) x1.toNatClampNeg (((V9 5) x1.toNatClampNeg) - x3)) x2.toNatClampNeg) + x3)))) := hD
                        refine lv_aload_n hx hb dX10_lend_155 rfl (lv_at hl 1 rfl) ?_
                        refine va_get (D := D) (ci := 10) (v := .ref (h 10)) (C := RX10) (T := TX10) (N := 38) hx hb hts in_X10 hown hK hP 0 rfl rfl 10 (by decide) g_26 (fun _ h9 => h9) rfl dX10_lend_156 ?_
                        refine lv_aload_n hx hb dX10_lend_159 rfl (lv_at hl 1 rfl) ?_
                        refine va_get (D := D) (ci := 10) (v := .int (I8 9)) (C := RX10) (T := TX10) (N := 38) hx hb hts in_X10 hown hK hP 0 rfl rfl 9 (by decide) g_135 (fun _ h9 => h9) rfl dX10_lend_160 ?_
                        refine lv_iload_n hx hb dX10_lend_163 rfl (lv_at hl 2 rfl) ?_
                        obtain ⟨c164, hf⟩ := gd hf
                        refine va_iast hx hb hK hP hD hS 6 0 rfl rfl c164 dX10_lend_164 (fun H locs hP hD hS => ?_)
                        have hP : va_P D vwCl (w_M cs o h I8 (va_up (va_up V9 5 (upd (upd (V9 5) x1.toNatClampNeg (((V9 5) x1.toNatClampNeg) - x3)) x2.toNatClampNeg (((upd (V9 5) x1.toNatClampNeg (((V9 5) x1.toNatClampNeg) - x3)) x2.toNatClampNeg) + x3))) 10 (upd (V9 10) (I8 9).toNatClampNeg x1))) H := hP
                        have hD : va_D A (w_M cs o h I8 (va_up (va_up V9 5 (upd (upd (V9 5) x1.toNatClampNeg (((V9 5) x1.toNatClampNeg) - x3)) x2.toNatClampNeg (((upd (V9 5) x1.toNatClampNeg (((V9 5) x1.toNatClampNeg) - x3)) x2.toNatClampNeg) + x3))) 10 (upd (V9 10) (I8 9).toNatClampNeg x1))) := hD
                        refine lv_aload_n hx hb dX10_lend_165 rfl (lv_at hl 1 rfl) ?_
                        refine va_get (D := D) (ci := 10) (v := .ref (h 11)) (C := RX10) (T := TX10) (N := 38) hx hb hts in_X10 hown hK hP 0 rfl rfl 11 (by decide) g_29 (fun _ h9 => h9) rfl dX10_lend_166 ?_
                        refine lv_aload_n hx hb dX10_lend_169 rfl (lv_at hl 1 rfl) ?_
                        refine va_get (D := D) (ci := 10) (v := .int (I8 9)) (C := RX10) (T := TX10) (N := 38) hx hb hts in_X10 hown hK hP 0 rfl rfl 9 (by decide) g_135 (fun _ h9 => h9) rfl dX10_lend_170 ?_
                        refine lv_iload_n hx hb dX10_lend_173 rfl (lv_at hl 3 rfl) ?_
                        obtain ⟨c174, hf⟩ := gd hf
                        refine va_iast hx hb hK hP hD hS 7 0 rfl rfl c174 dX10_lend_174 (fun H locs hP hD hS => ?_)
                        have hP : va_P D vwCl (w_M cs o h I8 (va_up (va_up (va_up V9 5 (upd (upd (V9 5) x1.toNatClampNeg (((V9 5) x1.toNatClampNeg) - x3)) x2.toNatClampNeg (((upd (V9 5) x1.toNatClampNeg (((V9 5) x1.toNatClampNeg) - x3)) x2.toNatClampNeg) + x3))) 10 (upd (V9 10) (I8 9).toNatClampNeg x1)) 11 (upd (V9 11) (I8 9).toNatClampNeg x2))) H := hP
                        have hD : va_D A (w_M cs o h I8 (va_up (va_up (va_up V9 5 (upd (upd (V9 5) x1.toNatClampNeg (((V9 5) x1.toNatClampNeg) - x3)) x2.toNatClampNeg (((upd (V9 5) x1.toNatClampNeg (((V9 5) x1.toNatClampNeg) - x3)) x2.toNatClampNeg) + x3))) 10 (upd (V9 10) (I8 9).toNatClampNeg x1)) 11 (upd (V9 11) (I8 9).toNatClampNeg x2))) := hD
                        refine lv_aload_n hx hb dX10_lend_175 rfl (lv_at hl 1 rfl) ?_
                        refine va_get (D := D) (ci := 10) (v := .ref (h 12)) (C := RX10) (T := TX10) (N := 38) hx hb hts in_X10 hown hK hP 0 rfl rfl 12 (by decide) g_32 (fun _ h9 => h9) rfl dX10_lend_176 ?_
                        refine lv_aload_n hx hb dX10_lend_179 rfl (lv_at hl 1 rfl) ?_
                        refine va_get (D := D) (ci := 10) (v := .int (I8 9)) (C := RX10) (T := TX10) (N := 38) hx hb hts in_X10 hown hK hP 0 rfl rfl 9 (by decide) g_135 (fun _ h9 => h9) rfl dX10_lend_180 ?_
                        refine lv_iload hx hb dX10_lend_183 (lv_at hl 0 rfl) ?_
                        obtain ⟨c185, hf⟩ := gd hf
                        refine va_iast hx hb hK hP hD hS 8 0 rfl rfl c185 dX10_lend_185 (fun H locs hP hD hS => ?_)
                        have hP : va_P D vwCl (w_M cs o h I8 (va_up (va_up (va_up (va_up V9 5 (upd (upd (V9 5) x1.toNatClampNeg (((V9 5) x1.toNatClampNeg) - x3)) x2.toNatClampNeg (((upd (V9 5) x1.toNatClampNeg (((V9 5) x1.toNatClampNeg) - x3)) x2.toNatClampNeg) + x3))) 10 (upd (V9 10) (I8 9).toNatClampNeg x1)) 11 (upd (V9 11) (I8 9).toNatClampNeg x2)) 12 (upd (V9 12) (I8 9).toNatClampNeg (x3 + zr5)))) H := hP
                        have hD : va_D A (w_M cs o h I8 (va_up (va_up (va_up (va_up V9 5 (upd (upd (V9 5) x1.toNatClampNeg (((V9 5) x1.toNatClampNeg) - x3)) x2.toNatClampNeg (((upd (V9 5) x1.toNatClampNeg (((V9 5) x1.toNatClampNeg) - x3)) x2.toNatClampNeg) + x3))) 10 (upd (V9 10) (I8 9).toNatClampNeg x1)) 11 (upd (V9 11) (I8 9).toNatClampNeg x2)) 12 (upd (V9 12) (I8 9).toNatClampNeg (x3 + zr5)))) := hD
                        refine lv_aload_n hx hb dX10_lend_186 rfl (lv_at hl 1 rfl) ?_
                        refine va_get (D := D) (ci := 10) (v := .ref (h 13)) (C := RX10) (T := TX10) (N := 38) hx hb hts in_X10 hown hK hP 0 rfl rfl 13 (by decide) g_35 (fun _ h9 => h9) rfl dX10_lend_187 ?_
                        refine lv_aload_n hx hb dX10_lend_190 rfl (lv_at hl 1 rfl) ?_
                        refine va_get (D := D) (ci := 10) (v := .int (I8 9)) (C := RX10) (T := TX10) (N := 38) hx hb hts in_X10 hown hK hP 0 rfl rfl 9 (by decide) g_135 (fun _ h9 => h9) rfl dX10_lend_191 ?_
                        refine lv_aload_n hx hb dX10_lend_194 rfl (lv_at hl 1 rfl) ?_
                        refine va_get (D := D) (ci := 10) (v := .int (I8 14)) (C := RX10) (T := TX10) (N := 38) hx hb hts in_X10 hown hK hP 0 rfl rfl 14 (by decide) g_138 (fun _ h9 => h9) rfl dX10_lend_195 ?_
                        refine lv_iload hx hb dX10_lend_198 (lv_at hl 5 rfl) ?_
                        refine lv_iadd hx hb dX10_lend_200 ?_
                        obtain ⟨c201, hf⟩ := gd hf
                        refine va_iast hx hb hK hP hD hS 9 0 rfl rfl c201 dX10_lend_201 (fun H locs hP hD hS => ?_)
                        have hP : va_P D vwCl (w_M cs o h I8 (va_up (va_up (va_up (va_up (va_up V9 5 (upd (upd (V9 5) x1.toNatClampNeg (((V9 5) x1.toNatClampNeg) - x3)) x2.toNatClampNeg (((upd (V9 5) x1.toNatClampNeg (((V9 5) x1.toNatClampNeg) - x3)) x2.toNatClampNeg) + x3))) 10 (upd (V9 10) (I8 9).toNatClampNeg x1)) 11 (upd (V9 11) (I8 9).toNatClampNeg x2)) 12 (upd (V9 12) (I8 9).toNatClampNeg (x3 + zr5))) 13 (upd (V9 13) (I8 9).toNatClampNeg ((I8 14) + x4)))) H := hP
                        have hD : va_D A (w_M cs o h I8 (va_up (va_up (va_up (va_up (va_up V9 5 (upd (upd (V9 5) x1.toNatClampNeg (((V9 5) x1.toNatClampNeg) - x3)) x2.toNatClampNeg (((upd (V9 5) x1.toNatClampNeg (((V9 5) x1.toNatClampNeg) - x3)) x2.toNatClampNeg) + x3))) 10 (upd (V9 10) (I8 9).toNatClampNeg x1)) 11 (upd (V9 11) (I8 9).toNatClampNeg x2)) 12 (upd (V9 12) (I8 9).toNatClampNeg (x3 + zr5))) 13 (upd (V9 13) (I8 9).toNatClampNeg ((I8 14) + x4)))) := hD
                        refine lv_aload_n hx hb dX10_lend_202 rfl (lv_at hl 1 rfl) ?_
                        refine lv_dup hx hb dX10_lend_203 rfl ?_
                        refine va_get (D := D) (ci := 10) (v := .int (I8 9)) (C := RX10) (T := TX10) (N := 38) hx hb hts in_X10 hown hK hP 0 rfl rfl 9 (by decide) g_135 (fun _ h9 => h9) rfl dX10_lend_204 ?_
                        refine lv_iconst (v := 1) hx hb dX10_lend_207 (by decide) ?_
                        refine lv_iadd hx hb dX10_lend_208 ?_
                        refine va_put (D := D) (ci := 10) (v := .int ((I8 9) + 1)) (ty := .int) (C := RX10) (T := TX10) (N := 38) hx hb hts in_X10 tyX10 tyX10_ok nmX10 hown hK hP hD hS 0 rfl rfl 9 (by decide) g_135 (fun _ h9 => h9) rfl (by decide +kernel) rfl rfl (Nat.le_of_ble_eq_true rfl) dX10_lend_209 (fun H locs hP hD hS => ?_)
                        have hP : va_P D vwCl (w_M cs o h (va_up I8 9 ((I8 9) + 1)) (va_up (va_up (va_up (va_up (va_up V9 5 (upd (upd (V9 5) x1.toNatClampNeg (((V9 5) x1.toNatClampNeg) - x3)) x2.toNatClampNeg (((upd (V9 5) x1.toNatClampNeg (((V9 5) x1.toNatClampNeg) - x3)) x2.toNatClampNeg) + x3))) 10 (upd (V9 10) (I8 9).toNatClampNeg x1)) 11 (upd (V9 11) (I8 9).toNatClampNeg x2)) 12 (upd (V9 12) (I8 9).toNatClampNeg (x3 + zr5))) 13 (upd (V9 13) (I8 9).toNatClampNeg ((I8 14) + x4)))) H := hP
                        have hD : va_D A (w_M cs o h (va_up I8 9 ((I8 9) + 1)) (va_up (va_up (va_up (va_up (va_up V9 5 (upd (upd (V9 5) x1.toNatClampNeg (((V9 5) x1.toNatClampNeg) - x3)) x2.toNatClampNeg (((upd (V9 5) x1.toNatClampNeg (((V9 5) x1.toNatClampNeg) - x3)) x2.toNatClampNeg) + x3))) 10 (upd (V9 10) (I8 9).toNatClampNeg x1)) 11 (upd (V9 11) (I8 9).toNatClampNeg x2)) 12 (upd (V9 12) (I8 9).toNatClampNeg (x3 + zr5))) 13 (upd (V9 13) (I8 9).toNatClampNeg ((I8 14) + x4)))) := hD
                        refine lv_iload hx hb dX10_lend_212 (lv_at hl 0 rfl) ?_
                        exact hret (x3 + zr5) (va_up I8 9 ((I8 9) + 1)) (va_up (va_up (va_up (va_up (va_up V9 5 (upd (upd (V9 5) x1.toNatClampNeg (((V9 5) x1.toNatClampNeg) - x3)) x2.toNatClampNeg (((upd (V9 5) x1.toNatClampNeg (((V9 5) x1.toNatClampNeg) - x3)) x2.toNatClampNeg) + x3))) 10 (upd (V9 10) (I8 9).toNatClampNeg x1)) 11 (upd (V9 11) (I8 9).toNatClampNeg x2)) 12 (upd (V9 12) (I8 9).toNatClampNeg (x3 + zr5))) 13 (upd (V9 13) (I8 9).toNatClampNeg ((I8 14) + x4))) _ _ 214 _ hf hP hD hS dX10_lend_214
                      · replace hf := ip c125 hf
                        refine lv_bipush (v := (-4)) hx hb dX10_lend_128 (by decide) ?_
                        exact hret (-4) (va_up I 0 0) V _ _ 130 _ hf hP hD hS dX10_lend_130
                    · replace hf := im c113 hf
                      refine lv_bipush (v := (-3)) hx hb dX10_lend_116 (by decide) ?_
                      exact hret (-3) (va_up I 0 0) V _ _ 118 _ hf hP hD hS dX10_lend_118
          · replace hf := ip c50 hf
            refine lv_bipush (v := (-2)) hx hb dX10_lend_53 (by decide) ?_
            exact hret (-2) (va_up I 0 0) V _ _ 55 _ hf hP hD hS dX10_lend_55
    · replace hf := im c18 hf
      refine lv_iconst (v := (-1)) hx hb dX10_lend_21 (by decide) ?_
      exact hret (-1) (va_up I 0 0) V _ _ 22 _ hf hP hD hS dX10_lend_22
def M_week_L23 {ρ : Type} (f : Nat) (k_23 : Int32 → FI → FV → Option ρ) : Nat → Int32 → Int32 → FI → FV → Option ρ
  | 0, _, _, _, _ => none
  | n_23 + 1, x1_23, x2_23, Im_23, Vm_23 => (if (Im_23 9) ≤ x2_23 then (k_23 x1_23 Im_23 Vm_23) else if x2_23 < 0 ∨ 12 ≤ x2_23.toNatClampNeg then none else ((if ((Vm_23 13) x2_23.toNatClampNeg) = (Im_23 14) then if x2_23 < 0 ∨ 12 ≤ x2_23.toNatClampNeg then none else (nm ((Vm_23 11) x2_23.toNatClampNeg) (fun y4 => if y4 < 0 ∨ 6 ≤ y4.toNatClampNeg then none else (if x2_23 < 0 ∨ 12 ≤ x2_23.toNatClampNeg then none else ((nm (fun (t0_87 : Int32) => if x2_23 < 0 ∨ 12 ≤ x2_23.toNatClampNeg then none else ((nm (fun (t1_117 : Int32) => if y4 < 0 ∨ 6 ≤ y4.toNatClampNeg then none else ((nm (fun (t2_149 : Int32) => if y4 < 0 ∨ 6 ≤ y4.toNatClampNeg then none else (if y4 < 0 ∨ 6 ≤ y4.toNatClampNeg then none else (if y4 < 0 ∨ 6 ≤ y4.toNatClampNeg then none else (if x2_23 < 0 ∨ 12 ≤ x2_23.toNatClampNeg then none else (if ((Vm_23 10) x2_23.toNatClampNeg) < 0 ∨ 6 ≤ ((Vm_23 10) x2_23.toNatClampNeg).toNatClampNeg then none else (if ((Vm_23 10) x2_23.toNatClampNeg) < 0 ∨ 6 ≤ ((Vm_23 10) x2_23.toNatClampNeg).toNatClampNeg then none else (ob2 (M_drop f x2_23 Im_23 (va_up (va_up Vm_23 8 (upd (Vm_23 8) y4.toNatClampNeg (vp_nar .boolean t2_149))) 5 (upd (upd (Vm_23 5) y4.toNatClampNeg (((Vm_23 5) y4.toNatClampNeg) - t0_87)) ((Vm_23 10) x2_23.toNatClampNeg).toNatClampNeg (((upd (Vm_23 5) y4.toNatClampNeg (((Vm_23 5) y4.toNatClampNeg) - t0_87)) ((Vm_23 10) x2_23.toNatClampNeg).toNatClampNeg) + t0_87)))) (fun I6 V7 => (M_week_L23 f k_23 n_23 (x1_23 ||| t1_117) x2_23 I6 V7))))))))) (fun j149 => nm (fun (u_144 : Unit) => (j149 1)) (fun j144 => (if ((Vm_23 8) y4.toNatClampNeg) = 0 then if x2_23 < 0 ∨ 12 ≤ x2_23.toNatClampNeg then none else ((if ((Vm_23 12) x2_23.toNatClampNeg) ≤ t0_87 then (j149 0) else (j144 ()))) else (j144 ()))))))) (fun j117 => nm (fun (u_116 : Unit) => (j117 0)) (fun j116 => (if ((Vm_23 12) x2_23.toNatClampNeg) ≤ t0_87 then (j116 ()) else if y4 < 0 ∨ 6 ≤ y4.toNatClampNeg then none else ((if ((Vm_23 8) y4.toNatClampNeg) = 0 then (j117 (1 <<< (y4 &&& 31))) else (j116 ()))))))))) (fun j87 => (if ((Vm_23 12) x2_23.toNatClampNeg) ≤ ((Vm_23 5) y4.toNatClampNeg) then if x2_23 < 0 ∨ 12 ≤ x2_23.toNatClampNeg then none else ((j87 ((Vm_23 12) x2_23.toNatClampNeg))) else if y4 < 0 ∨ 6 ≤ y4.toNatClampNeg then none else ((j87 ((Vm_23 5) y4.toNatClampNeg)))))))))) else (M_week_L23 f k_23 n_23 x1_23 (x2_23 + 1) Im_23 Vm_23))))
def M_week_L187 {ρ : Type} (f : Nat) (Im_23 : FI) (k_187 : FV → Option ρ) : Nat → Int32 → FV → Option ρ
  | 0, _, _ => none
  | n_187 + 1, x3_187, Vm_187 => (if (Im_23 4) ≤ x3_187 then (k_187 Vm_187) else (nm (fun (t2_231 : Int32) => if x3_187 < 0 ∨ 6 ≤ x3_187.toNatClampNeg then none else ((M_week_L187 f Im_23 k_187 n_187 (x3_187 + 1) (va_up Vm_187 5 (upd (Vm_187 5) x3_187.toNatClampNeg t2_231))))) (fun j231 => nm (fun (u_225 : Unit) => if x3_187 < 0 ∨ 6 ≤ x3_187.toNatClampNeg then none else ((j231 ((Vm_187 5) x3_187.toNatClampNeg)))) (fun j225 => (if ((Im_23 14) - (Im_23 14) / 4 * 4) = 0 then if x3_187 < 0 ∨ 6 ≤ x3_187.toNatClampNeg then none else ((if ((Vm_187 5) x3_187.toNatClampNeg) ≤ 20 then (j225 ()) else (j231 20))) else (j225 ()))))))
def M_week (f : Nat) (I : FI) (V : FV) : Option (Int32 × FI × FV) := ob2 (M_note f (va_up I 0 0) V) (fun I2 V3 => (M_week_L23 f (fun (x1_23 : Int32) (Im_23 : FI) (Vm_23 : FV) => (M_week_L187 f Im_23 (fun (Vm_187 : FV) => some (x1_23, Im_23, Vm_187)) f 0 Vm_23)) f 0 0 (va_up I2 14 ((I2 14) + 1)) V3))
abbrev rm_M_week : Room := { frames := 2, cells := 0, slots := 0, locals := 44 }
set_option maxHeartbeats 4000000 in
set_option maxRecDepth 100000 in
theorem c_M_week (l : Launch) (D : va_G) (cs : Nat → ClassId) (o : Nat) (h : Nat → Nat) (sz : Nat) (I : FI) (V : FV) (f : Nat) (out : Int32 × FI × FV) (hf : M_week f I V = some out) : Met l yX10_week wsX10_week rm_M_week (va_Pc [.ref o] (xP D cs (w_M cs o h I V) sz)) (va_Qi (fun r u => (r, u) = out) (fun (u : FI × FV) t => xA D cs (va_A (w_M cs o h I V) sz) (w_M cs o h u.1 u.2) t) (va_A (w_M cs o h I V) sz)) 0 0 (va_A (w_M cs o h I V) sz) := by
  refine Met.ofW (cc := cX10_week) (maxL := 5) (ret := (some .int)) (by decide) rfl ?_
  intro p e s m args below meth c s₁ B hml hv
  obtain ⟨ha, hsz, hP, hK, hD0⟩ := hv
  have hx := B.exec
  have hb := B.bytes
  have hr := B.returns
  have hts := atoms_spec (ws := wsX10_week) B.pre
  have hown : s.vm.findClass RX10 = some m.cls := findClass_of_methodNamed B.named
  have hlocks := B.notSynchronized
  have in_X10 : ∀ w ∈ u_ws RX10 TX10 38, w ∈ wsX10_week := fun w h => List.mem_cons_of_mem _ (List.mem_append_right _ h)
  have g_92 := hts (.fieldLink RX10 92 "DaysLentModel" "thrown" "I") (by decide +kernel)
  have w_note_173 := cwV (R := rm_M_week) (s := s) (args := args) (rm := rm_M_note) (mc := 0) (ms := 0) 0 hts gX10_week_X10_note rfl rfl rfl (by decide +kernel) ⟨Nat.le_of_ble_eq_true rfl, Nat.le_of_ble_eq_true rfl⟩
  have g_138 := hts (.fieldLink RX10 138 "DaysLentModel" "week" "I") (by decide +kernel)
  have g_135 := hts (.fieldLink RX10 135 "DaysLentModel" "debts" "I") (by decide +kernel)
  have g_35 := hts (.fieldLink RX10 35 "DaysLentModel" "due" "[I") (by decide +kernel)
  have g_29 := hts (.fieldLink RX10 29 "DaysLentModel" "owes" "[I") (by decide +kernel)
  have g_13 := hts (.fieldLink RX10 13 "DaysLentModel" "mornings" "[I") (by decide +kernel)
  have g_32 := hts (.fieldLink RX10 32 "DaysLentModel" "much" "[I") (by decide +kernel)
  have g_23 := hts (.fieldLink RX10 23 "DaysLentModel" "broken" "[Z") (by decide +kernel)
  have g_26 := hts (.fieldLink RX10 26 "DaysLentModel" "owed" "[I") (by decide +kernel)
  have w_drop_176 := cwV (R := rm_M_week) (s := s) (args := args) (rm := rm_M_drop) (mc := 0) (ms := 0) 1 hts gX10_week_X10_drop rfl rfl rfl (by decide +kernel) ⟨Nat.le_of_ble_eq_true rfl, Nat.le_of_ble_eq_true rfl⟩
  have g_96 := hts (.fieldLink RX10 96 "DaysLentModel" "people" "I") (by decide +kernel)
  subst hsz
  have hD := hD0.self (sz := s.heap.size)
  generalize hAe : va_A (w_M cs o h I V) s.heap.size = A at hD ⊢
  have hA : ∀ q : Nat, s.heap.size ≤ q → A q := fun q h => by rw [← hAe]; exact Or.inr h
  have hS : va_S A s.heap s.heap [] := va_S.rf
  have hl := lv_entry ([.ref o]) (n := 5) (Nat.le_of_ble_eq_true rfl)
  rw [show entryFrame m args 5 = entryFrame m ([.ref o] : List Value).toArray 5 from by rw [ha], lg_entry_eq]
  generalize (lg_sl ([.ref o]) ++ List.replicate (5 - (lg_sl ([.ref o])).length) Slot.unset).toArray = ls at hl ⊢
  have hl : lv_has ls 5 [(0, .ref o)] := hl
  generalize hQ : MQ below (va_Qi (fun r u => (r, u) = out) (fun (u : FI × FV) t => xA D cs A (w_M cs o h u.1 u.2) t) A) args s 0 0 A = Q
  show W p l e rm_M_week s m args below meth c s.heap [] 0 0 Q (F0 m 0 ls [])
  have hret : ∀ (v : Int32) (Im9 : FI) (Vm9 : FV) (H : Heap) (locs : List Loc) (pc : Nat) (ls : Array Slot), some (v, Im9, Vm9) = some out → va_P D vwCl (w_M cs o h Im9 Vm9) H → va_D A (w_M cs o h Im9 Vm9) → va_S A s.heap H locs → decode cX10_week pc = .ok (.ireturn, 1) → W p l e rm_M_week s m args below meth c H locs 0 0 Q (F0 m pc ls [.int v]) := by
    intro v Im9 Vm9 H locs pc ls hf hP hD hS hd
    rw [← hQ]
    exact W.iret (v := v) hx hb hr (fun t ht hW => ⟨⟨v, (Im9, Vm9), rfl, Option.some.inj hf, by show va_P D vwCl (w_M cs o h Im9 Vm9) t.heap; rw [ht]; exact hP, va_K.moved hW.alike hK, hD⟩, hS.F ht⟩) hS.2.2 hd
  unfold M_week at hf
  refine lv_aload_n hx hb dX10_week_0 rfl (lv_at hl 0 rfl) ?_
  refine lv_iconst (v := 0) hx hb dX10_week_1 (by decide) ?_
  refine va_put (D := D) (ci := 10) (v := .int 0) (ty := .int) (C := RX10) (T := TX10) (N := 38) hx hb hts in_X10 tyX10 tyX10_ok nmX10 hown hK hP hD hS 0 rfl rfl 0 (by decide) g_92 (fun _ h9 => h9) rfl (by decide +kernel) rfl rfl (Nat.le_of_ble_eq_true rfl) dX10_week_2 (fun H locs hP hD hS => ?_)
  have hP : va_P D vwCl (w_M cs o h (va_up I 0 0) V) H := hP
  have hD : va_D A (w_M cs o h (va_up I 0 0) V) := hD
  refine lv_aload_n hx hb dX10_week_5 rfl (lv_at hl 0 rfl) ?_
  obtain ⟨I2, V3, qr1, hf⟩ := bd2 hf
  have hFc := xfree hD hS hA
  refine va_callv (va_runV (As := []) (rest := []) ⟨hx, hb, hml, hown, hts⟩ (c_M_note l D cs o h _ (va_up I 0 0) V f _ qr1) w_note_173 ⟨xP_moved, va_recv hK hP (ci := 10) (q0 := 0) rfl rfl, fun U hU hW => ⟨rfl, by rw [hU], by rw [hU]; exact hP, va_K.moved hW.alike hK, hD.weaken (fun _ _ _ _ => trivial)⟩⟩ rfl rfl hl.1 rfl (lv_room (Nat.le_of_ble_eq_true rfl)) dX10_week_6 ⟨Nat.zero_le _, Nat.zero_le _⟩) hS (fun q _ h9 => hFc q h9) hFc (fun u t H1 locs ht hvm hw hB hz1 hk1 hS => ?_)
  rw [hw] at hB
  obtain ⟨hP1, hK1, hD1⟩ := hB
  have hP : va_P D vwCl (w_M cs o h I2 V3) H1 := by rw [← ht]; exact hP1
  have hD : va_D A (w_M cs o h I2 V3) := hD1.weaken (fun _ q _ h9 => hFc q.1 h9)
  refine lv_aload_n hx hb dX10_week_9 rfl (lv_at hl 0 rfl) ?_
  refine lv_dup hx hb dX10_week_10 rfl ?_
  refine va_get (D := D) (ci := 10) (v := .int (I2 14)) (C := RX10) (T := TX10) (N := 38) hx hb hts in_X10 hown hK hP 0 rfl rfl 14 (by decide) g_138 (fun _ h9 => h9) rfl dX10_week_11 ?_
  refine lv_iconst (v := 1) hx hb dX10_week_14 (by decide) ?_
  refine lv_iadd hx hb dX10_week_15 ?_
  refine va_put (D := D) (ci := 10) (v := .int ((I2 14) + 1)) (ty := .int) (C := RX10) (T := TX10) (N := 38) hx hb hts in_X10 tyX10 tyX10_ok nmX10 hown hK hP hD hS 0 rfl rfl 14 (by decide) g_138 (fun _ h9 => h9) rfl (by decide +kernel) rfl rfl (Nat.le_of_ble_eq_true rfl) dX10_week_16 (fun H locs hP hD hS => ?_)
  have hP : va_P D vwCl (w_M cs o h (va_up I2 14 ((I2 14) + 1)) V3) H := hP
  have hD : va_D A (w_M cs o h (va_up I2 14 ((I2 14) + 1)) V3) := hD
  refine lv_iconst (v := 0) hx hb dX10_week_19 (by decide) ?_
  refine lv_istore_n (lv' := [(1, .int 0), (0, .ref o)]) hx hb dX10_week_20 rfl hl (by decide) rfl (fun ls hl => ?_)
  refine lv_iconst (v := 0) hx hb dX10_week_21 (by decide) ?_
  refine lv_istore_n (lv' := [(2, .int 0), (1, .int 0), (0, .ref o)]) hx hb dX10_week_22 rfl hl (by decide) rfl (fun ls hl => ?_)
  have L23 : ∀ (k_23 : Int32 → FI → FV → Option (Int32 × FI × FV)) (hk_23 : ∀ (x1_23 : Int32) (Im_23 : FI) (Vm_23 : FV), k_23 x1_23 Im_23 Vm_23 = some out → ∀ (H : Heap) (locs : List Loc), va_P D vwCl (w_M cs o h Im_23 Vm_23) H → va_D A (w_M cs o h Im_23 Vm_23) → va_S A s.heap H locs → ∀ ls : Array Slot, lv_has ls 5 [(0, .ref o), (1, .int x1_23)] → W p l e rm_M_week s m args below meth c H locs 0 0 Q (F0 m 185 ls [])), ∀ (n_23 : Nat) (x1_23 : Int32) (x2_23 : Int32) (Im_23 : FI) (Vm_23 : FV), M_week_L23 f k_23 n_23 x1_23 x2_23 Im_23 Vm_23 = some out → ∀ (H : Heap) (locs : List Loc), va_P D vwCl (w_M cs o h Im_23 Vm_23) H → va_D A (w_M cs o h Im_23 Vm_23) → va_S A s.heap H locs → ∀ ls : Array Slot, lv_has ls 5 [(0, .ref o), (1, .int x1_23), (2, .int x2_23)] → W p l e rm_M_week s m args below meth c H locs 0 0 Q (F0 m 23 ls []) := by
    intro k_23 hk_23 n_23
    induction n_23 with
    | zero => intro x1_23 x2_23 Im_23 Vm_23 hf; rw [M_week_L23] at hf; cases hf
    | succ n_23 ih_23 =>
      intro x1_23 x2_23 Im_23 Vm_23 hf H locs hP hD hS ls hl
      rw [M_week_L23] at hf
      refine lv_iload_n hx hb dX10_week_23 rfl (lv_at hl 2 rfl) ?_
      refine lv_aload_n hx hb dX10_week_24 rfl (lv_at hl 0 rfl) ?_
      refine va_get (D := D) (ci := 10) (v := .int (Im_23 9)) (C := RX10) (T := TX10) (N := 38) hx hb hts in_X10 hown hK hP 0 rfl rfl 9 (by decide) g_135 (fun _ h9 => h9) rfl dX10_week_25 ?_
      refine lv_icmp_ge (tgt := 185) hx hb dX10_week_28 (by decide) (fun c28 => ?_) (fun c28 => ?_)
      · replace hf := ip c28 hf
        exact hk_23 x1_23 Im_23 Vm_23 hf _ _ hP hD hS _ (lv_sub hl [0, 1] rfl)
      · replace hf := im c28 hf
        refine lv_aload_n hx hb dX10_week_31 rfl (lv_at hl 0 rfl) ?_
        refine va_get (D := D) (ci := 10) (v := .ref (h 13)) (C := RX10) (T := TX10) (N := 38) hx hb hts in_X10 hown hK hP 0 rfl rfl 13 (by decide) g_35 (fun _ h9 => h9) rfl dX10_week_32 ?_
        refine lv_iload_n hx hb dX10_week_35 rfl (lv_at hl 2 rfl) ?_
        obtain ⟨c36, hf⟩ := gd hf
        refine va_iald hx hb hK hP 9 0 rfl rfl c36 dX10_week_36 ?_
        refine lv_aload_n hx hb dX10_week_37 rfl (lv_at hl 0 rfl) ?_
        refine va_get (D := D) (ci := 10) (v := .int (Im_23 14)) (C := RX10) (T := TX10) (N := 38) hx hb hts in_X10 hown hK hP 0 rfl rfl 14 (by decide) g_138 (fun _ h9 => h9) rfl dX10_week_38 ?_
        refine lv_icmp_eq (tgt := 50) hx hb dX10_week_41 (by decide) (fun c41 => ?_) (fun c41 => ?_)
        · replace hf := ip c41 hf
          refine lv_aload_n hx hb dX10_week_50 rfl (lv_at hl 0 rfl) ?_
          refine va_get (D := D) (ci := 10) (v := .ref (h 11)) (C := RX10) (T := TX10) (N := 38) hx hb hts in_X10 hown hK hP 0 rfl rfl 11 (by decide) g_29 (fun _ h9 => h9) rfl dX10_week_51 ?_
          refine lv_iload_n hx hb dX10_week_54 rfl (lv_at hl 2 rfl) ?_
          obtain ⟨c55, hf⟩ := gd hf
          refine va_iald hx hb hK hP 7 0 rfl rfl c55 dX10_week_55 ?_
          refine lv_topi (fun y4 ey4 => ?_)
          replace hf := nmd hf ey4
          refine lv_istore_n (lv' := [(3, .int y4), (0, .ref o), (1, .int x1_23), (2, .int x2_23)]) hx hb dX10_week_56 rfl hl (by decide) rfl (fun ls hl => ?_)
          refine lv_aload_n hx hb dX10_week_57 rfl (lv_at hl 1 rfl) ?_
          refine va_get (D := D) (ci := 10) (v := .ref (h 5)) (C := RX10) (T := TX10) (N := 38) hx hb hts in_X10 hown hK hP 0 rfl rfl 5 (by decide) g_13 (fun _ h9 => h9) rfl dX10_week_58 ?_
          refine lv_iload_n hx hb dX10_week_61 rfl (lv_at hl 0 rfl) ?_
          obtain ⟨c62, hf⟩ := gd hf
          refine va_iald hx hb hK hP 2 0 rfl rfl c62 dX10_week_62 ?_
          refine lv_aload_n hx hb dX10_week_63 rfl (lv_at hl 1 rfl) ?_
          refine va_get (D := D) (ci := 10) (v := .ref (h 12)) (C := RX10) (T := TX10) (N := 38) hx hb hts in_X10 hown hK hP 0 rfl rfl 12 (by decide) g_32 (fun _ h9 => h9) rfl dX10_week_64 ?_
          refine lv_iload_n hx hb dX10_week_67 rfl (lv_at hl 3 rfl) ?_
          obtain ⟨c68, hf⟩ := gd hf
          refine va_iald hx hb hK hP 8 0 rfl rfl c68 dX10_week_68 ?_
          obtain ⟨j87, ej87, hf⟩ := nme hf
          have J87 : ∀ (t0_87 : Int32), j87 t0_87 = some out → ∀ (H : Heap) (locs : List Loc), va_P D vwCl (w_M cs o h Im_23 Vm_23) H → va_D A (w_M cs o h Im_23 Vm_23) → va_S A s.heap H locs → ∀ ls : Array Slot, lv_has ls 5 [(0, .ref o), (1, .int x1_23), (2, .int x2_23), (3, .int y4)] → W p l e rm_M_week s m args below meth c H locs 0 0 Q (F0 m 87 ls [.int t0_87]) := by
            intro t0_87 hf H locs hP hD hS ls hl
            rw [ej87] at hf
            refine lv_istore (lv' := [(4, .int t0_87), (0, .ref o), (1, .int x1_23), (2, .int x2_23), (3, .int y4)]) hx hb dX10_week_87 hl (by decide) rfl (fun ls hl => ?_)
            refine lv_iload_n hx hb dX10_week_89 rfl (lv_at hl 2 rfl) ?_
            refine lv_iload hx hb dX10_week_90 (lv_at hl 0 rfl) ?_
            refine lv_aload_n hx hb dX10_week_92 rfl (lv_at hl 1 rfl) ?_
            refine va_get (D := D) (ci := 10) (v := .ref (h 12)) (C := RX10) (T := TX10) (N := 38) hx hb hts in_X10 hown hK hP 0 rfl rfl 12 (by decide) g_32 (fun _ h9 => h9) rfl dX10_week_93 ?_
            refine lv_iload_n hx hb dX10_week_96 rfl (lv_at hl 3 rfl) ?_
            obtain ⟨c97, hf⟩ := gd hf
            refine va_iald hx hb hK hP 8 0 rfl rfl c97 dX10_week_97 ?_
            obtain ⟨j117, ej117, hf⟩ := nme hf
            have J117 : ∀ (t1_117 : Int32), j117 t1_117 = some out → ∀ (H : Heap) (locs : List Loc), va_P D vwCl (w_M cs o h Im_23 Vm_23) H → va_D A (w_M cs o h Im_23 Vm_23) → va_S A s.heap H locs → ∀ ls : Array Slot, lv_has ls 5 [(0, .ref o), (2, .int x2_23), (3, .int y4), (4, .int t0_87)] → W p l e rm_M_week s m args below meth c H locs 0 0 Q (F0 m 117 ls [.int t1_117, .int x1_23]) := by
              intro t1_117 hf H locs hP hD hS ls hl
              rw [ej117] at hf
              refine lv_ior hx hb dX10_week_117 ?_
              refine lv_istore_n (lv' := [(1, .int (x1_23 ||| t1_117)), (0, .ref o), (2, .int x2_23), (3, .int y4), (4, .int t0_87)]) hx hb dX10_week_118 rfl hl (by decide) rfl (fun ls hl => ?_)
              refine lv_aload_n hx hb dX10_week_119 rfl (lv_at hl 1 rfl) ?_
              refine va_get (D := D) (ci := 10) (v := .ref (h 8)) (C := RX10) (T := TX10) (N := 38) hx hb hts in_X10 hown hK hP 0 rfl rfl 8 (by decide) g_23 (fun _ h9 => h9) rfl dX10_week_120 ?_
              refine lv_iload_n hx hb dX10_week_123 rfl (lv_at hl 3 rfl) ?_
              refine lv_aload_n hx hb dX10_week_124 rfl (lv_at hl 1 rfl) ?_
              refine va_get (D := D) (ci := 10) (v := .ref (h 8)) (C := RX10) (T := TX10) (N := 38) hx hb hts in_X10 hown hK hP 0 rfl rfl 8 (by decide) g_23 (fun _ h9 => h9) rfl dX10_week_125 ?_
              refine lv_iload_n hx hb dX10_week_128 rfl (lv_at hl 3 rfl) ?_
              obtain ⟨c129, hf⟩ := gd hf
              refine va_zald hx hb hK hP 5 1 rfl rfl c129 dX10_week_129 ?_
              obtain ⟨j149, ej149, hf⟩ := nme hf
              have J149 : ∀ (t2_149 : Int32), j149 t2_149 = some out → ∀ (H : Heap) (locs : List Loc), va_P D vwCl (w_M cs o h Im_23 Vm_23) H → va_D A (w_M cs o h Im_23 Vm_23) → va_S A s.heap H locs → ∀ ls : Array Slot, lv_has ls 5 [(0, .ref o), (1, .int (x1_23 ||| t1_117)), (2, .int x2_23), (3, .int y4), (4, .int t0_87)] → W p l e rm_M_week s m args below meth c H locs 0 0 Q (F0 m 149 ls [.int t2_149, .int y4, .ref (h 8)]) := by
                intro t2_149 hf H locs hP hD hS ls hl
                rw [ej149] at hf
                obtain ⟨c149, hf⟩ := gd hf
                refine va_zast hx hb hK hP hD hS 5 1 rfl rfl c149 dX10_week_149 (fun H locs hP hD hS => ?_)
                have hP : va_P D vwCl (w_M cs o h Im_23 (va_up Vm_23 8 (upd (Vm_23 8) y4.toNatClampNeg (vp_nar .boolean t2_149)))) H := hP
                have hD : va_D A (w_M cs o h Im_23 (va_up Vm_23 8 (upd (Vm_23 8) y4.toNatClampNeg (vp_nar .boolean t2_149)))) := hD
                refine lv_aload_n hx hb dX10_week_150 rfl (lv_at hl 0 rfl) ?_
                refine va_get (D := D) (ci := 10) (v := .ref (h 5)) (C := RX10) (T := TX10) (N := 38) hx hb hts in_X10 hown hK hP 0 rfl rfl 5 (by decide) g_13 (fun _ h9 => h9) rfl dX10_week_151 ?_
                refine lv_iload_n hx hb dX10_week_154 rfl (lv_at hl 3 rfl) ?_
                refine lv_dup2_11 hx hb dX10_week_155 rfl rfl ?_
                obtain ⟨c156, hf⟩ := gd hf
                refine va_iald hx hb hK hP 2 0 rfl rfl c156 dX10_week_156 ?_
                refine lv_iload hx hb dX10_week_157 (lv_at hl 4 rfl) ?_
                refine lv_isub hx hb dX10_week_159 ?_
                obtain ⟨c160, hf⟩ := gd hf
                refine va_iast hx hb hK hP hD hS 2 0 rfl rfl c160 dX10_week_160 (fun H locs hP hD hS => ?_)
                have hP : va_P D vwCl (w_M cs o h Im_23 (va_up (va_up Vm_23 8 (upd (Vm_23 8) y4.toNatClampNeg (vp_nar .boolean t2_149))) 5 (upd (Vm_23 5) y4.toNatClampNeg (((Vm_23 5) y4.toNatClampNeg) - t0_87)))) H := hP
                have hD : va_D A (w_M cs o h Im_23 (va_up (va_up Vm_23 8 (upd (Vm_23 8) y4.toNatClampNeg (vp_nar .boolean t2_149))) 5 (upd (Vm_23 5) y4.toNatClampNeg (((Vm_23 5) y4.toNatClampNeg) - t0_87)))) := hD
                refine lv_aload_n hx hb dX10_week_161 rfl (lv_at hl 0 rfl) ?_
                refine va_get (D := D) (ci := 10) (v := .ref (h 5)) (C := RX10) (T := TX10) (N := 38) hx hb hts in_X10 hown hK hP 0 rfl rfl 5 (by decide) g_13 (fun _ h9 => h9) rfl dX10_week_162 ?_
                refine lv_aload_n hx hb dX10_week_165 rfl (lv_at hl 0 rfl) ?_
                refine va_get (D := D) (ci := 10) (v := .ref (h 10)) (C := RX10) (T := TX10) (N := 38) hx hb hts in_X10 hown hK hP 0 rfl rfl 10 (by decide) g_26 (fun _ h9 => h9) rfl dX10_week_166 ?_
                refine lv_iload_n hx hb dX10_week_169 rfl (lv_at hl 2 rfl) ?_
                obtain ⟨c170, hf⟩ := gd hf
                refine va_iald hx hb hK hP 6 0 rfl rfl c170 dX10_week_170 ?_
                refine lv_dup2_11 hx hb dX10_week_171 rfl rfl ?_
                obtain ⟨c172, hf⟩ := gd hf
                refine va_iald hx hb hK hP 2 0 rfl rfl c172 dX10_week_172 ?_
                refine lv_iload hx hb dX10_week_173 (lv_at hl 4 rfl) ?_
                refine lv_iadd hx hb dX10_week_175 ?_
                obtain ⟨c176, hf⟩ := gd hf
                refine va_iast hx hb hK hP hD hS 2 0 rfl rfl c176 dX10_week_176 (fun H locs hP hD hS => ?_)
                have hP : va_P D vwCl (w_M cs o h Im_23 (va_up (va_up Vm_23 8 (upd (Vm_23 8) y4.toNatClampNeg (vp_nar .boolean t2_149))) 5 (upd (upd (Vm_23 5) y4.toNatClampNeg (((Vm_23 5) y4.toNatClampNeg) - t0_87)) ((Vm_23 10) x2_23.toNatClampNeg).toNatClampNeg (((upd (Vm_23 5) y4.toNatClampNeg (((Vm_23 5) y4.toNatClampNeg) - t0_87)) ((Vm_23 10) x2_23.toNatClampNeg).toNatClampNeg) + t0_87)))) H := hP
                have hD : va_D A (w_M cs o h Im_23 (va_up (va_up Vm_23 8 (upd (Vm_23 8) y4.toNatClampNeg (vp_nar .boolean t2_149))) 5 (upd (upd (Vm_23 5) y4.toNatClampNeg (((Vm_23 5) y4.toNatClampNeg) - t0_87)) ((Vm_23 10) x2_23.toNatClampNeg).toNatClampNeg (((upd (Vm_23 5) y4.toNatClampNeg (((Vm_23 5) y4.toNatClampNeg) - t0_87)) ((Vm_23 10) x2_23.toNatClampNeg).toNatClampNeg) + t0_87)))) := hD
                refine lv_aload_n hx hb dX10_week_177 rfl (lv_at hl 0 rfl) ?_
                refine lv_iload_n hx hb dX10_week_178 rfl (lv_at hl 2 rfl) ?_
                obtain ⟨I6, V7, qr5, hf⟩ := bd2 hf
                have hFc := xfree hD hS hA
                refine va_callv (va_runV (As := [.int x2_23]) (rest := []) ⟨hx, hb, hml, hown, hts⟩ (c_M_drop l D cs o h _ Im_23 (va_up (va_up Vm_23 8 (upd (Vm_23 8) y4.toNatClampNeg (vp_nar .boolean t2_149))) 5 (upd (upd (Vm_23 5) y4.toNatClampNeg (((Vm_23 5) y4.toNatClampNeg) - t0_87)) ((Vm_23 10) x2_23.toNatClampNeg).toNatClampNeg (((upd (Vm_23 5) y4.toNatClampNeg (((Vm_23 5) y4.toNatClampNeg) - t0_87)) ((Vm_23 10) x2_23.toNatClampNeg).toNatClampNeg) + t0_87))) x2_23 f _ qr5) w_drop_176 ⟨xP_moved, va_recv hK hP (ci := 10) (q0 := 0) rfl rfl, fun U hU hW => ⟨rfl, by rw [hU], by rw [hU]; exact hP, va_K.moved hW.alike hK, hD.weaken (fun _ _ _ _ => trivial)⟩⟩ rfl rfl hl.1 rfl (lv_room (Nat.le_of_ble_eq_true rfl)) dX10_week_179 ⟨Nat.zero_le _, Nat.zero_le _⟩) hS (fun q _ h9 => hFc q h9) hFc (fun u t H1 locs ht hvm hw hB hz1 hk1 hS => ?_)
                rw [hw] at hB
                obtain ⟨hP1, hK1, hD1⟩ := hB
                have hP : va_P D vwCl (w_M cs o h I6 V7) H1 := by rw [← ht]; exact hP1
                have hD : va_D A (w_M cs o h I6 V7) := hD1.weaken (fun _ q _ h9 => hFc q.1 h9)
                refine lv_goto (tgt := 23) hx hb dX10_week_182 (by decide) ?_
                exact ih_23 (x1_23 ||| t1_117) x2_23 I6 V7 hf _ _ hP hD hS _ (lv_sub hl [0, 1, 2] rfl)
              obtain ⟨j144, ej144, hf⟩ := nme hf
              have J144 : ∀ (u_144 : Unit), j144 u_144 = some out → ∀ (H : Heap) (locs : List Loc), va_P D vwCl (w_M cs o h Im_23 Vm_23) H → va_D A (w_M cs o h Im_23 Vm_23) → va_S A s.heap H locs → ∀ ls : Array Slot, lv_has ls 5 [(0, .ref o), (1, .int (x1_23 ||| t1_117)), (2, .int x2_23), (3, .int y4), (4, .int t0_87)] → W p l e rm_M_week s m args below meth c H locs 0 0 Q (F0 m 144 ls [.int y4, .ref (h 8)]) := by
                intro u_144 hf H locs hP hD hS ls hl
                rw [ej144] at hf
                refine lv_iconst (v := 1) hx hb dX10_week_144 (by decide) ?_
                refine lv_goto (tgt := 149) hx hb dX10_week_145 (by decide) ?_
                exact J149 1 hf _ _ hP hD hS _ (lv_sub hl [0, 1, 2, 3, 4] rfl)
              refine lv_if_ne (tgt := 144) hx hb dX10_week_130 (by decide) (fun c130 => ?_) (fun c130 => ?_)
              · replace hf := im c130 hf
                exact J144 () hf _ _ hP hD hS _ (lv_sub hl [1, 0, 2, 3, 4] rfl)
              · replace hf := ip c130 hf
                refine lv_iload hx hb dX10_week_133 (lv_at hl 4 rfl) ?_
                refine lv_aload_n hx hb dX10_week_135 rfl (lv_at hl 1 rfl) ?_
                refine va_get (D := D) (ci := 10) (v := .ref (h 12)) (C := RX10) (T := TX10) (N := 38) hx hb hts in_X10 hown hK hP 0 rfl rfl 12 (by decide) g_32 (fun _ h9 => h9) rfl dX10_week_136 ?_
                refine lv_iload_n hx hb dX10_week_139 rfl (lv_at hl 2 rfl) ?_
                obtain ⟨c140, hf⟩ := gd hf
                refine va_iald hx hb hK hP 8 0 rfl rfl c140 dX10_week_140 ?_
                refine lv_icmp_ge (tgt := 148) hx hb dX10_week_141 (by decide) (fun c141 => ?_) (fun c141 => ?_)
                · replace hf := ip c141 hf
                  refine lv_iconst (v := 0) hx hb dX10_week_148 (by decide) ?_
                  exact J149 0 hf _ _ hP hD hS _ (lv_sub hl [1, 0, 2, 3, 4] rfl)
                · replace hf := im c141 hf
                  exact J144 () hf _ _ hP hD hS _ (lv_sub hl [1, 0, 2, 3, 4] rfl)
            obtain ⟨j116, ej116, hf⟩ := nme hf
            have J116 : ∀ (u_116 : Unit), j116 u_116 = some out → ∀ (H : Heap) (locs : List Loc), va_P D vwCl (w_M cs o h Im_23 Vm_23) H → va_D A (w_M cs o h Im_23 Vm_23) → va_S A s.heap H locs → ∀ ls : Array Slot, lv_has ls 5 [(0, .ref o), (2, .int x2_23), (3, .int y4), (4, .int t0_87)] → W p l e rm_M_week s m args below meth c H locs 0 0 Q (F0 m 116 ls [.int x1_23]) := by
              intro u_116 hf H locs hP hD hS ls hl
              rw [ej116] at hf
              refine lv_iconst (v := 0) hx hb dX10_week_116 (by decide) ?_
              exact J117 0 hf _ _ hP hD hS _ (lv_sub hl [0, 1, 2, 3] rfl)
            refine lv_icmp_ge (tgt := 116) hx hb dX10_week_98 (by decide) (fun c98 => ?_) (fun c98 => ?_)
            · replace hf := ip c98 hf
              exact J116 () hf _ _ hP hD hS _ (lv_sub hl [1, 3, 4, 0] rfl)
            · replace hf := im c98 hf
              refine lv_aload_n hx hb dX10_week_101 rfl (lv_at hl 1 rfl) ?_
              refine va_get (D := D) (ci := 10) (v := .ref (h 8)) (C := RX10) (T := TX10) (N := 38) hx hb hts in_X10 hown hK hP 0 rfl rfl 8 (by decide) g_23 (fun _ h9 => h9) rfl dX10_week_102 ?_
              refine lv_iload_n hx hb dX10_week_105 rfl (lv_at hl 4 rfl) ?_
              obtain ⟨c106, hf⟩ := gd hf
              refine va_zald hx hb hK hP 5 1 rfl rfl c106 dX10_week_106 ?_
              refine lv_if_ne (tgt := 116) hx hb dX10_week_107 (by decide) (fun c107 => ?_) (fun c107 => ?_)
              · replace hf := im c107 hf
                exact J116 () hf _ _ hP hD hS _ (lv_sub hl [1, 3, 4, 0] rfl)
              · replace hf := ip c107 hf
                refine lv_iconst (v := 1) hx hb dX10_week_110 (by decide) ?_
                refine lv_iload_n hx hb dX10_week_111 rfl (lv_at hl 4 rfl) ?_
                refine lv_ishl hx hb dX10_week_112 ?_
                refine lv_goto (tgt := 117) hx hb dX10_week_113 (by decide) ?_
                exact J117 (1 <<< (y4 &&& 31)) hf _ _ hP hD hS _ (lv_sub hl [1, 3, 4, 0] rfl)
          refine lv_icmp_ge (tgt := 81) hx hb dX10_week_69 (by decide) (fun c69 => ?_) (fun c69 => ?_)
          · replace hf := ip c69 hf
            refine lv_aload_n hx hb dX10_week_81 rfl (lv_at hl 1 rfl) ?_
            refine va_get (D := D) (ci := 10) (v := .ref (h 12)) (C := RX10) (T := TX10) (N := 38) hx hb hts in_X10 hown hK hP 0 rfl rfl 12 (by decide) g_32 (fun _ h9 => h9) rfl dX10_week_82 ?_
            refine lv_iload_n hx hb dX10_week_85 rfl (lv_at hl 3 rfl) ?_
            obtain ⟨c86, hf⟩ := gd hf
            refine va_iald hx hb hK hP 8 0 rfl rfl c86 dX10_week_86 ?_
            exact J87 ((Vm_23 12) x2_23.toNatClampNeg) hf _ _ hP hD hS _ (lv_sub hl [1, 2, 3, 0] rfl)
          · replace hf := im c69 hf
            refine lv_aload_n hx hb dX10_week_72 rfl (lv_at hl 1 rfl) ?_
            refine va_get (D := D) (ci := 10) (v := .ref (h 5)) (C := RX10) (T := TX10) (N := 38) hx hb hts in_X10 hown hK hP 0 rfl rfl 5 (by decide) g_13 (fun _ h9 => h9) rfl dX10_week_73 ?_
            refine lv_iload_n hx hb dX10_week_76 rfl (lv_at hl 0 rfl) ?_
            obtain ⟨c77, hf⟩ := gd hf
            refine va_iald hx hb hK hP 2 0 rfl rfl c77 dX10_week_77 ?_
            refine lv_goto (tgt := 87) hx hb dX10_week_78 (by decide) ?_
            exact J87 ((Vm_23 5) y4.toNatClampNeg) hf _ _ hP hD hS _ (lv_sub hl [1, 2, 3, 0] rfl)
        · replace hf := im c41 hf
          refine lv_iinc (v := (x2_23 + 1)) (lv' := [(2, .int (x2_23 + 1)), (0, .ref o), (1, .int x1_23)]) hx hb dX10_week_44 hl (k := 2) rfl (by rfl) (by decide) rfl (fun ls hl => ?_)
          refine lv_goto (tgt := 23) hx hb dX10_week_47 (by decide) ?_
          exact ih_23 x1_23 (x2_23 + 1) Im_23 Vm_23 hf _ _ hP hD hS _ (lv_sub hl [1, 2, 0] rfl)
  refine L23 _ (fun x1_23 Im_23 Vm_23 hf H locs hP hD hS ls hl => ?_) f 0 0 (va_up I2 14 ((I2 14) + 1)) V3 hf _ _ hP hD hS _ (lv_sub hl [2, 1, 0] rfl)
  refine lv_iconst (v := 0) hx hb dX10_week_185 (by decide) ?_
  refine lv_istore_n (lv' := [(3, .int 0), (0, .ref o), (1, .int x1_23)]) hx hb dX10_week_186 rfl hl (by decide) rfl (fun ls hl => ?_)
  have L187 : ∀ (k_187 : FV → Option (Int32 × FI × FV)) (hk_187 : ∀ (Vm_187 : FV), k_187 Vm_187 = some out → ∀ (H : Heap) (locs : List Loc), va_P D vwCl (w_M cs o h Im_23 Vm_187) H → va_D A (w_M cs o h Im_23 Vm_187) → va_S A s.heap H locs → ∀ ls : Array Slot, lv_has ls 5 [(1, .int x1_23)] → W p l e rm_M_week s m args below meth c H locs 0 0 Q (F0 m 238 ls [])), ∀ (n_187 : Nat) (x3_187 : Int32) (Vm_187 : FV), M_week_L187 f Im_23 k_187 n_187 x3_187 Vm_187 = some out → ∀ (H : Heap) (locs : List Loc), va_P D vwCl (w_M cs o h Im_23 Vm_187) H → va_D A (w_M cs o h Im_23 Vm_187) → va_S A s.heap H locs → ∀ ls : Array Slot, lv_has ls 5 [(0, .ref o), (1, .int x1_23), (3, .int x3_187)] → W p l e rm_M_week s m args below meth c H locs 0 0 Q (F0 m 187 ls []) := by
    intro k_187 hk_187 n_187
    induction n_187 with
    | zero => intro x3_187 Vm_187 hf; rw [M_week_L187] at hf; cases hf
    | succ n_187 ih_187 =>
      intro x3_187 Vm_187 hf H locs hP hD hS ls hl
      rw [M_week_L187] at hf
      refine lv_iload_n hx hb dX10_week_187 rfl (lv_at hl 2 rfl) ?_
      refine lv_aload_n hx hb dX10_week_188 rfl (lv_at hl 0 rfl) ?_
      refine va_get (D := D) (ci := 10) (v := .int (Im_23 4)) (C := RX10) (T := TX10) (N := 38) hx hb hts in_X10 hown hK hP 0 rfl rfl 4 (by decide) g_96 (fun _ h9 => h9) rfl dX10_week_189 ?_
      refine lv_icmp_ge (tgt := 238) hx hb dX10_week_192 (by decide) (fun c192 => ?_) (fun c192 => ?_)
      · replace hf := ip c192 hf
        exact hk_187 Vm_187 hf _ _ hP hD hS _ (lv_sub hl [1] rfl)
      · replace hf := im c192 hf
        refine lv_aload_n hx hb dX10_week_195 rfl (lv_at hl 0 rfl) ?_
        refine va_get (D := D) (ci := 10) (v := .ref (h 5)) (C := RX10) (T := TX10) (N := 38) hx hb hts in_X10 hown hK hP 0 rfl rfl 5 (by decide) g_13 (fun _ h9 => h9) rfl dX10_week_196 ?_
        refine lv_iload_n hx hb dX10_week_199 rfl (lv_at hl 2 rfl) ?_
        refine lv_aload_n hx hb dX10_week_200 rfl (lv_at hl 0 rfl) ?_
        refine va_get (D := D) (ci := 10) (v := .int (Im_23 14)) (C := RX10) (T := TX10) (N := 38) hx hb hts in_X10 hown hK hP 0 rfl rfl 14 (by decide) g_138 (fun _ h9 => h9) rfl dX10_week_201 ?_
        refine lv_iconst (v := 4) hx hb dX10_week_204 (by decide) ?_
        refine lv_irem hx hb dX10_week_205 (by decide) ?_
        obtain ⟨j231, ej231, hf⟩ := nme hf
        have J231 : ∀ (t2_231 : Int32), j231 t2_231 = some out → ∀ (H : Heap) (locs : List Loc), va_P D vwCl (w_M cs o h Im_23 Vm_187) H → va_D A (w_M cs o h Im_23 Vm_187) → va_S A s.heap H locs → ∀ ls : Array Slot, lv_has ls 5 [(0, .ref o), (1, .int x1_23), (3, .int x3_187)] → W p l e rm_M_week s m args below meth c H locs 0 0 Q (F0 m 231 ls [.int t2_231, .int x3_187, .ref (h 5)]) := by
          intro t2_231 hf H locs hP hD hS ls hl
          rw [ej231] at hf
          obtain ⟨c231, hf⟩ := gd hf
          refine va_iast hx hb hK hP hD hS 2 0 rfl rfl c231 dX10_week_231 (fun H locs hP hD hS => ?_)
          have hP : va_P D vwCl (w_M cs o h Im_23 (va_up Vm_187 5 (upd (Vm_187 5) x3_187.toNatClampNeg t2_231))) H := hP
          have hD : va_D A (w_M cs o h Im_23 (va_up Vm_187 5 (upd (Vm_187 5) x3_187.toNatClampNeg t2_231))) := hD
          refine lv_iinc (v := (x3_187 + 1)) (lv' := [(3, .int (x3_187 + 1)), (0, .ref o), (1, .int x1_23)]) hx hb dX10_week_232 hl (k := 2) rfl (by rfl) (by decide) rfl (fun ls hl => ?_)
          refine lv_goto (tgt := 187) hx hb dX10_week_235 (by decide) ?_
          exact ih_187 (x3_187 + 1) (va_up Vm_187 5 (upd (Vm_187 5) x3_187.toNatClampNeg t2_231)) hf _ _ hP hD hS _ (lv_sub hl [1, 2, 0] rfl)
        obtain ⟨j225, ej225, hf⟩ := nme hf
        have J225 : ∀ (u_225 : Unit), j225 u_225 = some out → ∀ (H : Heap) (locs : List Loc), va_P D vwCl (w_M cs o h Im_23 Vm_187) H → va_D A (w_M cs o h Im_23 Vm_187) → va_S A s.heap H locs → ∀ ls : Array Slot, lv_has ls 5 [(0, .ref o), (1, .int x1_23), (3, .int x3_187)] → W p l e rm_M_week s m args below meth c H locs 0 0 Q (F0 m 225 ls [.int x3_187, .ref (h 5)]) := by
          intro u_225 hf H locs hP hD hS ls hl
          rw [ej225] at hf
          refine lv_aload_n hx hb dX10_week_225 rfl (lv_at hl 0 rfl) ?_
          refine va_get (D := D) (ci := 10) (v := .ref (h 5)) (C := RX10) (T := TX10) (N := 38) hx hb hts in_X10 hown hK hP 0 rfl rfl 5 (by decide) g_13 (fun _ h9 => h9) rfl dX10_week_226 ?_
          refine lv_iload_n hx hb dX10_week_229 rfl (lv_at hl 2 rfl) ?_
          obtain ⟨c230, hf⟩ := gd hf
          refine va_iald hx hb hK hP 2 0 rfl rfl c230 dX10_week_230 ?_
          exact J231 ((Vm_187 5) x3_187.toNatClampNeg) hf _ _ hP hD hS _ (lv_sub hl [0, 1, 2] rfl)
        refine lv_if_ne (tgt := 225) hx hb dX10_week_206 (by decide) (fun c206 => ?_) (fun c206 => ?_)
        · replace hf := im c206 hf
          exact J225 () hf _ _ hP hD hS _ (lv_sub hl [0, 1, 2] rfl)
        · replace hf := ip c206 hf
          refine lv_aload_n hx hb dX10_week_209 rfl (lv_at hl 0 rfl) ?_
          refine va_get (D := D) (ci := 10) (v := .ref (h 5)) (C := RX10) (T := TX10) (N := 38) hx hb hts in_X10 hown hK hP 0 rfl rfl 5 (by decide) g_13 (fun _ h9 => h9) rfl dX10_week_210 ?_
          refine lv_iload_n hx hb dX10_week_213 rfl (lv_at hl 2 rfl) ?_
          obtain ⟨c214, hf⟩ := gd hf
          refine va_iald hx hb hK hP 2 0 rfl rfl c214 dX10_week_214 ?_
          refine lv_bipush (v := 20) hx hb dX10_week_215 (by decide) ?_
          refine lv_icmp_le (tgt := 225) hx hb dX10_week_217 (by decide) (fun c217 => ?_) (fun c217 => ?_)
          · replace hf := ip c217 hf
            exact J225 () hf _ _ hP hD hS _ (lv_sub hl [0, 1, 2] rfl)
          · replace hf := im c217 hf
            refine lv_bipush (v := 20) hx hb dX10_week_220 (by decide) ?_
            refine lv_goto (tgt := 231) hx hb dX10_week_222 (by decide) ?_
            exact J231 20 hf _ _ hP hD hS _ (lv_sub hl [0, 1, 2] rfl)
  refine L187 _ (fun Vm_187 hf H locs hP hD hS ls hl => ?_) f 0 Vm_23 hf _ _ hP hD hS _ (lv_sub hl [1, 2, 0] rfl)
  refine lv_iload_n hx hb dX10_week_238 rfl (lv_at hl 0 rfl) ?_
  exact hret x1_23 Im_23 Vm_187 _ _ 239 _ hf hP hD hS dX10_week_239
def M_heirs_L66 {ρ : Type} (f : Nat) (x2 : Int32) (V : FV) (k_66 : Int32 → Int32 → Int32 → Option ρ) : Nat → Int32 → Int32 → Int32 → Int32 → Option ρ
  | 0, _, _, _, _ => none
  | n_66 + 1, x3_66, x4_66, x5_66, x6_66 => (if x6_66 < 0 then (k_66 x3_66 x4_66 x5_66) else ob1 (M_has f x2 x6_66) (fun zr6 => (nm (fun (x3_109 : Int32) (x4_109 : Int32) (x5_109 : Int32) => (M_heirs_L66 f x2 V k_66 n_66 x3_109 x4_109 x5_109 (x6_66 + (-1)))) (fun j109 => (if zr6 = 0 then (j109 x3_66 x4_66 x5_66) else (nm (fun (t0_107 : Int32) => (j109 (x3_66 + 1) x6_66 t0_107)) (fun j107 => nm (fun (u_102 : Unit) => (j107 1)) (fun j102 => (if x5_66 = 0 then if x6_66 < 0 ∨ 6 ≤ x6_66.toNatClampNeg then none else ((if ((V 7) x6_66.toNatClampNeg) = 0 then (j107 0) else (j102 ()))) else (j102 ()))))))))))
def M_heirs_L158 {ρ : Type} (f : Nat) (I8 : FI) (x2 : Int32) (y10 : Int32) (k_158 : FV → Option ρ) : Nat → Int32 → FV → Option ρ
  | 0, _, _ => none
  | n_158 + 1, x7_158, Vm_158 => (if (I8 4) ≤ x7_158 then (k_158 Vm_158) else if x7_158 < 0 ∨ 6 ≤ x7_158.toNatClampNeg then none else (ob1 (M_has f x2 x7_158) (fun zr11 => (nm (fun (t3_190 : Int32) => if x7_158 < 0 ∨ 6 ≤ x7_158.toNatClampNeg then none else ((M_heirs_L158 f I8 x2 y10 k_158 n_158 (x7_158 + 1) (va_up Vm_158 5 (upd (Vm_158 5) x7_158.toNatClampNeg (((Vm_158 5) x7_158.toNatClampNeg) + t3_190)))))) (fun j190 => (if zr11 = 0 then (j190 0) else (j190 y10)))))))
def M_heirs_L218 {ρ : Type} (f : Nat) (x1 : Int32) (x4_66 : Int32) (k_218 : Int32 → FI → FV → Option ρ) : Nat → Int32 → Int32 → FI → FV → Option ρ
  | 0, _, _, _, _ => none
  | n_218 + 1, x7_218, x8_218, Im_218, Vm_218 => (if (Im_218 9) ≤ x8_218 then (k_218 x7_218 Im_218 Vm_218) else if x8_218 < 0 ∨ 12 ≤ x8_218.toNatClampNeg then none else ((nm (fun (t2_256 : Int32) => if x8_218 < 0 ∨ 12 ≤ x8_218.toNatClampNeg then none else (if x8_218 < 0 ∨ 12 ≤ x8_218.toNatClampNeg then none else ((nm (fun (t2_286 : Int32) => if x8_218 < 0 ∨ 12 ≤ x8_218.toNatClampNeg then none else (if x8_218 < 0 ∨ 12 ≤ x8_218.toNatClampNeg then none else (if x8_218 < 0 ∨ 12 ≤ x8_218.toNatClampNeg then none else ((if ((upd (Vm_218 10) x8_218.toNatClampNeg t2_256) x8_218.toNatClampNeg) = ((upd (Vm_218 11) x8_218.toNatClampNeg t2_286) x8_218.toNatClampNeg) then ob2 (M_drop f x8_218 Im_218 (va_up (va_up Vm_218 10 (upd (Vm_218 10) x8_218.toNatClampNeg t2_256)) 11 (upd (Vm_218 11) x8_218.toNatClampNeg t2_286))) (fun I13 V14 => (M_heirs_L218 f x1 x4_66 k_218 n_218 (x7_218 + 1) x8_218 I13 V14)) else (M_heirs_L218 f x1 x4_66 k_218 n_218 x7_218 (x8_218 + 1) Im_218 (va_up (va_up Vm_218 10 (upd (Vm_218 10) x8_218.toNatClampNeg t2_256)) 11 (upd (Vm_218 11) x8_218.toNatClampNeg t2_286)))))))) (fun j286 => (if ((Vm_218 11) x8_218.toNatClampNeg) = x1 then (j286 x4_66) else if x8_218 < 0 ∨ 12 ≤ x8_218.toNatClampNeg then none else ((j286 ((Vm_218 11) x8_218.toNatClampNeg))))))))) (fun j256 => (if ((Vm_218 10) x8_218.toNatClampNeg) = x1 then (j256 x4_66) else if x8_218 < 0 ∨ 12 ≤ x8_218.toNatClampNeg then none else ((j256 ((Vm_218 10) x8_218.toNatClampNeg))))))))
def M_heirs (f : Nat) (x1 : Int32) (x2 : Int32) (I : FI) (V : FV) : Option (Int32 × FI × FV) := ob1 (M_noOne f x1 (va_up I 0 0) V) (fun zr1 => (if zr1 = 0 then ob1 (M_in f (x2.toInt64) 1 (((1 <<< ((I 4) &&& 31)) - 1).toInt64)) (fun zr2 => (if zr2 = 0 then some ((-2), (va_up I 0 0), V) else ob1 (M_has f x2 x1) (fun zr3 => (if zr3 = 0 then if x1 < 0 ∨ 6 ≤ x1.toNatClampNeg then none else (nm ((V 7) x1.toNatClampNeg) (fun y4 => nm (va_up I 0 0) (fun I5 => (M_heirs_L66 f x2 V (fun (x3_66 : Int32) (x4_66 : Int32) (x5_66 : Int32) => (if x5_66 = 0 then ob2 (M_note f I5 V) (fun I8 V9 => if x1 < 0 ∨ 6 ≤ x1.toNatClampNeg then none else (if x3_66 = 0 then none else (nm (((V9 5) x1.toNatClampNeg) / x3_66) (fun y10 => if x4_66 < 0 ∨ 6 ≤ x4_66.toNatClampNeg then none else (if x1 < 0 ∨ 6 ≤ x1.toNatClampNeg then none else (if x3_66 = 0 then none else (if x4_66 < 0 ∨ 6 ≤ x4_66.toNatClampNeg then none else ((M_heirs_L158 f I8 x2 y10 (fun (Vm_158 : FV) => if x1 < 0 ∨ 6 ≤ x1.toNatClampNeg then none else (if x1 < 0 ∨ 6 ≤ x1.toNatClampNeg then none else ((M_heirs_L218 f x1 x4_66 (fun (x7_218 : Int32) (Im_218 : FI) (Vm_218 : FV) => some (x7_218, Im_218, Vm_218)) f 0 0 I8 (va_up (va_up Vm_158 5 (upd (Vm_158 5) x1.toNatClampNeg 0)) 7 (upd (Vm_158 7) x1.toNatClampNeg (vp_nar .boolean 1))))))) f 0 (va_up V9 5 (upd (V9 5) x4_66.toNatClampNeg (((V9 5) x4_66.toNatClampNeg) + (((V9 5) x1.toNatClampNeg) - ((V9 5) x1.toNatClampNeg) / x3_66 * x3_66))))))))))))) else some ((-3), I5, V))) f 0 (-9) y4 ((I 4) - 1))))) else some ((-2), (va_up I 0 0), V))))) else some ((-1), (va_up I 0 0), V)))
abbrev rm_M_heirs : Room := { frames := 2, cells := 0, slots := 0, locals := 46 }
set_option maxHeartbeats 4000000 in
set_option maxRecDepth 100000 in
theorem c_M_heirs (l : Launch) (D : va_G) (cs : Nat → ClassId) (o : Nat) (h : Nat → Nat) (sz : Nat) (I : FI) (V : FV) (x1 : Int32) (x2 : Int32) (f : Nat) (out : Int32 × FI × FV) (hf : M_heirs f x1 x2 I V = some out) : Met l yX10_heirs wsX10_heirs rm_M_heirs (va_Pc [.ref o, .int x1, .int x2] (xP D cs (w_M cs o h I V) sz)) (va_Qi (fun r u => (r, u) = out) (fun (u : FI × FV) t => xA D cs (va_A (w_M cs o h I V) sz) (w_M cs o h u.1 u.2) t) (va_A (w_M cs o h I V) sz)) 0 0 (va_A (w_M cs o h I V) sz) := by
  refine Met.ofW (cc := cX10_heirs) (maxL := 9) (ret := (some .int)) (by decide) rfl ?_
  intro p e s m args below meth c s₁ B hml hv
  obtain ⟨ha, hsz, hP, hK, hD0⟩ := hv
  have hx := B.exec
  have hb := B.bytes
  have hr := B.returns
  have hts := atoms_spec (ws := wsX10_heirs) B.pre
  have hown : s.vm.findClass RX10 = some m.cls := findClass_of_methodNamed B.named
  have hlocks := B.notSynchronized
  have in_X10 : ∀ w ∈ u_ws RX10 TX10 38, w ∈ wsX10_heirs := fun w h => List.mem_cons_of_mem _ (List.mem_append_right _ h)
  have g_92 := hts (.fieldLink RX10 92 "DaysLentModel" "thrown" "I") (by decide +kernel)
  have w_noOne_151 := cwV (R := rm_M_heirs) (s := s) (args := args) (rm := rm_M_noOne) (mc := 0) (ms := 0) 1 hts gX10_heirs_X10_noOne rfl rfl rfl (by decide +kernel) ⟨Nat.le_of_ble_eq_true rfl, Nat.le_of_ble_eq_true rfl⟩
  have g_96 := hts (.fieldLink RX10 96 "DaysLentModel" "people" "I") (by decide +kernel)
  have w_in_99 := va_cwS (R := rm_M_heirs) (s := s) (args := args) (rm := rm_M_in) (mc := 0) (ms := 0) 3 hts gX10_heirs_X10_in rfl rfl rfl (by decide +kernel) ⟨Nat.le_of_ble_eq_true rfl, Nat.le_of_ble_eq_true rfl⟩
  have w_has_160 := va_cwS (R := rm_M_heirs) (s := s) (args := args) (rm := rm_M_has) (mc := 0) (ms := 0) 2 hts gX10_heirs_X10_has rfl rfl rfl (by decide +kernel) ⟨Nat.le_of_ble_eq_true rfl, Nat.le_of_ble_eq_true rfl⟩
  have g_19 := hts (.fieldLink RX10 19 "DaysLentModel" "dead" "[Z") (by decide +kernel)
  have w_note_173 := cwV (R := rm_M_heirs) (s := s) (args := args) (rm := rm_M_note) (mc := 0) (ms := 0) 0 hts gX10_heirs_X10_note rfl rfl rfl (by decide +kernel) ⟨Nat.le_of_ble_eq_true rfl, Nat.le_of_ble_eq_true rfl⟩
  have g_13 := hts (.fieldLink RX10 13 "DaysLentModel" "mornings" "[I") (by decide +kernel)
  have g_135 := hts (.fieldLink RX10 135 "DaysLentModel" "debts" "I") (by decide +kernel)
  have g_26 := hts (.fieldLink RX10 26 "DaysLentModel" "owed" "[I") (by decide +kernel)
  have g_29 := hts (.fieldLink RX10 29 "DaysLentModel" "owes" "[I") (by decide +kernel)
  have w_drop_176 := cwV (R := rm_M_heirs) (s := s) (args := args) (rm := rm_M_drop) (mc := 0) (ms := 0) 1 hts gX10_heirs_X10_drop rfl rfl rfl (by decide +kernel) ⟨Nat.le_of_ble_eq_true rfl, Nat.le_of_ble_eq_true rfl⟩
  subst hsz
  have hD := hD0.self (sz := s.heap.size)
  generalize hAe : va_A (w_M cs o h I V) s.heap.size = A at hD ⊢
  have hA : ∀ q : Nat, s.heap.size ≤ q → A q := fun q h => by rw [← hAe]; exact Or.inr h
  have hS : va_S A s.heap s.heap [] := va_S.rf
  have hl := lv_entry ([.ref o, .int x1, .int x2]) (n := 9) (Nat.le_of_ble_eq_true rfl)
  rw [show entryFrame m args 9 = entryFrame m ([.ref o, .int x1, .int x2] : List Value).toArray 9 from by rw [ha], lg_entry_eq]
  generalize (lg_sl ([.ref o, .int x1, .int x2]) ++ List.replicate (9 - (lg_sl ([.ref o, .int x1, .int x2])).length) Slot.unset).toArray = ls at hl ⊢
  have hl : lv_has ls 9 [(0, .ref o), (1, .int x1), (2, .int x2)] := hl
  generalize hQ : MQ below (va_Qi (fun r u => (r, u) = out) (fun (u : FI × FV) t => xA D cs A (w_M cs o h u.1 u.2) t) A) args s 0 0 A = Q
  show W p l e rm_M_heirs s m args below meth c s.heap [] 0 0 Q (F0 m 0 ls [])
  have hret : ∀ (v : Int32) (Im9 : FI) (Vm9 : FV) (H : Heap) (locs : List Loc) (pc : Nat) (ls : Array Slot), some (v, Im9, Vm9) = some out → va_P D vwCl (w_M cs o h Im9 Vm9) H → va_D A (w_M cs o h Im9 Vm9) → va_S A s.heap H locs → decode cX10_heirs pc = .ok (.ireturn, 1) → W p l e rm_M_heirs s m args below meth c H locs 0 0 Q (F0 m pc ls [.int v]) := by
    intro v Im9 Vm9 H locs pc ls hf hP hD hS hd
    rw [← hQ]
    exact W.iret (v := v) hx hb hr (fun t ht hW => ⟨⟨v, (Im9, Vm9), rfl, Option.some.inj hf, by show va_P D vwCl (w_M cs o h Im9 Vm9) t.heap; rw [ht]; exact hP, va_K.moved hW.alike hK, hD⟩, hS.F ht⟩) hS.2.2 hd
  unfold M_heirs at hf
  refine lv_aload_n hx hb dX10_heirs_0 rfl (lv_at hl 0 rfl) ?_
  refine lv_iconst (v := 0) hx hb dX10_heirs_1 (by decide) ?_
  refine va_put (D := D) (ci := 10) (v := .int 0) (ty := .int) (C := RX10) (T := TX10) (N := 38) hx hb hts in_X10 tyX10 tyX10_ok nmX10 hown hK hP hD hS 0 rfl rfl 0 (by decide) g_92 (fun _ h9 => h9) rfl (by decide +kernel) rfl rfl (Nat.le_of_ble_eq_true rfl) dX10_heirs_2 (fun H locs hP hD hS => ?_)
  have hP : va_P D vwCl (w_M cs o h (va_up I 0 0) V) H := hP
  have hD : va_D A (w_M cs o h (va_up I 0 0) V) := hD
  refine lv_aload_n hx hb dX10_heirs_5 rfl (lv_at hl 0 rfl) ?_
  refine lv_iload_n hx hb dX10_heirs_6 rfl (lv_at hl 1 rfl) ?_
  obtain ⟨zr1, qr1, hf⟩ := bd1 hf
  refine vp_callSi (va_Run.run (va_runV (As := [.int x1]) (rest := []) ⟨hx, hb, hml, hown, hts⟩ (c_M_noOne l D cs o h (va_up I 0 0) V x1 f zr1 qr1) w_noOne_151 ⟨xR_moved, va_recv hK hP (ci := 10) (q0 := 0) rfl rfl, fun U hU hW => ⟨rfl, by rw [hU]; exact hP, va_K.moved hW.alike hK⟩⟩ rfl rfl hl.1 rfl (lv_room (Nat.le_of_ble_eq_true rfl)) dX10_heirs_7 ⟨Nat.zero_le _, Nat.zero_le _⟩)) (fun r1 er1 => ?_)
  rw [er1]
  refine lv_if_eq (tgt := 15) hx hb dX10_heirs_10 (by decide) (fun c10 => ?_) (fun c10 => ?_)
  · replace hf := ip c10 hf
    refine lv_iload_n hx hb dX10_heirs_15 rfl (lv_at hl 2 rfl) ?_
    refine lv_i2l (v := x2.toInt64) hx hb dX10_heirs_16 rfl ?_
    refine lv_lconst (v := 1) hx hb dX10_heirs_17 (by decide) ?_
    refine lv_iconst (v := 1) hx hb dX10_heirs_18 (by decide) ?_
    refine lv_aload_n hx hb dX10_heirs_19 rfl (lv_at hl 0 rfl) ?_
    refine va_get (D := D) (ci := 10) (v := .int (I 4)) (C := RX10) (T := TX10) (N := 38) hx hb hts in_X10 hown hK hP 0 rfl rfl 4 (by decide) g_96 (fun _ h9 => h9) rfl dX10_heirs_20 ?_
    refine lv_ishl hx hb dX10_heirs_23 ?_
    refine lv_iconst (v := 1) hx hb dX10_heirs_24 (by decide) ?_
    refine lv_isub hx hb dX10_heirs_25 ?_
    refine lv_i2l (v := ((1 <<< ((I 4) &&& 31)) - 1).toInt64) hx hb dX10_heirs_26 rfl ?_
    obtain ⟨zr2, qr2, hf⟩ := bd1 hf
    refine vp_callSi (va_Run.run (va_runS (As := [.long (x2.toInt64), .long 1, .long (((1 <<< ((I 4) &&& 31)) - 1).toInt64)]) (rest := []) ⟨hx, hb, hml, hown, hts⟩ (c_M_in l (x2.toInt64) 1 (((1 <<< ((I 4) &&& 31)) - 1).toInt64) f zr2 qr2) w_in_99 ⟨fun a U g mk q => q, fun U hU hW => ⟨rfl, trivial⟩⟩ rfl rfl hl.1 rfl (lv_room (Nat.le_of_ble_eq_true rfl)) dX10_heirs_27 ⟨Nat.zero_le _, Nat.zero_le _⟩)) (fun r2 er2 => ?_)
    rw [er2]
    refine lv_if_eq (tgt := 41) hx hb dX10_heirs_30 (by decide) (fun c30 => ?_) (fun c30 => ?_)
    · replace hf := ip c30 hf
      refine lv_bipush (v := (-2)) hx hb dX10_heirs_41 (by decide) ?_
      exact hret (-2) (va_up I 0 0) V _ _ 43 _ hf hP hD hS dX10_heirs_43
    · replace hf := im c30 hf
      refine lv_iload_n hx hb dX10_heirs_33 rfl (lv_at hl 2 rfl) ?_
      refine lv_iload_n hx hb dX10_heirs_34 rfl (lv_at hl 1 rfl) ?_
      obtain ⟨zr3, qr3, hf⟩ := bd1 hf
      refine vp_callSi (va_Run.run (va_runS (As := [.int x2, .int x1]) (rest := []) ⟨hx, hb, hml, hown, hts⟩ (c_M_has l x2 x1 f zr3 qr3) w_has_160 ⟨fun a U g mk q => q, fun U hU hW => ⟨rfl, trivial⟩⟩ rfl rfl hl.1 rfl (lv_room (Nat.le_of_ble_eq_true rfl)) dX10_heirs_35 ⟨Nat.zero_le _, Nat.zero_le _⟩)) (fun r3 er3 => ?_)
      rw [er3]
      refine lv_if_eq (tgt := 44) hx hb dX10_heirs_38 (by decide) (fun c38 => ?_) (fun c38 => ?_)
      · replace hf := ip c38 hf
        refine lv_iconst (v := 0) hx hb dX10_heirs_44 (by decide) ?_
        refine lv_istore_n (lv' := [(3, .int 0), (0, .ref o), (1, .int x1), (2, .int x2)]) hx hb dX10_heirs_45 rfl hl (by decide) rfl (fun ls hl => ?_)
        refine lv_bipush (v := (-9)) hx hb dX10_heirs_46 (by decide) ?_
        refine lv_istore (lv' := [(4, .int (-9)), (3, .int 0), (0, .ref o), (1, .int x1), (2, .int x2)]) hx hb dX10_heirs_48 hl (by decide) rfl (fun ls hl => ?_)
        refine lv_aload_n hx hb dX10_heirs_50 rfl (lv_at hl 2 rfl) ?_
        refine va_get (D := D) (ci := 10) (v := .ref (h 7)) (C := RX10) (T := TX10) (N := 38) hx hb hts in_X10 hown hK hP 0 rfl rfl 7 (by decide) g_19 (fun _ h9 => h9) rfl dX10_heirs_51 ?_
        refine lv_iload_n hx hb dX10_heirs_54 rfl (lv_at hl 3 rfl) ?_
        obtain ⟨c55, hf⟩ := gd hf
        refine va_zald hx hb hK hP 4 1 rfl rfl c55 dX10_heirs_55 ?_
        refine lv_topi (fun y4 ey4 => ?_)
        replace hf := nmd hf ey4
        refine lv_istore (lv' := [(5, .int y4), (4, .int (-9)), (3, .int 0), (0, .ref o), (1, .int x1), (2, .int x2)]) hx hb dX10_heirs_56 hl (by decide) rfl (fun ls hl => ?_)
        refine lv_aload_n hx hb dX10_heirs_58 rfl (lv_at hl 3 rfl) ?_
        refine va_get (D := D) (ci := 10) (v := .int (I 4)) (C := RX10) (T := TX10) (N := 38) hx hb hts in_X10 hown hK hP 0 rfl rfl 4 (by decide) g_96 (fun _ h9 => h9) rfl dX10_heirs_59 ?_
        refine lv_iconst (v := 1) hx hb dX10_heirs_62 (by decide) ?_
        refine lv_isub hx hb dX10_heirs_63 ?_
        refine lv_istore (lv' := [(6, .int ((I 4) - 1)), (5, .int y4), (4, .int (-9)), (3, .int 0), (0, .ref o), (1, .int x1), (2, .int x2)]) hx hb dX10_heirs_64 hl (by decide) rfl (fun ls hl => ?_)
        obtain ⟨I5, eI5, hf⟩ := nme hf
        rw [← eI5] at hP hD
        have L66 : ∀ (k_66 : Int32 → Int32 → Int32 → Option (Int32 × FI × FV)) (hk_66 : ∀ (x3_66 : Int32) (x4_66 : Int32) (x5_66 : Int32), k_66 x3_66 x4_66 x5_66 = some out → ∀ (H : Heap) (locs : List Loc), va_P D vwCl (w_M cs o h I5 V) H → va_D A (w_M cs o h I5 V) → va_S A s.heap H locs → ∀ ls : Array Slot, lv_has ls 9 [(0, .ref o), (1, .int x1), (2, .int x2), (3, .int x3_66), (4, .int x4_66), (5, .int x5_66)] → W p l e rm_M_heirs s m args below meth c H locs 0 0 Q (F0 m 115 ls [])), ∀ (n_66 : Nat) (x3_66 : Int32) (x4_66 : Int32) (x5_66 : Int32) (x6_66 : Int32), M_heirs_L66 f x2 V k_66 n_66 x3_66 x4_66 x5_66 x6_66 = some out → ∀ (H : Heap) (locs : List Loc), va_P D vwCl (w_M cs o h I5 V) H → va_D A (w_M cs o h I5 V) → va_S A s.heap H locs → ∀ ls : Array Slot, lv_has ls 9 [(0, .ref o), (1, .int x1), (2, .int x2), (3, .int x3_66), (4, .int x4_66), (5, .int x5_66), (6, .int x6_66)] → W p l e rm_M_heirs s m args below meth c H locs 0 0 Q (F0 m 66 ls []) := by
          intro k_66 hk_66 n_66
          induction n_66 with
          | zero => intro x3_66 x4_66 x5_66 x6_66 hf; rw [M_heirs_L66] at hf; cases hf
          | succ n_66 ih_66 =>
            intro x3_66 x4_66 x5_66 x6_66 hf H locs hP hD hS ls hl
            rw [M_heirs_L66] at hf
            refine lv_iload hx hb dX10_heirs_66 (lv_at hl 6 rfl) ?_
            refine lv_if_lt (tgt := 115) hx hb dX10_heirs_68 (by decide) (fun c68 => ?_) (fun c68 => ?_)
            · replace hf := ip c68 hf
              exact hk_66 x3_66 x4_66 x5_66 hf _ _ hP hD hS _ (lv_sub hl [0, 1, 2, 3, 4, 5] rfl)
            · replace hf := im c68 hf
              refine lv_iload_n hx hb dX10_heirs_71 rfl (lv_at hl 2 rfl) ?_
              refine lv_iload hx hb dX10_heirs_72 (lv_at hl 6 rfl) ?_
              obtain ⟨zr6, qr6, hf⟩ := bd1 hf
              refine vp_callSi (va_Run.run (va_runS (As := [.int x2, .int x6_66]) (rest := []) ⟨hx, hb, hml, hown, hts⟩ (c_M_has l x2 x6_66 f zr6 qr6) w_has_160 ⟨fun a U g mk q => q, fun U hU hW => ⟨rfl, trivial⟩⟩ rfl rfl hl.1 rfl (lv_room (Nat.le_of_ble_eq_true rfl)) dX10_heirs_74 ⟨Nat.zero_le _, Nat.zero_le _⟩)) (fun r6 er6 => ?_)
              rw [er6]
              obtain ⟨j109, ej109, hf⟩ := nme hf
              have J109 : ∀ (x3_109 : Int32) (x4_109 : Int32) (x5_109 : Int32), j109 x3_109 x4_109 x5_109 = some out → ∀ (H : Heap) (locs : List Loc), va_P D vwCl (w_M cs o h I5 V) H → va_D A (w_M cs o h I5 V) → va_S A s.heap H locs → ∀ ls : Array Slot, lv_has ls 9 [(0, .ref o), (1, .int x1), (2, .int x2), (3, .int x3_109), (4, .int x4_109), (5, .int x5_109), (6, .int x6_66)] → W p l e rm_M_heirs s m args below meth c H locs 0 0 Q (F0 m 109 ls []) := by
                intro x3_109 x4_109 x5_109 hf H locs hP hD hS ls hl
                rw [ej109] at hf
                refine lv_iinc (v := (x6_66 + (-1))) (lv' := [(6, .int (x6_66 + (-1))), (0, .ref o), (1, .int x1), (2, .int x2), (3, .int x3_109), (4, .int x4_109), (5, .int x5_109)]) hx hb dX10_heirs_109 hl (k := 6) rfl (by rfl) (by decide) rfl (fun ls hl => ?_)
                refine lv_goto (tgt := 66) hx hb dX10_heirs_112 (by decide) ?_
                exact ih_66 x3_109 x4_109 x5_109 (x6_66 + (-1)) hf _ _ hP hD hS _ (lv_sub hl [1, 2, 3, 4, 5, 6, 0] rfl)
              refine lv_if_eq (tgt := 109) hx hb dX10_heirs_77 (by decide) (fun c77 => ?_) (fun c77 => ?_)
              · replace hf := ip c77 hf
                exact J109 x3_66 x4_66 x5_66 hf _ _ hP hD hS _ (lv_sub hl [0, 1, 2, 3, 4, 5, 6] rfl)
              · replace hf := im c77 hf
                refine lv_iinc (v := (x3_66 + 1)) (lv' := [(3, .int (x3_66 + 1)), (0, .ref o), (1, .int x1), (2, .int x2), (4, .int x4_66), (5, .int x5_66), (6, .int x6_66)]) hx hb dX10_heirs_80 hl (k := 3) rfl (by rfl) (by decide) rfl (fun ls hl => ?_)
                refine lv_iload hx hb dX10_heirs_83 (lv_at hl 6 rfl) ?_
                refine lv_istore (lv' := [(4, .int x6_66), (3, .int (x3_66 + 1)), (0, .ref o), (1, .int x1), (2, .int x2), (5, .int x5_66), (6, .int x6_66)]) hx hb dX10_heirs_85 hl (by decide) rfl (fun ls hl => ?_)
                refine lv_iload hx hb dX10_heirs_87 (lv_at hl 5 rfl) ?_
                obtain ⟨j107, ej107, hf⟩ := nme hf
                have J107 : ∀ (t0_107 : Int32), j107 t0_107 = some out → ∀ (H : Heap) (locs : List Loc), va_P D vwCl (w_M cs o h I5 V) H → va_D A (w_M cs o h I5 V) → va_S A s.heap H locs → ∀ ls : Array Slot, lv_has ls 9 [(0, .ref o), (1, .int x1), (2, .int x2), (3, .int (x3_66 + 1)), (4, .int x6_66), (6, .int x6_66)] → W p l e rm_M_heirs s m args below meth c H locs 0 0 Q (F0 m 107 ls [.int t0_107]) := by
                  intro t0_107 hf H locs hP hD hS ls hl
                  rw [ej107] at hf
                  refine lv_istore (lv' := [(5, .int t0_107), (0, .ref o), (1, .int x1), (2, .int x2), (3, .int (x3_66 + 1)), (4, .int x6_66), (6, .int x6_66)]) hx hb dX10_heirs_107 hl (by decide) rfl (fun ls hl => ?_)
                  exact J109 (x3_66 + 1) x6_66 t0_107 hf _ _ hP hD hS _ (lv_sub hl [1, 2, 3, 4, 5, 0, 6] rfl)
                obtain ⟨j102, ej102, hf⟩ := nme hf
                have J102 : ∀ (u_102 : Unit), j102 u_102 = some out → ∀ (H : Heap) (locs : List Loc), va_P D vwCl (w_M cs o h I5 V) H → va_D A (w_M cs o h I5 V) → va_S A s.heap H locs → ∀ ls : Array Slot, lv_has ls 9 [(0, .ref o), (1, .int x1), (2, .int x2), (3, .int (x3_66 + 1)), (4, .int x6_66), (6, .int x6_66)] → W p l e rm_M_heirs s m args below meth c H locs 0 0 Q (F0 m 102 ls []) := by
                  intro u_102 hf H locs hP hD hS ls hl
                  rw [ej102] at hf
                  refine lv_iconst (v := 1) hx hb dX10_heirs_102 (by decide) ?_
                  refine lv_goto (tgt := 107) hx hb dX10_heirs_103 (by decide) ?_
                  exact J107 1 hf _ _ hP hD hS _ (lv_sub hl [0, 1, 2, 3, 4, 5] rfl)
                refine lv_if_ne (tgt := 102) hx hb dX10_heirs_89 (by decide) (fun c89 => ?_) (fun c89 => ?_)
                · replace hf := im c89 hf
                  exact J102 () hf _ _ hP hD hS _ (lv_sub hl [2, 3, 4, 1, 0, 6] rfl)
                · replace hf := ip c89 hf
                  refine lv_aload_n hx hb dX10_heirs_92 rfl (lv_at hl 2 rfl) ?_
                  refine va_get (D := D) (ci := 10) (v := .ref (h 7)) (C := RX10) (T := TX10) (N := 38) hx hb hts in_X10 hown hK hP 0 rfl rfl 7 (by decide) g_19 (fun _ h9 => h9) rfl dX10_heirs_93 ?_
                  refine lv_iload hx hb dX10_heirs_96 (lv_at hl 6 rfl) ?_
                  obtain ⟨c98, hf⟩ := gd hf
                  refine va_zald hx hb hK hP 4 1 rfl rfl c98 dX10_heirs_98 ?_
                  refine lv_if_eq (tgt := 106) hx hb dX10_heirs_99 (by decide) (fun c99 => ?_) (fun c99 => ?_)
                  · replace hf := ip c99 hf
                    refine lv_iconst (v := 0) hx hb dX10_heirs_106 (by decide) ?_
                    exact J107 0 hf _ _ hP hD hS _ (lv_sub hl [2, 3, 4, 1, 0, 6] rfl)
                  · replace hf := im c99 hf
                    exact J102 () hf _ _ hP hD hS _ (lv_sub hl [2, 3, 4, 1, 0, 6] rfl)
        refine L66 _ (fun x3_66 x4_66 x5_66 hf H locs hP hD hS ls hl => ?_) f 0 (-9) y4 ((I 4) - 1) hf _ _ hP hD hS _ (lv_sub hl [4, 5, 6, 3, 2, 1, 0] rfl)
        refine lv_iload hx hb dX10_heirs_115 (lv_at hl 5 rfl) ?_
        refine lv_if_eq (tgt := 123) hx hb dX10_heirs_117 (by decide) (fun c117 => ?_) (fun c117 => ?_)
        · replace hf := ip c117 hf
          refine lv_aload_n hx hb dX10_heirs_123 rfl (lv_at hl 0 rfl) ?_
          obtain ⟨I8, V9, qr7, hf⟩ := bd2 hf
          have hFc := xfree hD hS hA
          refine va_callv (va_runV (As := []) (rest := []) ⟨hx, hb, hml, hown, hts⟩ (c_M_note l D cs o h _ I5 V f _ qr7) w_note_173 ⟨xP_moved, va_recv hK hP (ci := 10) (q0 := 0) rfl rfl, fun U hU hW => ⟨rfl, by rw [hU], by rw [hU]; exact hP, va_K.moved hW.alike hK, hD.weaken (fun _ _ _ _ => trivial)⟩⟩ rfl rfl hl.1 rfl (lv_room (Nat.le_of_ble_eq_true rfl)) dX10_heirs_124 ⟨Nat.zero_le _, Nat.zero_le _⟩) hS (fun q _ h9 => hFc q h9) hFc (fun u t H1 locs ht hvm hw hB hz1 hk1 hS => ?_)
          rw [hw] at hB
          obtain ⟨hP1, hK1, hD1⟩ := hB
          have hP : va_P D vwCl (w_M cs o h I8 V9) H1 := by rw [← ht]; exact hP1
          have hD : va_D A (w_M cs o h I8 V9) := hD1.weaken (fun _ q _ h9 => hFc q.1 h9)
          refine lv_aload_n hx hb dX10_heirs_127 rfl (lv_at hl 0 rfl) ?_
          refine va_get (D := D) (ci := 10) (v := .ref (h 5)) (C := RX10) (T := TX10) (N := 38) hx hb hts in_X10 hown hK hP 0 rfl rfl 5 (by decide) g_13 (fun _ h9 => h9) rfl dX10_heirs_128 ?_
          refine lv_iload_n hx hb dX10_heirs_131 rfl (lv_at hl 1 rfl) ?_
          obtain ⟨c132, hf⟩ := gd hf
          refine va_iald hx hb hK hP 2 0 rfl rfl c132 dX10_heirs_132 ?_
          refine lv_iload_n hx hb dX10_heirs_133 rfl (lv_at hl 3 rfl) ?_
          obtain ⟨c134, hf⟩ := gd hf
          refine lv_idiv hx hb dX10_heirs_134 c134 ?_
          refine lv_topi (fun y10 ey10 => ?_)
          replace hf := nmd hf ey10
          refine lv_istore (lv' := [(6, .int y10), (0, .ref o), (1, .int x1), (2, .int x2), (3, .int x3_66), (4, .int x4_66), (5, .int x5_66)]) hx hb dX10_heirs_135 hl (by decide) rfl (fun ls hl => ?_)
          refine lv_aload_n hx hb dX10_heirs_137 rfl (lv_at hl 1 rfl) ?_
          refine va_get (D := D) (ci := 10) (v := .ref (h 5)) (C := RX10) (T := TX10) (N := 38) hx hb hts in_X10 hown hK hP 0 rfl rfl 5 (by decide) g_13 (fun _ h9 => h9) rfl dX10_heirs_138 ?_
          refine lv_iload hx hb dX10_heirs_141 (lv_at hl 5 rfl) ?_
          refine lv_dup2_11 hx hb dX10_heirs_143 rfl rfl ?_
          obtain ⟨c144, hf⟩ := gd hf
          refine va_iald hx hb hK hP 2 0 rfl rfl c144 dX10_heirs_144 ?_
          refine lv_aload_n hx hb dX10_heirs_145 rfl (lv_at hl 1 rfl) ?_
          refine va_get (D := D) (ci := 10) (v := .ref (h 5)) (C := RX10) (T := TX10) (N := 38) hx hb hts in_X10 hown hK hP 0 rfl rfl 5 (by decide) g_13 (fun _ h9 => h9) rfl dX10_heirs_146 ?_
          refine lv_iload_n hx hb dX10_heirs_149 rfl (lv_at hl 2 rfl) ?_
          obtain ⟨c150, hf⟩ := gd hf
          refine va_iald hx hb hK hP 2 0 rfl rfl c150 dX10_heirs_150 ?_
          refine lv_iload_n hx hb dX10_heirs_151 rfl (lv_at hl 4 rfl) ?_
          obtain ⟨c152, hf⟩ := gd hf
          refine lv_irem hx hb dX10_heirs_152 c152 ?_
          refine lv_iadd hx hb dX10_heirs_153 ?_
          obtain ⟨c154, hf⟩ := gd hf
          refine va_iast hx hb hK hP hD hS 2 0 rfl rfl c154 dX10_heirs_154 (fun H locs hP hD hS => ?_)
          have hP : va_P D vwCl (w_M cs o h I8 (va_up V9 5 (upd (V9 5) x4_66.toNatClampNeg (((V9 5) x4_66.toNatClampNeg) + (((V9 5) x1.toNatClampNeg) - ((V9 5) x1.toNatClampNeg) / x3_66 * x3_66))))) H := hP
          have hD : va_D A (w_M cs o h I8 (va_up V9 5 (upd (V9 5) x4_66.toNatClampNeg (((V9 5) x4_66.toNatClampNeg) + (((V9 5) x1.toNatClampNeg) - ((V9 5) x1.toNatClampNeg) / x3_66 * x3_66))))) := hD
          refine lv_iconst (v := 0) hx hb dX10_heirs_155 (by decide) ?_
          refine lv_istore (lv' := [(7, .int 0), (6, .int y10), (0, .ref o), (1, .int x1), (2, .int x2), (3, .int x3_66), (4, .int x4_66), (5, .int x5_66)]) hx hb dX10_heirs_156 hl (by decide) rfl (fun ls hl => ?_)
          have L158 : ∀ (k_158 : FV → Option (Int32 × FI × FV)) (hk_158 : ∀ (Vm_158 : FV), k_158 Vm_158 = some out → ∀ (H : Heap) (locs : List Loc), va_P D vwCl (w_M cs o h I8 Vm_158) H → va_D A (w_M cs o h I8 Vm_158) → va_S A s.heap H locs → ∀ ls : Array Slot, lv_has ls 9 [(0, .ref o), (1, .int x1), (4, .int x4_66)] → W p l e rm_M_heirs s m args below meth c H locs 0 0 Q (F0 m 198 ls [])), ∀ (n_158 : Nat) (x7_158 : Int32) (Vm_158 : FV), M_heirs_L158 f I8 x2 y10 k_158 n_158 x7_158 Vm_158 = some out → ∀ (H : Heap) (locs : List Loc), va_P D vwCl (w_M cs o h I8 Vm_158) H → va_D A (w_M cs o h I8 Vm_158) → va_S A s.heap H locs → ∀ ls : Array Slot, lv_has ls 9 [(0, .ref o), (1, .int x1), (2, .int x2), (4, .int x4_66), (6, .int y10), (7, .int x7_158)] → W p l e rm_M_heirs s m args below meth c H locs 0 0 Q (F0 m 158 ls []) := by
            intro k_158 hk_158 n_158
            induction n_158 with
            | zero => intro x7_158 Vm_158 hf; rw [M_heirs_L158] at hf; cases hf
            | succ n_158 ih_158 =>
              intro x7_158 Vm_158 hf H locs hP hD hS ls hl
              rw [M_heirs_L158] at hf
              refine lv_iload hx hb dX10_heirs_158 (lv_at hl 5 rfl) ?_
              refine lv_aload_n hx hb dX10_heirs_160 rfl (lv_at hl 0 rfl) ?_
              refine va_get (D := D) (ci := 10) (v := .int (I8 4)) (C := RX10) (T := TX10) (N := 38) hx hb hts in_X10 hown hK hP 0 rfl rfl 4 (by decide) g_96 (fun _ h9 => h9) rfl dX10_heirs_161 ?_
              refine lv_icmp_ge (tgt := 198) hx hb dX10_heirs_164 (by decide) (fun c164 => ?_) (fun c164 => ?_)
              · replace hf := ip c164 hf
                exact hk_158 Vm_158 hf _ _ hP hD hS _ (lv_sub hl [0, 1, 3] rfl)
              · replace hf := im c164 hf
                refine lv_aload_n hx hb dX10_heirs_167 rfl (lv_at hl 0 rfl) ?_
                refine va_get (D := D) (ci := 10) (v := .ref (h 5)) (C := RX10) (T := TX10) (N := 38) hx hb hts in_X10 hown hK hP 0 rfl rfl 5 (by decide) g_13 (fun _ h9 => h9) rfl dX10_heirs_168 ?_
                refine lv_iload hx hb dX10_heirs_171 (lv_at hl 5 rfl) ?_
                refine lv_dup2_11 hx hb dX10_heirs_173 rfl rfl ?_
                obtain ⟨c174, hf⟩ := gd hf
                refine va_iald hx hb hK hP 2 0 rfl rfl c174 dX10_heirs_174 ?_
                refine lv_iload_n hx hb dX10_heirs_175 rfl (lv_at hl 2 rfl) ?_
                refine lv_iload hx hb dX10_heirs_176 (lv_at hl 5 rfl) ?_
                obtain ⟨zr11, qr11, hf⟩ := bd1 hf
                refine vp_callSi (va_Run.run (va_runS (As := [.int x2, .int x7_158]) (rest := [.int ((Vm_158 5) x7_158.toNatClampNeg), .int x7_158, .ref (h 5)]) ⟨hx, hb, hml, hown, hts⟩ (c_M_has l x2 x7_158 f zr11 qr11) w_has_160 ⟨fun a U g mk q => q, fun U hU hW => ⟨rfl, trivial⟩⟩ rfl rfl hl.1 rfl (lv_room (Nat.le_of_ble_eq_true rfl)) dX10_heirs_178 ⟨Nat.zero_le _, Nat.zero_le _⟩)) (fun r11 er11 => ?_)
                rw [er11]
                obtain ⟨j190, ej190, hf⟩ := nme hf
                have J190 : ∀ (t3_190 : Int32), j190 t3_190 = some out → ∀ (H : Heap) (locs : List Loc), va_P D vwCl (w_M cs o h I8 Vm_158) H → va_D A (w_M cs o h I8 Vm_158) → va_S A s.heap H locs → ∀ ls : Array Slot, lv_has ls 9 [(0, .ref o), (1, .int x1), (2, .int x2), (4, .int x4_66), (6, .int y10), (7, .int x7_158)] → W p l e rm_M_heirs s m args below meth c H locs 0 0 Q (F0 m 190 ls [.int t3_190, .int ((Vm_158 5) x7_158.toNatClampNeg), .int x7_158, .ref (h 5)]) := by
                  intro t3_190 hf H locs hP hD hS ls hl
                  rw [ej190] at hf
                  refine lv_iadd hx hb dX10_heirs_190 ?_
                  obtain ⟨c191, hf⟩ := gd hf
                  refine va_iast hx hb hK hP hD hS 2 0 rfl rfl c191 dX10_heirs_191 (fun H locs hP hD hS => ?_)
                  have hP : va_P D vwCl (w_M cs o h I8 (va_up Vm_158 5 (upd (Vm_158 5) x7_158.toNatClampNeg (((Vm_158 5) x7_158.toNatClampNeg) + t3_190)))) H := hP
                  have hD : va_D A (w_M cs o h I8 (va_up Vm_158 5 (upd (Vm_158 5) x7_158.toNatClampNeg (((Vm_158 5) x7_158.toNatClampNeg) + t3_190)))) := hD
                  refine lv_iinc (v := (x7_158 + 1)) (lv' := [(7, .int (x7_158 + 1)), (0, .ref o), (1, .int x1), (2, .int x2), (4, .int x4_66), (6, .int y10)]) hx hb dX10_heirs_192 hl (k := 5) rfl (by rfl) (by decide) rfl (fun ls hl => ?_)
                  refine lv_goto (tgt := 158) hx hb dX10_heirs_195 (by decide) ?_
                  exact ih_158 (x7_158 + 1) (va_up Vm_158 5 (upd (Vm_158 5) x7_158.toNatClampNeg (((Vm_158 5) x7_158.toNatClampNeg) + t3_190))) hf _ _ hP hD hS _ (lv_sub hl [1, 2, 3, 4, 5, 0] rfl)
                refine lv_if_eq (tgt := 189) hx hb dX10_heirs_181 (by decide) (fun c181 => ?_) (fun c181 => ?_)
                · replace hf := ip c181 hf
                  refine lv_iconst (v := 0) hx hb dX10_heirs_189 (by decide) ?_
                  exact J190 0 hf _ _ hP hD hS _ (lv_sub hl [0, 1, 2, 3, 4, 5] rfl)
                · replace hf := im c181 hf
                  refine lv_iload hx hb dX10_heirs_184 (lv_at hl 4 rfl) ?_
                  refine lv_goto (tgt := 190) hx hb dX10_heirs_186 (by decide) ?_
                  exact J190 y10 hf _ _ hP hD hS _ (lv_sub hl [0, 1, 2, 3, 4, 5] rfl)
          refine L158 _ (fun Vm_158 hf H locs hP hD hS ls hl => ?_) f 0 (va_up V9 5 (upd (V9 5) x4_66.toNatClampNeg (((V9 5) x4_66.toNatClampNeg) + (((V9 5) x1.toNatClampNeg) - ((V9 5) x1.toNatClampNeg) / x3_66 * x3_66)))) hf _ _ hP hD hS _ (lv_sub hl [2, 3, 4, 6, 1, 0] rfl)
          refine lv_aload_n hx hb dX10_heirs_198 rfl (lv_at hl 0 rfl) ?_
          refine va_get (D := D) (ci := 10) (v := .ref (h 5)) (C := RX10) (T := TX10) (N := 38) hx hb hts in_X10 hown hK hP 0 rfl rfl 5 (by decide) g_13 (fun _ h9 => h9) rfl dX10_heirs_199 ?_
          refine lv_iload_n hx hb dX10_heirs_202 rfl (lv_at hl 1 rfl) ?_
          refine lv_iconst (v := 0) hx hb dX10_heirs_203 (by decide) ?_
          obtain ⟨c204, hf⟩ := gd hf
          refine va_iast hx hb hK hP hD hS 2 0 rfl rfl c204 dX10_heirs_204 (fun H locs hP hD hS => ?_)
          have hP : va_P D vwCl (w_M cs o h I8 (va_up Vm_158 5 (upd (Vm_158 5) x1.toNatClampNeg 0))) H := hP
          have hD : va_D A (w_M cs o h I8 (va_up Vm_158 5 (upd (Vm_158 5) x1.toNatClampNeg 0))) := hD
          refine lv_aload_n hx hb dX10_heirs_205 rfl (lv_at hl 0 rfl) ?_
          refine va_get (D := D) (ci := 10) (v := .ref (h 7)) (C := RX10) (T := TX10) (N := 38) hx hb hts in_X10 hown hK hP 0 rfl rfl 7 (by decide) g_19 (fun _ h9 => h9) rfl dX10_heirs_206 ?_
          refine lv_iload_n hx hb dX10_heirs_209 rfl (lv_at hl 1 rfl) ?_
          refine lv_iconst (v := 1) hx hb dX10_heirs_210 (by decide) ?_
          obtain ⟨c211, hf⟩ := gd hf
          refine va_zast hx hb hK hP hD hS 4 1 rfl rfl c211 dX10_heirs_211 (fun H locs hP hD hS => ?_)
          have hP : va_P D vwCl (w_M cs o h I8 (va_up (va_up Vm_158 5 (upd (Vm_158 5) x1.toNatClampNeg 0)) 7 (upd (Vm_158 7) x1.toNatClampNeg (vp_nar .boolean 1)))) H := hP
          have hD : va_D A (w_M cs o h I8 (va_up (va_up Vm_158 5 (upd (Vm_158 5) x1.toNatClampNeg 0)) 7 (upd (Vm_158 7) x1.toNatClampNeg (vp_nar .boolean 1)))) := hD
          refine lv_iconst (v := 0) hx hb dX10_heirs_212 (by decide) ?_
          refine lv_istore (lv' := [(7, .int 0), (0, .ref o), (1, .int x1), (4, .int x4_66)]) hx hb dX10_heirs_213 hl (by decide) rfl (fun ls hl => ?_)
          refine lv_iconst (v := 0) hx hb dX10_heirs_215 (by decide) ?_
          refine lv_istore (lv' := [(8, .int 0), (7, .int 0), (0, .ref o), (1, .int x1), (4, .int x4_66)]) hx hb dX10_heirs_216 hl (by decide) rfl (fun ls hl => ?_)
          have L218 : ∀ (k_218 : Int32 → FI → FV → Option (Int32 × FI × FV)) (hk_218 : ∀ (x7_218 : Int32) (Im_218 : FI) (Vm_218 : FV), k_218 x7_218 Im_218 Vm_218 = some out → ∀ (H : Heap) (locs : List Loc), va_P D vwCl (w_M cs o h Im_218 Vm_218) H → va_D A (w_M cs o h Im_218 Vm_218) → va_S A s.heap H locs → ∀ ls : Array Slot, lv_has ls 9 [(7, .int x7_218)] → W p l e rm_M_heirs s m args below meth c H locs 0 0 Q (F0 m 322 ls [])), ∀ (n_218 : Nat) (x7_218 : Int32) (x8_218 : Int32) (Im_218 : FI) (Vm_218 : FV), M_heirs_L218 f x1 x4_66 k_218 n_218 x7_218 x8_218 Im_218 Vm_218 = some out → ∀ (H : Heap) (locs : List Loc), va_P D vwCl (w_M cs o h Im_218 Vm_218) H → va_D A (w_M cs o h Im_218 Vm_218) → va_S A s.heap H locs → ∀ ls : Array Slot, lv_has ls 9 [(0, .ref o), (1, .int x1), (4, .int x4_66), (7, .int x7_218), (8, .int x8_218)] → W p l e rm_M_heirs s m args below meth c H locs 0 0 Q (F0 m 218 ls []) := by
            intro k_218 hk_218 n_218
            induction n_218 with
            | zero => intro x7_218 x8_218 Im_218 Vm_218 hf; rw [M_heirs_L218] at hf; cases hf
            | succ n_218 ih_218 =>
              intro x7_218 x8_218 Im_218 Vm_218 hf H locs hP hD hS ls hl
              rw [M_heirs_L218] at hf
              refine lv_iload hx hb dX10_heirs_218 (lv_at hl 4 rfl) ?_
              refine lv_aload_n hx hb dX10_heirs_220 rfl (lv_at hl 0 rfl) ?_
              refine va_get (D := D) (ci := 10) (v := .int (Im_218 9)) (C := RX10) (T := TX10) (N := 38) hx hb hts in_X10 hown hK hP 0 rfl rfl 9 (by decide) g_135 (fun _ h9 => h9) rfl dX10_heirs_221 ?_
              refine lv_icmp_ge (tgt := 322) hx hb dX10_heirs_224 (by decide) (fun c224 => ?_) (fun c224 => ?_)
              · replace hf := ip c224 hf
                exact hk_218 x7_218 Im_218 Vm_218 hf _ _ hP hD hS _ (lv_sub hl [3] rfl)
              · replace hf := im c224 hf
                refine lv_aload_n hx hb dX10_heirs_227 rfl (lv_at hl 0 rfl) ?_
                refine va_get (D := D) (ci := 10) (v := .ref (h 10)) (C := RX10) (T := TX10) (N := 38) hx hb hts in_X10 hown hK hP 0 rfl rfl 10 (by decide) g_26 (fun _ h9 => h9) rfl dX10_heirs_228 ?_
                refine lv_iload hx hb dX10_heirs_231 (lv_at hl 4 rfl) ?_
                refine lv_aload_n hx hb dX10_heirs_233 rfl (lv_at hl 0 rfl) ?_
                refine va_get (D := D) (ci := 10) (v := .ref (h 10)) (C := RX10) (T := TX10) (N := 38) hx hb hts in_X10 hown hK hP 0 rfl rfl 10 (by decide) g_26 (fun _ h9 => h9) rfl dX10_heirs_234 ?_
                refine lv_iload hx hb dX10_heirs_237 (lv_at hl 4 rfl) ?_
                obtain ⟨c239, hf⟩ := gd hf
                refine va_iald hx hb hK hP 6 0 rfl rfl c239 dX10_heirs_239 ?_
                refine lv_iload_n hx hb dX10_heirs_240 rfl (lv_at hl 1 rfl) ?_
                obtain ⟨j256, ej256, hf⟩ := nme hf
                have J256 : ∀ (t2_256 : Int32), j256 t2_256 = some out → ∀ (H : Heap) (locs : List Loc), va_P D vwCl (w_M cs o h Im_218 Vm_218) H → va_D A (w_M cs o h Im_218 Vm_218) → va_S A s.heap H locs → ∀ ls : Array Slot, lv_has ls 9 [(0, .ref o), (1, .int x1), (4, .int x4_66), (7, .int x7_218), (8, .int x8_218)] → W p l e rm_M_heirs s m args below meth c H locs 0 0 Q (F0 m 256 ls [.int t2_256, .int x8_218, .ref (h 10)]) := by
                  intro t2_256 hf H locs hP hD hS ls hl
                  rw [ej256] at hf
                  obtain ⟨c256, hf⟩ := gd hf
                  refine va_iast hx hb hK hP hD hS 6 0 rfl rfl c256 dX10_heirs_256 (fun H locs hP hD hS => ?_)
                  have hP : va_P D vwCl (w_M cs o h Im_218 (va_up Vm_218 10 (upd (Vm_218 10) x8_218.toNatClampNeg t2_256))) H := hP
                  have hD : va_D A (w_M cs o h Im_218 (va_up Vm_218 10 (upd (Vm_218 10) x8_218.toNatClampNeg t2_256))) := hD
                  refine lv_aload_n hx hb dX10_heirs_257 rfl (lv_at hl 0 rfl) ?_
                  refine va_get (D := D) (ci := 10) (v := .ref (h 11)) (C := RX10) (T := TX10) (N := 38) hx hb hts in_X10 hown hK hP 0 rfl rfl 11 (by decide) g_29 (fun _ h9 => h9) rfl dX10_heirs_258 ?_
                  refine lv_iload hx hb dX10_heirs_261 (lv_at hl 4 rfl) ?_
                  refine lv_aload_n hx hb dX10_heirs_263 rfl (lv_at hl 0 rfl) ?_
                  refine va_get (D := D) (ci := 10) (v := .ref (h 11)) (C := RX10) (T := TX10) (N := 38) hx hb hts in_X10 hown hK hP 0 rfl rfl 11 (by decide) g_29 (fun _ h9 => h9) rfl dX10_heirs_264 ?_
                  refine lv_iload hx hb dX10_heirs_267 (lv_at hl 4 rfl) ?_
                  obtain ⟨c269, hf⟩ := gd hf
                  refine va_iald hx hb hK hP 7 0 rfl rfl c269 dX10_heirs_269 ?_
                  refine lv_iload_n hx hb dX10_heirs_270 rfl (lv_at hl 1 rfl) ?_
                  obtain ⟨j286, ej286, hf⟩ := nme hf
                  have J286 : ∀ (t2_286 : Int32), j286 t2_286 = some out → ∀ (H : Heap) (locs : List Loc), va_P D vwCl (w_M cs o h Im_218 (va_up Vm_218 10 (upd (Vm_218 10) x8_218.toNatClampNeg t2_256))) H → va_D A (w_M cs o h Im_218 (va_up Vm_218 10 (upd (Vm_218 10) x8_218.toNatClampNeg t2_256))) → va_S A s.heap H locs → ∀ ls : Array Slot, lv_has ls 9 [(0, .ref o), (1, .int x1), (4, .int x4_66), (7, .int x7_218), (8, .int x8_218)] → W p l e rm_M_heirs s m args below meth c H locs 0 0 Q (F0 m 286 ls [.int t2_286, .int x8_218, .ref (h 11)]) := by
                    intro t2_286 hf H locs hP hD hS ls hl
                    rw [ej286] at hf
                    obtain ⟨c286, hf⟩ := gd hf
                    refine va_iast hx hb hK hP hD hS 7 0 rfl rfl c286 dX10_heirs_286 (fun H locs hP hD hS => ?_)
                    have hP : va_P D vwCl (w_M cs o h Im_218 (va_up (va_up Vm_218 10 (upd (Vm_218 10) x8_218.toNatClampNeg t2_256)) 11 (upd (Vm_218 11) x8_218.toNatClampNeg t2_286))) H := hP
                    have hD : va_D A (w_M cs o h Im_218 (va_up (va_up Vm_218 10 (upd (Vm_218 10) x8_218.toNatClampNeg t2_256)) 11 (upd (Vm_218 11) x8_218.toNatClampNeg t2_286))) := hD
                    refine lv_aload_n hx hb dX10_heirs_287 rfl (lv_at hl 0 rfl) ?_
                    refine va_get (D := D) (ci := 10) (v := .ref (h 10)) (C := RX10) (T := TX10) (N := 38) hx hb hts in_X10 hown hK hP 0 rfl rfl 10 (by decide) g_26 (fun _ h9 => h9) rfl dX10_heirs_288 ?_
                    refine lv_iload hx hb dX10_heirs_291 (lv_at hl 4 rfl) ?_
                    obtain ⟨c293, hf⟩ := gd hf
                    refine va_iald hx hb hK hP 6 0 rfl rfl c293 dX10_heirs_293 ?_
                    refine lv_aload_n hx hb dX10_heirs_294 rfl (lv_at hl 0 rfl) ?_
                    refine va_get (D := D) (ci := 10) (v := .ref (h 11)) (C := RX10) (T := TX10) (N := 38) hx hb hts in_X10 hown hK hP 0 rfl rfl 11 (by decide) g_29 (fun _ h9 => h9) rfl dX10_heirs_295 ?_
                    refine lv_iload hx hb dX10_heirs_298 (lv_at hl 4 rfl) ?_
                    obtain ⟨c300, hf⟩ := gd hf
                    refine va_iald hx hb hK hP 7 0 rfl rfl c300 dX10_heirs_300 ?_
                    refine lv_icmp_ne (tgt := 316) hx hb dX10_heirs_301 (by decide) (fun c301 => ?_) (fun c301 => ?_)
                    · replace hf := im c301 hf
                      refine lv_iinc (v := (x8_218 + 1)) (lv' := [(8, .int (x8_218 + 1)), (0, .ref o), (1, .int x1), (4, .int x4_66), (7, .int x7_218)]) hx hb dX10_heirs_316 hl (k := 4) rfl (by rfl) (by decide) rfl (fun ls hl => ?_)
                      refine lv_goto (tgt := 218) hx hb dX10_heirs_319 (by decide) ?_
                      exact ih_218 x7_218 (x8_218 + 1) Im_218 (va_up (va_up Vm_218 10 (upd (Vm_218 10) x8_218.toNatClampNeg t2_256)) 11 (upd (Vm_218 11) x8_218.toNatClampNeg t2_286)) hf _ _ hP hD hS _ (lv_sub hl [1, 2, 3, 4, 0] rfl)
                    · replace hf := ip c301 hf
                      refine lv_aload_n hx hb dX10_heirs_304 rfl (lv_at hl 0 rfl) ?_
                      refine lv_iload hx hb dX10_heirs_305 (lv_at hl 4 rfl) ?_
                      obtain ⟨I13, V14, qr12, hf⟩ := bd2 hf
                      have hFc := xfree hD hS hA
                      refine va_callv (va_runV (As := [.int x8_218]) (rest := []) ⟨hx, hb, hml, hown, hts⟩ (c_M_drop l D cs o h _ Im_218 (va_up (va_up Vm_218 10 (upd (Vm_218 10) x8_218.toNatClampNeg t2_256)) 11 (upd (Vm_218 11) x8_218.toNatClampNeg t2_286)) x8_218 f _ qr12) w_drop_176 ⟨xP_moved, va_recv hK hP (ci := 10) (q0 := 0) rfl rfl, fun U hU hW => ⟨rfl, by rw [hU], by rw [hU]; exact hP, va_K.moved hW.alike hK, hD.weaken (fun _ _ _ _ => trivial)⟩⟩ rfl rfl hl.1 rfl (lv_room (Nat.le_of_ble_eq_true rfl)) dX10_heirs_307 ⟨Nat.zero_le _, Nat.zero_le _⟩) hS (fun q _ h9 => hFc q h9) hFc (fun u t H1 locs ht hvm hw hB hz1 hk1 hS => ?_)
                      rw [hw] at hB
                      obtain ⟨hP1, hK1, hD1⟩ := hB
                      have hP : va_P D vwCl (w_M cs o h I13 V14) H1 := by rw [← ht]; exact hP1
                      have hD : va_D A (w_M cs o h I13 V14) := hD1.weaken (fun _ q _ h9 => hFc q.1 h9)
                      refine lv_iinc (v := (x7_218 + 1)) (lv' := [(7, .int (x7_218 + 1)), (0, .ref o), (1, .int x1), (4, .int x4_66), (8, .int x8_218)]) hx hb dX10_heirs_310 hl (k := 3) rfl (by rfl) (by decide) rfl (fun ls hl => ?_)
                      refine lv_goto (tgt := 218) hx hb dX10_heirs_313 (by decide) ?_
                      exact ih_218 (x7_218 + 1) x8_218 I13 V14 hf _ _ hP hD hS _ (lv_sub hl [1, 2, 3, 0, 4] rfl)
                  refine lv_icmp_ne (tgt := 279) hx hb dX10_heirs_271 (by decide) (fun c271 => ?_) (fun c271 => ?_)
                  · replace hf := im c271 hf
                    refine lv_aload_n hx hb dX10_heirs_279 rfl (lv_at hl 0 rfl) ?_
                    refine va_get (D := D) (ci := 10) (v := .ref (h 11)) (C := RX10) (T := TX10) (N := 38) hx hb hts in_X10 hown hK hP 0 rfl rfl 11 (by decide) g_29 (fun _ h9 => h9) rfl dX10_heirs_280 ?_
                    refine lv_iload hx hb dX10_heirs_283 (lv_at hl 4 rfl) ?_
                    obtain ⟨c285, hf⟩ := gd hf
                    refine va_iald hx hb hK hP 7 0 rfl rfl c285 dX10_heirs_285 ?_
                    exact J286 ((Vm_218 11) x8_218.toNatClampNeg) hf _ _ hP hD hS _ (lv_sub hl [0, 1, 2, 3, 4] rfl)
                  · replace hf := ip c271 hf
                    refine lv_iload hx hb dX10_heirs_274 (lv_at hl 2 rfl) ?_
                    refine lv_goto (tgt := 286) hx hb dX10_heirs_276 (by decide) ?_
                    exact J286 x4_66 hf _ _ hP hD hS _ (lv_sub hl [0, 1, 2, 3, 4] rfl)
                refine lv_icmp_ne (tgt := 249) hx hb dX10_heirs_241 (by decide) (fun c241 => ?_) (fun c241 => ?_)
                · replace hf := im c241 hf
                  refine lv_aload_n hx hb dX10_heirs_249 rfl (lv_at hl 0 rfl) ?_
                  refine va_get (D := D) (ci := 10) (v := .ref (h 10)) (C := RX10) (T := TX10) (N := 38) hx hb hts in_X10 hown hK hP 0 rfl rfl 10 (by decide) g_26 (fun _ h9 => h9) rfl dX10_heirs_250 ?_
                  refine lv_iload hx hb dX10_heirs_253 (lv_at hl 4 rfl) ?_
                  obtain ⟨c255, hf⟩ := gd hf
                  refine va_iald hx hb hK hP 6 0 rfl rfl c255 dX10_heirs_255 ?_
                  exact J256 ((Vm_218 10) x8_218.toNatClampNeg) hf _ _ hP hD hS _ (lv_sub hl [0, 1, 2, 3, 4] rfl)
                · replace hf := ip c241 hf
                  refine lv_iload hx hb dX10_heirs_244 (lv_at hl 2 rfl) ?_
                  refine lv_goto (tgt := 256) hx hb dX10_heirs_246 (by decide) ?_
                  exact J256 x4_66 hf _ _ hP hD hS _ (lv_sub hl [0, 1, 2, 3, 4] rfl)
          refine L218 _ (fun x7_218 Im_218 Vm_218 hf H locs hP hD hS ls hl => ?_) f 0 0 I8 (va_up (va_up Vm_158 5 (upd (Vm_158 5) x1.toNatClampNeg 0)) 7 (upd (Vm_158 7) x1.toNatClampNeg (vp_nar .boolean 1))) hf _ _ hP hD hS _ (lv_sub hl [2, 3, 4, 1, 0] rfl)
          refine lv_iload hx hb dX10_heirs_322 (lv_at hl 0 rfl) ?_
          exact hret x7_218 Im_218 Vm_218 _ _ 324 _ hf hP hD hS dX10_heirs_324
        · replace hf := im c117 hf
          refine lv_bipush (v := (-3)) hx hb dX10_heirs_120 (by decide) ?_
          exact hret (-3) I5 V _ _ 122 _ hf hP hD hS dX10_heirs_122
      · replace hf := im c38 hf
        refine lv_bipush (v := (-2)) hx hb dX10_heirs_41 (by decide) ?_
        exact hret (-2) (va_up I 0 0) V _ _ 43 _ hf hP hD hS dX10_heirs_43
  · replace hf := im c10 hf
    refine lv_iconst (v := (-1)) hx hb dX10_heirs_13 (by decide) ?_
    exact hret (-1) (va_up I 0 0) V _ _ 14 _ hf hP hD hS dX10_heirs_14
def M_jubilee_L21 {ρ : Type} (f : Nat) (I5 : FI) (k_21 : FV → Option ρ) : Nat → Int32 → FV → Option ρ
  | 0, _, _ => none
  | n_21 + 1, x2_21, Vm_21 => (if (I5 4) ≤ x2_21 then (k_21 Vm_21) else if x2_21 < 0 ∨ 6 ≤ x2_21.toNatClampNeg then none else ((M_jubilee_L21 f I5 k_21 n_21 (x2_21 + 1) (va_up Vm_21 8 (upd (Vm_21 8) x2_21.toNatClampNeg (vp_nar .boolean 0))))))
def M_jubilee (f : Nat) (I : FI) (V : FV) : Option (Int32 × FI × FV) := ob2 (M_note f (va_up I 0 0) V) (fun I2 V3 => nm (I2 9) (fun y4 => nm (va_up I2 9 0) (fun I5 => (M_jubilee_L21 f I5 (fun (Vm_21 : FV) => some (y4, I5, Vm_21)) f 0 V3))))
abbrev rm_M_jubilee : Room := { frames := 2, cells := 0, slots := 0, locals := 44 }
set_option maxHeartbeats 4000000 in
set_option maxRecDepth 100000 in
theorem c_M_jubilee (l : Launch) (D : va_G) (cs : Nat → ClassId) (o : Nat) (h : Nat → Nat) (sz : Nat) (I : FI) (V : FV) (f : Nat) (out : Int32 × FI × FV) (hf : M_jubilee f I V = some out) : Met l yX10_jubilee wsX10_jubilee rm_M_jubilee (va_Pc [.ref o] (xP D cs (w_M cs o h I V) sz)) (va_Qi (fun r u => (r, u) = out) (fun (u : FI × FV) t => xA D cs (va_A (w_M cs o h I V) sz) (w_M cs o h u.1 u.2) t) (va_A (w_M cs o h I V) sz)) 0 0 (va_A (w_M cs o h I V) sz) := by
  refine Met.ofW (cc := cX10_jubilee) (maxL := 3) (ret := (some .int)) (by decide) rfl ?_
  intro p e s m args below meth c s₁ B hml hv
  obtain ⟨ha, hsz, hP, hK, hD0⟩ := hv
  have hx := B.exec
  have hb := B.bytes
  have hr := B.returns
  have hts := atoms_spec (ws := wsX10_jubilee) B.pre
  have hown : s.vm.findClass RX10 = some m.cls := findClass_of_methodNamed B.named
  have hlocks := B.notSynchronized
  have in_X10 : ∀ w ∈ u_ws RX10 TX10 38, w ∈ wsX10_jubilee := fun w h => List.mem_cons_of_mem _ (List.mem_append_right _ h)
  have g_92 := hts (.fieldLink RX10 92 "DaysLentModel" "thrown" "I") (by decide +kernel)
  have w_note_173 := cwV (R := rm_M_jubilee) (s := s) (args := args) (rm := rm_M_note) (mc := 0) (ms := 0) 0 hts gX10_jubilee_X10_note rfl rfl rfl (by decide +kernel) ⟨Nat.le_of_ble_eq_true rfl, Nat.le_of_ble_eq_true rfl⟩
  have g_135 := hts (.fieldLink RX10 135 "DaysLentModel" "debts" "I") (by decide +kernel)
  have g_96 := hts (.fieldLink RX10 96 "DaysLentModel" "people" "I") (by decide +kernel)
  have g_23 := hts (.fieldLink RX10 23 "DaysLentModel" "broken" "[Z") (by decide +kernel)
  subst hsz
  have hD := hD0.self (sz := s.heap.size)
  generalize hAe : va_A (w_M cs o h I V) s.heap.size = A at hD ⊢
  have hA : ∀ q : Nat, s.heap.size ≤ q → A q := fun q h => by rw [← hAe]; exact Or.inr h
  have hS : va_S A s.heap s.heap [] := va_S.rf
  have hl := lv_entry ([.ref o]) (n := 3) (Nat.le_of_ble_eq_true rfl)
  rw [show entryFrame m args 3 = entryFrame m ([.ref o] : List Value).toArray 3 from by rw [ha], lg_entry_eq]
  generalize (lg_sl ([.ref o]) ++ List.replicate (3 - (lg_sl ([.ref o])).length) Slot.unset).toArray = ls at hl ⊢
  have hl : lv_has ls 3 [(0, .ref o)] := hl
  generalize hQ : MQ below (va_Qi (fun r u => (r, u) = out) (fun (u : FI × FV) t => xA D cs A (w_M cs o h u.1 u.2) t) A) args s 0 0 A = Q
  show W p l e rm_M_jubilee s m args below meth c s.heap [] 0 0 Q (F0 m 0 ls [])
  have hret : ∀ (v : Int32) (Im9 : FI) (Vm9 : FV) (H : Heap) (locs : List Loc) (pc : Nat) (ls : Array Slot), some (v, Im9, Vm9) = some out → va_P D vwCl (w_M cs o h Im9 Vm9) H → va_D A (w_M cs o h Im9 Vm9) → va_S A s.heap H locs → decode cX10_jubilee pc = .ok (.ireturn, 1) → W p l e rm_M_jubilee s m args below meth c H locs 0 0 Q (F0 m pc ls [.int v]) := by
    intro v Im9 Vm9 H locs pc ls hf hP hD hS hd
    rw [← hQ]
    exact W.iret (v := v) hx hb hr (fun t ht hW => ⟨⟨v, (Im9, Vm9), rfl, Option.some.inj hf, by show va_P D vwCl (w_M cs o h Im9 Vm9) t.heap; rw [ht]; exact hP, va_K.moved hW.alike hK, hD⟩, hS.F ht⟩) hS.2.2 hd
  unfold M_jubilee at hf
  refine lv_aload_n hx hb dX10_jubilee_0 rfl (lv_at hl 0 rfl) ?_
  refine lv_iconst (v := 0) hx hb dX10_jubilee_1 (by decide) ?_
  refine va_put (D := D) (ci := 10) (v := .int 0) (ty := .int) (C := RX10) (T := TX10) (N := 38) hx hb hts in_X10 tyX10 tyX10_ok nmX10 hown hK hP hD hS 0 rfl rfl 0 (by decide) g_92 (fun _ h9 => h9) rfl (by decide +kernel) rfl rfl (Nat.le_of_ble_eq_true rfl) dX10_jubilee_2 (fun H locs hP hD hS => ?_)
  have hP : va_P D vwCl (w_M cs o h (va_up I 0 0) V) H := hP
  have hD : va_D A (w_M cs o h (va_up I 0 0) V) := hD
  refine lv_aload_n hx hb dX10_jubilee_5 rfl (lv_at hl 0 rfl) ?_
  obtain ⟨I2, V3, qr1, hf⟩ := bd2 hf
  have hFc := xfree hD hS hA
  refine va_callv (va_runV (As := []) (rest := []) ⟨hx, hb, hml, hown, hts⟩ (c_M_note l D cs o h _ (va_up I 0 0) V f _ qr1) w_note_173 ⟨xP_moved, va_recv hK hP (ci := 10) (q0 := 0) rfl rfl, fun U hU hW => ⟨rfl, by rw [hU], by rw [hU]; exact hP, va_K.moved hW.alike hK, hD.weaken (fun _ _ _ _ => trivial)⟩⟩ rfl rfl hl.1 rfl (lv_room (Nat.le_of_ble_eq_true rfl)) dX10_jubilee_6 ⟨Nat.zero_le _, Nat.zero_le _⟩) hS (fun q _ h9 => hFc q h9) hFc (fun u t H1 locs ht hvm hw hB hz1 hk1 hS => ?_)
  rw [hw] at hB
  obtain ⟨hP1, hK1, hD1⟩ := hB
  have hP : va_P D vwCl (w_M cs o h I2 V3) H1 := by rw [← ht]; exact hP1
  have hD : va_D A (w_M cs o h I2 V3) := hD1.weaken (fun _ q _ h9 => hFc q.1 h9)
  refine lv_aload_n hx hb dX10_jubilee_9 rfl (lv_at hl 0 rfl) ?_
  refine va_get (D := D) (ci := 10) (v := .int (I2 9)) (C := RX10) (T := TX10) (N := 38) hx hb hts in_X10 hown hK hP 0 rfl rfl 9 (by decide) g_135 (fun _ h9 => h9) rfl dX10_jubilee_10 ?_
  refine lv_istore_n (lv' := [(1, .int (I2 9)), (0, .ref o)]) hx hb dX10_jubilee_13 rfl hl (by decide) rfl (fun ls hl => ?_)
  refine lv_aload_n hx hb dX10_jubilee_14 rfl (lv_at hl 1 rfl) ?_
  refine lv_iconst (v := 0) hx hb dX10_jubilee_15 (by decide) ?_
  refine va_put (D := D) (ci := 10) (v := .int 0) (ty := .int) (C := RX10) (T := TX10) (N := 38) hx hb hts in_X10 tyX10 tyX10_ok nmX10 hown hK hP hD hS 0 rfl rfl 9 (by decide) g_135 (fun _ h9 => h9) rfl (by decide +kernel) rfl rfl (Nat.le_of_ble_eq_true rfl) dX10_jubilee_16 (fun H locs hP hD hS => ?_)
  have hP : va_P D vwCl (w_M cs o h (va_up I2 9 0) V3) H := hP
  have hD : va_D A (w_M cs o h (va_up I2 9 0) V3) := hD
  refine lv_iconst (v := 0) hx hb dX10_jubilee_19 (by decide) ?_
  refine lv_istore_n (lv' := [(2, .int 0), (1, .int (I2 9)), (0, .ref o)]) hx hb dX10_jubilee_20 rfl hl (by decide) rfl (fun ls hl => ?_)
  obtain ⟨y4, ey4, hf⟩ := nme hf
  rw [← ey4] at hl
  obtain ⟨I5, eI5, hf⟩ := nme hf
  rw [← eI5] at hP hD
  have L21 : ∀ (k_21 : FV → Option (Int32 × FI × FV)) (hk_21 : ∀ (Vm_21 : FV), k_21 Vm_21 = some out → ∀ (H : Heap) (locs : List Loc), va_P D vwCl (w_M cs o h I5 Vm_21) H → va_D A (w_M cs o h I5 Vm_21) → va_S A s.heap H locs → ∀ ls : Array Slot, lv_has ls 3 [(1, .int y4)] → W p l e rm_M_jubilee s m args below meth c H locs 0 0 Q (F0 m 42 ls [])), ∀ (n_21 : Nat) (x2_21 : Int32) (Vm_21 : FV), M_jubilee_L21 f I5 k_21 n_21 x2_21 Vm_21 = some out → ∀ (H : Heap) (locs : List Loc), va_P D vwCl (w_M cs o h I5 Vm_21) H → va_D A (w_M cs o h I5 Vm_21) → va_S A s.heap H locs → ∀ ls : Array Slot, lv_has ls 3 [(0, .ref o), (1, .int y4), (2, .int x2_21)] → W p l e rm_M_jubilee s m args below meth c H locs 0 0 Q (F0 m 21 ls []) := by
    intro k_21 hk_21 n_21
    induction n_21 with
    | zero => intro x2_21 Vm_21 hf; rw [M_jubilee_L21] at hf; cases hf
    | succ n_21 ih_21 =>
      intro x2_21 Vm_21 hf H locs hP hD hS ls hl
      rw [M_jubilee_L21] at hf
      refine lv_iload_n hx hb dX10_jubilee_21 rfl (lv_at hl 2 rfl) ?_
      refine lv_aload_n hx hb dX10_jubilee_22 rfl (lv_at hl 0 rfl) ?_
      refine va_get (D := D) (ci := 10) (v := .int (I5 4)) (C := RX10) (T := TX10) (N := 38) hx hb hts in_X10 hown hK hP 0 rfl rfl 4 (by decide) g_96 (fun _ h9 => h9) rfl dX10_jubilee_23 ?_
      refine lv_icmp_ge (tgt := 42) hx hb dX10_jubilee_26 (by decide) (fun c26 => ?_) (fun c26 => ?_)
      · replace hf := ip c26 hf
        exact hk_21 Vm_21 hf _ _ hP hD hS _ (lv_sub hl [1] rfl)
      · replace hf := im c26 hf
        refine lv_aload_n hx hb dX10_jubilee_29 rfl (lv_at hl 0 rfl) ?_
        refine va_get (D := D) (ci := 10) (v := .ref (h 8)) (C := RX10) (T := TX10) (N := 38) hx hb hts in_X10 hown hK hP 0 rfl rfl 8 (by decide) g_23 (fun _ h9 => h9) rfl dX10_jubilee_30 ?_
        refine lv_iload_n hx hb dX10_jubilee_33 rfl (lv_at hl 2 rfl) ?_
        refine lv_iconst (v := 0) hx hb dX10_jubilee_34 (by decide) ?_
        obtain ⟨c35, hf⟩ := gd hf
        refine va_zast hx hb hK hP hD hS 5 1 rfl rfl c35 dX10_jubilee_35 (fun H locs hP hD hS => ?_)
        have hP : va_P D vwCl (w_M cs o h I5 (va_up Vm_21 8 (upd (Vm_21 8) x2_21.toNatClampNeg (vp_nar .boolean 0)))) H := hP
        have hD : va_D A (w_M cs o h I5 (va_up Vm_21 8 (upd (Vm_21 8) x2_21.toNatClampNeg (vp_nar .boolean 0)))) := hD
        refine lv_iinc (v := (x2_21 + 1)) (lv' := [(2, .int (x2_21 + 1)), (0, .ref o), (1, .int y4)]) hx hb dX10_jubilee_36 hl (k := 2) rfl (by rfl) (by decide) rfl (fun ls hl => ?_)
        refine lv_goto (tgt := 21) hx hb dX10_jubilee_39 (by decide) ?_
        exact ih_21 (x2_21 + 1) (va_up Vm_21 8 (upd (Vm_21 8) x2_21.toNatClampNeg (vp_nar .boolean 0))) hf _ _ hP hD hS _ (lv_sub hl [1, 2, 0] rfl)
  refine L21 _ (fun Vm_21 hf H locs hP hD hS ls hl => ?_) f 0 V3 hf _ _ hP hD hS _ (lv_sub hl [2, 1, 0] rfl)
  refine lv_iload_n hx hb dX10_jubilee_42 rfl (lv_at hl 0 rfl) ?_
  exact hret y4 I5 Vm_21 _ _ 43 _ hf hP hD hS dX10_jubilee_43
def M_undo (f : Nat) (I : FI) (V : FV) : Option (Int32 × FI × FV) := (if (I 24) = 0 then some ((-3), (va_up I 0 0), V) else ob2 (M_takePage_book f (74 * ((I 24) - 1)) (va_up (va_up I 0 0) 24 ((I 24) - 1)) V) (fun I2 V3 => some ((I2 24), I2, V3)))
abbrev rm_M_undo : Room := { frames := 2, cells := 0, slots := 0, locals := 44 }
set_option maxHeartbeats 4000000 in
set_option maxRecDepth 100000 in
theorem c_M_undo (l : Launch) (D : va_G) (cs : Nat → ClassId) (o : Nat) (h : Nat → Nat) (sz : Nat) (I : FI) (V : FV) (f : Nat) (out : Int32 × FI × FV) (hf : M_undo f I V = some out) : Met l yX10_undo wsX10_undo rm_M_undo (va_Pc [.ref o] (xP D cs (w_M cs o h I V) sz)) (va_Qi (fun r u => (r, u) = out) (fun (u : FI × FV) t => xA D cs (va_A (w_M cs o h I V) sz) (w_M cs o h u.1 u.2) t) (va_A (w_M cs o h I V) sz)) 0 0 (va_A (w_M cs o h I V) sz) := by
  refine Met.ofW (cc := cX10_undo) (maxL := 1) (ret := (some .int)) (by decide) rfl ?_
  intro p e s m args below meth c s₁ B hml hv
  obtain ⟨ha, hsz, hP, hK, hD0⟩ := hv
  have hx := B.exec
  have hb := B.bytes
  have hr := B.returns
  have hts := atoms_spec (ws := wsX10_undo) B.pre
  have hown : s.vm.findClass RX10 = some m.cls := findClass_of_methodNamed B.named
  have hlocks := B.notSynchronized
  have in_X10 : ∀ w ∈ u_ws RX10 TX10 38, w ∈ wsX10_undo := fun w h => List.mem_cons_of_mem _ (List.mem_append_right _ h)
  have g_92 := hts (.fieldLink RX10 92 "DaysLentModel" "thrown" "I") (by decide +kernel)
  have g_141 := hts (.fieldLink RX10 141 "DaysLentModel" "acts" "I") (by decide +kernel)
  have g_56 := hts (.fieldLink RX10 56 "DaysLentModel" "book" "[I") (by decide +kernel)
  have w_takePage_180 := cwV (R := rm_M_undo) (s := s) (args := args) (rm := rm_M_takePage_book) (mc := 0) (ms := 0) 2 hts gX10_undo_X10_takePage rfl rfl rfl (by decide +kernel) ⟨Nat.le_of_ble_eq_true rfl, Nat.le_of_ble_eq_true rfl⟩
  subst hsz
  have hD := hD0.self (sz := s.heap.size)
  generalize hAe : va_A (w_M cs o h I V) s.heap.size = A at hD ⊢
  have hA : ∀ q : Nat, s.heap.size ≤ q → A q := fun q h => by rw [← hAe]; exact Or.inr h
  have hS : va_S A s.heap s.heap [] := va_S.rf
  have hl := lv_entry ([.ref o]) (n := 1) (Nat.le_of_ble_eq_true rfl)
  rw [show entryFrame m args 1 = entryFrame m ([.ref o] : List Value).toArray 1 from by rw [ha], lg_entry_eq]
  generalize (lg_sl ([.ref o]) ++ List.replicate (1 - (lg_sl ([.ref o])).length) Slot.unset).toArray = ls at hl ⊢
  have hl : lv_has ls 1 [(0, .ref o)] := hl
  generalize hQ : MQ below (va_Qi (fun r u => (r, u) = out) (fun (u : FI × FV) t => xA D cs A (w_M cs o h u.1 u.2) t) A) args s 0 0 A = Q
  show W p l e rm_M_undo s m args below meth c s.heap [] 0 0 Q (F0 m 0 ls [])
  have hret : ∀ (v : Int32) (Im9 : FI) (Vm9 : FV) (H : Heap) (locs : List Loc) (pc : Nat) (ls : Array Slot), some (v, Im9, Vm9) = some out → va_P D vwCl (w_M cs o h Im9 Vm9) H → va_D A (w_M cs o h Im9 Vm9) → va_S A s.heap H locs → decode cX10_undo pc = .ok (.ireturn, 1) → W p l e rm_M_undo s m args below meth c H locs 0 0 Q (F0 m pc ls [.int v]) := by
    intro v Im9 Vm9 H locs pc ls hf hP hD hS hd
    rw [← hQ]
    exact W.iret (v := v) hx hb hr (fun t ht hW => ⟨⟨v, (Im9, Vm9), rfl, Option.some.inj hf, by show va_P D vwCl (w_M cs o h Im9 Vm9) t.heap; rw [ht]; exact hP, va_K.moved hW.alike hK, hD⟩, hS.F ht⟩) hS.2.2 hd
  unfold M_undo at hf
  refine lv_aload_n hx hb dX10_undo_0 rfl (lv_at hl 0 rfl) ?_
  refine lv_iconst (v := 0) hx hb dX10_undo_1 (by decide) ?_
  refine va_put (D := D) (ci := 10) (v := .int 0) (ty := .int) (C := RX10) (T := TX10) (N := 38) hx hb hts in_X10 tyX10 tyX10_ok nmX10 hown hK hP hD hS 0 rfl rfl 0 (by decide) g_92 (fun _ h9 => h9) rfl (by decide +kernel) rfl rfl (Nat.le_of_ble_eq_true rfl) dX10_undo_2 (fun H locs hP hD hS => ?_)
  have hP : va_P D vwCl (w_M cs o h (va_up I 0 0) V) H := hP
  have hD : va_D A (w_M cs o h (va_up I 0 0) V) := hD
  refine lv_aload_n hx hb dX10_undo_5 rfl (lv_at hl 0 rfl) ?_
  refine va_get (D := D) (ci := 10) (v := .int (I 24)) (C := RX10) (T := TX10) (N := 38) hx hb hts in_X10 hown hK hP 0 rfl rfl 24 (by decide) g_141 (fun _ h9 => h9) rfl dX10_undo_6 ?_
  refine lv_if_ne (tgt := 15) hx hb dX10_undo_9 (by decide) (fun c9 => ?_) (fun c9 => ?_)
  · replace hf := im c9 hf
    refine lv_aload_n hx hb dX10_undo_15 rfl (lv_at hl 0 rfl) ?_
    refine lv_dup hx hb dX10_undo_16 rfl ?_
    refine va_get (D := D) (ci := 10) (v := .int (I 24)) (C := RX10) (T := TX10) (N := 38) hx hb hts in_X10 hown hK hP 0 rfl rfl 24 (by decide) g_141 (fun _ h9 => h9) rfl dX10_undo_17 ?_
    refine lv_iconst (v := 1) hx hb dX10_undo_20 (by decide) ?_
    refine lv_isub hx hb dX10_undo_21 ?_
    refine va_put (D := D) (ci := 10) (v := .int ((I 24) - 1)) (ty := .int) (C := RX10) (T := TX10) (N := 38) hx hb hts in_X10 tyX10 tyX10_ok nmX10 hown hK hP hD hS 0 rfl rfl 24 (by decide) g_141 (fun _ h9 => h9) rfl (by decide +kernel) rfl rfl (Nat.le_of_ble_eq_true rfl) dX10_undo_22 (fun H locs hP hD hS => ?_)
    have hP : va_P D vwCl (w_M cs o h (va_up (va_up I 0 0) 24 ((I 24) - 1)) V) H := hP
    have hD : va_D A (w_M cs o h (va_up (va_up I 0 0) 24 ((I 24) - 1)) V) := hD
    refine lv_aload_n hx hb dX10_undo_25 rfl (lv_at hl 0 rfl) ?_
    refine lv_aload_n hx hb dX10_undo_26 rfl (lv_at hl 0 rfl) ?_
    refine va_get (D := D) (ci := 10) (v := .ref (h 23)) (C := RX10) (T := TX10) (N := 38) hx hb hts in_X10 hown hK hP 0 rfl rfl 23 (by decide) g_56 (fun _ h9 => h9) rfl dX10_undo_27 ?_
    refine lv_bipush (v := 74) hx hb dX10_undo_30 (by decide) ?_
    refine lv_aload_n hx hb dX10_undo_32 rfl (lv_at hl 0 rfl) ?_
    refine va_get (D := D) (ci := 10) (v := .int ((I 24) - 1)) (C := RX10) (T := TX10) (N := 38) hx hb hts in_X10 hown hK hP 0 rfl rfl 24 (by decide) g_141 (fun _ h9 => h9) rfl dX10_undo_33 ?_
    refine lv_imul hx hb dX10_undo_36 ?_
    obtain ⟨I2, V3, qr1, hf⟩ := bd2 hf
    have hFc := xfree hD hS hA
    refine va_callv (va_runV (As := [.ref (h 23), .int (74 * ((I 24) - 1))]) (rest := []) ⟨hx, hb, hml, hown, hts⟩ (c_M_takePage_book l D cs o h _ (va_up (va_up I 0 0) 24 ((I 24) - 1)) V (74 * ((I 24) - 1)) f _ qr1) w_takePage_180 ⟨xP_moved, va_recv hK hP (ci := 10) (q0 := 0) rfl rfl, fun U hU hW => ⟨rfl, by rw [hU], by rw [hU]; exact hP, va_K.moved hW.alike hK, hD.weaken (fun _ _ _ _ => trivial)⟩⟩ rfl rfl hl.1 rfl (lv_room (Nat.le_of_ble_eq_true rfl)) dX10_undo_37 ⟨Nat.zero_le _, Nat.zero_le _⟩) hS (fun q _ h9 => hFc q h9) hFc (fun u t H1 locs ht hvm hw hB hz1 hk1 hS => ?_)
    rw [hw] at hB
    obtain ⟨hP1, hK1, hD1⟩ := hB
    have hP : va_P D vwCl (w_M cs o h I2 V3) H1 := by rw [← ht]; exact hP1
    have hD : va_D A (w_M cs o h I2 V3) := hD1.weaken (fun _ q _ h9 => hFc q.1 h9)
    refine lv_aload_n hx hb dX10_undo_40 rfl (lv_at hl 0 rfl) ?_
    refine va_get (D := D) (ci := 10) (v := .int (I2 24)) (C := RX10) (T := TX10) (N := 38) hx hb hts in_X10 hown hK hP 0 rfl rfl 24 (by decide) g_141 (fun _ h9 => h9) rfl dX10_undo_41 ?_
    exact hret (I2 24) I2 V3 _ _ 44 _ hf hP hD hS dX10_undo_44
  · replace hf := ip c9 hf
    refine lv_bipush (v := (-3)) hx hb dX10_undo_12 (by decide) ?_
    exact hret (-3) (va_up I 0 0) V _ _ 14 _ hf hP hD hS dX10_undo_14
def M_fewest_L9 {ρ : Type} (f : Nat) (I1 : FI) (V : FV) (k_9 : Int32 → Option ρ) : Nat → Int32 → Int32 → Option ρ
  | 0, _, _ => none
  | n_9 + 1, x1_9, x2_9 => (if (I1 4) ≤ x2_9 then (k_9 x1_9) else ob1 (M_owedAll f x2_9 I1 V) (fun zr2 => ob1 (M_owesAll f x2_9 I1 V) (fun zr3 => (nm (fun (t1_38 : Int32) => (M_fewest_L9 f I1 V k_9 n_9 (x1_9 ||| t1_38) (x2_9 + 1))) (fun j38 => (if zr2 = zr3 then (j38 0) else (j38 (1 <<< (x2_9 &&& 31)))))))))
def M_fewest_L69 {ρ : Type} (f : Nat) (I1 : FI) (x3_50 : Int32) (Vm_50 : FV) (k_69 : Int32 → Int32 → Option ρ) : Nat → Int32 → Int32 → Int32 → Option ρ
  | 0, _, _, _ => none
  | n_69 + 1, x4_69, x5_69, x6_69 => (if (I1 4) ≤ x6_69 then (k_69 x4_69 x5_69) else ob1 (M_has f x3_50 x6_69) (fun zr4 => (nm (fun (x4_136 : Int32) (x5_136 : Int32) => (M_fewest_L69 f I1 x3_50 Vm_50 k_69 n_69 x4_136 x5_136 (x6_69 + 1))) (fun j136 => (if zr4 = 0 then (j136 x4_69 x5_69) else ob1 (M_owedAll f x6_69 I1 Vm_50) (fun zr5 => ob1 (M_owesAll f x6_69 I1 Vm_50) (fun zr6 => nm (x4_69 + (zr5 - zr6)) (fun y7 => if (x3_50 &&& ((1 <<< (x6_69 &&& 31)) ^^^ (-1))) < 0 ∨ 64 ≤ (x3_50 &&& ((1 <<< (x6_69 &&& 31)) ^^^ (-1))).toNatClampNeg then none else (nm ((Vm_50 31) (x3_50 &&& ((1 <<< (x6_69 &&& 31)) ^^^ (-1))).toNatClampNeg) (fun y8 => (nm (fun (t0_134 : Int32) => (j136 y7 t0_134)) (fun j134 => (if y8 ≤ x5_69 then (j134 x5_69) else (j134 y8))))))))))))))
def M_fewest_L50 {ρ : Type} (f : Nat) (I1 : FI) (k_50 : FV → Option ρ) : Nat → Int32 → FV → Option ρ
  | 0, _, _ => none
  | n_50 + 1, x3_50, Vm_50 => (if (1 <<< ((I1 4) &&& 31)) ≤ x3_50 then (k_50 Vm_50) else (M_fewest_L69 f I1 x3_50 Vm_50 (fun (x4_69 : Int32) (x5_69 : Int32) => (nm (fun (t3_163 : Int32) => if x3_50 < 0 ∨ 64 ≤ x3_50.toNatClampNeg then none else ((M_fewest_L50 f I1 k_50 n_50 (x3_50 + 1) (va_up Vm_50 31 (upd (Vm_50 31) x3_50.toNatClampNeg (x5_69 + t3_163)))))) (fun j163 => nm (fun (u_162 : Unit) => (j163 0)) (fun j162 => (if x3_50 = 0 then (j162 ()) else (if x4_69 = 0 then (j163 1) else (j162 ()))))))) f 0 0 0))
def M_fewest_L173 {ρ : Type} (f : Nat) (I1 : FI) (x1_9 : Int32) (k_173 : Int32 → Option ρ) : Nat → Int32 → Int32 → Option ρ
  | 0, _, _ => none
  | n_173 + 1, x2_173, x3_173 => (if (I1 4) ≤ x3_173 then (k_173 x2_173) else ob1 (M_has f x1_9 x3_173) (fun zr9 => (nm (fun (t1_195 : Int32) => (M_fewest_L173 f I1 x1_9 k_173 n_173 (x2_173 + t1_195) (x3_173 + 1))) (fun j195 => (if zr9 = 0 then (j195 0) else (j195 1))))))
def M_fewest (f : Nat) (I : FI) (V : FV) : Option (Int32 × FI × FV) := nm (va_up I 0 0) (fun I1 => (M_fewest_L9 f I1 V (fun (x1_9 : Int32) => (M_fewest_L50 f I1 (fun (Vm_50 : FV) => (M_fewest_L173 f I1 x1_9 (fun (x2_173 : Int32) => if x1_9 < 0 ∨ 64 ≤ x1_9.toNatClampNeg then none else (some ((x2_173 - ((Vm_50 31) x1_9.toNatClampNeg)), I1, Vm_50))) f 0 0)) f 0 V)) f 0 0))
abbrev rm_M_fewest : Room := { frames := 1, cells := 0, slots := 0, locals := 23 }
set_option maxHeartbeats 4000000 in
set_option maxRecDepth 100000 in
theorem c_M_fewest (l : Launch) (D : va_G) (cs : Nat → ClassId) (o : Nat) (h : Nat → Nat) (sz : Nat) (I : FI) (V : FV) (f : Nat) (out : Int32 × FI × FV) (hf : M_fewest f I V = some out) : Met l yX10_fewest wsX10_fewest rm_M_fewest (va_Pc [.ref o] (xP D cs (w_M cs o h I V) sz)) (va_Qi (fun r u => (r, u) = out) (fun (u : FI × FV) t => xA D cs (va_A (w_M cs o h I V) sz) (w_M cs o h u.1 u.2) t) (va_A (w_M cs o h I V) sz)) 0 0 (va_A (w_M cs o h I V) sz) := by
  refine Met.ofW (cc := cX10_fewest) (maxL := 8) (ret := (some .int)) (by decide) rfl ?_
  intro p e s m args below meth c s₁ B hml hv
  obtain ⟨ha, hsz, hP, hK, hD0⟩ := hv
  have hx := B.exec
  have hb := B.bytes
  have hr := B.returns
  have hts := atoms_spec (ws := wsX10_fewest) B.pre
  have hown : s.vm.findClass RX10 = some m.cls := findClass_of_methodNamed B.named
  have hlocks := B.notSynchronized
  have in_X10 : ∀ w ∈ u_ws RX10 TX10 38, w ∈ wsX10_fewest := fun w h => List.mem_cons_of_mem _ (List.mem_append_right _ h)
  have g_92 := hts (.fieldLink RX10 92 "DaysLentModel" "thrown" "I") (by decide +kernel)
  have g_96 := hts (.fieldLink RX10 96 "DaysLentModel" "people" "I") (by decide +kernel)
  have w_owedAll_155 := cwV (R := rm_M_fewest) (s := s) (args := args) (rm := rm_M_owedAll) (mc := 0) (ms := 0) 1 hts gX10_fewest_X10_owedAll rfl rfl rfl (by decide +kernel) ⟨Nat.le_of_ble_eq_true rfl, Nat.le_of_ble_eq_true rfl⟩
  have w_owesAll_144 := cwV (R := rm_M_fewest) (s := s) (args := args) (rm := rm_M_owesAll) (mc := 0) (ms := 0) 1 hts gX10_fewest_X10_owesAll rfl rfl rfl (by decide +kernel) ⟨Nat.le_of_ble_eq_true rfl, Nat.le_of_ble_eq_true rfl⟩
  have w_has_160 := va_cwS (R := rm_M_fewest) (s := s) (args := args) (rm := rm_M_has) (mc := 0) (ms := 0) 2 hts gX10_fewest_X10_has rfl rfl rfl (by decide +kernel) ⟨Nat.le_of_ble_eq_true rfl, Nat.le_of_ble_eq_true rfl⟩
  have g_74 := hts (.fieldLink RX10 74 "DaysLentModel" "groups" "[I") (by decide +kernel)
  subst hsz
  have hD := hD0.self (sz := s.heap.size)
  generalize hAe : va_A (w_M cs o h I V) s.heap.size = A at hD ⊢
  have hA : ∀ q : Nat, s.heap.size ≤ q → A q := fun q h => by rw [← hAe]; exact Or.inr h
  have hS : va_S A s.heap s.heap [] := va_S.rf
  have hl := lv_entry ([.ref o]) (n := 8) (Nat.le_of_ble_eq_true rfl)
  rw [show entryFrame m args 8 = entryFrame m ([.ref o] : List Value).toArray 8 from by rw [ha], lg_entry_eq]
  generalize (lg_sl ([.ref o]) ++ List.replicate (8 - (lg_sl ([.ref o])).length) Slot.unset).toArray = ls at hl ⊢
  have hl : lv_has ls 8 [(0, .ref o)] := hl
  generalize hQ : MQ below (va_Qi (fun r u => (r, u) = out) (fun (u : FI × FV) t => xA D cs A (w_M cs o h u.1 u.2) t) A) args s 0 0 A = Q
  show W p l e rm_M_fewest s m args below meth c s.heap [] 0 0 Q (F0 m 0 ls [])
  have hret : ∀ (v : Int32) (Im9 : FI) (Vm9 : FV) (H : Heap) (locs : List Loc) (pc : Nat) (ls : Array Slot), some (v, Im9, Vm9) = some out → va_P D vwCl (w_M cs o h Im9 Vm9) H → va_D A (w_M cs o h Im9 Vm9) → va_S A s.heap H locs → decode cX10_fewest pc = .ok (.ireturn, 1) → W p l e rm_M_fewest s m args below meth c H locs 0 0 Q (F0 m pc ls [.int v]) := by
    intro v Im9 Vm9 H locs pc ls hf hP hD hS hd
    rw [← hQ]
    exact W.iret (v := v) hx hb hr (fun t ht hW => ⟨⟨v, (Im9, Vm9), rfl, Option.some.inj hf, by show va_P D vwCl (w_M cs o h Im9 Vm9) t.heap; rw [ht]; exact hP, va_K.moved hW.alike hK, hD⟩, hS.F ht⟩) hS.2.2 hd
  unfold M_fewest at hf
  refine lv_aload_n hx hb dX10_fewest_0 rfl (lv_at hl 0 rfl) ?_
  refine lv_iconst (v := 0) hx hb dX10_fewest_1 (by decide) ?_
  refine va_put (D := D) (ci := 10) (v := .int 0) (ty := .int) (C := RX10) (T := TX10) (N := 38) hx hb hts in_X10 tyX10 tyX10_ok nmX10 hown hK hP hD hS 0 rfl rfl 0 (by decide) g_92 (fun _ h9 => h9) rfl (by decide +kernel) rfl rfl (Nat.le_of_ble_eq_true rfl) dX10_fewest_2 (fun H locs hP hD hS => ?_)
  have hP : va_P D vwCl (w_M cs o h (va_up I 0 0) V) H := hP
  have hD : va_D A (w_M cs o h (va_up I 0 0) V) := hD
  refine lv_iconst (v := 0) hx hb dX10_fewest_5 (by decide) ?_
  refine lv_istore_n (lv' := [(1, .int 0), (0, .ref o)]) hx hb dX10_fewest_6 rfl hl (by decide) rfl (fun ls hl => ?_)
  refine lv_iconst (v := 0) hx hb dX10_fewest_7 (by decide) ?_
  refine lv_istore_n (lv' := [(2, .int 0), (1, .int 0), (0, .ref o)]) hx hb dX10_fewest_8 rfl hl (by decide) rfl (fun ls hl => ?_)
  obtain ⟨I1, eI1, hf⟩ := nme hf
  rw [← eI1] at hP hD
  have L9 : ∀ (k_9 : Int32 → Option (Int32 × FI × FV)) (hk_9 : ∀ (x1_9 : Int32), k_9 x1_9 = some out → ∀ (H : Heap) (locs : List Loc), va_P D vwCl (w_M cs o h I1 V) H → va_D A (w_M cs o h I1 V) → va_S A s.heap H locs → ∀ ls : Array Slot, lv_has ls 8 [(0, .ref o), (1, .int x1_9)] → W p l e rm_M_fewest s m args below meth c H locs 0 0 Q (F0 m 46 ls [])), ∀ (n_9 : Nat) (x1_9 : Int32) (x2_9 : Int32), M_fewest_L9 f I1 V k_9 n_9 x1_9 x2_9 = some out → ∀ (H : Heap) (locs : List Loc), va_P D vwCl (w_M cs o h I1 V) H → va_D A (w_M cs o h I1 V) → va_S A s.heap H locs → ∀ ls : Array Slot, lv_has ls 8 [(0, .ref o), (1, .int x1_9), (2, .int x2_9)] → W p l e rm_M_fewest s m args below meth c H locs 0 0 Q (F0 m 9 ls []) := by
    intro k_9 hk_9 n_9
    induction n_9 with
    | zero => intro x1_9 x2_9 hf; rw [M_fewest_L9] at hf; cases hf
    | succ n_9 ih_9 =>
      intro x1_9 x2_9 hf H locs hP hD hS ls hl
      rw [M_fewest_L9] at hf
      refine lv_iload_n hx hb dX10_fewest_9 rfl (lv_at hl 2 rfl) ?_
      refine lv_aload_n hx hb dX10_fewest_10 rfl (lv_at hl 0 rfl) ?_
      refine va_get (D := D) (ci := 10) (v := .int (I1 4)) (C := RX10) (T := TX10) (N := 38) hx hb hts in_X10 hown hK hP 0 rfl rfl 4 (by decide) g_96 (fun _ h9 => h9) rfl dX10_fewest_11 ?_
      refine lv_icmp_ge (tgt := 46) hx hb dX10_fewest_14 (by decide) (fun c14 => ?_) (fun c14 => ?_)
      · replace hf := ip c14 hf
        exact hk_9 x1_9 hf _ _ hP hD hS _ (lv_sub hl [0, 1] rfl)
      · replace hf := im c14 hf
        refine lv_iload_n hx hb dX10_fewest_17 rfl (lv_at hl 1 rfl) ?_
        refine lv_aload_n hx hb dX10_fewest_18 rfl (lv_at hl 0 rfl) ?_
        refine lv_iload_n hx hb dX10_fewest_19 rfl (lv_at hl 2 rfl) ?_
        obtain ⟨zr2, qr2, hf⟩ := bd1 hf
        refine vp_callSi (va_Run.run (va_runV (As := [.int x2_9]) (rest := [.int x1_9]) ⟨hx, hb, hml, hown, hts⟩ (c_M_owedAll l D cs o h I1 V x2_9 f zr2 qr2) w_owedAll_155 ⟨xR_moved, va_recv hK hP (ci := 10) (q0 := 0) rfl rfl, fun U hU hW => ⟨rfl, by rw [hU]; exact hP, va_K.moved hW.alike hK⟩⟩ rfl rfl hl.1 rfl (lv_room (Nat.le_of_ble_eq_true rfl)) dX10_fewest_20 ⟨Nat.zero_le _, Nat.zero_le _⟩)) (fun r2 er2 => ?_)
        rw [er2]
        refine lv_aload_n hx hb dX10_fewest_23 rfl (lv_at hl 0 rfl) ?_
        refine lv_iload_n hx hb dX10_fewest_24 rfl (lv_at hl 2 rfl) ?_
        obtain ⟨zr3, qr3, hf⟩ := bd1 hf
        refine vp_callSi (va_Run.run (va_runV (As := [.int x2_9]) (rest := [.int zr2, .int x1_9]) ⟨hx, hb, hml, hown, hts⟩ (c_M_owesAll l D cs o h I1 V x2_9 f zr3 qr3) w_owesAll_144 ⟨xR_moved, va_recv hK hP (ci := 10) (q0 := 0) rfl rfl, fun U hU hW => ⟨rfl, by rw [hU]; exact hP, va_K.moved hW.alike hK⟩⟩ rfl rfl hl.1 rfl (lv_room (Nat.le_of_ble_eq_true rfl)) dX10_fewest_25 ⟨Nat.zero_le _, Nat.zero_le _⟩)) (fun r3 er3 => ?_)
        rw [er3]
        obtain ⟨j38, ej38, hf⟩ := nme hf
        have J38 : ∀ (t1_38 : Int32), j38 t1_38 = some out → ∀ (H : Heap) (locs : List Loc), va_P D vwCl (w_M cs o h I1 V) H → va_D A (w_M cs o h I1 V) → va_S A s.heap H locs → ∀ ls : Array Slot, lv_has ls 8 [(0, .ref o), (2, .int x2_9)] → W p l e rm_M_fewest s m args below meth c H locs 0 0 Q (F0 m 38 ls [.int t1_38, .int x1_9]) := by
          intro t1_38 hf H locs hP hD hS ls hl
          rw [ej38] at hf
          refine lv_ior hx hb dX10_fewest_38 ?_
          refine lv_istore_n (lv' := [(1, .int (x1_9 ||| t1_38)), (0, .ref o), (2, .int x2_9)]) hx hb dX10_fewest_39 rfl hl (by decide) rfl (fun ls hl => ?_)
          refine lv_iinc (v := (x2_9 + 1)) (lv' := [(2, .int (x2_9 + 1)), (1, .int (x1_9 ||| t1_38)), (0, .ref o)]) hx hb dX10_fewest_40 hl (k := 2) rfl (by rfl) (by decide) rfl (fun ls hl => ?_)
          refine lv_goto (tgt := 9) hx hb dX10_fewest_43 (by decide) ?_
          exact ih_9 (x1_9 ||| t1_38) (x2_9 + 1) hf _ _ hP hD hS _ (lv_sub hl [2, 1, 0] rfl)
        refine lv_icmp_ne (tgt := 35) hx hb dX10_fewest_28 (by decide) (fun c28 => ?_) (fun c28 => ?_)
        · replace hf := im c28 hf
          refine lv_iconst (v := 1) hx hb dX10_fewest_35 (by decide) ?_
          refine lv_iload_n hx hb dX10_fewest_36 rfl (lv_at hl 2 rfl) ?_
          refine lv_ishl hx hb dX10_fewest_37 ?_
          exact J38 (1 <<< (x2_9 &&& 31)) hf _ _ hP hD hS _ (lv_sub hl [0, 2] rfl)
        · replace hf := ip c28 hf
          refine lv_iconst (v := 0) hx hb dX10_fewest_31 (by decide) ?_
          refine lv_goto (tgt := 38) hx hb dX10_fewest_32 (by decide) ?_
          exact J38 0 hf _ _ hP hD hS _ (lv_sub hl [0, 2] rfl)
  refine L9 _ (fun x1_9 hf H locs hP hD hS ls hl => ?_) f 0 0 hf _ _ hP hD hS _ (lv_sub hl [2, 1, 0] rfl)
  refine lv_iconst (v := 0) hx hb dX10_fewest_46 (by decide) ?_
  refine lv_istore_n (lv' := [(2, .int 0), (0, .ref o), (1, .int x1_9)]) hx hb dX10_fewest_47 rfl hl (by decide) rfl (fun ls hl => ?_)
  refine lv_iconst (v := 0) hx hb dX10_fewest_48 (by decide) ?_
  refine lv_istore_n (lv' := [(3, .int 0), (2, .int 0), (0, .ref o), (1, .int x1_9)]) hx hb dX10_fewest_49 rfl hl (by decide) rfl (fun ls hl => ?_)
  have L50 : ∀ (k_50 : FV → Option (Int32 × FI × FV)) (hk_50 : ∀ (Vm_50 : FV), k_50 Vm_50 = some out → ∀ (H : Heap) (locs : List Loc), va_P D vwCl (w_M cs o h I1 Vm_50) H → va_D A (w_M cs o h I1 Vm_50) → va_S A s.heap H locs → ∀ ls : Array Slot, lv_has ls 8 [(0, .ref o), (1, .int x1_9), (2, .int 0)] → W p l e rm_M_fewest s m args below meth c H locs 0 0 Q (F0 m 171 ls [])), ∀ (n_50 : Nat) (x3_50 : Int32) (Vm_50 : FV), M_fewest_L50 f I1 k_50 n_50 x3_50 Vm_50 = some out → ∀ (H : Heap) (locs : List Loc), va_P D vwCl (w_M cs o h I1 Vm_50) H → va_D A (w_M cs o h I1 Vm_50) → va_S A s.heap H locs → ∀ ls : Array Slot, lv_has ls 8 [(0, .ref o), (1, .int x1_9), (2, .int 0), (3, .int x3_50)] → W p l e rm_M_fewest s m args below meth c H locs 0 0 Q (F0 m 50 ls []) := by
    intro k_50 hk_50 n_50
    induction n_50 with
    | zero => intro x3_50 Vm_50 hf; rw [M_fewest_L50] at hf; cases hf
    | succ n_50 ih_50 =>
      intro x3_50 Vm_50 hf H locs hP hD hS ls hl
      rw [M_fewest_L50] at hf
      refine lv_iload_n hx hb dX10_fewest_50 rfl (lv_at hl 3 rfl) ?_
      refine lv_iconst (v := 1) hx hb dX10_fewest_51 (by decide) ?_
      refine lv_aload_n hx hb dX10_fewest_52 rfl (lv_at hl 0 rfl) ?_
      refine va_get (D := D) (ci := 10) (v := .int (I1 4)) (C := RX10) (T := TX10) (N := 38) hx hb hts in_X10 hown hK hP 0 rfl rfl 4 (by decide) g_96 (fun _ h9 => h9) rfl dX10_fewest_53 ?_
      refine lv_ishl hx hb dX10_fewest_56 ?_
      refine lv_icmp_ge (tgt := 171) hx hb dX10_fewest_57 (by decide) (fun c57 => ?_) (fun c57 => ?_)
      · replace hf := ip c57 hf
        exact hk_50 Vm_50 hf _ _ hP hD hS _ (lv_sub hl [0, 1, 2] rfl)
      · replace hf := im c57 hf
        refine lv_iconst (v := 0) hx hb dX10_fewest_60 (by decide) ?_
        refine lv_istore (lv' := [(4, .int 0), (0, .ref o), (1, .int x1_9), (2, .int 0), (3, .int x3_50)]) hx hb dX10_fewest_61 hl (by decide) rfl (fun ls hl => ?_)
        refine lv_iconst (v := 0) hx hb dX10_fewest_63 (by decide) ?_
        refine lv_istore (lv' := [(5, .int 0), (4, .int 0), (0, .ref o), (1, .int x1_9), (2, .int 0), (3, .int x3_50)]) hx hb dX10_fewest_64 hl (by decide) rfl (fun ls hl => ?_)
        refine lv_iconst (v := 0) hx hb dX10_fewest_66 (by decide) ?_
        refine lv_istore (lv' := [(6, .int 0), (5, .int 0), (4, .int 0), (0, .ref o), (1, .int x1_9), (2, .int 0), (3, .int x3_50)]) hx hb dX10_fewest_67 hl (by decide) rfl (fun ls hl => ?_)
        have L69 : ∀ (k_69 : Int32 → Int32 → Option (Int32 × FI × FV)) (hk_69 : ∀ (x4_69 : Int32) (x5_69 : Int32), k_69 x4_69 x5_69 = some out → ∀ (H : Heap) (locs : List Loc), va_P D vwCl (w_M cs o h I1 Vm_50) H → va_D A (w_M cs o h I1 Vm_50) → va_S A s.heap H locs → ∀ ls : Array Slot, lv_has ls 8 [(0, .ref o), (1, .int x1_9), (2, .int 0), (3, .int x3_50), (4, .int x4_69), (5, .int x5_69)] → W p l e rm_M_fewest s m args below meth c H locs 0 0 Q (F0 m 142 ls [])), ∀ (n_69 : Nat) (x4_69 : Int32) (x5_69 : Int32) (x6_69 : Int32), M_fewest_L69 f I1 x3_50 Vm_50 k_69 n_69 x4_69 x5_69 x6_69 = some out → ∀ (H : Heap) (locs : List Loc), va_P D vwCl (w_M cs o h I1 Vm_50) H → va_D A (w_M cs o h I1 Vm_50) → va_S A s.heap H locs → ∀ ls : Array Slot, lv_has ls 8 [(0, .ref o), (1, .int x1_9), (2, .int 0), (3, .int x3_50), (4, .int x4_69), (5, .int x5_69), (6, .int x6_69)] → W p l e rm_M_fewest s m args below meth c H locs 0 0 Q (F0 m 69 ls []) := by
          intro k_69 hk_69 n_69
          induction n_69 with
          | zero => intro x4_69 x5_69 x6_69 hf; rw [M_fewest_L69] at hf; cases hf
          | succ n_69 ih_69 =>
            intro x4_69 x5_69 x6_69 hf H locs hP hD hS ls hl
            rw [M_fewest_L69] at hf
            refine lv_iload hx hb dX10_fewest_69 (lv_at hl 6 rfl) ?_
            refine lv_aload_n hx hb dX10_fewest_71 rfl (lv_at hl 0 rfl) ?_
            refine va_get (D := D) (ci := 10) (v := .int (I1 4)) (C := RX10) (T := TX10) (N := 38) hx hb hts in_X10 hown hK hP 0 rfl rfl 4 (by decide) g_96 (fun _ h9 => h9) rfl dX10_fewest_72 ?_
            refine lv_icmp_ge (tgt := 142) hx hb dX10_fewest_75 (by decide) (fun c75 => ?_) (fun c75 => ?_)
            · replace hf := ip c75 hf
              exact hk_69 x4_69 x5_69 hf _ _ hP hD hS _ (lv_sub hl [0, 1, 2, 3, 4, 5] rfl)
            · replace hf := im c75 hf
              refine lv_iload_n hx hb dX10_fewest_78 rfl (lv_at hl 3 rfl) ?_
              refine lv_iload hx hb dX10_fewest_79 (lv_at hl 6 rfl) ?_
              obtain ⟨zr4, qr4, hf⟩ := bd1 hf
              refine vp_callSi (va_Run.run (va_runS (As := [.int x3_50, .int x6_69]) (rest := []) ⟨hx, hb, hml, hown, hts⟩ (c_M_has l x3_50 x6_69 f zr4 qr4) w_has_160 ⟨fun a U g mk q => q, fun U hU hW => ⟨rfl, trivial⟩⟩ rfl rfl hl.1 rfl (lv_room (Nat.le_of_ble_eq_true rfl)) dX10_fewest_81 ⟨Nat.zero_le _, Nat.zero_le _⟩)) (fun r4 er4 => ?_)
              rw [er4]
              obtain ⟨j136, ej136, hf⟩ := nme hf
              have J136 : ∀ (x4_136 : Int32) (x5_136 : Int32), j136 x4_136 x5_136 = some out → ∀ (H : Heap) (locs : List Loc), va_P D vwCl (w_M cs o h I1 Vm_50) H → va_D A (w_M cs o h I1 Vm_50) → va_S A s.heap H locs → ∀ ls : Array Slot, lv_has ls 8 [(0, .ref o), (1, .int x1_9), (2, .int 0), (3, .int x3_50), (4, .int x4_136), (5, .int x5_136), (6, .int x6_69)] → W p l e rm_M_fewest s m args below meth c H locs 0 0 Q (F0 m 136 ls []) := by
                intro x4_136 x5_136 hf H locs hP hD hS ls hl
                rw [ej136] at hf
                refine lv_iinc (v := (x6_69 + 1)) (lv' := [(6, .int (x6_69 + 1)), (0, .ref o), (1, .int x1_9), (2, .int 0), (3, .int x3_50), (4, .int x4_136), (5, .int x5_136)]) hx hb dX10_fewest_136 hl (k := 6) rfl (by rfl) (by decide) rfl (fun ls hl => ?_)
                refine lv_goto (tgt := 69) hx hb dX10_fewest_139 (by decide) ?_
                exact ih_69 x4_136 x5_136 (x6_69 + 1) hf _ _ hP hD hS _ (lv_sub hl [1, 2, 3, 4, 5, 6, 0] rfl)
              refine lv_if_eq (tgt := 136) hx hb dX10_fewest_84 (by decide) (fun c84 => ?_) (fun c84 => ?_)
              · replace hf := ip c84 hf
                exact J136 x4_69 x5_69 hf _ _ hP hD hS _ (lv_sub hl [0, 1, 2, 3, 4, 5, 6] rfl)
              · replace hf := im c84 hf
                refine lv_iload hx hb dX10_fewest_87 (lv_at hl 4 rfl) ?_
                refine lv_aload_n hx hb dX10_fewest_89 rfl (lv_at hl 0 rfl) ?_
                refine lv_iload hx hb dX10_fewest_90 (lv_at hl 6 rfl) ?_
                obtain ⟨zr5, qr5, hf⟩ := bd1 hf
                refine vp_callSi (va_Run.run (va_runV (As := [.int x6_69]) (rest := [.int x4_69]) ⟨hx, hb, hml, hown, hts⟩ (c_M_owedAll l D cs o h I1 Vm_50 x6_69 f zr5 qr5) w_owedAll_155 ⟨xR_moved, va_recv hK hP (ci := 10) (q0 := 0) rfl rfl, fun U hU hW => ⟨rfl, by rw [hU]; exact hP, va_K.moved hW.alike hK⟩⟩ rfl rfl hl.1 rfl (lv_room (Nat.le_of_ble_eq_true rfl)) dX10_fewest_92 ⟨Nat.zero_le _, Nat.zero_le _⟩)) (fun r5 er5 => ?_)
                rw [er5]
                refine lv_aload_n hx hb dX10_fewest_95 rfl (lv_at hl 0 rfl) ?_
                refine lv_iload hx hb dX10_fewest_96 (lv_at hl 6 rfl) ?_
                obtain ⟨zr6, qr6, hf⟩ := bd1 hf
                refine vp_callSi (va_Run.run (va_runV (As := [.int x6_69]) (rest := [.int zr5, .int x4_69]) ⟨hx, hb, hml, hown, hts⟩ (c_M_owesAll l D cs o h I1 Vm_50 x6_69 f zr6 qr6) w_owesAll_144 ⟨xR_moved, va_recv hK hP (ci := 10) (q0 := 0) rfl rfl, fun U hU hW => ⟨rfl, by rw [hU]; exact hP, va_K.moved hW.alike hK⟩⟩ rfl rfl hl.1 rfl (lv_room (Nat.le_of_ble_eq_true rfl)) dX10_fewest_98 ⟨Nat.zero_le _, Nat.zero_le _⟩)) (fun r6 er6 => ?_)
                rw [er6]
                refine lv_isub hx hb dX10_fewest_101 ?_
                refine lv_iadd hx hb dX10_fewest_102 ?_
                refine lv_topi (fun y7 ey7 => ?_)
                replace hf := nmd hf ey7
                refine lv_istore (lv' := [(4, .int y7), (0, .ref o), (1, .int x1_9), (2, .int 0), (3, .int x3_50), (5, .int x5_69), (6, .int x6_69)]) hx hb dX10_fewest_103 hl (by decide) rfl (fun ls hl => ?_)
                refine lv_aload_n hx hb dX10_fewest_105 rfl (lv_at hl 1 rfl) ?_
                refine va_get (D := D) (ci := 10) (v := .ref (h 31)) (C := RX10) (T := TX10) (N := 38) hx hb hts in_X10 hown hK hP 0 rfl rfl 31 (by decide) g_74 (fun _ h9 => h9) rfl dX10_fewest_106 ?_
                refine lv_iload_n hx hb dX10_fewest_109 rfl (lv_at hl 4 rfl) ?_
                refine lv_iconst (v := 1) hx hb dX10_fewest_110 (by decide) ?_
                refine lv_iload hx hb dX10_fewest_111 (lv_at hl 6 rfl) ?_
                refine lv_ishl hx hb dX10_fewest_113 ?_
                refine lv_iconst (v := (-1)) hx hb dX10_fewest_114 (by decide) ?_
                refine lv_ixor hx hb dX10_fewest_115 ?_
                refine lv_iand hx hb dX10_fewest_116 ?_
                obtain ⟨c117, hf⟩ := gd hf
                refine va_iald hx hb hK hP 22 0 rfl rfl c117 dX10_fewest_117 ?_
                refine lv_topi (fun y8 ey8 => ?_)
                replace hf := nmd hf ey8
                refine lv_istore (lv' := [(7, .int y8), (4, .int y7), (0, .ref o), (1, .int x1_9), (2, .int 0), (3, .int x3_50), (5, .int x5_69), (6, .int x6_69)]) hx hb dX10_fewest_118 hl (by decide) rfl (fun ls hl => ?_)
                refine lv_iload hx hb dX10_fewest_120 (lv_at hl 0 rfl) ?_
                refine lv_iload hx hb dX10_fewest_122 (lv_at hl 6 rfl) ?_
                obtain ⟨j134, ej134, hf⟩ := nme hf
                have J134 : ∀ (t0_134 : Int32), j134 t0_134 = some out → ∀ (H : Heap) (locs : List Loc), va_P D vwCl (w_M cs o h I1 Vm_50) H → va_D A (w_M cs o h I1 Vm_50) → va_S A s.heap H locs → ∀ ls : Array Slot, lv_has ls 8 [(0, .ref o), (1, .int x1_9), (2, .int 0), (3, .int x3_50), (4, .int y7), (6, .int x6_69)] → W p l e rm_M_fewest s m args below meth c H locs 0 0 Q (F0 m 134 ls [.int t0_134]) := by
                  intro t0_134 hf H locs hP hD hS ls hl
                  rw [ej134] at hf
                  refine lv_istore (lv' := [(5, .int t0_134), (0, .ref o), (1, .int x1_9), (2, .int 0), (3, .int x3_50), (4, .int y7), (6, .int x6_69)]) hx hb dX10_fewest_134 hl (by decide) rfl (fun ls hl => ?_)
                  exact J136 y7 t0_134 hf _ _ hP hD hS _ (lv_sub hl [1, 2, 3, 4, 5, 0, 6] rfl)
                refine lv_icmp_le (tgt := 132) hx hb dX10_fewest_124 (by decide) (fun c124 => ?_) (fun c124 => ?_)
                · replace hf := ip c124 hf
                  refine lv_iload hx hb dX10_fewest_132 (lv_at hl 6 rfl) ?_
                  exact J134 x5_69 hf _ _ hP hD hS _ (lv_sub hl [2, 3, 4, 5, 1, 7] rfl)
                · replace hf := im c124 hf
                  refine lv_iload hx hb dX10_fewest_127 (lv_at hl 0 rfl) ?_
                  refine lv_goto (tgt := 134) hx hb dX10_fewest_129 (by decide) ?_
                  exact J134 y8 hf _ _ hP hD hS _ (lv_sub hl [2, 3, 4, 5, 1, 7] rfl)
        refine L69 _ (fun x4_69 x5_69 hf H locs hP hD hS ls hl => ?_) f 0 0 0 hf _ _ hP hD hS _ (lv_sub hl [3, 4, 5, 6, 2, 1, 0] rfl)
        refine lv_aload_n hx hb dX10_fewest_142 rfl (lv_at hl 0 rfl) ?_
        refine va_get (D := D) (ci := 10) (v := .ref (h 31)) (C := RX10) (T := TX10) (N := 38) hx hb hts in_X10 hown hK hP 0 rfl rfl 31 (by decide) g_74 (fun _ h9 => h9) rfl dX10_fewest_143 ?_
        refine lv_iload_n hx hb dX10_fewest_146 rfl (lv_at hl 3 rfl) ?_
        refine lv_iload hx hb dX10_fewest_147 (lv_at hl 5 rfl) ?_
        refine lv_iload_n hx hb dX10_fewest_149 rfl (lv_at hl 3 rfl) ?_
        obtain ⟨j163, ej163, hf⟩ := nme hf
        have J163 : ∀ (t3_163 : Int32), j163 t3_163 = some out → ∀ (H : Heap) (locs : List Loc), va_P D vwCl (w_M cs o h I1 Vm_50) H → va_D A (w_M cs o h I1 Vm_50) → va_S A s.heap H locs → ∀ ls : Array Slot, lv_has ls 8 [(0, .ref o), (1, .int x1_9), (2, .int 0), (3, .int x3_50)] → W p l e rm_M_fewest s m args below meth c H locs 0 0 Q (F0 m 163 ls [.int t3_163, .int x5_69, .int x3_50, .ref (h 31)]) := by
          intro t3_163 hf H locs hP hD hS ls hl
          rw [ej163] at hf
          refine lv_iadd hx hb dX10_fewest_163 ?_
          obtain ⟨c164, hf⟩ := gd hf
          refine va_iast hx hb hK hP hD hS 22 0 rfl rfl c164 dX10_fewest_164 (fun H locs hP hD hS => ?_)
          have hP : va_P D vwCl (w_M cs o h I1 (va_up Vm_50 31 (upd (Vm_50 31) x3_50.toNatClampNeg (x5_69 + t3_163)))) H := hP
          have hD : va_D A (w_M cs o h I1 (va_up Vm_50 31 (upd (Vm_50 31) x3_50.toNatClampNeg (x5_69 + t3_163)))) := hD
          refine lv_iinc (v := (x3_50 + 1)) (lv' := [(3, .int (x3_50 + 1)), (0, .ref o), (1, .int x1_9), (2, .int 0)]) hx hb dX10_fewest_165 hl (k := 3) rfl (by rfl) (by decide) rfl (fun ls hl => ?_)
          refine lv_goto (tgt := 50) hx hb dX10_fewest_168 (by decide) ?_
          exact ih_50 (x3_50 + 1) (va_up Vm_50 31 (upd (Vm_50 31) x3_50.toNatClampNeg (x5_69 + t3_163))) hf _ _ hP hD hS _ (lv_sub hl [1, 2, 3, 0] rfl)
        obtain ⟨j162, ej162, hf⟩ := nme hf
        have J162 : ∀ (u_162 : Unit), j162 u_162 = some out → ∀ (H : Heap) (locs : List Loc), va_P D vwCl (w_M cs o h I1 Vm_50) H → va_D A (w_M cs o h I1 Vm_50) → va_S A s.heap H locs → ∀ ls : Array Slot, lv_has ls 8 [(0, .ref o), (1, .int x1_9), (2, .int 0), (3, .int x3_50)] → W p l e rm_M_fewest s m args below meth c H locs 0 0 Q (F0 m 162 ls [.int x5_69, .int x3_50, .ref (h 31)]) := by
          intro u_162 hf H locs hP hD hS ls hl
          rw [ej162] at hf
          refine lv_iconst (v := 0) hx hb dX10_fewest_162 (by decide) ?_
          exact J163 0 hf _ _ hP hD hS _ (lv_sub hl [0, 1, 2, 3] rfl)
        refine lv_if_eq (tgt := 162) hx hb dX10_fewest_150 (by decide) (fun c150 => ?_) (fun c150 => ?_)
        · replace hf := ip c150 hf
          exact J162 () hf _ _ hP hD hS _ (lv_sub hl [0, 1, 2, 3] rfl)
        · replace hf := im c150 hf
          refine lv_iload hx hb dX10_fewest_153 (lv_at hl 4 rfl) ?_
          refine lv_if_ne (tgt := 162) hx hb dX10_fewest_155 (by decide) (fun c155 => ?_) (fun c155 => ?_)
          · replace hf := im c155 hf
            exact J162 () hf _ _ hP hD hS _ (lv_sub hl [0, 1, 2, 3] rfl)
          · replace hf := ip c155 hf
            refine lv_iconst (v := 1) hx hb dX10_fewest_158 (by decide) ?_
            refine lv_goto (tgt := 163) hx hb dX10_fewest_159 (by decide) ?_
            exact J163 1 hf _ _ hP hD hS _ (lv_sub hl [0, 1, 2, 3] rfl)
  refine L50 _ (fun Vm_50 hf H locs hP hD hS ls hl => ?_) f 0 V hf _ _ hP hD hS _ (lv_sub hl [2, 3, 1, 0] rfl)
  refine lv_iconst (v := 0) hx hb dX10_fewest_171 (by decide) ?_
  refine lv_istore_n (lv' := [(3, .int 0), (0, .ref o), (1, .int x1_9), (2, .int 0)]) hx hb dX10_fewest_172 rfl hl (by decide) rfl (fun ls hl => ?_)
  have L173 : ∀ (k_173 : Int32 → Option (Int32 × FI × FV)) (hk_173 : ∀ (x2_173 : Int32), k_173 x2_173 = some out → ∀ (H : Heap) (locs : List Loc), va_P D vwCl (w_M cs o h I1 Vm_50) H → va_D A (w_M cs o h I1 Vm_50) → va_S A s.heap H locs → ∀ ls : Array Slot, lv_has ls 8 [(0, .ref o), (1, .int x1_9), (2, .int x2_173)] → W p l e rm_M_fewest s m args below meth c H locs 0 0 Q (F0 m 203 ls [])), ∀ (n_173 : Nat) (x2_173 : Int32) (x3_173 : Int32), M_fewest_L173 f I1 x1_9 k_173 n_173 x2_173 x3_173 = some out → ∀ (H : Heap) (locs : List Loc), va_P D vwCl (w_M cs o h I1 Vm_50) H → va_D A (w_M cs o h I1 Vm_50) → va_S A s.heap H locs → ∀ ls : Array Slot, lv_has ls 8 [(0, .ref o), (1, .int x1_9), (2, .int x2_173), (3, .int x3_173)] → W p l e rm_M_fewest s m args below meth c H locs 0 0 Q (F0 m 173 ls []) := by
    intro k_173 hk_173 n_173
    induction n_173 with
    | zero => intro x2_173 x3_173 hf; rw [M_fewest_L173] at hf; cases hf
    | succ n_173 ih_173 =>
      intro x2_173 x3_173 hf H locs hP hD hS ls hl
      rw [M_fewest_L173] at hf
      refine lv_iload_n hx hb dX10_fewest_173 rfl (lv_at hl 3 rfl) ?_
      refine lv_aload_n hx hb dX10_fewest_174 rfl (lv_at hl 0 rfl) ?_
      refine va_get (D := D) (ci := 10) (v := .int (I1 4)) (C := RX10) (T := TX10) (N := 38) hx hb hts in_X10 hown hK hP 0 rfl rfl 4 (by decide) g_96 (fun _ h9 => h9) rfl dX10_fewest_175 ?_
      refine lv_icmp_ge (tgt := 203) hx hb dX10_fewest_178 (by decide) (fun c178 => ?_) (fun c178 => ?_)
      · replace hf := ip c178 hf
        exact hk_173 x2_173 hf _ _ hP hD hS _ (lv_sub hl [0, 1, 2] rfl)
      · replace hf := im c178 hf
        refine lv_iload_n hx hb dX10_fewest_181 rfl (lv_at hl 2 rfl) ?_
        refine lv_iload_n hx hb dX10_fewest_182 rfl (lv_at hl 1 rfl) ?_
        refine lv_iload_n hx hb dX10_fewest_183 rfl (lv_at hl 3 rfl) ?_
        obtain ⟨zr9, qr9, hf⟩ := bd1 hf
        refine vp_callSi (va_Run.run (va_runS (As := [.int x1_9, .int x3_173]) (rest := [.int x2_173]) ⟨hx, hb, hml, hown, hts⟩ (c_M_has l x1_9 x3_173 f zr9 qr9) w_has_160 ⟨fun a U g mk q => q, fun U hU hW => ⟨rfl, trivial⟩⟩ rfl rfl hl.1 rfl (lv_room (Nat.le_of_ble_eq_true rfl)) dX10_fewest_184 ⟨Nat.zero_le _, Nat.zero_le _⟩)) (fun r9 er9 => ?_)
        rw [er9]
        obtain ⟨j195, ej195, hf⟩ := nme hf
        have J195 : ∀ (t1_195 : Int32), j195 t1_195 = some out → ∀ (H : Heap) (locs : List Loc), va_P D vwCl (w_M cs o h I1 Vm_50) H → va_D A (w_M cs o h I1 Vm_50) → va_S A s.heap H locs → ∀ ls : Array Slot, lv_has ls 8 [(0, .ref o), (1, .int x1_9), (3, .int x3_173)] → W p l e rm_M_fewest s m args below meth c H locs 0 0 Q (F0 m 195 ls [.int t1_195, .int x2_173]) := by
          intro t1_195 hf H locs hP hD hS ls hl
          rw [ej195] at hf
          refine lv_iadd hx hb dX10_fewest_195 ?_
          refine lv_istore_n (lv' := [(2, .int (x2_173 + t1_195)), (0, .ref o), (1, .int x1_9), (3, .int x3_173)]) hx hb dX10_fewest_196 rfl hl (by decide) rfl (fun ls hl => ?_)
          refine lv_iinc (v := (x3_173 + 1)) (lv' := [(3, .int (x3_173 + 1)), (2, .int (x2_173 + t1_195)), (0, .ref o), (1, .int x1_9)]) hx hb dX10_fewest_197 hl (k := 3) rfl (by rfl) (by decide) rfl (fun ls hl => ?_)
          refine lv_goto (tgt := 173) hx hb dX10_fewest_200 (by decide) ?_
          exact ih_173 (x2_173 + t1_195) (x3_173 + 1) hf _ _ hP hD hS _ (lv_sub hl [2, 3, 1, 0] rfl)
        refine lv_if_eq (tgt := 194) hx hb dX10_fewest_187 (by decide) (fun c187 => ?_) (fun c187 => ?_)
        · replace hf := ip c187 hf
          refine lv_iconst (v := 0) hx hb dX10_fewest_194 (by decide) ?_
          exact J195 0 hf _ _ hP hD hS _ (lv_sub hl [0, 1, 3] rfl)
        · replace hf := im c187 hf
          refine lv_iconst (v := 1) hx hb dX10_fewest_190 (by decide) ?_
          refine lv_goto (tgt := 195) hx hb dX10_fewest_191 (by decide) ?_
          exact J195 1 hf _ _ hP hD hS _ (lv_sub hl [0, 1, 3] rfl)
  refine L173 _ (fun x2_173 hf H locs hP hD hS ls hl => ?_) f 0 0 hf _ _ hP hD hS _ (lv_sub hl [1, 2, 3, 0] rfl)
  refine lv_iload_n hx hb dX10_fewest_203 rfl (lv_at hl 2 rfl) ?_
  refine lv_aload_n hx hb dX10_fewest_204 rfl (lv_at hl 0 rfl) ?_
  refine va_get (D := D) (ci := 10) (v := .ref (h 31)) (C := RX10) (T := TX10) (N := 38) hx hb hts in_X10 hown hK hP 0 rfl rfl 31 (by decide) g_74 (fun _ h9 => h9) rfl dX10_fewest_205 ?_
  refine lv_iload_n hx hb dX10_fewest_208 rfl (lv_at hl 1 rfl) ?_
  obtain ⟨c209, hf⟩ := gd hf
  refine va_iald hx hb hK hP 22 0 rfl rfl c209 dX10_fewest_209 ?_
  refine lv_isub hx hb dX10_fewest_210 ?_
  exact hret (x2_173 - ((Vm_50 31) x1_9.toNatClampNeg)) I1 Vm_50 _ _ 211 _ hf hP hD hS dX10_fewest_211
def M_owedBy_L5 {ρ : Type} (f : Nat) (I : FI) (V : FV) (x1 : Int32) (x2 : Int32) (k_5 : Int32 → Option ρ) : Nat → Int32 → Int32 → Option ρ
  | 0, _, _ => none
  | n_5 + 1, x3_5, x4_5 => (if (I 9) ≤ x4_5 then (k_5 x3_5) else if x4_5 < 0 ∨ 12 ≤ x4_5.toNatClampNeg then none else ((nm (fun (t1_51 : Int32) => (M_owedBy_L5 f I V x1 x2 k_5 n_5 (x3_5 + t1_51) (x4_5 + 1))) (fun j51 => nm (fun (u_50 : Unit) => (j51 0)) (fun j50 => (if ((V 10) x4_5.toNatClampNeg) = x1 then if x4_5 < 0 ∨ 12 ≤ x4_5.toNatClampNeg then none else (ob1 (M_has f x2 ((V 11) x4_5.toNatClampNeg)) (fun zr1 => (if zr1 = 0 then (j50 ()) else if x4_5 < 0 ∨ 12 ≤ x4_5.toNatClampNeg then none else ((j51 ((V 12) x4_5.toNatClampNeg)))))) else (j50 ())))))))
def M_owedBy (f : Nat) (x1 : Int32) (x2 : Int32) (I : FI) (V : FV) : Option (Int32) := (M_owedBy_L5 f I V x1 x2 (fun (x3_5 : Int32) => some x3_5) f 0 0)
abbrev rm_M_owedBy : Room := { frames := 1, cells := 0, slots := 0, locals := 21 }
set_option maxHeartbeats 4000000 in
set_option maxRecDepth 100000 in
theorem c_M_owedBy (l : Launch) (D : va_G) (cs : Nat → ClassId) (o : Nat) (h : Nat → Nat) (I : FI) (V : FV) (x1 : Int32) (x2 : Int32) (f : Nat) (out : Int32) (hf : M_owedBy f x1 x2 I V = some out) : Met l yX10_owedBy wsX10_owedBy rm_M_owedBy (va_Pc [.ref o, .int x1, .int x2] (xR D cs (w_M cs o h I V))) (vp_Si (fun r => r = out)) 0 0 (fun _ => False) := by
  refine Met.ofW (cc := cX10_owedBy) (maxL := 5) (ret := (some .int)) (by decide) rfl ?_
  intro p e s m args below meth c s₁ B hml hv
  obtain ⟨ha, hP, hK⟩ := hv
  have hx := B.exec
  have hb := B.bytes
  have hr := B.returns
  have hts := atoms_spec (ws := wsX10_owedBy) B.pre
  have hown : s.vm.findClass RX10 = some m.cls := findClass_of_methodNamed B.named
  have hlocks := B.notSynchronized
  have in_X10 : ∀ w ∈ u_ws RX10 TX10 38, w ∈ wsX10_owedBy := fun w h => List.mem_cons_of_mem _ (List.mem_append_right _ h)
  have g_135 := hts (.fieldLink RX10 135 "DaysLentModel" "debts" "I") (by decide +kernel)
  have g_26 := hts (.fieldLink RX10 26 "DaysLentModel" "owed" "[I") (by decide +kernel)
  have g_29 := hts (.fieldLink RX10 29 "DaysLentModel" "owes" "[I") (by decide +kernel)
  have w_has_160 := va_cwS (R := rm_M_owedBy) (s := s) (args := args) (rm := rm_M_has) (mc := 0) (ms := 0) 2 hts gX10_owedBy_X10_has rfl rfl rfl (by decide +kernel) ⟨Nat.le_of_ble_eq_true rfl, Nat.le_of_ble_eq_true rfl⟩
  have g_32 := hts (.fieldLink RX10 32 "DaysLentModel" "much" "[I") (by decide +kernel)
  have hl := lv_entry ([.ref o, .int x1, .int x2]) (n := 5) (Nat.le_of_ble_eq_true rfl)
  rw [show entryFrame m args 5 = entryFrame m ([.ref o, .int x1, .int x2] : List Value).toArray 5 from by rw [ha], lg_entry_eq]
  generalize (lg_sl ([.ref o, .int x1, .int x2]) ++ List.replicate (5 - (lg_sl ([.ref o, .int x1, .int x2])).length) Slot.unset).toArray = ls at hl ⊢
  have hl : lv_has ls 5 [(0, .ref o), (1, .int x1), (2, .int x2)] := hl
  generalize hQ : MQ below (vp_Si (fun r => r = out)) args s 0 0 (fun _ => False) = Q
  show W p l e rm_M_owedBy s m args below meth c s.heap [] 0 0 Q (F0 m 0 ls [])
  have hret : ∀ (v : Int32) (pc : Nat) (ls : Array Slot), some v = some out → decode cX10_owedBy pc = .ok (.ireturn, 1) → W p l e rm_M_owedBy s m args below meth c s.heap [] 0 0 Q (F0 m pc ls [.int v]) := by
    intro v pc ls hf hd
    rw [← hQ]
    exact W.iret (v := v) hx hb hr (fun t ht hW => ⟨v, rfl, Option.some.inj hf, ht⟩) (fun q h => by cases h) hd
  unfold M_owedBy at hf
  refine lv_iconst (v := 0) hx hb dX10_owedBy_0 (by decide) ?_
  refine lv_istore_n (lv' := [(3, .int 0), (0, .ref o), (1, .int x1), (2, .int x2)]) hx hb dX10_owedBy_1 rfl hl (by decide) rfl (fun ls hl => ?_)
  refine lv_iconst (v := 0) hx hb dX10_owedBy_2 (by decide) ?_
  refine lv_istore (lv' := [(4, .int 0), (3, .int 0), (0, .ref o), (1, .int x1), (2, .int x2)]) hx hb dX10_owedBy_3 hl (by decide) rfl (fun ls hl => ?_)
  have L5 : ∀ (k_5 : Int32 → Option (Int32)) (hk_5 : ∀ (x3_5 : Int32), k_5 x3_5 = some out → ∀ ls : Array Slot, lv_has ls 5 [(3, .int x3_5)] → W p l e rm_M_owedBy s m args below meth c s.heap [] 0 0 Q (F0 m 59 ls [])), ∀ (n_5 : Nat) (x3_5 : Int32) (x4_5 : Int32), M_owedBy_L5 f I V x1 x2 k_5 n_5 x3_5 x4_5 = some out → ∀ ls : Array Slot, lv_has ls 5 [(0, .ref o), (1, .int x1), (2, .int x2), (3, .int x3_5), (4, .int x4_5)] → W p l e rm_M_owedBy s m args below meth c s.heap [] 0 0 Q (F0 m 5 ls []) := by
    intro k_5 hk_5 n_5
    induction n_5 with
    | zero => intro x3_5 x4_5 hf; rw [M_owedBy_L5] at hf; cases hf
    | succ n_5 ih_5 =>
      intro x3_5 x4_5 hf ls hl
      rw [M_owedBy_L5] at hf
      refine lv_iload hx hb dX10_owedBy_5 (lv_at hl 4 rfl) ?_
      refine lv_aload_n hx hb dX10_owedBy_7 rfl (lv_at hl 0 rfl) ?_
      refine va_get (D := D) (ci := 10) (v := .int (I 9)) (C := RX10) (T := TX10) (N := 38) hx hb hts in_X10 hown hK hP 0 rfl rfl 9 (by decide) g_135 (fun _ h9 => h9) rfl dX10_owedBy_8 ?_
      refine lv_icmp_ge (tgt := 59) hx hb dX10_owedBy_11 (by decide) (fun c11 => ?_) (fun c11 => ?_)
      · replace hf := ip c11 hf
        exact hk_5 x3_5 hf _ (lv_sub hl [3] rfl)
      · replace hf := im c11 hf
        refine lv_iload_n hx hb dX10_owedBy_14 rfl (lv_at hl 3 rfl) ?_
        refine lv_aload_n hx hb dX10_owedBy_15 rfl (lv_at hl 0 rfl) ?_
        refine va_get (D := D) (ci := 10) (v := .ref (h 10)) (C := RX10) (T := TX10) (N := 38) hx hb hts in_X10 hown hK hP 0 rfl rfl 10 (by decide) g_26 (fun _ h9 => h9) rfl dX10_owedBy_16 ?_
        refine lv_iload hx hb dX10_owedBy_19 (lv_at hl 4 rfl) ?_
        obtain ⟨c21, hf⟩ := gd hf
        refine va_iald hx hb hK hP 6 0 rfl rfl c21 dX10_owedBy_21 ?_
        refine lv_iload_n hx hb dX10_owedBy_22 rfl (lv_at hl 1 rfl) ?_
        obtain ⟨j51, ej51, hf⟩ := nme hf
        have J51 : ∀ (t1_51 : Int32), j51 t1_51 = some out → ∀ ls : Array Slot, lv_has ls 5 [(0, .ref o), (1, .int x1), (2, .int x2), (4, .int x4_5)] → W p l e rm_M_owedBy s m args below meth c s.heap [] 0 0 Q (F0 m 51 ls [.int t1_51, .int x3_5]) := by
          intro t1_51 hf ls hl
          rw [ej51] at hf
          refine lv_iadd hx hb dX10_owedBy_51 ?_
          refine lv_istore_n (lv' := [(3, .int (x3_5 + t1_51)), (0, .ref o), (1, .int x1), (2, .int x2), (4, .int x4_5)]) hx hb dX10_owedBy_52 rfl hl (by decide) rfl (fun ls hl => ?_)
          refine lv_iinc (v := (x4_5 + 1)) (lv' := [(4, .int (x4_5 + 1)), (3, .int (x3_5 + t1_51)), (0, .ref o), (1, .int x1), (2, .int x2)]) hx hb dX10_owedBy_53 hl (k := 4) rfl (by rfl) (by decide) rfl (fun ls hl => ?_)
          refine lv_goto (tgt := 5) hx hb dX10_owedBy_56 (by decide) ?_
          exact ih_5 (x3_5 + t1_51) (x4_5 + 1) hf _ (lv_sub hl [2, 3, 4, 1, 0] rfl)
        obtain ⟨j50, ej50, hf⟩ := nme hf
        have J50 : ∀ (u_50 : Unit), j50 u_50 = some out → ∀ ls : Array Slot, lv_has ls 5 [(0, .ref o), (1, .int x1), (2, .int x2), (4, .int x4_5)] → W p l e rm_M_owedBy s m args below meth c s.heap [] 0 0 Q (F0 m 50 ls [.int x3_5]) := by
          intro u_50 hf ls hl
          rw [ej50] at hf
          refine lv_iconst (v := 0) hx hb dX10_owedBy_50 (by decide) ?_
          exact J51 0 hf _ (lv_sub hl [0, 1, 2, 3] rfl)
        refine lv_icmp_ne (tgt := 50) hx hb dX10_owedBy_23 (by decide) (fun c23 => ?_) (fun c23 => ?_)
        · replace hf := im c23 hf
          exact J50 () hf _ (lv_sub hl [0, 1, 2, 4] rfl)
        · replace hf := ip c23 hf
          refine lv_iload_n hx hb dX10_owedBy_26 rfl (lv_at hl 2 rfl) ?_
          refine lv_aload_n hx hb dX10_owedBy_27 rfl (lv_at hl 0 rfl) ?_
          refine va_get (D := D) (ci := 10) (v := .ref (h 11)) (C := RX10) (T := TX10) (N := 38) hx hb hts in_X10 hown hK hP 0 rfl rfl 11 (by decide) g_29 (fun _ h9 => h9) rfl dX10_owedBy_28 ?_
          refine lv_iload hx hb dX10_owedBy_31 (lv_at hl 4 rfl) ?_
          obtain ⟨c33, hf⟩ := gd hf
          refine va_iald hx hb hK hP 7 0 rfl rfl c33 dX10_owedBy_33 ?_
          obtain ⟨zr1, qr1, hf⟩ := bd1 hf
          refine vp_callSi (va_Run.run (va_runS (As := [.int x2, .int ((V 11) x4_5.toNatClampNeg)]) (rest := [.int x3_5]) ⟨hx, hb, hml, hown, hts⟩ (c_M_has l x2 ((V 11) x4_5.toNatClampNeg) f zr1 qr1) w_has_160 ⟨fun a U g mk q => q, fun U hU hW => ⟨rfl, trivial⟩⟩ rfl rfl hl.1 rfl (lv_room (Nat.le_of_ble_eq_true rfl)) dX10_owedBy_34 ⟨Nat.zero_le _, Nat.zero_le _⟩)) (fun r1 er1 => ?_)
          rw [er1]
          refine lv_if_eq (tgt := 50) hx hb dX10_owedBy_37 (by decide) (fun c37 => ?_) (fun c37 => ?_)
          · replace hf := ip c37 hf
            exact J50 () hf _ (lv_sub hl [0, 1, 2, 4] rfl)
          · replace hf := im c37 hf
            refine lv_aload_n hx hb dX10_owedBy_40 rfl (lv_at hl 0 rfl) ?_
            refine va_get (D := D) (ci := 10) (v := .ref (h 12)) (C := RX10) (T := TX10) (N := 38) hx hb hts in_X10 hown hK hP 0 rfl rfl 12 (by decide) g_32 (fun _ h9 => h9) rfl dX10_owedBy_41 ?_
            refine lv_iload hx hb dX10_owedBy_44 (lv_at hl 4 rfl) ?_
            obtain ⟨c46, hf⟩ := gd hf
            refine va_iald hx hb hK hP 8 0 rfl rfl c46 dX10_owedBy_46 ?_
            refine lv_goto (tgt := 51) hx hb dX10_owedBy_47 (by decide) ?_
            exact J51 ((V 12) x4_5.toNatClampNeg) hf _ (lv_sub hl [0, 1, 2, 4] rfl)
  refine L5 _ (fun x3_5 hf ls hl => ?_) f 0 0 hf _ (lv_sub hl [2, 3, 4, 1, 0] rfl)
  refine lv_iload_n hx hb dX10_owedBy_59 rfl (lv_at hl 0 rfl) ?_
  exact hret x3_5 60 _ hf dX10_owedBy_60
def M_falls_L51 {ρ : Type} (f : Nat) (I3 : FI) (V : FV) (k_51 : Int32 → Option ρ) : Nat → Int32 → Int32 → Option ρ
  | 0, _, _ => none
  | n_51 + 1, x2_51, x5_51 => (if (I3 4) ≤ x5_51 then (k_51 x2_51) else if x5_51 < 0 ∨ 6 ≤ x5_51.toNatClampNeg then none else (ob1 (M_owedBy f x5_51 x2_51 I3 V) (fun zr4 => ob1 (M_owesAll f x5_51 I3 V) (fun zr5 => (nm (fun (t0_89 : Int32) => (nm (fun (t1_107 : Int32) => (M_falls_L51 f I3 V k_51 n_51 (x2_51 &&& t1_107) (x5_51 + 1))) (fun j107 => (if t0_89 = 0 then (j107 ((1 <<< (x5_51 &&& 31)) ^^^ (-1))) else (j107 x2_51))))) (fun j89 => (if (((V 5) x5_51.toNatClampNeg) + zr4) < zr5 then (j89 0) else (j89 1))))))))
def M_falls_L41 {ρ : Type} (f : Nat) (I3 : FI) (V : FV) (k_41 : Int32 → Option ρ) : Nat → Int32 → Int32 → Option ρ
  | 0, _, _ => none
  | n_41 + 1, x2_41, x3_41 => (if x3_41 = 0 then (k_41 x2_41) else (M_falls_L51 f I3 V (fun (x2_51 : Int32) => (nm (fun (t0_126 : Int32) => (M_falls_L41 f I3 V k_41 n_41 x2_51 t0_126)) (fun j126 => (if x2_51 = x2_41 then (j126 0) else (j126 1))))) f x2_41 0))
def M_falls (f : Nat) (x1 : Int32) (I : FI) (V : FV) : Option (Int32 × FI × FV) := ob1 (M_in f (x1.toInt64) 0 (((1 <<< ((I 4) &&& 31)) - 1).toInt64)) (fun zr1 => (if zr1 = 0 then some ((-2), (va_up I 0 0), V) else nm (((1 <<< ((I 4) &&& 31)) - 1) &&& (x1 ^^^ (-1))) (fun y2 => nm (va_up I 0 0) (fun I3 => (M_falls_L41 f I3 V (fun (x2_41 : Int32) => some ((((1 <<< ((I3 4) &&& 31)) - 1) &&& (x2_41 ^^^ (-1))), I3, V)) f y2 1)))))
abbrev rm_M_falls : Room := { frames := 2, cells := 0, slots := 0, locals := 45 }
set_option maxHeartbeats 4000000 in
set_option maxRecDepth 100000 in
theorem c_M_falls (l : Launch) (D : va_G) (cs : Nat → ClassId) (o : Nat) (h : Nat → Nat) (sz : Nat) (I : FI) (V : FV) (x1 : Int32) (f : Nat) (out : Int32 × FI × FV) (hf : M_falls f x1 I V = some out) : Met l yX10_falls wsX10_falls rm_M_falls (va_Pc [.ref o, .int x1] (xP D cs (w_M cs o h I V) sz)) (va_Qi (fun r u => (r, u) = out) (fun (u : FI × FV) t => xA D cs (va_A (w_M cs o h I V) sz) (w_M cs o h u.1 u.2) t) (va_A (w_M cs o h I V) sz)) 0 0 (va_A (w_M cs o h I V) sz) := by
  refine Met.ofW (cc := cX10_falls) (maxL := 7) (ret := (some .int)) (by decide) rfl ?_
  intro p e s m args below meth c s₁ B hml hv
  obtain ⟨ha, hsz, hP, hK, hD0⟩ := hv
  have hx := B.exec
  have hb := B.bytes
  have hr := B.returns
  have hts := atoms_spec (ws := wsX10_falls) B.pre
  have hown : s.vm.findClass RX10 = some m.cls := findClass_of_methodNamed B.named
  have hlocks := B.notSynchronized
  have in_X10 : ∀ w ∈ u_ws RX10 TX10 38, w ∈ wsX10_falls := fun w h => List.mem_cons_of_mem _ (List.mem_append_right _ h)
  have g_92 := hts (.fieldLink RX10 92 "DaysLentModel" "thrown" "I") (by decide +kernel)
  have g_96 := hts (.fieldLink RX10 96 "DaysLentModel" "people" "I") (by decide +kernel)
  have w_in_99 := va_cwS (R := rm_M_falls) (s := s) (args := args) (rm := rm_M_in) (mc := 0) (ms := 0) 3 hts gX10_falls_X10_in rfl rfl rfl (by decide +kernel) ⟨Nat.le_of_ble_eq_true rfl, Nat.le_of_ble_eq_true rfl⟩
  have g_13 := hts (.fieldLink RX10 13 "DaysLentModel" "mornings" "[I") (by decide +kernel)
  have w_owedBy_183 := cwV (R := rm_M_falls) (s := s) (args := args) (rm := rm_M_owedBy) (mc := 0) (ms := 0) 2 hts gX10_falls_X10_owedBy rfl rfl rfl (by decide +kernel) ⟨Nat.le_of_ble_eq_true rfl, Nat.le_of_ble_eq_true rfl⟩
  have w_owesAll_144 := cwV (R := rm_M_falls) (s := s) (args := args) (rm := rm_M_owesAll) (mc := 0) (ms := 0) 1 hts gX10_falls_X10_owesAll rfl rfl rfl (by decide +kernel) ⟨Nat.le_of_ble_eq_true rfl, Nat.le_of_ble_eq_true rfl⟩
  subst hsz
  have hD := hD0.self (sz := s.heap.size)
  generalize hAe : va_A (w_M cs o h I V) s.heap.size = A at hD ⊢
  have hA : ∀ q : Nat, s.heap.size ≤ q → A q := fun q h => by rw [← hAe]; exact Or.inr h
  have hS : va_S A s.heap s.heap [] := va_S.rf
  have hl := lv_entry ([.ref o, .int x1]) (n := 7) (Nat.le_of_ble_eq_true rfl)
  rw [show entryFrame m args 7 = entryFrame m ([.ref o, .int x1] : List Value).toArray 7 from by rw [ha], lg_entry_eq]
  generalize (lg_sl ([.ref o, .int x1]) ++ List.replicate (7 - (lg_sl ([.ref o, .int x1])).length) Slot.unset).toArray = ls at hl ⊢
  have hl : lv_has ls 7 [(0, .ref o), (1, .int x1)] := hl
  generalize hQ : MQ below (va_Qi (fun r u => (r, u) = out) (fun (u : FI × FV) t => xA D cs A (w_M cs o h u.1 u.2) t) A) args s 0 0 A = Q
  show W p l e rm_M_falls s m args below meth c s.heap [] 0 0 Q (F0 m 0 ls [])
  have hret : ∀ (v : Int32) (Im9 : FI) (Vm9 : FV) (H : Heap) (locs : List Loc) (pc : Nat) (ls : Array Slot), some (v, Im9, Vm9) = some out → va_P D vwCl (w_M cs o h Im9 Vm9) H → va_D A (w_M cs o h Im9 Vm9) → va_S A s.heap H locs → decode cX10_falls pc = .ok (.ireturn, 1) → W p l e rm_M_falls s m args below meth c H locs 0 0 Q (F0 m pc ls [.int v]) := by
    intro v Im9 Vm9 H locs pc ls hf hP hD hS hd
    rw [← hQ]
    exact W.iret (v := v) hx hb hr (fun t ht hW => ⟨⟨v, (Im9, Vm9), rfl, Option.some.inj hf, by show va_P D vwCl (w_M cs o h Im9 Vm9) t.heap; rw [ht]; exact hP, va_K.moved hW.alike hK, hD⟩, hS.F ht⟩) hS.2.2 hd
  unfold M_falls at hf
  refine lv_aload_n hx hb dX10_falls_0 rfl (lv_at hl 0 rfl) ?_
  refine lv_iconst (v := 0) hx hb dX10_falls_1 (by decide) ?_
  refine va_put (D := D) (ci := 10) (v := .int 0) (ty := .int) (C := RX10) (T := TX10) (N := 38) hx hb hts in_X10 tyX10 tyX10_ok nmX10 hown hK hP hD hS 0 rfl rfl 0 (by decide) g_92 (fun _ h9 => h9) rfl (by decide +kernel) rfl rfl (Nat.le_of_ble_eq_true rfl) dX10_falls_2 (fun H locs hP hD hS => ?_)
  have hP : va_P D vwCl (w_M cs o h (va_up I 0 0) V) H := hP
  have hD : va_D A (w_M cs o h (va_up I 0 0) V) := hD
  refine lv_iload_n hx hb dX10_falls_5 rfl (lv_at hl 1 rfl) ?_
  refine lv_i2l (v := x1.toInt64) hx hb dX10_falls_6 rfl ?_
  refine lv_lconst (v := 0) hx hb dX10_falls_7 (by decide) ?_
  refine lv_iconst (v := 1) hx hb dX10_falls_8 (by decide) ?_
  refine lv_aload_n hx hb dX10_falls_9 rfl (lv_at hl 0 rfl) ?_
  refine va_get (D := D) (ci := 10) (v := .int (I 4)) (C := RX10) (T := TX10) (N := 38) hx hb hts in_X10 hown hK hP 0 rfl rfl 4 (by decide) g_96 (fun _ h9 => h9) rfl dX10_falls_10 ?_
  refine lv_ishl hx hb dX10_falls_13 ?_
  refine lv_iconst (v := 1) hx hb dX10_falls_14 (by decide) ?_
  refine lv_isub hx hb dX10_falls_15 ?_
  refine lv_i2l (v := ((1 <<< ((I 4) &&& 31)) - 1).toInt64) hx hb dX10_falls_16 rfl ?_
  obtain ⟨zr1, qr1, hf⟩ := bd1 hf
  refine vp_callSi (va_Run.run (va_runS (As := [.long (x1.toInt64), .long 0, .long (((1 <<< ((I 4) &&& 31)) - 1).toInt64)]) (rest := []) ⟨hx, hb, hml, hown, hts⟩ (c_M_in l (x1.toInt64) 0 (((1 <<< ((I 4) &&& 31)) - 1).toInt64) f zr1 qr1) w_in_99 ⟨fun a U g mk q => q, fun U hU hW => ⟨rfl, trivial⟩⟩ rfl rfl hl.1 rfl (lv_room (Nat.le_of_ble_eq_true rfl)) dX10_falls_17 ⟨Nat.zero_le _, Nat.zero_le _⟩)) (fun r1 er1 => ?_)
  rw [er1]
  refine lv_if_ne (tgt := 26) hx hb dX10_falls_20 (by decide) (fun c20 => ?_) (fun c20 => ?_)
  · replace hf := im c20 hf
    refine lv_iconst (v := 1) hx hb dX10_falls_26 (by decide) ?_
    refine lv_aload_n hx hb dX10_falls_27 rfl (lv_at hl 0 rfl) ?_
    refine va_get (D := D) (ci := 10) (v := .int (I 4)) (C := RX10) (T := TX10) (N := 38) hx hb hts in_X10 hown hK hP 0 rfl rfl 4 (by decide) g_96 (fun _ h9 => h9) rfl dX10_falls_28 ?_
    refine lv_ishl hx hb dX10_falls_31 ?_
    refine lv_iconst (v := 1) hx hb dX10_falls_32 (by decide) ?_
    refine lv_isub hx hb dX10_falls_33 ?_
    refine lv_iload_n hx hb dX10_falls_34 rfl (lv_at hl 1 rfl) ?_
    refine lv_iconst (v := (-1)) hx hb dX10_falls_35 (by decide) ?_
    refine lv_ixor hx hb dX10_falls_36 ?_
    refine lv_iand hx hb dX10_falls_37 ?_
    refine lv_topi (fun y2 ey2 => ?_)
    replace hf := nmd hf ey2
    refine lv_istore_n (lv' := [(2, .int y2), (0, .ref o), (1, .int x1)]) hx hb dX10_falls_38 rfl hl (by decide) rfl (fun ls hl => ?_)
    refine lv_iconst (v := 1) hx hb dX10_falls_39 (by decide) ?_
    refine lv_istore_n (lv' := [(3, .int 1), (2, .int y2), (0, .ref o), (1, .int x1)]) hx hb dX10_falls_40 rfl hl (by decide) rfl (fun ls hl => ?_)
    obtain ⟨I3, eI3, hf⟩ := nme hf
    rw [← eI3] at hP hD
    have L41 : ∀ (k_41 : Int32 → Option (Int32 × FI × FV)) (hk_41 : ∀ (x2_41 : Int32), k_41 x2_41 = some out → ∀ (H : Heap) (locs : List Loc), va_P D vwCl (w_M cs o h I3 V) H → va_D A (w_M cs o h I3 V) → va_S A s.heap H locs → ∀ ls : Array Slot, lv_has ls 7 [(0, .ref o), (2, .int x2_41)] → W p l e rm_M_falls s m args below meth c H locs 0 0 Q (F0 m 130 ls [])), ∀ (n_41 : Nat) (x2_41 : Int32) (x3_41 : Int32), M_falls_L41 f I3 V k_41 n_41 x2_41 x3_41 = some out → ∀ (H : Heap) (locs : List Loc), va_P D vwCl (w_M cs o h I3 V) H → va_D A (w_M cs o h I3 V) → va_S A s.heap H locs → ∀ ls : Array Slot, lv_has ls 7 [(0, .ref o), (2, .int x2_41), (3, .int x3_41)] → W p l e rm_M_falls s m args below meth c H locs 0 0 Q (F0 m 41 ls []) := by
      intro k_41 hk_41 n_41
      induction n_41 with
      | zero => intro x2_41 x3_41 hf; rw [M_falls_L41] at hf; cases hf
      | succ n_41 ih_41 =>
        intro x2_41 x3_41 hf H locs hP hD hS ls hl
        rw [M_falls_L41] at hf
        refine lv_iload_n hx hb dX10_falls_41 rfl (lv_at hl 2 rfl) ?_
        refine lv_if_eq (tgt := 130) hx hb dX10_falls_42 (by decide) (fun c42 => ?_) (fun c42 => ?_)
        · replace hf := ip c42 hf
          exact hk_41 x2_41 hf _ _ hP hD hS _ (lv_sub hl [0, 1] rfl)
        · replace hf := im c42 hf
          refine lv_iload_n hx hb dX10_falls_45 rfl (lv_at hl 1 rfl) ?_
          refine lv_istore (lv' := [(4, .int x2_41), (0, .ref o), (2, .int x2_41), (3, .int x3_41)]) hx hb dX10_falls_46 hl (by decide) rfl (fun ls hl => ?_)
          refine lv_iconst (v := 0) hx hb dX10_falls_48 (by decide) ?_
          refine lv_istore (lv' := [(5, .int 0), (4, .int x2_41), (0, .ref o), (2, .int x2_41), (3, .int x3_41)]) hx hb dX10_falls_49 hl (by decide) rfl (fun ls hl => ?_)
          have L51 : ∀ (k_51 : Int32 → Option (Int32 × FI × FV)) (hk_51 : ∀ (x2_51 : Int32), k_51 x2_51 = some out → ∀ (H : Heap) (locs : List Loc), va_P D vwCl (w_M cs o h I3 V) H → va_D A (w_M cs o h I3 V) → va_S A s.heap H locs → ∀ ls : Array Slot, lv_has ls 7 [(0, .ref o), (2, .int x2_51), (4, .int x2_41)] → W p l e rm_M_falls s m args below meth c H locs 0 0 Q (F0 m 115 ls [])), ∀ (n_51 : Nat) (x2_51 : Int32) (x5_51 : Int32), M_falls_L51 f I3 V k_51 n_51 x2_51 x5_51 = some out → ∀ (H : Heap) (locs : List Loc), va_P D vwCl (w_M cs o h I3 V) H → va_D A (w_M cs o h I3 V) → va_S A s.heap H locs → ∀ ls : Array Slot, lv_has ls 7 [(0, .ref o), (2, .int x2_51), (4, .int x2_41), (5, .int x5_51)] → W p l e rm_M_falls s m args below meth c H locs 0 0 Q (F0 m 51 ls []) := by
            intro k_51 hk_51 n_51
            induction n_51 with
            | zero => intro x2_51 x5_51 hf; rw [M_falls_L51] at hf; cases hf
            | succ n_51 ih_51 =>
              intro x2_51 x5_51 hf H locs hP hD hS ls hl
              rw [M_falls_L51] at hf
              refine lv_iload hx hb dX10_falls_51 (lv_at hl 3 rfl) ?_
              refine lv_aload_n hx hb dX10_falls_53 rfl (lv_at hl 0 rfl) ?_
              refine va_get (D := D) (ci := 10) (v := .int (I3 4)) (C := RX10) (T := TX10) (N := 38) hx hb hts in_X10 hown hK hP 0 rfl rfl 4 (by decide) g_96 (fun _ h9 => h9) rfl dX10_falls_54 ?_
              refine lv_icmp_ge (tgt := 115) hx hb dX10_falls_57 (by decide) (fun c57 => ?_) (fun c57 => ?_)
              · replace hf := ip c57 hf
                exact hk_51 x2_51 hf _ _ hP hD hS _ (lv_sub hl [0, 1, 2] rfl)
              · replace hf := im c57 hf
                refine lv_aload_n hx hb dX10_falls_60 rfl (lv_at hl 0 rfl) ?_
                refine va_get (D := D) (ci := 10) (v := .ref (h 5)) (C := RX10) (T := TX10) (N := 38) hx hb hts in_X10 hown hK hP 0 rfl rfl 5 (by decide) g_13 (fun _ h9 => h9) rfl dX10_falls_61 ?_
                refine lv_iload hx hb dX10_falls_64 (lv_at hl 3 rfl) ?_
                obtain ⟨c66, hf⟩ := gd hf
                refine va_iald hx hb hK hP 2 0 rfl rfl c66 dX10_falls_66 ?_
                refine lv_aload_n hx hb dX10_falls_67 rfl (lv_at hl 0 rfl) ?_
                refine lv_iload hx hb dX10_falls_68 (lv_at hl 3 rfl) ?_
                refine lv_iload_n hx hb dX10_falls_70 rfl (lv_at hl 1 rfl) ?_
                obtain ⟨zr4, qr4, hf⟩ := bd1 hf
                refine vp_callSi (va_Run.run (va_runV (As := [.int x5_51, .int x2_51]) (rest := [.int ((V 5) x5_51.toNatClampNeg)]) ⟨hx, hb, hml, hown, hts⟩ (c_M_owedBy l D cs o h I3 V x5_51 x2_51 f zr4 qr4) w_owedBy_183 ⟨xR_moved, va_recv hK hP (ci := 10) (q0 := 0) rfl rfl, fun U hU hW => ⟨rfl, by rw [hU]; exact hP, va_K.moved hW.alike hK⟩⟩ rfl rfl hl.1 rfl (lv_room (Nat.le_of_ble_eq_true rfl)) dX10_falls_71 ⟨Nat.zero_le _, Nat.zero_le _⟩)) (fun r4 er4 => ?_)
                rw [er4]
                refine lv_iadd hx hb dX10_falls_74 ?_
                refine lv_aload_n hx hb dX10_falls_75 rfl (lv_at hl 0 rfl) ?_
                refine lv_iload hx hb dX10_falls_76 (lv_at hl 3 rfl) ?_
                obtain ⟨zr5, qr5, hf⟩ := bd1 hf
                refine vp_callSi (va_Run.run (va_runV (As := [.int x5_51]) (rest := [.int (((V 5) x5_51.toNatClampNeg) + zr4)]) ⟨hx, hb, hml, hown, hts⟩ (c_M_owesAll l D cs o h I3 V x5_51 f zr5 qr5) w_owesAll_144 ⟨xR_moved, va_recv hK hP (ci := 10) (q0 := 0) rfl rfl, fun U hU hW => ⟨rfl, by rw [hU]; exact hP, va_K.moved hW.alike hK⟩⟩ rfl rfl hl.1 rfl (lv_room (Nat.le_of_ble_eq_true rfl)) dX10_falls_78 ⟨Nat.zero_le _, Nat.zero_le _⟩)) (fun r5 er5 => ?_)
                rw [er5]
                obtain ⟨j89, ej89, hf⟩ := nme hf
                have J89 : ∀ (t0_89 : Int32), j89 t0_89 = some out → ∀ (H : Heap) (locs : List Loc), va_P D vwCl (w_M cs o h I3 V) H → va_D A (w_M cs o h I3 V) → va_S A s.heap H locs → ∀ ls : Array Slot, lv_has ls 7 [(0, .ref o), (2, .int x2_51), (4, .int x2_41), (5, .int x5_51)] → W p l e rm_M_falls s m args below meth c H locs 0 0 Q (F0 m 89 ls [.int t0_89]) := by
                  intro t0_89 hf H locs hP hD hS ls hl
                  rw [ej89] at hf
                  refine lv_istore (lv' := [(6, .int t0_89), (0, .ref o), (2, .int x2_51), (4, .int x2_41), (5, .int x5_51)]) hx hb dX10_falls_89 hl (by decide) rfl (fun ls hl => ?_)
                  refine lv_iload_n hx hb dX10_falls_91 rfl (lv_at hl 2 rfl) ?_
                  refine lv_iload hx hb dX10_falls_92 (lv_at hl 0 rfl) ?_
                  obtain ⟨j107, ej107, hf⟩ := nme hf
                  have J107 : ∀ (t1_107 : Int32), j107 t1_107 = some out → ∀ (H : Heap) (locs : List Loc), va_P D vwCl (w_M cs o h I3 V) H → va_D A (w_M cs o h I3 V) → va_S A s.heap H locs → ∀ ls : Array Slot, lv_has ls 7 [(0, .ref o), (4, .int x2_41), (5, .int x5_51)] → W p l e rm_M_falls s m args below meth c H locs 0 0 Q (F0 m 107 ls [.int t1_107, .int x2_51]) := by
                    intro t1_107 hf H locs hP hD hS ls hl
                    rw [ej107] at hf
                    refine lv_iand hx hb dX10_falls_107 ?_
                    refine lv_istore_n (lv' := [(2, .int (x2_51 &&& t1_107)), (0, .ref o), (4, .int x2_41), (5, .int x5_51)]) hx hb dX10_falls_108 rfl hl (by decide) rfl (fun ls hl => ?_)
                    refine lv_iinc (v := (x5_51 + 1)) (lv' := [(5, .int (x5_51 + 1)), (2, .int (x2_51 &&& t1_107)), (0, .ref o), (4, .int x2_41)]) hx hb dX10_falls_109 hl (k := 3) rfl (by rfl) (by decide) rfl (fun ls hl => ?_)
                    refine lv_goto (tgt := 51) hx hb dX10_falls_112 (by decide) ?_
                    exact ih_51 (x2_51 &&& t1_107) (x5_51 + 1) hf _ _ hP hD hS _ (lv_sub hl [2, 1, 3, 0] rfl)
                  refine lv_if_eq (tgt := 101) hx hb dX10_falls_94 (by decide) (fun c94 => ?_) (fun c94 => ?_)
                  · replace hf := ip c94 hf
                    refine lv_iconst (v := 1) hx hb dX10_falls_101 (by decide) ?_
                    refine lv_iload hx hb dX10_falls_102 (lv_at hl 4 rfl) ?_
                    refine lv_ishl hx hb dX10_falls_104 ?_
                    refine lv_iconst (v := (-1)) hx hb dX10_falls_105 (by decide) ?_
                    refine lv_ixor hx hb dX10_falls_106 ?_
                    exact J107 ((1 <<< (x5_51 &&& 31)) ^^^ (-1)) hf _ _ hP hD hS _ (lv_sub hl [1, 3, 4] rfl)
                  · replace hf := im c94 hf
                    refine lv_iload_n hx hb dX10_falls_97 rfl (lv_at hl 2 rfl) ?_
                    refine lv_goto (tgt := 107) hx hb dX10_falls_98 (by decide) ?_
                    exact J107 x2_51 hf _ _ hP hD hS _ (lv_sub hl [1, 3, 4] rfl)
                refine lv_icmp_lt (tgt := 88) hx hb dX10_falls_81 (by decide) (fun c81 => ?_) (fun c81 => ?_)
                · replace hf := ip c81 hf
                  refine lv_iconst (v := 0) hx hb dX10_falls_88 (by decide) ?_
                  exact J89 0 hf _ _ hP hD hS _ (lv_sub hl [0, 1, 2, 3] rfl)
                · replace hf := im c81 hf
                  refine lv_iconst (v := 1) hx hb dX10_falls_84 (by decide) ?_
                  refine lv_goto (tgt := 89) hx hb dX10_falls_85 (by decide) ?_
                  exact J89 1 hf _ _ hP hD hS _ (lv_sub hl [0, 1, 2, 3] rfl)
          refine L51 _ (fun x2_51 hf H locs hP hD hS ls hl => ?_) f x2_41 0 hf _ _ hP hD hS _ (lv_sub hl [2, 3, 1, 0] rfl)
          refine lv_iload_n hx hb dX10_falls_115 rfl (lv_at hl 1 rfl) ?_
          refine lv_iload hx hb dX10_falls_116 (lv_at hl 2 rfl) ?_
          obtain ⟨j126, ej126, hf⟩ := nme hf
          have J126 : ∀ (t0_126 : Int32), j126 t0_126 = some out → ∀ (H : Heap) (locs : List Loc), va_P D vwCl (w_M cs o h I3 V) H → va_D A (w_M cs o h I3 V) → va_S A s.heap H locs → ∀ ls : Array Slot, lv_has ls 7 [(0, .ref o), (2, .int x2_51)] → W p l e rm_M_falls s m args below meth c H locs 0 0 Q (F0 m 126 ls [.int t0_126]) := by
            intro t0_126 hf H locs hP hD hS ls hl
            rw [ej126] at hf
            refine lv_istore_n (lv' := [(3, .int t0_126), (0, .ref o), (2, .int x2_51)]) hx hb dX10_falls_126 rfl hl (by decide) rfl (fun ls hl => ?_)
            refine lv_goto (tgt := 41) hx hb dX10_falls_127 (by decide) ?_
            exact ih_41 x2_51 t0_126 hf _ _ hP hD hS _ (lv_sub hl [1, 2, 0] rfl)
          refine lv_icmp_eq (tgt := 125) hx hb dX10_falls_118 (by decide) (fun c118 => ?_) (fun c118 => ?_)
          · replace hf := ip c118 hf
            refine lv_iconst (v := 0) hx hb dX10_falls_125 (by decide) ?_
            exact J126 0 hf _ _ hP hD hS _ (lv_sub hl [0, 1] rfl)
          · replace hf := im c118 hf
            refine lv_iconst (v := 1) hx hb dX10_falls_121 (by decide) ?_
            refine lv_goto (tgt := 126) hx hb dX10_falls_122 (by decide) ?_
            exact J126 1 hf _ _ hP hD hS _ (lv_sub hl [0, 1] rfl)
    refine L41 _ (fun x2_41 hf H locs hP hD hS ls hl => ?_) f y2 1 hf _ _ hP hD hS _ (lv_sub hl [2, 1, 0] rfl)
    refine lv_iconst (v := 1) hx hb dX10_falls_130 (by decide) ?_
    refine lv_aload_n hx hb dX10_falls_131 rfl (lv_at hl 0 rfl) ?_
    refine va_get (D := D) (ci := 10) (v := .int (I3 4)) (C := RX10) (T := TX10) (N := 38) hx hb hts in_X10 hown hK hP 0 rfl rfl 4 (by decide) g_96 (fun _ h9 => h9) rfl dX10_falls_132 ?_
    refine lv_ishl hx hb dX10_falls_135 ?_
    refine lv_iconst (v := 1) hx hb dX10_falls_136 (by decide) ?_
    refine lv_isub hx hb dX10_falls_137 ?_
    refine lv_iload_n hx hb dX10_falls_138 rfl (lv_at hl 1 rfl) ?_
    refine lv_iconst (v := (-1)) hx hb dX10_falls_139 (by decide) ?_
    refine lv_ixor hx hb dX10_falls_140 ?_
    refine lv_iand hx hb dX10_falls_141 ?_
    exact hret (((1 <<< ((I3 4) &&& 31)) - 1) &&& (x2_41 ^^^ (-1))) I3 V _ _ 142 _ hf hP hD hS dX10_falls_142
  · replace hf := ip c20 hf
    refine lv_bipush (v := (-2)) hx hb dX10_falls_23 (by decide) ?_
    exact hret (-2) (va_up I 0 0) V _ _ 25 _ hf hP hD hS dX10_falls_25
def M_mayGo_L59 {ρ : Type} (f : Nat) (x4 : Int32) (x5 : Int32) (V : FV) (x3 : Int32) (k_59 : Int32 → Option ρ) : Nat → Int32 → Int32 → Option ρ
  | 0, _, _ => none
  | n_59 + 1, x6_59, x7_59 => (if x4 ≤ x7_59 then (k_59 x6_59) else (nm (fun (t0_106 : Int32) => (M_mayGo_L59 f x4 x5 V x3 k_59 n_59 t0_106 (x7_59 + 1))) (fun j106 => nm (fun (u_105 : Unit) => (j106 0)) (fun j105 => (if x6_59 = 0 then (j105 ()) else (nm (fun (u_101 : Unit) => (j106 1)) (fun j101 => (if x4 = (x5 - 1) then (j101 ()) else if x7_59 < 0 ∨ 7 ≤ x7_59.toNatClampNeg then none else (if ((V 32) x7_59.toNatClampNeg) < 0 ∨ 12 ≤ ((V 32) x7_59.toNatClampNeg).toNatClampNeg then none else (if x3 < 0 ∨ 12 ≤ x3.toNatClampNeg then none else ((if ((V 10) ((V 32) x7_59.toNatClampNeg).toNatClampNeg) = ((V 10) x3.toNatClampNeg) then (j105 ()) else (j101 ())))))))))))))
def M_mayGo_L59 {ρ : Type} (f : Nat) (x4 : Int32) (x5 : Int32) (V : FV) (x3 : Int32) (k_59 : Int32 → Option ρ) : Nat → Int32 → Int32 → Option ρ
  | 0, _, _ => none
  | n_59 + 1, x6_59, x7_59 => (if x4 ≤ x7_59 then (k_59 x6_59) else (nm (fun (t0_106 : Int32) => (M_mayGo_L59 f x4 x5 V x3 k_59 n_59 t0_106 (x7_59 + 1))) (fun j106 => nm (fun (u_105 : Unit) => (j106 0)) (fun j105 => (if x6_59 = 0 then (j105 ()) else (nm (fun (u_101 : Unit) => (j106 1)) (fun j101 => (if x4 = (x5 - 1) then (j101 ()) else if x7_59 < 0 ∨ 7 ≤ x7_59.toNatClampNeg then none else (if ((V 32) x7_59.toNatClampNeg) < 0 ∨ 12 ≤ ((V 32) x7_59.toNatClampNeg).toNatClampNeg then none else (if x3 < 0 ∨ 12 ≤ x3.toNatClampNeg then none else ((if ((V 10) ((V 32) x7_59.toNatClampNeg).toNatClampNeg) = ((V 10) x3.toNatClampNeg) then (j105 ()) else (j101 ())))))))))))))
def M_mayGo (f : Nat) (x1 : Int32) (x2 : Int32) (x3 : Int32) (x4 : Int32) (x5 : Int32) (I : FI) (V : FV) : Option (Int32) := if x3 < 0 ∨ 12 ≤ x3.toNatClampNeg then none else ((if ((V 11) x3.toNatClampNeg) = x2 then (nm (fun (t0_54 : Int32) => (M_mayGo_L59 f x4 x5 V x3 (fun (x6_59 : Int32) => if x6_59 &&& 1 = x6_59 then some x6_59 else none) f t0_54 0)) (fun j54 => (if x4 = (x5 - 1) then if x3 < 0 ∨ 12 ≤ x3.toNatClampNeg then none else ((if ((V 10) x3.toNatClampNeg) = x1 then (j54 1) else (j54 0))) else if x3 < 0 ∨ 12 ≤ x3.toNatClampNeg then none else ((if ((V 10) x3.toNatClampNeg) = x1 then (j54 0) else (j54 1)))))) else some 0))
abbrev rm_M_mayGo : Room := { frames := 0, cells := 0, slots := 0, locals := 0 }
set_option maxHeartbeats 4000000 in
set_option maxRecDepth 100000 in
theorem c_M_mayGo (l : Launch) (D : va_G) (cs : Nat → ClassId) (o : Nat) (h : Nat → Nat) (I : FI) (V : FV) (x1 : Int32) (x2 : Int32) (x3 : Int32) (x4 : Int32) (x5 : Int32) (f : Nat) (out : Int32) (hf : M_mayGo f x1 x2 x3 x4 x5 I V = some out) : Met l yX10_mayGo wsX10_mayGo rm_M_mayGo (va_Pc [.ref o, .int x1, .int x2, .int x3, .int x4, .int x5] (xR D cs (w_M cs o h I V))) (vp_Si (fun r => r = out)) 0 0 (fun _ => False) := by
  refine Met.ofW (cc := cX10_mayGo) (maxL := 8) (ret := (some .boolean)) (by decide) rfl ?_
  intro p e s m args below meth c s₁ B hml hv
  obtain ⟨ha, hP, hK⟩ := hv
  have hx := B.exec
  have hb := B.bytes
  have hr := B.returns
  have hts := atoms_spec (ws := wsX10_mayGo) B.pre
  have hown : s.vm.findClass RX10 = some m.cls := findClass_of_methodNamed B.named
  have hlocks := B.notSynchronized
  have in_X10 : ∀ w ∈ u_ws RX10 TX10 38, w ∈ wsX10_mayGo := fun w h => List.mem_cons_of_mem _ (List.mem_append_right _ h)
  have g_29 := hts (.fieldLink RX10 29 "DaysLentModel" "owes" "[I") (by decide +kernel)
  have g_26 := hts (.fieldLink RX10 26 "DaysLentModel" "owed" "[I") (by decide +kernel)
  have g_77 := hts (.fieldLink RX10 77 "DaysLentModel" "tried" "[I") (by decide +kernel)
  have hl := lv_entry ([.ref o, .int x1, .int x2, .int x3, .int x4, .int x5]) (n := 8) (Nat.le_of_ble_eq_true rfl)
  rw [show entryFrame m args 8 = entryFrame m ([.ref o, .int x1, .int x2, .int x3, .int x4, .int x5] : List Value).toArray 8 from by rw [ha], lg_entry_eq]
  generalize (lg_sl ([.ref o, .int x1, .int x2, .int x3, .int x4, .int x5]) ++ List.replicate (8 - (lg_sl ([.ref o, .int x1, .int x2, .int x3, .int x4, .int x5])).length) Slot.unset).toArray = ls at hl ⊢
  have hl : lv_has ls 8 [(0, .ref o), (1, .int x1), (2, .int x2), (3, .int x3), (4, .int x4), (5, .int x5)] := hl
  generalize hQ : MQ below (vp_Si (fun r => r = out)) args s 0 0 (fun _ => False) = Q
  show W p l e rm_M_mayGo s m args below meth c s.heap [] 0 0 Q (F0 m 0 ls [])
  have hret : ∀ (v : Int32) (pc : Nat) (ls : Array Slot), narrow .boolean (.int v) = .int v → some v = some out → decode cX10_mayGo pc = .ok (.ireturn, 1) → W p l e rm_M_mayGo s m args below meth c s.heap [] 0 0 Q (F0 m pc ls [.int v]) := by
    intro v pc ls hz hf hd
    rw [← hQ]
    exact W.zret (v := v) hx hb hr hz (fun t ht hW => ⟨v, rfl, Option.some.inj hf, ht⟩) (fun q h => by cases h) hd
  unfold M_mayGo at hf
  refine lv_aload_n hx hb dX10_mayGo_0 rfl (lv_at hl 0 rfl) ?_
  refine va_get (D := D) (ci := 10) (v := .ref (h 11)) (C := RX10) (T := TX10) (N := 38) hx hb hts in_X10 hown hK hP 0 rfl rfl 11 (by decide) g_29 (fun _ h9 => h9) rfl dX10_mayGo_1 ?_
  refine lv_iload_n hx hb dX10_mayGo_4 rfl (lv_at hl 3 rfl) ?_
  obtain ⟨c5, hf⟩ := gd hf
  refine va_iald hx hb hK hP 7 0 rfl rfl c5 dX10_mayGo_5 ?_
  refine lv_iload_n hx hb dX10_mayGo_6 rfl (lv_at hl 2 rfl) ?_
  refine lv_icmp_eq (tgt := 12) hx hb dX10_mayGo_7 (by decide) (fun c7 => ?_) (fun c7 => ?_)
  · replace hf := ip c7 hf
    refine lv_iload hx hb dX10_mayGo_12 (lv_at hl 4 rfl) ?_
    refine lv_iload hx hb dX10_mayGo_14 (lv_at hl 5 rfl) ?_
    refine lv_iconst (v := 1) hx hb dX10_mayGo_16 (by decide) ?_
    refine lv_isub hx hb dX10_mayGo_17 ?_
    obtain ⟨j54, ej54, hf⟩ := nme hf
    have J54 : ∀ (t0_54 : Int32), j54 t0_54 = some out → ∀ ls : Array Slot, lv_has ls 8 [(0, .ref o), (3, .int x3), (4, .int x4), (5, .int x5)] → W p l e rm_M_mayGo s m args below meth c s.heap [] 0 0 Q (F0 m 54 ls [.int t0_54]) := by
      intro t0_54 hf ls hl
      rw [ej54] at hf
      refine lv_istore (lv' := [(6, .int t0_54), (0, .ref o), (3, .int x3), (4, .int x4), (5, .int x5)]) hx hb dX10_mayGo_54 hl (by decide) rfl (fun ls hl => ?_)
      refine lv_iconst (v := 0) hx hb dX10_mayGo_56 (by decide) ?_
      refine lv_istore (lv' := [(7, .int 0), (6, .int t0_54), (0, .ref o), (3, .int x3), (4, .int x4), (5, .int x5)]) hx hb dX10_mayGo_57 hl (by decide) rfl (fun ls hl => ?_)
      have L59 : ∀ (k_59 : Int32 → Option (Int32)) (hk_59 : ∀ (x6_59 : Int32), k_59 x6_59 = some out → ∀ ls : Array Slot, lv_has ls 8 [(6, .int x6_59)] → W p l e rm_M_mayGo s m args below meth c s.heap [] 0 0 Q (F0 m 114 ls [])), ∀ (n_59 : Nat) (x6_59 : Int32) (x7_59 : Int32), M_mayGo_L59 f x4 x5 V x3 k_59 n_59 x6_59 x7_59 = some out → ∀ ls : Array Slot, lv_has ls 8 [(0, .ref o), (3, .int x3), (4, .int x4), (5, .int x5), (6, .int x6_59), (7, .int x7_59)] → W p l e rm_M_mayGo s m args below meth c s.heap [] 0 0 Q (F0 m 59 ls []) := by
        intro k_59 hk_59 n_59
        induction n_59 with
        | zero => intro x6_59 x7_59 hf; rw [M_mayGo_L59] at hf; cases hf
        | succ n_59 ih_59 =>
          intro x6_59 x7_59 hf ls hl
          rw [M_mayGo_L59] at hf
          refine lv_iload hx hb dX10_mayGo_59 (lv_at hl 5 rfl) ?_
          refine lv_iload hx hb dX10_mayGo_61 (lv_at hl 2 rfl) ?_
          refine lv_icmp_ge (tgt := 114) hx hb dX10_mayGo_63 (by decide) (fun c63 => ?_) (fun c63 => ?_)
          · replace hf := ip c63 hf
            exact hk_59 x6_59 hf _ (lv_sub hl [4] rfl)
          · replace hf := im c63 hf
            refine lv_iload hx hb dX10_mayGo_66 (lv_at hl 4 rfl) ?_
            obtain ⟨j106, ej106, hf⟩ := nme hf
            have J106 : ∀ (t0_106 : Int32), j106 t0_106 = some out → ∀ ls : Array Slot, lv_has ls 8 [(0, .ref o), (3, .int x3), (4, .int x4), (5, .int x5), (7, .int x7_59)] → W p l e rm_M_mayGo s m args below meth c s.heap [] 0 0 Q (F0 m 106 ls [.int t0_106]) := by
              intro t0_106 hf ls hl
              rw [ej106] at hf
              refine lv_istore (lv' := [(6, .int t0_106), (0, .ref o), (3, .int x3), (4, .int x4), (5, .int x5), (7, .int x7_59)]) hx hb dX10_mayGo_106 hl (by decide) rfl (fun ls hl => ?_)
              refine lv_iinc (v := (x7_59 + 1)) (lv' := [(7, .int (x7_59 + 1)), (6, .int t0_106), (0, .ref o), (3, .int x3), (4, .int x4), (5, .int x5)]) hx hb dX10_mayGo_108 hl (k := 5) rfl (by rfl) (by decide) rfl (fun ls hl => ?_)
              refine lv_goto (tgt := 59) hx hb dX10_mayGo_111 (by decide) ?_
              exact ih_59 t0_106 (x7_59 + 1) hf _ (lv_sub hl [2, 3, 4, 5, 1, 0] rfl)
            obtain ⟨j105, ej105, hf⟩ := nme hf
            have J105 : ∀ (u_105 : Unit), j105 u_105 = some out → ∀ ls : Array Slot, lv_has ls 8 [(0, .ref o), (3, .int x3), (4, .int x4), (5, .int x5), (7, .int x7_59)] → W p l e rm_M_mayGo s m args below meth c s.heap [] 0 0 Q (F0 m 105 ls []) := by
              intro u_105 hf ls hl
              rw [ej105] at hf
              refine lv_iconst (v := 0) hx hb dX10_mayGo_105 (by decide) ?_
              exact J106 0 hf _ (lv_sub hl [0, 1, 2, 3, 4] rfl)
            refine lv_if_eq (tgt := 105) hx hb dX10_mayGo_68 (by decide) (fun c68 => ?_) (fun c68 => ?_)
            · replace hf := ip c68 hf
              exact J105 () hf _ (lv_sub hl [0, 1, 2, 3, 5] rfl)
            · replace hf := im c68 hf
              refine lv_iload hx hb dX10_mayGo_71 (lv_at hl 2 rfl) ?_
              refine lv_iload hx hb dX10_mayGo_73 (lv_at hl 3 rfl) ?_
              refine lv_iconst (v := 1) hx hb dX10_mayGo_75 (by decide) ?_
              refine lv_isub hx hb dX10_mayGo_76 ?_
              obtain ⟨j101, ej101, hf⟩ := nme hf
              have J101 : ∀ (u_101 : Unit), j101 u_101 = some out → ∀ ls : Array Slot, lv_has ls 8 [(0, .ref o), (3, .int x3), (4, .int x4), (5, .int x5), (7, .int x7_59)] → W p l e rm_M_mayGo s m args below meth c s.heap [] 0 0 Q (F0 m 101 ls []) := by
                intro u_101 hf ls hl
                rw [ej101] at hf
                refine lv_iconst (v := 1) hx hb dX10_mayGo_101 (by decide) ?_
                refine lv_goto (tgt := 106) hx hb dX10_mayGo_102 (by decide) ?_
                exact J106 1 hf _ (lv_sub hl [0, 1, 2, 3, 4] rfl)
              refine lv_icmp_eq (tgt := 101) hx hb dX10_mayGo_77 (by decide) (fun c77 => ?_) (fun c77 => ?_)
              · replace hf := ip c77 hf
                exact J101 () hf _ (lv_sub hl [0, 1, 2, 3, 5] rfl)
              · replace hf := im c77 hf
                refine lv_aload_n hx hb dX10_mayGo_80 rfl (lv_at hl 0 rfl) ?_
                refine va_get (D := D) (ci := 10) (v := .ref (h 10)) (C := RX10) (T := TX10) (N := 38) hx hb hts in_X10 hown hK hP 0 rfl rfl 10 (by decide) g_26 (fun _ h9 => h9) rfl dX10_mayGo_81 ?_
                refine lv_aload_n hx hb dX10_mayGo_84 rfl (lv_at hl 0 rfl) ?_
                refine va_get (D := D) (ci := 10) (v := .ref (h 32)) (C := RX10) (T := TX10) (N := 38) hx hb hts in_X10 hown hK hP 0 rfl rfl 32 (by decide) g_77 (fun _ h9 => h9) rfl dX10_mayGo_85 ?_
                refine lv_iload hx hb dX10_mayGo_88 (lv_at hl 5 rfl) ?_
                obtain ⟨c90, hf⟩ := gd hf
                refine va_iald hx hb hK hP 23 0 rfl rfl c90 dX10_mayGo_90 ?_
                obtain ⟨c91, hf⟩ := gd hf
                refine va_iald hx hb hK hP 6 0 rfl rfl c91 dX10_mayGo_91 ?_
                refine lv_aload_n hx hb dX10_mayGo_92 rfl (lv_at hl 0 rfl) ?_
                refine va_get (D := D) (ci := 10) (v := .ref (h 10)) (C := RX10) (T := TX10) (N := 38) hx hb hts in_X10 hown hK hP 0 rfl rfl 10 (by decide) g_26 (fun _ h9 => h9) rfl dX10_mayGo_93 ?_
                refine lv_iload_n hx hb dX10_mayGo_96 rfl (lv_at hl 1 rfl) ?_
                obtain ⟨c97, hf⟩ := gd hf
                refine va_iald hx hb hK hP 6 0 rfl rfl c97 dX10_mayGo_97 ?_
                refine lv_icmp_eq (tgt := 105) hx hb dX10_mayGo_98 (by decide) (fun c98 => ?_) (fun c98 => ?_)
                · replace hf := ip c98 hf
                  exact J105 () hf _ (lv_sub hl [0, 1, 2, 3, 5] rfl)
                · replace hf := im c98 hf
                  exact J101 () hf _ (lv_sub hl [0, 1, 2, 3, 5] rfl)
      refine L59 _ (fun x6_59 hf ls hl => ?_) f t0_54 0 hf _ (lv_sub hl [2, 3, 4, 5, 1, 0] rfl)
      refine lv_iload hx hb dX10_mayGo_114 (lv_at hl 0 rfl) ?_
      obtain ⟨c116, hf⟩ := gp hf
      exact hret x6_59 116 _ (by show Value.int (x6_59 &&& 1) = .int x6_59; rw [c116]) hf dX10_mayGo_116
    refine lv_icmp_ne (tgt := 39) hx hb dX10_mayGo_18 (by decide) (fun c18 => ?_) (fun c18 => ?_)
    · replace hf := im c18 hf
      refine lv_aload_n hx hb dX10_mayGo_39 rfl (lv_at hl 0 rfl) ?_
      refine va_get (D := D) (ci := 10) (v := .ref (h 10)) (C := RX10) (T := TX10) (N := 38) hx hb hts in_X10 hown hK hP 0 rfl rfl 10 (by decide) g_26 (fun _ h9 => h9) rfl dX10_mayGo_40 ?_
      refine lv_iload_n hx hb dX10_mayGo_43 rfl (lv_at hl 3 rfl) ?_
      obtain ⟨c44, hf⟩ := gd hf
      refine va_iald hx hb hK hP 6 0 rfl rfl c44 dX10_mayGo_44 ?_
      refine lv_iload_n hx hb dX10_mayGo_45 rfl (lv_at hl 1 rfl) ?_
      refine lv_icmp_eq (tgt := 53) hx hb dX10_mayGo_46 (by decide) (fun c46 => ?_) (fun c46 => ?_)
      · replace hf := ip c46 hf
        refine lv_iconst (v := 0) hx hb dX10_mayGo_53 (by decide) ?_
        exact J54 0 hf _ (lv_sub hl [0, 3, 4, 5] rfl)
      · replace hf := im c46 hf
        refine lv_iconst (v := 1) hx hb dX10_mayGo_49 (by decide) ?_
        refine lv_goto (tgt := 54) hx hb dX10_mayGo_50 (by decide) ?_
        exact J54 1 hf _ (lv_sub hl [0, 3, 4, 5] rfl)
    · replace hf := ip c18 hf
      refine lv_aload_n hx hb dX10_mayGo_21 rfl (lv_at hl 0 rfl) ?_
      refine va_get (D := D) (ci := 10) (v := .ref (h 10)) (C := RX10) (T := TX10) (N := 38) hx hb hts in_X10 hown hK hP 0 rfl rfl 10 (by decide) g_26 (fun _ h9 => h9) rfl dX10_mayGo_22 ?_
      refine lv_iload_n hx hb dX10_mayGo_25 rfl (lv_at hl 3 rfl) ?_
      obtain ⟨c26, hf⟩ := gd hf
      refine va_iald hx hb hK hP 6 0 rfl rfl c26 dX10_mayGo_26 ?_
      refine lv_iload_n hx hb dX10_mayGo_27 rfl (lv_at hl 1 rfl) ?_
      refine lv_icmp_ne (tgt := 35) hx hb dX10_mayGo_28 (by decide) (fun c28 => ?_) (fun c28 => ?_)
      · replace hf := im c28 hf
        refine lv_iconst (v := 0) hx hb dX10_mayGo_35 (by decide) ?_
        refine lv_goto (tgt := 54) hx hb dX10_mayGo_36 (by decide) ?_
        exact J54 0 hf _ (lv_sub hl [0, 3, 4, 5] rfl)
      · replace hf := ip c28 hf
        refine lv_iconst (v := 1) hx hb dX10_mayGo_31 (by decide) ?_
        refine lv_goto (tgt := 54) hx hb dX10_mayGo_32 (by decide) ?_
        exact J54 1 hf _ (lv_sub hl [0, 3, 4, 5] rfl)
  · replace hf := im c7 hf
    refine lv_iconst (v := 0) hx hb dX10_mayGo_10 (by decide) ?_
    exact hret 0 11 _ rfl hf dX10_mayGo_11
def M_findRing_L72 {ρ : Type} (f : Nat) (I : FI) (x1 : Int32) (t0_45 : Int32) (x3_20 : Int32) (x2_2 : Int32) (Vm_20 : FV) (k_72 : Int32 → Option ρ) : Nat → Int32 → Option ρ
  | 0, _ => none
  | n_72 + 1, x5_72 => (if (I 9) ≤ x5_72 then (k_72 x5_72) else ob1 (M_mayGo f x1 t0_45 x5_72 x3_20 x2_2 I Vm_20) (fun zr1 => (if zr1 = 0 then (M_findRing_L72 f I x1 t0_45 x3_20 x2_2 Vm_20 k_72 n_72 (x5_72 + 1)) else (k_72 x5_72))))
def M_findRing_L134 {ρ : Type} (f : Nat) (x2_2 : Int32) (k_134 : FV → Option ρ) : Nat → Int32 → FV → Option ρ
  | 0, _, _ => none
  | n_134 + 1, x6_134, Vm_134 => (if x2_2 ≤ x6_134 then (k_134 Vm_134) else if x6_134 < 0 ∨ 7 ≤ x6_134.toNatClampNeg then none else (if x6_134 < 0 ∨ 7 ≤ x6_134.toNatClampNeg then none else ((M_findRing_L134 f x2_2 k_134 n_134 (x6_134 + 1) (va_up Vm_134 33 (upd (Vm_134 33) x6_134.toNatClampNeg ((Vm_134 32) x6_134.toNatClampNeg)))))))
def M_findRing_L134 {ρ : Type} (f : Nat) (x2_2 : Int32) (k_134 : FV → Option ρ) : Nat → Int32 → FV → Option ρ
  | 0, _, _ => none
  | n_134 + 1, x6_134, Vm_134 => (if x2_2 ≤ x6_134 then (k_134 Vm_134) else if x6_134 < 0 ∨ 7 ≤ x6_134.toNatClampNeg then none else (if x6_134 < 0 ∨ 7 ≤ x6_134.toNatClampNeg then none else ((M_findRing_L134 f x2_2 k_134 n_134 (x6_134 + 1) (va_up Vm_134 33 (upd (Vm_134 33) x6_134.toNatClampNeg ((Vm_134 32) x6_134.toNatClampNeg)))))))
def M_findRing_L72 {ρ : Type} (f : Nat) (I : FI) (x1 : Int32) (t0_45 : Int32) (x3_20 : Int32) (x2_2 : Int32) (Vm_20 : FV) (k_72 : Int32 → Option ρ) : Nat → Int32 → Option ρ
  | 0, _ => none
  | n_72 + 1, x5_72 => (if (I 9) ≤ x5_72 then (k_72 x5_72) else ob1 (M_mayGo f x1 t0_45 x5_72 x3_20 x2_2 I Vm_20) (fun zr1 => (if zr1 = 0 then (M_findRing_L72 f I x1 t0_45 x3_20 x2_2 Vm_20 k_72 n_72 (x5_72 + 1)) else (k_72 x5_72))))
def M_findRing_L134 {ρ : Type} (f : Nat) (x2_2 : Int32) (k_134 : FV → Option ρ) : Nat → Int32 → FV → Option ρ
  | 0, _, _ => none
  | n_134 + 1, x6_134, Vm_134 => (if x2_2 ≤ x6_134 then (k_134 Vm_134) else if x6_134 < 0 ∨ 7 ≤ x6_134.toNatClampNeg then none else (if x6_134 < 0 ∨ 7 ≤ x6_134.toNatClampNeg then none else ((M_findRing_L134 f x2_2 k_134 n_134 (x6_134 + 1) (va_up Vm_134 33 (upd (Vm_134 33) x6_134.toNatClampNeg ((Vm_134 32) x6_134.toNatClampNeg)))))))
def M_findRing_L134 {ρ : Type} (f : Nat) (x2_2 : Int32) (k_134 : FV → Option ρ) : Nat → Int32 → FV → Option ρ
  | 0, _, _ => none
  | n_134 + 1, x6_134, Vm_134 => (if x2_2 ≤ x6_134 then (k_134 Vm_134) else if x6_134 < 0 ∨ 7 ≤ x6_134.toNatClampNeg then none else (if x6_134 < 0 ∨ 7 ≤ x6_134.toNatClampNeg then none else ((M_findRing_L134 f x2_2 k_134 n_134 (x6_134 + 1) (va_up Vm_134 33 (upd (Vm_134 33) x6_134.toNatClampNeg ((Vm_134 32) x6_134.toNatClampNeg)))))))
def M_findRing_L72 {ρ : Type} (f : Nat) (I : FI) (x1 : Int32) (t0_45 : Int32) (x3_20 : Int32) (x2_2 : Int32) (Vm_20 : FV) (k_72 : Int32 → Option ρ) : Nat → Int32 → Option ρ
  | 0, _ => none
  | n_72 + 1, x5_72 => (if (I 9) ≤ x5_72 then (k_72 x5_72) else ob1 (M_mayGo f x1 t0_45 x5_72 x3_20 x2_2 I Vm_20) (fun zr1 => (if zr1 = 0 then (M_findRing_L72 f I x1 t0_45 x3_20 x2_2 Vm_20 k_72 n_72 (x5_72 + 1)) else (k_72 x5_72))))
def M_findRing_L134 {ρ : Type} (f : Nat) (x2_2 : Int32) (k_134 : FV → Option ρ) : Nat → Int32 → FV → Option ρ
  | 0, _, _ => none
  | n_134 + 1, x6_134, Vm_134 => (if x2_2 ≤ x6_134 then (k_134 Vm_134) else if x6_134 < 0 ∨ 7 ≤ x6_134.toNatClampNeg then none else (if x6_134 < 0 ∨ 7 ≤ x6_134.toNatClampNeg then none else ((M_findRing_L134 f x2_2 k_134 n_134 (x6_134 + 1) (va_up Vm_134 33 (upd (Vm_134 33) x6_134.toNatClampNeg ((Vm_134 32) x6_134.toNatClampNeg)))))))
def M_findRing_L134 {ρ : Type} (f : Nat) (x2_2 : Int32) (k_134 : FV → Option ρ) : Nat → Int32 → FV → Option ρ
  | 0, _, _ => none
  | n_134 + 1, x6_134, Vm_134 => (if x2_2 ≤ x6_134 then (k_134 Vm_134) else if x6_134 < 0 ∨ 7 ≤ x6_134.toNatClampNeg then none else (if x6_134 < 0 ∨ 7 ≤ x6_134.toNatClampNeg then none else ((M_findRing_L134 f x2_2 k_134 n_134 (x6_134 + 1) (va_up Vm_134 33 (upd (Vm_134 33) x6_134.toNatClampNeg ((Vm_134 32) x6_134.toNatClampNeg)))))))
def M_findRing_L72 {ρ : Type} (f : Nat) (I : FI) (x1 : Int32) (t0_45 : Int32) (x3_20 : Int32) (x2_2 : Int32) (Vm_20 : FV) (k_72 : Int32 → Option ρ) : Nat → Int32 → Option ρ
  | 0, _ => none
  | n_72 + 1, x5_72 => (if (I 9) ≤ x5_72 then (k_72 x5_72) else ob1 (M_mayGo f x1 t0_45 x5_72 x3_20 x2_2 I Vm_20) (fun zr1 => (if zr1 = 0 then (M_findRing_L72 f I x1 t0_45 x3_20 x2_2 Vm_20 k_72 n_72 (x5_72 + 1)) else (k_72 x5_72))))
def M_findRing_L134 {ρ : Type} (f : Nat) (x2_2 : Int32) (k_134 : FV → Option ρ) : Nat → Int32 → FV → Option ρ
  | 0, _, _ => none
  | n_134 + 1, x6_134, Vm_134 => (if x2_2 ≤ x6_134 then (k_134 Vm_134) else if x6_134 < 0 ∨ 7 ≤ x6_134.toNatClampNeg then none else (if x6_134 < 0 ∨ 7 ≤ x6_134.toNatClampNeg then none else ((M_findRing_L134 f x2_2 k_134 n_134 (x6_134 + 1) (va_up Vm_134 33 (upd (Vm_134 33) x6_134.toNatClampNeg ((Vm_134 32) x6_134.toNatClampNeg)))))))
def M_findRing_L134 {ρ : Type} (f : Nat) (x2_2 : Int32) (k_134 : FV → Option ρ) : Nat → Int32 → FV → Option ρ
  | 0, _, _ => none
  | n_134 + 1, x6_134, Vm_134 => (if x2_2 ≤ x6_134 then (k_134 Vm_134) else if x6_134 < 0 ∨ 7 ≤ x6_134.toNatClampNeg then none else (if x6_134 < 0 ∨ 7 ≤ x6_134.toNatClampNeg then none else ((M_findRing_L134 f x2_2 k_134 n_134 (x6_134 + 1) (va_up Vm_134 33 (upd (Vm_134 33) x6_134.toNatClampNeg ((Vm_134 32) x6_134.toNatClampNeg)))))))
def M_findRing_L20 {ρ : Type} (f : Nat) (I : FI) (x1 : Int32) (x2_2 : Int32) (k_20 : FV → Option ρ) : Nat → Int32 → FV → Option ρ
  | 0, _, _ => none
  | n_20 + 1, x3_20, Vm_20 => (if x3_20 < 0 then (k_20 Vm_20) else (nm (fun (t0_45 : Int32) => if x3_20 < 0 ∨ 7 ≤ x3_20.toNatClampNeg then none else ((nm (fun (t0_70 : Int32) => (M_findRing_L72 f I x1 t0_45 x3_20 x2_2 Vm_20 (fun (x5_72 : Int32) => (nm (fun (x3_173 : Int32) (Vm_173 : FV) => (M_findRing_L20 f I x1 x2_2 k_20 n_20 x3_173 Vm_173)) (fun j173 => (if x5_72 = (I 9) then (j173 (x3_20 + (-1)) Vm_20) else if x3_20 < 0 ∨ 7 ≤ x3_20.toNatClampNeg then none else ((if x3_20 = (x2_2 - 1) then (M_findRing_L134 f x2_2 (fun (Vm_134 : FV) => some (x2_2, I, Vm_134)) f 0 (va_up Vm_20 32 (upd (Vm_20 32) x3_20.toNatClampNeg x5_72))) else if (x3_20 + 1) < 0 ∨ 7 ≤ (x3_20 + 1).toNatClampNeg then none else ((j173 (x3_20 + 1) (va_up Vm_20 32 (upd (upd (Vm_20 32) x3_20.toNatClampNeg x5_72) (x3_20 + 1).toNatClampNeg (-9))))))))))) f t0_70)) (fun j70 => (if ((Vm_20 32) x3_20.toNatClampNeg) = (-9) then (j70 0) else if x3_20 < 0 ∨ 7 ≤ x3_20.toNatClampNeg then none else ((j70 (((Vm_20 32) x3_20.toNatClampNeg) + 1)))))))) (fun j45 => (if x3_20 = 0 then (j45 x1) else if (x3_20 - 1) < 0 ∨ 7 ≤ (x3_20 - 1).toNatClampNeg then none else (if ((Vm_20 32) (x3_20 - 1).toNatClampNeg) < 0 ∨ 12 ≤ ((Vm_20 32) (x3_20 - 1).toNatClampNeg).toNatClampNeg then none else ((j45 ((Vm_20 10) ((Vm_20 32) (x3_20 - 1).toNatClampNeg).toNatClampNeg))))))))
def M_findRing_L2 {ρ : Type} (f : Nat) (I : FI) (x1 : Int32) (k_2 : FV → Option ρ) : Nat → Int32 → FV → Option ρ
  | 0, _, _ => none
  | n_2 + 1, x2_2, Vm_2 => (if (I 4) < x2_2 then (k_2 Vm_2) else (M_findRing_L20 f I x1 x2_2 (fun (Vm_20 : FV) => (M_findRing_L2 f I x1 k_2 n_2 (x2_2 + 1) Vm_20)) f 0 (va_up Vm_2 32 (upd (Vm_2 32) (0 : Int32).toNatClampNeg (-9)))))
def M_findRing (f : Nat) (x1 : Int32) (I : FI) (V : FV) : Option (Int32 × FI × FV) := (M_findRing_L2 f I x1 (fun (Vm_2 : FV) => some ((-9), I, Vm_2)) f 2 V)
abbrev rm_M_findRing : Room := { frames := 1, cells := 0, slots := 0, locals := 27 }
set_option maxHeartbeats 4000000 in
set_option maxRecDepth 100000 in
theorem c_M_findRing (l : Launch) (D : va_G) (cs : Nat → ClassId) (o : Nat) (h : Nat → Nat) (sz : Nat) (I : FI) (V : FV) (x1 : Int32) (f : Nat) (out : Int32 × FI × FV) (hf : M_findRing f x1 I V = some out) : Met l yX10_findRing wsX10_findRing rm_M_findRing (va_Pc [.ref o, .int x1] (xP D cs (w_M cs o h I V) sz)) (va_Qi (fun r u => (r, u) = out) (fun (u : FI × FV) t => xA D cs (va_A (w_M cs o h I V) sz) (w_M cs o h u.1 u.2) t) (va_A (w_M cs o h I V) sz)) 0 0 (va_A (w_M cs o h I V) sz) := by
  refine Met.ofW (cc := cX10_findRing) (maxL := 7) (ret := (some .int)) (by decide) rfl ?_
  intro p e s m args below meth c s₁ B hml hv
  obtain ⟨ha, hsz, hP, hK, hD0⟩ := hv
  have hx := B.exec
  have hb := B.bytes
  have hr := B.returns
  have hts := atoms_spec (ws := wsX10_findRing) B.pre
  have hown : s.vm.findClass RX10 = some m.cls := findClass_of_methodNamed B.named
  have hlocks := B.notSynchronized
  have in_X10 : ∀ w ∈ u_ws RX10 TX10 38, w ∈ wsX10_findRing := fun w h => List.mem_cons_of_mem _ (List.mem_append_right _ h)
  have g_96 := hts (.fieldLink RX10 96 "DaysLentModel" "people" "I") (by decide +kernel)
  have g_77 := hts (.fieldLink RX10 77 "DaysLentModel" "tried" "[I") (by decide +kernel)
  have g_26 := hts (.fieldLink RX10 26 "DaysLentModel" "owed" "[I") (by decide +kernel)
  have g_135 := hts (.fieldLink RX10 135 "DaysLentModel" "debts" "I") (by decide +kernel)
  have w_mayGo_186 := cwV (R := rm_M_findRing) (s := s) (args := args) (rm := rm_M_mayGo) (mc := 0) (ms := 0) 5 hts gX10_findRing_X10_mayGo rfl rfl rfl (by decide +kernel) ⟨Nat.le_of_ble_eq_true rfl, Nat.le_of_ble_eq_true rfl⟩
  have g_80 := hts (.fieldLink RX10 80 "DaysLentModel" "ringOf" "[I") (by decide +kernel)
  subst hsz
  have hD := hD0.self (sz := s.heap.size)
  generalize hAe : va_A (w_M cs o h I V) s.heap.size = A at hD ⊢
  have hA : ∀ q : Nat, s.heap.size ≤ q → A q := fun q h => by rw [← hAe]; exact Or.inr h
  have hS : va_S A s.heap s.heap [] := va_S.rf
  have hl := lv_entry ([.ref o, .int x1]) (n := 7) (Nat.le_of_ble_eq_true rfl)
  rw [show entryFrame m args 7 = entryFrame m ([.ref o, .int x1] : List Value).toArray 7 from by rw [ha], lg_entry_eq]
  generalize (lg_sl ([.ref o, .int x1]) ++ List.replicate (7 - (lg_sl ([.ref o, .int x1])).length) Slot.unset).toArray = ls at hl ⊢
  have hl : lv_has ls 7 [(0, .ref o), (1, .int x1)] := hl
  generalize hQ : MQ below (va_Qi (fun r u => (r, u) = out) (fun (u : FI × FV) t => xA D cs A (w_M cs o h u.1 u.2) t) A) args s 0 0 A = Q
  show W p l e rm_M_findRing s m args below meth c s.heap [] 0 0 Q (F0 m 0 ls [])
  have hret : ∀ (v : Int32) (Im9 : FI) (Vm9 : FV) (H : Heap) (locs : List Loc) (pc : Nat) (ls : Array Slot), some (v, Im9, Vm9) = some out → va_P D vwCl (w_M cs o h Im9 Vm9) H → va_D A (w_M cs o h Im9 Vm9) → va_S A s.heap H locs → decode cX10_findRing pc = .ok (.ireturn, 1) → W p l e rm_M_findRing s m args below meth c H locs 0 0 Q (F0 m pc ls [.int v]) := by
    intro v Im9 Vm9 H locs pc ls hf hP hD hS hd
    rw [← hQ]
    exact W.iret (v := v) hx hb hr (fun t ht hW => ⟨⟨v, (Im9, Vm9), rfl, Option.some.inj hf, by show va_P D vwCl (w_M cs o h Im9 Vm9) t.heap; rw [ht]; exact hP, va_K.moved hW.alike hK, hD⟩, hS.F ht⟩) hS.2.2 hd
  unfold M_findRing at hf
  refine lv_iconst (v := 2) hx hb dX10_findRing_0 (by decide) ?_
  refine lv_istore_n (lv' := [(2, .int 2), (0, .ref o), (1, .int x1)]) hx hb dX10_findRing_1 rfl hl (by decide) rfl (fun ls hl => ?_)
  have L2 : ∀ (k_2 : FV → Option (Int32 × FI × FV)) (hk_2 : ∀ (Vm_2 : FV), k_2 Vm_2 = some out → ∀ (H : Heap) (locs : List Loc), va_P D vwCl (w_M cs o h I Vm_2) H → va_D A (w_M cs o h I Vm_2) → va_S A s.heap H locs → ∀ ls : Array Slot, lv_has ls 7 [] → W p l e rm_M_findRing s m args below meth c H locs 0 0 Q (F0 m 182 ls [])), ∀ (n_2 : Nat) (x2_2 : Int32) (Vm_2 : FV), M_findRing_L2 f I x1 k_2 n_2 x2_2 Vm_2 = some out → ∀ (H : Heap) (locs : List Loc), va_P D vwCl (w_M cs o h I Vm_2) H → va_D A (w_M cs o h I Vm_2) → va_S A s.heap H locs → ∀ ls : Array Slot, lv_has ls 7 [(0, .ref o), (1, .int x1), (2, .int x2_2)] → W p l e rm_M_findRing s m args below meth c H locs 0 0 Q (F0 m 2 ls []) := by
    intro k_2 hk_2 n_2
    induction n_2 with
    | zero => intro x2_2 Vm_2 hf; rw [M_findRing_L2] at hf; cases hf
    | succ n_2 ih_2 =>
      intro x2_2 Vm_2 hf H locs hP hD hS ls hl
      rw [M_findRing_L2] at hf
      refine lv_iload_n hx hb dX10_findRing_2 rfl (lv_at hl 2 rfl) ?_
      refine lv_aload_n hx hb dX10_findRing_3 rfl (lv_at hl 0 rfl) ?_
      refine va_get (D := D) (ci := 10) (v := .int (I 4)) (C := RX10) (T := TX10) (N := 38) hx hb hts in_X10 hown hK hP 0 rfl rfl 4 (by decide) g_96 (fun _ h9 => h9) rfl dX10_findRing_4 ?_
      refine lv_icmp_gt (tgt := 182) hx hb dX10_findRing_7 (by decide) (fun c7 => ?_) (fun c7 => ?_)
      · replace hf := ip c7 hf
        exact hk_2 Vm_2 hf _ _ hP hD hS _ (lv_sub hl [] rfl)
      · replace hf := im c7 hf
        refine lv_iconst (v := 0) hx hb dX10_findRing_10 (by decide) ?_
        refine lv_istore_n (lv' := [(3, .int 0), (0, .ref o), (1, .int x1), (2, .int x2_2)]) hx hb dX10_findRing_11 rfl hl (by decide) rfl (fun ls hl => ?_)
        refine lv_aload_n hx hb dX10_findRing_12 rfl (lv_at hl 1 rfl) ?_
        refine va_get (D := D) (ci := 10) (v := .ref (h 32)) (C := RX10) (T := TX10) (N := 38) hx hb hts in_X10 hown hK hP 0 rfl rfl 32 (by decide) g_77 (fun _ h9 => h9) rfl dX10_findRing_13 ?_
        refine lv_iconst (v := 0) hx hb dX10_findRing_16 (by decide) ?_
        refine lv_bipush (v := (-9)) hx hb dX10_findRing_17 (by decide) ?_
        refine va_iast hx hb hK hP hD hS 23 0 rfl rfl (by unfold vp_in; decide) dX10_findRing_19 (fun H locs hP hD hS => ?_)
        have hP : va_P D vwCl (w_M cs o h I (va_up Vm_2 32 (upd (Vm_2 32) (0 : Int32).toNatClampNeg (-9)))) H := hP
        have hD : va_D A (w_M cs o h I (va_up Vm_2 32 (upd (Vm_2 32) (0 : Int32).toNatClampNeg (-9)))) := hD
        have L20 : ∀ (k_20 : FV → Option (Int32 × FI × FV)) (hk_20 : ∀ (Vm_20 : FV), k_20 Vm_20 = some out → ∀ (H : Heap) (locs : List Loc), va_P D vwCl (w_M cs o h I Vm_20) H → va_D A (w_M cs o h I Vm_20) → va_S A s.heap H locs → ∀ ls : Array Slot, lv_has ls 7 [(0, .ref o), (1, .int x1), (2, .int x2_2)] → W p l e rm_M_findRing s m args below meth c H locs 0 0 Q (F0 m 176 ls [])), ∀ (n_20 : Nat) (x3_20 : Int32) (Vm_20 : FV), M_findRing_L20 f I x1 x2_2 k_20 n_20 x3_20 Vm_20 = some out → ∀ (H : Heap) (locs : List Loc), va_P D vwCl (w_M cs o h I Vm_20) H → va_D A (w_M cs o h I Vm_20) → va_S A s.heap H locs → ∀ ls : Array Slot, lv_has ls 7 [(0, .ref o), (1, .int x1), (2, .int x2_2), (3, .int x3_20)] → W p l e rm_M_findRing s m args below meth c H locs 0 0 Q (F0 m 20 ls []) := by
          intro k_20 hk_20 n_20
          induction n_20 with
          | zero => intro x3_20 Vm_20 hf; rw [M_findRing_L20] at hf; cases hf
          | succ n_20 ih_20 =>
            intro x3_20 Vm_20 hf H locs hP hD hS ls hl
            rw [M_findRing_L20] at hf
            refine lv_iload_n hx hb dX10_findRing_20 rfl (lv_at hl 3 rfl) ?_
            refine lv_if_lt (tgt := 176) hx hb dX10_findRing_21 (by decide) (fun c21 => ?_) (fun c21 => ?_)
            · replace hf := ip c21 hf
              exact hk_20 Vm_20 hf _ _ hP hD hS _ (lv_sub hl [0, 1, 2] rfl)
            · replace hf := im c21 hf
              refine lv_iload_n hx hb dX10_findRing_24 rfl (lv_at hl 3 rfl) ?_
              obtain ⟨j45, ej45, hf⟩ := nme hf
              have J45 : ∀ (t0_45 : Int32), j45 t0_45 = some out → ∀ (H : Heap) (locs : List Loc), va_P D vwCl (w_M cs o h I Vm_20) H → va_D A (w_M cs o h I Vm_20) → va_S A s.heap H locs → ∀ ls : Array Slot, lv_has ls 7 [(0, .ref o), (1, .int x1), (2, .int x2_2), (3, .int x3_20)] → W p l e rm_M_findRing s m args below meth c H locs 0 0 Q (F0 m 45 ls [.int t0_45]) := by
                intro t0_45 hf H locs hP hD hS ls hl
                rw [ej45] at hf
                refine lv_istore (lv' := [(4, .int t0_45), (0, .ref o), (1, .int x1), (2, .int x2_2), (3, .int x3_20)]) hx hb dX10_findRing_45 hl (by decide) rfl (fun ls hl => ?_)
                refine lv_aload_n hx hb dX10_findRing_47 rfl (lv_at hl 1 rfl) ?_
                refine va_get (D := D) (ci := 10) (v := .ref (h 32)) (C := RX10) (T := TX10) (N := 38) hx hb hts in_X10 hown hK hP 0 rfl rfl 32 (by decide) g_77 (fun _ h9 => h9) rfl dX10_findRing_48 ?_
                refine lv_iload_n hx hb dX10_findRing_51 rfl (lv_at hl 4 rfl) ?_
                obtain ⟨c52, hf⟩ := gd hf
                refine va_iald hx hb hK hP 23 0 rfl rfl c52 dX10_findRing_52 ?_
                refine lv_bipush (v := (-9)) hx hb dX10_findRing_53 (by decide) ?_
                obtain ⟨j70, ej70, hf⟩ := nme hf
                have J70 : ∀ (t0_70 : Int32), j70 t0_70 = some out → ∀ (H : Heap) (locs : List Loc), va_P D vwCl (w_M cs o h I Vm_20) H → va_D A (w_M cs o h I Vm_20) → va_S A s.heap H locs → ∀ ls : Array Slot, lv_has ls 7 [(0, .ref o), (1, .int x1), (2, .int x2_2), (3, .int x3_20), (4, .int t0_45)] → W p l e rm_M_findRing s m args below meth c H locs 0 0 Q (F0 m 70 ls [.int t0_70]) := by
                  intro t0_70 hf H locs hP hD hS ls hl
                  rw [ej70] at hf
                  refine lv_istore (lv' := [(5, .int t0_70), (0, .ref o), (1, .int x1), (2, .int x2_2), (3, .int x3_20), (4, .int t0_45)]) hx hb dX10_findRing_70 hl (by decide) rfl (fun ls hl => ?_)
                  have L72 : ∀ (k_72 : Int32 → Option (Int32 × FI × FV)) (hk_72 : ∀ (x5_72 : Int32), k_72 x5_72 = some out → ∀ (H : Heap) (locs : List Loc), va_P D vwCl (w_M cs o h I Vm_20) H → va_D A (w_M cs o h I Vm_20) → va_S A s.heap H locs → ∀ ls : Array Slot, lv_has ls 7 [(0, .ref o), (1, .int x1), (2, .int x2_2), (3, .int x3_20), (5, .int x5_72)] → W p l e rm_M_findRing s m args below meth c H locs 0 0 Q (F0 m 101 ls [])), ∀ (n_72 : Nat) (x5_72 : Int32), M_findRing_L72 f I x1 t0_45 x3_20 x2_2 Vm_20 k_72 n_72 x5_72 = some out → ∀ (H : Heap) (locs : List Loc), va_P D vwCl (w_M cs o h I Vm_20) H → va_D A (w_M cs o h I Vm_20) → va_S A s.heap H locs → ∀ ls : Array Slot, lv_has ls 7 [(0, .ref o), (1, .int x1), (2, .int x2_2), (3, .int x3_20), (4, .int t0_45), (5, .int x5_72)] → W p l e rm_M_findRing s m args below meth c H locs 0 0 Q (F0 m 72 ls []) := by
                    intro k_72 hk_72 n_72
                    induction n_72 with
                    | zero => intro x5_72 hf; rw [M_findRing_L72] at hf; cases hf
                    | succ n_72 ih_72 =>
                      intro x5_72 hf H locs hP hD hS ls hl
                      rw [M_findRing_L72] at hf
                      refine lv_iload hx hb dX10_findRing_72 (lv_at hl 5 rfl) ?_
                      refine lv_aload_n hx hb dX10_findRing_74 rfl (lv_at hl 0 rfl) ?_
                      refine va_get (D := D) (ci := 10) (v := .int (I 9)) (C := RX10) (T := TX10) (N := 38) hx hb hts in_X10 hown hK hP 0 rfl rfl 9 (by decide) g_135 (fun _ h9 => h9) rfl dX10_findRing_75 ?_
                      refine lv_icmp_ge (tgt := 101) hx hb dX10_findRing_78 (by decide) (fun c78 => ?_) (fun c78 => ?_)
                      · replace hf := ip c78 hf
                        exact hk_72 x5_72 hf _ _ hP hD hS _ (lv_sub hl [0, 1, 2, 3, 5] rfl)
                      · replace hf := im c78 hf
                        refine lv_aload_n hx hb dX10_findRing_81 rfl (lv_at hl 0 rfl) ?_
                        refine lv_iload_n hx hb dX10_findRing_82 rfl (lv_at hl 1 rfl) ?_
                        refine lv_iload hx hb dX10_findRing_83 (lv_at hl 4 rfl) ?_
                        refine lv_iload hx hb dX10_findRing_85 (lv_at hl 5 rfl) ?_
                        refine lv_iload_n hx hb dX10_findRing_87 rfl (lv_at hl 3 rfl) ?_
                        refine lv_iload_n hx hb dX10_findRing_88 rfl (lv_at hl 2 rfl) ?_
                        obtain ⟨zr1, qr1, hf⟩ := bd1 hf
                        refine vp_callSi (va_Run.run (va_runV (As := [.int x1, .int t0_45, .int x5_72, .int x3_20, .int x2_2]) (rest := []) ⟨hx, hb, hml, hown, hts⟩ (c_M_mayGo l D cs o h I Vm_20 x1 t0_45 x5_72 x3_20 x2_2 f zr1 qr1) w_mayGo_186 ⟨xR_moved, va_recv hK hP (ci := 10) (q0 := 0) rfl rfl, fun U hU hW => ⟨rfl, by rw [hU]; exact hP, va_K.moved hW.alike hK⟩⟩ rfl rfl hl.1 rfl (lv_room (Nat.le_of_ble_eq_true rfl)) dX10_findRing_89 ⟨Nat.zero_le _, Nat.zero_le _⟩)) (fun r1 er1 => ?_)
                        rw [er1]
                        refine lv_if_ne (tgt := 101) hx hb dX10_findRing_92 (by decide) (fun c92 => ?_) (fun c92 => ?_)
                        · replace hf := im c92 hf
                          exact hk_72 x5_72 hf _ _ hP hD hS _ (lv_sub hl [0, 1, 2, 3, 5] rfl)
                        · replace hf := ip c92 hf
                          refine lv_iinc (v := (x5_72 + 1)) (lv' := [(5, .int (x5_72 + 1)), (0, .ref o), (1, .int x1), (2, .int x2_2), (3, .int x3_20), (4, .int t0_45)]) hx hb dX10_findRing_95 hl (k := 5) rfl (by rfl) (by decide) rfl (fun ls hl => ?_)
                          refine lv_goto (tgt := 72) hx hb dX10_findRing_98 (by decide) ?_
                          exact ih_72 (x5_72 + 1) hf _ _ hP hD hS _ (lv_sub hl [1, 2, 3, 4, 5, 0] rfl)
                  refine L72 _ (fun x5_72 hf H locs hP hD hS ls hl => ?_) f t0_70 hf _ _ hP hD hS _ (lv_sub hl [1, 2, 3, 4, 5, 0] rfl)
                  refine lv_iload hx hb dX10_findRing_101 (lv_at hl 4 rfl) ?_
                  refine lv_aload_n hx hb dX10_findRing_103 rfl (lv_at hl 0 rfl) ?_
                  refine va_get (D := D) (ci := 10) (v := .int (I 9)) (C := RX10) (T := TX10) (N := 38) hx hb hts in_X10 hown hK hP 0 rfl rfl 9 (by decide) g_135 (fun _ h9 => h9) rfl dX10_findRing_104 ?_
                  obtain ⟨j173, ej173, hf⟩ := nme hf
                  have J173 : ∀ (x3_173 : Int32) (Vm_173 : FV), j173 x3_173 Vm_173 = some out → ∀ (H : Heap) (locs : List Loc), va_P D vwCl (w_M cs o h I Vm_173) H → va_D A (w_M cs o h I Vm_173) → va_S A s.heap H locs → ∀ ls : Array Slot, lv_has ls 7 [(0, .ref o), (1, .int x1), (2, .int x2_2), (3, .int x3_173)] → W p l e rm_M_findRing s m args below meth c H locs 0 0 Q (F0 m 173 ls []) := by
                    intro x3_173 Vm_173 hf H locs hP hD hS ls hl
                    rw [ej173] at hf
                    refine lv_goto (tgt := 20) hx hb dX10_findRing_173 (by decide) ?_
                    exact ih_20 x3_173 Vm_173 hf _ _ hP hD hS _ (lv_sub hl [0, 1, 2, 3] rfl)
                  refine lv_icmp_ne (tgt := 116) hx hb dX10_findRing_107 (by decide) (fun c107 => ?_) (fun c107 => ?_)
                  · replace hf := im c107 hf
                    refine lv_aload_n hx hb dX10_findRing_116 rfl (lv_at hl 0 rfl) ?_
                    refine va_get (D := D) (ci := 10) (v := .ref (h 32)) (C := RX10) (T := TX10) (N := 38) hx hb hts in_X10 hown hK hP 0 rfl rfl 32 (by decide) g_77 (fun _ h9 => h9) rfl dX10_findRing_117 ?_
                    refine lv_iload_n hx hb dX10_findRing_120 rfl (lv_at hl 3 rfl) ?_
                    refine lv_iload hx hb dX10_findRing_121 (lv_at hl 4 rfl) ?_
                    obtain ⟨c123, hf⟩ := gd hf
                    refine va_iast hx hb hK hP hD hS 23 0 rfl rfl c123 dX10_findRing_123 (fun H locs hP hD hS => ?_)
                    have hP : va_P D vwCl (w_M cs o h I (va_up Vm_20 32 (upd (Vm_20 32) x3_20.toNatClampNeg x5_72))) H := hP
                    have hD : va_D A (w_M cs o h I (va_up Vm_20 32 (upd (Vm_20 32) x3_20.toNatClampNeg x5_72))) := hD
                    refine lv_iload_n hx hb dX10_findRing_124 rfl (lv_at hl 3 rfl) ?_
                    refine lv_iload_n hx hb dX10_findRing_125 rfl (lv_at hl 2 rfl) ?_
                    refine lv_iconst (v := 1) hx hb dX10_findRing_126 (by decide) ?_
                    refine lv_isub hx hb dX10_findRing_127 ?_
                    refine lv_icmp_ne (tgt := 162) hx hb dX10_findRing_128 (by decide) (fun c128 => ?_) (fun c128 => ?_)
                    · replace hf := im c128 hf
                      refine lv_iinc (v := (x3_20 + 1)) (lv' := [(3, .int (x3_20 + 1)), (0, .ref o), (1, .int x1), (2, .int x2_2), (5, .int x5_72)]) hx hb dX10_findRing_162 hl (k := 3) rfl (by rfl) (by decide) rfl (fun ls hl => ?_)
                      refine lv_aload_n hx hb dX10_findRing_165 rfl (lv_at hl 1 rfl) ?_
                      refine va_get (D := D) (ci := 10) (v := .ref (h 32)) (C := RX10) (T := TX10) (N := 38) hx hb hts in_X10 hown hK hP 0 rfl rfl 32 (by decide) g_77 (fun _ h9 => h9) rfl dX10_findRing_166 ?_
                      refine lv_iload_n hx hb dX10_findRing_169 rfl (lv_at hl 0 rfl) ?_
                      refine lv_bipush (v := (-9)) hx hb dX10_findRing_170 (by decide) ?_
                      obtain ⟨c172, hf⟩ := gd hf
                      refine va_iast hx hb hK hP hD hS 23 0 rfl rfl c172 dX10_findRing_172 (fun H locs hP hD hS => ?_)
                      have hP : va_P D vwCl (w_M cs o h I (va_up Vm_20 32 (upd (upd (Vm_20 32) x3_20.toNatClampNeg x5_72) (x3_20 + 1).toNatClampNeg (-9)))) H := hP
                      have hD : va_D A (w_M cs o h I (va_up Vm_20 32 (upd (upd (Vm_20 32) x3_20.toNatClampNeg x5_72) (x3_20 + 1).toNatClampNeg (-9)))) := hD
                      exact J173 (x3_20 + 1) (va_up Vm_20 32 (upd (upd (Vm_20 32) x3_20.toNatClampNeg x5_72) (x3_20 + 1).toNatClampNeg (-9))) hf _ _ hP hD hS _ (lv_sub hl [1, 2, 3, 0] rfl)
                    · replace hf := ip c128 hf
                      refine lv_iconst (v := 0) hx hb dX10_findRing_131 (by decide) ?_
                      refine lv_istore (lv' := [(6, .int 0), (0, .ref o), (1, .int x1), (2, .int x2_2), (3, .int x3_20), (5, .int x5_72)]) hx hb dX10_findRing_132 hl (by decide) rfl (fun ls hl => ?_)
                      have L134 : ∀ (k_134 : FV → Option (Int32 × FI × FV)) (hk_134 : ∀ (Vm_134 : FV), k_134 Vm_134 = some out → ∀ (H : Heap) (locs : List Loc), va_P D vwCl (w_M cs o h I Vm_134) H → va_D A (w_M cs o h I Vm_134) → va_S A s.heap H locs → ∀ ls : Array Slot, lv_has ls 7 [(2, .int x2_2)] → W p l e rm_M_findRing s m args below meth c H locs 0 0 Q (F0 m 160 ls [])), ∀ (n_134 : Nat) (x6_134 : Int32) (Vm_134 : FV), M_findRing_L134 f x2_2 k_134 n_134 x6_134 Vm_134 = some out → ∀ (H : Heap) (locs : List Loc), va_P D vwCl (w_M cs o h I Vm_134) H → va_D A (w_M cs o h I Vm_134) → va_S A s.heap H locs → ∀ ls : Array Slot, lv_has ls 7 [(0, .ref o), (2, .int x2_2), (6, .int x6_134)] → W p l e rm_M_findRing s m args below meth c H locs 0 0 Q (F0 m 134 ls []) := by
                        intro k_134 hk_134 n_134
                        induction n_134 with
                        | zero => intro x6_134 Vm_134 hf; rw [M_findRing_L134] at hf; cases hf
                        | succ n_134 ih_134 =>
                          intro x6_134 Vm_134 hf H locs hP hD hS ls hl
                          rw [M_findRing_L134] at hf
                          refine lv_iload hx hb dX10_findRing_134 (lv_at hl 2 rfl) ?_
                          refine lv_iload_n hx hb dX10_findRing_136 rfl (lv_at hl 1 rfl) ?_
                          refine lv_icmp_ge (tgt := 160) hx hb dX10_findRing_137 (by decide) (fun c137 => ?_) (fun c137 => ?_)
                          · replace hf := ip c137 hf
                            exact hk_134 Vm_134 hf _ _ hP hD hS _ (lv_sub hl [1] rfl)
                          · replace hf := im c137 hf
                            refine lv_aload_n hx hb dX10_findRing_140 rfl (lv_at hl 0 rfl) ?_
                            refine va_get (D := D) (ci := 10) (v := .ref (h 33)) (C := RX10) (T := TX10) (N := 38) hx hb hts in_X10 hown hK hP 0 rfl rfl 33 (by decide) g_80 (fun _ h9 => h9) rfl dX10_findRing_141 ?_
                            refine lv_iload hx hb dX10_findRing_144 (lv_at hl 2 rfl) ?_
                            refine lv_aload_n hx hb dX10_findRing_146 rfl (lv_at hl 0 rfl) ?_
                            refine va_get (D := D) (ci := 10) (v := .ref (h 32)) (C := RX10) (T := TX10) (N := 38) hx hb hts in_X10 hown hK hP 0 rfl rfl 32 (by decide) g_77 (fun _ h9 => h9) rfl dX10_findRing_147 ?_
                            refine lv_iload hx hb dX10_findRing_150 (lv_at hl 2 rfl) ?_
                            obtain ⟨c152, hf⟩ := gd hf
                            refine va_iald hx hb hK hP 23 0 rfl rfl c152 dX10_findRing_152 ?_
                            obtain ⟨c153, hf⟩ := gd hf
                            refine va_iast hx hb hK hP hD hS 24 0 rfl rfl c153 dX10_findRing_153 (fun H locs hP hD hS => ?_)
                            have hP : va_P D vwCl (w_M cs o h I (va_up Vm_134 33 (upd (Vm_134 33) x6_134.toNatClampNeg ((Vm_134 32) x6_134.toNatClampNeg)))) H := hP
                            have hD : va_D A (w_M cs o h I (va_up Vm_134 33 (upd (Vm_134 33) x6_134.toNatClampNeg ((Vm_134 32) x6_134.toNatClampNeg)))) := hD
                            refine lv_iinc (v := (x6_134 + 1)) (lv' := [(6, .int (x6_134 + 1)), (0, .ref o), (2, .int x2_2)]) hx hb dX10_findRing_154 hl (k := 2) rfl (by rfl) (by decide) rfl (fun ls hl => ?_)
                            refine lv_goto (tgt := 134) hx hb dX10_findRing_157 (by decide) ?_
                            exact ih_134 (x6_134 + 1) (va_up Vm_134 33 (upd (Vm_134 33) x6_134.toNatClampNeg ((Vm_134 32) x6_134.toNatClampNeg))) hf _ _ hP hD hS _ (lv_sub hl [1, 2, 0] rfl)
                      refine L134 _ (fun Vm_134 hf H locs hP hD hS ls hl => ?_) f 0 (va_up Vm_20 32 (upd (Vm_20 32) x3_20.toNatClampNeg x5_72)) hf _ _ hP hD hS _ (lv_sub hl [1, 3, 0] rfl)
                      refine lv_iload_n hx hb dX10_findRing_160 rfl (lv_at hl 0 rfl) ?_
                      exact hret x2_2 I Vm_134 _ _ 161 _ hf hP hD hS dX10_findRing_161
                  · replace hf := ip c107 hf
                    refine lv_iinc (v := (x3_20 + (-1))) (lv' := [(3, .int (x3_20 + (-1))), (0, .ref o), (1, .int x1), (2, .int x2_2), (5, .int x5_72)]) hx hb dX10_findRing_110 hl (k := 3) rfl (by rfl) (by decide) rfl (fun ls hl => ?_)
                    refine lv_goto (tgt := 173) hx hb dX10_findRing_113 (by decide) ?_
                    exact J173 (x3_20 + (-1)) Vm_20 hf _ _ hP hD hS _ (lv_sub hl [1, 2, 3, 0] rfl)
                refine lv_icmp_ne (tgt := 62) hx hb dX10_findRing_55 (by decide) (fun c55 => ?_) (fun c55 => ?_)
                · replace hf := im c55 hf
                  refine lv_aload_n hx hb dX10_findRing_62 rfl (lv_at hl 1 rfl) ?_
                  refine va_get (D := D) (ci := 10) (v := .ref (h 32)) (C := RX10) (T := TX10) (N := 38) hx hb hts in_X10 hown hK hP 0 rfl rfl 32 (by decide) g_77 (fun _ h9 => h9) rfl dX10_findRing_63 ?_
                  refine lv_iload_n hx hb dX10_findRing_66 rfl (lv_at hl 4 rfl) ?_
                  obtain ⟨c67, hf⟩ := gd hf
                  refine va_iald hx hb hK hP 23 0 rfl rfl c67 dX10_findRing_67 ?_
                  refine lv_iconst (v := 1) hx hb dX10_findRing_68 (by decide) ?_
                  refine lv_iadd hx hb dX10_findRing_69 ?_
                  exact J70 (((Vm_20 32) x3_20.toNatClampNeg) + 1) hf _ _ hP hD hS _ (lv_sub hl [1, 2, 3, 4, 0] rfl)
                · replace hf := ip c55 hf
                  refine lv_iconst (v := 0) hx hb dX10_findRing_58 (by decide) ?_
                  refine lv_goto (tgt := 70) hx hb dX10_findRing_59 (by decide) ?_
                  exact J70 0 hf _ _ hP hD hS _ (lv_sub hl [1, 2, 3, 4, 0] rfl)
              refine lv_if_ne (tgt := 32) hx hb dX10_findRing_25 (by decide) (fun c25 => ?_) (fun c25 => ?_)
              · replace hf := im c25 hf
                refine lv_aload_n hx hb dX10_findRing_32 rfl (lv_at hl 0 rfl) ?_
                refine va_get (D := D) (ci := 10) (v := .ref (h 10)) (C := RX10) (T := TX10) (N := 38) hx hb hts in_X10 hown hK hP 0 rfl rfl 10 (by decide) g_26 (fun _ h9 => h9) rfl dX10_findRing_33 ?_
                refine lv_aload_n hx hb dX10_findRing_36 rfl (lv_at hl 0 rfl) ?_
                refine va_get (D := D) (ci := 10) (v := .ref (h 32)) (C := RX10) (T := TX10) (N := 38) hx hb hts in_X10 hown hK hP 0 rfl rfl 32 (by decide) g_77 (fun _ h9 => h9) rfl dX10_findRing_37 ?_
                refine lv_iload_n hx hb dX10_findRing_40 rfl (lv_at hl 3 rfl) ?_
                refine lv_iconst (v := 1) hx hb dX10_findRing_41 (by decide) ?_
                refine lv_isub hx hb dX10_findRing_42 ?_
                obtain ⟨c43, hf⟩ := gd hf
                refine va_iald hx hb hK hP 23 0 rfl rfl c43 dX10_findRing_43 ?_
                obtain ⟨c44, hf⟩ := gd hf
                refine va_iald hx hb hK hP 6 0 rfl rfl c44 dX10_findRing_44 ?_
                exact J45 ((Vm_20 10) ((Vm_20 32) (x3_20 - 1).toNatClampNeg).toNatClampNeg) hf _ _ hP hD hS _ (lv_sub hl [0, 1, 2, 3] rfl)
              · replace hf := ip c25 hf
                refine lv_iload_n hx hb dX10_findRing_28 rfl (lv_at hl 1 rfl) ?_
                refine lv_goto (tgt := 45) hx hb dX10_findRing_29 (by decide) ?_
                exact J45 x1 hf _ _ hP hD hS _ (lv_sub hl [0, 1, 2, 3] rfl)
        refine L20 _ (fun Vm_20 hf H locs hP hD hS ls hl => ?_) f 0 (va_up Vm_2 32 (upd (Vm_2 32) (0 : Int32).toNatClampNeg (-9))) hf _ _ hP hD hS _ (lv_sub hl [1, 2, 3, 0] rfl)
        refine lv_iinc (v := (x2_2 + 1)) (lv' := [(2, .int (x2_2 + 1)), (0, .ref o), (1, .int x1)]) hx hb dX10_findRing_176 hl (k := 2) rfl (by rfl) (by decide) rfl (fun ls hl => ?_)
        refine lv_goto (tgt := 2) hx hb dX10_findRing_179 (by decide) ?_
        exact ih_2 (x2_2 + 1) Vm_20 hf _ _ hP hD hS _ (lv_sub hl [1, 2, 0] rfl)
  refine L2 _ (fun Vm_2 hf H locs hP hD hS ls hl => ?_) f 2 V hf _ _ hP hD hS _ (lv_sub hl [1, 2, 0] rfl)
  refine lv_bipush (v := (-9)) hx hb dX10_findRing_182 (by decide) ?_
  exact hret (-9) I Vm_2 _ _ 184 _ hf hP hD hS dX10_findRing_184
def M_ring (f : Nat) (x1 : Int32) (I : FI) (V : FV) : Option (Int32 × FI × FV) := ob1 (M_noOne f x1 (va_up I 0 0) V) (fun zr1 => (if zr1 = 0 then ob3 (M_findRing f x1 (va_up I 0 0) V) (fun zr2 I3 V4 => some (zr2, I3, V4)) else some ((-1), (va_up I 0 0), V)))
abbrev rm_M_ring : Room := { frames := 2, cells := 0, slots := 0, locals := 53 }
set_option maxHeartbeats 4000000 in
set_option maxRecDepth 100000 in
theorem c_M_ring (l : Launch) (D : va_G) (cs : Nat → ClassId) (o : Nat) (h : Nat → Nat) (sz : Nat) (I : FI) (V : FV) (x1 : Int32) (f : Nat) (out : Int32 × FI × FV) (hf : M_ring f x1 I V = some out) : Met l yX10_ring wsX10_ring rm_M_ring (va_Pc [.ref o, .int x1] (xP D cs (w_M cs o h I V) sz)) (va_Qi (fun r u => (r, u) = out) (fun (u : FI × FV) t => xA D cs (va_A (w_M cs o h I V) sz) (w_M cs o h u.1 u.2) t) (va_A (w_M cs o h I V) sz)) 0 0 (va_A (w_M cs o h I V) sz) := by
  refine Met.ofW (cc := cX10_ring) (maxL := 2) (ret := (some .int)) (by decide) rfl ?_
  intro p e s m args below meth c s₁ B hml hv
  obtain ⟨ha, hsz, hP, hK, hD0⟩ := hv
  have hx := B.exec
  have hb := B.bytes
  have hr := B.returns
  have hts := atoms_spec (ws := wsX10_ring) B.pre
  have hown : s.vm.findClass RX10 = some m.cls := findClass_of_methodNamed B.named
  have hlocks := B.notSynchronized
  have in_X10 : ∀ w ∈ u_ws RX10 TX10 38, w ∈ wsX10_ring := fun w h => List.mem_cons_of_mem _ (List.mem_append_right _ h)
  have g_92 := hts (.fieldLink RX10 92 "DaysLentModel" "thrown" "I") (by decide +kernel)
  have w_noOne_151 := cwV (R := rm_M_ring) (s := s) (args := args) (rm := rm_M_noOne) (mc := 0) (ms := 0) 1 hts gX10_ring_X10_noOne rfl rfl rfl (by decide +kernel) ⟨Nat.le_of_ble_eq_true rfl, Nat.le_of_ble_eq_true rfl⟩
  have w_findRing_190 := cwV (R := rm_M_ring) (s := s) (args := args) (rm := rm_M_findRing) (mc := 0) (ms := 0) 1 hts gX10_ring_X10_findRing rfl rfl rfl (by decide +kernel) ⟨Nat.le_of_ble_eq_true rfl, Nat.le_of_ble_eq_true rfl⟩
  subst hsz
  have hD := hD0.self (sz := s.heap.size)
  generalize hAe : va_A (w_M cs o h I V) s.heap.size = A at hD ⊢
  have hA : ∀ q : Nat, s.heap.size ≤ q → A q := fun q h => by rw [← hAe]; exact Or.inr h
  have hS : va_S A s.heap s.heap [] := va_S.rf
  have hl := lv_entry ([.ref o, .int x1]) (n := 2) (Nat.le_of_ble_eq_true rfl)
  rw [show entryFrame m args 2 = entryFrame m ([.ref o, .int x1] : List Value).toArray 2 from by rw [ha], lg_entry_eq]
  generalize (lg_sl ([.ref o, .int x1]) ++ List.replicate (2 - (lg_sl ([.ref o, .int x1])).length) Slot.unset).toArray = ls at hl ⊢
  have hl : lv_has ls 2 [(0, .ref o), (1, .int x1)] := hl
  generalize hQ : MQ below (va_Qi (fun r u => (r, u) = out) (fun (u : FI × FV) t => xA D cs A (w_M cs o h u.1 u.2) t) A) args s 0 0 A = Q
  show W p l e rm_M_ring s m args below meth c s.heap [] 0 0 Q (F0 m 0 ls [])
  have hret : ∀ (v : Int32) (Im9 : FI) (Vm9 : FV) (H : Heap) (locs : List Loc) (pc : Nat) (ls : Array Slot), some (v, Im9, Vm9) = some out → va_P D vwCl (w_M cs o h Im9 Vm9) H → va_D A (w_M cs o h Im9 Vm9) → va_S A s.heap H locs → decode cX10_ring pc = .ok (.ireturn, 1) → W p l e rm_M_ring s m args below meth c H locs 0 0 Q (F0 m pc ls [.int v]) := by
    intro v Im9 Vm9 H locs pc ls hf hP hD hS hd
    rw [← hQ]
    exact W.iret (v := v) hx hb hr (fun t ht hW => ⟨⟨v, (Im9, Vm9), rfl, Option.some.inj hf, by show va_P D vwCl (w_M cs o h Im9 Vm9) t.heap; rw [ht]; exact hP, va_K.moved hW.alike hK, hD⟩, hS.F ht⟩) hS.2.2 hd
  unfold M_ring at hf
  refine lv_aload_n hx hb dX10_ring_0 rfl (lv_at hl 0 rfl) ?_
  refine lv_iconst (v := 0) hx hb dX10_ring_1 (by decide) ?_
  refine va_put (D := D) (ci := 10) (v := .int 0) (ty := .int) (C := RX10) (T := TX10) (N := 38) hx hb hts in_X10 tyX10 tyX10_ok nmX10 hown hK hP hD hS 0 rfl rfl 0 (by decide) g_92 (fun _ h9 => h9) rfl (by decide +kernel) rfl rfl (Nat.le_of_ble_eq_true rfl) dX10_ring_2 (fun H locs hP hD hS => ?_)
  have hP : va_P D vwCl (w_M cs o h (va_up I 0 0) V) H := hP
  have hD : va_D A (w_M cs o h (va_up I 0 0) V) := hD
  refine lv_aload_n hx hb dX10_ring_5 rfl (lv_at hl 0 rfl) ?_
  refine lv_iload_n hx hb dX10_ring_6 rfl (lv_at hl 1 rfl) ?_
  obtain ⟨zr1, qr1, hf⟩ := bd1 hf
  refine vp_callSi (va_Run.run (va_runV (As := [.int x1]) (rest := []) ⟨hx, hb, hml, hown, hts⟩ (c_M_noOne l D cs o h (va_up I 0 0) V x1 f zr1 qr1) w_noOne_151 ⟨xR_moved, va_recv hK hP (ci := 10) (q0 := 0) rfl rfl, fun U hU hW => ⟨rfl, by rw [hU]; exact hP, va_K.moved hW.alike hK⟩⟩ rfl rfl hl.1 rfl (lv_room (Nat.le_of_ble_eq_true rfl)) dX10_ring_7 ⟨Nat.zero_le _, Nat.zero_le _⟩)) (fun r1 er1 => ?_)
  rw [er1]
  refine lv_if_eq (tgt := 17) hx hb dX10_ring_10 (by decide) (fun c10 => ?_) (fun c10 => ?_)
  · replace hf := ip c10 hf
    refine lv_aload_n hx hb dX10_ring_17 rfl (lv_at hl 0 rfl) ?_
    refine lv_iload_n hx hb dX10_ring_18 rfl (lv_at hl 1 rfl) ?_
    obtain ⟨zr2, I3, V4, qr2, hf⟩ := bd3 hf
    have hFc := xfree hD hS hA
    refine va_calli (va_runV (As := [.int x1]) (rest := []) ⟨hx, hb, hml, hown, hts⟩ (c_M_findRing l D cs o h _ (va_up I 0 0) V x1 f _ qr2) w_findRing_190 ⟨xP_moved, va_recv hK hP (ci := 10) (q0 := 0) rfl rfl, fun U hU hW => ⟨rfl, by rw [hU], by rw [hU]; exact hP, va_K.moved hW.alike hK, hD.weaken (fun _ _ _ _ => trivial)⟩⟩ rfl rfl hl.1 rfl (lv_room (Nat.le_of_ble_eq_true rfl)) dX10_ring_19 ⟨Nat.zero_le _, Nat.zero_le _⟩) hS (fun q _ h9 => hFc q h9) hFc (fun r2 u t H1 locs ht hvm hw hB hz1 hk1 hS => ?_)
    have er2 := congrArg Prod.fst hw
    have eu := congrArg Prod.snd hw
    dsimp only at er2 eu
    rw [er2]
    rw [eu] at hB
    obtain ⟨hP1, hK1, hD1⟩ := hB
    have hP : va_P D vwCl (w_M cs o h I3 V4) H1 := by rw [← ht]; exact hP1
    have hD : va_D A (w_M cs o h I3 V4) := hD1.weaken (fun _ q _ h9 => hFc q.1 h9)
    exact hret zr2 I3 V4 _ _ 22 _ hf hP hD hS dX10_ring_22
  · replace hf := im c10 hf
    refine lv_iconst (v := (-1)) hx hb dX10_ring_13 (by decide) ?_
    refine lv_goto (tgt := 22) hx hb dX10_ring_14 (by decide) ?_
    exact hret (-1) (va_up I 0 0) V _ _ 22 _ hf hP hD hS dX10_ring_22
def M_room_L38 {ρ : Type} (f : Nat) (zr2 : Int32) (V4 : FV) (k_38 : Int32 → Option ρ) : Nat → Int32 → Int32 → Option ρ
  | 0, _, _ => none
  | n_38 + 1, x3_38, x4_38 => (if zr2 ≤ x4_38 then (k_38 x3_38) else if x4_38 < 0 ∨ 7 ≤ x4_38.toNatClampNeg then none else (if ((V4 33) x4_38.toNatClampNeg) < 0 ∨ 12 ≤ ((V4 33) x4_38.toNatClampNeg).toNatClampNeg then none else ((nm (fun (t0_76 : Int32) => (M_room_L38 f zr2 V4 k_38 n_38 t0_76 (x4_38 + 1))) (fun j76 => (if x3_38 ≤ ((V4 12) ((V4 33) x4_38.toNatClampNeg).toNatClampNeg) then (j76 x3_38) else if x4_38 < 0 ∨ 7 ≤ x4_38.toNatClampNeg then none else (if ((V4 33) x4_38.toNatClampNeg) < 0 ∨ 12 ≤ ((V4 33) x4_38.toNatClampNeg).toNatClampNeg then none else ((j76 ((V4 12) ((V4 33) x4_38.toNatClampNeg).toNatClampNeg))))))))))
def M_room_L38 {ρ : Type} (f : Nat) (zr2 : Int32) (V4 : FV) (k_38 : Int32 → Option ρ) : Nat → Int32 → Int32 → Option ρ
  | 0, _, _ => none
  | n_38 + 1, x3_38, x4_38 => (if zr2 ≤ x4_38 then (k_38 x3_38) else if x4_38 < 0 ∨ 7 ≤ x4_38.toNatClampNeg then none else (if ((V4 33) x4_38.toNatClampNeg) < 0 ∨ 12 ≤ ((V4 33) x4_38.toNatClampNeg).toNatClampNeg then none else ((nm (fun (t0_76 : Int32) => (M_room_L38 f zr2 V4 k_38 n_38 t0_76 (x4_38 + 1))) (fun j76 => (if x3_38 ≤ ((V4 12) ((V4 33) x4_38.toNatClampNeg).toNatClampNeg) then (j76 x3_38) else if x4_38 < 0 ∨ 7 ≤ x4_38.toNatClampNeg then none else (if ((V4 33) x4_38.toNatClampNeg) < 0 ∨ 12 ≤ ((V4 33) x4_38.toNatClampNeg).toNatClampNeg then none else ((j76 ((V4 12) ((V4 33) x4_38.toNatClampNeg).toNatClampNeg))))))))))
def M_room (f : Nat) (x1 : Int32) (I : FI) (V : FV) : Option (Int32 × FI × FV) := ob1 (M_noOne f x1 (va_up I 0 0) V) (fun zr1 => (if zr1 = 0 then ob3 (M_findRing f x1 (va_up I 0 0) V) (fun zr2 I3 V4 => (nm (fun (t0_34 : Int32) => (M_room_L38 f zr2 V4 (fun (x3_38 : Int32) => some (x3_38, I3, V4)) f t0_34 0)) (fun j34 => (if zr2 = (-9) then (j34 (-9)) else (j34 99999))))) else some ((-1), (va_up I 0 0), V)))
abbrev rm_M_room : Room := { frames := 2, cells := 0, slots := 0, locals := 53 }
set_option maxHeartbeats 4000000 in
set_option maxRecDepth 100000 in
theorem c_M_room (l : Launch) (D : va_G) (cs : Nat → ClassId) (o : Nat) (h : Nat → Nat) (sz : Nat) (I : FI) (V : FV) (x1 : Int32) (f : Nat) (out : Int32 × FI × FV) (hf : M_room f x1 I V = some out) : Met l yX10_room wsX10_room rm_M_room (va_Pc [.ref o, .int x1] (xP D cs (w_M cs o h I V) sz)) (va_Qi (fun r u => (r, u) = out) (fun (u : FI × FV) t => xA D cs (va_A (w_M cs o h I V) sz) (w_M cs o h u.1 u.2) t) (va_A (w_M cs o h I V) sz)) 0 0 (va_A (w_M cs o h I V) sz) := by
  refine Met.ofW (cc := cX10_room) (maxL := 5) (ret := (some .int)) (by decide) rfl ?_
  intro p e s m args below meth c s₁ B hml hv
  obtain ⟨ha, hsz, hP, hK, hD0⟩ := hv
  have hx := B.exec
  have hb := B.bytes
  have hr := B.returns
  have hts := atoms_spec (ws := wsX10_room) B.pre
  have hown : s.vm.findClass RX10 = some m.cls := findClass_of_methodNamed B.named
  have hlocks := B.notSynchronized
  have in_X10 : ∀ w ∈ u_ws RX10 TX10 38, w ∈ wsX10_room := fun w h => List.mem_cons_of_mem _ (List.mem_append_right _ h)
  have g_92 := hts (.fieldLink RX10 92 "DaysLentModel" "thrown" "I") (by decide +kernel)
  have w_noOne_151 := cwV (R := rm_M_room) (s := s) (args := args) (rm := rm_M_noOne) (mc := 0) (ms := 0) 1 hts gX10_room_X10_noOne rfl rfl rfl (by decide +kernel) ⟨Nat.le_of_ble_eq_true rfl, Nat.le_of_ble_eq_true rfl⟩
  have w_findRing_190 := cwV (R := rm_M_room) (s := s) (args := args) (rm := rm_M_findRing) (mc := 0) (ms := 0) 1 hts gX10_room_X10_findRing rfl rfl rfl (by decide +kernel) ⟨Nat.le_of_ble_eq_true rfl, Nat.le_of_ble_eq_true rfl⟩
  have k_193 := hts (.constant RX10 193 (99999)) (by decide +kernel)
  have g_32 := hts (.fieldLink RX10 32 "DaysLentModel" "much" "[I") (by decide +kernel)
  have g_80 := hts (.fieldLink RX10 80 "DaysLentModel" "ringOf" "[I") (by decide +kernel)
  subst hsz
  have hD := hD0.self (sz := s.heap.size)
  generalize hAe : va_A (w_M cs o h I V) s.heap.size = A at hD ⊢
  have hA : ∀ q : Nat, s.heap.size ≤ q → A q := fun q h => by rw [← hAe]; exact Or.inr h
  have hS : va_S A s.heap s.heap [] := va_S.rf
  have hl := lv_entry ([.ref o, .int x1]) (n := 5) (Nat.le_of_ble_eq_true rfl)
  rw [show entryFrame m args 5 = entryFrame m ([.ref o, .int x1] : List Value).toArray 5 from by rw [ha], lg_entry_eq]
  generalize (lg_sl ([.ref o, .int x1]) ++ List.replicate (5 - (lg_sl ([.ref o, .int x1])).length) Slot.unset).toArray = ls at hl ⊢
  have hl : lv_has ls 5 [(0, .ref o), (1, .int x1)] := hl
  generalize hQ : MQ below (va_Qi (fun r u => (r, u) = out) (fun (u : FI × FV) t => xA D cs A (w_M cs o h u.1 u.2) t) A) args s 0 0 A = Q
  show W p l e rm_M_room s m args below meth c s.heap [] 0 0 Q (F0 m 0 ls [])
  have hret : ∀ (v : Int32) (Im9 : FI) (Vm9 : FV) (H : Heap) (locs : List Loc) (pc : Nat) (ls : Array Slot), some (v, Im9, Vm9) = some out → va_P D vwCl (w_M cs o h Im9 Vm9) H → va_D A (w_M cs o h Im9 Vm9) → va_S A s.heap H locs → decode cX10_room pc = .ok (.ireturn, 1) → W p l e rm_M_room s m args below meth c H locs 0 0 Q (F0 m pc ls [.int v]) := by
    intro v Im9 Vm9 H locs pc ls hf hP hD hS hd
    rw [← hQ]
    exact W.iret (v := v) hx hb hr (fun t ht hW => ⟨⟨v, (Im9, Vm9), rfl, Option.some.inj hf, by show va_P D vwCl (w_M cs o h Im9 Vm9) t.heap; rw [ht]; exact hP, va_K.moved hW.alike hK, hD⟩, hS.F ht⟩) hS.2.2 hd
  unfold M_room at hf
  refine lv_aload_n hx hb dX10_room_0 rfl (lv_at hl 0 rfl) ?_
  refine lv_iconst (v := 0) hx hb dX10_room_1 (by decide) ?_
  refine va_put (D := D) (ci := 10) (v := .int 0) (ty := .int) (C := RX10) (T := TX10) (N := 38) hx hb hts in_X10 tyX10 tyX10_ok nmX10 hown hK hP hD hS 0 rfl rfl 0 (by decide) g_92 (fun _ h9 => h9) rfl (by decide +kernel) rfl rfl (Nat.le_of_ble_eq_true rfl) dX10_room_2 (fun H locs hP hD hS => ?_)
  have hP : va_P D vwCl (w_M cs o h (va_up I 0 0) V) H := hP
  have hD : va_D A (w_M cs o h (va_up I 0 0) V) := hD
  refine lv_aload_n hx hb dX10_room_5 rfl (lv_at hl 0 rfl) ?_
  refine lv_iload_n hx hb dX10_room_6 rfl (lv_at hl 1 rfl) ?_
  obtain ⟨zr1, qr1, hf⟩ := bd1 hf
  refine vp_callSi (va_Run.run (va_runV (As := [.int x1]) (rest := []) ⟨hx, hb, hml, hown, hts⟩ (c_M_noOne l D cs o h (va_up I 0 0) V x1 f zr1 qr1) w_noOne_151 ⟨xR_moved, va_recv hK hP (ci := 10) (q0 := 0) rfl rfl, fun U hU hW => ⟨rfl, by rw [hU]; exact hP, va_K.moved hW.alike hK⟩⟩ rfl rfl hl.1 rfl (lv_room (Nat.le_of_ble_eq_true rfl)) dX10_room_7 ⟨Nat.zero_le _, Nat.zero_le _⟩)) (fun r1 er1 => ?_)
  rw [er1]
  refine lv_if_eq (tgt := 15) hx hb dX10_room_10 (by decide) (fun c10 => ?_) (fun c10 => ?_)
  · replace hf := ip c10 hf
    refine lv_aload_n hx hb dX10_room_15 rfl (lv_at hl 0 rfl) ?_
    refine lv_iload_n hx hb dX10_room_16 rfl (lv_at hl 1 rfl) ?_
    obtain ⟨zr2, I3, V4, qr2, hf⟩ := bd3 hf
    have hFc := xfree hD hS hA
    refine va_calli (va_runV (As := [.int x1]) (rest := []) ⟨hx, hb, hml, hown, hts⟩ (c_M_findRing l D cs o h _ (va_up I 0 0) V x1 f _ qr2) w_findRing_190 ⟨xP_moved, va_recv hK hP (ci := 10) (q0 := 0) rfl rfl, fun U hU hW => ⟨rfl, by rw [hU], by rw [hU]; exact hP, va_K.moved hW.alike hK, hD.weaken (fun _ _ _ _ => trivial)⟩⟩ rfl rfl hl.1 rfl (lv_room (Nat.le_of_ble_eq_true rfl)) dX10_room_17 ⟨Nat.zero_le _, Nat.zero_le _⟩) hS (fun q _ h9 => hFc q h9) hFc (fun r2 u t H1 locs ht hvm hw hB hz1 hk1 hS => ?_)
    have er2 := congrArg Prod.fst hw
    have eu := congrArg Prod.snd hw
    dsimp only at er2 eu
    rw [er2]
    rw [eu] at hB
    obtain ⟨hP1, hK1, hD1⟩ := hB
    have hP : va_P D vwCl (w_M cs o h I3 V4) H1 := by rw [← ht]; exact hP1
    have hD : va_D A (w_M cs o h I3 V4) := hD1.weaken (fun _ q _ h9 => hFc q.1 h9)
    refine lv_istore_n (lv' := [(2, .int zr2), (0, .ref o), (1, .int x1)]) hx hb dX10_room_20 rfl hl (by decide) rfl (fun ls hl => ?_)
    refine lv_iload_n hx hb dX10_room_21 rfl (lv_at hl 0 rfl) ?_
    refine lv_bipush (v := (-9)) hx hb dX10_room_22 (by decide) ?_
    obtain ⟨j34, ej34, hf⟩ := nme hf
    have J34 : ∀ (t0_34 : Int32), j34 t0_34 = some out → ∀ (H : Heap) (locs : List Loc), va_P D vwCl (w_M cs o h I3 V4) H → va_D A (w_M cs o h I3 V4) → va_S A s.heap H locs → ∀ ls : Array Slot, lv_has ls 5 [(0, .ref o), (2, .int zr2)] → W p l e rm_M_room s m args below meth c H locs 0 0 Q (F0 m 34 ls [.int t0_34]) := by
      intro t0_34 hf H locs hP hD hS ls hl
      rw [ej34] at hf
      refine lv_istore_n (lv' := [(3, .int t0_34), (0, .ref o), (2, .int zr2)]) hx hb dX10_room_34 rfl hl (by decide) rfl (fun ls hl => ?_)
      refine lv_iconst (v := 0) hx hb dX10_room_35 (by decide) ?_
      refine lv_istore (lv' := [(4, .int 0), (3, .int t0_34), (0, .ref o), (2, .int zr2)]) hx hb dX10_room_36 hl (by decide) rfl (fun ls hl => ?_)
      have L38 : ∀ (k_38 : Int32 → Option (Int32 × FI × FV)) (hk_38 : ∀ (x3_38 : Int32), k_38 x3_38 = some out → ∀ (H : Heap) (locs : List Loc), va_P D vwCl (w_M cs o h I3 V4) H → va_D A (w_M cs o h I3 V4) → va_S A s.heap H locs → ∀ ls : Array Slot, lv_has ls 5 [(3, .int x3_38)] → W p l e rm_M_room s m args below meth c H locs 0 0 Q (F0 m 83 ls [])), ∀ (n_38 : Nat) (x3_38 : Int32) (x4_38 : Int32), M_room_L38 f zr2 V4 k_38 n_38 x3_38 x4_38 = some out → ∀ (H : Heap) (locs : List Loc), va_P D vwCl (w_M cs o h I3 V4) H → va_D A (w_M cs o h I3 V4) → va_S A s.heap H locs → ∀ ls : Array Slot, lv_has ls 5 [(0, .ref o), (2, .int zr2), (3, .int x3_38), (4, .int x4_38)] → W p l e rm_M_room s m args below meth c H locs 0 0 Q (F0 m 38 ls []) := by
        intro k_38 hk_38 n_38
        induction n_38 with
        | zero => intro x3_38 x4_38 hf; rw [M_room_L38] at hf; cases hf
        | succ n_38 ih_38 =>
          intro x3_38 x4_38 hf H locs hP hD hS ls hl
          rw [M_room_L38] at hf
          refine lv_iload hx hb dX10_room_38 (lv_at hl 3 rfl) ?_
          refine lv_iload_n hx hb dX10_room_40 rfl (lv_at hl 1 rfl) ?_
          refine lv_icmp_ge (tgt := 83) hx hb dX10_room_41 (by decide) (fun c41 => ?_) (fun c41 => ?_)
          · replace hf := ip c41 hf
            exact hk_38 x3_38 hf _ _ hP hD hS _ (lv_sub hl [2] rfl)
          · replace hf := im c41 hf
            refine lv_aload_n hx hb dX10_room_44 rfl (lv_at hl 0 rfl) ?_
            refine va_get (D := D) (ci := 10) (v := .ref (h 12)) (C := RX10) (T := TX10) (N := 38) hx hb hts in_X10 hown hK hP 0 rfl rfl 12 (by decide) g_32 (fun _ h9 => h9) rfl dX10_room_45 ?_
            refine lv_aload_n hx hb dX10_room_48 rfl (lv_at hl 0 rfl) ?_
            refine va_get (D := D) (ci := 10) (v := .ref (h 33)) (C := RX10) (T := TX10) (N := 38) hx hb hts in_X10 hown hK hP 0 rfl rfl 33 (by decide) g_80 (fun _ h9 => h9) rfl dX10_room_49 ?_
            refine lv_iload hx hb dX10_room_52 (lv_at hl 3 rfl) ?_
            obtain ⟨c54, hf⟩ := gd hf
            refine va_iald hx hb hK hP 24 0 rfl rfl c54 dX10_room_54 ?_
            obtain ⟨c55, hf⟩ := gd hf
            refine va_iald hx hb hK hP 8 0 rfl rfl c55 dX10_room_55 ?_
            refine lv_iload_n hx hb dX10_room_56 rfl (lv_at hl 2 rfl) ?_
            obtain ⟨j76, ej76, hf⟩ := nme hf
            have J76 : ∀ (t0_76 : Int32), j76 t0_76 = some out → ∀ (H : Heap) (locs : List Loc), va_P D vwCl (w_M cs o h I3 V4) H → va_D A (w_M cs o h I3 V4) → va_S A s.heap H locs → ∀ ls : Array Slot, lv_has ls 5 [(0, .ref o), (2, .int zr2), (4, .int x4_38)] → W p l e rm_M_room s m args below meth c H locs 0 0 Q (F0 m 76 ls [.int t0_76]) := by
              intro t0_76 hf H locs hP hD hS ls hl
              rw [ej76] at hf
              refine lv_istore_n (lv' := [(3, .int t0_76), (0, .ref o), (2, .int zr2), (4, .int x4_38)]) hx hb dX10_room_76 rfl hl (by decide) rfl (fun ls hl => ?_)
              refine lv_iinc (v := (x4_38 + 1)) (lv' := [(4, .int (x4_38 + 1)), (3, .int t0_76), (0, .ref o), (2, .int zr2)]) hx hb dX10_room_77 hl (k := 3) rfl (by rfl) (by decide) rfl (fun ls hl => ?_)
              refine lv_goto (tgt := 38) hx hb dX10_room_80 (by decide) ?_
              exact ih_38 t0_76 (x4_38 + 1) hf _ _ hP hD hS _ (lv_sub hl [2, 3, 1, 0] rfl)
            refine lv_icmp_ge (tgt := 75) hx hb dX10_room_57 (by decide) (fun c57 => ?_) (fun c57 => ?_)
            · replace hf := ip c57 hf
              refine lv_iload_n hx hb dX10_room_75 rfl (lv_at hl 2 rfl) ?_
              exact J76 x3_38 hf _ _ hP hD hS _ (lv_sub hl [0, 1, 3] rfl)
            · replace hf := im c57 hf
              refine lv_aload_n hx hb dX10_room_60 rfl (lv_at hl 0 rfl) ?_
              refine va_get (D := D) (ci := 10) (v := .ref (h 12)) (C := RX10) (T := TX10) (N := 38) hx hb hts in_X10 hown hK hP 0 rfl rfl 12 (by decide) g_32 (fun _ h9 => h9) rfl dX10_room_61 ?_
              refine lv_aload_n hx hb dX10_room_64 rfl (lv_at hl 0 rfl) ?_
              refine va_get (D := D) (ci := 10) (v := .ref (h 33)) (C := RX10) (T := TX10) (N := 38) hx hb hts in_X10 hown hK hP 0 rfl rfl 33 (by decide) g_80 (fun _ h9 => h9) rfl dX10_room_65 ?_
              refine lv_iload hx hb dX10_room_68 (lv_at hl 3 rfl) ?_
              obtain ⟨c70, hf⟩ := gd hf
              refine va_iald hx hb hK hP 24 0 rfl rfl c70 dX10_room_70 ?_
              obtain ⟨c71, hf⟩ := gd hf
              refine va_iald hx hb hK hP 8 0 rfl rfl c71 dX10_room_71 ?_
              refine lv_goto (tgt := 76) hx hb dX10_room_72 (by decide) ?_
              exact J76 ((V4 12) ((V4 33) x4_38.toNatClampNeg).toNatClampNeg) hf _ _ hP hD hS _ (lv_sub hl [0, 1, 3] rfl)
      refine L38 _ (fun x3_38 hf H locs hP hD hS ls hl => ?_) f t0_34 0 hf _ _ hP hD hS _ (lv_sub hl [2, 3, 1, 0] rfl)
      refine lv_iload_n hx hb dX10_room_83 rfl (lv_at hl 0 rfl) ?_
      exact hret x3_38 I3 V4 _ _ 84 _ hf hP hD hS dX10_room_84
    refine lv_icmp_ne (tgt := 32) hx hb dX10_room_24 (by decide) (fun c24 => ?_) (fun c24 => ?_)
    · replace hf := im c24 hf
      refine lv_ldc (v := 99999) hx hb hown k_193 dX10_room_32 ?_
      exact J34 99999 hf _ _ hP hD hS _ (lv_sub hl [1, 0] rfl)
    · replace hf := ip c24 hf
      refine lv_bipush (v := (-9)) hx hb dX10_room_27 (by decide) ?_
      refine lv_goto (tgt := 34) hx hb dX10_room_29 (by decide) ?_
      exact J34 (-9) hf _ _ hP hD hS _ (lv_sub hl [1, 0] rfl)
  · replace hf := im c10 hf
    refine lv_iconst (v := (-1)) hx hb dX10_room_13 (by decide) ?_
    exact hret (-1) (va_up I 0 0) V _ _ 14 _ hf hP hD hS dX10_room_14
def M_mostOf (f : Nat) (x1 : Int32) (x2 : Int32) (x3 : Int32) (I : FI) (V : FV) : Option (Int32) := (nm (fun (t0_32 : Int32) => (if x3 ≤ t0_32 then some x3 else some t0_32)) (fun j32 => nm (fun (u_22 : Unit) => (j32 0)) (fun j22 => (if (I 4) ≤ x1 then (j22 ()) else (if x1 = x2 then (j22 ()) else if x1 < 0 ∨ 6 ≤ x1.toNatClampNeg then none else ((if ((V 7) x1.toNatClampNeg) = 0 then if x1 < 0 ∨ 6 ≤ x1.toNatClampNeg then none else ((j32 ((V 5) x1.toNatClampNeg))) else (j22 ()))))))))
abbrev rm_M_mostOf : Room := { frames := 0, cells := 0, slots := 0, locals := 0 }
set_option maxHeartbeats 4000000 in
set_option maxRecDepth 100000 in
theorem c_M_mostOf (l : Launch) (D : va_G) (cs : Nat → ClassId) (o : Nat) (h : Nat → Nat) (I : FI) (V : FV) (x1 : Int32) (x2 : Int32) (x3 : Int32) (f : Nat) (out : Int32) (hf : M_mostOf f x1 x2 x3 I V = some out) : Met l yX10_mostOf wsX10_mostOf rm_M_mostOf (va_Pc [.ref o, .int x1, .int x2, .int x3] (xR D cs (w_M cs o h I V))) (vp_Si (fun r => r = out)) 0 0 (fun _ => False) := by
  refine Met.ofW (cc := cX10_mostOf) (maxL := 5) (ret := (some .int)) (by decide) rfl ?_
  intro p e s m args below meth c s₁ B hml hv
  obtain ⟨ha, hP, hK⟩ := hv
  have hx := B.exec
  have hb := B.bytes
  have hr := B.returns
  have hts := atoms_spec (ws := wsX10_mostOf) B.pre
  have hown : s.vm.findClass RX10 = some m.cls := findClass_of_methodNamed B.named
  have hlocks := B.notSynchronized
  have in_X10 : ∀ w ∈ u_ws RX10 TX10 38, w ∈ wsX10_mostOf := fun w h => List.mem_cons_of_mem _ (List.mem_append_right _ h)
  have g_96 := hts (.fieldLink RX10 96 "DaysLentModel" "people" "I") (by decide +kernel)
  have g_19 := hts (.fieldLink RX10 19 "DaysLentModel" "dead" "[Z") (by decide +kernel)
  have g_13 := hts (.fieldLink RX10 13 "DaysLentModel" "mornings" "[I") (by decide +kernel)
  have hl := lv_entry ([.ref o, .int x1, .int x2, .int x3]) (n := 5) (Nat.le_of_ble_eq_true rfl)
  rw [show entryFrame m args 5 = entryFrame m ([.ref o, .int x1, .int x2, .int x3] : List Value).toArray 5 from by rw [ha], lg_entry_eq]
  generalize (lg_sl ([.ref o, .int x1, .int x2, .int x3]) ++ List.replicate (5 - (lg_sl ([.ref o, .int x1, .int x2, .int x3])).length) Slot.unset).toArray = ls at hl ⊢
  have hl : lv_has ls 5 [(0, .ref o), (1, .int x1), (2, .int x2), (3, .int x3)] := hl
  generalize hQ : MQ below (vp_Si (fun r => r = out)) args s 0 0 (fun _ => False) = Q
  show W p l e rm_M_mostOf s m args below meth c s.heap [] 0 0 Q (F0 m 0 ls [])
  have hret : ∀ (v : Int32) (pc : Nat) (ls : Array Slot), some v = some out → decode cX10_mostOf pc = .ok (.ireturn, 1) → W p l e rm_M_mostOf s m args below meth c s.heap [] 0 0 Q (F0 m pc ls [.int v]) := by
    intro v pc ls hf hd
    rw [← hQ]
    exact W.iret (v := v) hx hb hr (fun t ht hW => ⟨v, rfl, Option.some.inj hf, ht⟩) (fun q h => by cases h) hd
  unfold M_mostOf at hf
  refine lv_iload_n hx hb dX10_mostOf_0 rfl (lv_at hl 1 rfl) ?_
  refine lv_aload_n hx hb dX10_mostOf_1 rfl (lv_at hl 0 rfl) ?_
  refine va_get (D := D) (ci := 10) (v := .int (I 4)) (C := RX10) (T := TX10) (N := 38) hx hb hts in_X10 hown hK hP 0 rfl rfl 4 (by decide) g_96 (fun _ h9 => h9) rfl dX10_mostOf_2 ?_
  obtain ⟨j32, ej32, hf⟩ := nme hf
  have J32 : ∀ (t0_32 : Int32), j32 t0_32 = some out → ∀ ls : Array Slot, lv_has ls 5 [(3, .int x3)] → W p l e rm_M_mostOf s m args below meth c s.heap [] 0 0 Q (F0 m 32 ls [.int t0_32]) := by
    intro t0_32 hf ls hl
    rw [ej32] at hf
    refine lv_istore (lv' := [(4, .int t0_32), (3, .int x3)]) hx hb dX10_mostOf_32 hl (by decide) rfl (fun ls hl => ?_)
    refine lv_iload hx hb dX10_mostOf_34 (lv_at hl 0 rfl) ?_
    refine lv_iload_n hx hb dX10_mostOf_36 rfl (lv_at hl 1 rfl) ?_
    refine lv_icmp_ge (tgt := 45) hx hb dX10_mostOf_37 (by decide) (fun c37 => ?_) (fun c37 => ?_)
    · replace hf := ip c37 hf
      refine lv_iload_n hx hb dX10_mostOf_45 rfl (lv_at hl 1 rfl) ?_
      exact hret x3 46 _ hf dX10_mostOf_46
    · replace hf := im c37 hf
      refine lv_iload hx hb dX10_mostOf_40 (lv_at hl 0 rfl) ?_
      refine lv_goto (tgt := 46) hx hb dX10_mostOf_42 (by decide) ?_
      exact hret t0_32 46 _ hf dX10_mostOf_46
  obtain ⟨j22, ej22, hf⟩ := nme hf
  have J22 : ∀ (u_22 : Unit), j22 u_22 = some out → ∀ ls : Array Slot, lv_has ls 5 [(3, .int x3)] → W p l e rm_M_mostOf s m args below meth c s.heap [] 0 0 Q (F0 m 22 ls []) := by
    intro u_22 hf ls hl
    rw [ej22] at hf
    refine lv_iconst (v := 0) hx hb dX10_mostOf_22 (by decide) ?_
    refine lv_goto (tgt := 32) hx hb dX10_mostOf_23 (by decide) ?_
    exact J32 0 hf _ (lv_sub hl [0] rfl)
  refine lv_icmp_ge (tgt := 22) hx hb dX10_mostOf_5 (by decide) (fun c5 => ?_) (fun c5 => ?_)
  · replace hf := ip c5 hf
    exact J22 () hf _ (lv_sub hl [3] rfl)
  · replace hf := im c5 hf
    refine lv_iload_n hx hb dX10_mostOf_8 rfl (lv_at hl 1 rfl) ?_
    refine lv_iload_n hx hb dX10_mostOf_9 rfl (lv_at hl 2 rfl) ?_
    refine lv_icmp_eq (tgt := 22) hx hb dX10_mostOf_10 (by decide) (fun c10 => ?_) (fun c10 => ?_)
    · replace hf := ip c10 hf
      exact J22 () hf _ (lv_sub hl [3] rfl)
    · replace hf := im c10 hf
      refine lv_aload_n hx hb dX10_mostOf_13 rfl (lv_at hl 0 rfl) ?_
      refine va_get (D := D) (ci := 10) (v := .ref (h 7)) (C := RX10) (T := TX10) (N := 38) hx hb hts in_X10 hown hK hP 0 rfl rfl 7 (by decide) g_19 (fun _ h9 => h9) rfl dX10_mostOf_14 ?_
      refine lv_iload_n hx hb dX10_mostOf_17 rfl (lv_at hl 1 rfl) ?_
      obtain ⟨c18, hf⟩ := gd hf
      refine va_zald hx hb hK hP 4 1 rfl rfl c18 dX10_mostOf_18 ?_
      refine lv_if_eq (tgt := 26) hx hb dX10_mostOf_19 (by decide) (fun c19 => ?_) (fun c19 => ?_)
      · replace hf := ip c19 hf
        refine lv_aload_n hx hb dX10_mostOf_26 rfl (lv_at hl 0 rfl) ?_
        refine va_get (D := D) (ci := 10) (v := .ref (h 5)) (C := RX10) (T := TX10) (N := 38) hx hb hts in_X10 hown hK hP 0 rfl rfl 5 (by decide) g_13 (fun _ h9 => h9) rfl dX10_mostOf_27 ?_
        refine lv_iload_n hx hb dX10_mostOf_30 rfl (lv_at hl 1 rfl) ?_
        obtain ⟨c31, hf⟩ := gd hf
        refine va_iald hx hb hK hP 2 0 rfl rfl c31 dX10_mostOf_31 ?_
        exact J32 ((V 5) x1.toNatClampNeg) hf _ (lv_sub hl [3] rfl)
      · replace hf := im c19 hf
        exact J22 () hf _ (lv_sub hl [3] rfl)
def M_findWish_L2 {ρ : Type} (f : Nat) (x2 : Int32) (k_2 : FV → Option ρ) : Nat → Int32 → FV → Option ρ
  | 0, _, _ => none
  | n_2 + 1, x3_2, Vm_2 => (if x2 < x3_2 then (k_2 Vm_2) else (nm (fun (t2_26 : Int32) => if (600 + x3_2) < 0 ∨ 700 ≤ (600 + x3_2).toNatClampNeg then none else ((M_findWish_L2 f x2 k_2 n_2 (x3_2 + 1) (va_up Vm_2 34 (upd (Vm_2 34) (600 + x3_2).toNatClampNeg t2_26))))) (fun j26 => (if x3_2 = 0 then (j26 0) else (j26 99999)))))
def M_findWish_L65 {ρ : Type} (f : Nat) (x3_35 : Int32) (x1 : Int32) (x4_42 : Int32) (I : FI) (k_65 : FV → Option ρ) : Nat → Int32 → FV → Option ρ
  | 0, _, _ => none
  | n_65 + 1, x5_65, Vm_65 => ob1 (M_mostOf f x3_35 x1 x4_42 I Vm_65) (fun zr1 => (if zr1 < x5_65 then (k_65 Vm_65) else ob1 (M_priceOf f x3_35 x5_65 I Vm_65) (fun zr2 => if (((100 * (x3_35 + 1)) + x4_42) - x5_65) < 0 ∨ 700 ≤ (((100 * (x3_35 + 1)) + x4_42) - x5_65).toNatClampNeg then none else (nm (zr2 + ((Vm_65 34) (((100 * (x3_35 + 1)) + x4_42) - x5_65).toNatClampNeg)) (fun y3 => if ((100 * x3_35) + x4_42) < 0 ∨ 700 ≤ ((100 * x3_35) + x4_42).toNatClampNeg then none else ((nm (fun (t2_150 : Int32) => if ((100 * x3_35) + x4_42) < 0 ∨ 700 ≤ ((100 * x3_35) + x4_42).toNatClampNeg then none else ((M_findWish_L65 f x3_35 x1 x4_42 I k_65 n_65 (x5_65 + 1) (va_up Vm_65 34 (upd (Vm_65 34) ((100 * x3_35) + x4_42).toNatClampNeg t2_150))))) (fun j150 => (if ((Vm_65 34) ((100 * x3_35) + x4_42).toNatClampNeg) ≤ y3 then if ((100 * x3_35) + x4_42) < 0 ∨ 700 ≤ ((100 * x3_35) + x4_42).toNatClampNeg then none else ((j150 ((Vm_65 34) ((100 * x3_35) + x4_42).toNatClampNeg))) else (j150 y3))))))))))
def M_findWish_L42 {ρ : Type} (f : Nat) (x2 : Int32) (x3_35 : Int32) (x1 : Int32) (I : FI) (k_42 : FV → Option ρ) : Nat → Int32 → FV → Option ρ
  | 0, _, _ => none
  | n_42 + 1, x4_42, Vm_42 => (if x2 < x4_42 then (k_42 Vm_42) else if ((100 * x3_35) + x4_42) < 0 ∨ 700 ≤ ((100 * x3_35) + x4_42).toNatClampNeg then none else ((M_findWish_L65 f x3_35 x1 x4_42 I (fun (Vm_65 : FV) => (M_findWish_L42 f x2 x3_35 x1 I k_42 n_42 (x4_42 + 1) Vm_65)) f 0 (va_up Vm_42 34 (upd (Vm_42 34) ((100 * x3_35) + x4_42).toNatClampNeg 99999)))))
def M_findWish_L35 {ρ : Type} (f : Nat) (x2 : Int32) (x1 : Int32) (I : FI) (k_35 : FV → Option ρ) : Nat → Int32 → FV → Option ρ
  | 0, _, _ => none
  | n_35 + 1, x3_35, Vm_35 => (if x3_35 < 0 then (k_35 Vm_35) else (M_findWish_L42 f x2 x3_35 x1 I (fun (Vm_42 : FV) => (M_findWish_L35 f x2 x1 I k_35 n_35 (x3_35 + (-1)) Vm_42)) f 0 Vm_35))
def M_findWish_L198 {ρ : Type} (f : Nat) (x4_188 : Int32) (I : FI) (Vm_188 : FV) (x3_188 : Int32) (k_198 : Int32 → Option ρ) : Nat → Int32 → Option ρ
  | 0, _ => none
  | n_198 + 1, x5_198 => ob1 (M_priceOf f x4_188 x5_198 I Vm_188) (fun zr4 => if (((100 * (x4_188 + 1)) + x3_188) - x5_198) < 0 ∨ 700 ≤ (((100 * (x4_188 + 1)) + x3_188) - x5_198).toNatClampNeg then none else (if ((100 * x4_188) + x3_188) < 0 ∨ 700 ≤ ((100 * x4_188) + x3_188).toNatClampNeg then none else ((if (zr4 + ((Vm_188 34) (((100 * (x4_188 + 1)) + x3_188) - x5_198).toNatClampNeg)) = ((Vm_188 34) ((100 * x4_188) + x3_188).toNatClampNeg) then (k_198 x5_198) else (M_findWish_L198 f x4_188 I Vm_188 x3_188 k_198 n_198 (x5_198 + 1))))))
def M_findWish_L188 {ρ : Type} (f : Nat) (I : FI) (k_188 : FV → Option ρ) : Nat → Int32 → Int32 → FV → Option ρ
  | 0, _, _, _ => none
  | n_188 + 1, x3_188, x4_188, Vm_188 => (if 6 ≤ x4_188 then (k_188 Vm_188) else (M_findWish_L198 f x4_188 I Vm_188 x3_188 (fun (x5_198 : Int32) => if x4_188 < 0 ∨ 6 ≤ x4_188.toNatClampNeg then none else ((M_findWish_L188 f I k_188 n_188 (x3_188 - x5_198) (x4_188 + 1) (va_up Vm_188 35 (upd (Vm_188 35) x4_188.toNatClampNeg x5_198))))) f 0))
def M_findWish (f : Nat) (x1 : Int32) (x2 : Int32) (I : FI) (V : FV) : Option (Int32 × FI × FV) := (M_findWish_L2 f x2 (fun (Vm_2 : FV) => (M_findWish_L35 f x2 x1 I (fun (Vm_35 : FV) => if x2 < 0 ∨ 700 ≤ x2.toNatClampNeg then none else ((if ((Vm_35 34) x2.toNatClampNeg) < 99999 then (M_findWish_L188 f I (fun (Vm_188 : FV) => if x2 < 0 ∨ 700 ≤ x2.toNatClampNeg then none else (some (((Vm_188 34) x2.toNatClampNeg), I, Vm_188))) f x2 0 Vm_35) else some ((-9), I, Vm_35)))) f 5 Vm_2)) f 0 V)
abbrev rm_M_findWish : Room := { frames := 1, cells := 0, slots := 0, locals := 24 }
set_option maxHeartbeats 4000000 in
set_option maxRecDepth 100000 in
theorem c_M_findWish (l : Launch) (D : va_G) (cs : Nat → ClassId) (o : Nat) (h : Nat → Nat) (sz : Nat) (I : FI) (V : FV) (x1 : Int32) (x2 : Int32) (f : Nat) (out : Int32 × FI × FV) (hf : M_findWish f x1 x2 I V = some out) : Met l yX10_findWish wsX10_findWish rm_M_findWish (va_Pc [.ref o, .int x1, .int x2] (xP D cs (w_M cs o h I V) sz)) (va_Qi (fun r u => (r, u) = out) (fun (u : FI × FV) t => xA D cs (va_A (w_M cs o h I V) sz) (w_M cs o h u.1 u.2) t) (va_A (w_M cs o h I V) sz)) 0 0 (va_A (w_M cs o h I V) sz) := by
  refine Met.ofW (cc := cX10_findWish) (maxL := 7) (ret := (some .int)) (by decide) rfl ?_
  intro p e s m args below meth c s₁ B hml hv
  obtain ⟨ha, hsz, hP, hK, hD0⟩ := hv
  have hx := B.exec
  have hb := B.bytes
  have hr := B.returns
  have hts := atoms_spec (ws := wsX10_findWish) B.pre
  have hown : s.vm.findClass RX10 = some m.cls := findClass_of_methodNamed B.named
  have hlocks := B.notSynchronized
  have in_X10 : ∀ w ∈ u_ws RX10 TX10 38, w ∈ wsX10_findWish := fun w h => List.mem_cons_of_mem _ (List.mem_append_right _ h)
  have g_83 := hts (.fieldLink RX10 83 "DaysLentModel" "least" "[I") (by decide +kernel)
  have k_193 := hts (.constant RX10 193 (99999)) (by decide +kernel)
  have w_mostOf_194 := cwV (R := rm_M_findWish) (s := s) (args := args) (rm := rm_M_mostOf) (mc := 0) (ms := 0) 3 hts gX10_findWish_X10_mostOf rfl rfl rfl (by decide +kernel) ⟨Nat.le_of_ble_eq_true rfl, Nat.le_of_ble_eq_true rfl⟩
  have w_priceOf_170 := cwV (R := rm_M_findWish) (s := s) (args := args) (rm := rm_M_priceOf) (mc := 0) (ms := 0) 2 hts gX10_findWish_X10_priceOf rfl rfl rfl (by decide +kernel) ⟨Nat.le_of_ble_eq_true rfl, Nat.le_of_ble_eq_true rfl⟩
  have g_86 := hts (.fieldLink RX10 86 "DaysLentModel" "lends" "[I") (by decide +kernel)
  subst hsz
  have hD := hD0.self (sz := s.heap.size)
  generalize hAe : va_A (w_M cs o h I V) s.heap.size = A at hD ⊢
  have hA : ∀ q : Nat, s.heap.size ≤ q → A q := fun q h => by rw [← hAe]; exact Or.inr h
  have hS : va_S A s.heap s.heap [] := va_S.rf
  have hl := lv_entry ([.ref o, .int x1, .int x2]) (n := 7) (Nat.le_of_ble_eq_true rfl)
  rw [show entryFrame m args 7 = entryFrame m ([.ref o, .int x1, .int x2] : List Value).toArray 7 from by rw [ha], lg_entry_eq]
  generalize (lg_sl ([.ref o, .int x1, .int x2]) ++ List.replicate (7 - (lg_sl ([.ref o, .int x1, .int x2])).length) Slot.unset).toArray = ls at hl ⊢
  have hl : lv_has ls 7 [(0, .ref o), (1, .int x1), (2, .int x2)] := hl
  generalize hQ : MQ below (va_Qi (fun r u => (r, u) = out) (fun (u : FI × FV) t => xA D cs A (w_M cs o h u.1 u.2) t) A) args s 0 0 A = Q
  show W p l e rm_M_findWish s m args below meth c s.heap [] 0 0 Q (F0 m 0 ls [])
  have hret : ∀ (v : Int32) (Im9 : FI) (Vm9 : FV) (H : Heap) (locs : List Loc) (pc : Nat) (ls : Array Slot), some (v, Im9, Vm9) = some out → va_P D vwCl (w_M cs o h Im9 Vm9) H → va_D A (w_M cs o h Im9 Vm9) → va_S A s.heap H locs → decode cX10_findWish pc = .ok (.ireturn, 1) → W p l e rm_M_findWish s m args below meth c H locs 0 0 Q (F0 m pc ls [.int v]) := by
    intro v Im9 Vm9 H locs pc ls hf hP hD hS hd
    rw [← hQ]
    exact W.iret (v := v) hx hb hr (fun t ht hW => ⟨⟨v, (Im9, Vm9), rfl, Option.some.inj hf, by show va_P D vwCl (w_M cs o h Im9 Vm9) t.heap; rw [ht]; exact hP, va_K.moved hW.alike hK, hD⟩, hS.F ht⟩) hS.2.2 hd
  unfold M_findWish at hf
  refine lv_iconst (v := 0) hx hb dX10_findWish_0 (by decide) ?_
  refine lv_istore_n (lv' := [(3, .int 0), (0, .ref o), (1, .int x1), (2, .int x2)]) hx hb dX10_findWish_1 rfl hl (by decide) rfl (fun ls hl => ?_)
  have L2 : ∀ (k_2 : FV → Option (Int32 × FI × FV)) (hk_2 : ∀ (Vm_2 : FV), k_2 Vm_2 = some out → ∀ (H : Heap) (locs : List Loc), va_P D vwCl (w_M cs o h I Vm_2) H → va_D A (w_M cs o h I Vm_2) → va_S A s.heap H locs → ∀ ls : Array Slot, lv_has ls 7 [(0, .ref o), (1, .int x1), (2, .int x2)] → W p l e rm_M_findWish s m args below meth c H locs 0 0 Q (F0 m 33 ls [])), ∀ (n_2 : Nat) (x3_2 : Int32) (Vm_2 : FV), M_findWish_L2 f x2 k_2 n_2 x3_2 Vm_2 = some out → ∀ (H : Heap) (locs : List Loc), va_P D vwCl (w_M cs o h I Vm_2) H → va_D A (w_M cs o h I Vm_2) → va_S A s.heap H locs → ∀ ls : Array Slot, lv_has ls 7 [(0, .ref o), (1, .int x1), (2, .int x2), (3, .int x3_2)] → W p l e rm_M_findWish s m args below meth c H locs 0 0 Q (F0 m 2 ls []) := by
    intro k_2 hk_2 n_2
    induction n_2 with
    | zero => intro x3_2 Vm_2 hf; rw [M_findWish_L2] at hf; cases hf
    | succ n_2 ih_2 =>
      intro x3_2 Vm_2 hf H locs hP hD hS ls hl
      rw [M_findWish_L2] at hf
      refine lv_iload_n hx hb dX10_findWish_2 rfl (lv_at hl 3 rfl) ?_
      refine lv_iload_n hx hb dX10_findWish_3 rfl (lv_at hl 2 rfl) ?_
      refine lv_icmp_gt (tgt := 33) hx hb dX10_findWish_4 (by decide) (fun c4 => ?_) (fun c4 => ?_)
      · replace hf := ip c4 hf
        exact hk_2 Vm_2 hf _ _ hP hD hS _ (lv_sub hl [0, 1, 2] rfl)
      · replace hf := im c4 hf
        refine lv_aload_n hx hb dX10_findWish_7 rfl (lv_at hl 0 rfl) ?_
        refine va_get (D := D) (ci := 10) (v := .ref (h 34)) (C := RX10) (T := TX10) (N := 38) hx hb hts in_X10 hown hK hP 0 rfl rfl 34 (by decide) g_83 (fun _ h9 => h9) rfl dX10_findWish_8 ?_
        refine lv_sipush (v := 600) hx hb dX10_findWish_11 (by decide) ?_
        refine lv_iload_n hx hb dX10_findWish_14 rfl (lv_at hl 3 rfl) ?_
        refine lv_iadd hx hb dX10_findWish_15 ?_
        refine lv_iload_n hx hb dX10_findWish_16 rfl (lv_at hl 3 rfl) ?_
        obtain ⟨j26, ej26, hf⟩ := nme hf
        have J26 : ∀ (t2_26 : Int32), j26 t2_26 = some out → ∀ (H : Heap) (locs : List Loc), va_P D vwCl (w_M cs o h I Vm_2) H → va_D A (w_M cs o h I Vm_2) → va_S A s.heap H locs → ∀ ls : Array Slot, lv_has ls 7 [(0, .ref o), (1, .int x1), (2, .int x2), (3, .int x3_2)] → W p l e rm_M_findWish s m args below meth c H locs 0 0 Q (F0 m 26 ls [.int t2_26, .int (600 + x3_2), .ref (h 34)]) := by
          intro t2_26 hf H locs hP hD hS ls hl
          rw [ej26] at hf
          obtain ⟨c26, hf⟩ := gd hf
          refine va_iast hx hb hK hP hD hS 25 0 rfl rfl c26 dX10_findWish_26 (fun H locs hP hD hS => ?_)
          have hP : va_P D vwCl (w_M cs o h I (va_up Vm_2 34 (upd (Vm_2 34) (600 + x3_2).toNatClampNeg t2_26))) H := hP
          have hD : va_D A (w_M cs o h I (va_up Vm_2 34 (upd (Vm_2 34) (600 + x3_2).toNatClampNeg t2_26))) := hD
          refine lv_iinc (v := (x3_2 + 1)) (lv' := [(3, .int (x3_2 + 1)), (0, .ref o), (1, .int x1), (2, .int x2)]) hx hb dX10_findWish_27 hl (k := 3) rfl (by rfl) (by decide) rfl (fun ls hl => ?_)
          refine lv_goto (tgt := 2) hx hb dX10_findWish_30 (by decide) ?_
          exact ih_2 (x3_2 + 1) (va_up Vm_2 34 (upd (Vm_2 34) (600 + x3_2).toNatClampNeg t2_26)) hf _ _ hP hD hS _ (lv_sub hl [1, 2, 3, 0] rfl)
        refine lv_if_ne (tgt := 24) hx hb dX10_findWish_17 (by decide) (fun c17 => ?_) (fun c17 => ?_)
        · replace hf := im c17 hf
          refine lv_ldc (v := 99999) hx hb hown k_193 dX10_findWish_24 ?_
          exact J26 99999 hf _ _ hP hD hS _ (lv_sub hl [0, 1, 2, 3] rfl)
        · replace hf := ip c17 hf
          refine lv_iconst (v := 0) hx hb dX10_findWish_20 (by decide) ?_
          refine lv_goto (tgt := 26) hx hb dX10_findWish_21 (by decide) ?_
          exact J26 0 hf _ _ hP hD hS _ (lv_sub hl [0, 1, 2, 3] rfl)
  refine L2 _ (fun Vm_2 hf H locs hP hD hS ls hl => ?_) f 0 V hf _ _ hP hD hS _ (lv_sub hl [1, 2, 3, 0] rfl)
  refine lv_iconst (v := 5) hx hb dX10_findWish_33 (by decide) ?_
  refine lv_istore_n (lv' := [(3, .int 5), (0, .ref o), (1, .int x1), (2, .int x2)]) hx hb dX10_findWish_34 rfl hl (by decide) rfl (fun ls hl => ?_)
  have L35 : ∀ (k_35 : FV → Option (Int32 × FI × FV)) (hk_35 : ∀ (Vm_35 : FV), k_35 Vm_35 = some out → ∀ (H : Heap) (locs : List Loc), va_P D vwCl (w_M cs o h I Vm_35) H → va_D A (w_M cs o h I Vm_35) → va_S A s.heap H locs → ∀ ls : Array Slot, lv_has ls 7 [(0, .ref o), (2, .int x2)] → W p l e rm_M_findWish s m args below meth c H locs 0 0 Q (F0 m 169 ls [])), ∀ (n_35 : Nat) (x3_35 : Int32) (Vm_35 : FV), M_findWish_L35 f x2 x1 I k_35 n_35 x3_35 Vm_35 = some out → ∀ (H : Heap) (locs : List Loc), va_P D vwCl (w_M cs o h I Vm_35) H → va_D A (w_M cs o h I Vm_35) → va_S A s.heap H locs → ∀ ls : Array Slot, lv_has ls 7 [(0, .ref o), (1, .int x1), (2, .int x2), (3, .int x3_35)] → W p l e rm_M_findWish s m args below meth c H locs 0 0 Q (F0 m 35 ls []) := by
    intro k_35 hk_35 n_35
    induction n_35 with
    | zero => intro x3_35 Vm_35 hf; rw [M_findWish_L35] at hf; cases hf
    | succ n_35 ih_35 =>
      intro x3_35 Vm_35 hf H locs hP hD hS ls hl
      rw [M_findWish_L35] at hf
      refine lv_iload_n hx hb dX10_findWish_35 rfl (lv_at hl 3 rfl) ?_
      refine lv_if_lt (tgt := 169) hx hb dX10_findWish_36 (by decide) (fun c36 => ?_) (fun c36 => ?_)
      · replace hf := ip c36 hf
        exact hk_35 Vm_35 hf _ _ hP hD hS _ (lv_sub hl [0, 2] rfl)
      · replace hf := im c36 hf
        refine lv_iconst (v := 0) hx hb dX10_findWish_39 (by decide) ?_
        refine lv_istore (lv' := [(4, .int 0), (0, .ref o), (1, .int x1), (2, .int x2), (3, .int x3_35)]) hx hb dX10_findWish_40 hl (by decide) rfl (fun ls hl => ?_)
        have L42 : ∀ (k_42 : FV → Option (Int32 × FI × FV)) (hk_42 : ∀ (Vm_42 : FV), k_42 Vm_42 = some out → ∀ (H : Heap) (locs : List Loc), va_P D vwCl (w_M cs o h I Vm_42) H → va_D A (w_M cs o h I Vm_42) → va_S A s.heap H locs → ∀ ls : Array Slot, lv_has ls 7 [(0, .ref o), (1, .int x1), (2, .int x2), (3, .int x3_35)] → W p l e rm_M_findWish s m args below meth c H locs 0 0 Q (F0 m 163 ls [])), ∀ (n_42 : Nat) (x4_42 : Int32) (Vm_42 : FV), M_findWish_L42 f x2 x3_35 x1 I k_42 n_42 x4_42 Vm_42 = some out → ∀ (H : Heap) (locs : List Loc), va_P D vwCl (w_M cs o h I Vm_42) H → va_D A (w_M cs o h I Vm_42) → va_S A s.heap H locs → ∀ ls : Array Slot, lv_has ls 7 [(0, .ref o), (1, .int x1), (2, .int x2), (3, .int x3_35), (4, .int x4_42)] → W p l e rm_M_findWish s m args below meth c H locs 0 0 Q (F0 m 42 ls []) := by
          intro k_42 hk_42 n_42
          induction n_42 with
          | zero => intro x4_42 Vm_42 hf; rw [M_findWish_L42] at hf; cases hf
          | succ n_42 ih_42 =>
            intro x4_42 Vm_42 hf H locs hP hD hS ls hl
            rw [M_findWish_L42] at hf
            refine lv_iload hx hb dX10_findWish_42 (lv_at hl 4 rfl) ?_
            refine lv_iload_n hx hb dX10_findWish_44 rfl (lv_at hl 2 rfl) ?_
            refine lv_icmp_gt (tgt := 163) hx hb dX10_findWish_45 (by decide) (fun c45 => ?_) (fun c45 => ?_)
            · replace hf := ip c45 hf
              exact hk_42 Vm_42 hf _ _ hP hD hS _ (lv_sub hl [0, 1, 2, 3] rfl)
            · replace hf := im c45 hf
              refine lv_aload_n hx hb dX10_findWish_48 rfl (lv_at hl 0 rfl) ?_
              refine va_get (D := D) (ci := 10) (v := .ref (h 34)) (C := RX10) (T := TX10) (N := 38) hx hb hts in_X10 hown hK hP 0 rfl rfl 34 (by decide) g_83 (fun _ h9 => h9) rfl dX10_findWish_49 ?_
              refine lv_bipush (v := 100) hx hb dX10_findWish_52 (by decide) ?_
              refine lv_iload_n hx hb dX10_findWish_54 rfl (lv_at hl 3 rfl) ?_
              refine lv_imul hx hb dX10_findWish_55 ?_
              refine lv_iload hx hb dX10_findWish_56 (lv_at hl 4 rfl) ?_
              refine lv_iadd hx hb dX10_findWish_58 ?_
              refine lv_ldc (v := 99999) hx hb hown k_193 dX10_findWish_59 ?_
              obtain ⟨c61, hf⟩ := gd hf
              refine va_iast hx hb hK hP hD hS 25 0 rfl rfl c61 dX10_findWish_61 (fun H locs hP hD hS => ?_)
              have hP : va_P D vwCl (w_M cs o h I (va_up Vm_42 34 (upd (Vm_42 34) ((100 * x3_35) + x4_42).toNatClampNeg 99999))) H := hP
              have hD : va_D A (w_M cs o h I (va_up Vm_42 34 (upd (Vm_42 34) ((100 * x3_35) + x4_42).toNatClampNeg 99999))) := hD
              refine lv_iconst (v := 0) hx hb dX10_findWish_62 (by decide) ?_
              refine lv_istore (lv' := [(5, .int 0), (0, .ref o), (1, .int x1), (2, .int x2), (3, .int x3_35), (4, .int x4_42)]) hx hb dX10_findWish_63 hl (by decide) rfl (fun ls hl => ?_)
              have L65 : ∀ (k_65 : FV → Option (Int32 × FI × FV)) (hk_65 : ∀ (Vm_65 : FV), k_65 Vm_65 = some out → ∀ (H : Heap) (locs : List Loc), va_P D vwCl (w_M cs o h I Vm_65) H → va_D A (w_M cs o h I Vm_65) → va_S A s.heap H locs → ∀ ls : Array Slot, lv_has ls 7 [(0, .ref o), (1, .int x1), (2, .int x2), (3, .int x3_35), (4, .int x4_42)] → W p l e rm_M_findWish s m args below meth c H locs 0 0 Q (F0 m 157 ls [])), ∀ (n_65 : Nat) (x5_65 : Int32) (Vm_65 : FV), M_findWish_L65 f x3_35 x1 x4_42 I k_65 n_65 x5_65 Vm_65 = some out → ∀ (H : Heap) (locs : List Loc), va_P D vwCl (w_M cs o h I Vm_65) H → va_D A (w_M cs o h I Vm_65) → va_S A s.heap H locs → ∀ ls : Array Slot, lv_has ls 7 [(0, .ref o), (1, .int x1), (2, .int x2), (3, .int x3_35), (4, .int x4_42), (5, .int x5_65)] → W p l e rm_M_findWish s m args below meth c H locs 0 0 Q (F0 m 65 ls []) := by
                intro k_65 hk_65 n_65
                induction n_65 with
                | zero => intro x5_65 Vm_65 hf; rw [M_findWish_L65] at hf; cases hf
                | succ n_65 ih_65 =>
                  intro x5_65 Vm_65 hf H locs hP hD hS ls hl
                  rw [M_findWish_L65] at hf
                  refine lv_iload hx hb dX10_findWish_65 (lv_at hl 5 rfl) ?_
                  refine lv_aload_n hx hb dX10_findWish_67 rfl (lv_at hl 0 rfl) ?_
                  refine lv_iload_n hx hb dX10_findWish_68 rfl (lv_at hl 3 rfl) ?_
                  refine lv_iload_n hx hb dX10_findWish_69 rfl (lv_at hl 1 rfl) ?_
                  refine lv_iload hx hb dX10_findWish_70 (lv_at hl 4 rfl) ?_
                  obtain ⟨zr1, qr1, hf⟩ := bd1 hf
                  refine vp_callSi (va_Run.run (va_runV (As := [.int x3_35, .int x1, .int x4_42]) (rest := [.int x5_65]) ⟨hx, hb, hml, hown, hts⟩ (c_M_mostOf l D cs o h I Vm_65 x3_35 x1 x4_42 f zr1 qr1) w_mostOf_194 ⟨xR_moved, va_recv hK hP (ci := 10) (q0 := 0) rfl rfl, fun U hU hW => ⟨rfl, by rw [hU]; exact hP, va_K.moved hW.alike hK⟩⟩ rfl rfl hl.1 rfl (lv_room (Nat.le_of_ble_eq_true rfl)) dX10_findWish_72 ⟨Nat.zero_le _, Nat.zero_le _⟩)) (fun r1 er1 => ?_)
                  rw [er1]
                  refine lv_icmp_gt (tgt := 157) hx hb dX10_findWish_75 (by decide) (fun c75 => ?_) (fun c75 => ?_)
                  · replace hf := ip c75 hf
                    exact hk_65 Vm_65 hf _ _ hP hD hS _ (lv_sub hl [0, 1, 2, 3, 4] rfl)
                  · replace hf := im c75 hf
                    refine lv_aload_n hx hb dX10_findWish_78 rfl (lv_at hl 0 rfl) ?_
                    refine lv_iload_n hx hb dX10_findWish_79 rfl (lv_at hl 3 rfl) ?_
                    refine lv_iload hx hb dX10_findWish_80 (lv_at hl 5 rfl) ?_
                    obtain ⟨zr2, qr2, hf⟩ := bd1 hf
                    refine vp_callSi (va_Run.run (va_runV (As := [.int x3_35, .int x5_65]) (rest := []) ⟨hx, hb, hml, hown, hts⟩ (c_M_priceOf l D cs o h I Vm_65 x3_35 x5_65 f zr2 qr2) w_priceOf_170 ⟨xR_moved, va_recv hK hP (ci := 10) (q0 := 0) rfl rfl, fun U hU hW => ⟨rfl, by rw [hU]; exact hP, va_K.moved hW.alike hK⟩⟩ rfl rfl hl.1 rfl (lv_room (Nat.le_of_ble_eq_true rfl)) dX10_findWish_82 ⟨Nat.zero_le _, Nat.zero_le _⟩)) (fun r2 er2 => ?_)
                    rw [er2]
                    refine lv_aload_n hx hb dX10_findWish_85 rfl (lv_at hl 0 rfl) ?_
                    refine va_get (D := D) (ci := 10) (v := .ref (h 34)) (C := RX10) (T := TX10) (N := 38) hx hb hts in_X10 hown hK hP 0 rfl rfl 34 (by decide) g_83 (fun _ h9 => h9) rfl dX10_findWish_86 ?_
                    refine lv_bipush (v := 100) hx hb dX10_findWish_89 (by decide) ?_
                    refine lv_iload_n hx hb dX10_findWish_91 rfl (lv_at hl 3 rfl) ?_
                    refine lv_iconst (v := 1) hx hb dX10_findWish_92 (by decide) ?_
                    refine lv_iadd hx hb dX10_findWish_93 ?_
                    refine lv_imul hx hb dX10_findWish_94 ?_
                    refine lv_iload hx hb dX10_findWish_95 (lv_at hl 4 rfl) ?_
                    refine lv_iadd hx hb dX10_findWish_97 ?_
                    refine lv_iload hx hb dX10_findWish_98 (lv_at hl 5 rfl) ?_
                    refine lv_isub hx hb dX10_findWish_100 ?_
                    obtain ⟨c101, hf⟩ := gd hf
                    refine va_iald hx hb hK hP 25 0 rfl rfl c101 dX10_findWish_101 ?_
                    refine lv_iadd hx hb dX10_findWish_102 ?_
                    refine lv_topi (fun y3 ey3 => ?_)
                    replace hf := nmd hf ey3
                    refine lv_istore (lv' := [(6, .int y3), (0, .ref o), (1, .int x1), (2, .int x2), (3, .int x3_35), (4, .int x4_42), (5, .int x5_65)]) hx hb dX10_findWish_103 hl (by decide) rfl (fun ls hl => ?_)
                    refine lv_aload_n hx hb dX10_findWish_105 rfl (lv_at hl 1 rfl) ?_
                    refine va_get (D := D) (ci := 10) (v := .ref (h 34)) (C := RX10) (T := TX10) (N := 38) hx hb hts in_X10 hown hK hP 0 rfl rfl 34 (by decide) g_83 (fun _ h9 => h9) rfl dX10_findWish_106 ?_
                    refine lv_bipush (v := 100) hx hb dX10_findWish_109 (by decide) ?_
                    refine lv_iload_n hx hb dX10_findWish_111 rfl (lv_at hl 4 rfl) ?_
                    refine lv_imul hx hb dX10_findWish_112 ?_
                    refine lv_iload hx hb dX10_findWish_113 (lv_at hl 5 rfl) ?_
                    refine lv_iadd hx hb dX10_findWish_115 ?_
                    refine lv_iload hx hb dX10_findWish_116 (lv_at hl 0 rfl) ?_
                    refine lv_aload_n hx hb dX10_findWish_118 rfl (lv_at hl 1 rfl) ?_
                    refine va_get (D := D) (ci := 10) (v := .ref (h 34)) (C := RX10) (T := TX10) (N := 38) hx hb hts in_X10 hown hK hP 0 rfl rfl 34 (by decide) g_83 (fun _ h9 => h9) rfl dX10_findWish_119 ?_
                    refine lv_bipush (v := 100) hx hb dX10_findWish_122 (by decide) ?_
                    refine lv_iload_n hx hb dX10_findWish_124 rfl (lv_at hl 4 rfl) ?_
                    refine lv_imul hx hb dX10_findWish_125 ?_
                    refine lv_iload hx hb dX10_findWish_126 (lv_at hl 5 rfl) ?_
                    refine lv_iadd hx hb dX10_findWish_128 ?_
                    obtain ⟨c129, hf⟩ := gd hf
                    refine va_iald hx hb hK hP 25 0 rfl rfl c129 dX10_findWish_129 ?_
                    obtain ⟨j150, ej150, hf⟩ := nme hf
                    have J150 : ∀ (t2_150 : Int32), j150 t2_150 = some out → ∀ (H : Heap) (locs : List Loc), va_P D vwCl (w_M cs o h I Vm_65) H → va_D A (w_M cs o h I Vm_65) → va_S A s.heap H locs → ∀ ls : Array Slot, lv_has ls 7 [(0, .ref o), (1, .int x1), (2, .int x2), (3, .int x3_35), (4, .int x4_42), (5, .int x5_65)] → W p l e rm_M_findWish s m args below meth c H locs 0 0 Q (F0 m 150 ls [.int t2_150, .int ((100 * x3_35) + x4_42), .ref (h 34)]) := by
                      intro t2_150 hf H locs hP hD hS ls hl
                      rw [ej150] at hf
                      obtain ⟨c150, hf⟩ := gd hf
                      refine va_iast hx hb hK hP hD hS 25 0 rfl rfl c150 dX10_findWish_150 (fun H locs hP hD hS => ?_)
                      have hP : va_P D vwCl (w_M cs o h I (va_up Vm_65 34 (upd (Vm_65 34) ((100 * x3_35) + x4_42).toNatClampNeg t2_150))) H := hP
                      have hD : va_D A (w_M cs o h I (va_up Vm_65 34 (upd (Vm_65 34) ((100 * x3_35) + x4_42).toNatClampNeg t2_150))) := hD
                      refine lv_iinc (v := (x5_65 + 1)) (lv' := [(5, .int (x5_65 + 1)), (0, .ref o), (1, .int x1), (2, .int x2), (3, .int x3_35), (4, .int x4_42)]) hx hb dX10_findWish_151 hl (k := 5) rfl (by rfl) (by decide) rfl (fun ls hl => ?_)
                      refine lv_goto (tgt := 65) hx hb dX10_findWish_154 (by decide) ?_
                      exact ih_65 (x5_65 + 1) (va_up Vm_65 34 (upd (Vm_65 34) ((100 * x3_35) + x4_42).toNatClampNeg t2_150)) hf _ _ hP hD hS _ (lv_sub hl [1, 2, 3, 4, 5, 0] rfl)
                    refine lv_icmp_ge (tgt := 138) hx hb dX10_findWish_130 (by decide) (fun c130 => ?_) (fun c130 => ?_)
                    · replace hf := ip c130 hf
                      refine lv_aload_n hx hb dX10_findWish_138 rfl (lv_at hl 1 rfl) ?_
                      refine va_get (D := D) (ci := 10) (v := .ref (h 34)) (C := RX10) (T := TX10) (N := 38) hx hb hts in_X10 hown hK hP 0 rfl rfl 34 (by decide) g_83 (fun _ h9 => h9) rfl dX10_findWish_139 ?_
                      refine lv_bipush (v := 100) hx hb dX10_findWish_142 (by decide) ?_
                      refine lv_iload_n hx hb dX10_findWish_144 rfl (lv_at hl 4 rfl) ?_
                      refine lv_imul hx hb dX10_findWish_145 ?_
                      refine lv_iload hx hb dX10_findWish_146 (lv_at hl 5 rfl) ?_
                      refine lv_iadd hx hb dX10_findWish_148 ?_
                      obtain ⟨c149, hf⟩ := gd hf
                      refine va_iald hx hb hK hP 25 0 rfl rfl c149 dX10_findWish_149 ?_
                      exact J150 ((Vm_65 34) ((100 * x3_35) + x4_42).toNatClampNeg) hf _ _ hP hD hS _ (lv_sub hl [1, 2, 3, 4, 5, 6] rfl)
                    · replace hf := im c130 hf
                      refine lv_iload hx hb dX10_findWish_133 (lv_at hl 0 rfl) ?_
                      refine lv_goto (tgt := 150) hx hb dX10_findWish_135 (by decide) ?_
                      exact J150 y3 hf _ _ hP hD hS _ (lv_sub hl [1, 2, 3, 4, 5, 6] rfl)
              refine L65 _ (fun Vm_65 hf H locs hP hD hS ls hl => ?_) f 0 (va_up Vm_42 34 (upd (Vm_42 34) ((100 * x3_35) + x4_42).toNatClampNeg 99999)) hf _ _ hP hD hS _ (lv_sub hl [1, 2, 3, 4, 5, 0] rfl)
              refine lv_iinc (v := (x4_42 + 1)) (lv' := [(4, .int (x4_42 + 1)), (0, .ref o), (1, .int x1), (2, .int x2), (3, .int x3_35)]) hx hb dX10_findWish_157 hl (k := 4) rfl (by rfl) (by decide) rfl (fun ls hl => ?_)
              refine lv_goto (tgt := 42) hx hb dX10_findWish_160 (by decide) ?_
              exact ih_42 (x4_42 + 1) Vm_65 hf _ _ hP hD hS _ (lv_sub hl [1, 2, 3, 4, 0] rfl)
        refine L42 _ (fun Vm_42 hf H locs hP hD hS ls hl => ?_) f 0 Vm_35 hf _ _ hP hD hS _ (lv_sub hl [1, 2, 3, 4, 0] rfl)
        refine lv_iinc (v := (x3_35 + (-1))) (lv' := [(3, .int (x3_35 + (-1))), (0, .ref o), (1, .int x1), (2, .int x2)]) hx hb dX10_findWish_163 hl (k := 3) rfl (by rfl) (by decide) rfl (fun ls hl => ?_)
        refine lv_goto (tgt := 35) hx hb dX10_findWish_166 (by decide) ?_
        exact ih_35 (x3_35 + (-1)) Vm_42 hf _ _ hP hD hS _ (lv_sub hl [1, 2, 3, 0] rfl)
  refine L35 _ (fun Vm_35 hf H locs hP hD hS ls hl => ?_) f 5 Vm_2 hf _ _ hP hD hS _ (lv_sub hl [1, 2, 3, 0] rfl)
  refine lv_aload_n hx hb dX10_findWish_169 rfl (lv_at hl 0 rfl) ?_
  refine va_get (D := D) (ci := 10) (v := .ref (h 34)) (C := RX10) (T := TX10) (N := 38) hx hb hts in_X10 hown hK hP 0 rfl rfl 34 (by decide) g_83 (fun _ h9 => h9) rfl dX10_findWish_170 ?_
  refine lv_iload_n hx hb dX10_findWish_173 rfl (lv_at hl 1 rfl) ?_
  obtain ⟨c174, hf⟩ := gd hf
  refine va_iald hx hb hK hP 25 0 rfl rfl c174 dX10_findWish_174 ?_
  refine lv_ldc (v := 99999) hx hb hown k_193 dX10_findWish_175 ?_
  refine lv_icmp_lt (tgt := 183) hx hb dX10_findWish_177 (by decide) (fun c177 => ?_) (fun c177 => ?_)
  · replace hf := ip c177 hf
    refine lv_iload_n hx hb dX10_findWish_183 rfl (lv_at hl 1 rfl) ?_
    refine lv_istore_n (lv' := [(3, .int x2), (0, .ref o), (2, .int x2)]) hx hb dX10_findWish_184 rfl hl (by decide) rfl (fun ls hl => ?_)
    refine lv_iconst (v := 0) hx hb dX10_findWish_185 (by decide) ?_
    refine lv_istore (lv' := [(4, .int 0), (3, .int x2), (0, .ref o), (2, .int x2)]) hx hb dX10_findWish_186 hl (by decide) rfl (fun ls hl => ?_)
    have L188 : ∀ (k_188 : FV → Option (Int32 × FI × FV)) (hk_188 : ∀ (Vm_188 : FV), k_188 Vm_188 = some out → ∀ (H : Heap) (locs : List Loc), va_P D vwCl (w_M cs o h I Vm_188) H → va_D A (w_M cs o h I Vm_188) → va_S A s.heap H locs → ∀ ls : Array Slot, lv_has ls 7 [(0, .ref o), (2, .int x2)] → W p l e rm_M_findWish s m args below meth c H locs 0 0 Q (F0 m 265 ls [])), ∀ (n_188 : Nat) (x3_188 : Int32) (x4_188 : Int32) (Vm_188 : FV), M_findWish_L188 f I k_188 n_188 x3_188 x4_188 Vm_188 = some out → ∀ (H : Heap) (locs : List Loc), va_P D vwCl (w_M cs o h I Vm_188) H → va_D A (w_M cs o h I Vm_188) → va_S A s.heap H locs → ∀ ls : Array Slot, lv_has ls 7 [(0, .ref o), (2, .int x2), (3, .int x3_188), (4, .int x4_188)] → W p l e rm_M_findWish s m args below meth c H locs 0 0 Q (F0 m 188 ls []) := by
      intro k_188 hk_188 n_188
      induction n_188 with
      | zero => intro x3_188 x4_188 Vm_188 hf; rw [M_findWish_L188] at hf; cases hf
      | succ n_188 ih_188 =>
        intro x3_188 x4_188 Vm_188 hf H locs hP hD hS ls hl
        rw [M_findWish_L188] at hf
        refine lv_iload hx hb dX10_findWish_188 (lv_at hl 3 rfl) ?_
        refine lv_bipush (v := 6) hx hb dX10_findWish_190 (by decide) ?_
        refine lv_icmp_ge (tgt := 265) hx hb dX10_findWish_192 (by decide) (fun c192 => ?_) (fun c192 => ?_)
        · replace hf := ip c192 hf
          exact hk_188 Vm_188 hf _ _ hP hD hS _ (lv_sub hl [0, 1] rfl)
        · replace hf := im c192 hf
          refine lv_iconst (v := 0) hx hb dX10_findWish_195 (by decide) ?_
          refine lv_istore (lv' := [(5, .int 0), (0, .ref o), (2, .int x2), (3, .int x3_188), (4, .int x4_188)]) hx hb dX10_findWish_196 hl (by decide) rfl (fun ls hl => ?_)
          have L198 : ∀ (k_198 : Int32 → Option (Int32 × FI × FV)) (hk_198 : ∀ (x5_198 : Int32), k_198 x5_198 = some out → ∀ (H : Heap) (locs : List Loc), va_P D vwCl (w_M cs o h I Vm_188) H → va_D A (w_M cs o h I Vm_188) → va_S A s.heap H locs → ∀ ls : Array Slot, lv_has ls 7 [(0, .ref o), (2, .int x2), (3, .int x3_188), (4, .int x4_188), (5, .int x5_198)] → W p l e rm_M_findWish s m args below meth c H locs 0 0 Q (F0 m 245 ls [])), ∀ (n_198 : Nat) (x5_198 : Int32), M_findWish_L198 f x4_188 I Vm_188 x3_188 k_198 n_198 x5_198 = some out → ∀ (H : Heap) (locs : List Loc), va_P D vwCl (w_M cs o h I Vm_188) H → va_D A (w_M cs o h I Vm_188) → va_S A s.heap H locs → ∀ ls : Array Slot, lv_has ls 7 [(0, .ref o), (2, .int x2), (3, .int x3_188), (4, .int x4_188), (5, .int x5_198)] → W p l e rm_M_findWish s m args below meth c H locs 0 0 Q (F0 m 198 ls []) := by
            intro k_198 hk_198 n_198
            induction n_198 with
            | zero => intro x5_198 hf; rw [M_findWish_L198] at hf; cases hf
            | succ n_198 ih_198 =>
              intro x5_198 hf H locs hP hD hS ls hl
              rw [M_findWish_L198] at hf
              refine lv_aload_n hx hb dX10_findWish_198 rfl (lv_at hl 0 rfl) ?_
              refine lv_iload hx hb dX10_findWish_199 (lv_at hl 3 rfl) ?_
              refine lv_iload hx hb dX10_findWish_201 (lv_at hl 4 rfl) ?_
              obtain ⟨zr4, qr4, hf⟩ := bd1 hf
              refine vp_callSi (va_Run.run (va_runV (As := [.int x4_188, .int x5_198]) (rest := []) ⟨hx, hb, hml, hown, hts⟩ (c_M_priceOf l D cs o h I Vm_188 x4_188 x5_198 f zr4 qr4) w_priceOf_170 ⟨xR_moved, va_recv hK hP (ci := 10) (q0 := 0) rfl rfl, fun U hU hW => ⟨rfl, by rw [hU]; exact hP, va_K.moved hW.alike hK⟩⟩ rfl rfl hl.1 rfl (lv_room (Nat.le_of_ble_eq_true rfl)) dX10_findWish_203 ⟨Nat.zero_le _, Nat.zero_le _⟩)) (fun r4 er4 => ?_)
              rw [er4]
              refine lv_aload_n hx hb dX10_findWish_206 rfl (lv_at hl 0 rfl) ?_
              refine va_get (D := D) (ci := 10) (v := .ref (h 34)) (C := RX10) (T := TX10) (N := 38) hx hb hts in_X10 hown hK hP 0 rfl rfl 34 (by decide) g_83 (fun _ h9 => h9) rfl dX10_findWish_207 ?_
              refine lv_bipush (v := 100) hx hb dX10_findWish_210 (by decide) ?_
              refine lv_iload hx hb dX10_findWish_212 (lv_at hl 3 rfl) ?_
              refine lv_iconst (v := 1) hx hb dX10_findWish_214 (by decide) ?_
              refine lv_iadd hx hb dX10_findWish_215 ?_
              refine lv_imul hx hb dX10_findWish_216 ?_
              refine lv_iload_n hx hb dX10_findWish_217 rfl (lv_at hl 2 rfl) ?_
              refine lv_iadd hx hb dX10_findWish_218 ?_
              refine lv_iload hx hb dX10_findWish_219 (lv_at hl 4 rfl) ?_
              refine lv_isub hx hb dX10_findWish_221 ?_
              obtain ⟨c222, hf⟩ := gd hf
              refine va_iald hx hb hK hP 25 0 rfl rfl c222 dX10_findWish_222 ?_
              refine lv_iadd hx hb dX10_findWish_223 ?_
              refine lv_aload_n hx hb dX10_findWish_224 rfl (lv_at hl 0 rfl) ?_
              refine va_get (D := D) (ci := 10) (v := .ref (h 34)) (C := RX10) (T := TX10) (N := 38) hx hb hts in_X10 hown hK hP 0 rfl rfl 34 (by decide) g_83 (fun _ h9 => h9) rfl dX10_findWish_225 ?_
              refine lv_bipush (v := 100) hx hb dX10_findWish_228 (by decide) ?_
              refine lv_iload hx hb dX10_findWish_230 (lv_at hl 3 rfl) ?_
              refine lv_imul hx hb dX10_findWish_232 ?_
              refine lv_iload_n hx hb dX10_findWish_233 rfl (lv_at hl 2 rfl) ?_
              refine lv_iadd hx hb dX10_findWish_234 ?_
              obtain ⟨c235, hf⟩ := gd hf
              refine va_iald hx hb hK hP 25 0 rfl rfl c235 dX10_findWish_235 ?_
              refine lv_icmp_eq (tgt := 245) hx hb dX10_findWish_236 (by decide) (fun c236 => ?_) (fun c236 => ?_)
              · replace hf := ip c236 hf
                exact hk_198 x5_198 hf _ _ hP hD hS _ (lv_sub hl [0, 1, 2, 3, 4] rfl)
              · replace hf := im c236 hf
                refine lv_iinc (v := (x5_198 + 1)) (lv' := [(5, .int (x5_198 + 1)), (0, .ref o), (2, .int x2), (3, .int x3_188), (4, .int x4_188)]) hx hb dX10_findWish_239 hl (k := 4) rfl (by rfl) (by decide) rfl (fun ls hl => ?_)
                refine lv_goto (tgt := 198) hx hb dX10_findWish_242 (by decide) ?_
                exact ih_198 (x5_198 + 1) hf _ _ hP hD hS _ (lv_sub hl [1, 2, 3, 4, 0] rfl)
          refine L198 _ (fun x5_198 hf H locs hP hD hS ls hl => ?_) f 0 hf _ _ hP hD hS _ (lv_sub hl [1, 2, 3, 4, 0] rfl)
          refine lv_aload_n hx hb dX10_findWish_245 rfl (lv_at hl 0 rfl) ?_
          refine va_get (D := D) (ci := 10) (v := .ref (h 35)) (C := RX10) (T := TX10) (N := 38) hx hb hts in_X10 hown hK hP 0 rfl rfl 35 (by decide) g_86 (fun _ h9 => h9) rfl dX10_findWish_246 ?_
          refine lv_iload hx hb dX10_findWish_249 (lv_at hl 3 rfl) ?_
          refine lv_iload hx hb dX10_findWish_251 (lv_at hl 4 rfl) ?_
          obtain ⟨c253, hf⟩ := gd hf
          refine va_iast hx hb hK hP hD hS 26 0 rfl rfl c253 dX10_findWish_253 (fun H locs hP hD hS => ?_)
          have hP : va_P D vwCl (w_M cs o h I (va_up Vm_188 35 (upd (Vm_188 35) x4_188.toNatClampNeg x5_198))) H := hP
          have hD : va_D A (w_M cs o h I (va_up Vm_188 35 (upd (Vm_188 35) x4_188.toNatClampNeg x5_198))) := hD
          refine lv_iload_n hx hb dX10_findWish_254 rfl (lv_at hl 2 rfl) ?_
          refine lv_iload hx hb dX10_findWish_255 (lv_at hl 4 rfl) ?_
          refine lv_isub hx hb dX10_findWish_257 ?_
          refine lv_istore_n (lv' := [(3, .int (x3_188 - x5_198)), (0, .ref o), (2, .int x2), (4, .int x4_188), (5, .int x5_198)]) hx hb dX10_findWish_258 rfl hl (by decide) rfl (fun ls hl => ?_)
          refine lv_iinc (v := (x4_188 + 1)) (lv' := [(4, .int (x4_188 + 1)), (3, .int (x3_188 - x5_198)), (0, .ref o), (2, .int x2), (5, .int x5_198)]) hx hb dX10_findWish_259 hl (k := 3) rfl (by rfl) (by decide) rfl (fun ls hl => ?_)
          refine lv_goto (tgt := 188) hx hb dX10_findWish_262 (by decide) ?_
          exact ih_188 (x3_188 - x5_198) (x4_188 + 1) (va_up Vm_188 35 (upd (Vm_188 35) x4_188.toNatClampNeg x5_198)) hf _ _ hP hD hS _ (lv_sub hl [2, 3, 1, 0] rfl)
    refine L188 _ (fun Vm_188 hf H locs hP hD hS ls hl => ?_) f x2 0 Vm_35 hf _ _ hP hD hS _ (lv_sub hl [2, 3, 1, 0] rfl)
    refine lv_aload_n hx hb dX10_findWish_265 rfl (lv_at hl 0 rfl) ?_
    refine va_get (D := D) (ci := 10) (v := .ref (h 34)) (C := RX10) (T := TX10) (N := 38) hx hb hts in_X10 hown hK hP 0 rfl rfl 34 (by decide) g_83 (fun _ h9 => h9) rfl dX10_findWish_266 ?_
    refine lv_iload_n hx hb dX10_findWish_269 rfl (lv_at hl 1 rfl) ?_
    obtain ⟨c270, hf⟩ := gd hf
    refine va_iald hx hb hK hP 25 0 rfl rfl c270 dX10_findWish_270 ?_
    exact hret ((Vm_188 34) x2.toNatClampNeg) I Vm_188 _ _ 271 _ hf hP hD hS dX10_findWish_271
  · replace hf := im c177 hf
    refine lv_bipush (v := (-9)) hx hb dX10_findWish_180 (by decide) ?_
    exact hret (-9) I Vm_35 _ _ 182 _ hf hP hD hS dX10_findWish_182
def M_wish (f : Nat) (x1 : Int32) (x2 : Int32) (I : FI) (V : FV) : Option (Int32 × FI × FV) := ob1 (M_noOne f x1 (va_up I 0 0) V) (fun zr1 => (if zr1 = 0 then ob1 (M_in f (x2.toInt64) 1 99) (fun zr2 => (if zr2 = 0 then some ((-2), (va_up I 0 0), V) else if x1 < 0 ∨ 6 ≤ x1.toNatClampNeg then none else ((if ((V 7) x1.toNatClampNeg) = 0 then ob3 (M_findWish f x1 x2 (va_up I 0 0) V) (fun zr3 I4 V5 => some (zr3, I4, V5)) else some ((-3), (va_up I 0 0), V))))) else some ((-1), (va_up I 0 0), V)))
abbrev rm_M_wish : Room := { frames := 2, cells := 0, slots := 0, locals := 50 }
set_option maxHeartbeats 4000000 in
set_option maxRecDepth 100000 in
theorem c_M_wish (l : Launch) (D : va_G) (cs : Nat → ClassId) (o : Nat) (h : Nat → Nat) (sz : Nat) (I : FI) (V : FV) (x1 : Int32) (x2 : Int32) (f : Nat) (out : Int32 × FI × FV) (hf : M_wish f x1 x2 I V = some out) : Met l yX10_wish wsX10_wish rm_M_wish (va_Pc [.ref o, .int x1, .int x2] (xP D cs (w_M cs o h I V) sz)) (va_Qi (fun r u => (r, u) = out) (fun (u : FI × FV) t => xA D cs (va_A (w_M cs o h I V) sz) (w_M cs o h u.1 u.2) t) (va_A (w_M cs o h I V) sz)) 0 0 (va_A (w_M cs o h I V) sz) := by
  refine Met.ofW (cc := cX10_wish) (maxL := 3) (ret := (some .int)) (by decide) rfl ?_
  intro p e s m args below meth c s₁ B hml hv
  obtain ⟨ha, hsz, hP, hK, hD0⟩ := hv
  have hx := B.exec
  have hb := B.bytes
  have hr := B.returns
  have hts := atoms_spec (ws := wsX10_wish) B.pre
  have hown : s.vm.findClass RX10 = some m.cls := findClass_of_methodNamed B.named
  have hlocks := B.notSynchronized
  have in_X10 : ∀ w ∈ u_ws RX10 TX10 38, w ∈ wsX10_wish := fun w h => List.mem_cons_of_mem _ (List.mem_append_right _ h)
  have g_92 := hts (.fieldLink RX10 92 "DaysLentModel" "thrown" "I") (by decide +kernel)
  have w_noOne_151 := cwV (R := rm_M_wish) (s := s) (args := args) (rm := rm_M_noOne) (mc := 0) (ms := 0) 1 hts gX10_wish_X10_noOne rfl rfl rfl (by decide +kernel) ⟨Nat.le_of_ble_eq_true rfl, Nat.le_of_ble_eq_true rfl⟩
  have k_168 := hts (.constantLong RX10 168 (99)) (by decide +kernel)
  have w_in_99 := va_cwS (R := rm_M_wish) (s := s) (args := args) (rm := rm_M_in) (mc := 0) (ms := 0) 3 hts gX10_wish_X10_in rfl rfl rfl (by decide +kernel) ⟨Nat.le_of_ble_eq_true rfl, Nat.le_of_ble_eq_true rfl⟩
  have g_19 := hts (.fieldLink RX10 19 "DaysLentModel" "dead" "[Z") (by decide +kernel)
  have w_findWish_198 := cwV (R := rm_M_wish) (s := s) (args := args) (rm := rm_M_findWish) (mc := 0) (ms := 0) 2 hts gX10_wish_X10_findWish rfl rfl rfl (by decide +kernel) ⟨Nat.le_of_ble_eq_true rfl, Nat.le_of_ble_eq_true rfl⟩
  subst hsz
  have hD := hD0.self (sz := s.heap.size)
  generalize hAe : va_A (w_M cs o h I V) s.heap.size = A at hD ⊢
  have hA : ∀ q : Nat, s.heap.size ≤ q → A q := fun q h => by rw [← hAe]; exact Or.inr h
  have hS : va_S A s.heap s.heap [] := va_S.rf
  have hl := lv_entry ([.ref o, .int x1, .int x2]) (n := 3) (Nat.le_of_ble_eq_true rfl)
  rw [show entryFrame m args 3 = entryFrame m ([.ref o, .int x1, .int x2] : List Value).toArray 3 from by rw [ha], lg_entry_eq]
  generalize (lg_sl ([.ref o, .int x1, .int x2]) ++ List.replicate (3 - (lg_sl ([.ref o, .int x1, .int x2])).length) Slot.unset).toArray = ls at hl ⊢
  have hl : lv_has ls 3 [(0, .ref o), (1, .int x1), (2, .int x2)] := hl
  generalize hQ : MQ below (va_Qi (fun r u => (r, u) = out) (fun (u : FI × FV) t => xA D cs A (w_M cs o h u.1 u.2) t) A) args s 0 0 A = Q
  show W p l e rm_M_wish s m args below meth c s.heap [] 0 0 Q (F0 m 0 ls [])
  have hret : ∀ (v : Int32) (Im9 : FI) (Vm9 : FV) (H : Heap) (locs : List Loc) (pc : Nat) (ls : Array Slot), some (v, Im9, Vm9) = some out → va_P D vwCl (w_M cs o h Im9 Vm9) H → va_D A (w_M cs o h Im9 Vm9) → va_S A s.heap H locs → decode cX10_wish pc = .ok (.ireturn, 1) → W p l e rm_M_wish s m args below meth c H locs 0 0 Q (F0 m pc ls [.int v]) := by
    intro v Im9 Vm9 H locs pc ls hf hP hD hS hd
    rw [← hQ]
    exact W.iret (v := v) hx hb hr (fun t ht hW => ⟨⟨v, (Im9, Vm9), rfl, Option.some.inj hf, by show va_P D vwCl (w_M cs o h Im9 Vm9) t.heap; rw [ht]; exact hP, va_K.moved hW.alike hK, hD⟩, hS.F ht⟩) hS.2.2 hd
  unfold M_wish at hf
  refine lv_aload_n hx hb dX10_wish_0 rfl (lv_at hl 0 rfl) ?_
  refine lv_iconst (v := 0) hx hb dX10_wish_1 (by decide) ?_
  refine va_put (D := D) (ci := 10) (v := .int 0) (ty := .int) (C := RX10) (T := TX10) (N := 38) hx hb hts in_X10 tyX10 tyX10_ok nmX10 hown hK hP hD hS 0 rfl rfl 0 (by decide) g_92 (fun _ h9 => h9) rfl (by decide +kernel) rfl rfl (Nat.le_of_ble_eq_true rfl) dX10_wish_2 (fun H locs hP hD hS => ?_)
  have hP : va_P D vwCl (w_M cs o h (va_up I 0 0) V) H := hP
  have hD : va_D A (w_M cs o h (va_up I 0 0) V) := hD
  refine lv_aload_n hx hb dX10_wish_5 rfl (lv_at hl 0 rfl) ?_
  refine lv_iload_n hx hb dX10_wish_6 rfl (lv_at hl 1 rfl) ?_
  obtain ⟨zr1, qr1, hf⟩ := bd1 hf
  refine vp_callSi (va_Run.run (va_runV (As := [.int x1]) (rest := []) ⟨hx, hb, hml, hown, hts⟩ (c_M_noOne l D cs o h (va_up I 0 0) V x1 f zr1 qr1) w_noOne_151 ⟨xR_moved, va_recv hK hP (ci := 10) (q0 := 0) rfl rfl, fun U hU hW => ⟨rfl, by rw [hU]; exact hP, va_K.moved hW.alike hK⟩⟩ rfl rfl hl.1 rfl (lv_room (Nat.le_of_ble_eq_true rfl)) dX10_wish_7 ⟨Nat.zero_le _, Nat.zero_le _⟩)) (fun r1 er1 => ?_)
  rw [er1]
  refine lv_if_eq (tgt := 15) hx hb dX10_wish_10 (by decide) (fun c10 => ?_) (fun c10 => ?_)
  · replace hf := ip c10 hf
    refine lv_iload_n hx hb dX10_wish_15 rfl (lv_at hl 2 rfl) ?_
    refine lv_i2l (v := x2.toInt64) hx hb dX10_wish_16 rfl ?_
    refine lv_lconst (v := 1) hx hb dX10_wish_17 (by decide) ?_
    refine lv_ldc2 (v := 99) hx hb hown k_168 dX10_wish_18 ?_
    obtain ⟨zr2, qr2, hf⟩ := bd1 hf
    refine vp_callSi (va_Run.run (va_runS (As := [.long (x2.toInt64), .long 1, .long 99]) (rest := []) ⟨hx, hb, hml, hown, hts⟩ (c_M_in l (x2.toInt64) 1 99 f zr2 qr2) w_in_99 ⟨fun a U g mk q => q, fun U hU hW => ⟨rfl, trivial⟩⟩ rfl rfl hl.1 rfl (lv_room (Nat.le_of_ble_eq_true rfl)) dX10_wish_21 ⟨Nat.zero_le _, Nat.zero_le _⟩)) (fun r2 er2 => ?_)
    rw [er2]
    refine lv_if_ne (tgt := 30) hx hb dX10_wish_24 (by decide) (fun c24 => ?_) (fun c24 => ?_)
    · replace hf := im c24 hf
      refine lv_aload_n hx hb dX10_wish_30 rfl (lv_at hl 0 rfl) ?_
      refine va_get (D := D) (ci := 10) (v := .ref (h 7)) (C := RX10) (T := TX10) (N := 38) hx hb hts in_X10 hown hK hP 0 rfl rfl 7 (by decide) g_19 (fun _ h9 => h9) rfl dX10_wish_31 ?_
      refine lv_iload_n hx hb dX10_wish_34 rfl (lv_at hl 1 rfl) ?_
      obtain ⟨c35, hf⟩ := gd hf
      refine va_zald hx hb hK hP 4 1 rfl rfl c35 dX10_wish_35 ?_
      refine lv_if_eq (tgt := 44) hx hb dX10_wish_36 (by decide) (fun c36 => ?_) (fun c36 => ?_)
      · replace hf := ip c36 hf
        refine lv_aload_n hx hb dX10_wish_44 rfl (lv_at hl 0 rfl) ?_
        refine lv_iload_n hx hb dX10_wish_45 rfl (lv_at hl 1 rfl) ?_
        refine lv_iload_n hx hb dX10_wish_46 rfl (lv_at hl 2 rfl) ?_
        obtain ⟨zr3, I4, V5, qr3, hf⟩ := bd3 hf
        have hFc := xfree hD hS hA
        refine va_calli (va_runV (As := [.int x1, .int x2]) (rest := []) ⟨hx, hb, hml, hown, hts⟩ (c_M_findWish l D cs o h _ (va_up I 0 0) V x1 x2 f _ qr3) w_findWish_198 ⟨xP_moved, va_recv hK hP (ci := 10) (q0 := 0) rfl rfl, fun U hU hW => ⟨rfl, by rw [hU], by rw [hU]; exact hP, va_K.moved hW.alike hK, hD.weaken (fun _ _ _ _ => trivial)⟩⟩ rfl rfl hl.1 rfl (lv_room (Nat.le_of_ble_eq_true rfl)) dX10_wish_47 ⟨Nat.zero_le _, Nat.zero_le _⟩) hS (fun q _ h9 => hFc q h9) hFc (fun r3 u t H1 locs ht hvm hw hB hz1 hk1 hS => ?_)
        have er3 := congrArg Prod.fst hw
        have eu := congrArg Prod.snd hw
        dsimp only at er3 eu
        rw [er3]
        rw [eu] at hB
        obtain ⟨hP1, hK1, hD1⟩ := hB
        have hP : va_P D vwCl (w_M cs o h I4 V5) H1 := by rw [← ht]; exact hP1
        have hD : va_D A (w_M cs o h I4 V5) := hD1.weaken (fun _ q _ h9 => hFc q.1 h9)
        exact hret zr3 I4 V5 _ _ 50 _ hf hP hD hS dX10_wish_50
      · replace hf := im c36 hf
        refine lv_bipush (v := (-3)) hx hb dX10_wish_39 (by decide) ?_
        refine lv_goto (tgt := 50) hx hb dX10_wish_41 (by decide) ?_
        exact hret (-3) (va_up I 0 0) V _ _ 50 _ hf hP hD hS dX10_wish_50
    · replace hf := ip c24 hf
      refine lv_bipush (v := (-2)) hx hb dX10_wish_27 (by decide) ?_
      exact hret (-2) (va_up I 0 0) V _ _ 29 _ hf hP hD hS dX10_wish_29
  · replace hf := im c10 hf
    refine lv_iconst (v := (-1)) hx hb dX10_wish_13 (by decide) ?_
    exact hret (-1) (va_up I 0 0) V _ _ 14 _ hf hP hD hS dX10_wish_14
def M_wishBy (f : Nat) (x1 : Int32) (x2 : Int32) (x3 : Int32) (I : FI) (V : FV) : Option (Int32 × FI × FV) := ob1 (M_noOne f x1 (va_up I 0 0) V) (fun zr1 => (if zr1 = 0 then ob1 (M_noOne f x3 (va_up I 0 0) V) (fun zr2 => (if zr2 = 0 then ob1 (M_in f (x2.toInt64) 1 99) (fun zr3 => (if zr3 = 0 then some ((-2), (va_up I 0 0), V) else if x1 < 0 ∨ 6 ≤ x1.toNatClampNeg then none else ((if ((V 7) x1.toNatClampNeg) = 0 then ob3 (M_findWish f x1 x2 (va_up I 0 0) V) (fun zr4 I5 V6 => (if zr4 = (-9) then some ((-9), I5, V6) else if x3 < 0 ∨ 6 ≤ x3.toNatClampNeg then none else (some (((V6 35) x3.toNatClampNeg), I5, V6)))) else some ((-3), (va_up I 0 0), V))))) else some ((-1), (va_up I 0 0), V))) else some ((-1), (va_up I 0 0), V)))
abbrev rm_M_wishBy : Room := { frames := 2, cells := 0, slots := 0, locals := 50 }
set_option maxHeartbeats 4000000 in
set_option maxRecDepth 100000 in
theorem c_M_wishBy (l : Launch) (D : va_G) (cs : Nat → ClassId) (o : Nat) (h : Nat → Nat) (sz : Nat) (I : FI) (V : FV) (x1 : Int32) (x2 : Int32) (x3 : Int32) (f : Nat) (out : Int32 × FI × FV) (hf : M_wishBy f x1 x2 x3 I V = some out) : Met l yX10_wishBy wsX10_wishBy rm_M_wishBy (va_Pc [.ref o, .int x1, .int x2, .int x3] (xP D cs (w_M cs o h I V) sz)) (va_Qi (fun r u => (r, u) = out) (fun (u : FI × FV) t => xA D cs (va_A (w_M cs o h I V) sz) (w_M cs o h u.1 u.2) t) (va_A (w_M cs o h I V) sz)) 0 0 (va_A (w_M cs o h I V) sz) := by
  refine Met.ofW (cc := cX10_wishBy) (maxL := 4) (ret := (some .int)) (by decide) rfl ?_
  intro p e s m args below meth c s₁ B hml hv
  obtain ⟨ha, hsz, hP, hK, hD0⟩ := hv
  have hx := B.exec
  have hb := B.bytes
  have hr := B.returns
  have hts := atoms_spec (ws := wsX10_wishBy) B.pre
  have hown : s.vm.findClass RX10 = some m.cls := findClass_of_methodNamed B.named
  have hlocks := B.notSynchronized
  have in_X10 : ∀ w ∈ u_ws RX10 TX10 38, w ∈ wsX10_wishBy := fun w h => List.mem_cons_of_mem _ (List.mem_append_right _ h)
  have g_92 := hts (.fieldLink RX10 92 "DaysLentModel" "thrown" "I") (by decide +kernel)
  have w_noOne_151 := cwV (R := rm_M_wishBy) (s := s) (args := args) (rm := rm_M_noOne) (mc := 0) (ms := 0) 1 hts gX10_wishBy_X10_noOne rfl rfl rfl (by decide +kernel) ⟨Nat.le_of_ble_eq_true rfl, Nat.le_of_ble_eq_true rfl⟩
  have k_168 := hts (.constantLong RX10 168 (99)) (by decide +kernel)
  have w_in_99 := va_cwS (R := rm_M_wishBy) (s := s) (args := args) (rm := rm_M_in) (mc := 0) (ms := 0) 3 hts gX10_wishBy_X10_in rfl rfl rfl (by decide +kernel) ⟨Nat.le_of_ble_eq_true rfl, Nat.le_of_ble_eq_true rfl⟩
  have g_19 := hts (.fieldLink RX10 19 "DaysLentModel" "dead" "[Z") (by decide +kernel)
  have w_findWish_198 := cwV (R := rm_M_wishBy) (s := s) (args := args) (rm := rm_M_findWish) (mc := 0) (ms := 0) 2 hts gX10_wishBy_X10_findWish rfl rfl rfl (by decide +kernel) ⟨Nat.le_of_ble_eq_true rfl, Nat.le_of_ble_eq_true rfl⟩
  have g_86 := hts (.fieldLink RX10 86 "DaysLentModel" "lends" "[I") (by decide +kernel)
  subst hsz
  have hD := hD0.self (sz := s.heap.size)
  generalize hAe : va_A (w_M cs o h I V) s.heap.size = A at hD ⊢
  have hA : ∀ q : Nat, s.heap.size ≤ q → A q := fun q h => by rw [← hAe]; exact Or.inr h
  have hS : va_S A s.heap s.heap [] := va_S.rf
  have hl := lv_entry ([.ref o, .int x1, .int x2, .int x3]) (n := 4) (Nat.le_of_ble_eq_true rfl)
  rw [show entryFrame m args 4 = entryFrame m ([.ref o, .int x1, .int x2, .int x3] : List Value).toArray 4 from by rw [ha], lg_entry_eq]
  generalize (lg_sl ([.ref o, .int x1, .int x2, .int x3]) ++ List.replicate (4 - (lg_sl ([.ref o, .int x1, .int x2, .int x3])).length) Slot.unset).toArray = ls at hl ⊢
  have hl : lv_has ls 4 [(0, .ref o), (1, .int x1), (2, .int x2), (3, .int x3)] := hl
  generalize hQ : MQ below (va_Qi (fun r u => (r, u) = out) (fun (u : FI × FV) t => xA D cs A (w_M cs o h u.1 u.2) t) A) args s 0 0 A = Q
  show W p l e rm_M_wishBy s m args below meth c s.heap [] 0 0 Q (F0 m 0 ls [])
  have hret : ∀ (v : Int32) (Im9 : FI) (Vm9 : FV) (H : Heap) (locs : List Loc) (pc : Nat) (ls : Array Slot), some (v, Im9, Vm9) = some out → va_P D vwCl (w_M cs o h Im9 Vm9) H → va_D A (w_M cs o h Im9 Vm9) → va_S A s.heap H locs → decode cX10_wishBy pc = .ok (.ireturn, 1) → W p l e rm_M_wishBy s m args below meth c H locs 0 0 Q (F0 m pc ls [.int v]) := by
    intro v Im9 Vm9 H locs pc ls hf hP hD hS hd
    rw [← hQ]
    exact W.iret (v := v) hx hb hr (fun t ht hW => ⟨⟨v, (Im9, Vm9), rfl, Option.some.inj hf, by show va_P D vwCl (w_M cs o h Im9 Vm9) t.heap; rw [ht]; exact hP, va_K.moved hW.alike hK, hD⟩, hS.F ht⟩) hS.2.2 hd
  unfold M_wishBy at hf
  refine lv_aload_n hx hb dX10_wishBy_0 rfl (lv_at hl 0 rfl) ?_
  refine lv_iconst (v := 0) hx hb dX10_wishBy_1 (by decide) ?_
  refine va_put (D := D) (ci := 10) (v := .int 0) (ty := .int) (C := RX10) (T := TX10) (N := 38) hx hb hts in_X10 tyX10 tyX10_ok nmX10 hown hK hP hD hS 0 rfl rfl 0 (by decide) g_92 (fun _ h9 => h9) rfl (by decide +kernel) rfl rfl (Nat.le_of_ble_eq_true rfl) dX10_wishBy_2 (fun H locs hP hD hS => ?_)
  have hP : va_P D vwCl (w_M cs o h (va_up I 0 0) V) H := hP
  have hD : va_D A (w_M cs o h (va_up I 0 0) V) := hD
  refine lv_aload_n hx hb dX10_wishBy_5 rfl (lv_at hl 0 rfl) ?_
  refine lv_iload_n hx hb dX10_wishBy_6 rfl (lv_at hl 1 rfl) ?_
  obtain ⟨zr1, qr1, hf⟩ := bd1 hf
  refine vp_callSi (va_Run.run (va_runV (As := [.int x1]) (rest := []) ⟨hx, hb, hml, hown, hts⟩ (c_M_noOne l D cs o h (va_up I 0 0) V x1 f zr1 qr1) w_noOne_151 ⟨xR_moved, va_recv hK hP (ci := 10) (q0 := 0) rfl rfl, fun U hU hW => ⟨rfl, by rw [hU]; exact hP, va_K.moved hW.alike hK⟩⟩ rfl rfl hl.1 rfl (lv_room (Nat.le_of_ble_eq_true rfl)) dX10_wishBy_7 ⟨Nat.zero_le _, Nat.zero_le _⟩)) (fun r1 er1 => ?_)
  rw [er1]
  refine lv_if_ne (tgt := 21) hx hb dX10_wishBy_10 (by decide) (fun c10 => ?_) (fun c10 => ?_)
  · replace hf := im c10 hf
    refine lv_iconst (v := (-1)) hx hb dX10_wishBy_21 (by decide) ?_
    exact hret (-1) (va_up I 0 0) V _ _ 22 _ hf hP hD hS dX10_wishBy_22
  · replace hf := ip c10 hf
    refine lv_aload_n hx hb dX10_wishBy_13 rfl (lv_at hl 0 rfl) ?_
    refine lv_iload_n hx hb dX10_wishBy_14 rfl (lv_at hl 3 rfl) ?_
    obtain ⟨zr2, qr2, hf⟩ := bd1 hf
    refine vp_callSi (va_Run.run (va_runV (As := [.int x3]) (rest := []) ⟨hx, hb, hml, hown, hts⟩ (c_M_noOne l D cs o h (va_up I 0 0) V x3 f zr2 qr2) w_noOne_151 ⟨xR_moved, va_recv hK hP (ci := 10) (q0 := 0) rfl rfl, fun U hU hW => ⟨rfl, by rw [hU]; exact hP, va_K.moved hW.alike hK⟩⟩ rfl rfl hl.1 rfl (lv_room (Nat.le_of_ble_eq_true rfl)) dX10_wishBy_15 ⟨Nat.zero_le _, Nat.zero_le _⟩)) (fun r2 er2 => ?_)
    rw [er2]
    refine lv_if_eq (tgt := 23) hx hb dX10_wishBy_18 (by decide) (fun c18 => ?_) (fun c18 => ?_)
    · replace hf := ip c18 hf
      refine lv_iload_n hx hb dX10_wishBy_23 rfl (lv_at hl 2 rfl) ?_
      refine lv_i2l (v := x2.toInt64) hx hb dX10_wishBy_24 rfl ?_
      refine lv_lconst (v := 1) hx hb dX10_wishBy_25 (by decide) ?_
      refine lv_ldc2 (v := 99) hx hb hown k_168 dX10_wishBy_26 ?_
      obtain ⟨zr3, qr3, hf⟩ := bd1 hf
      refine vp_callSi (va_Run.run (va_runS (As := [.long (x2.toInt64), .long 1, .long 99]) (rest := []) ⟨hx, hb, hml, hown, hts⟩ (c_M_in l (x2.toInt64) 1 99 f zr3 qr3) w_in_99 ⟨fun a U g mk q => q, fun U hU hW => ⟨rfl, trivial⟩⟩ rfl rfl hl.1 rfl (lv_room (Nat.le_of_ble_eq_true rfl)) dX10_wishBy_29 ⟨Nat.zero_le _, Nat.zero_le _⟩)) (fun r3 er3 => ?_)
      rw [er3]
      refine lv_if_ne (tgt := 38) hx hb dX10_wishBy_32 (by decide) (fun c32 => ?_) (fun c32 => ?_)
      · replace hf := im c32 hf
        refine lv_aload_n hx hb dX10_wishBy_38 rfl (lv_at hl 0 rfl) ?_
        refine va_get (D := D) (ci := 10) (v := .ref (h 7)) (C := RX10) (T := TX10) (N := 38) hx hb hts in_X10 hown hK hP 0 rfl rfl 7 (by decide) g_19 (fun _ h9 => h9) rfl dX10_wishBy_39 ?_
        refine lv_iload_n hx hb dX10_wishBy_42 rfl (lv_at hl 1 rfl) ?_
        obtain ⟨c43, hf⟩ := gd hf
        refine va_zald hx hb hK hP 4 1 rfl rfl c43 dX10_wishBy_43 ?_
        refine lv_if_eq (tgt := 50) hx hb dX10_wishBy_44 (by decide) (fun c44 => ?_) (fun c44 => ?_)
        · replace hf := ip c44 hf
          refine lv_aload_n hx hb dX10_wishBy_50 rfl (lv_at hl 0 rfl) ?_
          refine lv_iload_n hx hb dX10_wishBy_51 rfl (lv_at hl 1 rfl) ?_
          refine lv_iload_n hx hb dX10_wishBy_52 rfl (lv_at hl 2 rfl) ?_
          obtain ⟨zr4, I5, V6, qr4, hf⟩ := bd3 hf
          have hFc := xfree hD hS hA
          refine va_calli (va_runV (As := [.int x1, .int x2]) (rest := []) ⟨hx, hb, hml, hown, hts⟩ (c_M_findWish l D cs o h _ (va_up I 0 0) V x1 x2 f _ qr4) w_findWish_198 ⟨xP_moved, va_recv hK hP (ci := 10) (q0 := 0) rfl rfl, fun U hU hW => ⟨rfl, by rw [hU], by rw [hU]; exact hP, va_K.moved hW.alike hK, hD.weaken (fun _ _ _ _ => trivial)⟩⟩ rfl rfl hl.1 rfl (lv_room (Nat.le_of_ble_eq_true rfl)) dX10_wishBy_53 ⟨Nat.zero_le _, Nat.zero_le _⟩) hS (fun q _ h9 => hFc q h9) hFc (fun r4 u t H1 locs ht hvm hw hB hz1 hk1 hS => ?_)
          have er4 := congrArg Prod.fst hw
          have eu := congrArg Prod.snd hw
          dsimp only at er4 eu
          rw [er4]
          rw [eu] at hB
          obtain ⟨hP1, hK1, hD1⟩ := hB
          have hP : va_P D vwCl (w_M cs o h I5 V6) H1 := by rw [← ht]; exact hP1
          have hD : va_D A (w_M cs o h I5 V6) := hD1.weaken (fun _ q _ h9 => hFc q.1 h9)
          refine lv_bipush (v := (-9)) hx hb dX10_wishBy_56 (by decide) ?_
          refine lv_icmp_ne (tgt := 66) hx hb dX10_wishBy_58 (by decide) (fun c58 => ?_) (fun c58 => ?_)
          · replace hf := im c58 hf
            refine lv_aload_n hx hb dX10_wishBy_66 rfl (lv_at hl 0 rfl) ?_
            refine va_get (D := D) (ci := 10) (v := .ref (h 35)) (C := RX10) (T := TX10) (N := 38) hx hb hts in_X10 hown hK hP 0 rfl rfl 35 (by decide) g_86 (fun _ h9 => h9) rfl dX10_wishBy_67 ?_
            refine lv_iload_n hx hb dX10_wishBy_70 rfl (lv_at hl 3 rfl) ?_
            obtain ⟨c71, hf⟩ := gd hf
            refine va_iald hx hb hK hP 26 0 rfl rfl c71 dX10_wishBy_71 ?_
            exact hret ((V6 35) x3.toNatClampNeg) I5 V6 _ _ 72 _ hf hP hD hS dX10_wishBy_72
          · replace hf := ip c58 hf
            refine lv_bipush (v := (-9)) hx hb dX10_wishBy_61 (by decide) ?_
            refine lv_goto (tgt := 72) hx hb dX10_wishBy_63 (by decide) ?_
            exact hret (-9) I5 V6 _ _ 72 _ hf hP hD hS dX10_wishBy_72
        · replace hf := im c44 hf
          refine lv_bipush (v := (-3)) hx hb dX10_wishBy_47 (by decide) ?_
          exact hret (-3) (va_up I 0 0) V _ _ 49 _ hf hP hD hS dX10_wishBy_49
      · replace hf := ip c32 hf
        refine lv_bipush (v := (-2)) hx hb dX10_wishBy_35 (by decide) ?_
        exact hret (-2) (va_up I 0 0) V _ _ 37 _ hf hP hD hS dX10_wishBy_37
    · replace hf := im c18 hf
      refine lv_iconst (v := (-1)) hx hb dX10_wishBy_21 (by decide) ?_
      exact hret (-1) (va_up I 0 0) V _ _ 22 _ hf hP hD hS dX10_wishBy_22
def M_layAskers_L20 {ρ : Type} (f : Nat) (Im_7 : FI) (Vm_7 : FV) (x1 : Int32) (x2_7 : Int32) (k_20 : Int32 → Option ρ) : Nat → Int32 → Int32 → Option ρ
  | 0, _, _ => none
  | n_20 + 1, x3_20, x4_20 => (if (Im_7 9) ≤ x4_20 then (k_20 x3_20) else if x4_20 < 0 ∨ 12 ≤ x4_20.toNatClampNeg then none else ((nm (fun (t1_63 : Int32) => (M_layAskers_L20 f Im_7 Vm_7 x1 x2_7 k_20 n_20 (x3_20 + t1_63) (x4_20 + 1))) (fun j63 => nm (fun (u_62 : Unit) => (j63 0)) (fun j62 => (if ((Vm_7 11) x4_20.toNatClampNeg) = x1 then if x4_20 < 0 ∨ 12 ≤ x4_20.toNatClampNeg then none else ((if ((Vm_7 10) x4_20.toNatClampNeg) = x2_7 then if x4_20 < 0 ∨ 12 ≤ x4_20.toNatClampNeg then none else ((j63 ((Vm_7 12) x4_20.toNatClampNeg))) else (j62 ()))) else (j62 ())))))))
def M_layAskers_L7 {ρ : Type} (f : Nat) (x1 : Int32) (k_7 : FI → FV → Option ρ) : Nat → Int32 → FI → FV → Option ρ
  | 0, _, _, _ => none
  | n_7 + 1, x2_7, Im_7, Vm_7 => (if (Im_7 4) ≤ x2_7 then (k_7 Im_7 Vm_7) else (M_layAskers_L20 f Im_7 Vm_7 x1 x2_7 (fun (x3_20 : Int32) => (nm (fun (Im_95 : FI) (Vm_95 : FV) => (M_layAskers_L7 f x1 k_7 n_7 (x2_7 + 1) Im_95 Vm_95)) (fun j95 => (if x3_20 ≤ 0 then (j95 Im_7 Vm_7) else if (Im_7 37) < 0 ∨ 6 ≤ (Im_7 37).toNatClampNeg then none else ((j95 (va_up Im_7 37 ((Im_7 37) + 1)) (va_up Vm_7 36 (upd (Vm_7 36) (Im_7 37).toNatClampNeg x3_20)))))))) f 0 0))
def M_layAskers (f : Nat) (x1 : Int32) (I : FI) (V : FV) : Option (FI × FV) := (M_layAskers_L7 f x1 (fun (Im_7 : FI) (Vm_7 : FV) => some (Im_7, Vm_7)) f 0 (va_up I 37 0) V)
abbrev rm_M_layAskers : Room := { frames := 0, cells := 0, slots := 0, locals := 0 }
set_option maxHeartbeats 4000000 in
set_option maxRecDepth 100000 in
theorem c_M_layAskers (l : Launch) (D : va_G) (cs : Nat → ClassId) (o : Nat) (h : Nat → Nat) (sz : Nat) (I : FI) (V : FV) (x1 : Int32) (f : Nat) (out : FI × FV) (hf : M_layAskers f x1 I V = some out) : Met l yX10_layAskers wsX10_layAskers rm_M_layAskers (va_Pc [.ref o, .int x1] (xP D cs (w_M cs o h I V) sz)) (va_Qv (fun u => u = out) (fun (u : FI × FV) t => xA D cs (va_A (w_M cs o h I V) sz) (w_M cs o h u.1 u.2) t) (va_A (w_M cs o h I V) sz)) 0 0 (va_A (w_M cs o h I V) sz) := by
  refine Met.ofW (cc := cX10_layAskers) (maxL := 5) (ret := none) (by decide) rfl ?_
  intro p e s m args below meth c s₁ B hml hv
  obtain ⟨ha, hsz, hP, hK, hD0⟩ := hv
  have hx := B.exec
  have hb := B.bytes
  have hr := B.returns
  have hts := atoms_spec (ws := wsX10_layAskers) B.pre
  have hown : s.vm.findClass RX10 = some m.cls := findClass_of_methodNamed B.named
  have hlocks := B.notSynchronized
  have in_X10 : ∀ w ∈ u_ws RX10 TX10 38, w ∈ wsX10_layAskers := fun w h => List.mem_cons_of_mem _ (List.mem_append_right _ h)
  have g_201 := hts (.fieldLink RX10 201 "DaysLentModel" "askers" "I") (by decide +kernel)
  have g_96 := hts (.fieldLink RX10 96 "DaysLentModel" "people" "I") (by decide +kernel)
  have g_135 := hts (.fieldLink RX10 135 "DaysLentModel" "debts" "I") (by decide +kernel)
  have g_29 := hts (.fieldLink RX10 29 "DaysLentModel" "owes" "[I") (by decide +kernel)
  have g_26 := hts (.fieldLink RX10 26 "DaysLentModel" "owed" "[I") (by decide +kernel)
  have g_32 := hts (.fieldLink RX10 32 "DaysLentModel" "much" "[I") (by decide +kernel)
  have g_89 := hts (.fieldLink RX10 89 "DaysLentModel" "all" "[I") (by decide +kernel)
  subst hsz
  have hD := hD0.self (sz := s.heap.size)
  generalize hAe : va_A (w_M cs o h I V) s.heap.size = A at hD ⊢
  have hA : ∀ q : Nat, s.heap.size ≤ q → A q := fun q h => by rw [← hAe]; exact Or.inr h
  have hS : va_S A s.heap s.heap [] := va_S.rf
  have hl := lv_entry ([.ref o, .int x1]) (n := 5) (Nat.le_of_ble_eq_true rfl)
  rw [show entryFrame m args 5 = entryFrame m ([.ref o, .int x1] : List Value).toArray 5 from by rw [ha], lg_entry_eq]
  generalize (lg_sl ([.ref o, .int x1]) ++ List.replicate (5 - (lg_sl ([.ref o, .int x1])).length) Slot.unset).toArray = ls at hl ⊢
  have hl : lv_has ls 5 [(0, .ref o), (1, .int x1)] := hl
  generalize hQ : MQ below (va_Qv (fun u => u = out) (fun (u : FI × FV) t => xA D cs A (w_M cs o h u.1 u.2) t) A) args s 0 0 A = Q
  show W p l e rm_M_layAskers s m args below meth c s.heap [] 0 0 Q (F0 m 0 ls [])
  have hret : ∀ (Im9 : FI) (Vm9 : FV) (H : Heap) (locs : List Loc) (pc : Nat) (ls : Array Slot), some (Im9, Vm9) = some out → va_P D vwCl (w_M cs o h Im9 Vm9) H → va_D A (w_M cs o h Im9 Vm9) → va_S A s.heap H locs → decode cX10_layAskers pc = .ok (.return_, 1) → W p l e rm_M_layAskers s m args below meth c H locs 0 0 Q (F0 m pc ls []) := by
    intro Im9 Vm9 H locs pc ls hf hP hD hS hd
    rw [← hQ]
    exact W.vret hx hb hr (fun t ht hW => ⟨⟨(Im9, Vm9), rfl, Option.some.inj hf, by show va_P D vwCl (w_M cs o h Im9 Vm9) t.heap; rw [ht]; exact hP, va_K.moved hW.alike hK, hD⟩, hS.F ht⟩) hS.2.2 hd
  unfold M_layAskers at hf
  refine lv_aload_n hx hb dX10_layAskers_0 rfl (lv_at hl 0 rfl) ?_
  refine lv_iconst (v := 0) hx hb dX10_layAskers_1 (by decide) ?_
  refine va_put (D := D) (ci := 10) (v := .int 0) (ty := .int) (C := RX10) (T := TX10) (N := 38) hx hb hts in_X10 tyX10 tyX10_ok nmX10 hown hK hP hD hS 0 rfl rfl 37 (by decide) g_201 (fun _ h9 => h9) rfl (by decide +kernel) rfl rfl (Nat.le_of_ble_eq_true rfl) dX10_layAskers_2 (fun H locs hP hD hS => ?_)
  have hP : va_P D vwCl (w_M cs o h (va_up I 37 0) V) H := hP
  have hD : va_D A (w_M cs o h (va_up I 37 0) V) := hD
  refine lv_iconst (v := 0) hx hb dX10_layAskers_5 (by decide) ?_
  refine lv_istore_n (lv' := [(2, .int 0), (0, .ref o), (1, .int x1)]) hx hb dX10_layAskers_6 rfl hl (by decide) rfl (fun ls hl => ?_)
  have L7 : ∀ (k_7 : FI → FV → Option (FI × FV)) (hk_7 : ∀ (Im_7 : FI) (Vm_7 : FV), k_7 Im_7 Vm_7 = some out → ∀ (H : Heap) (locs : List Loc), va_P D vwCl (w_M cs o h Im_7 Vm_7) H → va_D A (w_M cs o h Im_7 Vm_7) → va_S A s.heap H locs → ∀ ls : Array Slot, lv_has ls 5 [] → W p l e rm_M_layAskers s m args below meth c H locs 0 0 Q (F0 m 101 ls [])), ∀ (n_7 : Nat) (x2_7 : Int32) (Im_7 : FI) (Vm_7 : FV), M_layAskers_L7 f x1 k_7 n_7 x2_7 Im_7 Vm_7 = some out → ∀ (H : Heap) (locs : List Loc), va_P D vwCl (w_M cs o h Im_7 Vm_7) H → va_D A (w_M cs o h Im_7 Vm_7) → va_S A s.heap H locs → ∀ ls : Array Slot, lv_has ls 5 [(0, .ref o), (1, .int x1), (2, .int x2_7)] → W p l e rm_M_layAskers s m args below meth c H locs 0 0 Q (F0 m 7 ls []) := by
    intro k_7 hk_7 n_7
    induction n_7 with
    | zero => intro x2_7 Im_7 Vm_7 hf; rw [M_layAskers_L7] at hf; cases hf
    | succ n_7 ih_7 =>
      intro x2_7 Im_7 Vm_7 hf H locs hP hD hS ls hl
      rw [M_layAskers_L7] at hf
      refine lv_iload_n hx hb dX10_layAskers_7 rfl (lv_at hl 2 rfl) ?_
      refine lv_aload_n hx hb dX10_layAskers_8 rfl (lv_at hl 0 rfl) ?_
      refine va_get (D := D) (ci := 10) (v := .int (Im_7 4)) (C := RX10) (T := TX10) (N := 38) hx hb hts in_X10 hown hK hP 0 rfl rfl 4 (by decide) g_96 (fun _ h9 => h9) rfl dX10_layAskers_9 ?_
      refine lv_icmp_ge (tgt := 101) hx hb dX10_layAskers_12 (by decide) (fun c12 => ?_) (fun c12 => ?_)
      · replace hf := ip c12 hf
        exact hk_7 Im_7 Vm_7 hf _ _ hP hD hS _ (lv_sub hl [] rfl)
      · replace hf := im c12 hf
        refine lv_iconst (v := 0) hx hb dX10_layAskers_15 (by decide) ?_
        refine lv_istore_n (lv' := [(3, .int 0), (0, .ref o), (1, .int x1), (2, .int x2_7)]) hx hb dX10_layAskers_16 rfl hl (by decide) rfl (fun ls hl => ?_)
        refine lv_iconst (v := 0) hx hb dX10_layAskers_17 (by decide) ?_
        refine lv_istore (lv' := [(4, .int 0), (3, .int 0), (0, .ref o), (1, .int x1), (2, .int x2_7)]) hx hb dX10_layAskers_18 hl (by decide) rfl (fun ls hl => ?_)
        have L20 : ∀ (k_20 : Int32 → Option (FI × FV)) (hk_20 : ∀ (x3_20 : Int32), k_20 x3_20 = some out → ∀ (H : Heap) (locs : List Loc), va_P D vwCl (w_M cs o h Im_7 Vm_7) H → va_D A (w_M cs o h Im_7 Vm_7) → va_S A s.heap H locs → ∀ ls : Array Slot, lv_has ls 5 [(0, .ref o), (1, .int x1), (2, .int x2_7), (3, .int x3_20)] → W p l e rm_M_layAskers s m args below meth c H locs 0 0 Q (F0 m 71 ls [])), ∀ (n_20 : Nat) (x3_20 : Int32) (x4_20 : Int32), M_layAskers_L20 f Im_7 Vm_7 x1 x2_7 k_20 n_20 x3_20 x4_20 = some out → ∀ (H : Heap) (locs : List Loc), va_P D vwCl (w_M cs o h Im_7 Vm_7) H → va_D A (w_M cs o h Im_7 Vm_7) → va_S A s.heap H locs → ∀ ls : Array Slot, lv_has ls 5 [(0, .ref o), (1, .int x1), (2, .int x2_7), (3, .int x3_20), (4, .int x4_20)] → W p l e rm_M_layAskers s m args below meth c H locs 0 0 Q (F0 m 20 ls []) := by
          intro k_20 hk_20 n_20
          induction n_20 with
          | zero => intro x3_20 x4_20 hf; rw [M_layAskers_L20] at hf; cases hf
          | succ n_20 ih_20 =>
            intro x3_20 x4_20 hf H locs hP hD hS ls hl
            rw [M_layAskers_L20] at hf
            refine lv_iload hx hb dX10_layAskers_20 (lv_at hl 4 rfl) ?_
            refine lv_aload_n hx hb dX10_layAskers_22 rfl (lv_at hl 0 rfl) ?_
            refine va_get (D := D) (ci := 10) (v := .int (Im_7 9)) (C := RX10) (T := TX10) (N := 38) hx hb hts in_X10 hown hK hP 0 rfl rfl 9 (by decide) g_135 (fun _ h9 => h9) rfl dX10_layAskers_23 ?_
            refine lv_icmp_ge (tgt := 71) hx hb dX10_layAskers_26 (by decide) (fun c26 => ?_) (fun c26 => ?_)
            · replace hf := ip c26 hf
              exact hk_20 x3_20 hf _ _ hP hD hS _ (lv_sub hl [0, 1, 2, 3] rfl)
            · replace hf := im c26 hf
              refine lv_iload_n hx hb dX10_layAskers_29 rfl (lv_at hl 3 rfl) ?_
              refine lv_aload_n hx hb dX10_layAskers_30 rfl (lv_at hl 0 rfl) ?_
              refine va_get (D := D) (ci := 10) (v := .ref (h 11)) (C := RX10) (T := TX10) (N := 38) hx hb hts in_X10 hown hK hP 0 rfl rfl 11 (by decide) g_29 (fun _ h9 => h9) rfl dX10_layAskers_31 ?_
              refine lv_iload hx hb dX10_layAskers_34 (lv_at hl 4 rfl) ?_
              obtain ⟨c36, hf⟩ := gd hf
              refine va_iald hx hb hK hP 7 0 rfl rfl c36 dX10_layAskers_36 ?_
              refine lv_iload_n hx hb dX10_layAskers_37 rfl (lv_at hl 1 rfl) ?_
              obtain ⟨j63, ej63, hf⟩ := nme hf
              have J63 : ∀ (t1_63 : Int32), j63 t1_63 = some out → ∀ (H : Heap) (locs : List Loc), va_P D vwCl (w_M cs o h Im_7 Vm_7) H → va_D A (w_M cs o h Im_7 Vm_7) → va_S A s.heap H locs → ∀ ls : Array Slot, lv_has ls 5 [(0, .ref o), (1, .int x1), (2, .int x2_7), (4, .int x4_20)] → W p l e rm_M_layAskers s m args below meth c H locs 0 0 Q (F0 m 63 ls [.int t1_63, .int x3_20]) := by
                intro t1_63 hf H locs hP hD hS ls hl
                rw [ej63] at hf
                refine lv_iadd hx hb dX10_layAskers_63 ?_
                refine lv_istore_n (lv' := [(3, .int (x3_20 + t1_63)), (0, .ref o), (1, .int x1), (2, .int x2_7), (4, .int x4_20)]) hx hb dX10_layAskers_64 rfl hl (by decide) rfl (fun ls hl => ?_)
                refine lv_iinc (v := (x4_20 + 1)) (lv' := [(4, .int (x4_20 + 1)), (3, .int (x3_20 + t1_63)), (0, .ref o), (1, .int x1), (2, .int x2_7)]) hx hb dX10_layAskers_65 hl (k := 4) rfl (by rfl) (by decide) rfl (fun ls hl => ?_)
                refine lv_goto (tgt := 20) hx hb dX10_layAskers_68 (by decide) ?_
                exact ih_20 (x3_20 + t1_63) (x4_20 + 1) hf _ _ hP hD hS _ (lv_sub hl [2, 3, 4, 1, 0] rfl)
              obtain ⟨j62, ej62, hf⟩ := nme hf
              have J62 : ∀ (u_62 : Unit), j62 u_62 = some out → ∀ (H : Heap) (locs : List Loc), va_P D vwCl (w_M cs o h Im_7 Vm_7) H → va_D A (w_M cs o h Im_7 Vm_7) → va_S A s.heap H locs → ∀ ls : Array Slot, lv_has ls 5 [(0, .ref o), (1, .int x1), (2, .int x2_7), (4, .int x4_20)] → W p l e rm_M_layAskers s m args below meth c H locs 0 0 Q (F0 m 62 ls [.int x3_20]) := by
                intro u_62 hf H locs hP hD hS ls hl
                rw [ej62] at hf
                refine lv_iconst (v := 0) hx hb dX10_layAskers_62 (by decide) ?_
                exact J63 0 hf _ _ hP hD hS _ (lv_sub hl [0, 1, 2, 3] rfl)
              refine lv_icmp_ne (tgt := 62) hx hb dX10_layAskers_38 (by decide) (fun c38 => ?_) (fun c38 => ?_)
              · replace hf := im c38 hf
                exact J62 () hf _ _ hP hD hS _ (lv_sub hl [0, 1, 2, 4] rfl)
              · replace hf := ip c38 hf
                refine lv_aload_n hx hb dX10_layAskers_41 rfl (lv_at hl 0 rfl) ?_
                refine va_get (D := D) (ci := 10) (v := .ref (h 10)) (C := RX10) (T := TX10) (N := 38) hx hb hts in_X10 hown hK hP 0 rfl rfl 10 (by decide) g_26 (fun _ h9 => h9) rfl dX10_layAskers_42 ?_
                refine lv_iload hx hb dX10_layAskers_45 (lv_at hl 4 rfl) ?_
                obtain ⟨c47, hf⟩ := gd hf
                refine va_iald hx hb hK hP 6 0 rfl rfl c47 dX10_layAskers_47 ?_
                refine lv_iload_n hx hb dX10_layAskers_48 rfl (lv_at hl 2 rfl) ?_
                refine lv_icmp_ne (tgt := 62) hx hb dX10_layAskers_49 (by decide) (fun c49 => ?_) (fun c49 => ?_)
                · replace hf := im c49 hf
                  exact J62 () hf _ _ hP hD hS _ (lv_sub hl [0, 1, 2, 4] rfl)
                · replace hf := ip c49 hf
                  refine lv_aload_n hx hb dX10_layAskers_52 rfl (lv_at hl 0 rfl) ?_
                  refine va_get (D := D) (ci := 10) (v := .ref (h 12)) (C := RX10) (T := TX10) (N := 38) hx hb hts in_X10 hown hK hP 0 rfl rfl 12 (by decide) g_32 (fun _ h9 => h9) rfl dX10_layAskers_53 ?_
                  refine lv_iload hx hb dX10_layAskers_56 (lv_at hl 4 rfl) ?_
                  obtain ⟨c58, hf⟩ := gd hf
                  refine va_iald hx hb hK hP 8 0 rfl rfl c58 dX10_layAskers_58 ?_
                  refine lv_goto (tgt := 63) hx hb dX10_layAskers_59 (by decide) ?_
                  exact J63 ((Vm_7 12) x4_20.toNatClampNeg) hf _ _ hP hD hS _ (lv_sub hl [0, 1, 2, 4] rfl)
        refine L20 _ (fun x3_20 hf H locs hP hD hS ls hl => ?_) f 0 0 hf _ _ hP hD hS _ (lv_sub hl [2, 3, 4, 1, 0] rfl)
        refine lv_iload_n hx hb dX10_layAskers_71 rfl (lv_at hl 3 rfl) ?_
        obtain ⟨j95, ej95, hf⟩ := nme hf
        have J95 : ∀ (Im_95 : FI) (Vm_95 : FV), j95 Im_95 Vm_95 = some out → ∀ (H : Heap) (locs : List Loc), va_P D vwCl (w_M cs o h Im_95 Vm_95) H → va_D A (w_M cs o h Im_95 Vm_95) → va_S A s.heap H locs → ∀ ls : Array Slot, lv_has ls 5 [(0, .ref o), (1, .int x1), (2, .int x2_7)] → W p l e rm_M_layAskers s m args below meth c H locs 0 0 Q (F0 m 95 ls []) := by
          intro Im_95 Vm_95 hf H locs hP hD hS ls hl
          rw [ej95] at hf
          refine lv_iinc (v := (x2_7 + 1)) (lv' := [(2, .int (x2_7 + 1)), (0, .ref o), (1, .int x1)]) hx hb dX10_layAskers_95 hl (k := 2) rfl (by rfl) (by decide) rfl (fun ls hl => ?_)
          refine lv_goto (tgt := 7) hx hb dX10_layAskers_98 (by decide) ?_
          exact ih_7 (x2_7 + 1) Im_95 Vm_95 hf _ _ hP hD hS _ (lv_sub hl [1, 2, 0] rfl)
        refine lv_if_le (tgt := 95) hx hb dX10_layAskers_72 (by decide) (fun c72 => ?_) (fun c72 => ?_)
        · replace hf := ip c72 hf
          exact J95 Im_7 Vm_7 hf _ _ hP hD hS _ (lv_sub hl [0, 1, 2] rfl)
        · replace hf := im c72 hf
          refine lv_aload_n hx hb dX10_layAskers_75 rfl (lv_at hl 0 rfl) ?_
          refine va_get (D := D) (ci := 10) (v := .ref (h 36)) (C := RX10) (T := TX10) (N := 38) hx hb hts in_X10 hown hK hP 0 rfl rfl 36 (by decide) g_89 (fun _ h9 => h9) rfl dX10_layAskers_76 ?_
          refine lv_aload_n hx hb dX10_layAskers_79 rfl (lv_at hl 0 rfl) ?_
          refine va_get (D := D) (ci := 10) (v := .int (Im_7 37)) (C := RX10) (T := TX10) (N := 38) hx hb hts in_X10 hown hK hP 0 rfl rfl 37 (by decide) g_201 (fun _ h9 => h9) rfl dX10_layAskers_80 ?_
          refine lv_iload_n hx hb dX10_layAskers_83 rfl (lv_at hl 3 rfl) ?_
          obtain ⟨c84, hf⟩ := gd hf
          refine va_iast hx hb hK hP hD hS 27 0 rfl rfl c84 dX10_layAskers_84 (fun H locs hP hD hS => ?_)
          have hP : va_P D vwCl (w_M cs o h Im_7 (va_up Vm_7 36 (upd (Vm_7 36) (Im_7 37).toNatClampNeg x3_20))) H := hP
          have hD : va_D A (w_M cs o h Im_7 (va_up Vm_7 36 (upd (Vm_7 36) (Im_7 37).toNatClampNeg x3_20))) := hD
          refine lv_aload_n hx hb dX10_layAskers_85 rfl (lv_at hl 0 rfl) ?_
          refine lv_dup hx hb dX10_layAskers_86 rfl ?_
          refine va_get (D := D) (ci := 10) (v := .int (Im_7 37)) (C := RX10) (T := TX10) (N := 38) hx hb hts in_X10 hown hK hP 0 rfl rfl 37 (by decide) g_201 (fun _ h9 => h9) rfl dX10_layAskers_87 ?_
          refine lv_iconst (v := 1) hx hb dX10_layAskers_90 (by decide) ?_
          refine lv_iadd hx hb dX10_layAskers_91 ?_
          refine va_put (D := D) (ci := 10) (v := .int ((Im_7 37) + 1)) (ty := .int) (C := RX10) (T := TX10) (N := 38) hx hb hts in_X10 tyX10 tyX10_ok nmX10 hown hK hP hD hS 0 rfl rfl 37 (by decide) g_201 (fun _ h9 => h9) rfl (by decide +kernel) rfl rfl (Nat.le_of_ble_eq_true rfl) dX10_layAskers_92 (fun H locs hP hD hS => ?_)
          have hP : va_P D vwCl (w_M cs o h (va_up Im_7 37 ((Im_7 37) + 1)) (va_up Vm_7 36 (upd (Vm_7 36) (Im_7 37).toNatClampNeg x3_20))) H := hP
          have hD : va_D A (w_M cs o h (va_up Im_7 37 ((Im_7 37) + 1)) (va_up Vm_7 36 (upd (Vm_7 36) (Im_7 37).toNatClampNeg x3_20))) := hD
          exact J95 (va_up Im_7 37 ((Im_7 37) + 1)) (va_up Vm_7 36 (upd (Vm_7 36) (Im_7 37).toNatClampNeg x3_20)) hf _ _ hP hD hS _ (lv_sub hl [0, 1, 2] rfl)
  refine L7 _ (fun Im_7 Vm_7 hf H locs hP hD hS ls hl => ?_) f 0 (va_up I 37 0) V hf _ _ hP hD hS _ (lv_sub hl [1, 2, 0] rfl)
  exact hret Im_7 Vm_7 _ _ 101 _ hf hP hD hS dX10_layAskers_101
def M_enoughBy_L25 {ρ : Type} (f : Nat) (I : FI) (x5_5 : Int32) (V : FV) (x2 : Int32) (k_25 : Int64 → Int32 → Option ρ) : Nat → Int64 → Int32 → Int32 → Option ρ
  | 0, _, _, _ => none
  | n_25 + 1, x6_25, x8_25, x9_25 => (if (I 37) ≤ x9_25 then (k_25 x6_25 x8_25) else ob1 (M_has f x5_5 x9_25) (fun zr1 => (nm (fun (t1_56 : Int64) => ob1 (M_has f x5_5 x9_25) (fun zr2 => (nm (fun (t1_82 : Int32) => (M_enoughBy_L25 f I x5_5 V x2 k_25 n_25 (x6_25 * t1_56) (x8_25 + t1_82) (x9_25 + 1))) (fun j82 => (if zr2 = 0 then (j82 0) else if x9_25 < 0 ∨ 6 ≤ x9_25.toNatClampNeg then none else ((j82 ((V 36) x9_25.toNatClampNeg)))))))) (fun j56 => (if zr1 = 0 then (j56 ((10 - x2).toInt64)) else (j56 (x2.toInt64)))))))
def M_enoughBy_L5 {ρ : Type} (f : Nat) (I : FI) (V : FV) (x2 : Int32) (x1 : Int32) (k_5 : Int64 → Option ρ) : Nat → Int64 → Int32 → Option ρ
  | 0, _, _ => none
  | n_5 + 1, x3_5, x5_5 => (if (1 <<< ((I 37) &&& 31)) ≤ x5_5 then (k_5 x3_5) else (M_enoughBy_L25 f I x5_5 V x2 (fun (x6_25 : Int64) (x8_25 : Int32) => (nm (fun (t1_104 : Int64) => (M_enoughBy_L5 f I V x2 x1 k_5 n_5 (x3_5 + t1_104) (x5_5 + 1))) (fun j104 => (if x1 < x8_25 then (j104 0) else (j104 x6_25))))) f 1 0 0))
def M_enoughBy (f : Nat) (x1 : Int32) (x2 : Int32) (I : FI) (V : FV) : Option (Int64) := (M_enoughBy_L5 f I V x2 x1 (fun (x3_5 : Int64) => some x3_5) f 0 0)
abbrev rm_M_enoughBy : Room := { frames := 1, cells := 0, slots := 0, locals := 21 }
set_option maxHeartbeats 4000000 in
set_option maxRecDepth 100000 in
theorem c_M_enoughBy (l : Launch) (D : va_G) (cs : Nat → ClassId) (o : Nat) (h : Nat → Nat) (I : FI) (V : FV) (x1 : Int32) (x2 : Int32) (f : Nat) (out : Int64) (hf : M_enoughBy f x1 x2 I V = some out) : Met l yX10_enoughBy wsX10_enoughBy rm_M_enoughBy (va_Pc [.ref o, .int x1, .int x2] (xR D cs (w_M cs o h I V))) (vp_Sl (fun r => r = out)) 0 0 (fun _ => False) := by
  refine Met.ofW (cc := cX10_enoughBy) (maxL := 10) (ret := (some .long)) (by decide) rfl ?_
  intro p e s m args below meth c s₁ B hml hv
  obtain ⟨ha, hP, hK⟩ := hv
  have hx := B.exec
  have hb := B.bytes
  have hr := B.returns
  have hts := atoms_spec (ws := wsX10_enoughBy) B.pre
  have hown : s.vm.findClass RX10 = some m.cls := findClass_of_methodNamed B.named
  have hlocks := B.notSynchronized
  have in_X10 : ∀ w ∈ u_ws RX10 TX10 38, w ∈ wsX10_enoughBy := fun w h => List.mem_cons_of_mem _ (List.mem_append_right _ h)
  have g_201 := hts (.fieldLink RX10 201 "DaysLentModel" "askers" "I") (by decide +kernel)
  have w_has_160 := va_cwS (R := rm_M_enoughBy) (s := s) (args := args) (rm := rm_M_has) (mc := 0) (ms := 0) 2 hts gX10_enoughBy_X10_has rfl rfl rfl (by decide +kernel) ⟨Nat.le_of_ble_eq_true rfl, Nat.le_of_ble_eq_true rfl⟩
  have g_89 := hts (.fieldLink RX10 89 "DaysLentModel" "all" "[I") (by decide +kernel)
  have hl := lv_entry ([.ref o, .int x1, .int x2]) (n := 10) (Nat.le_of_ble_eq_true rfl)
  rw [show entryFrame m args 10 = entryFrame m ([.ref o, .int x1, .int x2] : List Value).toArray 10 from by rw [ha], lg_entry_eq]
  generalize (lg_sl ([.ref o, .int x1, .int x2]) ++ List.replicate (10 - (lg_sl ([.ref o, .int x1, .int x2])).length) Slot.unset).toArray = ls at hl ⊢
  have hl : lv_has ls 10 [(0, .ref o), (1, .int x1), (2, .int x2)] := hl
  generalize hQ : MQ below (vp_Sl (fun r => r = out)) args s 0 0 (fun _ => False) = Q
  show W p l e rm_M_enoughBy s m args below meth c s.heap [] 0 0 Q (F0 m 0 ls [])
  have hret : ∀ (v : Int64) (pc : Nat) (ls : Array Slot), some v = some out → decode cX10_enoughBy pc = .ok (.lreturn, 1) → W p l e rm_M_enoughBy s m args below meth c s.heap [] 0 0 Q (F0 m pc ls [.long v]) := by
    intro v pc ls hf hd
    rw [← hQ]
    exact W.lret (v := v) hx hb hr (fun t ht hW => ⟨v, rfl, Option.some.inj hf, ht⟩) (fun q h => by cases h) hd
  unfold M_enoughBy at hf
  refine lv_lconst (v := 0) hx hb dX10_enoughBy_0 (by decide) ?_
  refine lv_lstore_n (lv' := [(3, .long 0), (0, .ref o), (1, .int x1), (2, .int x2)]) hx hb dX10_enoughBy_1 rfl hl (by decide) rfl (fun ls hl => ?_)
  refine lv_iconst (v := 0) hx hb dX10_enoughBy_2 (by decide) ?_
  refine lv_istore (lv' := [(5, .int 0), (3, .long 0), (0, .ref o), (1, .int x1), (2, .int x2)]) hx hb dX10_enoughBy_3 hl (by decide) rfl (fun ls hl => ?_)
  have L5 : ∀ (k_5 : Int64 → Option (Int64)) (hk_5 : ∀ (x3_5 : Int64), k_5 x3_5 = some out → ∀ ls : Array Slot, lv_has ls 10 [(3, .long x3_5)] → W p l e rm_M_enoughBy s m args below meth c s.heap [] 0 0 Q (F0 m 112 ls [])), ∀ (n_5 : Nat) (x3_5 : Int64) (x5_5 : Int32), M_enoughBy_L5 f I V x2 x1 k_5 n_5 x3_5 x5_5 = some out → ∀ ls : Array Slot, lv_has ls 10 [(0, .ref o), (1, .int x1), (2, .int x2), (3, .long x3_5), (5, .int x5_5)] → W p l e rm_M_enoughBy s m args below meth c s.heap [] 0 0 Q (F0 m 5 ls []) := by
    intro k_5 hk_5 n_5
    induction n_5 with
    | zero => intro x3_5 x5_5 hf; rw [M_enoughBy_L5] at hf; cases hf
    | succ n_5 ih_5 =>
      intro x3_5 x5_5 hf ls hl
      rw [M_enoughBy_L5] at hf
      refine lv_iload hx hb dX10_enoughBy_5 (lv_at hl 4 rfl) ?_
      refine lv_iconst (v := 1) hx hb dX10_enoughBy_7 (by decide) ?_
      refine lv_aload_n hx hb dX10_enoughBy_8 rfl (lv_at hl 0 rfl) ?_
      refine va_get (D := D) (ci := 10) (v := .int (I 37)) (C := RX10) (T := TX10) (N := 38) hx hb hts in_X10 hown hK hP 0 rfl rfl 37 (by decide) g_201 (fun _ h9 => h9) rfl dX10_enoughBy_9 ?_
      refine lv_ishl hx hb dX10_enoughBy_12 ?_
      refine lv_icmp_ge (tgt := 112) hx hb dX10_enoughBy_13 (by decide) (fun c13 => ?_) (fun c13 => ?_)
      · replace hf := ip c13 hf
        exact hk_5 x3_5 hf _ (lv_sub hl [3] rfl)
      · replace hf := im c13 hf
        refine lv_lconst (v := 1) hx hb dX10_enoughBy_16 (by decide) ?_
        refine lv_lstore (lv' := [(6, .long 1), (0, .ref o), (1, .int x1), (2, .int x2), (3, .long x3_5), (5, .int x5_5)]) hx hb dX10_enoughBy_17 hl (by decide) rfl (fun ls hl => ?_)
        refine lv_iconst (v := 0) hx hb dX10_enoughBy_19 (by decide) ?_
        refine lv_istore (lv' := [(8, .int 0), (6, .long 1), (0, .ref o), (1, .int x1), (2, .int x2), (3, .long x3_5), (5, .int x5_5)]) hx hb dX10_enoughBy_20 hl (by decide) rfl (fun ls hl => ?_)
        refine lv_iconst (v := 0) hx hb dX10_enoughBy_22 (by decide) ?_
        refine lv_istore (lv' := [(9, .int 0), (8, .int 0), (6, .long 1), (0, .ref o), (1, .int x1), (2, .int x2), (3, .long x3_5), (5, .int x5_5)]) hx hb dX10_enoughBy_23 hl (by decide) rfl (fun ls hl => ?_)
        have L25 : ∀ (k_25 : Int64 → Int32 → Option (Int64)) (hk_25 : ∀ (x6_25 : Int64) (x8_25 : Int32), k_25 x6_25 x8_25 = some out → ∀ ls : Array Slot, lv_has ls 10 [(0, .ref o), (1, .int x1), (2, .int x2), (3, .long x3_5), (5, .int x5_5), (6, .long x6_25), (8, .int x8_25)] → W p l e rm_M_enoughBy s m args below meth c s.heap [] 0 0 Q (F0 m 91 ls [])), ∀ (n_25 : Nat) (x6_25 : Int64) (x8_25 : Int32) (x9_25 : Int32), M_enoughBy_L25 f I x5_5 V x2 k_25 n_25 x6_25 x8_25 x9_25 = some out → ∀ ls : Array Slot, lv_has ls 10 [(0, .ref o), (1, .int x1), (2, .int x2), (3, .long x3_5), (5, .int x5_5), (6, .long x6_25), (8, .int x8_25), (9, .int x9_25)] → W p l e rm_M_enoughBy s m args below meth c s.heap [] 0 0 Q (F0 m 25 ls []) := by
          intro k_25 hk_25 n_25
          induction n_25 with
          | zero => intro x6_25 x8_25 x9_25 hf; rw [M_enoughBy_L25] at hf; cases hf
          | succ n_25 ih_25 =>
            intro x6_25 x8_25 x9_25 hf ls hl
            rw [M_enoughBy_L25] at hf
            refine lv_iload hx hb dX10_enoughBy_25 (lv_at hl 7 rfl) ?_
            refine lv_aload_n hx hb dX10_enoughBy_27 rfl (lv_at hl 0 rfl) ?_
            refine va_get (D := D) (ci := 10) (v := .int (I 37)) (C := RX10) (T := TX10) (N := 38) hx hb hts in_X10 hown hK hP 0 rfl rfl 37 (by decide) g_201 (fun _ h9 => h9) rfl dX10_enoughBy_28 ?_
            refine lv_icmp_ge (tgt := 91) hx hb dX10_enoughBy_31 (by decide) (fun c31 => ?_) (fun c31 => ?_)
            · replace hf := ip c31 hf
              exact hk_25 x6_25 x8_25 hf _ (lv_sub hl [0, 1, 2, 3, 4, 5, 6] rfl)
            · replace hf := im c31 hf
              refine lv_lload hx hb dX10_enoughBy_34 (lv_at hl 5 rfl) ?_
              refine lv_iload hx hb dX10_enoughBy_36 (lv_at hl 4 rfl) ?_
              refine lv_iload hx hb dX10_enoughBy_38 (lv_at hl 7 rfl) ?_
              obtain ⟨zr1, qr1, hf⟩ := bd1 hf
              refine vp_callSi (va_Run.run (va_runS (As := [.int x5_5, .int x9_25]) (rest := [.long x6_25]) ⟨hx, hb, hml, hown, hts⟩ (c_M_has l x5_5 x9_25 f zr1 qr1) w_has_160 ⟨fun a U g mk q => q, fun U hU hW => ⟨rfl, trivial⟩⟩ rfl rfl hl.1 rfl (lv_room (Nat.le_of_ble_eq_true rfl)) dX10_enoughBy_40 ⟨Nat.zero_le _, Nat.zero_le _⟩)) (fun r1 er1 => ?_)
              rw [er1]
              obtain ⟨j56, ej56, hf⟩ := nme hf
              have J56 : ∀ (t1_56 : Int64), j56 t1_56 = some out → ∀ ls : Array Slot, lv_has ls 10 [(0, .ref o), (1, .int x1), (2, .int x2), (3, .long x3_5), (5, .int x5_5), (8, .int x8_25), (9, .int x9_25)] → W p l e rm_M_enoughBy s m args below meth c s.heap [] 0 0 Q (F0 m 56 ls [.long t1_56, .long x6_25]) := by
                intro t1_56 hf ls hl
                rw [ej56] at hf
                refine lv_lmul hx hb dX10_enoughBy_56 ?_
                refine lv_lstore (lv' := [(6, .long (x6_25 * t1_56)), (0, .ref o), (1, .int x1), (2, .int x2), (3, .long x3_5), (5, .int x5_5), (8, .int x8_25), (9, .int x9_25)]) hx hb dX10_enoughBy_57 hl (by decide) rfl (fun ls hl => ?_)
                refine lv_iload hx hb dX10_enoughBy_59 (lv_at hl 6 rfl) ?_
                refine lv_iload hx hb dX10_enoughBy_61 (lv_at hl 5 rfl) ?_
                refine lv_iload hx hb dX10_enoughBy_63 (lv_at hl 7 rfl) ?_
                obtain ⟨zr2, qr2, hf⟩ := bd1 hf
                refine vp_callSi (va_Run.run (va_runS (As := [.int x5_5, .int x9_25]) (rest := [.int x8_25]) ⟨hx, hb, hml, hown, hts⟩ (c_M_has l x5_5 x9_25 f zr2 qr2) w_has_160 ⟨fun a U g mk q => q, fun U hU hW => ⟨rfl, trivial⟩⟩ rfl rfl hl.1 rfl (lv_room (Nat.le_of_ble_eq_true rfl)) dX10_enoughBy_65 ⟨Nat.zero_le _, Nat.zero_le _⟩)) (fun r2 er2 => ?_)
                rw [er2]
                obtain ⟨j82, ej82, hf⟩ := nme hf
                have J82 : ∀ (t1_82 : Int32), j82 t1_82 = some out → ∀ ls : Array Slot, lv_has ls 10 [(0, .ref o), (1, .int x1), (2, .int x2), (3, .long x3_5), (5, .int x5_5), (6, .long (x6_25 * t1_56)), (9, .int x9_25)] → W p l e rm_M_enoughBy s m args below meth c s.heap [] 0 0 Q (F0 m 82 ls [.int t1_82, .int x8_25]) := by
                  intro t1_82 hf ls hl
                  rw [ej82] at hf
                  refine lv_iadd hx hb dX10_enoughBy_82 ?_
                  refine lv_istore (lv' := [(8, .int (x8_25 + t1_82)), (0, .ref o), (1, .int x1), (2, .int x2), (3, .long x3_5), (5, .int x5_5), (6, .long (x6_25 * t1_56)), (9, .int x9_25)]) hx hb dX10_enoughBy_83 hl (by decide) rfl (fun ls hl => ?_)
                  refine lv_iinc (v := (x9_25 + 1)) (lv' := [(9, .int (x9_25 + 1)), (8, .int (x8_25 + t1_82)), (0, .ref o), (1, .int x1), (2, .int x2), (3, .long x3_5), (5, .int x5_5), (6, .long (x6_25 * t1_56))]) hx hb dX10_enoughBy_85 hl (k := 7) rfl (by rfl) (by decide) rfl (fun ls hl => ?_)
                  refine lv_goto (tgt := 25) hx hb dX10_enoughBy_88 (by decide) ?_
                  exact ih_25 (x6_25 * t1_56) (x8_25 + t1_82) (x9_25 + 1) hf _ (lv_sub hl [2, 3, 4, 5, 6, 7, 1, 0] rfl)
                refine lv_if_eq (tgt := 81) hx hb dX10_enoughBy_68 (by decide) (fun c68 => ?_) (fun c68 => ?_)
                · replace hf := ip c68 hf
                  refine lv_iconst (v := 0) hx hb dX10_enoughBy_81 (by decide) ?_
                  exact J82 0 hf _ (lv_sub hl [1, 2, 3, 4, 5, 0, 7] rfl)
                · replace hf := im c68 hf
                  refine lv_aload_n hx hb dX10_enoughBy_71 rfl (lv_at hl 1 rfl) ?_
                  refine va_get (D := D) (ci := 10) (v := .ref (h 36)) (C := RX10) (T := TX10) (N := 38) hx hb hts in_X10 hown hK hP 0 rfl rfl 36 (by decide) g_89 (fun _ h9 => h9) rfl dX10_enoughBy_72 ?_
                  refine lv_iload hx hb dX10_enoughBy_75 (lv_at hl 7 rfl) ?_
                  obtain ⟨c77, hf⟩ := gd hf
                  refine va_iald hx hb hK hP 27 0 rfl rfl c77 dX10_enoughBy_77 ?_
                  refine lv_goto (tgt := 82) hx hb dX10_enoughBy_78 (by decide) ?_
                  exact J82 ((V 36) x9_25.toNatClampNeg) hf _ (lv_sub hl [1, 2, 3, 4, 5, 0, 7] rfl)
              refine lv_if_eq (tgt := 51) hx hb dX10_enoughBy_43 (by decide) (fun c43 => ?_) (fun c43 => ?_)
              · replace hf := ip c43 hf
                refine lv_bipush (v := 10) hx hb dX10_enoughBy_51 (by decide) ?_
                refine lv_iload_n hx hb dX10_enoughBy_53 rfl (lv_at hl 2 rfl) ?_
                refine lv_isub hx hb dX10_enoughBy_54 ?_
                refine lv_i2l (v := (10 - x2).toInt64) hx hb dX10_enoughBy_55 rfl ?_
                exact J56 ((10 - x2).toInt64) hf _ (lv_sub hl [0, 1, 2, 3, 4, 6, 7] rfl)
              · replace hf := im c43 hf
                refine lv_iload_n hx hb dX10_enoughBy_46 rfl (lv_at hl 2 rfl) ?_
                refine lv_i2l (v := x2.toInt64) hx hb dX10_enoughBy_47 rfl ?_
                refine lv_goto (tgt := 56) hx hb dX10_enoughBy_48 (by decide) ?_
                exact J56 (x2.toInt64) hf _ (lv_sub hl [0, 1, 2, 3, 4, 6, 7] rfl)
        refine L25 _ (fun x6_25 x8_25 hf ls hl => ?_) f 1 0 0 hf _ (lv_sub hl [3, 4, 5, 6, 7, 2, 1, 0] rfl)
        refine lv_lload_n hx hb dX10_enoughBy_91 rfl (lv_at hl 3 rfl) ?_
        refine lv_iload hx hb dX10_enoughBy_92 (lv_at hl 6 rfl) ?_
        refine lv_iload_n hx hb dX10_enoughBy_94 rfl (lv_at hl 1 rfl) ?_
        obtain ⟨j104, ej104, hf⟩ := nme hf
        have J104 : ∀ (t1_104 : Int64), j104 t1_104 = some out → ∀ ls : Array Slot, lv_has ls 10 [(0, .ref o), (1, .int x1), (2, .int x2), (5, .int x5_5)] → W p l e rm_M_enoughBy s m args below meth c s.heap [] 0 0 Q (F0 m 104 ls [.long t1_104, .long x3_5]) := by
          intro t1_104 hf ls hl
          rw [ej104] at hf
          refine lv_ladd hx hb dX10_enoughBy_104 ?_
          refine lv_lstore_n (lv' := [(3, .long (x3_5 + t1_104)), (0, .ref o), (1, .int x1), (2, .int x2), (5, .int x5_5)]) hx hb dX10_enoughBy_105 rfl hl (by decide) rfl (fun ls hl => ?_)
          refine lv_iinc (v := (x5_5 + 1)) (lv' := [(5, .int (x5_5 + 1)), (3, .long (x3_5 + t1_104)), (0, .ref o), (1, .int x1), (2, .int x2)]) hx hb dX10_enoughBy_106 hl (k := 4) rfl (by rfl) (by decide) rfl (fun ls hl => ?_)
          refine lv_goto (tgt := 5) hx hb dX10_enoughBy_109 (by decide) ?_
          exact ih_5 (x3_5 + t1_104) (x5_5 + 1) hf _ (lv_sub hl [2, 3, 4, 1, 0] rfl)
        refine lv_icmp_gt (tgt := 103) hx hb dX10_enoughBy_95 (by decide) (fun c95 => ?_) (fun c95 => ?_)
        · replace hf := ip c95 hf
          refine lv_lconst (v := 0) hx hb dX10_enoughBy_103 (by decide) ?_
          exact J104 0 hf _ (lv_sub hl [0, 1, 2, 4] rfl)
        · replace hf := im c95 hf
          refine lv_lload hx hb dX10_enoughBy_98 (lv_at hl 5 rfl) ?_
          refine lv_goto (tgt := 104) hx hb dX10_enoughBy_100 (by decide) ?_
          exact J104 x6_25 hf _ (lv_sub hl [0, 1, 2, 4] rfl)
  refine L5 _ (fun x3_5 hf ls hl => ?_) f 0 0 hf _ (lv_sub hl [2, 3, 4, 1, 0] rfl)
  refine lv_lload_n hx hb dX10_enoughBy_112 rfl (lv_at hl 0 rfl) ?_
  exact hret x3_5 113 _ hf dX10_enoughBy_113
def M_divisor_L6 {ρ : Type} (f : Nat) (k_6 : Int64 → Option ρ) : Nat → Int64 → Int64 → Option ρ
  | 0, _, _ => none
  | n_6 + 1, x4_6, x6_6 => (if (lg_cmp x6_6 0) = 0 then (k_6 x4_6) else if x6_6 = 0 then none else (nm (x4_6 - x4_6 / x6_6 * x6_6) (fun y1 => (M_divisor_L6 f k_6 n_6 x6_6 y1))))
def M_divisor (f : Nat) (x0 : Int64) (x2 : Int64) : Option (Int64) := (M_divisor_L6 f (fun (x4_6 : Int64) => some x4_6) f x0 x2)
abbrev rm_M_divisor : Room := { frames := 0, cells := 0, slots := 0, locals := 0 }
set_option maxHeartbeats 4000000 in
set_option maxRecDepth 100000 in
theorem c_M_divisor (l : Launch) (x0 : Int64) (x2 : Int64) (f : Nat) (out : Int64) (hf : M_divisor f x0 x2 = some out) : Met l yX10_divisor wsX10_divisor rm_M_divisor (va_Pc [.long x0, .long x2] (fun _ => True)) (vp_Sl (fun r => r = out)) 0 0 (fun _ => False) := by
  refine Met.ofW (cc := cX10_divisor) (maxL := 10) (ret := (some .long)) (by decide) rfl ?_
  intro p e s m args below meth c s₁ B hml hv
  obtain ⟨ha, -⟩ := hv
  have hx := B.exec
  have hb := B.bytes
  have hr := B.returns
  have hts := atoms_spec (ws := wsX10_divisor) B.pre
  have hown : s.vm.findClass RX10 = some m.cls := findClass_of_methodNamed B.named
  have hlocks := B.notSynchronized
  have hl := lv_entry ([.long x0, .long x2]) (n := 10) (Nat.le_of_ble_eq_true rfl)
  rw [show entryFrame m args 10 = entryFrame m ([.long x0, .long x2] : List Value).toArray 10 from by rw [ha], lg_entry_eq]
  generalize (lg_sl ([.long x0, .long x2]) ++ List.replicate (10 - (lg_sl ([.long x0, .long x2])).length) Slot.unset).toArray = ls at hl ⊢
  have hl : lv_has ls 10 [(0, .long x0), (2, .long x2)] := hl
  generalize hQ : MQ below (vp_Sl (fun r => r = out)) args s 0 0 (fun _ => False) = Q
  show W p l e rm_M_divisor s m args below meth c s.heap [] 0 0 Q (F0 m 0 ls [])
  have hret : ∀ (v : Int64) (pc : Nat) (ls : Array Slot), some v = some out → decode cX10_divisor pc = .ok (.lreturn, 1) → W p l e rm_M_divisor s m args below meth c s.heap [] 0 0 Q (F0 m pc ls [.long v]) := by
    intro v pc ls hf hd
    rw [← hQ]
    exact W.lret (v := v) hx hb hr (fun t ht hW => ⟨v, rfl, Option.some.inj hf, ht⟩) (fun q h => by cases h) hd
  unfold M_divisor at hf
  refine lv_lload_n hx hb dX10_divisor_0 rfl (lv_at hl 0 rfl) ?_
  refine lv_lstore (lv' := [(4, .long x0), (0, .long x0), (2, .long x2)]) hx hb dX10_divisor_1 hl (by decide) rfl (fun ls hl => ?_)
  refine lv_lload_n hx hb dX10_divisor_3 rfl (lv_at hl 2 rfl) ?_
  refine lv_lstore (lv' := [(6, .long x2), (4, .long x0), (0, .long x0), (2, .long x2)]) hx hb dX10_divisor_4 hl (by decide) rfl (fun ls hl => ?_)
  have L6 : ∀ (k_6 : Int64 → Option (Int64)) (hk_6 : ∀ (x4_6 : Int64), k_6 x4_6 = some out → ∀ ls : Array Slot, lv_has ls 10 [(4, .long x4_6)] → W p l e rm_M_divisor s m args below meth c s.heap [] 0 0 Q (F0 m 31 ls [])), ∀ (n_6 : Nat) (x4_6 : Int64) (x6_6 : Int64), M_divisor_L6 f k_6 n_6 x4_6 x6_6 = some out → ∀ ls : Array Slot, lv_has ls 10 [(4, .long x4_6), (6, .long x6_6)] → W p l e rm_M_divisor s m args below meth c s.heap [] 0 0 Q (F0 m 6 ls []) := by
    intro k_6 hk_6 n_6
    induction n_6 with
    | zero => intro x4_6 x6_6 hf; rw [M_divisor_L6] at hf; cases hf
    | succ n_6 ih_6 =>
      intro x4_6 x6_6 hf ls hl
      rw [M_divisor_L6] at hf
      refine lv_lload hx hb dX10_divisor_6 (lv_at hl 1 rfl) ?_
      refine lv_lconst (v := 0) hx hb dX10_divisor_8 (by decide) ?_
      refine W.lcmp hx hb dX10_divisor_9 ?_
      refine lv_if_eq (tgt := 31) hx hb dX10_divisor_10 (by decide) (fun c10 => ?_) (fun c10 => ?_)
      · replace hf := ip c10 hf
        exact hk_6 x4_6 hf _ (lv_sub hl [0] rfl)
      · replace hf := im c10 hf
        refine lv_lload hx hb dX10_divisor_13 (lv_at hl 0 rfl) ?_
        refine lv_lload hx hb dX10_divisor_15 (lv_at hl 1 rfl) ?_
        obtain ⟨c17, hf⟩ := gd hf
        refine lv_lrem hx hb dX10_divisor_17 c17 ?_
        refine lv_topl (fun y1 ey1 => ?_)
        replace hf := nmd hf ey1
        refine lv_lstore (lv' := [(8, .long y1), (4, .long x4_6), (6, .long x6_6)]) hx hb dX10_divisor_18 hl (by decide) rfl (fun ls hl => ?_)
        refine lv_lload hx hb dX10_divisor_20 (lv_at hl 2 rfl) ?_
        refine lv_lstore (lv' := [(4, .long x6_6), (8, .long y1), (6, .long x6_6)]) hx hb dX10_divisor_22 hl (by decide) rfl (fun ls hl => ?_)
        refine lv_lload hx hb dX10_divisor_24 (lv_at hl 1 rfl) ?_
        refine lv_lstore (lv' := [(6, .long y1), (4, .long x6_6), (8, .long y1)]) hx hb dX10_divisor_26 hl (by decide) rfl (fun ls hl => ?_)
        refine lv_goto (tgt := 6) hx hb dX10_divisor_28 (by decide) ?_
        exact ih_6 x6_6 y1 hf _ (lv_sub hl [1, 0] rfl)
  refine L6 _ (fun x4_6 hf ls hl => ?_) f x0 x2 hf _ (lv_sub hl [1, 0] rfl)
  refine lv_lload hx hb dX10_divisor_31 (lv_at hl 0 rfl) ?_
  exact hret x4_6 33 _ hf dX10_divisor_33
def M_wholeOf_L4 {ρ : Type} (f : Nat) (I : FI) (k_4 : Int64 → Option ρ) : Nat → Int64 → Int32 → Option ρ
  | 0, _, _ => none
  | n_4 + 1, x1_4, x3_4 => (if (I 37) ≤ x3_4 then (k_4 x1_4) else (M_wholeOf_L4 f I k_4 n_4 (x1_4 * 10) (x3_4 + 1)))
def M_wholeOf (f : Nat) (I : FI) (V : FV) : Option (Int64) := (M_wholeOf_L4 f I (fun (x1_4 : Int64) => some x1_4) f 1 0)
abbrev rm_M_wholeOf : Room := { frames := 0, cells := 0, slots := 0, locals := 0 }
set_option maxHeartbeats 4000000 in
set_option maxRecDepth 100000 in
theorem c_M_wholeOf (l : Launch) (D : va_G) (cs : Nat → ClassId) (o : Nat) (h : Nat → Nat) (I : FI) (V : FV) (f : Nat) (out : Int64) (hf : M_wholeOf f I V = some out) : Met l yX10_wholeOf wsX10_wholeOf rm_M_wholeOf (va_Pc [.ref o] (xR D cs (w_M cs o h I V))) (vp_Sl (fun r => r = out)) 0 0 (fun _ => False) := by
  refine Met.ofW (cc := cX10_wholeOf) (maxL := 4) (ret := (some .long)) (by decide) rfl ?_
  intro p e s m args below meth c s₁ B hml hv
  obtain ⟨ha, hP, hK⟩ := hv
  have hx := B.exec
  have hb := B.bytes
  have hr := B.returns
  have hts := atoms_spec (ws := wsX10_wholeOf) B.pre
  have hown : s.vm.findClass RX10 = some m.cls := findClass_of_methodNamed B.named
  have hlocks := B.notSynchronized
  have in_X10 : ∀ w ∈ u_ws RX10 TX10 38, w ∈ wsX10_wholeOf := fun w h => List.mem_cons_of_mem _ (List.mem_append_right _ h)
  have g_201 := hts (.fieldLink RX10 201 "DaysLentModel" "askers" "I") (by decide +kernel)
  have k_204 := hts (.constantLong RX10 204 (10)) (by decide +kernel)
  have hl := lv_entry ([.ref o]) (n := 4) (Nat.le_of_ble_eq_true rfl)
  rw [show entryFrame m args 4 = entryFrame m ([.ref o] : List Value).toArray 4 from by rw [ha], lg_entry_eq]
  generalize (lg_sl ([.ref o]) ++ List.replicate (4 - (lg_sl ([.ref o])).length) Slot.unset).toArray = ls at hl ⊢
  have hl : lv_has ls 4 [(0, .ref o)] := hl
  generalize hQ : MQ below (vp_Sl (fun r => r = out)) args s 0 0 (fun _ => False) = Q
  show W p l e rm_M_wholeOf s m args below meth c s.heap [] 0 0 Q (F0 m 0 ls [])
  have hret : ∀ (v : Int64) (pc : Nat) (ls : Array Slot), some v = some out → decode cX10_wholeOf pc = .ok (.lreturn, 1) → W p l e rm_M_wholeOf s m args below meth c s.heap [] 0 0 Q (F0 m pc ls [.long v]) := by
    intro v pc ls hf hd
    rw [← hQ]
    exact W.lret (v := v) hx hb hr (fun t ht hW => ⟨v, rfl, Option.some.inj hf, ht⟩) (fun q h => by cases h) hd
  unfold M_wholeOf at hf
  refine lv_lconst (v := 1) hx hb dX10_wholeOf_0 (by decide) ?_
  refine lv_lstore_n (lv' := [(1, .long 1), (0, .ref o)]) hx hb dX10_wholeOf_1 rfl hl (by decide) rfl (fun ls hl => ?_)
  refine lv_iconst (v := 0) hx hb dX10_wholeOf_2 (by decide) ?_
  refine lv_istore_n (lv' := [(3, .int 0), (1, .long 1), (0, .ref o)]) hx hb dX10_wholeOf_3 rfl hl (by decide) rfl (fun ls hl => ?_)
  have L4 : ∀ (k_4 : Int64 → Option (Int64)) (hk_4 : ∀ (x1_4 : Int64), k_4 x1_4 = some out → ∀ ls : Array Slot, lv_has ls 4 [(1, .long x1_4)] → W p l e rm_M_wholeOf s m args below meth c s.heap [] 0 0 Q (F0 m 24 ls [])), ∀ (n_4 : Nat) (x1_4 : Int64) (x3_4 : Int32), M_wholeOf_L4 f I k_4 n_4 x1_4 x3_4 = some out → ∀ ls : Array Slot, lv_has ls 4 [(0, .ref o), (1, .long x1_4), (3, .int x3_4)] → W p l e rm_M_wholeOf s m args below meth c s.heap [] 0 0 Q (F0 m 4 ls []) := by
    intro k_4 hk_4 n_4
    induction n_4 with
    | zero => intro x1_4 x3_4 hf; rw [M_wholeOf_L4] at hf; cases hf
    | succ n_4 ih_4 =>
      intro x1_4 x3_4 hf ls hl
      rw [M_wholeOf_L4] at hf
      refine lv_iload_n hx hb dX10_wholeOf_4 rfl (lv_at hl 2 rfl) ?_
      refine lv_aload_n hx hb dX10_wholeOf_5 rfl (lv_at hl 0 rfl) ?_
      refine va_get (D := D) (ci := 10) (v := .int (I 37)) (C := RX10) (T := TX10) (N := 38) hx hb hts in_X10 hown hK hP 0 rfl rfl 37 (by decide) g_201 (fun _ h9 => h9) rfl dX10_wholeOf_6 ?_
      refine lv_icmp_ge (tgt := 24) hx hb dX10_wholeOf_9 (by decide) (fun c9 => ?_) (fun c9 => ?_)
      · replace hf := ip c9 hf
        exact hk_4 x1_4 hf _ (lv_sub hl [1] rfl)
      · replace hf := im c9 hf
        refine lv_lload_n hx hb dX10_wholeOf_12 rfl (lv_at hl 1 rfl) ?_
        refine lv_ldc2 (v := 10) hx hb hown k_204 dX10_wholeOf_13 ?_
        refine lv_lmul hx hb dX10_wholeOf_16 ?_
        refine lv_lstore_n (lv' := [(1, .long (x1_4 * 10)), (0, .ref o), (3, .int x3_4)]) hx hb dX10_wholeOf_17 rfl hl (by decide) rfl (fun ls hl => ?_)
        refine lv_iinc (v := (x3_4 + 1)) (lv' := [(3, .int (x3_4 + 1)), (1, .long (x1_4 * 10)), (0, .ref o)]) hx hb dX10_wholeOf_18 hl (k := 2) rfl (by rfl) (by decide) rfl (fun ls hl => ?_)
        refine lv_goto (tgt := 4) hx hb dX10_wholeOf_21 (by decide) ?_
        exact ih_4 (x1_4 * 10) (x3_4 + 1) hf _ (lv_sub hl [2, 1, 0] rfl)
  refine L4 _ (fun x1_4 hf ls hl => ?_) f 1 0 hf _ (lv_sub hl [2, 1, 0] rfl)
  refine lv_lload_n hx hb dX10_wholeOf_24 rfl (lv_at hl 0 rfl) ?_
  exact hret x1_4 25 _ hf dX10_wholeOf_25
def M_run (f : Nat) (x1 : Int32) (x2 : Int32) (x3 : Int32) (I : FI) (V : FV) : Option (Int64 × FI × FV) := ob1 (M_noOne f x1 (va_up I 0 0) V) (fun zr1 => (if zr1 = 0 then ob1 (M_in f (x2.toInt64) 0 10) (fun zr2 => (if zr2 = 0 then some ((-2), (va_up I 0 0), V) else ob2 (M_layAskers f x1 (va_up I 0 0) V) (fun I4 V5 => if x1 < 0 ∨ 6 ≤ x1.toNatClampNeg then none else (ob1 (M_enoughBy f ((V5 5) x1.toNatClampNeg) x2 I4 V5) (fun zr6 => ob1 (M_wholeOf f I4 V5) (fun zr7 => ob1 (M_divisor f zr6 zr7) (fun zr8 => (if x3 = 0 then ob1 (M_wholeOf f I4 V5) (fun zr9 => if zr8 = 0 then none else (some ((zr9 / zr8), I4, V5))) else if zr8 = 0 then none else (some ((zr6 / zr8), I4, V5)))))))))) else some ((-1), (va_up I 0 0), V)))
abbrev rm_M_run : Room := { frames := 2, cells := 0, slots := 0, locals := 50 }
set_option maxHeartbeats 4000000 in
set_option maxRecDepth 100000 in
theorem c_M_run (l : Launch) (D : va_G) (cs : Nat → ClassId) (o : Nat) (h : Nat → Nat) (sz : Nat) (I : FI) (V : FV) (x1 : Int32) (x2 : Int32) (x3 : Int32) (f : Nat) (out : Int64 × FI × FV) (hf : M_run f x1 x2 x3 I V = some out) : Met l yX10_run wsX10_run rm_M_run (va_Pc [.ref o, .int x1, .int x2, .int x3] (xP D cs (w_M cs o h I V) sz)) (va_Ql (fun r u => (r, u) = out) (fun (u : FI × FV) t => xA D cs (va_A (w_M cs o h I V) sz) (w_M cs o h u.1 u.2) t) (va_A (w_M cs o h I V) sz)) 0 0 (va_A (w_M cs o h I V) sz) := by
  refine Met.ofW (cc := cX10_run) (maxL := 8) (ret := (some .long)) (by decide) rfl ?_
  intro p e s m args below meth c s₁ B hml hv
  obtain ⟨ha, hsz, hP, hK, hD0⟩ := hv
  have hx := B.exec
  have hb := B.bytes
  have hr := B.returns
  have hts := atoms_spec (ws := wsX10_run) B.pre
  have hown : s.vm.findClass RX10 = some m.cls := findClass_of_methodNamed B.named
  have hlocks := B.notSynchronized
  have in_X10 : ∀ w ∈ u_ws RX10 TX10 38, w ∈ wsX10_run := fun w h => List.mem_cons_of_mem _ (List.mem_append_right _ h)
  have g_92 := hts (.fieldLink RX10 92 "DaysLentModel" "thrown" "I") (by decide +kernel)
  have w_noOne_151 := cwV (R := rm_M_run) (s := s) (args := args) (rm := rm_M_noOne) (mc := 0) (ms := 0) 1 hts gX10_run_X10_noOne rfl rfl rfl (by decide +kernel) ⟨Nat.le_of_ble_eq_true rfl, Nat.le_of_ble_eq_true rfl⟩
  have k_206 := hts (.constantLong RX10 206 (-1)) (by decide +kernel)
  have k_204 := hts (.constantLong RX10 204 (10)) (by decide +kernel)
  have w_in_99 := va_cwS (R := rm_M_run) (s := s) (args := args) (rm := rm_M_in) (mc := 0) (ms := 0) 3 hts gX10_run_X10_in rfl rfl rfl (by decide +kernel) ⟨Nat.le_of_ble_eq_true rfl, Nat.le_of_ble_eq_true rfl⟩
  have k_208 := hts (.constantLong RX10 208 (-2)) (by decide +kernel)
  have w_layAskers_210 := cwV (R := rm_M_run) (s := s) (args := args) (rm := rm_M_layAskers) (mc := 0) (ms := 0) 1 hts gX10_run_X10_layAskers rfl rfl rfl (by decide +kernel) ⟨Nat.le_of_ble_eq_true rfl, Nat.le_of_ble_eq_true rfl⟩
  have g_13 := hts (.fieldLink RX10 13 "DaysLentModel" "mornings" "[I") (by decide +kernel)
  have w_enoughBy_213 := cwV (R := rm_M_run) (s := s) (args := args) (rm := rm_M_enoughBy) (mc := 0) (ms := 0) 2 hts gX10_run_X10_enoughBy rfl rfl rfl (by decide +kernel) ⟨Nat.le_of_ble_eq_true rfl, Nat.le_of_ble_eq_true rfl⟩
  have w_wholeOf_217 := cwV (R := rm_M_run) (s := s) (args := args) (rm := rm_M_wholeOf) (mc := 0) (ms := 0) 0 hts gX10_run_X10_wholeOf rfl rfl rfl (by decide +kernel) ⟨Nat.le_of_ble_eq_true rfl, Nat.le_of_ble_eq_true rfl⟩
  have w_divisor_221 := va_cwS (R := rm_M_run) (s := s) (args := args) (rm := rm_M_divisor) (mc := 0) (ms := 0) 2 hts gX10_run_X10_divisor rfl rfl rfl (by decide +kernel) ⟨Nat.le_of_ble_eq_true rfl, Nat.le_of_ble_eq_true rfl⟩
  subst hsz
  have hD := hD0.self (sz := s.heap.size)
  generalize hAe : va_A (w_M cs o h I V) s.heap.size = A at hD ⊢
  have hA : ∀ q : Nat, s.heap.size ≤ q → A q := fun q h => by rw [← hAe]; exact Or.inr h
  have hS : va_S A s.heap s.heap [] := va_S.rf
  have hl := lv_entry ([.ref o, .int x1, .int x2, .int x3]) (n := 8) (Nat.le_of_ble_eq_true rfl)
  rw [show entryFrame m args 8 = entryFrame m ([.ref o, .int x1, .int x2, .int x3] : List Value).toArray 8 from by rw [ha], lg_entry_eq]
  generalize (lg_sl ([.ref o, .int x1, .int x2, .int x3]) ++ List.replicate (8 - (lg_sl ([.ref o, .int x1, .int x2, .int x3])).length) Slot.unset).toArray = ls at hl ⊢
  have hl : lv_has ls 8 [(0, .ref o), (1, .int x1), (2, .int x2), (3, .int x3)] := hl
  generalize hQ : MQ below (va_Ql (fun r u => (r, u) = out) (fun (u : FI × FV) t => xA D cs A (w_M cs o h u.1 u.2) t) A) args s 0 0 A = Q
  show W p l e rm_M_run s m args below meth c s.heap [] 0 0 Q (F0 m 0 ls [])
  have hret : ∀ (v : Int64) (Im9 : FI) (Vm9 : FV) (H : Heap) (locs : List Loc) (pc : Nat) (ls : Array Slot), some (v, Im9, Vm9) = some out → va_P D vwCl (w_M cs o h Im9 Vm9) H → va_D A (w_M cs o h Im9 Vm9) → va_S A s.heap H locs → decode cX10_run pc = .ok (.lreturn, 1) → W p l e rm_M_run s m args below meth c H locs 0 0 Q (F0 m pc ls [.long v]) := by
    intro v Im9 Vm9 H locs pc ls hf hP hD hS hd
    rw [← hQ]
    exact W.lret (v := v) hx hb hr (fun t ht hW => ⟨⟨v, (Im9, Vm9), rfl, Option.some.inj hf, by show va_P D vwCl (w_M cs o h Im9 Vm9) t.heap; rw [ht]; exact hP, va_K.moved hW.alike hK, hD⟩, hS.F ht⟩) hS.2.2 hd
  unfold M_run at hf
  refine lv_aload_n hx hb dX10_run_0 rfl (lv_at hl 0 rfl) ?_
  refine lv_iconst (v := 0) hx hb dX10_run_1 (by decide) ?_
  refine va_put (D := D) (ci := 10) (v := .int 0) (ty := .int) (C := RX10) (T := TX10) (N := 38) hx hb hts in_X10 tyX10 tyX10_ok nmX10 hown hK hP hD hS 0 rfl rfl 0 (by decide) g_92 (fun _ h9 => h9) rfl (by decide +kernel) rfl rfl (Nat.le_of_ble_eq_true rfl) dX10_run_2 (fun H locs hP hD hS => ?_)
  have hP : va_P D vwCl (w_M cs o h (va_up I 0 0) V) H := hP
  have hD : va_D A (w_M cs o h (va_up I 0 0) V) := hD
  refine lv_aload_n hx hb dX10_run_5 rfl (lv_at hl 0 rfl) ?_
  refine lv_iload_n hx hb dX10_run_6 rfl (lv_at hl 1 rfl) ?_
  obtain ⟨zr1, qr1, hf⟩ := bd1 hf
  refine vp_callSi (va_Run.run (va_runV (As := [.int x1]) (rest := []) ⟨hx, hb, hml, hown, hts⟩ (c_M_noOne l D cs o h (va_up I 0 0) V x1 f zr1 qr1) w_noOne_151 ⟨xR_moved, va_recv hK hP (ci := 10) (q0 := 0) rfl rfl, fun U hU hW => ⟨rfl, by rw [hU]; exact hP, va_K.moved hW.alike hK⟩⟩ rfl rfl hl.1 rfl (lv_room (Nat.le_of_ble_eq_true rfl)) dX10_run_7 ⟨Nat.zero_le _, Nat.zero_le _⟩)) (fun r1 er1 => ?_)
  rw [er1]
  refine lv_if_eq (tgt := 17) hx hb dX10_run_10 (by decide) (fun c10 => ?_) (fun c10 => ?_)
  · replace hf := ip c10 hf
    refine lv_iload_n hx hb dX10_run_17 rfl (lv_at hl 2 rfl) ?_
    refine lv_i2l (v := x2.toInt64) hx hb dX10_run_18 rfl ?_
    refine lv_lconst (v := 0) hx hb dX10_run_19 (by decide) ?_
    refine lv_ldc2 (v := 10) hx hb hown k_204 dX10_run_20 ?_
    obtain ⟨zr2, qr2, hf⟩ := bd1 hf
    refine vp_callSi (va_Run.run (va_runS (As := [.long (x2.toInt64), .long 0, .long 10]) (rest := []) ⟨hx, hb, hml, hown, hts⟩ (c_M_in l (x2.toInt64) 0 10 f zr2 qr2) w_in_99 ⟨fun a U g mk q => q, fun U hU hW => ⟨rfl, trivial⟩⟩ rfl rfl hl.1 rfl (lv_room (Nat.le_of_ble_eq_true rfl)) dX10_run_23 ⟨Nat.zero_le _, Nat.zero_le _⟩)) (fun r2 er2 => ?_)
    rw [er2]
    refine lv_if_ne (tgt := 33) hx hb dX10_run_26 (by decide) (fun c26 => ?_) (fun c26 => ?_)
    · replace hf := im c26 hf
      refine lv_aload_n hx hb dX10_run_33 rfl (lv_at hl 0 rfl) ?_
      refine lv_iload_n hx hb dX10_run_34 rfl (lv_at hl 1 rfl) ?_
      obtain ⟨I4, V5, qr3, hf⟩ := bd2 hf
      have hFc := xfree hD hS hA
      refine va_callv (va_runV (As := [.int x1]) (rest := []) ⟨hx, hb, hml, hown, hts⟩ (c_M_layAskers l D cs o h _ (va_up I 0 0) V x1 f _ qr3) w_layAskers_210 ⟨xP_moved, va_recv hK hP (ci := 10) (q0 := 0) rfl rfl, fun U hU hW => ⟨rfl, by rw [hU], by rw [hU]; exact hP, va_K.moved hW.alike hK, hD.weaken (fun _ _ _ _ => trivial)⟩⟩ rfl rfl hl.1 rfl (lv_room (Nat.le_of_ble_eq_true rfl)) dX10_run_35 ⟨Nat.zero_le _, Nat.zero_le _⟩) hS (fun q _ h9 => hFc q h9) hFc (fun u t H1 locs ht hvm hw hB hz1 hk1 hS => ?_)
      rw [hw] at hB
      obtain ⟨hP1, hK1, hD1⟩ := hB
      have hP : va_P D vwCl (w_M cs o h I4 V5) H1 := by rw [← ht]; exact hP1
      have hD : va_D A (w_M cs o h I4 V5) := hD1.weaken (fun _ q _ h9 => hFc q.1 h9)
      refine lv_aload_n hx hb dX10_run_38 rfl (lv_at hl 0 rfl) ?_
      refine lv_aload_n hx hb dX10_run_39 rfl (lv_at hl 0 rfl) ?_
      refine va_get (D := D) (ci := 10) (v := .ref (h 5)) (C := RX10) (T := TX10) (N := 38) hx hb hts in_X10 hown hK hP 0 rfl rfl 5 (by decide) g_13 (fun _ h9 => h9) rfl dX10_run_40 ?_
      refine lv_iload_n hx hb dX10_run_43 rfl (lv_at hl 1 rfl) ?_
      obtain ⟨c44, hf⟩ := gd hf
      refine va_iald hx hb hK hP 2 0 rfl rfl c44 dX10_run_44 ?_
      refine lv_iload_n hx hb dX10_run_45 rfl (lv_at hl 2 rfl) ?_
      obtain ⟨zr6, qr6, hf⟩ := bd1 hf
      refine vp_callSl (va_Run.run (va_runV (As := [.int ((V5 5) x1.toNatClampNeg), .int x2]) (rest := []) ⟨hx, hb, hml, hown, hts⟩ (c_M_enoughBy l D cs o h I4 V5 ((V5 5) x1.toNatClampNeg) x2 f zr6 qr6) w_enoughBy_213 ⟨xR_moved, va_recv hK hP (ci := 10) (q0 := 0) rfl rfl, fun U hU hW => ⟨rfl, by rw [hU]; exact hP, va_K.moved hW.alike hK⟩⟩ rfl rfl hl.1 rfl (lv_room (Nat.le_of_ble_eq_true rfl)) dX10_run_46 ⟨Nat.zero_le _, Nat.zero_le _⟩)) (fun r6 er6 => ?_)
      rw [er6]
      refine lv_lstore (lv' := [(4, .long zr6), (0, .ref o), (1, .int x1), (2, .int x2), (3, .int x3)]) hx hb dX10_run_49 hl (by decide) rfl (fun ls hl => ?_)
      refine lv_lload hx hb dX10_run_51 (lv_at hl 0 rfl) ?_
      refine lv_aload_n hx hb dX10_run_53 rfl (lv_at hl 1 rfl) ?_
      obtain ⟨zr7, qr7, hf⟩ := bd1 hf
      refine vp_callSl (va_Run.run (va_runV (As := []) (rest := [.long zr6]) ⟨hx, hb, hml, hown, hts⟩ (c_M_wholeOf l D cs o h I4 V5 f zr7 qr7) w_wholeOf_217 ⟨xR_moved, va_recv hK hP (ci := 10) (q0 := 0) rfl rfl, fun U hU hW => ⟨rfl, by rw [hU]; exact hP, va_K.moved hW.alike hK⟩⟩ rfl rfl hl.1 rfl (lv_room (Nat.le_of_ble_eq_true rfl)) dX10_run_54 ⟨Nat.zero_le _, Nat.zero_le _⟩)) (fun r7 er7 => ?_)
      rw [er7]
      obtain ⟨zr8, qr8, hf⟩ := bd1 hf
      refine vp_callSl (va_Run.run (va_runS (As := [.long zr6, .long zr7]) (rest := []) ⟨hx, hb, hml, hown, hts⟩ (c_M_divisor l zr6 zr7 f zr8 qr8) w_divisor_221 ⟨fun a U g mk q => q, fun U hU hW => ⟨rfl, trivial⟩⟩ rfl rfl hl.1 rfl (lv_room (Nat.le_of_ble_eq_true rfl)) dX10_run_57 ⟨Nat.zero_le _, Nat.zero_le _⟩)) (fun r8 er8 => ?_)
      rw [er8]
      refine lv_lstore (lv' := [(6, .long zr8), (4, .long zr6), (0, .ref o), (1, .int x1), (2, .int x2), (3, .int x3)]) hx hb dX10_run_60 hl (by decide) rfl (fun ls hl => ?_)
      refine lv_iload_n hx hb dX10_run_62 rfl (lv_at hl 5 rfl) ?_
      refine lv_if_eq (tgt := 74) hx hb dX10_run_63 (by decide) (fun c63 => ?_) (fun c63 => ?_)
      · replace hf := ip c63 hf
        refine lv_aload_n hx hb dX10_run_74 rfl (lv_at hl 2 rfl) ?_
        obtain ⟨zr9, qr9, hf⟩ := bd1 hf
        refine vp_callSl (va_Run.run (va_runV (As := []) (rest := []) ⟨hx, hb, hml, hown, hts⟩ (c_M_wholeOf l D cs o h I4 V5 f zr9 qr9) w_wholeOf_217 ⟨xR_moved, va_recv hK hP (ci := 10) (q0 := 0) rfl rfl, fun U hU hW => ⟨rfl, by rw [hU]; exact hP, va_K.moved hW.alike hK⟩⟩ rfl rfl hl.1 rfl (lv_room (Nat.le_of_ble_eq_true rfl)) dX10_run_75 ⟨Nat.zero_le _, Nat.zero_le _⟩)) (fun r9 er9 => ?_)
        rw [er9]
        refine lv_lload hx hb dX10_run_78 (lv_at hl 0 rfl) ?_
        obtain ⟨c80, hf⟩ := gd hf
        refine lv_ldiv hx hb dX10_run_80 c80 ?_
        exact hret (zr9 / zr8) I4 V5 _ _ 81 _ hf hP hD hS dX10_run_81
      · replace hf := im c63 hf
        refine lv_lload hx hb dX10_run_66 (lv_at hl 1 rfl) ?_
        refine lv_lload hx hb dX10_run_68 (lv_at hl 0 rfl) ?_
        obtain ⟨c70, hf⟩ := gd hf
        refine lv_ldiv hx hb dX10_run_70 c70 ?_
        refine lv_goto (tgt := 81) hx hb dX10_run_71 (by decide) ?_
        exact hret (zr6 / zr8) I4 V5 _ _ 81 _ hf hP hD hS dX10_run_81
    · replace hf := ip c26 hf
      refine lv_ldc2 (v := (-2)) hx hb hown k_208 dX10_run_29 ?_
      exact hret (-2) (va_up I 0 0) V _ _ 32 _ hf hP hD hS dX10_run_32
  · replace hf := im c10 hf
    refine lv_ldc2 (v := (-1)) hx hb hown k_206 dX10_run_13 ?_
    exact hret (-1) (va_up I 0 0) V _ _ 16 _ hf hP hD hS dX10_run_16
def M_enough_L50 {ρ : Type} (f : Nat) (x2 : Int32) (I5 : FI) (V6 : FV) (x3 : Int32) (k_50 : Int32 → Option ρ) : Nat → Int32 → Option ρ
  | 0, _ => none
  | n_50 + 1, x4_50 => ob1 (M_enoughBy f x4_50 x2 I5 V6) (fun zr7 => ob1 (M_wholeOf f I5 V6) (fun zr8 => (if 0 ≤ (lg_cmp (zr7 * 100) ((x3.toInt64) * zr8)) then (k_50 x4_50) else (M_enough_L50 f x2 I5 V6 x3 k_50 n_50 (x4_50 + 1)))))
def M_enough (f : Nat) (x1 : Int32) (x2 : Int32) (x3 : Int32) (I : FI) (V : FV) : Option (Int32 × FI × FV) := ob1 (M_noOne f x1 (va_up I 0 0) V) (fun zr1 => (if zr1 = 0 then ob1 (M_in f (x2.toInt64) 0 10) (fun zr2 => (if zr2 = 0 then some ((-2), (va_up I 0 0), V) else ob1 (M_in f (x3.toInt64) 0 100) (fun zr3 => (if zr3 = 0 then some ((-2), (va_up I 0 0), V) else ob2 (M_layAskers f x1 (va_up I 0 0) V) (fun I5 V6 => (M_enough_L50 f x2 I5 V6 x3 (fun (x4_50 : Int32) => some (x4_50, I5, V6)) f 0)))))) else some ((-1), (va_up I 0 0), V)))
abbrev rm_M_enough : Room := { frames := 2, cells := 0, slots := 0, locals := 50 }
set_option maxHeartbeats 4000000 in
set_option maxRecDepth 100000 in
theorem c_M_enough (l : Launch) (D : va_G) (cs : Nat → ClassId) (o : Nat) (h : Nat → Nat) (sz : Nat) (I : FI) (V : FV) (x1 : Int32) (x2 : Int32) (x3 : Int32) (f : Nat) (out : Int32 × FI × FV) (hf : M_enough f x1 x2 x3 I V = some out) : Met l yX10_enough wsX10_enough rm_M_enough (va_Pc [.ref o, .int x1, .int x2, .int x3] (xP D cs (w_M cs o h I V) sz)) (va_Qi (fun r u => (r, u) = out) (fun (u : FI × FV) t => xA D cs (va_A (w_M cs o h I V) sz) (w_M cs o h u.1 u.2) t) (va_A (w_M cs o h I V) sz)) 0 0 (va_A (w_M cs o h I V) sz) := by
  refine Met.ofW (cc := cX10_enough) (maxL := 5) (ret := (some .int)) (by decide) rfl ?_
  intro p e s m args below meth c s₁ B hml hv
  obtain ⟨ha, hsz, hP, hK, hD0⟩ := hv
  have hx := B.exec
  have hb := B.bytes
  have hr := B.returns
  have hts := atoms_spec (ws := wsX10_enough) B.pre
  have hown : s.vm.findClass RX10 = some m.cls := findClass_of_methodNamed B.named
  have hlocks := B.notSynchronized
  have in_X10 : ∀ w ∈ u_ws RX10 TX10 38, w ∈ wsX10_enough := fun w h => List.mem_cons_of_mem _ (List.mem_append_right _ h)
  have g_92 := hts (.fieldLink RX10 92 "DaysLentModel" "thrown" "I") (by decide +kernel)
  have w_noOne_151 := cwV (R := rm_M_enough) (s := s) (args := args) (rm := rm_M_noOne) (mc := 0) (ms := 0) 1 hts gX10_enough_X10_noOne rfl rfl rfl (by decide +kernel) ⟨Nat.le_of_ble_eq_true rfl, Nat.le_of_ble_eq_true rfl⟩
  have k_204 := hts (.constantLong RX10 204 (10)) (by decide +kernel)
  have w_in_99 := va_cwS (R := rm_M_enough) (s := s) (args := args) (rm := rm_M_in) (mc := 0) (ms := 0) 3 hts gX10_enough_X10_in rfl rfl rfl (by decide +kernel) ⟨Nat.le_of_ble_eq_true rfl, Nat.le_of_ble_eq_true rfl⟩
  have k_225 := hts (.constantLong RX10 225 (100)) (by decide +kernel)
  have w_layAskers_210 := cwV (R := rm_M_enough) (s := s) (args := args) (rm := rm_M_layAskers) (mc := 0) (ms := 0) 1 hts gX10_enough_X10_layAskers rfl rfl rfl (by decide +kernel) ⟨Nat.le_of_ble_eq_true rfl, Nat.le_of_ble_eq_true rfl⟩
  have w_enoughBy_213 := cwV (R := rm_M_enough) (s := s) (args := args) (rm := rm_M_enoughBy) (mc := 0) (ms := 0) 2 hts gX10_enough_X10_enoughBy rfl rfl rfl (by decide +kernel) ⟨Nat.le_of_ble_eq_true rfl, Nat.le_of_ble_eq_true rfl⟩
  have w_wholeOf_217 := cwV (R := rm_M_enough) (s := s) (args := args) (rm := rm_M_wholeOf) (mc := 0) (ms := 0) 0 hts gX10_enough_X10_wholeOf rfl rfl rfl (by decide +kernel) ⟨Nat.le_of_ble_eq_true rfl, Nat.le_of_ble_eq_true rfl⟩
  subst hsz
  have hD := hD0.self (sz := s.heap.size)
  generalize hAe : va_A (w_M cs o h I V) s.heap.size = A at hD ⊢
  have hA : ∀ q : Nat, s.heap.size ≤ q → A q := fun q h => by rw [← hAe]; exact Or.inr h
  have hS : va_S A s.heap s.heap [] := va_S.rf
  have hl := lv_entry ([.ref o, .int x1, .int x2, .int x3]) (n := 5) (Nat.le_of_ble_eq_true rfl)
  rw [show entryFrame m args 5 = entryFrame m ([.ref o, .int x1, .int x2, .int x3] : List Value).toArray 5 from by rw [ha], lg_entry_eq]
  generalize (lg_sl ([.ref o, .int x1, .int x2, .int x3]) ++ List.replicate (5 - (lg_sl ([.ref o, .int x1, .int x2, .int x3])).length) Slot.unset).toArray = ls at hl ⊢
  have hl : lv_has ls 5 [(0, .ref o), (1, .int x1), (2, .int x2), (3, .int x3)] := hl
  generalize hQ : MQ below (va_Qi (fun r u => (r, u) = out) (fun (u : FI × FV) t => xA D cs A (w_M cs o h u.1 u.2) t) A) args s 0 0 A = Q
  show W p l e rm_M_enough s m args below meth c s.heap [] 0 0 Q (F0 m 0 ls [])
  have hret : ∀ (v : Int32) (Im9 : FI) (Vm9 : FV) (H : Heap) (locs : List Loc) (pc : Nat) (ls : Array Slot), some (v, Im9, Vm9) = some out → va_P D vwCl (w_M cs o h Im9 Vm9) H → va_D A (w_M cs o h Im9 Vm9) → va_S A s.heap H locs → decode cX10_enough pc = .ok (.ireturn, 1) → W p l e rm_M_enough s m args below meth c H locs 0 0 Q (F0 m pc ls [.int v]) := by
    intro v Im9 Vm9 H locs pc ls hf hP hD hS hd
    rw [← hQ]
    exact W.iret (v := v) hx hb hr (fun t ht hW => ⟨⟨v, (Im9, Vm9), rfl, Option.some.inj hf, by show va_P D vwCl (w_M cs o h Im9 Vm9) t.heap; rw [ht]; exact hP, va_K.moved hW.alike hK, hD⟩, hS.F ht⟩) hS.2.2 hd
  unfold M_enough at hf
  refine lv_aload_n hx hb dX10_enough_0 rfl (lv_at hl 0 rfl) ?_
  refine lv_iconst (v := 0) hx hb dX10_enough_1 (by decide) ?_
  refine va_put (D := D) (ci := 10) (v := .int 0) (ty := .int) (C := RX10) (T := TX10) (N := 38) hx hb hts in_X10 tyX10 tyX10_ok nmX10 hown hK hP hD hS 0 rfl rfl 0 (by decide) g_92 (fun _ h9 => h9) rfl (by decide +kernel) rfl rfl (Nat.le_of_ble_eq_true rfl) dX10_enough_2 (fun H locs hP hD hS => ?_)
  have hP : va_P D vwCl (w_M cs o h (va_up I 0 0) V) H := hP
  have hD : va_D A (w_M cs o h (va_up I 0 0) V) := hD
  refine lv_aload_n hx hb dX10_enough_5 rfl (lv_at hl 0 rfl) ?_
  refine lv_iload_n hx hb dX10_enough_6 rfl (lv_at hl 1 rfl) ?_
  obtain ⟨zr1, qr1, hf⟩ := bd1 hf
  refine vp_callSi (va_Run.run (va_runV (As := [.int x1]) (rest := []) ⟨hx, hb, hml, hown, hts⟩ (c_M_noOne l D cs o h (va_up I 0 0) V x1 f zr1 qr1) w_noOne_151 ⟨xR_moved, va_recv hK hP (ci := 10) (q0 := 0) rfl rfl, fun U hU hW => ⟨rfl, by rw [hU]; exact hP, va_K.moved hW.alike hK⟩⟩ rfl rfl hl.1 rfl (lv_room (Nat.le_of_ble_eq_true rfl)) dX10_enough_7 ⟨Nat.zero_le _, Nat.zero_le _⟩)) (fun r1 er1 => ?_)
  rw [er1]
  refine lv_if_eq (tgt := 15) hx hb dX10_enough_10 (by decide) (fun c10 => ?_) (fun c10 => ?_)
  · replace hf := ip c10 hf
    refine lv_iload_n hx hb dX10_enough_15 rfl (lv_at hl 2 rfl) ?_
    refine lv_i2l (v := x2.toInt64) hx hb dX10_enough_16 rfl ?_
    refine lv_lconst (v := 0) hx hb dX10_enough_17 (by decide) ?_
    refine lv_ldc2 (v := 10) hx hb hown k_204 dX10_enough_18 ?_
    obtain ⟨zr2, qr2, hf⟩ := bd1 hf
    refine vp_callSi (va_Run.run (va_runS (As := [.long (x2.toInt64), .long 0, .long 10]) (rest := []) ⟨hx, hb, hml, hown, hts⟩ (c_M_in l (x2.toInt64) 0 10 f zr2 qr2) w_in_99 ⟨fun a U g mk q => q, fun U hU hW => ⟨rfl, trivial⟩⟩ rfl rfl hl.1 rfl (lv_room (Nat.le_of_ble_eq_true rfl)) dX10_enough_21 ⟨Nat.zero_le _, Nat.zero_le _⟩)) (fun r2 er2 => ?_)
    rw [er2]
    refine lv_if_eq (tgt := 39) hx hb dX10_enough_24 (by decide) (fun c24 => ?_) (fun c24 => ?_)
    · replace hf := ip c24 hf
      refine lv_bipush (v := (-2)) hx hb dX10_enough_39 (by decide) ?_
      exact hret (-2) (va_up I 0 0) V _ _ 41 _ hf hP hD hS dX10_enough_41
    · replace hf := im c24 hf
      refine lv_iload_n hx hb dX10_enough_27 rfl (lv_at hl 3 rfl) ?_
      refine lv_i2l (v := x3.toInt64) hx hb dX10_enough_28 rfl ?_
      refine lv_lconst (v := 0) hx hb dX10_enough_29 (by decide) ?_
      refine lv_ldc2 (v := 100) hx hb hown k_225 dX10_enough_30 ?_
      obtain ⟨zr3, qr3, hf⟩ := bd1 hf
      refine vp_callSi (va_Run.run (va_runS (As := [.long (x3.toInt64), .long 0, .long 100]) (rest := []) ⟨hx, hb, hml, hown, hts⟩ (c_M_in l (x3.toInt64) 0 100 f zr3 qr3) w_in_99 ⟨fun a U g mk q => q, fun U hU hW => ⟨rfl, trivial⟩⟩ rfl rfl hl.1 rfl (lv_room (Nat.le_of_ble_eq_true rfl)) dX10_enough_33 ⟨Nat.zero_le _, Nat.zero_le _⟩)) (fun r3 er3 => ?_)
      rw [er3]
      refine lv_if_ne (tgt := 42) hx hb dX10_enough_36 (by decide) (fun c36 => ?_) (fun c36 => ?_)
      · replace hf := im c36 hf
        refine lv_aload_n hx hb dX10_enough_42 rfl (lv_at hl 0 rfl) ?_
        refine lv_iload_n hx hb dX10_enough_43 rfl (lv_at hl 1 rfl) ?_
        obtain ⟨I5, V6, qr4, hf⟩ := bd2 hf
        have hFc := xfree hD hS hA
        refine va_callv (va_runV (As := [.int x1]) (rest := []) ⟨hx, hb, hml, hown, hts⟩ (c_M_layAskers l D cs o h _ (va_up I 0 0) V x1 f _ qr4) w_layAskers_210 ⟨xP_moved, va_recv hK hP (ci := 10) (q0 := 0) rfl rfl, fun U hU hW => ⟨rfl, by rw [hU], by rw [hU]; exact hP, va_K.moved hW.alike hK, hD.weaken (fun _ _ _ _ => trivial)⟩⟩ rfl rfl hl.1 rfl (lv_room (Nat.le_of_ble_eq_true rfl)) dX10_enough_44 ⟨Nat.zero_le _, Nat.zero_le _⟩) hS (fun q _ h9 => hFc q h9) hFc (fun u t H1 locs ht hvm hw hB hz1 hk1 hS => ?_)
        rw [hw] at hB
        obtain ⟨hP1, hK1, hD1⟩ := hB
        have hP : va_P D vwCl (w_M cs o h I5 V6) H1 := by rw [← ht]; exact hP1
        have hD : va_D A (w_M cs o h I5 V6) := hD1.weaken (fun _ q _ h9 => hFc q.1 h9)
        refine lv_iconst (v := 0) hx hb dX10_enough_47 (by decide) ?_
        refine lv_istore (lv' := [(4, .int 0), (0, .ref o), (1, .int x1), (2, .int x2), (3, .int x3)]) hx hb dX10_enough_48 hl (by decide) rfl (fun ls hl => ?_)
        have L50 : ∀ (k_50 : Int32 → Option (Int32 × FI × FV)) (hk_50 : ∀ (x4_50 : Int32), k_50 x4_50 = some out → ∀ (H : Heap) (locs : List Loc), va_P D vwCl (w_M cs o h I5 V6) H → va_D A (w_M cs o h I5 V6) → va_S A s.heap H locs → ∀ ls : Array Slot, lv_has ls 5 [(4, .int x4_50)] → W p l e rm_M_enough s m args below meth c H locs 0 0 Q (F0 m 78 ls [])), ∀ (n_50 : Nat) (x4_50 : Int32), M_enough_L50 f x2 I5 V6 x3 k_50 n_50 x4_50 = some out → ∀ (H : Heap) (locs : List Loc), va_P D vwCl (w_M cs o h I5 V6) H → va_D A (w_M cs o h I5 V6) → va_S A s.heap H locs → ∀ ls : Array Slot, lv_has ls 5 [(0, .ref o), (2, .int x2), (3, .int x3), (4, .int x4_50)] → W p l e rm_M_enough s m args below meth c H locs 0 0 Q (F0 m 50 ls []) := by
          intro k_50 hk_50 n_50
          induction n_50 with
          | zero => intro x4_50 hf; rw [M_enough_L50] at hf; cases hf
          | succ n_50 ih_50 =>
            intro x4_50 hf H locs hP hD hS ls hl
            rw [M_enough_L50] at hf
            refine lv_aload_n hx hb dX10_enough_50 rfl (lv_at hl 0 rfl) ?_
            refine lv_iload hx hb dX10_enough_51 (lv_at hl 3 rfl) ?_
            refine lv_iload_n hx hb dX10_enough_53 rfl (lv_at hl 1 rfl) ?_
            obtain ⟨zr7, qr7, hf⟩ := bd1 hf
            refine vp_callSl (va_Run.run (va_runV (As := [.int x4_50, .int x2]) (rest := []) ⟨hx, hb, hml, hown, hts⟩ (c_M_enoughBy l D cs o h I5 V6 x4_50 x2 f zr7 qr7) w_enoughBy_213 ⟨xR_moved, va_recv hK hP (ci := 10) (q0 := 0) rfl rfl, fun U hU hW => ⟨rfl, by rw [hU]; exact hP, va_K.moved hW.alike hK⟩⟩ rfl rfl hl.1 rfl (lv_room (Nat.le_of_ble_eq_true rfl)) dX10_enough_54 ⟨Nat.zero_le _, Nat.zero_le _⟩)) (fun r7 er7 => ?_)
            rw [er7]
            refine lv_ldc2 (v := 100) hx hb hown k_225 dX10_enough_57 ?_
            refine lv_lmul hx hb dX10_enough_60 ?_
            refine lv_iload_n hx hb dX10_enough_61 rfl (lv_at hl 2 rfl) ?_
            refine lv_i2l (v := x3.toInt64) hx hb dX10_enough_62 rfl ?_
            refine lv_aload_n hx hb dX10_enough_63 rfl (lv_at hl 0 rfl) ?_
            obtain ⟨zr8, qr8, hf⟩ := bd1 hf
            refine vp_callSl (va_Run.run (va_runV (As := []) (rest := [.long (x3.toInt64), .long (zr7 * 100)]) ⟨hx, hb, hml, hown, hts⟩ (c_M_wholeOf l D cs o h I5 V6 f zr8 qr8) w_wholeOf_217 ⟨xR_moved, va_recv hK hP (ci := 10) (q0 := 0) rfl rfl, fun U hU hW => ⟨rfl, by rw [hU]; exact hP, va_K.moved hW.alike hK⟩⟩ rfl rfl hl.1 rfl (lv_room (Nat.le_of_ble_eq_true rfl)) dX10_enough_64 ⟨Nat.zero_le _, Nat.zero_le _⟩)) (fun r8 er8 => ?_)
            rw [er8]
            refine lv_lmul hx hb dX10_enough_67 ?_
            refine W.lcmp hx hb dX10_enough_68 ?_
            refine lv_if_ge (tgt := 78) hx hb dX10_enough_69 (by decide) (fun c69 => ?_) (fun c69 => ?_)
            · replace hf := ip c69 hf
              exact hk_50 x4_50 hf _ _ hP hD hS _ (lv_sub hl [3] rfl)
            · replace hf := im c69 hf
              refine lv_iinc (v := (x4_50 + 1)) (lv' := [(4, .int (x4_50 + 1)), (0, .ref o), (2, .int x2), (3, .int x3)]) hx hb dX10_enough_72 hl (k := 3) rfl (by rfl) (by decide) rfl (fun ls hl => ?_)
              refine lv_goto (tgt := 50) hx hb dX10_enough_75 (by decide) ?_
              exact ih_50 (x4_50 + 1) hf _ _ hP hD hS _ (lv_sub hl [1, 2, 3, 0] rfl)
        refine L50 _ (fun x4_50 hf H locs hP hD hS ls hl => ?_) f 0 hf _ _ hP hD hS _ (lv_sub hl [1, 3, 4, 0] rfl)
        refine lv_iload hx hb dX10_enough_78 (lv_at hl 0 rfl) ?_
        exact hret x4_50 I5 V6 _ _ 80 _ hf hP hD hS dX10_enough_80
      · replace hf := ip c36 hf
        refine lv_bipush (v := (-2)) hx hb dX10_enough_39 (by decide) ?_
        exact hret (-2) (va_up I 0 0) V _ _ 41 _ hf hP hD hS dX10_enough_41
  · replace hf := im c10 hf
    refine lv_iconst (v := (-1)) hx hb dX10_enough_13 (by decide) ?_
    exact hret (-1) (va_up I 0 0) V _ _ 14 _ hf hP hD hS dX10_enough_14
def M_day (f : Nat) (x1 : Int32) (x2 : Int32) (x3 : Int32) (I : FI) (V : FV) : Option (Int32 × FI × FV) := ob1 (M_noOne f x1 (va_up I 0 0) V) (fun zr1 => (if zr1 = 0 then ob1 (M_in f (x2.toInt64) 0 99) (fun zr2 => (if zr2 = 0 then some ((-2), (va_up I 0 0), V) else (if (I 27) = 12 then some ((-4), (va_up I 0 0), V) else if (I 27) < 0 ∨ 12 ≤ (I 27).toNatClampNeg then none else (if (I 27) < 0 ∨ 12 ≤ (I 27).toNatClampNeg then none else (if (I 27) < 0 ∨ 12 ≤ (I 27).toNatClampNeg then none else (some (((I 27) + 1), (va_up (va_up I 0 0) 27 ((I 27) + 1)), (va_up (va_up (va_up V 28 (upd (V 28) (I 27).toNatClampNeg x1)) 29 (upd (V 29) (I 27).toNatClampNeg x2)) 30 (upd (V 30) (I 27).toNatClampNeg (vp_nar .boolean x3)))))))))) else some ((-1), (va_up I 0 0), V)))
abbrev rm_M_day : Room := { frames := 2, cells := 0, slots := 0, locals := 46 }
set_option maxHeartbeats 4000000 in
set_option maxRecDepth 100000 in
theorem c_M_day (l : Launch) (D : va_G) (cs : Nat → ClassId) (o : Nat) (h : Nat → Nat) (sz : Nat) (I : FI) (V : FV) (x1 : Int32) (x2 : Int32) (x3 : Int32) (f : Nat) (out : Int32 × FI × FV) (hf : M_day f x1 x2 x3 I V = some out) : Met l yX10_day wsX10_day rm_M_day (va_Pc [.ref o, .int x1, .int x2, .int x3] (xP D cs (w_M cs o h I V) sz)) (va_Qi (fun r u => (r, u) = out) (fun (u : FI × FV) t => xA D cs (va_A (w_M cs o h I V) sz) (w_M cs o h u.1 u.2) t) (va_A (w_M cs o h I V) sz)) 0 0 (va_A (w_M cs o h I V) sz) := by
  refine Met.ofW (cc := cX10_day) (maxL := 4) (ret := (some .int)) (by decide) rfl ?_
  intro p e s m args below meth c s₁ B hml hv
  obtain ⟨ha, hsz, hP, hK, hD0⟩ := hv
  have hx := B.exec
  have hb := B.bytes
  have hr := B.returns
  have hts := atoms_spec (ws := wsX10_day) B.pre
  have hown : s.vm.findClass RX10 = some m.cls := findClass_of_methodNamed B.named
  have hlocks := B.notSynchronized
  have in_X10 : ∀ w ∈ u_ws RX10 TX10 38, w ∈ wsX10_day := fun w h => List.mem_cons_of_mem _ (List.mem_append_right _ h)
  have g_92 := hts (.fieldLink RX10 92 "DaysLentModel" "thrown" "I") (by decide +kernel)
  have w_noOne_151 := cwV (R := rm_M_day) (s := s) (args := args) (rm := rm_M_noOne) (mc := 0) (ms := 0) 1 hts gX10_day_X10_noOne rfl rfl rfl (by decide +kernel) ⟨Nat.le_of_ble_eq_true rfl, Nat.le_of_ble_eq_true rfl⟩
  have k_168 := hts (.constantLong RX10 168 (99)) (by decide +kernel)
  have w_in_99 := va_cwS (R := rm_M_day) (s := s) (args := args) (rm := rm_M_in) (mc := 0) (ms := 0) 3 hts gX10_day_X10_in rfl rfl rfl (by decide +kernel) ⟨Nat.le_of_ble_eq_true rfl, Nat.le_of_ble_eq_true rfl⟩
  have g_148 := hts (.fieldLink RX10 148 "DaysLentModel" "days" "I") (by decide +kernel)
  have g_65 := hts (.fieldLink RX10 65 "DaysLentModel" "dayWho" "[I") (by decide +kernel)
  have g_68 := hts (.fieldLink RX10 68 "DaysLentModel" "dayNumber" "[I") (by decide +kernel)
  have g_71 := hts (.fieldLink RX10 71 "DaysLentModel" "daySeen" "[Z") (by decide +kernel)
  subst hsz
  have hD := hD0.self (sz := s.heap.size)
  generalize hAe : va_A (w_M cs o h I V) s.heap.size = A at hD ⊢
  have hA : ∀ q : Nat, s.heap.size ≤ q → A q := fun q h => by rw [← hAe]; exact Or.inr h
  have hS : va_S A s.heap s.heap [] := va_S.rf
  have hl := lv_entry ([.ref o, .int x1, .int x2, .int x3]) (n := 4) (Nat.le_of_ble_eq_true rfl)
  rw [show entryFrame m args 4 = entryFrame m ([.ref o, .int x1, .int x2, .int x3] : List Value).toArray 4 from by rw [ha], lg_entry_eq]
  generalize (lg_sl ([.ref o, .int x1, .int x2, .int x3]) ++ List.replicate (4 - (lg_sl ([.ref o, .int x1, .int x2, .int x3])).length) Slot.unset).toArray = ls at hl ⊢
  have hl : lv_has ls 4 [(0, .ref o), (1, .int x1), (2, .int x2), (3, .int x3)] := hl
  generalize hQ : MQ below (va_Qi (fun r u => (r, u) = out) (fun (u : FI × FV) t => xA D cs A (w_M cs o h u.1 u.2) t) A) args s 0 0 A = Q
  show W p l e rm_M_day s m args below meth c s.heap [] 0 0 Q (F0 m 0 ls [])
  have hret : ∀ (v : Int32) (Im9 : FI) (Vm9 : FV) (H : Heap) (locs : List Loc) (pc : Nat) (ls : Array Slot), some (v, Im9, Vm9) = some out → va_P D vwCl (w_M cs o h Im9 Vm9) H → va_D A (w_M cs o h Im9 Vm9) → va_S A s.heap H locs → decode cX10_day pc = .ok (.ireturn, 1) → W p l e rm_M_day s m args below meth c H locs 0 0 Q (F0 m pc ls [.int v]) := by
    intro v Im9 Vm9 H locs pc ls hf hP hD hS hd
    rw [← hQ]
    exact W.iret (v := v) hx hb hr (fun t ht hW => ⟨⟨v, (Im9, Vm9), rfl, Option.some.inj hf, by show va_P D vwCl (w_M cs o h Im9 Vm9) t.heap; rw [ht]; exact hP, va_K.moved hW.alike hK, hD⟩, hS.F ht⟩) hS.2.2 hd
  unfold M_day at hf
  refine lv_aload_n hx hb dX10_day_0 rfl (lv_at hl 0 rfl) ?_
  refine lv_iconst (v := 0) hx hb dX10_day_1 (by decide) ?_
  refine va_put (D := D) (ci := 10) (v := .int 0) (ty := .int) (C := RX10) (T := TX10) (N := 38) hx hb hts in_X10 tyX10 tyX10_ok nmX10 hown hK hP hD hS 0 rfl rfl 0 (by decide) g_92 (fun _ h9 => h9) rfl (by decide +kernel) rfl rfl (Nat.le_of_ble_eq_true rfl) dX10_day_2 (fun H locs hP hD hS => ?_)
  have hP : va_P D vwCl (w_M cs o h (va_up I 0 0) V) H := hP
  have hD : va_D A (w_M cs o h (va_up I 0 0) V) := hD
  refine lv_aload_n hx hb dX10_day_5 rfl (lv_at hl 0 rfl) ?_
  refine lv_iload_n hx hb dX10_day_6 rfl (lv_at hl 1 rfl) ?_
  obtain ⟨zr1, qr1, hf⟩ := bd1 hf
  refine vp_callSi (va_Run.run (va_runV (As := [.int x1]) (rest := []) ⟨hx, hb, hml, hown, hts⟩ (c_M_noOne l D cs o h (va_up I 0 0) V x1 f zr1 qr1) w_noOne_151 ⟨xR_moved, va_recv hK hP (ci := 10) (q0 := 0) rfl rfl, fun U hU hW => ⟨rfl, by rw [hU]; exact hP, va_K.moved hW.alike hK⟩⟩ rfl rfl hl.1 rfl (lv_room (Nat.le_of_ble_eq_true rfl)) dX10_day_7 ⟨Nat.zero_le _, Nat.zero_le _⟩)) (fun r1 er1 => ?_)
  rw [er1]
  refine lv_if_eq (tgt := 15) hx hb dX10_day_10 (by decide) (fun c10 => ?_) (fun c10 => ?_)
  · replace hf := ip c10 hf
    refine lv_iload_n hx hb dX10_day_15 rfl (lv_at hl 2 rfl) ?_
    refine lv_i2l (v := x2.toInt64) hx hb dX10_day_16 rfl ?_
    refine lv_lconst (v := 0) hx hb dX10_day_17 (by decide) ?_
    refine lv_ldc2 (v := 99) hx hb hown k_168 dX10_day_18 ?_
    obtain ⟨zr2, qr2, hf⟩ := bd1 hf
    refine vp_callSi (va_Run.run (va_runS (As := [.long (x2.toInt64), .long 0, .long 99]) (rest := []) ⟨hx, hb, hml, hown, hts⟩ (c_M_in l (x2.toInt64) 0 99 f zr2 qr2) w_in_99 ⟨fun a U g mk q => q, fun U hU hW => ⟨rfl, trivial⟩⟩ rfl rfl hl.1 rfl (lv_room (Nat.le_of_ble_eq_true rfl)) dX10_day_21 ⟨Nat.zero_le _, Nat.zero_le _⟩)) (fun r2 er2 => ?_)
    rw [er2]
    refine lv_if_ne (tgt := 30) hx hb dX10_day_24 (by decide) (fun c24 => ?_) (fun c24 => ?_)
    · replace hf := im c24 hf
      refine lv_aload_n hx hb dX10_day_30 rfl (lv_at hl 0 rfl) ?_
      refine va_get (D := D) (ci := 10) (v := .int (I 27)) (C := RX10) (T := TX10) (N := 38) hx hb hts in_X10 hown hK hP 0 rfl rfl 27 (by decide) g_148 (fun _ h9 => h9) rfl dX10_day_31 ?_
      refine lv_bipush (v := 12) hx hb dX10_day_34 (by decide) ?_
      refine lv_icmp_ne (tgt := 42) hx hb dX10_day_36 (by decide) (fun c36 => ?_) (fun c36 => ?_)
      · replace hf := im c36 hf
        refine lv_aload_n hx hb dX10_day_42 rfl (lv_at hl 0 rfl) ?_
        refine va_get (D := D) (ci := 10) (v := .ref (h 28)) (C := RX10) (T := TX10) (N := 38) hx hb hts in_X10 hown hK hP 0 rfl rfl 28 (by decide) g_65 (fun _ h9 => h9) rfl dX10_day_43 ?_
        refine lv_aload_n hx hb dX10_day_46 rfl (lv_at hl 0 rfl) ?_
        refine va_get (D := D) (ci := 10) (v := .int (I 27)) (C := RX10) (T := TX10) (N := 38) hx hb hts in_X10 hown hK hP 0 rfl rfl 27 (by decide) g_148 (fun _ h9 => h9) rfl dX10_day_47 ?_
        refine lv_iload_n hx hb dX10_day_50 rfl (lv_at hl 1 rfl) ?_
        obtain ⟨c51, hf⟩ := gd hf
        refine va_iast hx hb hK hP hD hS 19 0 rfl rfl c51 dX10_day_51 (fun H locs hP hD hS => ?_)
        have hP : va_P D vwCl (w_M cs o h (va_up I 0 0) (va_up V 28 (upd (V 28) (I 27).toNatClampNeg x1))) H := hP
        have hD : va_D A (w_M cs o h (va_up I 0 0) (va_up V 28 (upd (V 28) (I 27).toNatClampNeg x1))) := hD
        refine lv_aload_n hx hb dX10_day_52 rfl (lv_at hl 0 rfl) ?_
        refine va_get (D := D) (ci := 10) (v := .ref (h 29)) (C := RX10) (T := TX10) (N := 38) hx hb hts in_X10 hown hK hP 0 rfl rfl 29 (by decide) g_68 (fun _ h9 => h9) rfl dX10_day_53 ?_
        refine lv_aload_n hx hb dX10_day_56 rfl (lv_at hl 0 rfl) ?_
        refine va_get (D := D) (ci := 10) (v := .int (I 27)) (C := RX10) (T := TX10) (N := 38) hx hb hts in_X10 hown hK hP 0 rfl rfl 27 (by decide) g_148 (fun _ h9 => h9) rfl dX10_day_57 ?_
        refine lv_iload_n hx hb dX10_day_60 rfl (lv_at hl 2 rfl) ?_
        obtain ⟨c61, hf⟩ := gd hf
        refine va_iast hx hb hK hP hD hS 20 0 rfl rfl c61 dX10_day_61 (fun H locs hP hD hS => ?_)
        have hP : va_P D vwCl (w_M cs o h (va_up I 0 0) (va_up (va_up V 28 (upd (V 28) (I 27).toNatClampNeg x1)) 29 (upd (V 29) (I 27).toNatClampNeg x2))) H := hP
        have hD : va_D A (w_M cs o h (va_up I 0 0) (va_up (va_up V 28 (upd (V 28) (I 27).toNatClampNeg x1)) 29 (upd (V 29) (I 27).toNatClampNeg x2))) := hD
        refine lv_aload_n hx hb dX10_day_62 rfl (lv_at hl 0 rfl) ?_
        refine va_get (D := D) (ci := 10) (v := .ref (h 30)) (C := RX10) (T := TX10) (N := 38) hx hb hts in_X10 hown hK hP 0 rfl rfl 30 (by decide) g_71 (fun _ h9 => h9) rfl dX10_day_63 ?_
        refine lv_aload_n hx hb dX10_day_66 rfl (lv_at hl 0 rfl) ?_
        refine va_get (D := D) (ci := 10) (v := .int (I 27)) (C := RX10) (T := TX10) (N := 38) hx hb hts in_X10 hown hK hP 0 rfl rfl 27 (by decide) g_148 (fun _ h9 => h9) rfl dX10_day_67 ?_
        refine lv_iload_n hx hb dX10_day_70 rfl (lv_at hl 3 rfl) ?_
        obtain ⟨c71, hf⟩ := gd hf
        refine va_zast hx hb hK hP hD hS 21 1 rfl rfl c71 dX10_day_71 (fun H locs hP hD hS => ?_)
        have hP : va_P D vwCl (w_M cs o h (va_up I 0 0) (va_up (va_up (va_up V 28 (upd (V 28) (I 27).toNatClampNeg x1)) 29 (upd (V 29) (I 27).toNatClampNeg x2)) 30 (upd (V 30) (I 27).toNatClampNeg (vp_nar .boolean x3)))) H := hP
        have hD : va_D A (w_M cs o h (va_up I 0 0) (va_up (va_up (va_up V 28 (upd (V 28) (I 27).toNatClampNeg x1)) 29 (upd (V 29) (I 27).toNatClampNeg x2)) 30 (upd (V 30) (I 27).toNatClampNeg (vp_nar .boolean x3)))) := hD
        refine lv_aload_n hx hb dX10_day_72 rfl (lv_at hl 0 rfl) ?_
        refine lv_dup hx hb dX10_day_73 rfl ?_
        refine va_get (D := D) (ci := 10) (v := .int (I 27)) (C := RX10) (T := TX10) (N := 38) hx hb hts in_X10 hown hK hP 0 rfl rfl 27 (by decide) g_148 (fun _ h9 => h9) rfl dX10_day_74 ?_
        refine lv_iconst (v := 1) hx hb dX10_day_77 (by decide) ?_
        refine lv_iadd hx hb dX10_day_78 ?_
        refine va_put (D := D) (ci := 10) (v := .int ((I 27) + 1)) (ty := .int) (C := RX10) (T := TX10) (N := 38) hx hb hts in_X10 tyX10 tyX10_ok nmX10 hown hK hP hD hS 0 rfl rfl 27 (by decide) g_148 (fun _ h9 => h9) rfl (by decide +kernel) rfl rfl (Nat.le_of_ble_eq_true rfl) dX10_day_79 (fun H locs hP hD hS => ?_)
        have hP : va_P D vwCl (w_M cs o h (va_up (va_up I 0 0) 27 ((I 27) + 1)) (va_up (va_up (va_up V 28 (upd (V 28) (I 27).toNatClampNeg x1)) 29 (upd (V 29) (I 27).toNatClampNeg x2)) 30 (upd (V 30) (I 27).toNatClampNeg (vp_nar .boolean x3)))) H := hP
        have hD : va_D A (w_M cs o h (va_up (va_up I 0 0) 27 ((I 27) + 1)) (va_up (va_up (va_up V 28 (upd (V 28) (I 27).toNatClampNeg x1)) 29 (upd (V 29) (I 27).toNatClampNeg x2)) 30 (upd (V 30) (I 27).toNatClampNeg (vp_nar .boolean x3)))) := hD
        refine lv_aload_n hx hb dX10_day_82 rfl (lv_at hl 0 rfl) ?_
        refine va_get (D := D) (ci := 10) (v := .int ((I 27) + 1)) (C := RX10) (T := TX10) (N := 38) hx hb hts in_X10 hown hK hP 0 rfl rfl 27 (by decide) g_148 (fun _ h9 => h9) rfl dX10_day_83 ?_
        exact hret ((I 27) + 1) (va_up (va_up I 0 0) 27 ((I 27) + 1)) (va_up (va_up (va_up V 28 (upd (V 28) (I 27).toNatClampNeg x1)) 29 (upd (V 29) (I 27).toNatClampNeg x2)) 30 (upd (V 30) (I 27).toNatClampNeg (vp_nar .boolean x3))) _ _ 86 _ hf hP hD hS dX10_day_86
      · replace hf := ip c36 hf
        refine lv_bipush (v := (-4)) hx hb dX10_day_39 (by decide) ?_
        exact hret (-4) (va_up I 0 0) V _ _ 41 _ hf hP hD hS dX10_day_41
    · replace hf := ip c24 hf
      refine lv_bipush (v := (-2)) hx hb dX10_day_27 (by decide) ?_
      exact hret (-2) (va_up I 0 0) V _ _ 29 _ hf hP hD hS dX10_day_29
  · replace hf := im c10 hf
    refine lv_iconst (v := (-1)) hx hb dX10_day_13 (by decide) ?_
    exact hret (-1) (va_up I 0 0) V _ _ 14 _ hf hP hD hS dX10_day_14
def M_forget (f : Nat) (I : FI) (V : FV) : Option (Int32 × FI × FV) := some ((I 27), (va_up (va_up I 0 0) 27 0), V)
abbrev rm_M_forget : Room := { frames := 0, cells := 0, slots := 0, locals := 0 }
set_option maxHeartbeats 4000000 in
set_option maxRecDepth 100000 in
theorem c_M_forget (l : Launch) (D : va_G) (cs : Nat → ClassId) (o : Nat) (h : Nat → Nat) (sz : Nat) (I : FI) (V : FV) (f : Nat) (out : Int32 × FI × FV) (hf : M_forget f I V = some out) : Met l yX10_forget wsX10_forget rm_M_forget (va_Pc [.ref o] (xP D cs (w_M cs o h I V) sz)) (va_Qi (fun r u => (r, u) = out) (fun (u : FI × FV) t => xA D cs (va_A (w_M cs o h I V) sz) (w_M cs o h u.1 u.2) t) (va_A (w_M cs o h I V) sz)) 0 0 (va_A (w_M cs o h I V) sz) := by
  refine Met.ofW (cc := cX10_forget) (maxL := 2) (ret := (some .int)) (by decide) rfl ?_
  intro p e s m args below meth c s₁ B hml hv
  obtain ⟨ha, hsz, hP, hK, hD0⟩ := hv
  have hx := B.exec
  have hb := B.bytes
  have hr := B.returns
  have hts := atoms_spec (ws := wsX10_forget) B.pre
  have hown : s.vm.findClass RX10 = some m.cls := findClass_of_methodNamed B.named
  have hlocks := B.notSynchronized
  have in_X10 : ∀ w ∈ u_ws RX10 TX10 38, w ∈ wsX10_forget := fun w h => List.mem_cons_of_mem _ (List.mem_append_right _ h)
  have g_92 := hts (.fieldLink RX10 92 "DaysLentModel" "thrown" "I") (by decide +kernel)
  have g_148 := hts (.fieldLink RX10 148 "DaysLentModel" "days" "I") (by decide +kernel)
  subst hsz
  have hD := hD0.self (sz := s.heap.size)
  generalize hAe : va_A (w_M cs o h I V) s.heap.size = A at hD ⊢
  have hA : ∀ q : Nat, s.heap.size ≤ q → A q := fun q h => by rw [← hAe]; exact Or.inr h
  have hS : va_S A s.heap s.heap [] := va_S.rf
  have hl := lv_entry ([.ref o]) (n := 2) (Nat.le_of_ble_eq_true rfl)
  rw [show entryFrame m args 2 = entryFrame m ([.ref o] : List Value).toArray 2 from by rw [ha], lg_entry_eq]
  generalize (lg_sl ([.ref o]) ++ List.replicate (2 - (lg_sl ([.ref o])).length) Slot.unset).toArray = ls at hl ⊢
  have hl : lv_has ls 2 [(0, .ref o)] := hl
  generalize hQ : MQ below (va_Qi (fun r u => (r, u) = out) (fun (u : FI × FV) t => xA D cs A (w_M cs o h u.1 u.2) t) A) args s 0 0 A = Q
  show W p l e rm_M_forget s m args below meth c s.heap [] 0 0 Q (F0 m 0 ls [])
  have hret : ∀ (v : Int32) (Im9 : FI) (Vm9 : FV) (H : Heap) (locs : List Loc) (pc : Nat) (ls : Array Slot), some (v, Im9, Vm9) = some out → va_P D vwCl (w_M cs o h Im9 Vm9) H → va_D A (w_M cs o h Im9 Vm9) → va_S A s.heap H locs → decode cX10_forget pc = .ok (.ireturn, 1) → W p l e rm_M_forget s m args below meth c H locs 0 0 Q (F0 m pc ls [.int v]) := by
    intro v Im9 Vm9 H locs pc ls hf hP hD hS hd
    rw [← hQ]
    exact W.iret (v := v) hx hb hr (fun t ht hW => ⟨⟨v, (Im9, Vm9), rfl, Option.some.inj hf, by show va_P D vwCl (w_M cs o h Im9 Vm9) t.heap; rw [ht]; exact hP, va_K.moved hW.alike hK, hD⟩, hS.F ht⟩) hS.2.2 hd
  unfold M_forget at hf
  refine lv_aload_n hx hb dX10_forget_0 rfl (lv_at hl 0 rfl) ?_
  refine lv_iconst (v := 0) hx hb dX10_forget_1 (by decide) ?_
  refine va_put (D := D) (ci := 10) (v := .int 0) (ty := .int) (C := RX10) (T := TX10) (N := 38) hx hb hts in_X10 tyX10 tyX10_ok nmX10 hown hK hP hD hS 0 rfl rfl 0 (by decide) g_92 (fun _ h9 => h9) rfl (by decide +kernel) rfl rfl (Nat.le_of_ble_eq_true rfl) dX10_forget_2 (fun H locs hP hD hS => ?_)
  have hP : va_P D vwCl (w_M cs o h (va_up I 0 0) V) H := hP
  have hD : va_D A (w_M cs o h (va_up I 0 0) V) := hD
  refine lv_aload_n hx hb dX10_forget_5 rfl (lv_at hl 0 rfl) ?_
  refine va_get (D := D) (ci := 10) (v := .int (I 27)) (C := RX10) (T := TX10) (N := 38) hx hb hts in_X10 hown hK hP 0 rfl rfl 27 (by decide) g_148 (fun _ h9 => h9) rfl dX10_forget_6 ?_
  refine lv_istore_n (lv' := [(1, .int (I 27)), (0, .ref o)]) hx hb dX10_forget_9 rfl hl (by decide) rfl (fun ls hl => ?_)
  refine lv_aload_n hx hb dX10_forget_10 rfl (lv_at hl 1 rfl) ?_
  refine lv_iconst (v := 0) hx hb dX10_forget_11 (by decide) ?_
  refine va_put (D := D) (ci := 10) (v := .int 0) (ty := .int) (C := RX10) (T := TX10) (N := 38) hx hb hts in_X10 tyX10 tyX10_ok nmX10 hown hK hP hD hS 0 rfl rfl 27 (by decide) g_148 (fun _ h9 => h9) rfl (by decide +kernel) rfl rfl (Nat.le_of_ble_eq_true rfl) dX10_forget_12 (fun H locs hP hD hS => ?_)
  have hP : va_P D vwCl (w_M cs o h (va_up (va_up I 0 0) 27 0) V) H := hP
  have hD : va_D A (w_M cs o h (va_up (va_up I 0 0) 27 0) V) := hD
  refine lv_iload_n hx hb dX10_forget_15 rfl (lv_at hl 0 rfl) ?_
  exact hret (I 27) (va_up (va_up I 0 0) 27 0) V _ _ 16 _ hf hP hD hS dX10_forget_16
def M_cheats_L19 {ρ : Type} (f : Nat) (I1 : FI) (x2_9 : Int32) (V : FV) (k_19 : Int32 → Option ρ) : Nat → Int32 → Int32 → Option ρ
  | 0, _, _ => none
  | n_19 + 1, x1_19, x3_19 => (if (I1 27) ≤ x3_19 then (k_19 x1_19) else (nm (fun (t0_76 : Int32) => (nm (fun (t1_109 : Int32) => (M_cheats_L19 f I1 x2_9 V k_19 n_19 (x1_19 ||| t1_109) (x3_19 + 1))) (fun j109 => nm (fun (u_108 : Unit) => (j109 0)) (fun j108 => (if t0_76 = 0 then (j108 ()) else if x2_9 < 0 ∨ 12 ≤ x2_9.toNatClampNeg then none else (ob1 (M_noOne f ((V 28) x2_9.toNatClampNeg) I1 V) (fun zr2 => (if zr2 = 0 then if x2_9 < 0 ∨ 12 ≤ x2_9.toNatClampNeg then none else ((j109 (1 <<< (((V 28) x2_9.toNatClampNeg) &&& 31)))) else (j108 ()))))))))) (fun j76 => nm (fun (u_75 : Unit) => (j76 0)) (fun j75 => (if x3_19 = x2_9 then (j75 ()) else if x2_9 < 0 ∨ 12 ≤ x2_9.toNatClampNeg then none else ((if ((V 30) x2_9.toNatClampNeg) = 0 then if x3_19 < 0 ∨ 12 ≤ x3_19.toNatClampNeg then none else (if x2_9 < 0 ∨ 12 ≤ x2_9.toNatClampNeg then none else ((if ((V 28) x3_19.toNatClampNeg) = ((V 28) x2_9.toNatClampNeg) then if x3_19 < 0 ∨ 12 ≤ x3_19.toNatClampNeg then none else (if x2_9 < 0 ∨ 12 ≤ x2_9.toNatClampNeg then none else ((if ((V 29) x3_19.toNatClampNeg) = ((V 29) x2_9.toNatClampNeg) then (j76 1) else (j75 ())))) else (j75 ())))) else (j75 ()))))))))
def M_cheats_L9 {ρ : Type} (f : Nat) (I1 : FI) (V : FV) (k_9 : Int32 → Option ρ) : Nat → Int32 → Int32 → Option ρ
  | 0, _, _ => none
  | n_9 + 1, x1_9, x2_9 => (if (I1 27) ≤ x2_9 then (k_9 x1_9) else (M_cheats_L19 f I1 x2_9 V (fun (x1_19 : Int32) => (M_cheats_L9 f I1 V k_9 n_9 x1_19 (x2_9 + 1))) f x1_9 0))
def M_cheats (f : Nat) (I : FI) (V : FV) : Option (Int32 × FI × FV) := nm (va_up I 0 0) (fun I1 => (M_cheats_L9 f I1 V (fun (x1_9 : Int32) => some (x1_9, I1, V)) f 0 0))
abbrev rm_M_cheats : Room := { frames := 2, cells := 0, slots := 0, locals := 46 }
set_option maxHeartbeats 4000000 in
set_option maxRecDepth 100000 in
theorem c_M_cheats (l : Launch) (D : va_G) (cs : Nat → ClassId) (o : Nat) (h : Nat → Nat) (sz : Nat) (I : FI) (V : FV) (f : Nat) (out : Int32 × FI × FV) (hf : M_cheats f I V = some out) : Met l yX10_cheats wsX10_cheats rm_M_cheats (va_Pc [.ref o] (xP D cs (w_M cs o h I V) sz)) (va_Qi (fun r u => (r, u) = out) (fun (u : FI × FV) t => xA D cs (va_A (w_M cs o h I V) sz) (w_M cs o h u.1 u.2) t) (va_A (w_M cs o h I V) sz)) 0 0 (va_A (w_M cs o h I V) sz) := by
  refine Met.ofW (cc := cX10_cheats) (maxL := 5) (ret := (some .int)) (by decide) rfl ?_
  intro p e s m args below meth c s₁ B hml hv
  obtain ⟨ha, hsz, hP, hK, hD0⟩ := hv
  have hx := B.exec
  have hb := B.bytes
  have hr := B.returns
  have hts := atoms_spec (ws := wsX10_cheats) B.pre
  have hown : s.vm.findClass RX10 = some m.cls := findClass_of_methodNamed B.named
  have hlocks := B.notSynchronized
  have in_X10 : ∀ w ∈ u_ws RX10 TX10 38, w ∈ wsX10_cheats := fun w h => List.mem_cons_of_mem _ (List.mem_append_right _ h)
  have g_92 := hts (.fieldLink RX10 92 "DaysLentModel" "thrown" "I") (by decide +kernel)
  have g_148 := hts (.fieldLink RX10 148 "DaysLentModel" "days" "I") (by decide +kernel)
  have g_71 := hts (.fieldLink RX10 71 "DaysLentModel" "daySeen" "[Z") (by decide +kernel)
  have g_65 := hts (.fieldLink RX10 65 "DaysLentModel" "dayWho" "[I") (by decide +kernel)
  have g_68 := hts (.fieldLink RX10 68 "DaysLentModel" "dayNumber" "[I") (by decide +kernel)
  have w_noOne_151 := cwV (R := rm_M_cheats) (s := s) (args := args) (rm := rm_M_noOne) (mc := 0) (ms := 0) 1 hts gX10_cheats_X10_noOne rfl rfl rfl (by decide +kernel) ⟨Nat.le_of_ble_eq_true rfl, Nat.le_of_ble_eq_true rfl⟩
  subst hsz
  have hD := hD0.self (sz := s.heap.size)
  generalize hAe : va_A (w_M cs o h I V) s.heap.size = A at hD ⊢
  have hA : ∀ q : Nat, s.heap.size ≤ q → A q := fun q h => by rw [← hAe]; exact Or.inr h
  have hS : va_S A s.heap s.heap [] := va_S.rf
  have hl := lv_entry ([.ref o]) (n := 5) (Nat.le_of_ble_eq_true rfl)
  rw [show entryFrame m args 5 = entryFrame m ([.ref o] : List Value).toArray 5 from by rw [ha], lg_entry_eq]
  generalize (lg_sl ([.ref o]) ++ List.replicate (5 - (lg_sl ([.ref o])).length) Slot.unset).toArray = ls at hl ⊢
  have hl : lv_has ls 5 [(0, .ref o)] := hl
  generalize hQ : MQ below (va_Qi (fun r u => (r, u) = out) (fun (u : FI × FV) t => xA D cs A (w_M cs o h u.1 u.2) t) A) args s 0 0 A = Q
  show W p l e rm_M_cheats s m args below meth c s.heap [] 0 0 Q (F0 m 0 ls [])
  have hret : ∀ (v : Int32) (Im9 : FI) (Vm9 : FV) (H : Heap) (locs : List Loc) (pc : Nat) (ls : Array Slot), some (v, Im9, Vm9) = some out → va_P D vwCl (w_M cs o h Im9 Vm9) H → va_D A (w_M cs o h Im9 Vm9) → va_S A s.heap H locs → decode cX10_cheats pc = .ok (.ireturn, 1) → W p l e rm_M_cheats s m args below meth c H locs 0 0 Q (F0 m pc ls [.int v]) := by
    intro v Im9 Vm9 H locs pc ls hf hP hD hS hd
    rw [← hQ]
    exact W.iret (v := v) hx hb hr (fun t ht hW => ⟨⟨v, (Im9, Vm9), rfl, Option.some.inj hf, by show va_P D vwCl (w_M cs o h Im9 Vm9) t.heap; rw [ht]; exact hP, va_K.moved hW.alike hK, hD⟩, hS.F ht⟩) hS.2.2 hd
  unfold M_cheats at hf
  refine lv_aload_n hx hb dX10_cheats_0 rfl (lv_at hl 0 rfl) ?_
  refine lv_iconst (v := 0) hx hb dX10_cheats_1 (by decide) ?_
  refine va_put (D := D) (ci := 10) (v := .int 0) (ty := .int) (C := RX10) (T := TX10) (N := 38) hx hb hts in_X10 tyX10 tyX10_ok nmX10 hown hK hP hD hS 0 rfl rfl 0 (by decide) g_92 (fun _ h9 => h9) rfl (by decide +kernel) rfl rfl (Nat.le_of_ble_eq_true rfl) dX10_cheats_2 (fun H locs hP hD hS => ?_)
  have hP : va_P D vwCl (w_M cs o h (va_up I 0 0) V) H := hP
  have hD : va_D A (w_M cs o h (va_up I 0 0) V) := hD
  refine lv_iconst (v := 0) hx hb dX10_cheats_5 (by decide) ?_
  refine lv_istore_n (lv' := [(1, .int 0), (0, .ref o)]) hx hb dX10_cheats_6 rfl hl (by decide) rfl (fun ls hl => ?_)
  refine lv_iconst (v := 0) hx hb dX10_cheats_7 (by decide) ?_
  refine lv_istore_n (lv' := [(2, .int 0), (1, .int 0), (0, .ref o)]) hx hb dX10_cheats_8 rfl hl (by decide) rfl (fun ls hl => ?_)
  obtain ⟨I1, eI1, hf⟩ := nme hf
  rw [← eI1] at hP hD
  have L9 : ∀ (k_9 : Int32 → Option (Int32 × FI × FV)) (hk_9 : ∀ (x1_9 : Int32), k_9 x1_9 = some out → ∀ (H : Heap) (locs : List Loc), va_P D vwCl (w_M cs o h I1 V) H → va_D A (w_M cs o h I1 V) → va_S A s.heap H locs → ∀ ls : Array Slot, lv_has ls 5 [(1, .int x1_9)] → W p l e rm_M_cheats s m args below meth c H locs 0 0 Q (F0 m 123 ls [])), ∀ (n_9 : Nat) (x1_9 : Int32) (x2_9 : Int32), M_cheats_L9 f I1 V k_9 n_9 x1_9 x2_9 = some out → ∀ (H : Heap) (locs : List Loc), va_P D vwCl (w_M cs o h I1 V) H → va_D A (w_M cs o h I1 V) → va_S A s.heap H locs → ∀ ls : Array Slot, lv_has ls 5 [(0, .ref o), (1, .int x1_9), (2, .int x2_9)] → W p l e rm_M_cheats s m args below meth c H locs 0 0 Q (F0 m 9 ls []) := by
    intro k_9 hk_9 n_9
    induction n_9 with
    | zero => intro x1_9 x2_9 hf; rw [M_cheats_L9] at hf; cases hf
    | succ n_9 ih_9 =>
      intro x1_9 x2_9 hf H locs hP hD hS ls hl
      rw [M_cheats_L9] at hf
      refine lv_iload_n hx hb dX10_cheats_9 rfl (lv_at hl 2 rfl) ?_
      refine lv_aload_n hx hb dX10_cheats_10 rfl (lv_at hl 0 rfl) ?_
      refine va_get (D := D) (ci := 10) (v := .int (I1 27)) (C := RX10) (T := TX10) (N := 38) hx hb hts in_X10 hown hK hP 0 rfl rfl 27 (by decide) g_148 (fun _ h9 => h9) rfl dX10_cheats_11 ?_
      refine lv_icmp_ge (tgt := 123) hx hb dX10_cheats_14 (by decide) (fun c14 => ?_) (fun c14 => ?_)
      · replace hf := ip c14 hf
        exact hk_9 x1_9 hf _ _ hP hD hS _ (lv_sub hl [1] rfl)
      · replace hf := im c14 hf
        refine lv_iconst (v := 0) hx hb dX10_cheats_17 (by decide) ?_
        refine lv_istore_n (lv' := [(3, .int 0), (0, .ref o), (1, .int x1_9), (2, .int x2_9)]) hx hb dX10_cheats_18 rfl hl (by decide) rfl (fun ls hl => ?_)
        have L19 : ∀ (k_19 : Int32 → Option (Int32 × FI × FV)) (hk_19 : ∀ (x1_19 : Int32), k_19 x1_19 = some out → ∀ (H : Heap) (locs : List Loc), va_P D vwCl (w_M cs o h I1 V) H → va_D A (w_M cs o h I1 V) → va_S A s.heap H locs → ∀ ls : Array Slot, lv_has ls 5 [(0, .ref o), (1, .int x1_19), (2, .int x2_9)] → W p l e rm_M_cheats s m args below meth c H locs 0 0 Q (F0 m 117 ls [])), ∀ (n_19 : Nat) (x1_19 : Int32) (x3_19 : Int32), M_cheats_L19 f I1 x2_9 V k_19 n_19 x1_19 x3_19 = some out → ∀ (H : Heap) (locs : List Loc), va_P D vwCl (w_M cs o h I1 V) H → va_D A (w_M cs o h I1 V) → va_S A s.heap H locs → ∀ ls : Array Slot, lv_has ls 5 [(0, .ref o), (1, .int x1_19), (2, .int x2_9), (3, .int x3_19)] → W p l e rm_M_cheats s m args below meth c H locs 0 0 Q (F0 m 19 ls []) := by
          intro k_19 hk_19 n_19
          induction n_19 with
          | zero => intro x1_19 x3_19 hf; rw [M_cheats_L19] at hf; cases hf
          | succ n_19 ih_19 =>
            intro x1_19 x3_19 hf H locs hP hD hS ls hl
            rw [M_cheats_L19] at hf
            refine lv_iload_n hx hb dX10_cheats_19 rfl (lv_at hl 3 rfl) ?_
            refine lv_aload_n hx hb dX10_cheats_20 rfl (lv_at hl 0 rfl) ?_
            refine va_get (D := D) (ci := 10) (v := .int (I1 27)) (C := RX10) (T := TX10) (N := 38) hx hb hts in_X10 hown hK hP 0 rfl rfl 27 (by decide) g_148 (fun _ h9 => h9) rfl dX10_cheats_21 ?_
            refine lv_icmp_ge (tgt := 117) hx hb dX10_cheats_24 (by decide) (fun c24 => ?_) (fun c24 => ?_)
            · replace hf := ip c24 hf
              exact hk_19 x1_19 hf _ _ hP hD hS _ (lv_sub hl [0, 1, 2] rfl)
            · replace hf := im c24 hf
              refine lv_iload_n hx hb dX10_cheats_27 rfl (lv_at hl 3 rfl) ?_
              refine lv_iload_n hx hb dX10_cheats_28 rfl (lv_at hl 2 rfl) ?_
              obtain ⟨j76, ej76, hf⟩ := nme hf
              have J76 : ∀ (t0_76 : Int32), j76 t0_76 = some out → ∀ (H : Heap) (locs : List Loc), va_P D vwCl (w_M cs o h I1 V) H → va_D A (w_M cs o h I1 V) → va_S A s.heap H locs → ∀ ls : Array Slot, lv_has ls 5 [(0, .ref o), (1, .int x1_19), (2, .int x2_9), (3, .int x3_19)] → W p l e rm_M_cheats s m args below meth c H locs 0 0 Q (F0 m 76 ls [.int t0_76]) := by
                intro t0_76 hf H locs hP hD hS ls hl
                rw [ej76] at hf
                refine lv_istore (lv' := [(4, .int t0_76), (0, .ref o), (1, .int x1_19), (2, .int x2_9), (3, .int x3_19)]) hx hb dX10_cheats_76 hl (by decide) rfl (fun ls hl => ?_)
                refine lv_iload_n hx hb dX10_cheats_78 rfl (lv_at hl 2 rfl) ?_
                refine lv_iload hx hb dX10_cheats_79 (lv_at hl 0 rfl) ?_
                obtain ⟨j109, ej109, hf⟩ := nme hf
                have J109 : ∀ (t1_109 : Int32), j109 t1_109 = some out → ∀ (H : Heap) (locs : List Loc), va_P D vwCl (w_M cs o h I1 V) H → va_D A (w_M cs o h I1 V) → va_S A s.heap H locs → ∀ ls : Array Slot, lv_has ls 5 [(0, .ref o), (2, .int x2_9), (3, .int x3_19)] → W p l e rm_M_cheats s m args below meth c H locs 0 0 Q (F0 m 109 ls [.int t1_109, .int x1_19]) := by
                  intro t1_109 hf H locs hP hD hS ls hl
                  rw [ej109] at hf
                  refine lv_ior hx hb dX10_cheats_109 ?_
                  refine lv_istore_n (lv' := [(1, .int (x1_19 ||| t1_109)), (0, .ref o), (2, .int x2_9), (3, .int x3_19)]) hx hb dX10_cheats_110 rfl hl (by decide) rfl (fun ls hl => ?_)
                  refine lv_iinc (v := (x3_19 + 1)) (lv' := [(3, .int (x3_19 + 1)), (1, .int (x1_19 ||| t1_109)), (0, .ref o), (2, .int x2_9)]) hx hb dX10_cheats_111 hl (k := 3) rfl (by rfl) (by decide) rfl (fun ls hl => ?_)
                  refine lv_goto (tgt := 19) hx hb dX10_cheats_114 (by decide) ?_
                  exact ih_19 (x1_19 ||| t1_109) (x3_19 + 1) hf _ _ hP hD hS _ (lv_sub hl [2, 1, 3, 0] rfl)
                obtain ⟨j108, ej108, hf⟩ := nme hf
                have J108 : ∀ (u_108 : Unit), j108 u_108 = some out → ∀ (H : Heap) (locs : List Loc), va_P D vwCl (w_M cs o h I1 V) H → va_D A (w_M cs o h I1 V) → va_S A s.heap H locs → ∀ ls : Array Slot, lv_has ls 5 [(0, .ref o), (2, .int x2_9), (3, .int x3_19)] → W p l e rm_M_cheats s m args below meth c H locs 0 0 Q (F0 m 108 ls [.int x1_19]) := by
                  intro u_108 hf H locs hP hD hS ls hl
                  rw [ej108] at hf
                  refine lv_iconst (v := 0) hx hb dX10_cheats_108 (by decide) ?_
                  exact J109 0 hf _ _ hP hD hS _ (lv_sub hl [0, 1, 2] rfl)
                refine lv_if_eq (tgt := 108) hx hb dX10_cheats_81 (by decide) (fun c81 => ?_) (fun c81 => ?_)
                · replace hf := ip c81 hf
                  exact J108 () hf _ _ hP hD hS _ (lv_sub hl [1, 3, 4] rfl)
                · replace hf := im c81 hf
                  refine lv_aload_n hx hb dX10_cheats_84 rfl (lv_at hl 1 rfl) ?_
                  refine lv_aload_n hx hb dX10_cheats_85 rfl (lv_at hl 1 rfl) ?_
                  refine va_get (D := D) (ci := 10) (v := .ref (h 28)) (C := RX10) (T := TX10) (N := 38) hx hb hts in_X10 hown hK hP 0 rfl rfl 28 (by decide) g_65 (fun _ h9 => h9) rfl dX10_cheats_86 ?_
                  refine lv_iload_n hx hb dX10_cheats_89 rfl (lv_at hl 3 rfl) ?_
                  obtain ⟨c90, hf⟩ := gd hf
                  refine va_iald hx hb hK hP 19 0 rfl rfl c90 dX10_cheats_90 ?_
                  obtain ⟨zr2, qr2, hf⟩ := bd1 hf
                  refine vp_callSi (va_Run.run (va_runV (As := [.int ((V 28) x2_9.toNatClampNeg)]) (rest := [.int x1_19]) ⟨hx, hb, hml, hown, hts⟩ (c_M_noOne l D cs o h I1 V ((V 28) x2_9.toNatClampNeg) f zr2 qr2) w_noOne_151 ⟨xR_moved, va_recv hK hP (ci := 10) (q0 := 0) rfl rfl, fun U hU hW => ⟨rfl, by rw [hU]; exact hP, va_K.moved hW.alike hK⟩⟩ rfl rfl hl.1 rfl (lv_room (Nat.le_of_ble_eq_true rfl)) dX10_cheats_91 ⟨Nat.zero_le _, Nat.zero_le _⟩)) (fun r2 er2 => ?_)
                  rw [er2]
                  refine lv_if_ne (tgt := 108) hx hb dX10_cheats_94 (by decide) (fun c94 => ?_) (fun c94 => ?_)
                  · replace hf := im c94 hf
                    exact J108 () hf _ _ hP hD hS _ (lv_sub hl [1, 3, 4] rfl)
                  · replace hf := ip c94 hf
                    refine lv_iconst (v := 1) hx hb dX10_cheats_97 (by decide) ?_
                    refine lv_aload_n hx hb dX10_cheats_98 rfl (lv_at hl 1 rfl) ?_
                    refine va_get (D := D) (ci := 10) (v := .ref (h 28)) (C := RX10) (T := TX10) (N := 38) hx hb hts in_X10 hown hK hP 0 rfl rfl 28 (by decide) g_65 (fun _ h9 => h9) rfl dX10_cheats_99 ?_
                    refine lv_iload_n hx hb dX10_cheats_102 rfl (lv_at hl 3 rfl) ?_
                    obtain ⟨c103, hf⟩ := gd hf
                    refine va_iald hx hb hK hP 19 0 rfl rfl c103 dX10_cheats_103 ?_
                    refine lv_ishl hx hb dX10_cheats_104 ?_
                    refine lv_goto (tgt := 109) hx hb dX10_cheats_105 (by decide) ?_
                    exact J109 (1 <<< (((V 28) x2_9.toNatClampNeg) &&& 31)) hf _ _ hP hD hS _ (lv_sub hl [1, 3, 4] rfl)
              obtain ⟨j75, ej75, hf⟩ := nme hf
              have J75 : ∀ (u_75 : Unit), j75 u_75 = some out → ∀ (H : Heap) (locs : List Loc), va_P D vwCl (w_M cs o h I1 V) H → va_D A (w_M cs o h I1 V) → va_S A s.heap H locs → ∀ ls : Array Slot, lv_has ls 5 [(0, .ref o), (1, .int x1_19), (2, .int x2_9), (3, .int x3_19)] → W p l e rm_M_cheats s m args below meth c H locs 0 0 Q (F0 m 75 ls []) := by
                intro u_75 hf H locs hP hD hS ls hl
                rw [ej75] at hf
                refine lv_iconst (v := 0) hx hb dX10_cheats_75 (by decide) ?_
                exact J76 0 hf _ _ hP hD hS _ (lv_sub hl [0, 1, 2, 3] rfl)
              refine lv_icmp_eq (tgt := 75) hx hb dX10_cheats_29 (by decide) (fun c29 => ?_) (fun c29 => ?_)
              · replace hf := ip c29 hf
                exact J75 () hf _ _ hP hD hS _ (lv_sub hl [0, 1, 2, 3] rfl)
              · replace hf := im c29 hf
                refine lv_aload_n hx hb dX10_cheats_32 rfl (lv_at hl 0 rfl) ?_
                refine va_get (D := D) (ci := 10) (v := .ref (h 30)) (C := RX10) (T := TX10) (N := 38) hx hb hts in_X10 hown hK hP 0 rfl rfl 30 (by decide) g_71 (fun _ h9 => h9) rfl dX10_cheats_33 ?_
                refine lv_iload_n hx hb dX10_cheats_36 rfl (lv_at hl 2 rfl) ?_
                obtain ⟨c37, hf⟩ := gd hf
                refine va_zald hx hb hK hP 21 1 rfl rfl c37 dX10_cheats_37 ?_
                refine lv_if_ne (tgt := 75) hx hb dX10_cheats_38 (by decide) (fun c38 => ?_) (fun c38 => ?_)
                · replace hf := im c38 hf
                  exact J75 () hf _ _ hP hD hS _ (lv_sub hl [0, 1, 2, 3] rfl)
                · replace hf := ip c38 hf
                  refine lv_aload_n hx hb dX10_cheats_41 rfl (lv_at hl 0 rfl) ?_
                  refine va_get (D := D) (ci := 10) (v := .ref (h 28)) (C := RX10) (T := TX10) (N := 38) hx hb hts in_X10 hown hK hP 0 rfl rfl 28 (by decide) g_65 (fun _ h9 => h9) rfl dX10_cheats_42 ?_
                  refine lv_iload_n hx hb dX10_cheats_45 rfl (lv_at hl 3 rfl) ?_
                  obtain ⟨c46, hf⟩ := gd hf
                  refine va_iald hx hb hK hP 19 0 rfl rfl c46 dX10_cheats_46 ?_
                  refine lv_aload_n hx hb dX10_cheats_47 rfl (lv_at hl 0 rfl) ?_
                  refine va_get (D := D) (ci := 10) (v := .ref (h 28)) (C := RX10) (T := TX10) (N := 38) hx hb hts in_X10 hown hK hP 0 rfl rfl 28 (by decide) g_65 (fun _ h9 => h9) rfl dX10_cheats_48 ?_
                  refine lv_iload_n hx hb dX10_cheats_51 rfl (lv_at hl 2 rfl) ?_
                  obtain ⟨c52, hf⟩ := gd hf
                  refine va_iald hx hb hK hP 19 0 rfl rfl c52 dX10_cheats_52 ?_
                  refine lv_icmp_ne (tgt := 75) hx hb dX10_cheats_53 (by decide) (fun c53 => ?_) (fun c53 => ?_)
                  · replace hf := im c53 hf
                    exact J75 () hf _ _ hP hD hS _ (lv_sub hl [0, 1, 2, 3] rfl)
                  · replace hf := ip c53 hf
                    refine lv_aload_n hx hb dX10_cheats_56 rfl (lv_at hl 0 rfl) ?_
                    refine va_get (D := D) (ci := 10) (v := .ref (h 29)) (C := RX10) (T := TX10) (N := 38) hx hb hts in_X10 hown hK hP 0 rfl rfl 29 (by decide) g_68 (fun _ h9 => h9) rfl dX10_cheats_57 ?_
                    refine lv_iload_n hx hb dX10_cheats_60 rfl (lv_at hl 3 rfl) ?_
                    obtain ⟨c61, hf⟩ := gd hf
                    refine va_iald hx hb hK hP 20 0 rfl rfl c61 dX10_cheats_61 ?_
                    refine lv_aload_n hx hb dX10_cheats_62 rfl (lv_at hl 0 rfl) ?_
                    refine va_get (D := D) (ci := 10) (v := .ref (h 29)) (C := RX10) (T := TX10) (N := 38) hx hb hts in_X10 hown hK hP 0 rfl rfl 29 (by decide) g_68 (fun _ h9 => h9) rfl dX10_cheats_63 ?_
                    refine lv_iload_n hx hb dX10_cheats_66 rfl (lv_at hl 2 rfl) ?_
                    obtain ⟨c67, hf⟩ := gd hf
                    refine va_iald hx hb hK hP 20 0 rfl rfl c67 dX10_cheats_67 ?_
                    refine lv_icmp_ne (tgt := 75) hx hb dX10_cheats_68 (by decide) (fun c68 => ?_) (fun c68 => ?_)
                    · replace hf := im c68 hf
                      exact J75 () hf _ _ hP hD hS _ (lv_sub hl [0, 1, 2, 3] rfl)
                    · replace hf := ip c68 hf
                      refine lv_iconst (v := 1) hx hb dX10_cheats_71 (by decide) ?_
                      refine lv_goto (tgt := 76) hx hb dX10_cheats_72 (by decide) ?_
                      exact J76 1 hf _ _ hP hD hS _ (lv_sub hl [0, 1, 2, 3] rfl)
        refine L19 _ (fun x1_19 hf H locs hP hD hS ls hl => ?_) f x1_9 0 hf _ _ hP hD hS _ (lv_sub hl [1, 2, 3, 0] rfl)
        refine lv_iinc (v := (x2_9 + 1)) (lv' := [(2, .int (x2_9 + 1)), (0, .ref o), (1, .int x1_19)]) hx hb dX10_cheats_117 hl (k := 2) rfl (by rfl) (by decide) rfl (fun ls hl => ?_)
        refine lv_goto (tgt := 9) hx hb dX10_cheats_120 (by decide) ?_
        exact ih_9 x1_19 (x2_9 + 1) hf _ _ hP hD hS _ (lv_sub hl [1, 2, 0] rfl)
  refine L9 _ (fun x1_9 hf H locs hP hD hS ls hl => ?_) f 0 0 hf _ _ hP hD hS _ (lv_sub hl [2, 1, 0] rfl)
  refine lv_iload_n hx hb dX10_cheats_123 rfl (lv_at hl 0 rfl) ?_
  exact hret x1_9 I1 V _ _ 124 _ hf hP hD hS dX10_cheats_124
def M_keep (f : Nat) (x1 : Int32) (I : FI) (V : FV) : Option (Int32 × FI × FV) := ob1 (M_in f (x1.toInt64) 0 1) (fun zr1 => (if zr1 = 0 then some ((-1), (va_up I 0 0), V) else if x1 < 0 ∨ 2 ≤ x1.toNatClampNeg then none else (ob2 (M_layPage_kept f (74 * x1) (va_up I 0 0) (va_up V 26 (upd (V 26) x1.toNatClampNeg (vp_nar .boolean 1)))) (fun I3 V4 => some ((I3 9), I3, V4)))))
abbrev rm_M_keep : Room := { frames := 1, cells := 0, slots := 0, locals := 25 }
set_option maxHeartbeats 4000000 in
set_option maxRecDepth 100000 in
theorem c_M_keep (l : Launch) (D : va_G) (cs : Nat → ClassId) (o : Nat) (h : Nat → Nat) (sz : Nat) (I : FI) (V : FV) (x1 : Int32) (f : Nat) (out : Int32 × FI × FV) (hf : M_keep f x1 I V = some out) : Met l yX10_keep wsX10_keep rm_M_keep (va_Pc [.ref o, .int x1] (xP D cs (w_M cs o h I V) sz)) (va_Qi (fun r u => (r, u) = out) (fun (u : FI × FV) t => xA D cs (va_A (w_M cs o h I V) sz) (w_M cs o h u.1 u.2) t) (va_A (w_M cs o h I V) sz)) 0 0 (va_A (w_M cs o h I V) sz) := by
  refine Met.ofW (cc := cX10_keep) (maxL := 2) (ret := (some .int)) (by decide) rfl ?_
  intro p e s m args below meth c s₁ B hml hv
  obtain ⟨ha, hsz, hP, hK, hD0⟩ := hv
  have hx := B.exec
  have hb := B.bytes
  have hr := B.returns
  have hts := atoms_spec (ws := wsX10_keep) B.pre
  have hown : s.vm.findClass RX10 = some m.cls := findClass_of_methodNamed B.named
  have hlocks := B.notSynchronized
  have in_X10 : ∀ w ∈ u_ws RX10 TX10 38, w ∈ wsX10_keep := fun w h => List.mem_cons_of_mem _ (List.mem_append_right _ h)
  have g_92 := hts (.fieldLink RX10 92 "DaysLentModel" "thrown" "I") (by decide +kernel)
  have w_in_99 := va_cwS (R := rm_M_keep) (s := s) (args := args) (rm := rm_M_in) (mc := 0) (ms := 0) 3 hts gX10_keep_X10_in rfl rfl rfl (by decide +kernel) ⟨Nat.le_of_ble_eq_true rfl, Nat.le_of_ble_eq_true rfl⟩
  have g_62 := hts (.fieldLink RX10 62 "DaysLentModel" "isKept" "[Z") (by decide +kernel)
  have g_59 := hts (.fieldLink RX10 59 "DaysLentModel" "kept" "[I") (by decide +kernel)
  have w_layPage_164 := cwV (R := rm_M_keep) (s := s) (args := args) (rm := rm_M_layPage_kept) (mc := 0) (ms := 0) 2 hts gX10_keep_X10_layPage rfl rfl rfl (by decide +kernel) ⟨Nat.le_of_ble_eq_true rfl, Nat.le_of_ble_eq_true rfl⟩
  have g_135 := hts (.fieldLink RX10 135 "DaysLentModel" "debts" "I") (by decide +kernel)
  subst hsz
  have hD := hD0.self (sz := s.heap.size)
  generalize hAe : va_A (w_M cs o h I V) s.heap.size = A at hD ⊢
  have hA : ∀ q : Nat, s.heap.size ≤ q → A q := fun q h => by rw [← hAe]; exact Or.inr h
  have hS : va_S A s.heap s.heap [] := va_S.rf
  have hl := lv_entry ([.ref o, .int x1]) (n := 2) (Nat.le_of_ble_eq_true rfl)
  rw [show entryFrame m args 2 = entryFrame m ([.ref o, .int x1] : List Value).toArray 2 from by rw [ha], lg_entry_eq]
  generalize (lg_sl ([.ref o, .int x1]) ++ List.replicate (2 - (lg_sl ([.ref o, .int x1])).length) Slot.unset).toArray = ls at hl ⊢
  have hl : lv_has ls 2 [(0, .ref o), (1, .int x1)] := hl
  generalize hQ : MQ below (va_Qi (fun r u => (r, u) = out) (fun (u : FI × FV) t => xA D cs A (w_M cs o h u.1 u.2) t) A) args s 0 0 A = Q
  show W p l e rm_M_keep s m args below meth c s.heap [] 0 0 Q (F0 m 0 ls [])
  have hret : ∀ (v : Int32) (Im9 : FI) (Vm9 : FV) (H : Heap) (locs : List Loc) (pc : Nat) (ls : Array Slot), some (v, Im9, Vm9) = some out → va_P D vwCl (w_M cs o h Im9 Vm9) H → va_D A (w_M cs o h Im9 Vm9) → va_S A s.heap H locs → decode cX10_keep pc = .ok (.ireturn, 1) → W p l e rm_M_keep s m args below meth c H locs 0 0 Q (F0 m pc ls [.int v]) := by
    intro v Im9 Vm9 H locs pc ls hf hP hD hS hd
    rw [← hQ]
    exact W.iret (v := v) hx hb hr (fun t ht hW => ⟨⟨v, (Im9, Vm9), rfl, Option.some.inj hf, by show va_P D vwCl (w_M cs o h Im9 Vm9) t.heap; rw [ht]; exact hP, va_K.moved hW.alike hK, hD⟩, hS.F ht⟩) hS.2.2 hd
  unfold M_keep at hf
  refine lv_aload_n hx hb dX10_keep_0 rfl (lv_at hl 0 rfl) ?_
  refine lv_iconst (v := 0) hx hb dX10_keep_1 (by decide) ?_
  refine va_put (D := D) (ci := 10) (v := .int 0) (ty := .int) (C := RX10) (T := TX10) (N := 38) hx hb hts in_X10 tyX10 tyX10_ok nmX10 hown hK hP hD hS 0 rfl rfl 0 (by decide) g_92 (fun _ h9 => h9) rfl (by decide +kernel) rfl rfl (Nat.le_of_ble_eq_true rfl) dX10_keep_2 (fun H locs hP hD hS => ?_)
  have hP : va_P D vwCl (w_M cs o h (va_up I 0 0) V) H := hP
  have hD : va_D A (w_M cs o h (va_up I 0 0) V) := hD
  refine lv_iload_n hx hb dX10_keep_5 rfl (lv_at hl 1 rfl) ?_
  refine lv_i2l (v := x1.toInt64) hx hb dX10_keep_6 rfl ?_
  refine lv_lconst (v := 0) hx hb dX10_keep_7 (by decide) ?_
  refine lv_lconst (v := 1) hx hb dX10_keep_8 (by decide) ?_
  obtain ⟨zr1, qr1, hf⟩ := bd1 hf
  refine vp_callSi (va_Run.run (va_runS (As := [.long (x1.toInt64), .long 0, .long 1]) (rest := []) ⟨hx, hb, hml, hown, hts⟩ (c_M_in l (x1.toInt64) 0 1 f zr1 qr1) w_in_99 ⟨fun a U g mk q => q, fun U hU hW => ⟨rfl, trivial⟩⟩ rfl rfl hl.1 rfl (lv_room (Nat.le_of_ble_eq_true rfl)) dX10_keep_9 ⟨Nat.zero_le _, Nat.zero_le _⟩)) (fun r1 er1 => ?_)
  rw [er1]
  refine lv_if_ne (tgt := 17) hx hb dX10_keep_12 (by decide) (fun c12 => ?_) (fun c12 => ?_)
  · replace hf := im c12 hf
    refine lv_aload_n hx hb dX10_keep_17 rfl (lv_at hl 0 rfl) ?_
    refine va_get (D := D) (ci := 10) (v := .ref (h 26)) (C := RX10) (T := TX10) (N := 38) hx hb hts in_X10 hown hK hP 0 rfl rfl 26 (by decide) g_62 (fun _ h9 => h9) rfl dX10_keep_18 ?_
    refine lv_iload_n hx hb dX10_keep_21 rfl (lv_at hl 1 rfl) ?_
    refine lv_iconst (v := 1) hx hb dX10_keep_22 (by decide) ?_
    obtain ⟨c23, hf⟩ := gd hf
    refine va_zast hx hb hK hP hD hS 18 1 rfl rfl c23 dX10_keep_23 (fun H locs hP hD hS => ?_)
    have hP : va_P D vwCl (w_M cs o h (va_up I 0 0) (va_up V 26 (upd (V 26) x1.toNatClampNeg (vp_nar .boolean 1)))) H := hP
    have hD : va_D A (w_M cs o h (va_up I 0 0) (va_up V 26 (upd (V 26) x1.toNatClampNeg (vp_nar .boolean 1)))) := hD
    refine lv_aload_n hx hb dX10_keep_24 rfl (lv_at hl 0 rfl) ?_
    refine lv_aload_n hx hb dX10_keep_25 rfl (lv_at hl 0 rfl) ?_
    refine va_get (D := D) (ci := 10) (v := .ref (h 25)) (C := RX10) (T := TX10) (N := 38) hx hb hts in_X10 hown hK hP 0 rfl rfl 25 (by decide) g_59 (fun _ h9 => h9) rfl dX10_keep_26 ?_
    refine lv_bipush (v := 74) hx hb dX10_keep_29 (by decide) ?_
    refine lv_iload_n hx hb dX10_keep_31 rfl (lv_at hl 1 rfl) ?_
    refine lv_imul hx hb dX10_keep_32 ?_
    obtain ⟨I3, V4, qr2, hf⟩ := bd2 hf
    have hFc := xfree hD hS hA
    refine va_callv (va_runV (As := [.ref (h 25), .int (74 * x1)]) (rest := []) ⟨hx, hb, hml, hown, hts⟩ (c_M_layPage_kept l D cs o h _ (va_up I 0 0) (va_up V 26 (upd (V 26) x1.toNatClampNeg (vp_nar .boolean 1))) (74 * x1) f _ qr2) w_layPage_164 ⟨xP_moved, va_recv hK hP (ci := 10) (q0 := 0) rfl rfl, fun U hU hW => ⟨rfl, by rw [hU], by rw [hU]; exact hP, va_K.moved hW.alike hK, hD.weaken (fun _ _ _ _ => trivial)⟩⟩ rfl rfl hl.1 rfl (lv_room (Nat.le_of_ble_eq_true rfl)) dX10_keep_33 ⟨Nat.zero_le _, Nat.zero_le _⟩) hS (fun q _ h9 => hFc q h9) hFc (fun u t H1 locs ht hvm hw hB hz1 hk1 hS => ?_)
    rw [hw] at hB
    obtain ⟨hP1, hK1, hD1⟩ := hB
    have hP : va_P D vwCl (w_M cs o h I3 V4) H1 := by rw [← ht]; exact hP1
    have hD : va_D A (w_M cs o h I3 V4) := hD1.weaken (fun _ q _ h9 => hFc q.1 h9)
    refine lv_aload_n hx hb dX10_keep_36 rfl (lv_at hl 0 rfl) ?_
    refine va_get (D := D) (ci := 10) (v := .int (I3 9)) (C := RX10) (T := TX10) (N := 38) hx hb hts in_X10 hown hK hP 0 rfl rfl 9 (by decide) g_135 (fun _ h9 => h9) rfl dX10_keep_37 ?_
    exact hret (I3 9) I3 V4 _ _ 40 _ hf hP hD hS dX10_keep_40
  · replace hf := ip c12 hf
    refine lv_iconst (v := (-1)) hx hb dX10_keep_15 (by decide) ?_
    exact hret (-1) (va_up I 0 0) V _ _ 16 _ hf hP hD hS dX10_keep_16
def M_again (f : Nat) (x1 : Int32) (I : FI) (V : FV) : Option (Int32 × FI × FV) := ob1 (M_in f (x1.toInt64) 0 1) (fun zr1 => (if zr1 = 0 then some ((-1), (va_up I 0 0), V) else if x1 < 0 ∨ 2 ≤ x1.toNatClampNeg then none else ((if ((V 26) x1.toNatClampNeg) = 0 then some ((-3), (va_up I 0 0), V) else ob2 (M_takePage_kept f (74 * x1) (va_up I 0 0) V) (fun I3 V4 => some ((I3 9), (va_up I3 24 0), V4))))))
abbrev rm_M_again : Room := { frames := 2, cells := 0, slots := 0, locals := 44 }
set_option maxHeartbeats 4000000 in
set_option maxRecDepth 100000 in
theorem c_M_again (l : Launch) (D : va_G) (cs : Nat → ClassId) (o : Nat) (h : Nat → Nat) (sz : Nat) (I : FI) (V : FV) (x1 : Int32) (f : Nat) (out : Int32 × FI × FV) (hf : M_again f x1 I V = some out) : Met l yX10_again wsX10_again rm_M_again (va_Pc [.ref o, .int x1] (xP D cs (w_M cs o h I V) sz)) (va_Qi (fun r u => (r, u) = out) (fun (u : FI × FV) t => xA D cs (va_A (w_M cs o h I V) sz) (w_M cs o h u.1 u.2) t) (va_A (w_M cs o h I V) sz)) 0 0 (va_A (w_M cs o h I V) sz) := by
  refine Met.ofW (cc := cX10_again) (maxL := 2) (ret := (some .int)) (by decide) rfl ?_
  intro p e s m args below meth c s₁ B hml hv
  obtain ⟨ha, hsz, hP, hK, hD0⟩ := hv
  have hx := B.exec
  have hb := B.bytes
  have hr := B.returns
  have hts := atoms_spec (ws := wsX10_again) B.pre
  have hown : s.vm.findClass RX10 = some m.cls := findClass_of_methodNamed B.named
  have hlocks := B.notSynchronized
  have in_X10 : ∀ w ∈ u_ws RX10 TX10 38, w ∈ wsX10_again := fun w h => List.mem_cons_of_mem _ (List.mem_append_right _ h)
  have g_92 := hts (.fieldLink RX10 92 "DaysLentModel" "thrown" "I") (by decide +kernel)
  have w_in_99 := va_cwS (R := rm_M_again) (s := s) (args := args) (rm := rm_M_in) (mc := 0) (ms := 0) 3 hts gX10_again_X10_in rfl rfl rfl (by decide +kernel) ⟨Nat.le_of_ble_eq_true rfl, Nat.le_of_ble_eq_true rfl⟩
  have g_62 := hts (.fieldLink RX10 62 "DaysLentModel" "isKept" "[Z") (by decide +kernel)
  have g_59 := hts (.fieldLink RX10 59 "DaysLentModel" "kept" "[I") (by decide +kernel)
  have w_takePage_180 := cwV (R := rm_M_again) (s := s) (args := args) (rm := rm_M_takePage_kept) (mc := 0) (ms := 0) 2 hts gX10_again_X10_takePage rfl rfl rfl (by decide +kernel) ⟨Nat.le_of_ble_eq_true rfl, Nat.le_of_ble_eq_true rfl⟩
  have g_141 := hts (.fieldLink RX10 141 "DaysLentModel" "acts" "I") (by decide +kernel)
  have g_135 := hts (.fieldLink RX10 135 "DaysLentModel" "debts" "I") (by decide +kernel)
  subst hsz
  have hD := hD0.self (sz := s.heap.size)
  generalize hAe : va_A (w_M cs o h I V) s.heap.size = A at hD ⊢
  have hA : ∀ q : Nat, s.heap.size ≤ q → A q := fun q h => by rw [← hAe]; exact Or.inr h
  have hS : va_S A s.heap s.heap [] := va_S.rf
  have hl := lv_entry ([.ref o, .int x1]) (n := 2) (Nat.le_of_ble_eq_true rfl)
  rw [show entryFrame m args 2 = entryFrame m ([.ref o, .int x1] : List Value).toArray 2 from by rw [ha], lg_entry_eq]
  generalize (lg_sl ([.ref o, .int x1]) ++ List.replicate (2 - (lg_sl ([.ref o, .int x1])).length) Slot.unset).toArray = ls at hl ⊢
  have hl : lv_has ls 2 [(0, .ref o), (1, .int x1)] := hl
  generalize hQ : MQ below (va_Qi (fun r u => (r, u) = out) (fun (u : FI × FV) t => xA D cs A (w_M cs o h u.1 u.2) t) A) args s 0 0 A = Q
  show W p l e rm_M_again s m args below meth c s.heap [] 0 0 Q (F0 m 0 ls [])
  have hret : ∀ (v : Int32) (Im9 : FI) (Vm9 : FV) (H : Heap) (locs : List Loc) (pc : Nat) (ls : Array Slot), some (v, Im9, Vm9) = some out → va_P D vwCl (w_M cs o h Im9 Vm9) H → va_D A (w_M cs o h Im9 Vm9) → va_S A s.heap H locs → decode cX10_again pc = .ok (.ireturn, 1) → W p l e rm_M_again s m args below meth c H locs 0 0 Q (F0 m pc ls [.int v]) := by
    intro v Im9 Vm9 H locs pc ls hf hP hD hS hd
    rw [← hQ]
    exact W.iret (v := v) hx hb hr (fun t ht hW => ⟨⟨v, (Im9, Vm9), rfl, Option.some.inj hf, by show va_P D vwCl (w_M cs o h Im9 Vm9) t.heap; rw [ht]; exact hP, va_K.moved hW.alike hK, hD⟩, hS.F ht⟩) hS.2.2 hd
  unfold M_again at hf
  refine lv_aload_n hx hb dX10_again_0 rfl (lv_at hl 0 rfl) ?_
  refine lv_iconst (v := 0) hx hb dX10_again_1 (by decide) ?_
  refine va_put (D := D) (ci := 10) (v := .int 0) (ty := .int) (C := RX10) (T := TX10) (N := 38) hx hb hts in_X10 tyX10 tyX10_ok nmX10 hown hK hP hD hS 0 rfl rfl 0 (by decide) g_92 (fun _ h9 => h9) rfl (by decide +kernel) rfl rfl (Nat.le_of_ble_eq_true rfl) dX10_again_2 (fun H locs hP hD hS => ?_)
  have hP : va_P D vwCl (w_M cs o h (va_up I 0 0) V) H := hP
  have hD : va_D A (w_M cs o h (va_up I 0 0) V) := hD
  refine lv_iload_n hx hb dX10_again_5 rfl (lv_at hl 1 rfl) ?_
  refine lv_i2l (v := x1.toInt64) hx hb dX10_again_6 rfl ?_
  refine lv_lconst (v := 0) hx hb dX10_again_7 (by decide) ?_
  refine lv_lconst (v := 1) hx hb dX10_again_8 (by decide) ?_
  obtain ⟨zr1, qr1, hf⟩ := bd1 hf
  refine vp_callSi (va_Run.run (va_runS (As := [.long (x1.toInt64), .long 0, .long 1]) (rest := []) ⟨hx, hb, hml, hown, hts⟩ (c_M_in l (x1.toInt64) 0 1 f zr1 qr1) w_in_99 ⟨fun a U g mk q => q, fun U hU hW => ⟨rfl, trivial⟩⟩ rfl rfl hl.1 rfl (lv_room (Nat.le_of_ble_eq_true rfl)) dX10_again_9 ⟨Nat.zero_le _, Nat.zero_le _⟩)) (fun r1 er1 => ?_)
  rw [er1]
  refine lv_if_ne (tgt := 17) hx hb dX10_again_12 (by decide) (fun c12 => ?_) (fun c12 => ?_)
  · replace hf := im c12 hf
    refine lv_aload_n hx hb dX10_again_17 rfl (lv_at hl 0 rfl) ?_
    refine va_get (D := D) (ci := 10) (v := .ref (h 26)) (C := RX10) (T := TX10) (N := 38) hx hb hts in_X10 hown hK hP 0 rfl rfl 26 (by decide) g_62 (fun _ h9 => h9) rfl dX10_again_18 ?_
    refine lv_iload_n hx hb dX10_again_21 rfl (lv_at hl 1 rfl) ?_
    obtain ⟨c22, hf⟩ := gd hf
    refine va_zald hx hb hK hP 18 1 rfl rfl c22 dX10_again_22 ?_
    refine lv_if_ne (tgt := 29) hx hb dX10_again_23 (by decide) (fun c23 => ?_) (fun c23 => ?_)
    · replace hf := im c23 hf
      refine lv_aload_n hx hb dX10_again_29 rfl (lv_at hl 0 rfl) ?_
      refine lv_aload_n hx hb dX10_again_30 rfl (lv_at hl 0 rfl) ?_
      refine va_get (D := D) (ci := 10) (v := .ref (h 25)) (C := RX10) (T := TX10) (N := 38) hx hb hts in_X10 hown hK hP 0 rfl rfl 25 (by decide) g_59 (fun _ h9 => h9) rfl dX10_again_31 ?_
      refine lv_bipush (v := 74) hx hb dX10_again_34 (by decide) ?_
      refine lv_iload_n hx hb dX10_again_36 rfl (lv_at hl 1 rfl) ?_
      refine lv_imul hx hb dX10_again_37 ?_
      obtain ⟨I3, V4, qr2, hf⟩ := bd2 hf
      have hFc := xfree hD hS hA
      refine va_callv (va_runV (As := [.ref (h 25), .int (74 * x1)]) (rest := []) ⟨hx, hb, hml, hown, hts⟩ (c_M_takePage_kept l D cs o h _ (va_up I 0 0) V (74 * x1) f _ qr2) w_takePage_180 ⟨xP_moved, va_recv hK hP (ci := 10) (q0 := 0) rfl rfl, fun U hU hW => ⟨rfl, by rw [hU], by rw [hU]; exact hP, va_K.moved hW.alike hK, hD.weaken (fun _ _ _ _ => trivial)⟩⟩ rfl rfl hl.1 rfl (lv_room (Nat.le_of_ble_eq_true rfl)) dX10_again_38 ⟨Nat.zero_le _, Nat.zero_le _⟩) hS (fun q _ h9 => hFc q h9) hFc (fun u t H1 locs ht hvm hw hB hz1 hk1 hS => ?_)
      rw [hw] at hB
      obtain ⟨hP1, hK1, hD1⟩ := hB
      have hP : va_P D vwCl (w_M cs o h I3 V4) H1 := by rw [← ht]; exact hP1
      have hD : va_D A (w_M cs o h I3 V4) := hD1.weaken (fun _ q _ h9 => hFc q.1 h9)
      refine lv_aload_n hx hb dX10_again_41 rfl (lv_at hl 0 rfl) ?_
      refine lv_iconst (v := 0) hx hb dX10_again_42 (by decide) ?_
      refine va_put (D := D) (ci := 10) (v := .int 0) (ty := .int) (C := RX10) (T := TX10) (N := 38) hx hb hts in_X10 tyX10 tyX10_ok nmX10 hown hK hP hD hS 0 rfl rfl 24 (by decide) g_141 (fun _ h9 => h9) rfl (by decide +kernel) rfl rfl (Nat.le_of_ble_eq_true rfl) dX10_again_43 (fun H locs hP hD hS => ?_)
      have hP : va_P D vwCl (w_M cs o h (va_up I3 24 0) V4) H := hP
      have hD : va_D A (w_M cs o h (va_up I3 24 0) V4) := hD
      refine lv_aload_n hx hb dX10_again_46 rfl (lv_at hl 0 rfl) ?_
      refine va_get (D := D) (ci := 10) (v := .int (I3 9)) (C := RX10) (T := TX10) (N := 38) hx hb hts in_X10 hown hK hP 0 rfl rfl 9 (by decide) g_135 (fun _ h9 => h9) rfl dX10_again_47 ?_
      exact hret (I3 9) (va_up I3 24 0) V4 _ _ 50 _ hf hP hD hS dX10_again_50
    · replace hf := ip c23 hf
      refine lv_bipush (v := (-3)) hx hb dX10_again_26 (by decide) ?_
      exact hret (-3) (va_up I 0 0) V _ _ 28 _ hf hP hD hS dX10_again_28
  · replace hf := ip c12 hf
    refine lv_iconst (v := (-1)) hx hb dX10_again_15 (by decide) ?_
    exact hret (-1) (va_up I 0 0) V _ _ 16 _ hf hP hD hS dX10_again_16
