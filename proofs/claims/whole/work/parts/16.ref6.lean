def M_day (f : Nat) (x1 : Int32) (x2 : Int32) (x3 : Int32) (I : FI) (V : FV) : Option (Int32 × FI × FV) := nm (va_up I 0 0) (fun I1 => ob1 (M_noOne f x1 I1 V) (fun zr2 => (if zr2 = 0 then ob1 (M_in f (x2.toInt64) 0 99) (fun zr3 => (if zr3 = 0 then some ((-2), I1, V) else (if (I1 27) = 12 then some ((-4), I1, V) else if (I1 27) < 0 ∨ 12 ≤ (I1 27).toNatClampNeg then none else (nm (va_up V 28 (upd (V 28) (I1 27).toNatClampNeg x1)) (fun V4 => if (I1 27) < 0 ∨ 12 ≤ (I1 27).toNatClampNeg then none else (nm (va_up V4 29 (upd (V4 29) (I1 27).toNatClampNeg x2)) (fun V5 => if (I1 27) < 0 ∨ 12 ≤ (I1 27).toNatClampNeg then none else (nm (va_up V5 30 (upd (V5 30) (I1 27).toNatClampNeg (vp_nar .boolean x3))) (fun V6 => nm (va_up I1 27 ((I1 27) + 1)) (fun I7 => some ((I7 27), I7, V6))))))))))) else some ((-1), I1, V))))
abbrev rm_M_day : Room := { frames := 2, cells := 0, slots := 0, locals := 46 }
set_option maxHeartbeats 4000000 in
set_option maxRecDepth 100000 in
theorem v_M_day {l : Launch} {p : Program} {e : Env} {s : State} {m : MethodId} {args : Array Value} {below : List Frame} {meth : Method} {c : Code} {Q : State → Prop} {D : va_G} {cs : Nat → ClassId} {o : Nat} {h : Nat → Nat} {A : Nat → Prop} {I : FI} {V : FV} {x1 : Int32} {x2 : Int32} {x3 : Int32} {f : Nat} {out : Int32 × FI × FV} (hf : M_day f x1 x2 x3 I V = some out) (hx : p.tables.exec = Jvm.exec) (hb : c.code = cX10_day) (hml : c.maxLocals = 4) (hown : s.vm.findClass RX10 = some m.cls) (hts : ∀ w ∈ wsX10_day, w.before args s = true) (in_X10 : ∀ w ∈ u_ws RX10 TX10 38, w ∈ wsX10_day) (g_92 : (Cond.fieldLink RX10 92 "DaysLentModel" "thrown" "I").before args s = true) (w_noOne_151 : CallW rm_M_day s args RX10 RX10 151 yX10_noOne cX10_noOne 2 (some .boolean) wsX10_noOne rm_M_noOne 0 0 1) (k_168 : (Cond.constantLong RX10 168 (99)).before args s = true) (w_in_99 : CallB rm_M_day s args RX10 99 yX10_in cX10_in 6 (some .boolean) wsX10_in rm_M_in 0 0 3 ∧ (Cond.static yX10_in).before args s = true) (g_148 : (Cond.fieldLink RX10 148 "DaysLentModel" "days" "I").before args s = true) (g_65 : (Cond.fieldLink RX10 65 "DaysLentModel" "dayWho" "[I").before args s = true) (g_68 : (Cond.fieldLink RX10 68 "DaysLentModel" "dayNumber" "[I").before args s = true) (g_71 : (Cond.fieldLink RX10 71 "DaysLentModel" "daySeen" "[Z").before args s = true) (hA : ∀ q : Nat, s.heap.size ≤ q → A q) (hP : va_P D vwCl (w_M cs o h I V) s.heap) (hD : va_D A (w_M cs o h I V)) (hK : va_K D vwCl (tyA cs) s) (hret : ∀ (v : Int32) (Im9 : FI) (Vm9 : FV) (H : Heap) (locs : List Loc) (pc : Nat) (ls : Array Slot), some (v, Im9, Vm9) = some out → va_P D vwCl (w_M cs o h Im9 Vm9) H → va_D A (w_M cs o h Im9 Vm9) → va_S A s.heap H locs → decode cX10_day pc = .ok (.ireturn, 1) → W p l e rm_M_day s m args below meth c H locs 0 0 Q (F0 m pc ls [.int v])) : ∀ ls : Array Slot, lv_has ls 4 [(0, .ref o), (1, .int x1), (2, .int x2), (3, .int x3)] → W p l e rm_M_day s m args below meth c s.heap [] 0 0 Q (F0 m 0 ls []) := by
  intro ls hl
  have hS : va_S A s.heap s.heap [] := va_S.rf
  unfold M_day at hf
  refine lv_aload_n hx hb dX10_day_0 rfl (lv_at hl 0 rfl) ?_
  refine lv_iconst (v := 0) hx hb dX10_day_1 (by decide) ?_
  refine va_put (D := D) (ci := 10) (v := .int 0) (ty := .int) (C := RX10) (T := TX10) (N := 38) hx hb hts in_X10 tyX10 tyX10_ok nmX10 hown hK hP hD hS 0 rfl rfl 0 (by decide) g_92 (fun _ h9 => h9) rfl (by decide +kernel) rfl rfl (Nat.le_of_ble_eq_true rfl) dX10_day_2 (fun H locs hP hD hS => ?_)
  obtain ⟨I1, eI1, hf⟩ := nme hf
  have hP : va_P D vwCl (w_M cs o h I1 V) H := by rw [eI1]; exact hP
  have hD : va_D A (w_M cs o h I1 V) := by rw [eI1]; exact hD
  refine lv_aload_n hx hb dX10_day_5 rfl (lv_at hl 0 rfl) ?_
  refine lv_iload_n hx hb dX10_day_6 rfl (lv_at hl 1 rfl) ?_
  obtain ⟨zr2, qr2, hf⟩ := bd1 hf
  refine vp_callSi (va_Run.run (va_runV (As := [.int x1]) (rest := []) ⟨hx, hb, hml, hown, hts⟩ (c_M_noOne l D cs o h I1 V x1 f zr2 qr2) w_noOne_151 ⟨xR_moved, va_recv hK hP (ci := 10) (q0 := 0) rfl rfl, fun U hU hW => ⟨rfl, by rw [hU]; exact hP, va_K.moved hW.alike hK⟩⟩ rfl rfl hl.1 rfl (lv_room (Nat.le_of_ble_eq_true rfl)) dX10_day_7 ⟨Nat.zero_le _, Nat.zero_le _⟩)) (fun r2 er2 => ?_)
  rw [er2]
  refine lv_if_eq (tgt := 15) hx hb dX10_day_10 (by decide) (fun c10 => ?_) (fun c10 => ?_)
  · replace hf := ip c10 hf
    refine lv_iload_n hx hb dX10_day_15 rfl (lv_at hl 2 rfl) ?_
    refine lv_i2l (v := x2.toInt64) hx hb dX10_day_16 rfl ?_
    refine lv_lconst (v := 0) hx hb dX10_day_17 (by decide) ?_
    refine lv_ldc2 (v := 99) hx hb hown k_168 dX10_day_18 ?_
    obtain ⟨zr3, qr3, hf⟩ := bd1 hf
    refine vp_callSi (va_Run.run (va_runS (As := [.long (x2.toInt64), .long 0, .long 99]) (rest := []) ⟨hx, hb, hml, hown, hts⟩ (c_M_in l (x2.toInt64) 0 99 f zr3 qr3) w_in_99 ⟨fun a U g mk q => q, fun U hU hW => ⟨rfl, trivial⟩⟩ rfl rfl hl.1 rfl (lv_room (Nat.le_of_ble_eq_true rfl)) dX10_day_21 ⟨Nat.zero_le _, Nat.zero_le _⟩)) (fun r3 er3 => ?_)
    rw [er3]
    refine lv_if_ne (tgt := 30) hx hb dX10_day_24 (by decide) (fun c24 => ?_) (fun c24 => ?_)
    · replace hf := im c24 hf
      refine lv_aload_n hx hb dX10_day_30 rfl (lv_at hl 0 rfl) ?_
      refine va_get (D := D) (ci := 10) (v := .int (I1 27)) (C := RX10) (T := TX10) (N := 38) hx hb hts in_X10 hown hK hP 0 rfl rfl 27 (by decide) g_148 (fun _ h9 => h9) rfl dX10_day_31 ?_
      refine lv_bipush (v := 12) hx hb dX10_day_34 (by decide) ?_
      refine lv_icmp_ne (tgt := 42) hx hb dX10_day_36 (by decide) (fun c36 => ?_) (fun c36 => ?_)
      · replace hf := im c36 hf
        refine lv_aload_n hx hb dX10_day_42 rfl (lv_at hl 0 rfl) ?_
        refine va_get (D := D) (ci := 10) (v := .ref (h 28)) (C := RX10) (T := TX10) (N := 38) hx hb hts in_X10 hown hK hP 0 rfl rfl 28 (by decide) g_65 (fun _ h9 => h9) rfl dX10_day_43 ?_
        refine lv_aload_n hx hb dX10_day_46 rfl (lv_at hl 0 rfl) ?_
        refine va_get (D := D) (ci := 10) (v := .int (I1 27)) (C := RX10) (T := TX10) (N := 38) hx hb hts in_X10 hown hK hP 0 rfl rfl 27 (by decide) g_148 (fun _ h9 => h9) rfl dX10_day_47 ?_
        refine lv_iload_n hx hb dX10_day_50 rfl (lv_at hl 1 rfl) ?_
        obtain ⟨c51, hf⟩ := gd hf
        refine va_iast (f := (V 28)) hx hb hK hP hD hS 19 0 rfl rfl c51 dX10_day_51 (fun H locs hP hD hS => ?_)
        obtain ⟨V4, eV4, hf⟩ := nme hf
        have hP : va_P D vwCl (w_M cs o h I1 V4) H := by rw [eV4]; exact hP
        have hD : va_D A (w_M cs o h I1 V4) := by rw [eV4]; exact hD
        refine lv_aload_n hx hb dX10_day_52 rfl (lv_at hl 0 rfl) ?_
        refine va_get (D := D) (ci := 10) (v := .ref (h 29)) (C := RX10) (T := TX10) (N := 38) hx hb hts in_X10 hown hK hP 0 rfl rfl 29 (by decide) g_68 (fun _ h9 => h9) rfl dX10_day_53 ?_
        refine lv_aload_n hx hb dX10_day_56 rfl (lv_at hl 0 rfl) ?_
        refine va_get (D := D) (ci := 10) (v := .int (I1 27)) (C := RX10) (T := TX10) (N := 38) hx hb hts in_X10 hown hK hP 0 rfl rfl 27 (by decide) g_148 (fun _ h9 => h9) rfl dX10_day_57 ?_
        refine lv_iload_n hx hb dX10_day_60 rfl (lv_at hl 2 rfl) ?_
        obtain ⟨c61, hf⟩ := gd hf
        refine va_iast (f := (V4 29)) hx hb hK hP hD hS 20 0 rfl rfl c61 dX10_day_61 (fun H locs hP hD hS => ?_)
        obtain ⟨V5, eV5, hf⟩ := nme hf
        have hP : va_P D vwCl (w_M cs o h I1 V5) H := by rw [eV5]; exact hP
        have hD : va_D A (w_M cs o h I1 V5) := by rw [eV5]; exact hD
        refine lv_aload_n hx hb dX10_day_62 rfl (lv_at hl 0 rfl) ?_
        refine va_get (D := D) (ci := 10) (v := .ref (h 30)) (C := RX10) (T := TX10) (N := 38) hx hb hts in_X10 hown hK hP 0 rfl rfl 30 (by decide) g_71 (fun _ h9 => h9) rfl dX10_day_63 ?_
        refine lv_aload_n hx hb dX10_day_66 rfl (lv_at hl 0 rfl) ?_
        refine va_get (D := D) (ci := 10) (v := .int (I1 27)) (C := RX10) (T := TX10) (N := 38) hx hb hts in_X10 hown hK hP 0 rfl rfl 27 (by decide) g_148 (fun _ h9 => h9) rfl dX10_day_67 ?_
        refine lv_iload_n hx hb dX10_day_70 rfl (lv_at hl 3 rfl) ?_
        obtain ⟨c71, hf⟩ := gd hf
        refine va_zast (f := (V5 30)) hx hb hK hP hD hS 21 1 rfl rfl c71 dX10_day_71 (fun H locs hP hD hS => ?_)
        obtain ⟨V6, eV6, hf⟩ := nme hf
        have hP : va_P D vwCl (w_M cs o h I1 V6) H := by rw [eV6]; exact hP
        have hD : va_D A (w_M cs o h I1 V6) := by rw [eV6]; exact hD
        refine lv_aload_n hx hb dX10_day_72 rfl (lv_at hl 0 rfl) ?_
        refine lv_dup hx hb dX10_day_73 rfl ?_
        refine va_get (D := D) (ci := 10) (v := .int (I1 27)) (C := RX10) (T := TX10) (N := 38) hx hb hts in_X10 hown hK hP 0 rfl rfl 27 (by decide) g_148 (fun _ h9 => h9) rfl dX10_day_74 ?_
        refine lv_iconst (v := 1) hx hb dX10_day_77 (by decide) ?_
        refine lv_iadd hx hb dX10_day_78 ?_
        refine va_put (D := D) (ci := 10) (v := .int ((I1 27) + 1)) (ty := .int) (C := RX10) (T := TX10) (N := 38) hx hb hts in_X10 tyX10 tyX10_ok nmX10 hown hK hP hD hS 0 rfl rfl 27 (by decide) g_148 (fun _ h9 => h9) rfl (by decide +kernel) rfl rfl (Nat.le_of_ble_eq_true rfl) dX10_day_79 (fun H locs hP hD hS => ?_)
        obtain ⟨I7, eI7, hf⟩ := nme hf
        have hP : va_P D vwCl (w_M cs o h I7 V6) H := by rw [eI7]; exact hP
        have hD : va_D A (w_M cs o h I7 V6) := by rw [eI7]; exact hD
        refine lv_aload_n hx hb dX10_day_82 rfl (lv_at hl 0 rfl) ?_
        refine va_get (D := D) (ci := 10) (v := .int (I7 27)) (C := RX10) (T := TX10) (N := 38) hx hb hts in_X10 hown hK hP 0 rfl rfl 27 (by decide) g_148 (fun _ h9 => h9) rfl dX10_day_83 ?_
        exact hret (I7 27) I7 V6 _ _ 86 _ hf hP hD hS dX10_day_86
      · replace hf := ip c36 hf
        refine lv_bipush (v := (-4)) hx hb dX10_day_39 (by decide) ?_
        exact hret (-4) I1 V _ _ 41 _ hf hP hD hS dX10_day_41
    · replace hf := ip c24 hf
      refine lv_bipush (v := (-2)) hx hb dX10_day_27 (by decide) ?_
      exact hret (-2) I1 V _ _ 29 _ hf hP hD hS dX10_day_29
  · replace hf := im c10 hf
    refine lv_iconst (v := (-1)) hx hb dX10_day_13 (by decide) ?_
    exact hret (-1) I1 V _ _ 14 _ hf hP hD hS dX10_day_14
set_option maxHeartbeats 4000000 in
set_option maxRecDepth 100000 in
theorem c_M_day (l : Launch) (D : va_G) (cs : Nat → ClassId) (o : Nat) (h : Nat → Nat) (sz : Nat) (I : FI) (V : FV) (x1 : Int32) (x2 : Int32) (x3 : Int32) (f : Nat) (out : Int32 × FI × FV) (hf : M_day f x1 x2 x3 I V = some out) : Met l yX10_day wsX10_day rm_M_day (va_Pc [.ref o, .int x1, .int x2, .int x3] (xP D cs (w_M cs o h I V) sz)) (va_Qi (fun r u => (r, u) = out) (fun (u : FI × FV) t => xA D cs (va_A (w_M cs o h I V) sz) (w_M cs o h u.1 u.2) t) (va_A (w_M cs o h I V) sz)) 0 0 (va_A (w_M cs o h I V) sz) := by
  refine Met.ofW (cc := cX10_day) (maxL := 4) (ret := (some .int)) (by decide) rfl ?_
  intro p e s m args below meth c s₁ B hml hv
  obtain ⟨ha, hsz, hP, hK, hD0⟩ := hv
  have hx := B.exec
  have hb := B.bytes
  have hr := B.returns
  have hts := atoms_spec (ws := wsX10_day) B.pre
  have hown : s.vm.findClass RX10 = some m.cls := findClass_of_methodNamed B.named
  have hlocks := B.notSynchronized
  have in_X10 : ∀ w ∈ u_ws RX10 TX10 38, w ∈ wsX10_day := fun w h => List.mem_cons_of_mem _ (List.mem_append_right _ h)
  have g_92 := hts (Cond.fieldLink RX10 92 "DaysLentModel" "thrown" "I") (by decide +kernel)
  have w_noOne_151 := cwV (R := rm_M_day) (s := s) (args := args) (rm := rm_M_noOne) (mc := 0) (ms := 0) 1 hts gX10_day_X10_noOne rfl rfl rfl (by decide +kernel) ⟨Nat.le_of_ble_eq_true rfl, Nat.le_of_ble_eq_true rfl⟩
  have k_168 := hts (Cond.constantLong RX10 168 (99)) (by decide +kernel)
  have w_in_99 := va_cwS (R := rm_M_day) (s := s) (args := args) (rm := rm_M_in) (mc := 0) (ms := 0) 3 hts gX10_day_X10_in rfl rfl rfl (by decide +kernel) ⟨Nat.le_of_ble_eq_true rfl, Nat.le_of_ble_eq_true rfl⟩
  have g_148 := hts (Cond.fieldLink RX10 148 "DaysLentModel" "days" "I") (by decide +kernel)
  have g_65 := hts (Cond.fieldLink RX10 65 "DaysLentModel" "dayWho" "[I") (by decide +kernel)
  have g_68 := hts (Cond.fieldLink RX10 68 "DaysLentModel" "dayNumber" "[I") (by decide +kernel)
  have g_71 := hts (Cond.fieldLink RX10 71 "DaysLentModel" "daySeen" "[Z") (by decide +kernel)
  subst hsz
  have hD := hD0.self (sz := s.heap.size)
  generalize hAe : va_A (w_M cs o h I V) s.heap.size = A at hD ⊢
  have hA : ∀ q : Nat, s.heap.size ≤ q → A q := fun q h => by rw [← hAe]; exact Or.inr h
  have hl := lv_entry ([.ref o, .int x1, .int x2, .int x3]) (n := 4) (Nat.le_of_ble_eq_true rfl)
  rw [show entryFrame m args 4 = entryFrame m ([.ref o, .int x1, .int x2, .int x3] : List Value).toArray 4 from by rw [ha], lg_entry_eq]
  generalize (lg_sl ([.ref o, .int x1, .int x2, .int x3]) ++ List.replicate (4 - (lg_sl ([.ref o, .int x1, .int x2, .int x3])).length) Slot.unset).toArray = ls at hl ⊢
  generalize hQ : MQ below (va_Qi (fun r u => (r, u) = out) (fun (u : FI × FV) t => xA D cs A (w_M cs o h u.1 u.2) t) A) args s 0 0 A = Q
  have hret : ∀ (v : Int32) (Im9 : FI) (Vm9 : FV) (H : Heap) (locs : List Loc) (pc : Nat) (ls : Array Slot), some (v, Im9, Vm9) = some out → va_P D vwCl (w_M cs o h Im9 Vm9) H → va_D A (w_M cs o h Im9 Vm9) → va_S A s.heap H locs → decode cX10_day pc = .ok (.ireturn, 1) → W p l e rm_M_day s m args below meth c H locs 0 0 Q (F0 m pc ls [.int v]) := by
    intro v Im9 Vm9 H locs pc ls hf hP hD hS hd
    rw [← hQ]
    exact W.iret (v := v) hx hb hr (fun t ht hW => ⟨⟨v, (Im9, Vm9), rfl, Option.some.inj hf, by show va_P D vwCl (w_M cs o h Im9 Vm9) t.heap; rw [ht]; exact hP, va_K.moved hW.alike hK, hD⟩, hS.F ht⟩) hS.2.2 hd
  exact v_M_day hf hx hb hml hown hts in_X10 g_92 w_noOne_151 k_168 w_in_99 g_148 g_65 g_68 g_71 hA hP hD hK hret ls hl
def M_forget (f : Nat) (I : FI) (V : FV) : Option (Int32 × FI × FV) := nm (va_up I 0 0) (fun I1 => nm (va_up I1 27 0) (fun I2 => some ((I1 27), I2, V)))
abbrev rm_M_forget : Room := { frames := 0, cells := 0, slots := 0, locals := 0 }
set_option maxHeartbeats 4000000 in
set_option maxRecDepth 100000 in
theorem v_M_forget {l : Launch} {p : Program} {e : Env} {s : State} {m : MethodId} {args : Array Value} {below : List Frame} {meth : Method} {c : Code} {Q : State → Prop} {D : va_G} {cs : Nat → ClassId} {o : Nat} {h : Nat → Nat} {A : Nat → Prop} {I : FI} {V : FV} {f : Nat} {out : Int32 × FI × FV} (hf : M_forget f I V = some out) (hx : p.tables.exec = Jvm.exec) (hb : c.code = cX10_forget) (hml : c.maxLocals = 2) (hown : s.vm.findClass RX10 = some m.cls) (hts : ∀ w ∈ wsX10_forget, w.before args s = true) (in_X10 : ∀ w ∈ u_ws RX10 TX10 38, w ∈ wsX10_forget) (g_92 : (Cond.fieldLink RX10 92 "DaysLentModel" "thrown" "I").before args s = true) (g_148 : (Cond.fieldLink RX10 148 "DaysLentModel" "days" "I").before args s = true) (hA : ∀ q : Nat, s.heap.size ≤ q → A q) (hP : va_P D vwCl (w_M cs o h I V) s.heap) (hD : va_D A (w_M cs o h I V)) (hK : va_K D vwCl (tyA cs) s) (hret : ∀ (v : Int32) (Im9 : FI) (Vm9 : FV) (H : Heap) (locs : List Loc) (pc : Nat) (ls : Array Slot), some (v, Im9, Vm9) = some out → va_P D vwCl (w_M cs o h Im9 Vm9) H → va_D A (w_M cs o h Im9 Vm9) → va_S A s.heap H locs → decode cX10_forget pc = .ok (.ireturn, 1) → W p l e rm_M_forget s m args below meth c H locs 0 0 Q (F0 m pc ls [.int v])) : ∀ ls : Array Slot, lv_has ls 2 [(0, .ref o)] → W p l e rm_M_forget s m args below meth c s.heap [] 0 0 Q (F0 m 0 ls []) := by
  intro ls hl
  have hS : va_S A s.heap s.heap [] := va_S.rf
  unfold M_forget at hf
  refine lv_aload_n hx hb dX10_forget_0 rfl (lv_at hl 0 rfl) ?_
  refine lv_iconst (v := 0) hx hb dX10_forget_1 (by decide) ?_
  refine va_put (D := D) (ci := 10) (v := .int 0) (ty := .int) (C := RX10) (T := TX10) (N := 38) hx hb hts in_X10 tyX10 tyX10_ok nmX10 hown hK hP hD hS 0 rfl rfl 0 (by decide) g_92 (fun _ h9 => h9) rfl (by decide +kernel) rfl rfl (Nat.le_of_ble_eq_true rfl) dX10_forget_2 (fun H locs hP hD hS => ?_)
  obtain ⟨I1, eI1, hf⟩ := nme hf
  have hP : va_P D vwCl (w_M cs o h I1 V) H := by rw [eI1]; exact hP
  have hD : va_D A (w_M cs o h I1 V) := by rw [eI1]; exact hD
  refine lv_aload_n hx hb dX10_forget_5 rfl (lv_at hl 0 rfl) ?_
  refine va_get (D := D) (ci := 10) (v := .int (I1 27)) (C := RX10) (T := TX10) (N := 38) hx hb hts in_X10 hown hK hP 0 rfl rfl 27 (by decide) g_148 (fun _ h9 => h9) rfl dX10_forget_6 ?_
  refine lv_istore_n (lv' := [(1, .int (I1 27)), (0, .ref o)]) hx hb dX10_forget_9 rfl hl (by decide) rfl (fun ls hl => ?_)
  refine lv_aload_n hx hb dX10_forget_10 rfl (lv_at hl 1 rfl) ?_
  refine lv_iconst (v := 0) hx hb dX10_forget_11 (by decide) ?_
  refine va_put (D := D) (ci := 10) (v := .int 0) (ty := .int) (C := RX10) (T := TX10) (N := 38) hx hb hts in_X10 tyX10 tyX10_ok nmX10 hown hK hP hD hS 0 rfl rfl 27 (by decide) g_148 (fun _ h9 => h9) rfl (by decide +kernel) rfl rfl (Nat.le_of_ble_eq_true rfl) dX10_forget_12 (fun H locs hP hD hS => ?_)
  obtain ⟨I2, eI2, hf⟩ := nme hf
  have hP : va_P D vwCl (w_M cs o h I2 V) H := by rw [eI2]; exact hP
  have hD : va_D A (w_M cs o h I2 V) := by rw [eI2]; exact hD
  refine lv_iload_n hx hb dX10_forget_15 rfl (lv_at hl 0 rfl) ?_
  exact hret (I1 27) I2 V _ _ 16 _ hf hP hD hS dX10_forget_16
set_option maxHeartbeats 4000000 in
set_option maxRecDepth 100000 in
theorem c_M_forget (l : Launch) (D : va_G) (cs : Nat → ClassId) (o : Nat) (h : Nat → Nat) (sz : Nat) (I : FI) (V : FV) (f : Nat) (out : Int32 × FI × FV) (hf : M_forget f I V = some out) : Met l yX10_forget wsX10_forget rm_M_forget (va_Pc [.ref o] (xP D cs (w_M cs o h I V) sz)) (va_Qi (fun r u => (r, u) = out) (fun (u : FI × FV) t => xA D cs (va_A (w_M cs o h I V) sz) (w_M cs o h u.1 u.2) t) (va_A (w_M cs o h I V) sz)) 0 0 (va_A (w_M cs o h I V) sz) := by
  refine Met.ofW (cc := cX10_forget) (maxL := 2) (ret := (some .int)) (by decide) rfl ?_
  intro p e s m args below meth c s₁ B hml hv
  obtain ⟨ha, hsz, hP, hK, hD0⟩ := hv
  have hx := B.exec
  have hb := B.bytes
  have hr := B.returns
  have hts := atoms_spec (ws := wsX10_forget) B.pre
  have hown : s.vm.findClass RX10 = some m.cls := findClass_of_methodNamed B.named
  have hlocks := B.notSynchronized
  have in_X10 : ∀ w ∈ u_ws RX10 TX10 38, w ∈ wsX10_forget := fun w h => List.mem_cons_of_mem _ (List.mem_append_right _ h)
  have g_92 := hts (Cond.fieldLink RX10 92 "DaysLentModel" "thrown" "I") (by decide +kernel)
  have g_148 := hts (Cond.fieldLink RX10 148 "DaysLentModel" "days" "I") (by decide +kernel)
  subst hsz
  have hD := hD0.self (sz := s.heap.size)
  generalize hAe : va_A (w_M cs o h I V) s.heap.size = A at hD ⊢
  have hA : ∀ q : Nat, s.heap.size ≤ q → A q := fun q h => by rw [← hAe]; exact Or.inr h
  have hl := lv_entry ([.ref o]) (n := 2) (Nat.le_of_ble_eq_true rfl)
  rw [show entryFrame m args 2 = entryFrame m ([.ref o] : List Value).toArray 2 from by rw [ha], lg_entry_eq]
  generalize (lg_sl ([.ref o]) ++ List.replicate (2 - (lg_sl ([.ref o])).length) Slot.unset).toArray = ls at hl ⊢
  generalize hQ : MQ below (va_Qi (fun r u => (r, u) = out) (fun (u : FI × FV) t => xA D cs A (w_M cs o h u.1 u.2) t) A) args s 0 0 A = Q
  have hret : ∀ (v : Int32) (Im9 : FI) (Vm9 : FV) (H : Heap) (locs : List Loc) (pc : Nat) (ls : Array Slot), some (v, Im9, Vm9) = some out → va_P D vwCl (w_M cs o h Im9 Vm9) H → va_D A (w_M cs o h Im9 Vm9) → va_S A s.heap H locs → decode cX10_forget pc = .ok (.ireturn, 1) → W p l e rm_M_forget s m args below meth c H locs 0 0 Q (F0 m pc ls [.int v]) := by
    intro v Im9 Vm9 H locs pc ls hf hP hD hS hd
    rw [← hQ]
    exact W.iret (v := v) hx hb hr (fun t ht hW => ⟨⟨v, (Im9, Vm9), rfl, Option.some.inj hf, by show va_P D vwCl (w_M cs o h Im9 Vm9) t.heap; rw [ht]; exact hP, va_K.moved hW.alike hK, hD⟩, hS.F ht⟩) hS.2.2 hd
  exact v_M_forget hf hx hb hml hown hts in_X10 g_92 g_148 hA hP hD hK hret ls hl
def M_cheats_L19 {ρ : Type} (f : Nat) (I1 : FI) (x2_9 : Int32) (V : FV) (k_19 : Int32 → Option ρ) : Nat → Int32 → Int32 → Option ρ
  | 0, _, _ => none
  | n_19 + 1, x1_19, x3_19 => (if (I1 27) ≤ x3_19 then (k_19 x1_19) else (nm (fun (t0_76 : Int32) => (nm (fun (t1_109 : Int32) => (M_cheats_L19 f I1 x2_9 V k_19 n_19 (x1_19 ||| t1_109) (x3_19 + 1))) (fun j109 => nm (fun (u_108 : Unit) => (j109 0)) (fun j108 => (if t0_76 = 0 then (j108 ()) else if x2_9 < 0 ∨ 12 ≤ x2_9.toNatClampNeg then none else (ob1 (M_noOne f ((V 28) x2_9.toNatClampNeg) I1 V) (fun zr2 => (if zr2 = 0 then if x2_9 < 0 ∨ 12 ≤ x2_9.toNatClampNeg then none else ((j109 (1 <<< (((V 28) x2_9.toNatClampNeg) &&& 31)))) else (j108 ()))))))))) (fun j76 => nm (fun (u_75 : Unit) => (j76 0)) (fun j75 => (if x3_19 = x2_9 then (j75 ()) else if x2_9 < 0 ∨ 12 ≤ x2_9.toNatClampNeg then none else ((if ((V 30) x2_9.toNatClampNeg) = 0 then if x3_19 < 0 ∨ 12 ≤ x3_19.toNatClampNeg then none else (if x2_9 < 0 ∨ 12 ≤ x2_9.toNatClampNeg then none else ((if ((V 28) x3_19.toNatClampNeg) = ((V 28) x2_9.toNatClampNeg) then if x3_19 < 0 ∨ 12 ≤ x3_19.toNatClampNeg then none else (if x2_9 < 0 ∨ 12 ≤ x2_9.toNatClampNeg then none else ((if ((V 29) x3_19.toNatClampNeg) = ((V 29) x2_9.toNatClampNeg) then (j76 1) else (j75 ())))) else (j75 ())))) else (j75 ()))))))))
def M_cheats_L9 {ρ : Type} (f : Nat) (I1 : FI) (V : FV) (k_9 : Int32 → Option ρ) : Nat → Int32 → Int32 → Option ρ
  | 0, _, _ => none
  | n_9 + 1, x1_9, x2_9 => (if (I1 27) ≤ x2_9 then (k_9 x1_9) else (M_cheats_L19 f I1 x2_9 V (fun (x1_19 : Int32) => (M_cheats_L9 f I1 V k_9 n_9 x1_19 (x2_9 + 1))) f x1_9 0))
def M_cheats (f : Nat) (I : FI) (V : FV) : Option (Int32 × FI × FV) := nm (va_up I 0 0) (fun I1 => (M_cheats_L9 f I1 V (fun (x1_9 : Int32) => some (x1_9, I1, V)) f 0 0))
abbrev rm_M_cheats : Room := { frames := 2, cells := 0, slots := 0, locals := 46 }
set_option maxHeartbeats 4000000 in
set_option maxRecDepth 100000 in
theorem v_M_cheats {l : Launch} {p : Program} {e : Env} {s : State} {m : MethodId} {args : Array Value} {below : List Frame} {meth : Method} {c : Code} {Q : State → Prop} {D : va_G} {cs : Nat → ClassId} {o : Nat} {h : Nat → Nat} {A : Nat → Prop} {I : FI} {V : FV} {f : Nat} {out : Int32 × FI × FV} (hf : M_cheats f I V = some out) (hx : p.tables.exec = Jvm.exec) (hb : c.code = cX10_cheats) (hml : c.maxLocals = 5) (hown : s.vm.findClass RX10 = some m.cls) (hts : ∀ w ∈ wsX10_cheats, w.before args s = true) (in_X10 : ∀ w ∈ u_ws RX10 TX10 38, w ∈ wsX10_cheats) (g_92 : (Cond.fieldLink RX10 92 "DaysLentModel" "thrown" "I").before args s = true) (g_148 : (Cond.fieldLink RX10 148 "DaysLentModel" "days" "I").before args s = true) (g_71 : (Cond.fieldLink RX10 71 "DaysLentModel" "daySeen" "[Z").before args s = true) (g_65 : (Cond.fieldLink RX10 65 "DaysLentModel" "dayWho" "[I").before args s = true) (g_68 : (Cond.fieldLink RX10 68 "DaysLentModel" "dayNumber" "[I").before args s = true) (w_noOne_151 : CallW rm_M_cheats s args RX10 RX10 151 yX10_noOne cX10_noOne 2 (some .boolean) wsX10_noOne rm_M_noOne 0 0 1) (hA : ∀ q : Nat, s.heap.size ≤ q → A q) (hP : va_P D vwCl (w_M cs o h I V) s.heap) (hD : va_D A (w_M cs o h I V)) (hK : va_K D vwCl (tyA cs) s) (hret : ∀ (v : Int32) (Im9 : FI) (Vm9 : FV) (H : Heap) (locs : List Loc) (pc : Nat) (ls : Array Slot), some (v, Im9, Vm9) = some out → va_P D vwCl (w_M cs o h Im9 Vm9) H → va_D A (w_M cs o h Im9 Vm9) → va_S A s.heap H locs → decode cX10_cheats pc = .ok (.ireturn, 1) → W p l e rm_M_cheats s m args below meth c H locs 0 0 Q (F0 m pc ls [.int v])) : ∀ ls : Array Slot, lv_has ls 5 [(0, .ref o)] → W p l e rm_M_cheats s m args below meth c s.heap [] 0 0 Q (F0 m 0 ls []) := by
  intro ls hl
  have hS : va_S A s.heap s.heap [] := va_S.rf
  unfold M_cheats at hf
  refine lv_aload_n hx hb dX10_cheats_0 rfl (lv_at hl 0 rfl) ?_
  refine lv_iconst (v := 0) hx hb dX10_cheats_1 (by decide) ?_
  refine va_put (D := D) (ci := 10) (v := .int 0) (ty := .int) (C := RX10) (T := TX10) (N := 38) hx hb hts in_X10 tyX10 tyX10_ok nmX10 hown hK hP hD hS 0 rfl rfl 0 (by decide) g_92 (fun _ h9 => h9) rfl (by decide +kernel) rfl rfl (Nat.le_of_ble_eq_true rfl) dX10_cheats_2 (fun H locs hP hD hS => ?_)
  obtain ⟨I1, eI1, hf⟩ := nme hf
  have hP : va_P D vwCl (w_M cs o h I1 V) H := by rw [eI1]; exact hP
  have hD : va_D A (w_M cs o h I1 V) := by rw [eI1]; exact hD
  refine lv_iconst (v := 0) hx hb dX10_cheats_5 (by decide) ?_
  refine lv_istore_n (lv' := [(1, .int 0), (0, .ref o)]) hx hb dX10_cheats_6 rfl hl (by decide) rfl (fun ls hl => ?_)
  refine lv_iconst (v := 0) hx hb dX10_cheats_7 (by decide) ?_
  refine lv_istore_n (lv' := [(2, .int 0), (1, .int 0), (0, .ref o)]) hx hb dX10_cheats_8 rfl hl (by decide) rfl (fun ls hl => ?_)
  have L9 : ∀ (k_9 : Int32 → Option (Int32 × FI × FV)) (hk_9 : ∀ (x1_9 : Int32), k_9 x1_9 = some out → ∀ (H : Heap) (locs : List Loc), va_P D vwCl (w_M cs o h I1 V) H → va_D A (w_M cs o h I1 V) → va_S A s.heap H locs → ∀ ls : Array Slot, lv_has ls 5 [(1, .int x1_9)] → W p l e rm_M_cheats s m args below meth c H locs 0 0 Q (F0 m 123 ls [])), ∀ (n_9 : Nat) (x1_9 : Int32) (x2_9 : Int32), M_cheats_L9 f I1 V k_9 n_9 x1_9 x2_9 = some out → ∀ (H : Heap) (locs : List Loc), va_P D vwCl (w_M cs o h I1 V) H → va_D A (w_M cs o h I1 V) → va_S A s.heap H locs → ∀ ls : Array Slot, lv_has ls 5 [(0, .ref o), (1, .int x1_9), (2, .int x2_9)] → W p l e rm_M_cheats s m args below meth c H locs 0 0 Q (F0 m 9 ls []) := by
    intro k_9 hk_9 n_9
    induction n_9 with
    | zero => intro x1_9 x2_9 hf; rw [M_cheats_L9] at hf; cases hf
    | succ n_9 ih_9 =>
      intro x1_9 x2_9 hf H locs hP hD hS ls hl
      rw [M_cheats_L9] at hf
      refine lv_iload_n hx hb dX10_cheats_9 rfl (lv_at hl 2 rfl) ?_
      refine lv_aload_n hx hb dX10_cheats_10 rfl (lv_at hl 0 rfl) ?_
      refine va_get (D := D) (ci := 10) (v := .int (I1 27)) (C := RX10) (T := TX10) (N := 38) hx hb hts in_X10 hown hK hP 0 rfl rfl 27 (by decide) g_148 (fun _ h9 => h9) rfl dX10_cheats_11 ?_
      refine lv_icmp_ge (tgt := 123) hx hb dX10_cheats_14 (by decide) (fun c14 => ?_) (fun c14 => ?_)
      · replace hf := ip c14 hf
        exact hk_9 x1_9 hf _ _ hP hD hS _ (lv_sub hl [1] rfl)
      · replace hf := im c14 hf
        refine lv_iconst (v := 0) hx hb dX10_cheats_17 (by decide) ?_
        refine lv_istore_n (lv' := [(3, .int 0), (0, .ref o), (1, .int x1_9), (2, .int x2_9)]) hx hb dX10_cheats_18 rfl hl (by decide) rfl (fun ls hl => ?_)
        have L19 : ∀ (k_19 : Int32 → Option (Int32 × FI × FV)) (hk_19 : ∀ (x1_19 : Int32), k_19 x1_19 = some out → ∀ (H : Heap) (locs : List Loc), va_P D vwCl (w_M cs o h I1 V) H → va_D A (w_M cs o h I1 V) → va_S A s.heap H locs → ∀ ls : Array Slot, lv_has ls 5 [(0, .ref o), (1, .int x1_19), (2, .int x2_9)] → W p l e rm_M_cheats s m args below meth c H locs 0 0 Q (F0 m 117 ls [])), ∀ (n_19 : Nat) (x1_19 : Int32) (x3_19 : Int32), M_cheats_L19 f I1 x2_9 V k_19 n_19 x1_19 x3_19 = some out → ∀ (H : Heap) (locs : List Loc), va_P D vwCl (w_M cs o h I1 V) H → va_D A (w_M cs o h I1 V) → va_S A s.heap H locs → ∀ ls : Array Slot, lv_has ls 5 [(0, .ref o), (1, .int x1_19), (2, .int x2_9), (3, .int x3_19)] → W p l e rm_M_cheats s m args below meth c H locs 0 0 Q (F0 m 19 ls []) := by
          intro k_19 hk_19 n_19
          induction n_19 with
          | zero => intro x1_19 x3_19 hf; rw [M_cheats_L19] at hf; cases hf
          | succ n_19 ih_19 =>
            intro x1_19 x3_19 hf H locs hP hD hS ls hl
            rw [M_cheats_L19] at hf
            refine lv_iload_n hx hb dX10_cheats_19 rfl (lv_at hl 3 rfl) ?_
            refine lv_aload_n hx hb dX10_cheats_20 rfl (lv_at hl 0 rfl) ?_
            refine va_get (D := D) (ci := 10) (v := .int (I1 27)) (C := RX10) (T := TX10) (N := 38) hx hb hts in_X10 hown hK hP 0 rfl rfl 27 (by decide) g_148 (fun _ h9 => h9) rfl dX10_cheats_21 ?_
            refine lv_icmp_ge (tgt := 117) hx hb dX10_cheats_24 (by decide) (fun c24 => ?_) (fun c24 => ?_)
            · replace hf := ip c24 hf
              exact hk_19 x1_19 hf _ _ hP hD hS _ (lv_sub hl [0, 1, 2] rfl)
            · replace hf := im c24 hf
              refine lv_iload_n hx hb dX10_cheats_27 rfl (lv_at hl 3 rfl) ?_
              refine lv_iload_n hx hb dX10_cheats_28 rfl (lv_at hl 2 rfl) ?_
              obtain ⟨j76, ej76, hf⟩ := nme hf
              have J76 : ∀ (t0_76 : Int32), j76 t0_76 = some out → ∀ (H : Heap) (locs : List Loc), va_P D vwCl (w_M cs o h I1 V) H → va_D A (w_M cs o h I1 V) → va_S A s.heap H locs → ∀ ls : Array Slot, lv_has ls 5 [(0, .ref o), (1, .int x1_19), (2, .int x2_9), (3, .int x3_19)] → W p l e rm_M_cheats s m args below meth c H locs 0 0 Q (F0 m 76 ls [.int t0_76]) := by
                intro t0_76 hf H locs hP hD hS ls hl
                rw [ej76] at hf
                refine lv_istore (lv' := [(4, .int t0_76), (0, .ref o), (1, .int x1_19), (2, .int x2_9), (3, .int x3_19)]) hx hb dX10_cheats_76 hl (by decide) rfl (fun ls hl => ?_)
                refine lv_iload_n hx hb dX10_cheats_78 rfl (lv_at hl 2 rfl) ?_
                refine lv_iload hx hb dX10_cheats_79 (lv_at hl 0 rfl) ?_
                obtain ⟨j109, ej109, hf⟩ := nme hf
                have J109 : ∀ (t1_109 : Int32), j109 t1_109 = some out → ∀ (H : Heap) (locs : List Loc), va_P D vwCl (w_M cs o h I1 V) H → va_D A (w_M cs o h I1 V) → va_S A s.heap H locs → ∀ ls : Array Slot, lv_has ls 5 [(0, .ref o), (2, .int x2_9), (3, .int x3_19)] → W p l e rm_M_cheats s m args below meth c H locs 0 0 Q (F0 m 109 ls [.int t1_109, .int x1_19]) := by
                  intro t1_109 hf H locs hP hD hS ls hl
                  rw [ej109] at hf
                  refine lv_ior hx hb dX10_cheats_109 ?_
                  refine lv_istore_n (lv' := [(1, .int (x1_19 ||| t1_109)), (0, .ref o), (2, .int x2_9), (3, .int x3_19)]) hx hb dX10_cheats_110 rfl hl (by decide) rfl (fun ls hl => ?_)
                  refine lv_iinc (v := (x3_19 + 1)) (lv' := [(3, .int (x3_19 + 1)), (1, .int (x1_19 ||| t1_109)), (0, .ref o), (2, .int x2_9)]) hx hb dX10_cheats_111 hl (k := 3) rfl (by rfl) (by decide) rfl (fun ls hl => ?_)
                  refine lv_goto (tgt := 19) hx hb dX10_cheats_114 (by decide) ?_
                  exact ih_19 (x1_19 ||| t1_109) (x3_19 + 1) hf _ _ hP hD hS _ (lv_sub hl [2, 1, 3, 0] rfl)
                obtain ⟨j108, ej108, hf⟩ := nme hf
                have J108 : ∀ (u_108 : Unit), j108 u_108 = some out → ∀ (H : Heap) (locs : List Loc), va_P D vwCl (w_M cs o h I1 V) H → va_D A (w_M cs o h I1 V) → va_S A s.heap H locs → ∀ ls : Array Slot, lv_has ls 5 [(0, .ref o), (2, .int x2_9), (3, .int x3_19)] → W p l e rm_M_cheats s m args below meth c H locs 0 0 Q (F0 m 108 ls [.int x1_19]) := by
                  intro u_108 hf H locs hP hD hS ls hl
                  rw [ej108] at hf
                  refine lv_iconst (v := 0) hx hb dX10_cheats_108 (by decide) ?_
                  exact J109 0 hf _ _ hP hD hS _ (lv_sub hl [0, 1, 2] rfl)
                refine lv_if_eq (tgt := 108) hx hb dX10_cheats_81 (by decide) (fun c81 => ?_) (fun c81 => ?_)
                · replace hf := ip c81 hf
                  exact J108 () hf _ _ hP hD hS _ (lv_sub hl [1, 3, 4] rfl)
                · replace hf := im c81 hf
                  refine lv_aload_n hx hb dX10_cheats_84 rfl (lv_at hl 1 rfl) ?_
                  refine lv_aload_n hx hb dX10_cheats_85 rfl (lv_at hl 1 rfl) ?_
                  refine va_get (D := D) (ci := 10) (v := .ref (h 28)) (C := RX10) (T := TX10) (N := 38) hx hb hts in_X10 hown hK hP 0 rfl rfl 28 (by decide) g_65 (fun _ h9 => h9) rfl dX10_cheats_86 ?_
                  refine lv_iload_n hx hb dX10_cheats_89 rfl (lv_at hl 3 rfl) ?_
                  obtain ⟨c90, hf⟩ := gd hf
                  refine va_iald (f := (V 28)) hx hb hK hP 19 0 rfl rfl c90 dX10_cheats_90 ?_
                  obtain ⟨zr2, qr2, hf⟩ := bd1 hf
                  refine vp_callSi (va_Run.run (va_runV (As := [.int ((V 28) x2_9.toNatClampNeg)]) (rest := [.int x1_19]) ⟨hx, hb, hml, hown, hts⟩ (c_M_noOne l D cs o h I1 V ((V 28) x2_9.toNatClampNeg) f zr2 qr2) w_noOne_151 ⟨xR_moved, va_recv hK hP (ci := 10) (q0 := 0) rfl rfl, fun U hU hW => ⟨rfl, by rw [hU]; exact hP, va_K.moved hW.alike hK⟩⟩ rfl rfl hl.1 rfl (lv_room (Nat.le_of_ble_eq_true rfl)) dX10_cheats_91 ⟨Nat.zero_le _, Nat.zero_le _⟩)) (fun r2 er2 => ?_)
                  rw [er2]
                  refine lv_if_ne (tgt := 108) hx hb dX10_cheats_94 (by decide) (fun c94 => ?_) (fun c94 => ?_)
                  · replace hf := im c94 hf
                    exact J108 () hf _ _ hP hD hS _ (lv_sub hl [1, 3, 4] rfl)
                  · replace hf := ip c94 hf
                    refine lv_iconst (v := 1) hx hb dX10_cheats_97 (by decide) ?_
                    refine lv_aload_n hx hb dX10_cheats_98 rfl (lv_at hl 1 rfl) ?_
                    refine va_get (D := D) (ci := 10) (v := .ref (h 28)) (C := RX10) (T := TX10) (N := 38) hx hb hts in_X10 hown hK hP 0 rfl rfl 28 (by decide) g_65 (fun _ h9 => h9) rfl dX10_cheats_99 ?_
                    refine lv_iload_n hx hb dX10_cheats_102 rfl (lv_at hl 3 rfl) ?_
                    obtain ⟨c103, hf⟩ := gd hf
                    refine va_iald (f := (V 28)) hx hb hK hP 19 0 rfl rfl c103 dX10_cheats_103 ?_
                    refine lv_ishl hx hb dX10_cheats_104 ?_
                    refine lv_goto (tgt := 109) hx hb dX10_cheats_105 (by decide) ?_
                    exact J109 (1 <<< (((V 28) x2_9.toNatClampNeg) &&& 31)) hf _ _ hP hD hS _ (lv_sub hl [1, 3, 4] rfl)
              obtain ⟨j75, ej75, hf⟩ := nme hf
              have J75 : ∀ (u_75 : Unit), j75 u_75 = some out → ∀ (H : Heap) (locs : List Loc), va_P D vwCl (w_M cs o h I1 V) H → va_D A (w_M cs o h I1 V) → va_S A s.heap H locs → ∀ ls : Array Slot, lv_has ls 5 [(0, .ref o), (1, .int x1_19), (2, .int x2_9), (3, .int x3_19)] → W p l e rm_M_cheats s m args below meth c H locs 0 0 Q (F0 m 75 ls []) := by
                intro u_75 hf H locs hP hD hS ls hl
                rw [ej75] at hf
                refine lv_iconst (v := 0) hx hb dX10_cheats_75 (by decide) ?_
                exact J76 0 hf _ _ hP hD hS _ (lv_sub hl [0, 1, 2, 3] rfl)
              refine lv_icmp_eq (tgt := 75) hx hb dX10_cheats_29 (by decide) (fun c29 => ?_) (fun c29 => ?_)
              · replace hf := ip c29 hf
                exact J75 () hf _ _ hP hD hS _ (lv_sub hl [0, 1, 2, 3] rfl)
              · replace hf := im c29 hf
                refine lv_aload_n hx hb dX10_cheats_32 rfl (lv_at hl 0 rfl) ?_
                refine va_get (D := D) (ci := 10) (v := .ref (h 30)) (C := RX10) (T := TX10) (N := 38) hx hb hts in_X10 hown hK hP 0 rfl rfl 30 (by decide) g_71 (fun _ h9 => h9) rfl dX10_cheats_33 ?_
                refine lv_iload_n hx hb dX10_cheats_36 rfl (lv_at hl 2 rfl) ?_
                obtain ⟨c37, hf⟩ := gd hf
                refine va_zald (f := (V 30)) hx hb hK hP 21 1 rfl rfl c37 dX10_cheats_37 ?_
                refine lv_if_ne (tgt := 75) hx hb dX10_cheats_38 (by decide) (fun c38 => ?_) (fun c38 => ?_)
                · replace hf := im c38 hf
                  exact J75 () hf _ _ hP hD hS _ (lv_sub hl [0, 1, 2, 3] rfl)
                · replace hf := ip c38 hf
                  refine lv_aload_n hx hb dX10_cheats_41 rfl (lv_at hl 0 rfl) ?_
                  refine va_get (D := D) (ci := 10) (v := .ref (h 28)) (C := RX10) (T := TX10) (N := 38) hx hb hts in_X10 hown hK hP 0 rfl rfl 28 (by decide) g_65 (fun _ h9 => h9) rfl dX10_cheats_42 ?_
                  refine lv_iload_n hx hb dX10_cheats_45 rfl (lv_at hl 3 rfl) ?_
                  obtain ⟨c46, hf⟩ := gd hf
                  refine va_iald (f := (V 28)) hx hb hK hP 19 0 rfl rfl c46 dX10_cheats_46 ?_
                  refine lv_aload_n hx hb dX10_cheats_47 rfl (lv_at hl 0 rfl) ?_
                  refine va_get (D := D) (ci := 10) (v := .ref (h 28)) (C := RX10) (T := TX10) (N := 38) hx hb hts in_X10 hown hK hP 0 rfl rfl 28 (by decide) g_65 (fun _ h9 => h9) rfl dX10_cheats_48 ?_
                  refine lv_iload_n hx hb dX10_cheats_51 rfl (lv_at hl 2 rfl) ?_
                  obtain ⟨c52, hf⟩ := gd hf
                  refine va_iald (f := (V 28)) hx hb hK hP 19 0 rfl rfl c52 dX10_cheats_52 ?_
                  refine lv_icmp_ne (tgt := 75) hx hb dX10_cheats_53 (by decide) (fun c53 => ?_) (fun c53 => ?_)
                  · replace hf := im c53 hf
                    exact J75 () hf _ _ hP hD hS _ (lv_sub hl [0, 1, 2, 3] rfl)
                  · replace hf := ip c53 hf
                    refine lv_aload_n hx hb dX10_cheats_56 rfl (lv_at hl 0 rfl) ?_
                    refine va_get (D := D) (ci := 10) (v := .ref (h 29)) (C := RX10) (T := TX10) (N := 38) hx hb hts in_X10 hown hK hP 0 rfl rfl 29 (by decide) g_68 (fun _ h9 => h9) rfl dX10_cheats_57 ?_
                    refine lv_iload_n hx hb dX10_cheats_60 rfl (lv_at hl 3 rfl) ?_
                    obtain ⟨c61, hf⟩ := gd hf
                    refine va_iald (f := (V 29)) hx hb hK hP 20 0 rfl rfl c61 dX10_cheats_61 ?_
                    refine lv_aload_n hx hb dX10_cheats_62 rfl (lv_at hl 0 rfl) ?_
                    refine va_get (D := D) (ci := 10) (v := .ref (h 29)) (C := RX10) (T := TX10) (N := 38) hx hb hts in_X10 hown hK hP 0 rfl rfl 29 (by decide) g_68 (fun _ h9 => h9) rfl dX10_cheats_63 ?_
                    refine lv_iload_n hx hb dX10_cheats_66 rfl (lv_at hl 2 rfl) ?_
                    obtain ⟨c67, hf⟩ := gd hf
                    refine va_iald (f := (V 29)) hx hb hK hP 20 0 rfl rfl c67 dX10_cheats_67 ?_
                    refine lv_icmp_ne (tgt := 75) hx hb dX10_cheats_68 (by decide) (fun c68 => ?_) (fun c68 => ?_)
                    · replace hf := im c68 hf
                      exact J75 () hf _ _ hP hD hS _ (lv_sub hl [0, 1, 2, 3] rfl)
                    · replace hf := ip c68 hf
                      refine lv_iconst (v := 1) hx hb dX10_cheats_71 (by decide) ?_
                      refine lv_goto (tgt := 76) hx hb dX10_cheats_72 (by decide) ?_
                      exact J76 1 hf _ _ hP hD hS _ (lv_sub hl [0, 1, 2, 3] rfl)
        refine L19 _ (fun x1_19 hf H locs hP hD hS ls hl => ?_) f x1_9 0 hf _ _ hP hD hS _ (lv_sub hl [1, 2, 3, 0] rfl)
        refine lv_iinc (v := (x2_9 + 1)) (lv' := [(2, .int (x2_9 + 1)), (0, .ref o), (1, .int x1_19)]) hx hb dX10_cheats_117 hl (k := 2) rfl (by rfl) (by decide) rfl (fun ls hl => ?_)
        refine lv_goto (tgt := 9) hx hb dX10_cheats_120 (by decide) ?_
        exact ih_9 x1_19 (x2_9 + 1) hf _ _ hP hD hS _ (lv_sub hl [1, 2, 0] rfl)
  refine L9 _ (fun x1_9 hf H locs hP hD hS ls hl => ?_) f 0 0 hf _ _ hP hD hS _ (lv_sub hl [2, 1, 0] rfl)
  refine lv_iload_n hx hb dX10_cheats_123 rfl (lv_at hl 0 rfl) ?_
  exact hret x1_9 I1 V _ _ 124 _ hf hP hD hS dX10_cheats_124
set_option maxHeartbeats 4000000 in
set_option maxRecDepth 100000 in
theorem c_M_cheats (l : Launch) (D : va_G) (cs : Nat → ClassId) (o : Nat) (h : Nat → Nat) (sz : Nat) (I : FI) (V : FV) (f : Nat) (out : Int32 × FI × FV) (hf : M_cheats f I V = some out) : Met l yX10_cheats wsX10_cheats rm_M_cheats (va_Pc [.ref o] (xP D cs (w_M cs o h I V) sz)) (va_Qi (fun r u => (r, u) = out) (fun (u : FI × FV) t => xA D cs (va_A (w_M cs o h I V) sz) (w_M cs o h u.1 u.2) t) (va_A (w_M cs o h I V) sz)) 0 0 (va_A (w_M cs o h I V) sz) := by
  refine Met.ofW (cc := cX10_cheats) (maxL := 5) (ret := (some .int)) (by decide) rfl ?_
  intro p e s m args below meth c s₁ B hml hv
  obtain ⟨ha, hsz, hP, hK, hD0⟩ := hv
  have hx := B.exec
  have hb := B.bytes
  have hr := B.returns
  have hts := atoms_spec (ws := wsX10_cheats) B.pre
  have hown : s.vm.findClass RX10 = some m.cls := findClass_of_methodNamed B.named
  have hlocks := B.notSynchronized
  have in_X10 : ∀ w ∈ u_ws RX10 TX10 38, w ∈ wsX10_cheats := fun w h => List.mem_cons_of_mem _ (List.mem_append_right _ h)
  have g_92 := hts (Cond.fieldLink RX10 92 "DaysLentModel" "thrown" "I") (by decide +kernel)
  have g_148 := hts (Cond.fieldLink RX10 148 "DaysLentModel" "days" "I") (by decide +kernel)
  have g_71 := hts (Cond.fieldLink RX10 71 "DaysLentModel" "daySeen" "[Z") (by decide +kernel)
  have g_65 := hts (Cond.fieldLink RX10 65 "DaysLentModel" "dayWho" "[I") (by decide +kernel)
  have g_68 := hts (Cond.fieldLink RX10 68 "DaysLentModel" "dayNumber" "[I") (by decide +kernel)
  have w_noOne_151 := cwV (R := rm_M_cheats) (s := s) (args := args) (rm := rm_M_noOne) (mc := 0) (ms := 0) 1 hts gX10_cheats_X10_noOne rfl rfl rfl (by decide +kernel) ⟨Nat.le_of_ble_eq_true rfl, Nat.le_of_ble_eq_true rfl⟩
  subst hsz
  have hD := hD0.self (sz := s.heap.size)
  generalize hAe : va_A (w_M cs o h I V) s.heap.size = A at hD ⊢
  have hA : ∀ q : Nat, s.heap.size ≤ q → A q := fun q h => by rw [← hAe]; exact Or.inr h
  have hl := lv_entry ([.ref o]) (n := 5) (Nat.le_of_ble_eq_true rfl)
  rw [show entryFrame m args 5 = entryFrame m ([.ref o] : List Value).toArray 5 from by rw [ha], lg_entry_eq]
  generalize (lg_sl ([.ref o]) ++ List.replicate (5 - (lg_sl ([.ref o])).length) Slot.unset).toArray = ls at hl ⊢
  generalize hQ : MQ below (va_Qi (fun r u => (r, u) = out) (fun (u : FI × FV) t => xA D cs A (w_M cs o h u.1 u.2) t) A) args s 0 0 A = Q
  have hret : ∀ (v : Int32) (Im9 : FI) (Vm9 : FV) (H : Heap) (locs : List Loc) (pc : Nat) (ls : Array Slot), some (v, Im9, Vm9) = some out → va_P D vwCl (w_M cs o h Im9 Vm9) H → va_D A (w_M cs o h Im9 Vm9) → va_S A s.heap H locs → decode cX10_cheats pc = .ok (.ireturn, 1) → W p l e rm_M_cheats s m args below meth c H locs 0 0 Q (F0 m pc ls [.int v]) := by
    intro v Im9 Vm9 H locs pc ls hf hP hD hS hd
    rw [← hQ]
    exact W.iret (v := v) hx hb hr (fun t ht hW => ⟨⟨v, (Im9, Vm9), rfl, Option.some.inj hf, by show va_P D vwCl (w_M cs o h Im9 Vm9) t.heap; rw [ht]; exact hP, va_K.moved hW.alike hK, hD⟩, hS.F ht⟩) hS.2.2 hd
  exact v_M_cheats hf hx hb hml hown hts in_X10 g_92 g_148 g_71 g_65 g_68 w_noOne_151 hA hP hD hK hret ls hl
def M_keep (f : Nat) (x1 : Int32) (I : FI) (V : FV) : Option (Int32 × FI × FV) := nm (va_up I 0 0) (fun I1 => ob1 (M_in f (x1.toInt64) 0 1) (fun zr2 => (if zr2 = 0 then some ((-1), I1, V) else if x1 < 0 ∨ 2 ≤ x1.toNatClampNeg then none else (nm (va_up V 26 (upd (V 26) x1.toNatClampNeg (vp_nar .boolean 1))) (fun V3 => ob2 (M_layPage_kept f (74 * x1) I1 V3) (fun I5 V6 => some ((I5 9), I5, V6)))))))
abbrev rm_M_keep : Room := { frames := 1, cells := 0, slots := 0, locals := 25 }
set_option maxHeartbeats 4000000 in
set_option maxRecDepth 100000 in
theorem v_M_keep {l : Launch} {p : Program} {e : Env} {s : State} {m : MethodId} {args : Array Value} {below : List Frame} {meth : Method} {c : Code} {Q : State → Prop} {D : va_G} {cs : Nat → ClassId} {o : Nat} {h : Nat → Nat} {A : Nat → Prop} {I : FI} {V : FV} {x1 : Int32} {f : Nat} {out : Int32 × FI × FV} (hf : M_keep f x1 I V = some out) (hx : p.tables.exec = Jvm.exec) (hb : c.code = cX10_keep) (hml : c.maxLocals = 2) (hown : s.vm.findClass RX10 = some m.cls) (hts : ∀ w ∈ wsX10_keep, w.before args s = true) (in_X10 : ∀ w ∈ u_ws RX10 TX10 38, w ∈ wsX10_keep) (g_92 : (Cond.fieldLink RX10 92 "DaysLentModel" "thrown" "I").before args s = true) (w_in_99 : CallB rm_M_keep s args RX10 99 yX10_in cX10_in 6 (some .boolean) wsX10_in rm_M_in 0 0 3 ∧ (Cond.static yX10_in).before args s = true) (g_62 : (Cond.fieldLink RX10 62 "DaysLentModel" "isKept" "[Z").before args s = true) (g_59 : (Cond.fieldLink RX10 59 "DaysLentModel" "kept" "[I").before args s = true) (w_layPage_164 : CallW rm_M_keep s args RX10 RX10 164 yX10_layPage cX10_layPage 4 none wsX10_layPage rm_M_layPage_kept 0 0 2) (g_135 : (Cond.fieldLink RX10 135 "DaysLentModel" "debts" "I").before args s = true) (hA : ∀ q : Nat, s.heap.size ≤ q → A q) (hP : va_P D vwCl (w_M cs o h I V) s.heap) (hD : va_D A (w_M cs o h I V)) (hK : va_K D vwCl (tyA cs) s) (hret : ∀ (v : Int32) (Im9 : FI) (Vm9 : FV) (H : Heap) (locs : List Loc) (pc : Nat) (ls : Array Slot), some (v, Im9, Vm9) = some out → va_P D vwCl (w_M cs o h Im9 Vm9) H → va_D A (w_M cs o h Im9 Vm9) → va_S A s.heap H locs → decode cX10_keep pc = .ok (.ireturn, 1) → W p l e rm_M_keep s m args below meth c H locs 0 0 Q (F0 m pc ls [.int v])) : ∀ ls : Array Slot, lv_has ls 2 [(0, .ref o), (1, .int x1)] → W p l e rm_M_keep s m args below meth c s.heap [] 0 0 Q (F0 m 0 ls []) := by
  intro ls hl
  have hS : va_S A s.heap s.heap [] := va_S.rf
  unfold M_keep at hf
  refine lv_aload_n hx hb dX10_keep_0 rfl (lv_at hl 0 rfl) ?_
  refine lv_iconst (v := 0) hx hb dX10_keep_1 (by decide) ?_
  refine va_put (D := D) (ci := 10) (v := .int 0) (ty := .int) (C := RX10) (T := TX10) (N := 38) hx hb hts in_X10 tyX10 tyX10_ok nmX10 hown hK hP hD hS 0 rfl rfl 0 (by decide) g_92 (fun _ h9 => h9) rfl (by decide +kernel) rfl rfl (Nat.le_of_ble_eq_true rfl) dX10_keep_2 (fun H locs hP hD hS => ?_)
  obtain ⟨I1, eI1, hf⟩ := nme hf
  have hP : va_P D vwCl (w_M cs o h I1 V) H := by rw [eI1]; exact hP
  have hD : va_D A (w_M cs o h I1 V) := by rw [eI1]; exact hD
  refine lv_iload_n hx hb dX10_keep_5 rfl (lv_at hl 1 rfl) ?_
  refine lv_i2l (v := x1.toInt64) hx hb dX10_keep_6 rfl ?_
  refine lv_lconst (v := 0) hx hb dX10_keep_7 (by decide) ?_
  refine lv_lconst (v := 1) hx hb dX10_keep_8 (by decide) ?_
  obtain ⟨zr2, qr2, hf⟩ := bd1 hf
  refine vp_callSi (va_Run.run (va_runS (As := [.long (x1.toInt64), .long 0, .long 1]) (rest := []) ⟨hx, hb, hml, hown, hts⟩ (c_M_in l (x1.toInt64) 0 1 f zr2 qr2) w_in_99 ⟨fun a U g mk q => q, fun U hU hW => ⟨rfl, trivial⟩⟩ rfl rfl hl.1 rfl (lv_room (Nat.le_of_ble_eq_true rfl)) dX10_keep_9 ⟨Nat.zero_le _, Nat.zero_le _⟩)) (fun r2 er2 => ?_)
  rw [er2]
  refine lv_if_ne (tgt := 17) hx hb dX10_keep_12 (by decide) (fun c12 => ?_) (fun c12 => ?_)
  · replace hf := im c12 hf
    refine lv_aload_n hx hb dX10_keep_17 rfl (lv_at hl 0 rfl) ?_
    refine va_get (D := D) (ci := 10) (v := .ref (h 26)) (C := RX10) (T := TX10) (N := 38) hx hb hts in_X10 hown hK hP 0 rfl rfl 26 (by decide) g_62 (fun _ h9 => h9) rfl dX10_keep_18 ?_
    refine lv_iload_n hx hb dX10_keep_21 rfl (lv_at hl 1 rfl) ?_
    refine lv_iconst (v := 1) hx hb dX10_keep_22 (by decide) ?_
    obtain ⟨c23, hf⟩ := gd hf
    refine va_zast (f := (V 26)) hx hb hK hP hD hS 18 1 rfl rfl c23 dX10_keep_23 (fun H locs hP hD hS => ?_)
    obtain ⟨V3, eV3, hf⟩ := nme hf
    have hP : va_P D vwCl (w_M cs o h I1 V3) H := by rw [eV3]; exact hP
    have hD : va_D A (w_M cs o h I1 V3) := by rw [eV3]; exact hD
    refine lv_aload_n hx hb dX10_keep_24 rfl (lv_at hl 0 rfl) ?_
    refine lv_aload_n hx hb dX10_keep_25 rfl (lv_at hl 0 rfl) ?_
    refine va_get (D := D) (ci := 10) (v := .ref (h 25)) (C := RX10) (T := TX10) (N := 38) hx hb hts in_X10 hown hK hP 0 rfl rfl 25 (by decide) g_59 (fun _ h9 => h9) rfl dX10_keep_26 ?_
    refine lv_bipush (v := 74) hx hb dX10_keep_29 (by decide) ?_
    refine lv_iload_n hx hb dX10_keep_31 rfl (lv_at hl 1 rfl) ?_
    refine lv_imul hx hb dX10_keep_32 ?_
    obtain ⟨I5, V6, qr4, hf⟩ := bd2 hf
    have hFc := xfree hD hS hA
    refine va_callv (va_runV (As := [.ref (h 25), .int (74 * x1)]) (rest := []) ⟨hx, hb, hml, hown, hts⟩ (c_M_layPage_kept l D cs o h _ I1 V3 (74 * x1) f _ qr4) w_layPage_164 ⟨xP_moved, va_recv hK hP (ci := 10) (q0 := 0) rfl rfl, fun U hU hW => ⟨rfl, by rw [hU], by rw [hU]; exact hP, va_K.moved hW.alike hK, hD.weaken (fun _ _ _ _ => trivial)⟩⟩ rfl rfl hl.1 rfl (lv_room (Nat.le_of_ble_eq_true rfl)) dX10_keep_33 ⟨Nat.zero_le _, Nat.zero_le _⟩) hS (fun q _ h9 => hFc q h9) hFc (fun u t H1 locs ht hvm hw hB hz1 hk1 hS => ?_)
    rw [hw] at hB
    obtain ⟨hP1, hK1, hD1⟩ := hB
    have hP : va_P D vwCl (w_M cs o h I5 V6) H1 := by rw [← ht]; exact hP1
    have hD : va_D A (w_M cs o h I5 V6) := hD1.weaken (fun _ q _ h9 => hFc q.1 h9)
    refine lv_aload_n hx hb dX10_keep_36 rfl (lv_at hl 0 rfl) ?_
    refine va_get (D := D) (ci := 10) (v := .int (I5 9)) (C := RX10) (T := TX10) (N := 38) hx hb hts in_X10 hown hK hP 0 rfl rfl 9 (by decide) g_135 (fun _ h9 => h9) rfl dX10_keep_37 ?_
    exact hret (I5 9) I5 V6 _ _ 40 _ hf hP hD hS dX10_keep_40
  · replace hf := ip c12 hf
    refine lv_iconst (v := (-1)) hx hb dX10_keep_15 (by decide) ?_
    exact hret (-1) I1 V _ _ 16 _ hf hP hD hS dX10_keep_16
set_option maxHeartbeats 4000000 in
set_option maxRecDepth 100000 in
theorem c_M_keep (l : Launch) (D : va_G) (cs : Nat → ClassId) (o : Nat) (h : Nat → Nat) (sz : Nat) (I : FI) (V : FV) (x1 : Int32) (f : Nat) (out : Int32 × FI × FV) (hf : M_keep f x1 I V = some out) : Met l yX10_keep wsX10_keep rm_M_keep (va_Pc [.ref o, .int x1] (xP D cs (w_M cs o h I V) sz)) (va_Qi (fun r u => (r, u) = out) (fun (u : FI × FV) t => xA D cs (va_A (w_M cs o h I V) sz) (w_M cs o h u.1 u.2) t) (va_A (w_M cs o h I V) sz)) 0 0 (va_A (w_M cs o h I V) sz) := by
  refine Met.ofW (cc := cX10_keep) (maxL := 2) (ret := (some .int)) (by decide) rfl ?_
  intro p e s m args below meth c s₁ B hml hv
  obtain ⟨ha, hsz, hP, hK, hD0⟩ := hv
  have hx := B.exec
  have hb := B.bytes
  have hr := B.returns
  have hts := atoms_spec (ws := wsX10_keep) B.pre
  have hown : s.vm.findClass RX10 = some m.cls := findClass_of_methodNamed B.named
  have hlocks := B.notSynchronized
  have in_X10 : ∀ w ∈ u_ws RX10 TX10 38, w ∈ wsX10_keep := fun w h => List.mem_cons_of_mem _ (List.mem_append_right _ h)
  have g_92 := hts (Cond.fieldLink RX10 92 "DaysLentModel" "thrown" "I") (by decide +kernel)
  have w_in_99 := va_cwS (R := rm_M_keep) (s := s) (args := args) (rm := rm_M_in) (mc := 0) (ms := 0) 3 hts gX10_keep_X10_in rfl rfl rfl (by decide +kernel) ⟨Nat.le_of_ble_eq_true rfl, Nat.le_of_ble_eq_true rfl⟩
  have g_62 := hts (Cond.fieldLink RX10 62 "DaysLentModel" "isKept" "[Z") (by decide +kernel)
  have g_59 := hts (Cond.fieldLink RX10 59 "DaysLentModel" "kept" "[I") (by decide +kernel)
  have w_layPage_164 := cwV (R := rm_M_keep) (s := s) (args := args) (rm := rm_M_layPage_kept) (mc := 0) (ms := 0) 2 hts gX10_keep_X10_layPage rfl rfl rfl (by decide +kernel) ⟨Nat.le_of_ble_eq_true rfl, Nat.le_of_ble_eq_true rfl⟩
  have g_135 := hts (Cond.fieldLink RX10 135 "DaysLentModel" "debts" "I") (by decide +kernel)
  subst hsz
  have hD := hD0.self (sz := s.heap.size)
  generalize hAe : va_A (w_M cs o h I V) s.heap.size = A at hD ⊢
  have hA : ∀ q : Nat, s.heap.size ≤ q → A q := fun q h => by rw [← hAe]; exact Or.inr h
  have hl := lv_entry ([.ref o, .int x1]) (n := 2) (Nat.le_of_ble_eq_true rfl)
  rw [show entryFrame m args 2 = entryFrame m ([.ref o, .int x1] : List Value).toArray 2 from by rw [ha], lg_entry_eq]
  generalize (lg_sl ([.ref o, .int x1]) ++ List.replicate (2 - (lg_sl ([.ref o, .int x1])).length) Slot.unset).toArray = ls at hl ⊢
  generalize hQ : MQ below (va_Qi (fun r u => (r, u) = out) (fun (u : FI × FV) t => xA D cs A (w_M cs o h u.1 u.2) t) A) args s 0 0 A = Q
  have hret : ∀ (v : Int32) (Im9 : FI) (Vm9 : FV) (H : Heap) (locs : List Loc) (pc : Nat) (ls : Array Slot), some (v, Im9, Vm9) = some out → va_P D vwCl (w_M cs o h Im9 Vm9) H → va_D A (w_M cs o h Im9 Vm9) → va_S A s.heap H locs → decode cX10_keep pc = .ok (.ireturn, 1) → W p l e rm_M_keep s m args below meth c H locs 0 0 Q (F0 m pc ls [.int v]) := by
    intro v Im9 Vm9 H locs pc ls hf hP hD hS hd
    rw [← hQ]
    exact W.iret (v := v) hx hb hr (fun t ht hW => ⟨⟨v, (Im9, Vm9), rfl, Option.some.inj hf, by show va_P D vwCl (w_M cs o h Im9 Vm9) t.heap; rw [ht]; exact hP, va_K.moved hW.alike hK, hD⟩, hS.F ht⟩) hS.2.2 hd
  exact v_M_keep hf hx hb hml hown hts in_X10 g_92 w_in_99 g_62 g_59 w_layPage_164 g_135 hA hP hD hK hret ls hl
def M_again (f : Nat) (x1 : Int32) (I : FI) (V : FV) : Option (Int32 × FI × FV) := nm (va_up I 0 0) (fun I1 => ob1 (M_in f (x1.toInt64) 0 1) (fun zr2 => (if zr2 = 0 then some ((-1), I1, V) else if x1 < 0 ∨ 2 ≤ x1.toNatClampNeg then none else ((if ((V 26) x1.toNatClampNeg) = 0 then some ((-3), I1, V) else ob2 (M_takePage_kept f (74 * x1) I1 V) (fun I4 V5 => nm (va_up I4 24 0) (fun I6 => some ((I6 9), I6, V5))))))))
abbrev rm_M_again : Room := { frames := 2, cells := 0, slots := 0, locals := 44 }
set_option maxHeartbeats 4000000 in
set_option maxRecDepth 100000 in
theorem v_M_again {l : Launch} {p : Program} {e : Env} {s : State} {m : MethodId} {args : Array Value} {below : List Frame} {meth : Method} {c : Code} {Q : State → Prop} {D : va_G} {cs : Nat → ClassId} {o : Nat} {h : Nat → Nat} {A : Nat → Prop} {I : FI} {V : FV} {x1 : Int32} {f : Nat} {out : Int32 × FI × FV} (hf : M_again f x1 I V = some out) (hx : p.tables.exec = Jvm.exec) (hb : c.code = cX10_again) (hml : c.maxLocals = 2) (hown : s.vm.findClass RX10 = some m.cls) (hts : ∀ w ∈ wsX10_again, w.before args s = true) (in_X10 : ∀ w ∈ u_ws RX10 TX10 38, w ∈ wsX10_again) (g_92 : (Cond.fieldLink RX10 92 "DaysLentModel" "thrown" "I").before args s = true) (w_in_99 : CallB rm_M_again s args RX10 99 yX10_in cX10_in 6 (some .boolean) wsX10_in rm_M_in 0 0 3 ∧ (Cond.static yX10_in).before args s = true) (g_62 : (Cond.fieldLink RX10 62 "DaysLentModel" "isKept" "[Z").before args s = true) (g_59 : (Cond.fieldLink RX10 59 "DaysLentModel" "kept" "[I").before args s = true) (w_takePage_180 : CallW rm_M_again s args RX10 RX10 180 yX10_takePage cX10_takePage 4 none wsX10_takePage rm_M_takePage_kept 0 0 2) (g_141 : (Cond.fieldLink RX10 141 "DaysLentModel" "acts" "I").before args s = true) (g_135 : (Cond.fieldLink RX10 135 "DaysLentModel" "debts" "I").before args s = true) (hA : ∀ q : Nat, s.heap.size ≤ q → A q) (hP : va_P D vwCl (w_M cs o h I V) s.heap) (hD : va_D A (w_M cs o h I V)) (hK : va_K D vwCl (tyA cs) s) (hret : ∀ (v : Int32) (Im9 : FI) (Vm9 : FV) (H : Heap) (locs : List Loc) (pc : Nat) (ls : Array Slot), some (v, Im9, Vm9) = some out → va_P D vwCl (w_M cs o h Im9 Vm9) H → va_D A (w_M cs o h Im9 Vm9) → va_S A s.heap H locs → decode cX10_again pc = .ok (.ireturn, 1) → W p l e rm_M_again s m args below meth c H locs 0 0 Q (F0 m pc ls [.int v])) : ∀ ls : Array Slot, lv_has ls 2 [(0, .ref o), (1, .int x1)] → W p l e rm_M_again s m args below meth c s.heap [] 0 0 Q (F0 m 0 ls []) := by
  intro ls hl
  have hS : va_S A s.heap s.heap [] := va_S.rf
  unfold M_again at hf
  refine lv_aload_n hx hb dX10_again_0 rfl (lv_at hl 0 rfl) ?_
  refine lv_iconst (v := 0) hx hb dX10_again_1 (by decide) ?_
  refine va_put (D := D) (ci := 10) (v := .int 0) (ty := .int) (C := RX10) (T := TX10) (N := 38) hx hb hts in_X10 tyX10 tyX10_ok nmX10 hown hK hP hD hS 0 rfl rfl 0 (by decide) g_92 (fun _ h9 => h9) rfl (by decide +kernel) rfl rfl (Nat.le_of_ble_eq_true rfl) dX10_again_2 (fun H locs hP hD hS => ?_)
  obtain ⟨I1, eI1, hf⟩ := nme hf
  have hP : va_P D vwCl (w_M cs o h I1 V) H := by rw [eI1]; exact hP
  have hD : va_D A (w_M cs o h I1 V) := by rw [eI1]; exact hD
  refine lv_iload_n hx hb dX10_again_5 rfl (lv_at hl 1 rfl) ?_
  refine lv_i2l (v := x1.toInt64) hx hb dX10_again_6 rfl ?_
  refine lv_lconst (v := 0) hx hb dX10_again_7 (by decide) ?_
  refine lv_lconst (v := 1) hx hb dX10_again_8 (by decide) ?_
  obtain ⟨zr2, qr2, hf⟩ := bd1 hf
  refine vp_callSi (va_Run.run (va_runS (As := [.long (x1.toInt64), .long 0, .long 1]) (rest := []) ⟨hx, hb, hml, hown, hts⟩ (c_M_in l (x1.toInt64) 0 1 f zr2 qr2) w_in_99 ⟨fun a U g mk q => q, fun U hU hW => ⟨rfl, trivial⟩⟩ rfl rfl hl.1 rfl (lv_room (Nat.le_of_ble_eq_true rfl)) dX10_again_9 ⟨Nat.zero_le _, Nat.zero_le _⟩)) (fun r2 er2 => ?_)
  rw [er2]
  refine lv_if_ne (tgt := 17) hx hb dX10_again_12 (by decide) (fun c12 => ?_) (fun c12 => ?_)
  · replace hf := im c12 hf
    refine lv_aload_n hx hb dX10_again_17 rfl (lv_at hl 0 rfl) ?_
    refine va_get (D := D) (ci := 10) (v := .ref (h 26)) (C := RX10) (T := TX10) (N := 38) hx hb hts in_X10 hown hK hP 0 rfl rfl 26 (by decide) g_62 (fun _ h9 => h9) rfl dX10_again_18 ?_
    refine lv_iload_n hx hb dX10_again_21 rfl (lv_at hl 1 rfl) ?_
    obtain ⟨c22, hf⟩ := gd hf
    refine va_zald (f := (V 26)) hx hb hK hP 18 1 rfl rfl c22 dX10_again_22 ?_
    refine lv_if_ne (tgt := 29) hx hb dX10_again_23 (by decide) (fun c23 => ?_) (fun c23 => ?_)
    · replace hf := im c23 hf
      refine lv_aload_n hx hb dX10_again_29 rfl (lv_at hl 0 rfl) ?_
      refine lv_aload_n hx hb dX10_again_30 rfl (lv_at hl 0 rfl) ?_
      refine va_get (D := D) (ci := 10) (v := .ref (h 25)) (C := RX10) (T := TX10) (N := 38) hx hb hts in_X10 hown hK hP 0 rfl rfl 25 (by decide) g_59 (fun _ h9 => h9) rfl dX10_again_31 ?_
      refine lv_bipush (v := 74) hx hb dX10_again_34 (by decide) ?_
      refine lv_iload_n hx hb dX10_again_36 rfl (lv_at hl 1 rfl) ?_
      refine lv_imul hx hb dX10_again_37 ?_
      obtain ⟨I4, V5, qr3, hf⟩ := bd2 hf
      have hFc := xfree hD hS hA
      refine va_callv (va_runV (As := [.ref (h 25), .int (74 * x1)]) (rest := []) ⟨hx, hb, hml, hown, hts⟩ (c_M_takePage_kept l D cs o h _ I1 V (74 * x1) f _ qr3) w_takePage_180 ⟨xP_moved, va_recv hK hP (ci := 10) (q0 := 0) rfl rfl, fun U hU hW => ⟨rfl, by rw [hU], by rw [hU]; exact hP, va_K.moved hW.alike hK, hD.weaken (fun _ _ _ _ => trivial)⟩⟩ rfl rfl hl.1 rfl (lv_room (Nat.le_of_ble_eq_true rfl)) dX10_again_38 ⟨Nat.zero_le _, Nat.zero_le _⟩) hS (fun q _ h9 => hFc q h9) hFc (fun u t H1 locs ht hvm hw hB hz1 hk1 hS => ?_)
      rw [hw] at hB
      obtain ⟨hP1, hK1, hD1⟩ := hB
      have hP : va_P D vwCl (w_M cs o h I4 V5) H1 := by rw [← ht]; exact hP1
      have hD : va_D A (w_M cs o h I4 V5) := hD1.weaken (fun _ q _ h9 => hFc q.1 h9)
      refine lv_aload_n hx hb dX10_again_41 rfl (lv_at hl 0 rfl) ?_
      refine lv_iconst (v := 0) hx hb dX10_again_42 (by decide) ?_
      refine va_put (D := D) (ci := 10) (v := .int 0) (ty := .int) (C := RX10) (T := TX10) (N := 38) hx hb hts in_X10 tyX10 tyX10_ok nmX10 hown hK hP hD hS 0 rfl rfl 24 (by decide) g_141 (fun _ h9 => h9) rfl (by decide +kernel) rfl rfl (Nat.le_of_ble_eq_true rfl) dX10_again_43 (fun H locs hP hD hS => ?_)
      obtain ⟨I6, eI6, hf⟩ := nme hf
      have hP : va_P D vwCl (w_M cs o h I6 V5) H := by rw [eI6]; exact hP
      have hD : va_D A (w_M cs o h I6 V5) := by rw [eI6]; exact hD
      refine lv_aload_n hx hb dX10_again_46 rfl (lv_at hl 0 rfl) ?_
      refine va_get (D := D) (ci := 10) (v := .int (I6 9)) (C := RX10) (T := TX10) (N := 38) hx hb hts in_X10 hown hK hP 0 rfl rfl 9 (by decide) g_135 (fun _ h9 => h9) rfl dX10_again_47 ?_
      exact hret (I6 9) I6 V5 _ _ 50 _ hf hP hD hS dX10_again_50
    · replace hf := ip c23 hf
      refine lv_bipush (v := (-3)) hx hb dX10_again_26 (by decide) ?_
      exact hret (-3) I1 V _ _ 28 _ hf hP hD hS dX10_again_28
  · replace hf := ip c12 hf
    refine lv_iconst (v := (-1)) hx hb dX10_again_15 (by decide) ?_
    exact hret (-1) I1 V _ _ 16 _ hf hP hD hS dX10_again_16
set_option maxHeartbeats 4000000 in
set_option maxRecDepth 100000 in
theorem c_M_again (l : Launch) (D : va_G) (cs : Nat → ClassId) (o : Nat) (h : Nat → Nat) (sz : Nat) (I : FI) (V : FV) (x1 : Int32) (f : Nat) (out : Int32 × FI × FV) (hf : M_again f x1 I V = some out) : Met l yX10_again wsX10_again rm_M_again (va_Pc [.ref o, .int x1] (xP D cs (w_M cs o h I V) sz)) (va_Qi (fun r u => (r, u) = out) (fun (u : FI × FV) t => xA D cs (va_A (w_M cs o h I V) sz) (w_M cs o h u.1 u.2) t) (va_A (w_M cs o h I V) sz)) 0 0 (va_A (w_M cs o h I V) sz) := by
  refine Met.ofW (cc := cX10_again) (maxL := 2) (ret := (some .int)) (by decide) rfl ?_
  intro p e s m args below meth c s₁ B hml hv
  obtain ⟨ha, hsz, hP, hK, hD0⟩ := hv
  have hx := B.exec
  have hb := B.bytes
  have hr := B.returns
  have hts := atoms_spec (ws := wsX10_again) B.pre
  have hown : s.vm.findClass RX10 = some m.cls := findClass_of_methodNamed B.named
  have hlocks := B.notSynchronized
  have in_X10 : ∀ w ∈ u_ws RX10 TX10 38, w ∈ wsX10_again := fun w h => List.mem_cons_of_mem _ (List.mem_append_right _ h)
  have g_92 := hts (Cond.fieldLink RX10 92 "DaysLentModel" "thrown" "I") (by decide +kernel)
  have w_in_99 := va_cwS (R := rm_M_again) (s := s) (args := args) (rm := rm_M_in) (mc := 0) (ms := 0) 3 hts gX10_again_X10_in rfl rfl rfl (by decide +kernel) ⟨Nat.le_of_ble_eq_true rfl, Nat.le_of_ble_eq_true rfl⟩
  have g_62 := hts (Cond.fieldLink RX10 62 "DaysLentModel" "isKept" "[Z") (by decide +kernel)
  have g_59 := hts (Cond.fieldLink RX10 59 "DaysLentModel" "kept" "[I") (by decide +kernel)
  have w_takePage_180 := cwV (R := rm_M_again) (s := s) (args := args) (rm := rm_M_takePage_kept) (mc := 0) (ms := 0) 2 hts gX10_again_X10_takePage rfl rfl rfl (by decide +kernel) ⟨Nat.le_of_ble_eq_true rfl, Nat.le_of_ble_eq_true rfl⟩
  have g_141 := hts (Cond.fieldLink RX10 141 "DaysLentModel" "acts" "I") (by decide +kernel)
  have g_135 := hts (Cond.fieldLink RX10 135 "DaysLentModel" "debts" "I") (by decide +kernel)
  subst hsz
  have hD := hD0.self (sz := s.heap.size)
  generalize hAe : va_A (w_M cs o h I V) s.heap.size = A at hD ⊢
  have hA : ∀ q : Nat, s.heap.size ≤ q → A q := fun q h => by rw [← hAe]; exact Or.inr h
  have hl := lv_entry ([.ref o, .int x1]) (n := 2) (Nat.le_of_ble_eq_true rfl)
  rw [show entryFrame m args 2 = entryFrame m ([.ref o, .int x1] : List Value).toArray 2 from by rw [ha], lg_entry_eq]
  generalize (lg_sl ([.ref o, .int x1]) ++ List.replicate (2 - (lg_sl ([.ref o, .int x1])).length) Slot.unset).toArray = ls at hl ⊢
  generalize hQ : MQ below (va_Qi (fun r u => (r, u) = out) (fun (u : FI × FV) t => xA D cs A (w_M cs o h u.1 u.2) t) A) args s 0 0 A = Q
  have hret : ∀ (v : Int32) (Im9 : FI) (Vm9 : FV) (H : Heap) (locs : List Loc) (pc : Nat) (ls : Array Slot), some (v, Im9, Vm9) = some out → va_P D vwCl (w_M cs o h Im9 Vm9) H → va_D A (w_M cs o h Im9 Vm9) → va_S A s.heap H locs → decode cX10_again pc = .ok (.ireturn, 1) → W p l e rm_M_again s m args below meth c H locs 0 0 Q (F0 m pc ls [.int v]) := by
    intro v Im9 Vm9 H locs pc ls hf hP hD hS hd
    rw [← hQ]
    exact W.iret (v := v) hx hb hr (fun t ht hW => ⟨⟨v, (Im9, Vm9), rfl, Option.some.inj hf, by show va_P D vwCl (w_M cs o h Im9 Vm9) t.heap; rw [ht]; exact hP, va_K.moved hW.alike hK, hD⟩, hS.F ht⟩) hS.2.2 hd
  exact v_M_again hf hx hb hml hown hts in_X10 g_92 w_in_99 g_62 g_59 w_takePage_180 g_141 g_135 hA hP hD hK hret ls hl
