def Act_clear (f : Nat) (I_act : FI) (V_act : FV) : Option (FI) := nm (va_up I_act 1 0) (fun I1 => nm (va_up I1 2 0) (fun I2 => some I2))
abbrev rm_Act_clear : Room := { frames := 0, cells := 0, slots := 0, locals := 0 }
set_option maxHeartbeats 4000000 in
set_option maxRecDepth 100000 in
theorem v_Act_clear {l : Launch} {p : Program} {e : Env} {s : State} {m : MethodId} {args : Array Value} {below : List Frame} {meth : Method} {c : Code} {Q : State → Prop} {D : va_G} {cs : Nat → ClassId} {o_act : Nat} {h_act : Nat → Nat} {laa : Nat → Nat} {A : Nat → Prop} {I_act : FI} {V_act : FV} {f : Nat} {out : FI} (hf : Act_clear f I_act V_act = some out) (hx : p.tables.exec = Jvm.exec) (hb : c.code = cX0_clear) (hml : c.maxLocals = 1) (hown : s.vm.findClass RX0 = some m.cls) (hts : ∀ w ∈ wsX0_clear, w.before args s = true) (in_X0 : ∀ w ∈ u_ws RX0 TX0 3, w ∈ wsX0_clear) (g_17 : (Cond.fieldLink RX0 17 "DaysLent$Acts" "first" "I").before args s = true) (g_21 : (Cond.fieldLink RX0 21 "DaysLent$Acts" "count" "I").before args s = true) (hA : ∀ q : Nat, s.heap.size ≤ q → A q) (hP : va_P D vwCl (List.flatten [(w_Act cs o_act h_act laa I_act V_act)]) s.heap) (hD : va_D A (List.flatten [(w_Act cs o_act h_act laa I_act V_act)])) (hK : va_K D vwCl (tyA cs) s) (hN : yN s) (hret : ∀ (Iact9 : FI) (H : Heap) (locs : List Loc) (pc : Nat) (ls : Array Slot), some Iact9 = some out → va_P D vwCl (List.flatten [(w_Act cs o_act h_act laa Iact9 V_act)]) H → va_D A (List.flatten [(w_Act cs o_act h_act laa Iact9 V_act)]) → va_S A s.heap H locs → decode cX0_clear pc = .ok (.return_, 1) → W p l e rm_Act_clear s m args below meth c H locs 0 0 Q (F0 m pc ls [])) : ∀ ls : Array Slot, lv_has ls 1 [(0, .ref o_act)] → W p l e rm_Act_clear s m args below meth c s.heap [] 0 0 Q (F0 m 0 ls []) := by
  intro ls hl
  have hS : va_S A s.heap s.heap [] := va_S.rf
  unfold Act_clear at hf
  refine lv_aload_n hx hb dX0_clear_0 rfl (lv_at hl 0 rfl) ?_
  refine lv_iconst (v := 0) hx hb dX0_clear_1 (by decide) ?_
  refine va_put (D := D) (ci := 0) (v := .int 0) (ty := .int) (C := RX0) (T := TX0) (N := 3) hx hb hts in_X0 tyX0 tyX0_ok nmX0 hown hK hP hD hS 0 rfl rfl 1 (by decide) g_17 (fun _ h9 => h9) rfl (by decide +kernel) rfl rfl (Nat.le_of_ble_eq_true rfl) dX0_clear_2 (fun H locs hP hD hS => ?_)
  obtain ⟨I1, eI1, hf⟩ := nme hf
  have hP : va_P D vwCl (List.flatten [(w_Act cs o_act h_act laa I1 V_act)]) H := by rw [eI1]; exact hP
  have hD : va_D A (List.flatten [(w_Act cs o_act h_act laa I1 V_act)]) := by rw [eI1]; exact hD
  refine lv_aload_n hx hb dX0_clear_5 rfl (lv_at hl 0 rfl) ?_
  refine lv_iconst (v := 0) hx hb dX0_clear_6 (by decide) ?_
  refine va_put (D := D) (ci := 0) (v := .int 0) (ty := .int) (C := RX0) (T := TX0) (N := 3) hx hb hts in_X0 tyX0 tyX0_ok nmX0 hown hK hP hD hS 0 rfl rfl 2 (by decide) g_21 (fun _ h9 => h9) rfl (by decide +kernel) rfl rfl (Nat.le_of_ble_eq_true rfl) dX0_clear_7 (fun H locs hP hD hS => ?_)
  obtain ⟨I2, eI2, hf⟩ := nme hf
  have hP : va_P D vwCl (List.flatten [(w_Act cs o_act h_act laa I2 V_act)]) H := by rw [eI2]; exact hP
  have hD : va_D A (List.flatten [(w_Act cs o_act h_act laa I2 V_act)]) := by rw [eI2]; exact hD
  exact hret I2 _ _ 10 _ hf hP hD hS dX0_clear_10
set_option maxHeartbeats 4000000 in
set_option maxRecDepth 100000 in
theorem c_Act_clear (l : Launch) (D : va_G) (cs : Nat → ClassId) (o_act : Nat) (h_act : Nat → Nat) (laa : Nat → Nat) (sz : Nat) (I_act : FI) (V_act : FV) (f : Nat) (out : FI) (hf : Act_clear f I_act V_act = some out) : Met l yX0_clear wsX0_clear rm_Act_clear (va_Pc [.ref o_act] (yP D cs (List.flatten [(w_Act cs o_act h_act laa I_act V_act)]) sz)) (va_Qv (fun u => u = out) (fun (u : FI) t => xA D cs (va_A (List.flatten [(w_Act cs o_act h_act laa I_act V_act)]) sz) (List.flatten [(w_Act cs o_act h_act laa u V_act)]) t) (va_A (List.flatten [(w_Act cs o_act h_act laa I_act V_act)]) sz)) 0 0 (va_A (List.flatten [(w_Act cs o_act h_act laa I_act V_act)]) sz) := by
  refine Met.ofW (cc := cX0_clear) (maxL := 1) (ret := none) (by decide) rfl ?_
  intro p e s m args below meth c s₁ B hml hv
  obtain ⟨ha, hsz, hP, hK, hN, hD0⟩ := hv
  have hx := B.exec
  have hb := B.bytes
  have hr := B.returns
  have hts := atoms_spec (ws := wsX0_clear) B.pre
  have hown : s.vm.findClass RX0 = some m.cls := findClass_of_methodNamed B.named
  have hlocks := B.notSynchronized
  have in_X0 : ∀ w ∈ u_ws RX0 TX0 3, w ∈ wsX0_clear := fun w h => List.mem_cons_of_mem _ (List.mem_append_right _ h)
  have g_17 := hts (Cond.fieldLink RX0 17 "DaysLent$Acts" "first" "I") (by decide +kernel)
  have g_21 := hts (Cond.fieldLink RX0 21 "DaysLent$Acts" "count" "I") (by decide +kernel)
  subst hsz
  have hD := hD0.self (sz := s.heap.size)
  generalize hAe : va_A (List.flatten [(w_Act cs o_act h_act laa I_act V_act)]) s.heap.size = A at hD ⊢
  have hA : ∀ q : Nat, s.heap.size ≤ q → A q := fun q h => by rw [← hAe]; exact Or.inr h
  have hl := lv_entry ([.ref o_act]) (n := 1) (Nat.le_of_ble_eq_true rfl)
  rw [show entryFrame m args 1 = entryFrame m ([.ref o_act] : List Value).toArray 1 from by rw [ha], lg_entry_eq]
  generalize (lg_sl ([.ref o_act]) ++ List.replicate (1 - (lg_sl ([.ref o_act])).length) Slot.unset).toArray = ls at hl ⊢
  generalize hQ : MQ below (va_Qv (fun u => u = out) (fun (u : FI) t => xA D cs A (List.flatten [(w_Act cs o_act h_act laa u V_act)]) t) A) args s 0 0 A = Q
  have hret : ∀ (Iact9 : FI) (H : Heap) (locs : List Loc) (pc : Nat) (ls : Array Slot), some Iact9 = some out → va_P D vwCl (List.flatten [(w_Act cs o_act h_act laa Iact9 V_act)]) H → va_D A (List.flatten [(w_Act cs o_act h_act laa Iact9 V_act)]) → va_S A s.heap H locs → decode cX0_clear pc = .ok (.return_, 1) → W p l e rm_Act_clear s m args below meth c H locs 0 0 Q (F0 m pc ls []) := by
    intro Iact9 H locs pc ls hf hP hD hS hd
    rw [← hQ]
    exact W.vret hx hb hr (fun t ht hW => ⟨⟨Iact9, rfl, Option.some.inj hf, by show va_P D vwCl (List.flatten [(w_Act cs o_act h_act laa Iact9 V_act)]) t.heap; rw [ht]; exact hP, va_K.moved hW.alike hK, hD⟩, hS.F ht⟩) hS.2.2 hd
  exact v_Act_clear hf hx hb hml hown hts in_X0 g_17 g_21 hA hP hD hK hN hret ls hl
def Act_placeOf (f : Nat) (x1 : Int32) (I_act : FI) (V_act : FV) : Option (Int32) := some (((I_act 1) + x1) - ((I_act 1) + x1) / 10 * 10)
abbrev rm_Act_placeOf : Room := { frames := 0, cells := 0, slots := 0, locals := 0 }
set_option maxHeartbeats 4000000 in
set_option maxRecDepth 100000 in
theorem v_Act_placeOf {l : Launch} {p : Program} {e : Env} {s : State} {m : MethodId} {args : Array Value} {below : List Frame} {meth : Method} {c : Code} {Q : State → Prop} {D : va_G} {cs : Nat → ClassId} {o_act : Nat} {h_act : Nat → Nat} {laa : Nat → Nat} {I_act : FI} {V_act : FV} {x1 : Int32} {f : Nat} {out : Int32} (hf : Act_placeOf f x1 I_act V_act = some out) (hx : p.tables.exec = Jvm.exec) (hb : c.code = cX0_placeOf) (hml : c.maxLocals = 2) (hown : s.vm.findClass RX0 = some m.cls) (hts : ∀ w ∈ wsX0_placeOf, w.before args s = true) (in_X0 : ∀ w ∈ u_ws RX0 TX0 3, w ∈ wsX0_placeOf) (g_17 : (Cond.fieldLink RX0 17 "DaysLent$Acts" "first" "I").before args s = true) (hP : va_P D vwCl (List.flatten [(w_Act cs o_act h_act laa I_act V_act)]) s.heap) (hK : va_K D vwCl (tyA cs) s) (hN : yN s) (hret : ∀ (v : Int32) (pc : Nat) (ls : Array Slot), some v = some out → decode cX0_placeOf pc = .ok (.ireturn, 1) → W p l e rm_Act_placeOf s m args below meth c s.heap [] 0 0 Q (F0 m pc ls [.int v])) : ∀ ls : Array Slot, lv_has ls 2 [(0, .ref o_act), (1, .int x1)] → W p l e rm_Act_placeOf s m args below meth c s.heap [] 0 0 Q (F0 m 0 ls []) := by
  intro ls hl
  unfold Act_placeOf at hf
  refine lv_aload_n hx hb dX0_placeOf_0 rfl (lv_at hl 0 rfl) ?_
  refine va_get (D := D) (ci := 0) (v := .int (I_act 1)) (C := RX0) (T := TX0) (N := 3) hx hb hts in_X0 hown hK hP 0 rfl rfl 1 (by decide) g_17 (fun _ h9 => h9) rfl dX0_placeOf_1 ?_
  refine lv_iload_n hx hb dX0_placeOf_4 rfl (lv_at hl 1 rfl) ?_
  refine lv_iadd hx hb dX0_placeOf_5 ?_
  refine lv_bipush (v := 10) hx hb dX0_placeOf_6 (by decide) ?_
  refine lv_irem hx hb dX0_placeOf_8 (by decide) ?_
  exact hret (((I_act 1) + x1) - ((I_act 1) + x1) / 10 * 10) 9 _ hf dX0_placeOf_9
set_option maxHeartbeats 4000000 in
set_option maxRecDepth 100000 in
theorem c_Act_placeOf (l : Launch) (D : va_G) (cs : Nat → ClassId) (o_act : Nat) (h_act : Nat → Nat) (laa : Nat → Nat) (I_act : FI) (V_act : FV) (x1 : Int32) (f : Nat) (out : Int32) (hf : Act_placeOf f x1 I_act V_act = some out) : Met l yX0_placeOf wsX0_placeOf rm_Act_placeOf (va_Pc [.ref o_act, .int x1] (yR D cs (List.flatten [(w_Act cs o_act h_act laa I_act V_act)]))) (vp_Si (fun r => r = out)) 0 0 (fun _ => False) := by
  refine Met.ofW (cc := cX0_placeOf) (maxL := 2) (ret := (some .int)) (by decide) rfl ?_
  intro p e s m args below meth c s₁ B hml hv
  obtain ⟨ha, hP, hK, hN⟩ := hv
  have hx := B.exec
  have hb := B.bytes
  have hr := B.returns
  have hts := atoms_spec (ws := wsX0_placeOf) B.pre
  have hown : s.vm.findClass RX0 = some m.cls := findClass_of_methodNamed B.named
  have hlocks := B.notSynchronized
  have in_X0 : ∀ w ∈ u_ws RX0 TX0 3, w ∈ wsX0_placeOf := fun w h => List.mem_cons_of_mem _ (List.mem_append_right _ h)
  have g_17 := hts (Cond.fieldLink RX0 17 "DaysLent$Acts" "first" "I") (by decide +kernel)
  have hl := lv_entry ([.ref o_act, .int x1]) (n := 2) (Nat.le_of_ble_eq_true rfl)
  rw [show entryFrame m args 2 = entryFrame m ([.ref o_act, .int x1] : List Value).toArray 2 from by rw [ha], lg_entry_eq]
  generalize (lg_sl ([.ref o_act, .int x1]) ++ List.replicate (2 - (lg_sl ([.ref o_act, .int x1])).length) Slot.unset).toArray = ls at hl ⊢
  generalize hQ : MQ below (vp_Si (fun r => r = out)) args s 0 0 (fun _ => False) = Q
  have hret : ∀ (v : Int32) (pc : Nat) (ls : Array Slot), some v = some out → decode cX0_placeOf pc = .ok (.ireturn, 1) → W p l e rm_Act_placeOf s m args below meth c s.heap [] 0 0 Q (F0 m pc ls [.int v]) := by
    intro v pc ls hf hd
    rw [← hQ]
    exact W.iret (v := v) hx hb hr (fun t ht hW => ⟨v, rfl, Option.some.inj hf, ht⟩) (fun q h => by cases h) hd
  exact v_Act_placeOf hf hx hb hml hown hts in_X0 g_17 hP hK hN hret ls hl
def Act_remember (f : Nat) (I_act : FI) (V_act : FV) (LaI : Nat → FI) (LaV : Nat → FV) (I_g : FI) (V_g : FV) : Option (FI × (Nat → FI) × (Nat → FV)) := (nm (fun (Iact_28 : FI) => ob1 (Act_placeOf f (Iact_28 2) Iact_28 V_act) (fun zr1 => if zr1 < 0 ∨ 10 ≤ zr1.toNatClampNeg then none else (ob2 (Led_copyFrom f (LaI zr1.toNatClampNeg) (LaV zr1.toNatClampNeg) I_g V_g) (fun I3 V4 => nm (va_up LaI zr1.toNatClampNeg I3) (fun I5 => nm (va_up LaV zr1.toNatClampNeg V4) (fun V6 => nm (va_up Iact_28 2 ((Iact_28 2) + 1)) (fun I7 => some (I7, I5, V6)))))))) (fun j28 => (if (I_act 2) = 10 then ob1 (Act_placeOf f 1 I_act V_act) (fun zr8 => nm (va_up I_act 1 zr8) (fun I9 => nm (va_up I9 2 ((I9 2) - 1)) (fun I10 => (j28 I10)))) else (j28 I_act))))
abbrev rm_Act_remember : Room := { frames := 2, cells := 0, slots := 0, locals := 48 }
set_option maxHeartbeats 4000000 in
set_option maxRecDepth 100000 in
theorem v_Act_remember {l : Launch} {p : Program} {e : Env} {s : State} {m : MethodId} {args : Array Value} {below : List Frame} {meth : Method} {c : Code} {Q : State → Prop} {D : va_G} {cs : Nat → ClassId} {o_act : Nat} {h_act : Nat → Nat} {laa : Nat → Nat} {lah : Nat → Nat → Nat} {o_g : Nat} {h_g : Nat → Nat} {A : Nat → Prop} {I_act : FI} {V_act : FV} {LaI : Nat → FI} {LaV : Nat → FV} {I_g : FI} {V_g : FV} {f : Nat} {out : FI × (Nat → FI) × (Nat → FV)} (hf : Act_remember f I_act V_act LaI LaV I_g V_g = some out) (hx : p.tables.exec = Jvm.exec) (hb : c.code = cX0_remember) (hml : c.maxLocals = 2) (hown : s.vm.findClass RX0 = some m.cls) (hts : ∀ w ∈ wsX0_remember, w.before args s = true) (in_X0 : ∀ w ∈ u_ws RX0 TX0 3, w ∈ wsX0_remember) (in_X3 : ∀ w ∈ u_ws RX3 TX3 11, w ∈ wsX0_remember) (g_21 : (Cond.fieldLink RX0 21 "DaysLent$Acts" "count" "I").before args s = true) (w_placeOf_25 : CallW rm_Act_remember s args RX0 RX0 25 yX0_placeOf cX0_placeOf 2 (some .int) wsX0_placeOf rm_Act_placeOf 0 0 1) (g_17 : (Cond.fieldLink RX0 17 "DaysLent$Acts" "first" "I").before args s = true) (g_11 : (Cond.fieldLink RX0 11 "DaysLent$Acts" "before" "[LDaysLent$Ledger;").before args s = true) (w_copyFrom_29 : CallW rm_Act_remember s args RX0 RX3 29 yX3_copyFrom cX3_copyFrom 2 none wsX3_copyFrom rm_Led_copyFrom 0 0 1) (hA : ∀ q : Nat, s.heap.size ≤ q → A q) (hP : va_P D vwCl (List.flatten [(w_Act cs o_act h_act laa I_act V_act), (w_Pool cs laa lah LaI LaV 10), (w_Led cs o_g h_g I_g V_g)]) s.heap) (hD : va_D A (List.flatten [(w_Act cs o_act h_act laa I_act V_act), (w_Pool cs laa lah LaI LaV 10), (w_Led cs o_g h_g I_g V_g)])) (hK : va_K D vwCl (tyA cs) s) (hN : yN s) (hret : ∀ (Iact9 : FI) (Ipa9 : Nat → FI) (Vpa9 : Nat → FV) (H : Heap) (locs : List Loc) (pc : Nat) (ls : Array Slot), some (Iact9, Ipa9, Vpa9) = some out → va_P D vwCl (List.flatten [(w_Act cs o_act h_act laa Iact9 V_act), (w_Pool cs laa lah Ipa9 Vpa9 10), (w_Led cs o_g h_g I_g V_g)]) H → va_D A (List.flatten [(w_Act cs o_act h_act laa Iact9 V_act), (w_Pool cs laa lah Ipa9 Vpa9 10), (w_Led cs o_g h_g I_g V_g)]) → va_S A s.heap H locs → decode cX0_remember pc = .ok (.return_, 1) → W p l e rm_Act_remember s m args below meth c H locs 0 0 Q (F0 m pc ls [])) : ∀ ls : Array Slot, lv_has ls 2 [(0, .ref o_act), (1, .ref o_g)] → W p l e rm_Act_remember s m args below meth c s.heap [] 0 0 Q (F0 m 0 ls []) := by
  intro ls hl
  have hS : va_S A s.heap s.heap [] := va_S.rf
  unfold Act_remember at hf
  refine lv_aload_n hx hb dX0_remember_0 rfl (lv_at hl 0 rfl) ?_
  refine va_get (D := D) (ci := 0) (v := .int (I_act 2)) (C := RX0) (T := TX0) (N := 3) hx hb hts in_X0 hown hK hP 0 rfl rfl 2 (by decide) g_21 (fun _ h9 => h9) rfl dX0_remember_1 ?_
  refine lv_bipush (v := 10) hx hb dX0_remember_4 (by decide) ?_
  obtain ⟨j28, ej28, hf⟩ := nme hf
  have J28 : ∀ (Iact_28 : FI), j28 Iact_28 = some out → ∀ (H : Heap) (locs : List Loc), va_P D vwCl (List.flatten [(w_Act cs o_act h_act laa Iact_28 V_act), (w_Pool cs laa lah LaI LaV 10), (w_Led cs o_g h_g I_g V_g)]) H → va_D A (List.flatten [(w_Act cs o_act h_act laa Iact_28 V_act), (w_Pool cs laa lah LaI LaV 10), (w_Led cs o_g h_g I_g V_g)]) → va_S A s.heap H locs → ∀ ls : Array Slot, lv_has ls 2 [(0, .ref o_act), (1, .ref o_g)] → W p l e rm_Act_remember s m args below meth c H locs 0 0 Q (F0 m 28 ls []) := by
    intro Iact_28 hf H locs hP hD hS ls hl
    rw [ej28] at hf
    refine lv_aload_n hx hb dX0_remember_28 rfl (lv_at hl 0 rfl) ?_
    refine va_get (D := D) (ci := 0) (v := .ref (h_act 0)) (C := RX0) (T := TX0) (N := 3) hx hb hts in_X0 hown hK hP 0 rfl rfl 0 (by decide) g_11 (fun _ h9 => h9) rfl dX0_remember_29 ?_
    refine lv_aload_n hx hb dX0_remember_32 rfl (lv_at hl 0 rfl) ?_
    refine lv_aload_n hx hb dX0_remember_33 rfl (lv_at hl 0 rfl) ?_
    refine va_get (D := D) (ci := 0) (v := .int (Iact_28 2)) (C := RX0) (T := TX0) (N := 3) hx hb hts in_X0 hown hK hP 0 rfl rfl 2 (by decide) g_21 (fun _ h9 => h9) rfl dX0_remember_34 ?_
    have hPc := subB (bs := [(w_Act cs o_act h_act laa Iact_28 V_act), (w_Pool cs laa lah LaI LaV 10), (w_Led cs o_g h_g I_g V_g)]) (ca := [(w_Act cs o_act h_act laa Iact_28 V_act)]) (ra := [(w_Pool cs laa lah LaI LaV 10), (w_Led cs o_g h_g I_g V_g)]) [0, 1, 2] (by decide) rfl rfl hP
    obtain ⟨zr1, qr1, hf⟩ := bd1 hf
    refine vp_callSi (va_Run.run (va_runV (As := [.int (Iact_28 2)]) (rest := [.ref (h_act 0)]) ⟨hx, hb, hml, hown, hts⟩ (c_Act_placeOf l D cs o_act h_act laa Iact_28 V_act (Iact_28 2) f zr1 qr1) w_placeOf_25 ⟨yR_moved, va_recv hK hPc (ci := 0) (q0 := 0) rfl rfl, fun U hU hW => ⟨rfl, by rw [hU]; exact hPc, va_K.moved hW.alike hK, yN_warm hW hN⟩⟩ rfl rfl hl.1 rfl (lv_room (Nat.le_of_ble_eq_true rfl)) dX0_remember_37 ⟨Nat.zero_le _, Nat.zero_le _⟩)) (fun r1 er1 => ?_)
    rw [er1]
    obtain ⟨c40, hf⟩ := gd hf
    refine va_aldq (f := fun i => if i < 10 then some (laa i) else none) hx hb hK hP 1 3 rfl rfl c40 dX0_remember_40 ?_
    refine W.eq (g2 := F0 m 41 ls [.ref (laa zr1.toNatClampNeg)]) (by show F0 m _ ls (va_rf (if zr1.toNatClampNeg < 10 then some (laa zr1.toNatClampNeg) else none) :: _) = _; rw [if_pos (Nat.not_le.mp (fun q => c40 (Or.inr q)))]; rfl) ?_
    refine lv_aload_n hx hb dX0_remember_41 rfl (lv_at hl 1 rfl) ?_
    have hlt : zr1.toNatClampNeg < 10 := Nat.not_le.mp (fun q => c40 (Or.inr q))
    have hpp := pool_out (A := [(w_Act cs o_act h_act laa Iact_28 V_act)]) (B := [(w_Led cs o_g h_g I_g V_g)]) (cs := cs) (la := laa) (lh := lah) (LI := LaI) (LV := LaV) (n := 10) (i := zr1.toNatClampNeg) hlt
    have hPp := pPerm hpp hP
    have hDp := dPerm hpp hD
    have hPc := subB (bs := [(w_Act cs o_act h_act laa Iact_28 V_act), (w_Led cs (laa zr1.toNatClampNeg) (lah zr1.toNatClampNeg) (LaI zr1.toNatClampNeg) (LaV zr1.toNatClampNeg)), (w_PoolX cs laa lah LaI LaV 10 zr1.toNatClampNeg), (w_Led cs o_g h_g I_g V_g)]) (ca := [(w_Led cs (laa zr1.toNatClampNeg) (lah zr1.toNatClampNeg) (LaI zr1.toNatClampNeg) (LaV zr1.toNatClampNeg)), (w_Led cs o_g h_g I_g V_g)]) (ra := [(w_Act cs o_act h_act laa Iact_28 V_act), (w_PoolX cs laa lah LaI LaV 10 zr1.toNatClampNeg)]) [1, 3, 0, 2] (by decide) rfl rfl hPp
    obtain ⟨I3, V4, qr2, hf⟩ := bd2 hf
    have hDc := subD (bs := [(w_Act cs o_act h_act laa Iact_28 V_act), (w_Led cs (laa zr1.toNatClampNeg) (lah zr1.toNatClampNeg) (LaI zr1.toNatClampNeg) (LaV zr1.toNatClampNeg)), (w_PoolX cs laa lah LaI LaV 10 zr1.toNatClampNeg), (w_Led cs o_g h_g I_g V_g)]) (ca := [(w_Led cs (laa zr1.toNatClampNeg) (lah zr1.toNatClampNeg) (LaI zr1.toNatClampNeg) (LaV zr1.toNatClampNeg)), (w_Led cs o_g h_g I_g V_g)]) (ra := [(w_Act cs o_act h_act laa Iact_28 V_act), (w_PoolX cs laa lah LaI LaV 10 zr1.toNatClampNeg)]) [1, 3, 0, 2] (by decide) rfl rfl hDp
    have hFc := xfree hDc hS hA
    refine va_callv (va_runV (As := [.ref o_g]) (rest := []) ⟨hx, hb, hml, hown, hts⟩ (c_Led_copyFrom l D cs (laa zr1.toNatClampNeg) (lah zr1.toNatClampNeg) o_g h_g _ (LaI zr1.toNatClampNeg) (LaV zr1.toNatClampNeg) I_g V_g f _ qr2) w_copyFrom_29 ⟨yP_moved, va_recv hK hPc (ci := 3) (q0 := 0) rfl rfl, fun U hU hW => ⟨rfl, by rw [hU], by rw [hU]; exact hPc, va_K.moved hW.alike hK, yN_warm hW hN, hDc.weaken (fun _ _ _ _ => trivial)⟩⟩ rfl rfl hl.1 rfl (lv_room (Nat.le_of_ble_eq_true rfl)) dX0_remember_42 ⟨Nat.zero_le _, Nat.zero_le _⟩) hS (fun q _ h9 => hFc q h9) hFc (fun u t H1 locs ht hvm hw hB hz1 hk1 hS => ?_)
    rw [hw] at hB
    obtain ⟨hP1, hK1, hD1⟩ := hB
    rw [ht] at hP1
    obtain ⟨hP, hD⟩ := joinB (bs := [(w_Act cs o_act h_act laa Iact_28 V_act), (w_Led cs (laa zr1.toNatClampNeg) (lah zr1.toNatClampNeg) (LaI zr1.toNatClampNeg) (LaV zr1.toNatClampNeg)), (w_PoolX cs laa lah LaI LaV 10 zr1.toNatClampNeg), (w_Led cs o_g h_g I_g V_g)]) (ca := [(w_Led cs (laa zr1.toNatClampNeg) (lah zr1.toNatClampNeg) (LaI zr1.toNatClampNeg) (LaV zr1.toNatClampNeg)), (w_Led cs o_g h_g I_g V_g)]) (ra := [(w_Act cs o_act h_act laa Iact_28 V_act), (w_PoolX cs laa lah LaI LaV 10 zr1.toNatClampNeg)]) [1, 3, 0, 2] (by decide) rfl rfl hPp hDp hk1 hFc (cb := [(w_Led cs (laa zr1.toNatClampNeg) (lah zr1.toNatClampNeg) I3 V4), (w_Led cs o_g h_g I_g V_g)]) hP1 hD1 (be := [(w_Act cs o_act h_act laa Iact_28 V_act), (w_Led cs (laa zr1.toNatClampNeg) (lah zr1.toNatClampNeg) I3 V4), (w_PoolX cs laa lah LaI LaV 10 zr1.toNatClampNeg), (w_Led cs o_g h_g I_g V_g)]) [2, 0, 3, 1] (by decide) rfl rfl
    obtain ⟨I5, eI5, hf⟩ := nme hf
    obtain ⟨V6, eV6, hf⟩ := nme hf
    have hpb := pool_in (A := [(w_Act cs o_act h_act laa Iact_28 V_act)]) (B := [(w_Led cs o_g h_g I_g V_g)]) (cs := cs) (la := laa) (lh := lah) (LI := LaI) (LV := LaV) (n := 10) (i := zr1.toNatClampNeg) (I := I3) (V := V4) hlt
    have hP : va_P D vwCl (List.flatten [(w_Act cs o_act h_act laa Iact_28 V_act), (w_Pool cs laa lah I5 V6 10), (w_Led cs o_g h_g I_g V_g)]) H1 := by rw [eI5, eV6]; exact pPerm hpb hP
    have hD : va_D A (List.flatten [(w_Act cs o_act h_act laa Iact_28 V_act), (w_Pool cs laa lah I5 V6 10), (w_Led cs o_g h_g I_g V_g)]) := by rw [eI5, eV6]; exact dPerm hpb hD
    refine lv_aload_n hx hb dX0_remember_45 rfl (lv_at hl 0 rfl) ?_
    refine lv_dup hx hb dX0_remember_46 rfl ?_
    refine va_get (D := D) (ci := 0) (v := .int (Iact_28 2)) (C := RX0) (T := TX0) (N := 3) hx hb hts in_X0 hown hK hP 0 rfl rfl 2 (by decide) g_21 (fun _ h9 => h9) rfl dX0_remember_47 ?_
    refine lv_iconst (v := 1) hx hb dX0_remember_50 (by decide) ?_
    refine lv_iadd hx hb dX0_remember_51 ?_
    refine va_put (D := D) (ci := 0) (v := .int ((Iact_28 2) + 1)) (ty := .int) (C := RX0) (T := TX0) (N := 3) hx hb hts in_X0 tyX0 tyX0_ok nmX0 hown hK hP hD hS 0 rfl rfl 2 (by decide) g_21 (fun _ h9 => h9) rfl (by decide +kernel) rfl rfl (Nat.le_of_ble_eq_true rfl) dX0_remember_52 (fun H locs hP hD hS => ?_)
    obtain ⟨I7, eI7, hf⟩ := nme hf
    have hP : va_P D vwCl (List.flatten [(w_Act cs o_act h_act laa I7 V_act), (w_Pool cs laa lah I5 V6 10), (w_Led cs o_g h_g I_g V_g)]) H := by rw [eI7]; exact hP
    have hD : va_D A (List.flatten [(w_Act cs o_act h_act laa I7 V_act), (w_Pool cs laa lah I5 V6 10), (w_Led cs o_g h_g I_g V_g)]) := by rw [eI7]; exact hD
    exact hret I7 I5 V6 _ _ 55 _ hf hP hD hS dX0_remember_55
  refine lv_icmp_ne (tgt := 28) hx hb dX0_remember_6 (by decide) (fun c6 => ?_) (fun c6 => ?_)
  · replace hf := im c6 hf
    exact J28 I_act hf _ _ hP hD hS _ (lv_sub hl [0, 1] rfl)
  · replace hf := ip c6 hf
    refine lv_aload_n hx hb dX0_remember_9 rfl (lv_at hl 0 rfl) ?_
    refine lv_aload_n hx hb dX0_remember_10 rfl (lv_at hl 0 rfl) ?_
    refine lv_iconst (v := 1) hx hb dX0_remember_11 (by decide) ?_
    have hPc := subB (bs := [(w_Act cs o_act h_act laa I_act V_act), (w_Pool cs laa lah LaI LaV 10), (w_Led cs o_g h_g I_g V_g)]) (ca := [(w_Act cs o_act h_act laa I_act V_act)]) (ra := [(w_Pool cs laa lah LaI LaV 10), (w_Led cs o_g h_g I_g V_g)]) [0, 1, 2] (by decide) rfl rfl hP
    obtain ⟨zr8, qr8, hf⟩ := bd1 hf
    refine vp_callSi (va_Run.run (va_runV (As := [.int 1]) (rest := [.ref o_act]) ⟨hx, hb, hml, hown, hts⟩ (c_Act_placeOf l D cs o_act h_act laa I_act V_act 1 f zr8 qr8) w_placeOf_25 ⟨yR_moved, va_recv hK hPc (ci := 0) (q0 := 0) rfl rfl, fun U hU hW => ⟨rfl, by rw [hU]; exact hPc, va_K.moved hW.alike hK, yN_warm hW hN⟩⟩ rfl rfl hl.1 rfl (lv_room (Nat.le_of_ble_eq_true rfl)) dX0_remember_12 ⟨Nat.zero_le _, Nat.zero_le _⟩)) (fun r8 er8 => ?_)
    rw [er8]
    refine va_put (D := D) (ci := 0) (v := .int zr8) (ty := .int) (C := RX0) (T := TX0) (N := 3) hx hb hts in_X0 tyX0 tyX0_ok nmX0 hown hK hP hD hS 0 rfl rfl 1 (by decide) g_17 (fun _ h9 => h9) rfl (by decide +kernel) rfl rfl (Nat.le_of_ble_eq_true rfl) dX0_remember_15 (fun H locs hP hD hS => ?_)
    obtain ⟨I9, eI9, hf⟩ := nme hf
    have hP : va_P D vwCl (List.flatten [(w_Act cs o_act h_act laa I9 V_act), (w_Pool cs laa lah LaI LaV 10), (w_Led cs o_g h_g I_g V_g)]) H := by rw [eI9]; exact hP
    have hD : va_D A (List.flatten [(w_Act cs o_act h_act laa I9 V_act), (w_Pool cs laa lah LaI LaV 10), (w_Led cs o_g h_g I_g V_g)]) := by rw [eI9]; exact hD
    refine lv_aload_n hx hb dX0_remember_18 rfl (lv_at hl 0 rfl) ?_
    refine lv_dup hx hb dX0_remember_19 rfl ?_
    refine va_get (D := D) (ci := 0) (v := .int (I9 2)) (C := RX0) (T := TX0) (N := 3) hx hb hts in_X0 hown hK hP 0 rfl rfl 2 (by decide) g_21 (fun _ h9 => h9) rfl dX0_remember_20 ?_
    refine lv_iconst (v := 1) hx hb dX0_remember_23 (by decide) ?_
    refine lv_isub hx hb dX0_remember_24 ?_
    refine va_put (D := D) (ci := 0) (v := .int ((I9 2) - 1)) (ty := .int) (C := RX0) (T := TX0) (N := 3) hx hb hts in_X0 tyX0 tyX0_ok nmX0 hown hK hP hD hS 0 rfl rfl 2 (by decide) g_21 (fun _ h9 => h9) rfl (by decide +kernel) rfl rfl (Nat.le_of_ble_eq_true rfl) dX0_remember_25 (fun H locs hP hD hS => ?_)
    obtain ⟨I10, eI10, hf⟩ := nme hf
    have hP : va_P D vwCl (List.flatten [(w_Act cs o_act h_act laa I10 V_act), (w_Pool cs laa lah LaI LaV 10), (w_Led cs o_g h_g I_g V_g)]) H := by rw [eI10]; exact hP
    have hD : va_D A (List.flatten [(w_Act cs o_act h_act laa I10 V_act), (w_Pool cs laa lah LaI LaV 10), (w_Led cs o_g h_g I_g V_g)]) := by rw [eI10]; exact hD
    exact J28 I10 hf _ _ hP hD hS _ (lv_sub hl [0, 1] rfl)
set_option maxHeartbeats 4000000 in
set_option maxRecDepth 100000 in
theorem c_Act_remember (l : Launch) (D : va_G) (cs : Nat → ClassId) (o_act : Nat) (h_act : Nat → Nat) (laa : Nat → Nat) (lah : Nat → Nat → Nat) (o_g : Nat) (h_g : Nat → Nat) (sz : Nat) (I_act : FI) (V_act : FV) (LaI : Nat → FI) (LaV : Nat → FV) (I_g : FI) (V_g : FV) (f : Nat) (out : FI × (Nat → FI) × (Nat → FV)) (hf : Act_remember f I_act V_act LaI LaV I_g V_g = some out) : Met l yX0_remember wsX0_remember rm_Act_remember (va_Pc [.ref o_act, .ref o_g] (yP D cs (List.flatten [(w_Act cs o_act h_act laa I_act V_act), (w_Pool cs laa lah LaI LaV 10), (w_Led cs o_g h_g I_g V_g)]) sz)) (va_Qv (fun u => u = out) (fun (u : FI × (Nat → FI) × (Nat → FV)) t => xA D cs (va_A (List.flatten [(w_Act cs o_act h_act laa I_act V_act), (w_Pool cs laa lah LaI LaV 10), (w_Led cs o_g h_g I_g V_g)]) sz) (List.flatten [(w_Act cs o_act h_act laa u.1 V_act), (w_Pool cs laa lah u.2.1 u.2.2 10), (w_Led cs o_g h_g I_g V_g)]) t) (va_A (List.flatten [(w_Act cs o_act h_act laa I_act V_act), (w_Pool cs laa lah LaI LaV 10), (w_Led cs o_g h_g I_g V_g)]) sz)) 0 0 (va_A (List.flatten [(w_Act cs o_act h_act laa I_act V_act), (w_Pool cs laa lah LaI LaV 10), (w_Led cs o_g h_g I_g V_g)]) sz) := by
  refine Met.ofW (cc := cX0_remember) (maxL := 2) (ret := none) (by decide) rfl ?_
  intro p e s m args below meth c s₁ B hml hv
  obtain ⟨ha, hsz, hP, hK, hN, hD0⟩ := hv
  have hx := B.exec
  have hb := B.bytes
  have hr := B.returns
  have hts := atoms_spec (ws := wsX0_remember) B.pre
  have hown : s.vm.findClass RX0 = some m.cls := findClass_of_methodNamed B.named
  have hlocks := B.notSynchronized
  have in_X0 : ∀ w ∈ u_ws RX0 TX0 3, w ∈ wsX0_remember := fun w h => List.mem_cons_of_mem _ (List.mem_append_left _ (List.mem_append_right _ h))
  have in_X3 : ∀ w ∈ u_ws RX3 TX3 11, w ∈ wsX0_remember := fun w h => List.mem_cons_of_mem _ (List.mem_append_right _ h)
  have g_21 := hts (Cond.fieldLink RX0 21 "DaysLent$Acts" "count" "I") (by decide +kernel)
  have w_placeOf_25 := cwV (R := rm_Act_remember) (s := s) (args := args) (rm := rm_Act_placeOf) (mc := 0) (ms := 0) 1 hts gX0_remember_X0_placeOf rfl rfl rfl (by decide +kernel) ⟨Nat.le_of_ble_eq_true rfl, Nat.le_of_ble_eq_true rfl⟩
  have g_17 := hts (Cond.fieldLink RX0 17 "DaysLent$Acts" "first" "I") (by decide +kernel)
  have g_11 := hts (Cond.fieldLink RX0 11 "DaysLent$Acts" "before" "[LDaysLent$Ledger;") (by decide +kernel)
  have w_copyFrom_29 := cwV (R := rm_Act_remember) (s := s) (args := args) (rm := rm_Led_copyFrom) (mc := 0) (ms := 0) 1 hts gX0_remember_X3_copyFrom rfl rfl rfl (by decide +kernel) ⟨Nat.le_of_ble_eq_true rfl, Nat.le_of_ble_eq_true rfl⟩
  subst hsz
  have hD := hD0.self (sz := s.heap.size)
  generalize hAe : va_A (List.flatten [(w_Act cs o_act h_act laa I_act V_act), (w_Pool cs laa lah LaI LaV 10), (w_Led cs o_g h_g I_g V_g)]) s.heap.size = A at hD ⊢
  have hA : ∀ q : Nat, s.heap.size ≤ q → A q := fun q h => by rw [← hAe]; exact Or.inr h
  have hl := lv_entry ([.ref o_act, .ref o_g]) (n := 2) (Nat.le_of_ble_eq_true rfl)
  rw [show entryFrame m args 2 = entryFrame m ([.ref o_act, .ref o_g] : List Value).toArray 2 from by rw [ha], lg_entry_eq]
  generalize (lg_sl ([.ref o_act, .ref o_g]) ++ List.replicate (2 - (lg_sl ([.ref o_act, .ref o_g])).length) Slot.unset).toArray = ls at hl ⊢
  generalize hQ : MQ below (va_Qv (fun u => u = out) (fun (u : FI × (Nat → FI) × (Nat → FV)) t => xA D cs A (List.flatten [(w_Act cs o_act h_act laa u.1 V_act), (w_Pool cs laa lah u.2.1 u.2.2 10), (w_Led cs o_g h_g I_g V_g)]) t) A) args s 0 0 A = Q
  have hret : ∀ (Iact9 : FI) (Ipa9 : Nat → FI) (Vpa9 : Nat → FV) (H : Heap) (locs : List Loc) (pc : Nat) (ls : Array Slot), some (Iact9, Ipa9, Vpa9) = some out → va_P D vwCl (List.flatten [(w_Act cs o_act h_act laa Iact9 V_act), (w_Pool cs laa lah Ipa9 Vpa9 10), (w_Led cs o_g h_g I_g V_g)]) H → va_D A (List.flatten [(w_Act cs o_act h_act laa Iact9 V_act), (w_Pool cs laa lah Ipa9 Vpa9 10), (w_Led cs o_g h_g I_g V_g)]) → va_S A s.heap H locs → decode cX0_remember pc = .ok (.return_, 1) → W p l e rm_Act_remember s m args below meth c H locs 0 0 Q (F0 m pc ls []) := by
    intro Iact9 Ipa9 Vpa9 H locs pc ls hf hP hD hS hd
    rw [← hQ]
    exact W.vret hx hb hr (fun t ht hW => ⟨⟨(Iact9, Ipa9, Vpa9), rfl, Option.some.inj hf, by show va_P D vwCl (List.flatten [(w_Act cs o_act h_act laa Iact9 V_act), (w_Pool cs laa lah Ipa9 Vpa9 10), (w_Led cs o_g h_g I_g V_g)]) t.heap; rw [ht]; exact hP, va_K.moved hW.alike hK, hD⟩, hS.F ht⟩) hS.2.2 hd
  exact v_Act_remember hf hx hb hml hown hts in_X0 in_X3 g_21 w_placeOf_25 g_17 g_11 w_copyFrom_29 hA hP hD hK hN hret ls hl
def Act_takeBack (f : Nat) (I_act : FI) (V_act : FV) (LaI : Nat → FI) (LaV : Nat → FV) (I_g : FI) (V_g : FV) : Option (FI × FI × FV) := nm (va_up I_act 2 ((I_act 2) - 1)) (fun I1 => ob1 (Act_placeOf f (I1 2) I1 V_act) (fun zr2 => if zr2 < 0 ∨ 10 ≤ zr2.toNatClampNeg then none else (ob2 (Led_copyFrom f I_g V_g (LaI zr2.toNatClampNeg) (LaV zr2.toNatClampNeg)) (fun I4 V5 => some (I1, I4, V5)))))
abbrev rm_Act_takeBack : Room := { frames := 2, cells := 0, slots := 0, locals := 48 }
set_option maxHeartbeats 4000000 in
set_option maxRecDepth 100000 in
theorem v_Act_takeBack {l : Launch} {p : Program} {e : Env} {s : State} {m : MethodId} {args : Array Value} {below : List Frame} {meth : Method} {c : Code} {Q : State → Prop} {D : va_G} {cs : Nat → ClassId} {o_act : Nat} {h_act : Nat → Nat} {laa : Nat → Nat} {lah : Nat → Nat → Nat} {o_g : Nat} {h_g : Nat → Nat} {A : Nat → Prop} {I_act : FI} {V_act : FV} {LaI : Nat → FI} {LaV : Nat → FV} {I_g : FI} {V_g : FV} {f : Nat} {out : FI × FI × FV} (hf : Act_takeBack f I_act V_act LaI LaV I_g V_g = some out) (hx : p.tables.exec = Jvm.exec) (hb : c.code = cX0_takeBack) (hml : c.maxLocals = 2) (hown : s.vm.findClass RX0 = some m.cls) (hts : ∀ w ∈ wsX0_takeBack, w.before args s = true) (in_X0 : ∀ w ∈ u_ws RX0 TX0 3, w ∈ wsX0_takeBack) (in_X3 : ∀ w ∈ u_ws RX3 TX3 11, w ∈ wsX0_takeBack) (g_21 : (Cond.fieldLink RX0 21 "DaysLent$Acts" "count" "I").before args s = true) (g_11 : (Cond.fieldLink RX0 11 "DaysLent$Acts" "before" "[LDaysLent$Ledger;").before args s = true) (w_placeOf_25 : CallW rm_Act_takeBack s args RX0 RX0 25 yX0_placeOf cX0_placeOf 2 (some .int) wsX0_placeOf rm_Act_placeOf 0 0 1) (w_copyFrom_29 : CallW rm_Act_takeBack s args RX0 RX3 29 yX3_copyFrom cX3_copyFrom 2 none wsX3_copyFrom rm_Led_copyFrom 0 0 1) (hA : ∀ q : Nat, s.heap.size ≤ q → A q) (hP : va_P D vwCl (List.flatten [(w_Act cs o_act h_act laa I_act V_act), (w_Pool cs laa lah LaI LaV 10), (w_Led cs o_g h_g I_g V_g)]) s.heap) (hD : va_D A (List.flatten [(w_Act cs o_act h_act laa I_act V_act), (w_Pool cs laa lah LaI LaV 10), (w_Led cs o_g h_g I_g V_g)])) (hK : va_K D vwCl (tyA cs) s) (hN : yN s) (hret : ∀ (Iact9 : FI) (Ig9 : FI) (Vg9 : FV) (H : Heap) (locs : List Loc) (pc : Nat) (ls : Array Slot), some (Iact9, Ig9, Vg9) = some out → va_P D vwCl (List.flatten [(w_Act cs o_act h_act laa Iact9 V_act), (w_Pool cs laa lah LaI LaV 10), (w_Led cs o_g h_g Ig9 Vg9)]) H → va_D A (List.flatten [(w_Act cs o_act h_act laa Iact9 V_act), (w_Pool cs laa lah LaI LaV 10), (w_Led cs o_g h_g Ig9 Vg9)]) → va_S A s.heap H locs → decode cX0_takeBack pc = .ok (.return_, 1) → W p l e rm_Act_takeBack s m args below meth c H locs 0 0 Q (F0 m pc ls [])) : ∀ ls : Array Slot, lv_has ls 2 [(0, .ref o_act), (1, .ref o_g)] → W p l e rm_Act_takeBack s m args below meth c s.heap [] 0 0 Q (F0 m 0 ls []) := by
  intro ls hl
  have hS : va_S A s.heap s.heap [] := va_S.rf
  unfold Act_takeBack at hf
  refine lv_aload_n hx hb dX0_takeBack_0 rfl (lv_at hl 0 rfl) ?_
  refine lv_dup hx hb dX0_takeBack_1 rfl ?_
  refine va_get (D := D) (ci := 0) (v := .int (I_act 2)) (C := RX0) (T := TX0) (N := 3) hx hb hts in_X0 hown hK hP 0 rfl rfl 2 (by decide) g_21 (fun _ h9 => h9) rfl dX0_takeBack_2 ?_
  refine lv_iconst (v := 1) hx hb dX0_takeBack_5 (by decide) ?_
  refine lv_isub hx hb dX0_takeBack_6 ?_
  refine va_put (D := D) (ci := 0) (v := .int ((I_act 2) - 1)) (ty := .int) (C := RX0) (T := TX0) (N := 3) hx hb hts in_X0 tyX0 tyX0_ok nmX0 hown hK hP hD hS 0 rfl rfl 2 (by decide) g_21 (fun _ h9 => h9) rfl (by decide +kernel) rfl rfl (Nat.le_of_ble_eq_true rfl) dX0_takeBack_7 (fun H locs hP hD hS => ?_)
  obtain ⟨I1, eI1, hf⟩ := nme hf
  have hP : va_P D vwCl (List.flatten [(w_Act cs o_act h_act laa I1 V_act), (w_Pool cs laa lah LaI LaV 10), (w_Led cs o_g h_g I_g V_g)]) H := by rw [eI1]; exact hP
  have hD : va_D A (List.flatten [(w_Act cs o_act h_act laa I1 V_act), (w_Pool cs laa lah LaI LaV 10), (w_Led cs o_g h_g I_g V_g)]) := by rw [eI1]; exact hD
  refine lv_aload_n hx hb dX0_takeBack_10 rfl (lv_at hl 1 rfl) ?_
  refine lv_aload_n hx hb dX0_takeBack_11 rfl (lv_at hl 0 rfl) ?_
  refine va_get (D := D) (ci := 0) (v := .ref (h_act 0)) (C := RX0) (T := TX0) (N := 3) hx hb hts in_X0 hown hK hP 0 rfl rfl 0 (by decide) g_11 (fun _ h9 => h9) rfl dX0_takeBack_12 ?_
  refine lv_aload_n hx hb dX0_takeBack_15 rfl (lv_at hl 0 rfl) ?_
  refine lv_aload_n hx hb dX0_takeBack_16 rfl (lv_at hl 0 rfl) ?_
  refine va_get (D := D) (ci := 0) (v := .int (I1 2)) (C := RX0) (T := TX0) (N := 3) hx hb hts in_X0 hown hK hP 0 rfl rfl 2 (by decide) g_21 (fun _ h9 => h9) rfl dX0_takeBack_17 ?_
  have hPc := subB (bs := [(w_Act cs o_act h_act laa I1 V_act), (w_Pool cs laa lah LaI LaV 10), (w_Led cs o_g h_g I_g V_g)]) (ca := [(w_Act cs o_act h_act laa I1 V_act)]) (ra := [(w_Pool cs laa lah LaI LaV 10), (w_Led cs o_g h_g I_g V_g)]) [0, 1, 2] (by decide) rfl rfl hP
  obtain ⟨zr2, qr2, hf⟩ := bd1 hf
  refine vp_callSi (va_Run.run (va_runV (As := [.int (I1 2)]) (rest := [.ref (h_act 0), .ref o_g]) ⟨hx, hb, hml, hown, hts⟩ (c_Act_placeOf l D cs o_act h_act laa I1 V_act (I1 2) f zr2 qr2) w_placeOf_25 ⟨yR_moved, va_recv hK hPc (ci := 0) (q0 := 0) rfl rfl, fun U hU hW => ⟨rfl, by rw [hU]; exact hPc, va_K.moved hW.alike hK, yN_warm hW hN⟩⟩ rfl rfl hl.1 rfl (lv_room (Nat.le_of_ble_eq_true rfl)) dX0_takeBack_20 ⟨Nat.zero_le _, Nat.zero_le _⟩)) (fun r2 er2 => ?_)
  rw [er2]
  obtain ⟨c23, hf⟩ := gd hf
  refine va_aldq (f := fun i => if i < 10 then some (laa i) else none) hx hb hK hP 1 3 rfl rfl c23 dX0_takeBack_23 ?_
  refine W.eq (g2 := F0 m 24 ls [.ref (laa zr2.toNatClampNeg), .ref o_g]) (by show F0 m _ ls (va_rf (if zr2.toNatClampNeg < 10 then some (laa zr2.toNatClampNeg) else none) :: _) = _; rw [if_pos (Nat.not_le.mp (fun q => c23 (Or.inr q)))]; rfl) ?_
  have hlt : zr2.toNatClampNeg < 10 := Nat.not_le.mp (fun q => c23 (Or.inr q))
  have hpp := pool_out (A := [(w_Act cs o_act h_act laa I1 V_act)]) (B := [(w_Led cs o_g h_g I_g V_g)]) (cs := cs) (la := laa) (lh := lah) (LI := LaI) (LV := LaV) (n := 10) (i := zr2.toNatClampNeg) hlt
  have hPp := pPerm hpp hP
  have hDp := dPerm hpp hD
  have hPc := subB (bs := [(w_Act cs o_act h_act laa I1 V_act), (w_Led cs (laa zr2.toNatClampNeg) (lah zr2.toNatClampNeg) (LaI zr2.toNatClampNeg) (LaV zr2.toNatClampNeg)), (w_PoolX cs laa lah LaI LaV 10 zr2.toNatClampNeg), (w_Led cs o_g h_g I_g V_g)]) (ca := [(w_Led cs o_g h_g I_g V_g), (w_Led cs (laa zr2.toNatClampNeg) (lah zr2.toNatClampNeg) (LaI zr2.toNatClampNeg) (LaV zr2.toNatClampNeg))]) (ra := [(w_Act cs o_act h_act laa I1 V_act), (w_PoolX cs laa lah LaI LaV 10 zr2.toNatClampNeg)]) [3, 1, 0, 2] (by decide) rfl rfl hPp
  obtain ⟨I4, V5, qr3, hf⟩ := bd2 hf
  have hDc := subD (bs := [(w_Act cs o_act h_act laa I1 V_act), (w_Led cs (laa zr2.toNatClampNeg) (lah zr2.toNatClampNeg) (LaI zr2.toNatClampNeg) (LaV zr2.toNatClampNeg)), (w_PoolX cs laa lah LaI LaV 10 zr2.toNatClampNeg), (w_Led cs o_g h_g I_g V_g)]) (ca := [(w_Led cs o_g h_g I_g V_g), (w_Led cs (laa zr2.toNatClampNeg) (lah zr2.toNatClampNeg) (LaI zr2.toNatClampNeg) (LaV zr2.toNatClampNeg))]) (ra := [(w_Act cs o_act h_act laa I1 V_act), (w_PoolX cs laa lah LaI LaV 10 zr2.toNatClampNeg)]) [3, 1, 0, 2] (by decide) rfl rfl hDp
  have hFc := xfree hDc hS hA
  refine va_callv (va_runV (As := [.ref (laa zr2.toNatClampNeg)]) (rest := []) ⟨hx, hb, hml, hown, hts⟩ (c_Led_copyFrom l D cs o_g h_g (laa zr2.toNatClampNeg) (lah zr2.toNatClampNeg) _ I_g V_g (LaI zr2.toNatClampNeg) (LaV zr2.toNatClampNeg) f _ qr3) w_copyFrom_29 ⟨yP_moved, va_recv hK hPc (ci := 3) (q0 := 0) rfl rfl, fun U hU hW => ⟨rfl, by rw [hU], by rw [hU]; exact hPc, va_K.moved hW.alike hK, yN_warm hW hN, hDc.weaken (fun _ _ _ _ => trivial)⟩⟩ rfl rfl hl.1 rfl (lv_room (Nat.le_of_ble_eq_true rfl)) dX0_takeBack_24 ⟨Nat.zero_le _, Nat.zero_le _⟩) hS (fun q _ h9 => hFc q h9) hFc (fun u t H1 locs ht hvm hw hB hz1 hk1 hS => ?_)
  rw [hw] at hB
  obtain ⟨hP1, hK1, hD1⟩ := hB
  rw [ht] at hP1
  obtain ⟨hP, hD⟩ := joinB (bs := [(w_Act cs o_act h_act laa I1 V_act), (w_Led cs (laa zr2.toNatClampNeg) (lah zr2.toNatClampNeg) (LaI zr2.toNatClampNeg) (LaV zr2.toNatClampNeg)), (w_PoolX cs laa lah LaI LaV 10 zr2.toNatClampNeg), (w_Led cs o_g h_g I_g V_g)]) (ca := [(w_Led cs o_g h_g I_g V_g), (w_Led cs (laa zr2.toNatClampNeg) (lah zr2.toNatClampNeg) (LaI zr2.toNatClampNeg) (LaV zr2.toNatClampNeg))]) (ra := [(w_Act cs o_act h_act laa I1 V_act), (w_PoolX cs laa lah LaI LaV 10 zr2.toNatClampNeg)]) [3, 1, 0, 2] (by decide) rfl rfl hPp hDp hk1 hFc (cb := [(w_Led cs o_g h_g I4 V5), (w_Led cs (laa zr2.toNatClampNeg) (lah zr2.toNatClampNeg) (LaI zr2.toNatClampNeg) (LaV zr2.toNatClampNeg))]) hP1 hD1 (be := [(w_Act cs o_act h_act laa I1 V_act), (w_Led cs (laa zr2.toNatClampNeg) (lah zr2.toNatClampNeg) (LaI zr2.toNatClampNeg) (LaV zr2.toNatClampNeg)), (w_PoolX cs laa lah LaI LaV 10 zr2.toNatClampNeg), (w_Led cs o_g h_g I4 V5)]) [2, 1, 3, 0] (by decide) rfl rfl
  have hpb := (pool_out (A := [(w_Act cs o_act h_act laa I1 V_act)]) (B := [(w_Led cs o_g h_g I4 V5)]) (cs := cs) (la := laa) (lh := lah) (LI := LaI) (LV := LaV) (n := 10) (i := zr2.toNatClampNeg) hlt).symm
  have hP : va_P D vwCl (List.flatten [(w_Act cs o_act h_act laa I1 V_act), (w_Pool cs laa lah LaI LaV 10), (w_Led cs o_g h_g I4 V5)]) H1 := pPerm hpb hP
  have hD : va_D A (List.flatten [(w_Act cs o_act h_act laa I1 V_act), (w_Pool cs laa lah LaI LaV 10), (w_Led cs o_g h_g I4 V5)]) := dPerm hpb hD
  exact hret I1 I4 V5 _ _ 27 _ hf hP hD hS dX0_takeBack_27
set_option maxHeartbeats 4000000 in
set_option maxRecDepth 100000 in
theorem c_Act_takeBack (l : Launch) (D : va_G) (cs : Nat → ClassId) (o_act : Nat) (h_act : Nat → Nat) (laa : Nat → Nat) (lah : Nat → Nat → Nat) (o_g : Nat) (h_g : Nat → Nat) (sz : Nat) (I_act : FI) (V_act : FV) (LaI : Nat → FI) (LaV : Nat → FV) (I_g : FI) (V_g : FV) (f : Nat) (out : FI × FI × FV) (hf : Act_takeBack f I_act V_act LaI LaV I_g V_g = some out) : Met l yX0_takeBack wsX0_takeBack rm_Act_takeBack (va_Pc [.ref o_act, .ref o_g] (yP D cs (List.flatten [(w_Act cs o_act h_act laa I_act V_act), (w_Pool cs laa lah LaI LaV 10), (w_Led cs o_g h_g I_g V_g)]) sz)) (va_Qv (fun u => u = out) (fun (u : FI × FI × FV) t => xA D cs (va_A (List.flatten [(w_Act cs o_act h_act laa I_act V_act), (w_Pool cs laa lah LaI LaV 10), (w_Led cs o_g h_g I_g V_g)]) sz) (List.flatten [(w_Act cs o_act h_act laa u.1 V_act), (w_Pool cs laa lah LaI LaV 10), (w_Led cs o_g h_g u.2.1 u.2.2)]) t) (va_A (List.flatten [(w_Act cs o_act h_act laa I_act V_act), (w_Pool cs laa lah LaI LaV 10), (w_Led cs o_g h_g I_g V_g)]) sz)) 0 0 (va_A (List.flatten [(w_Act cs o_act h_act laa I_act V_act), (w_Pool cs laa lah LaI LaV 10), (w_Led cs o_g h_g I_g V_g)]) sz) := by
  refine Met.ofW (cc := cX0_takeBack) (maxL := 2) (ret := none) (by decide) rfl ?_
  intro p e s m args below meth c s₁ B hml hv
  obtain ⟨ha, hsz, hP, hK, hN, hD0⟩ := hv
  have hx := B.exec
  have hb := B.bytes
  have hr := B.returns
  have hts := atoms_spec (ws := wsX0_takeBack) B.pre
  have hown : s.vm.findClass RX0 = some m.cls := findClass_of_methodNamed B.named
  have hlocks := B.notSynchronized
  have in_X0 : ∀ w ∈ u_ws RX0 TX0 3, w ∈ wsX0_takeBack := fun w h => List.mem_cons_of_mem _ (List.mem_append_left _ (List.mem_append_right _ h))
  have in_X3 : ∀ w ∈ u_ws RX3 TX3 11, w ∈ wsX0_takeBack := fun w h => List.mem_cons_of_mem _ (List.mem_append_right _ h)
  have g_21 := hts (Cond.fieldLink RX0 21 "DaysLent$Acts" "count" "I") (by decide +kernel)
  have g_11 := hts (Cond.fieldLink RX0 11 "DaysLent$Acts" "before" "[LDaysLent$Ledger;") (by decide +kernel)
  have w_placeOf_25 := cwV (R := rm_Act_takeBack) (s := s) (args := args) (rm := rm_Act_placeOf) (mc := 0) (ms := 0) 1 hts gX0_takeBack_X0_placeOf rfl rfl rfl (by decide +kernel) ⟨Nat.le_of_ble_eq_true rfl, Nat.le_of_ble_eq_true rfl⟩
  have w_copyFrom_29 := cwV (R := rm_Act_takeBack) (s := s) (args := args) (rm := rm_Led_copyFrom) (mc := 0) (ms := 0) 1 hts gX0_takeBack_X3_copyFrom rfl rfl rfl (by decide +kernel) ⟨Nat.le_of_ble_eq_true rfl, Nat.le_of_ble_eq_true rfl⟩
  subst hsz
  have hD := hD0.self (sz := s.heap.size)
  generalize hAe : va_A (List.flatten [(w_Act cs o_act h_act laa I_act V_act), (w_Pool cs laa lah LaI LaV 10), (w_Led cs o_g h_g I_g V_g)]) s.heap.size = A at hD ⊢
  have hA : ∀ q : Nat, s.heap.size ≤ q → A q := fun q h => by rw [← hAe]; exact Or.inr h
  have hl := lv_entry ([.ref o_act, .ref o_g]) (n := 2) (Nat.le_of_ble_eq_true rfl)
  rw [show entryFrame m args 2 = entryFrame m ([.ref o_act, .ref o_g] : List Value).toArray 2 from by rw [ha], lg_entry_eq]
  generalize (lg_sl ([.ref o_act, .ref o_g]) ++ List.replicate (2 - (lg_sl ([.ref o_act, .ref o_g])).length) Slot.unset).toArray = ls at hl ⊢
  generalize hQ : MQ below (va_Qv (fun u => u = out) (fun (u : FI × FI × FV) t => xA D cs A (List.flatten [(w_Act cs o_act h_act laa u.1 V_act), (w_Pool cs laa lah LaI LaV 10), (w_Led cs o_g h_g u.2.1 u.2.2)]) t) A) args s 0 0 A = Q
  have hret : ∀ (Iact9 : FI) (Ig9 : FI) (Vg9 : FV) (H : Heap) (locs : List Loc) (pc : Nat) (ls : Array Slot), some (Iact9, Ig9, Vg9) = some out → va_P D vwCl (List.flatten [(w_Act cs o_act h_act laa Iact9 V_act), (w_Pool cs laa lah LaI LaV 10), (w_Led cs o_g h_g Ig9 Vg9)]) H → va_D A (List.flatten [(w_Act cs o_act h_act laa Iact9 V_act), (w_Pool cs laa lah LaI LaV 10), (w_Led cs o_g h_g Ig9 Vg9)]) → va_S A s.heap H locs → decode cX0_takeBack pc = .ok (.return_, 1) → W p l e rm_Act_takeBack s m args below meth c H locs 0 0 Q (F0 m pc ls []) := by
    intro Iact9 Ig9 Vg9 H locs pc ls hf hP hD hS hd
    rw [← hQ]
    exact W.vret hx hb hr (fun t ht hW => ⟨⟨(Iact9, Ig9, Vg9), rfl, Option.some.inj hf, by show va_P D vwCl (List.flatten [(w_Act cs o_act h_act laa Iact9 V_act), (w_Pool cs laa lah LaI LaV 10), (w_Led cs o_g h_g Ig9 Vg9)]) t.heap; rw [ht]; exact hP, va_K.moved hW.alike hK, hD⟩, hS.F ht⟩) hS.2.2 hd
  exact v_Act_takeBack hf hx hb hml hown hts in_X0 in_X3 g_21 g_11 w_placeOf_25 w_copyFrom_29 hA hP hD hK hN hret ls hl
def Slt_clear_L2 {ρ : Type} (f : Nat) (k_2 : FV → Option ρ) : Nat → Int32 → FV → Option ρ
  | 0, _, _ => none
  | n_2 + 1, x1_2, Vslt_2 => (if 2 ≤ x1_2 then (k_2 Vslt_2) else if x1_2 < 0 ∨ 2 ≤ x1_2.toNatClampNeg then none else (nm (va_up Vslt_2 1 (upd (Vslt_2 1) x1_2.toNatClampNeg (vp_nar .boolean 0))) (fun V1 => (Slt_clear_L2 f k_2 n_2 (x1_2 + 1) V1))))
def Slt_clear (f : Nat) (I_slt : FI) (V_slt : FV) : Option (FV) := (Slt_clear_L2 f (fun (Vslt_2 : FV) => some Vslt_2) f 0 V_slt)
abbrev rm_Slt_clear : Room := { frames := 0, cells := 0, slots := 0, locals := 0 }
set_option maxHeartbeats 4000000 in
set_option maxRecDepth 100000 in
theorem v_Slt_clear {l : Launch} {p : Program} {e : Env} {s : State} {m : MethodId} {args : Array Value} {below : List Frame} {meth : Method} {c : Code} {Q : State → Prop} {D : va_G} {cs : Nat → ClassId} {o_slt : Nat} {h_slt : Nat → Nat} {lsa : Nat → Nat} {A : Nat → Prop} {I_slt : FI} {V_slt : FV} {f : Nat} {out : FV} (hf : Slt_clear f I_slt V_slt = some out) (hx : p.tables.exec = Jvm.exec) (hb : c.code = cX7_clear) (hml : c.maxLocals = 2) (hown : s.vm.findClass RX7 = some m.cls) (hts : ∀ w ∈ wsX7_clear, w.before args s = true) (in_X7 : ∀ w ∈ u_ws RX7 TX7 2, w ∈ wsX7_clear) (g_17 : (Cond.fieldLink RX7 17 "DaysLent$Slots" "used" "[Z").before args s = true) (hA : ∀ q : Nat, s.heap.size ≤ q → A q) (hP : va_P D vwCl (List.flatten [(w_Slt cs o_slt h_slt lsa I_slt V_slt)]) s.heap) (hD : va_D A (List.flatten [(w_Slt cs o_slt h_slt lsa I_slt V_slt)])) (hK : va_K D vwCl (tyA cs) s) (hN : yN s) (hret : ∀ (Vslt9 : FV) (H : Heap) (locs : List Loc) (pc : Nat) (ls : Array Slot), some Vslt9 = some out → va_P D vwCl (List.flatten [(w_Slt cs o_slt h_slt lsa I_slt Vslt9)]) H → va_D A (List.flatten [(w_Slt cs o_slt h_slt lsa I_slt Vslt9)]) → va_S A s.heap H locs → decode cX7_clear pc = .ok (.return_, 1) → W p l e rm_Slt_clear s m args below meth c H locs 0 0 Q (F0 m pc ls [])) : ∀ ls : Array Slot, lv_has ls 2 [(0, .ref o_slt)] → W p l e rm_Slt_clear s m args below meth c s.heap [] 0 0 Q (F0 m 0 ls []) := by
  intro ls hl
  have hS : va_S A s.heap s.heap [] := va_S.rf
  unfold Slt_clear at hf
  refine lv_iconst (v := 0) hx hb dX7_clear_0 (by decide) ?_
  refine lv_istore_n (lv' := [(1, .int 0), (0, .ref o_slt)]) hx hb dX7_clear_1 rfl hl (by decide) rfl (fun ls hl => ?_)
  have L2 : ∀ (k_2 : FV → Option (FV)) (hk_2 : ∀ (Vslt_2 : FV), k_2 Vslt_2 = some out → ∀ (H : Heap) (locs : List Loc), va_P D vwCl (List.flatten [(w_Slt cs o_slt h_slt lsa I_slt Vslt_2)]) H → va_D A (List.flatten [(w_Slt cs o_slt h_slt lsa I_slt Vslt_2)]) → va_S A s.heap H locs → ∀ ls : Array Slot, lv_has ls 2 [] → W p l e rm_Slt_clear s m args below meth c H locs 0 0 Q (F0 m 20 ls [])), ∀ (n_2 : Nat) (x1_2 : Int32) (Vslt_2 : FV), Slt_clear_L2 f k_2 n_2 x1_2 Vslt_2 = some out → ∀ (H : Heap) (locs : List Loc), va_P D vwCl (List.flatten [(w_Slt cs o_slt h_slt lsa I_slt Vslt_2)]) H → va_D A (List.flatten [(w_Slt cs o_slt h_slt lsa I_slt Vslt_2)]) → va_S A s.heap H locs → ∀ ls : Array Slot, lv_has ls 2 [(0, .ref o_slt), (1, .int x1_2)] → W p l e rm_Slt_clear s m args below meth c H locs 0 0 Q (F0 m 2 ls []) := by
    intro k_2 hk_2 n_2
    induction n_2 with
    | zero => intro x1_2 Vslt_2 hf; rw [Slt_clear_L2] at hf; cases hf
    | succ n_2 ih_2 =>
      intro x1_2 Vslt_2 hf H locs hP hD hS ls hl
      rw [Slt_clear_L2] at hf
      refine lv_iload_n hx hb dX7_clear_2 rfl (lv_at hl 1 rfl) ?_
      refine lv_iconst (v := 2) hx hb dX7_clear_3 (by decide) ?_
      refine lv_icmp_ge (tgt := 20) hx hb dX7_clear_4 (by decide) (fun c4 => ?_) (fun c4 => ?_)
      · replace hf := ip c4 hf
        exact hk_2 Vslt_2 hf _ _ hP hD hS _ (lv_sub hl [] rfl)
      · replace hf := im c4 hf
        refine lv_aload_n hx hb dX7_clear_7 rfl (lv_at hl 0 rfl) ?_
        refine va_get (D := D) (ci := 7) (v := .ref (h_slt 1)) (C := RX7) (T := TX7) (N := 2) hx hb hts in_X7 hown hK hP 0 rfl rfl 1 (by decide) g_17 (fun _ h9 => h9) rfl dX7_clear_8 ?_
        refine lv_iload_n hx hb dX7_clear_11 rfl (lv_at hl 1 rfl) ?_
        refine lv_iconst (v := 0) hx hb dX7_clear_12 (by decide) ?_
        obtain ⟨c13, hf⟩ := gd hf
        refine va_zast (f := (Vslt_2 1)) hx hb hK hP hD hS 2 1 rfl rfl c13 dX7_clear_13 (fun H locs hP hD hS => ?_)
        obtain ⟨V1, eV1, hf⟩ := nme hf
        have hP : va_P D vwCl (List.flatten [(w_Slt cs o_slt h_slt lsa I_slt V1)]) H := by rw [eV1]; exact hP
        have hD : va_D A (List.flatten [(w_Slt cs o_slt h_slt lsa I_slt V1)]) := by rw [eV1]; exact hD
        refine lv_iinc (v := (x1_2 + 1)) (lv' := [(1, .int (x1_2 + 1)), (0, .ref o_slt)]) hx hb dX7_clear_14 hl (k := 1) rfl (by rfl) (by decide) rfl (fun ls hl => ?_)
        refine lv_goto (tgt := 2) hx hb dX7_clear_17 (by decide) ?_
        exact ih_2 (x1_2 + 1) V1 hf _ _ hP hD hS _ (lv_sub hl [1, 0] rfl)
  refine L2 _ (fun Vslt_2 hf H locs hP hD hS ls hl => ?_) f 0 V_slt hf _ _ hP hD hS _ (lv_sub hl [1, 0] rfl)
  exact hret Vslt_2 _ _ 20 _ hf hP hD hS dX7_clear_20
set_option maxHeartbeats 4000000 in
set_option maxRecDepth 100000 in
theorem c_Slt_clear (l : Launch) (D : va_G) (cs : Nat → ClassId) (o_slt : Nat) (h_slt : Nat → Nat) (lsa : Nat → Nat) (sz : Nat) (I_slt : FI) (V_slt : FV) (f : Nat) (out : FV) (hf : Slt_clear f I_slt V_slt = some out) : Met l yX7_clear wsX7_clear rm_Slt_clear (va_Pc [.ref o_slt] (yP D cs (List.flatten [(w_Slt cs o_slt h_slt lsa I_slt V_slt)]) sz)) (va_Qv (fun u => u = out) (fun (u : FV) t => xA D cs (va_A (List.flatten [(w_Slt cs o_slt h_slt lsa I_slt V_slt)]) sz) (List.flatten [(w_Slt cs o_slt h_slt lsa I_slt u)]) t) (va_A (List.flatten [(w_Slt cs o_slt h_slt lsa I_slt V_slt)]) sz)) 0 0 (va_A (List.flatten [(w_Slt cs o_slt h_slt lsa I_slt V_slt)]) sz) := by
  refine Met.ofW (cc := cX7_clear) (maxL := 2) (ret := none) (by decide) rfl ?_
  intro p e s m args below meth c s₁ B hml hv
  obtain ⟨ha, hsz, hP, hK, hN, hD0⟩ := hv
  have hx := B.exec
  have hb := B.bytes
  have hr := B.returns
  have hts := atoms_spec (ws := wsX7_clear) B.pre
  have hown : s.vm.findClass RX7 = some m.cls := findClass_of_methodNamed B.named
  have hlocks := B.notSynchronized
  have in_X7 : ∀ w ∈ u_ws RX7 TX7 2, w ∈ wsX7_clear := fun w h => List.mem_cons_of_mem _ (List.mem_append_right _ h)
  have g_17 := hts (Cond.fieldLink RX7 17 "DaysLent$Slots" "used" "[Z") (by decide +kernel)
  subst hsz
  have hD := hD0.self (sz := s.heap.size)
  generalize hAe : va_A (List.flatten [(w_Slt cs o_slt h_slt lsa I_slt V_slt)]) s.heap.size = A at hD ⊢
  have hA : ∀ q : Nat, s.heap.size ≤ q → A q := fun q h => by rw [← hAe]; exact Or.inr h
  have hl := lv_entry ([.ref o_slt]) (n := 2) (Nat.le_of_ble_eq_true rfl)
  rw [show entryFrame m args 2 = entryFrame m ([.ref o_slt] : List Value).toArray 2 from by rw [ha], lg_entry_eq]
  generalize (lg_sl ([.ref o_slt]) ++ List.replicate (2 - (lg_sl ([.ref o_slt])).length) Slot.unset).toArray = ls at hl ⊢
  generalize hQ : MQ below (va_Qv (fun u => u = out) (fun (u : FV) t => xA D cs A (List.flatten [(w_Slt cs o_slt h_slt lsa I_slt u)]) t) A) args s 0 0 A = Q
  have hret : ∀ (Vslt9 : FV) (H : Heap) (locs : List Loc) (pc : Nat) (ls : Array Slot), some Vslt9 = some out → va_P D vwCl (List.flatten [(w_Slt cs o_slt h_slt lsa I_slt Vslt9)]) H → va_D A (List.flatten [(w_Slt cs o_slt h_slt lsa I_slt Vslt9)]) → va_S A s.heap H locs → decode cX7_clear pc = .ok (.return_, 1) → W p l e rm_Slt_clear s m args below meth c H locs 0 0 Q (F0 m pc ls []) := by
    intro Vslt9 H locs pc ls hf hP hD hS hd
    rw [← hQ]
    exact W.vret hx hb hr (fun t ht hW => ⟨⟨Vslt9, rfl, Option.some.inj hf, by show va_P D vwCl (List.flatten [(w_Slt cs o_slt h_slt lsa I_slt Vslt9)]) t.heap; rw [ht]; exact hP, va_K.moved hW.alike hK, hD⟩, hS.F ht⟩) hS.2.2 hd
  exact v_Slt_clear hf hx hb hml hown hts in_X7 g_17 hA hP hD hK hN hret ls hl
def Slt_put (f : Nat) (x1 : Int32) (I_slt : FI) (V_slt : FV) (LsI : Nat → FI) (LsV : Nat → FV) (I_g : FI) (V_g : FV) : Option (FV × (Nat → FI) × (Nat → FV)) := if x1 < 0 ∨ 2 ≤ x1.toNatClampNeg then none else (ob2 (Led_copyFrom f (LsI x1.toNatClampNeg) (LsV x1.toNatClampNeg) I_g V_g) (fun I2 V3 => nm (va_up LsI x1.toNatClampNeg I2) (fun I4 => nm (va_up LsV x1.toNatClampNeg V3) (fun V5 => if x1 < 0 ∨ 2 ≤ x1.toNatClampNeg then none else (nm (va_up V_slt 1 (upd (V_slt 1) x1.toNatClampNeg (vp_nar .boolean 1))) (fun V6 => some (V6, I4, V5)))))))
abbrev rm_Slt_put : Room := { frames := 2, cells := 0, slots := 0, locals := 48 }
set_option maxHeartbeats 4000000 in
set_option maxRecDepth 100000 in
theorem v_Slt_put {l : Launch} {p : Program} {e : Env} {s : State} {m : MethodId} {args : Array Value} {below : List Frame} {meth : Method} {c : Code} {Q : State → Prop} {D : va_G} {cs : Nat → ClassId} {o_slt : Nat} {h_slt : Nat → Nat} {lsa : Nat → Nat} {lsh : Nat → Nat → Nat} {o_g : Nat} {h_g : Nat → Nat} {A : Nat → Prop} {I_slt : FI} {V_slt : FV} {LsI : Nat → FI} {LsV : Nat → FV} {I_g : FI} {V_g : FV} {x1 : Int32} {f : Nat} {out : FV × (Nat → FI) × (Nat → FV)} (hf : Slt_put f x1 I_slt V_slt LsI LsV I_g V_g = some out) (hx : p.tables.exec = Jvm.exec) (hb : c.code = cX7_put) (hml : c.maxLocals = 3) (hown : s.vm.findClass RX7 = some m.cls) (hts : ∀ w ∈ wsX7_put, w.before args s = true) (in_X7 : ∀ w ∈ u_ws RX7 TX7 2, w ∈ wsX7_put) (in_X3 : ∀ w ∈ u_ws RX3 TX3 11, w ∈ wsX7_put) (g_11 : (Cond.fieldLink RX7 11 "DaysLent$Slots" "kept" "[LDaysLent$Ledger;").before args s = true) (w_copyFrom_22 : CallW rm_Slt_put s args RX7 RX3 22 yX3_copyFrom cX3_copyFrom 2 none wsX3_copyFrom rm_Led_copyFrom 0 0 1) (g_17 : (Cond.fieldLink RX7 17 "DaysLent$Slots" "used" "[Z").before args s = true) (hA : ∀ q : Nat, s.heap.size ≤ q → A q) (hP : va_P D vwCl (List.flatten [(w_Slt cs o_slt h_slt lsa I_slt V_slt), (w_Pool cs lsa lsh LsI LsV 2), (w_Led cs o_g h_g I_g V_g)]) s.heap) (hD : va_D A (List.flatten [(w_Slt cs o_slt h_slt lsa I_slt V_slt), (w_Pool cs lsa lsh LsI LsV 2), (w_Led cs o_g h_g I_g V_g)])) (hK : va_K D vwCl (tyA cs) s) (hN : yN s) (hret : ∀ (Vslt9 : FV) (Ips9 : Nat → FI) (Vps9 : Nat → FV) (H : Heap) (locs : List Loc) (pc : Nat) (ls : Array Slot), some (Vslt9, Ips9, Vps9) = some out → va_P D vwCl (List.flatten [(w_Slt cs o_slt h_slt lsa I_slt Vslt9), (w_Pool cs lsa lsh Ips9 Vps9 2), (w_Led cs o_g h_g I_g V_g)]) H → va_D A (List.flatten [(w_Slt cs o_slt h_slt lsa I_slt Vslt9), (w_Pool cs lsa lsh Ips9 Vps9 2), (w_Led cs o_g h_g I_g V_g)]) → va_S A s.heap H locs → decode cX7_put pc = .ok (.return_, 1) → W p l e rm_Slt_put s m args below meth c H locs 0 0 Q (F0 m pc ls [])) : ∀ ls : Array Slot, lv_has ls 3 [(0, .ref o_slt), (1, .int x1), (2, .ref o_g)] → W p l e rm_Slt_put s m args below meth c s.heap [] 0 0 Q (F0 m 0 ls []) := by
  intro ls hl
  have hS : va_S A s.heap s.heap [] := va_S.rf
  unfold Slt_put at hf
  refine lv_aload_n hx hb dX7_put_0 rfl (lv_at hl 0 rfl) ?_
  refine va_get (D := D) (ci := 7) (v := .ref (h_slt 0)) (C := RX7) (T := TX7) (N := 2) hx hb hts in_X7 hown hK hP 0 rfl rfl 0 (by decide) g_11 (fun _ h9 => h9) rfl dX7_put_1 ?_
  refine lv_iload_n hx hb dX7_put_4 rfl (lv_at hl 1 rfl) ?_
  obtain ⟨c5, hf⟩ := gd hf
  refine va_aldq (f := fun i => if i < 2 then some (lsa i) else none) hx hb hK hP 1 3 rfl rfl c5 dX7_put_5 ?_
  refine W.eq (g2 := F0 m 6 ls [.ref (lsa x1.toNatClampNeg)]) (by show F0 m _ ls (va_rf (if x1.toNatClampNeg < 2 then some (lsa x1.toNatClampNeg) else none) :: _) = _; rw [if_pos (Nat.not_le.mp (fun q => c5 (Or.inr q)))]; rfl) ?_
  refine lv_aload_n hx hb dX7_put_6 rfl (lv_at hl 2 rfl) ?_
  have hlt : x1.toNatClampNeg < 2 := Nat.not_le.mp (fun q => c5 (Or.inr q))
  have hpp := pool_out (A := [(w_Slt cs o_slt h_slt lsa I_slt V_slt)]) (B := [(w_Led cs o_g h_g I_g V_g)]) (cs := cs) (la := lsa) (lh := lsh) (LI := LsI) (LV := LsV) (n := 2) (i := x1.toNatClampNeg) hlt
  have hPp := pPerm hpp hP
  have hDp := dPerm hpp hD
  have hPc := subB (bs := [(w_Slt cs o_slt h_slt lsa I_slt V_slt), (w_Led cs (lsa x1.toNatClampNeg) (lsh x1.toNatClampNeg) (LsI x1.toNatClampNeg) (LsV x1.toNatClampNeg)), (w_PoolX cs lsa lsh LsI LsV 2 x1.toNatClampNeg), (w_Led cs o_g h_g I_g V_g)]) (ca := [(w_Led cs (lsa x1.toNatClampNeg) (lsh x1.toNatClampNeg) (LsI x1.toNatClampNeg) (LsV x1.toNatClampNeg)), (w_Led cs o_g h_g I_g V_g)]) (ra := [(w_Slt cs o_slt h_slt lsa I_slt V_slt), (w_PoolX cs lsa lsh LsI LsV 2 x1.toNatClampNeg)]) [1, 3, 0, 2] (by decide) rfl rfl hPp
  obtain ⟨I2, V3, qr1, hf⟩ := bd2 hf
  have hDc := subD (bs := [(w_Slt cs o_slt h_slt lsa I_slt V_slt), (w_Led cs (lsa x1.toNatClampNeg) (lsh x1.toNatClampNeg) (LsI x1.toNatClampNeg) (LsV x1.toNatClampNeg)), (w_PoolX cs lsa lsh LsI LsV 2 x1.toNatClampNeg), (w_Led cs o_g h_g I_g V_g)]) (ca := [(w_Led cs (lsa x1.toNatClampNeg) (lsh x1.toNatClampNeg) (LsI x1.toNatClampNeg) (LsV x1.toNatClampNeg)), (w_Led cs o_g h_g I_g V_g)]) (ra := [(w_Slt cs o_slt h_slt lsa I_slt V_slt), (w_PoolX cs lsa lsh LsI LsV 2 x1.toNatClampNeg)]) [1, 3, 0, 2] (by decide) rfl rfl hDp
  have hFc := xfree hDc hS hA
  refine va_callv (va_runV (As := [.ref o_g]) (rest := []) ⟨hx, hb, hml, hown, hts⟩ (c_Led_copyFrom l D cs (lsa x1.toNatClampNeg) (lsh x1.toNatClampNeg) o_g h_g _ (LsI x1.toNatClampNeg) (LsV x1.toNatClampNeg) I_g V_g f _ qr1) w_copyFrom_22 ⟨yP_moved, va_recv hK hPc (ci := 3) (q0 := 0) rfl rfl, fun U hU hW => ⟨rfl, by rw [hU], by rw [hU]; exact hPc, va_K.moved hW.alike hK, yN_warm hW hN, hDc.weaken (fun _ _ _ _ => trivial)⟩⟩ rfl rfl hl.1 rfl (lv_room (Nat.le_of_ble_eq_true rfl)) dX7_put_7 ⟨Nat.zero_le _, Nat.zero_le _⟩) hS (fun q _ h9 => hFc q h9) hFc (fun u t H1 locs ht hvm hw hB hz1 hk1 hS => ?_)
  rw [hw] at hB
  obtain ⟨hP1, hK1, hD1⟩ := hB
  rw [ht] at hP1
  obtain ⟨hP, hD⟩ := joinB (bs := [(w_Slt cs o_slt h_slt lsa I_slt V_slt), (w_Led cs (lsa x1.toNatClampNeg) (lsh x1.toNatClampNeg) (LsI x1.toNatClampNeg) (LsV x1.toNatClampNeg)), (w_PoolX cs lsa lsh LsI LsV 2 x1.toNatClampNeg), (w_Led cs o_g h_g I_g V_g)]) (ca := [(w_Led cs (lsa x1.toNatClampNeg) (lsh x1.toNatClampNeg) (LsI x1.toNatClampNeg) (LsV x1.toNatClampNeg)), (w_Led cs o_g h_g I_g V_g)]) (ra := [(w_Slt cs o_slt h_slt lsa I_slt V_slt), (w_PoolX cs lsa lsh LsI LsV 2 x1.toNatClampNeg)]) [1, 3, 0, 2] (by decide) rfl rfl hPp hDp hk1 hFc (cb := [(w_Led cs (lsa x1.toNatClampNeg) (lsh x1.toNatClampNeg) I2 V3), (w_Led cs o_g h_g I_g V_g)]) hP1 hD1 (be := [(w_Slt cs o_slt h_slt lsa I_slt V_slt), (w_Led cs (lsa x1.toNatClampNeg) (lsh x1.toNatClampNeg) I2 V3), (w_PoolX cs lsa lsh LsI LsV 2 x1.toNatClampNeg), (w_Led cs o_g h_g I_g V_g)]) [2, 0, 3, 1] (by decide) rfl rfl
  obtain ⟨I4, eI4, hf⟩ := nme hf
  obtain ⟨V5, eV5, hf⟩ := nme hf
  have hpb := pool_in (A := [(w_Slt cs o_slt h_slt lsa I_slt V_slt)]) (B := [(w_Led cs o_g h_g I_g V_g)]) (cs := cs) (la := lsa) (lh := lsh) (LI := LsI) (LV := LsV) (n := 2) (i := x1.toNatClampNeg) (I := I2) (V := V3) hlt
  have hP : va_P D vwCl (List.flatten [(w_Slt cs o_slt h_slt lsa I_slt V_slt), (w_Pool cs lsa lsh I4 V5 2), (w_Led cs o_g h_g I_g V_g)]) H1 := by rw [eI4, eV5]; exact pPerm hpb hP
  have hD : va_D A (List.flatten [(w_Slt cs o_slt h_slt lsa I_slt V_slt), (w_Pool cs lsa lsh I4 V5 2), (w_Led cs o_g h_g I_g V_g)]) := by rw [eI4, eV5]; exact dPerm hpb hD
  refine lv_aload_n hx hb dX7_put_10 rfl (lv_at hl 0 rfl) ?_
  refine va_get (D := D) (ci := 7) (v := .ref (h_slt 1)) (C := RX7) (T := TX7) (N := 2) hx hb hts in_X7 hown hK hP 0 rfl rfl 1 (by decide) g_17 (fun _ h9 => h9) rfl dX7_put_11 ?_
  refine lv_iload_n hx hb dX7_put_14 rfl (lv_at hl 1 rfl) ?_
  refine lv_iconst (v := 1) hx hb dX7_put_15 (by decide) ?_
  obtain ⟨c16, hf⟩ := gd hf
  refine va_zast (f := (V_slt 1)) hx hb hK hP hD hS 2 1 rfl rfl c16 dX7_put_16 (fun H locs hP hD hS => ?_)
  obtain ⟨V6, eV6, hf⟩ := nme hf
  have hP : va_P D vwCl (List.flatten [(w_Slt cs o_slt h_slt lsa I_slt V6), (w_Pool cs lsa lsh I4 V5 2), (w_Led cs o_g h_g I_g V_g)]) H := by rw [eV6]; exact hP
  have hD : va_D A (List.flatten [(w_Slt cs o_slt h_slt lsa I_slt V6), (w_Pool cs lsa lsh I4 V5 2), (w_Led cs o_g h_g I_g V_g)]) := by rw [eV6]; exact hD
  exact hret V6 I4 V5 _ _ 17 _ hf hP hD hS dX7_put_17
set_option maxHeartbeats 4000000 in
set_option maxRecDepth 100000 in
theorem c_Slt_put (l : Launch) (D : va_G) (cs : Nat → ClassId) (o_slt : Nat) (h_slt : Nat → Nat) (lsa : Nat → Nat) (lsh : Nat → Nat → Nat) (o_g : Nat) (h_g : Nat → Nat) (sz : Nat) (I_slt : FI) (V_slt : FV) (LsI : Nat → FI) (LsV : Nat → FV) (I_g : FI) (V_g : FV) (x1 : Int32) (f : Nat) (out : FV × (Nat → FI) × (Nat → FV)) (hf : Slt_put f x1 I_slt V_slt LsI LsV I_g V_g = some out) : Met l yX7_put wsX7_put rm_Slt_put (va_Pc [.ref o_slt, .int x1, .ref o_g] (yP D cs (List.flatten [(w_Slt cs o_slt h_slt lsa I_slt V_slt), (w_Pool cs lsa lsh LsI LsV 2), (w_Led cs o_g h_g I_g V_g)]) sz)) (va_Qv (fun u => u = out) (fun (u : FV × (Nat → FI) × (Nat → FV)) t => xA D cs (va_A (List.flatten [(w_Slt cs o_slt h_slt lsa I_slt V_slt), (w_Pool cs lsa lsh LsI LsV 2), (w_Led cs o_g h_g I_g V_g)]) sz) (List.flatten [(w_Slt cs o_slt h_slt lsa I_slt u.1), (w_Pool cs lsa lsh u.2.1 u.2.2 2), (w_Led cs o_g h_g I_g V_g)]) t) (va_A (List.flatten [(w_Slt cs o_slt h_slt lsa I_slt V_slt), (w_Pool cs lsa lsh LsI LsV 2), (w_Led cs o_g h_g I_g V_g)]) sz)) 0 0 (va_A (List.flatten [(w_Slt cs o_slt h_slt lsa I_slt V_slt), (w_Pool cs lsa lsh LsI LsV 2), (w_Led cs o_g h_g I_g V_g)]) sz) := by
  refine Met.ofW (cc := cX7_put) (maxL := 3) (ret := none) (by decide) rfl ?_
  intro p e s m args below meth c s₁ B hml hv
  obtain ⟨ha, hsz, hP, hK, hN, hD0⟩ := hv
  have hx := B.exec
  have hb := B.bytes
  have hr := B.returns
  have hts := atoms_spec (ws := wsX7_put) B.pre
  have hown : s.vm.findClass RX7 = some m.cls := findClass_of_methodNamed B.named
  have hlocks := B.notSynchronized
  have in_X7 : ∀ w ∈ u_ws RX7 TX7 2, w ∈ wsX7_put := fun w h => List.mem_cons_of_mem _ (List.mem_append_left _ (List.mem_append_right _ h))
  have in_X3 : ∀ w ∈ u_ws RX3 TX3 11, w ∈ wsX7_put := fun w h => List.mem_cons_of_mem _ (List.mem_append_right _ h)
  have g_11 := hts (Cond.fieldLink RX7 11 "DaysLent$Slots" "kept" "[LDaysLent$Ledger;") (by decide +kernel)
  have w_copyFrom_22 := cwV (R := rm_Slt_put) (s := s) (args := args) (rm := rm_Led_copyFrom) (mc := 0) (ms := 0) 1 hts gX7_put_X3_copyFrom rfl rfl rfl (by decide +kernel) ⟨Nat.le_of_ble_eq_true rfl, Nat.le_of_ble_eq_true rfl⟩
  have g_17 := hts (Cond.fieldLink RX7 17 "DaysLent$Slots" "used" "[Z") (by decide +kernel)
  subst hsz
  have hD := hD0.self (sz := s.heap.size)
  generalize hAe : va_A (List.flatten [(w_Slt cs o_slt h_slt lsa I_slt V_slt), (w_Pool cs lsa lsh LsI LsV 2), (w_Led cs o_g h_g I_g V_g)]) s.heap.size = A at hD ⊢
  have hA : ∀ q : Nat, s.heap.size ≤ q → A q := fun q h => by rw [← hAe]; exact Or.inr h
  have hl := lv_entry ([.ref o_slt, .int x1, .ref o_g]) (n := 3) (Nat.le_of_ble_eq_true rfl)
  rw [show entryFrame m args 3 = entryFrame m ([.ref o_slt, .int x1, .ref o_g] : List Value).toArray 3 from by rw [ha], lg_entry_eq]
  generalize (lg_sl ([.ref o_slt, .int x1, .ref o_g]) ++ List.replicate (3 - (lg_sl ([.ref o_slt, .int x1, .ref o_g])).length) Slot.unset).toArray = ls at hl ⊢
  generalize hQ : MQ below (va_Qv (fun u => u = out) (fun (u : FV × (Nat → FI) × (Nat → FV)) t => xA D cs A (List.flatten [(w_Slt cs o_slt h_slt lsa I_slt u.1), (w_Pool cs lsa lsh u.2.1 u.2.2 2), (w_Led cs o_g h_g I_g V_g)]) t) A) args s 0 0 A = Q
  have hret : ∀ (Vslt9 : FV) (Ips9 : Nat → FI) (Vps9 : Nat → FV) (H : Heap) (locs : List Loc) (pc : Nat) (ls : Array Slot), some (Vslt9, Ips9, Vps9) = some out → va_P D vwCl (List.flatten [(w_Slt cs o_slt h_slt lsa I_slt Vslt9), (w_Pool cs lsa lsh Ips9 Vps9 2), (w_Led cs o_g h_g I_g V_g)]) H → va_D A (List.flatten [(w_Slt cs o_slt h_slt lsa I_slt Vslt9), (w_Pool cs lsa lsh Ips9 Vps9 2), (w_Led cs o_g h_g I_g V_g)]) → va_S A s.heap H locs → decode cX7_put pc = .ok (.return_, 1) → W p l e rm_Slt_put s m args below meth c H locs 0 0 Q (F0 m pc ls []) := by
    intro Vslt9 Ips9 Vps9 H locs pc ls hf hP hD hS hd
    rw [← hQ]
    exact W.vret hx hb hr (fun t ht hW => ⟨⟨(Vslt9, Ips9, Vps9), rfl, Option.some.inj hf, by show va_P D vwCl (List.flatten [(w_Slt cs o_slt h_slt lsa I_slt Vslt9), (w_Pool cs lsa lsh Ips9 Vps9 2), (w_Led cs o_g h_g I_g V_g)]) t.heap; rw [ht]; exact hP, va_K.moved hW.alike hK, hD⟩, hS.F ht⟩) hS.2.2 hd
  exact v_Slt_put hf hx hb hml hown hts in_X7 in_X3 g_11 w_copyFrom_22 g_17 hA hP hD hK hN hret ls hl
