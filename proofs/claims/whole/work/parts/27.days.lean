def X_write (f : Nat) (x1 : Int32) (x2 : Int64) (I : FI) (V : FV) (I_txt : FI) (V_txt : FV) : Option (Int32 × FI × FV) := (if x1 < 1 then some ((-2), I_txt, V_txt) else (if x1 ≤ 8 then ob3 (Txt_append f x1 x2 I_txt V_txt) (fun zr1 I2 V3 => (if zr1 = 0 then some ((-4), I2, V3) else some ((I2 1), I2, V3))) else some ((-2), I_txt, V_txt)))
abbrev rm_X_write : Room := { frames := 1, cells := 0, slots := 0, locals := 24 }
set_option maxHeartbeats 4000000 in
set_option maxRecDepth 100000 in
theorem v_X_write {l : Launch} {p : Program} {e : Env} {s : State} {m : MethodId} {args : Array Value} {below : List Frame} {meth : Method} {c : Code} {Q : State → Prop} {D : va_G} {cs : Nat → ClassId} {o : Nat} {hX : Nat → Nat} {h_txt : Nat → Nat} {A : Nat → Prop} {I : FI} {V : FV} {I_txt : FI} {V_txt : FV} {x1 : Int32} {x2 : Int64} {f : Nat} {out : Int32 × FI × FV} (hf : X_write f x1 x2 I V I_txt V_txt = some out) (hx : p.tables.exec = Jvm.exec) (hb : c.code = cX9_write) (hml : c.maxLocals = 4) (hown : s.vm.findClass RX9 = some m.cls) (hts : ∀ w ∈ wsX9_write, w.before args s = true) (in_X9 : ∀ w ∈ u_ws RX9 TX9 9, w ∈ wsX9_write) (in_X8 : ∀ w ∈ u_ws RX8 TX8 2, w ∈ wsX9_write) (g_10 : (Cond.fieldLink RX9 10 "DaysLent" "text" "LDaysLent$Text;").before args s = true) (w_append_72 : CallW rm_X_write s args RX9 RX8 72 yX8_append cX8_append 5 (some .boolean) wsX8_append rm_Txt_append 0 0 2) (g_76 : (Cond.fieldLink RX9 76 "DaysLent$Text" "length" "I").before args s = true) (hA : ∀ q : Nat, s.heap.size ≤ q → A q) (hP : va_P D vwCl (List.flatten [(w_X cs o hX I V), (w_Txt cs (hX 0) h_txt I_txt V_txt)]) s.heap) (hD : va_D A (List.flatten [(w_X cs o hX I V), (w_Txt cs (hX 0) h_txt I_txt V_txt)])) (hK : va_K D vwCl (tyA cs) s) (hN : yN s) (hret : ∀ (v : Int32) (Itxt9 : FI) (Vtxt9 : FV) (H : Heap) (locs : List Loc) (pc : Nat) (ls : Array Slot), some (v, Itxt9, Vtxt9) = some out → va_P D vwCl (List.flatten [(w_X cs o hX I V), (w_Txt cs (hX 0) h_txt Itxt9 Vtxt9)]) H → va_D A (List.flatten [(w_X cs o hX I V), (w_Txt cs (hX 0) h_txt Itxt9 Vtxt9)]) → va_S A s.heap H locs → decode cX9_write pc = .ok (.ireturn, 1) → W p l e rm_X_write s m args below meth c H locs 0 0 Q (F0 m pc ls [.int v])) : ∀ ls : Array Slot, lv_has ls 4 [(0, .ref o), (1, .int x1), (2, .long x2)] → W p l e rm_X_write s m args below meth c s.heap [] 0 0 Q (F0 m 0 ls []) := by
  intro ls hl
  have hS : va_S A s.heap s.heap [] := va_S.rf
  unfold X_write at hf
  refine lv_iload_n hx hb dX9_write_0 rfl (lv_at hl 1 rfl) ?_
  refine lv_iconst (v := 1) hx hb dX9_write_1 (by decide) ?_
  refine lv_icmp_lt (tgt := 11) hx hb dX9_write_2 (by decide) (fun c2 => ?_) (fun c2 => ?_)
  · replace hf := ip c2 hf
    refine lv_bipush (v := (-2)) hx hb dX9_write_11 (by decide) ?_
    exact hret (-2) I_txt V_txt _ _ 13 _ hf hP hD hS dX9_write_13
  · replace hf := im c2 hf
    refine lv_iload_n hx hb dX9_write_5 rfl (lv_at hl 1 rfl) ?_
    refine lv_bipush (v := 8) hx hb dX9_write_6 (by decide) ?_
    refine lv_icmp_le (tgt := 14) hx hb dX9_write_8 (by decide) (fun c8 => ?_) (fun c8 => ?_)
    · replace hf := ip c8 hf
      refine lv_aload_n hx hb dX9_write_14 rfl (lv_at hl 0 rfl) ?_
      refine va_get (D := D) (ci := 9) (v := .ref (hX 0)) (C := RX9) (T := TX9) (N := 9) hx hb hts in_X9 hown hK hP 0 rfl rfl 0 (by decide) g_10 (fun _ h9 => h9) rfl dX9_write_15 ?_
      refine lv_iload_n hx hb dX9_write_18 rfl (lv_at hl 1 rfl) ?_
      refine lv_lload_n hx hb dX9_write_19 rfl (lv_at hl 2 rfl) ?_
      have hPc := subB (bs := [(w_X cs o hX I V), (w_Txt cs (hX 0) h_txt I_txt V_txt)]) (ca := [(w_Txt cs (hX 0) h_txt I_txt V_txt)]) (ra := [(w_X cs o hX I V)]) [1, 0] (by decide) rfl rfl hP
      obtain ⟨zr1, I2, V3, qr1, hf⟩ := bd3 hf
      have hDc := subD (bs := [(w_X cs o hX I V), (w_Txt cs (hX 0) h_txt I_txt V_txt)]) (ca := [(w_Txt cs (hX 0) h_txt I_txt V_txt)]) (ra := [(w_X cs o hX I V)]) [1, 0] (by decide) rfl rfl hD
      have hFc := xfree hDc hS hA
      refine va_calli (va_runV (As := [.int x1, .long x2]) (rest := []) ⟨hx, hb, hml, hown, hts⟩ (c_Txt_append l D cs (hX 0) h_txt _ I_txt V_txt x1 x2 f _ qr1) w_append_72 ⟨yP_moved, va_recv hK hPc (ci := 8) (q0 := 0) rfl rfl, fun U hU hW => ⟨rfl, by rw [hU], by rw [hU]; exact hPc, va_K.moved hW.alike hK, yN_warm hW hN, hDc.weaken (fun _ _ _ _ => trivial)⟩⟩ rfl rfl hl.1 rfl (lv_room (Nat.le_of_ble_eq_true rfl)) dX9_write_20 ⟨Nat.zero_le _, Nat.zero_le _⟩) hS (fun q _ h9 => hFc q h9) hFc (fun r1 u t H1 locs ht hvm hw hB hz1 hk1 hS => ?_)
      have er1 := congrArg Prod.fst hw
      have eu := congrArg Prod.snd hw
      dsimp only at er1 eu
      rw [er1]
      rw [eu] at hB
      obtain ⟨hP1, hK1, hD1⟩ := hB
      rw [ht] at hP1
      obtain ⟨hP, hD⟩ := joinB (bs := [(w_X cs o hX I V), (w_Txt cs (hX 0) h_txt I_txt V_txt)]) (ca := [(w_Txt cs (hX 0) h_txt I_txt V_txt)]) (ra := [(w_X cs o hX I V)]) [1, 0] (by decide) rfl rfl hP hD hk1 hFc (cb := [(w_Txt cs (hX 0) h_txt I2 V3)]) hP1 hD1 (be := [(w_X cs o hX I V), (w_Txt cs (hX 0) h_txt I2 V3)]) [1, 0] (by decide) rfl rfl
      refine lv_if_eq (tgt := 36) hx hb dX9_write_23 (by decide) (fun c23 => ?_) (fun c23 => ?_)
      · replace hf := ip c23 hf
        refine lv_bipush (v := (-4)) hx hb dX9_write_36 (by decide) ?_
        exact hret (-4) I2 V3 _ _ 38 _ hf hP hD hS dX9_write_38
      · replace hf := im c23 hf
        refine lv_aload_n hx hb dX9_write_26 rfl (lv_at hl 0 rfl) ?_
        refine va_get (D := D) (ci := 9) (v := .ref (hX 0)) (C := RX9) (T := TX9) (N := 9) hx hb hts in_X9 hown hK hP 0 rfl rfl 0 (by decide) g_10 (fun _ h9 => h9) rfl dX9_write_27 ?_
        refine va_get (D := D) (ci := 8) (v := .int (I2 1)) (C := RX8) (T := TX8) (N := 2) hx hb hts in_X8 hown hK hP 1 rfl rfl 1 (by decide) g_76 (fun _ h9 => h9) rfl dX9_write_30 ?_
        refine lv_goto (tgt := 38) hx hb dX9_write_33 (by decide) ?_
        exact hret (I2 1) I2 V3 _ _ 38 _ hf hP hD hS dX9_write_38
    · replace hf := im c8 hf
      refine lv_bipush (v := (-2)) hx hb dX9_write_11 (by decide) ?_
      exact hret (-2) I_txt V_txt _ _ 13 _ hf hP hD hS dX9_write_13
set_option maxHeartbeats 4000000 in
set_option maxRecDepth 100000 in
theorem c_X_write (l : Launch) (D : va_G) (cs : Nat → ClassId) (o : Nat) (hX : Nat → Nat) (h_txt : Nat → Nat) (sz : Nat) (I : FI) (V : FV) (I_txt : FI) (V_txt : FV) (x1 : Int32) (x2 : Int64) (f : Nat) (out : Int32 × FI × FV) (hf : X_write f x1 x2 I V I_txt V_txt = some out) : Met l yX9_write wsX9_write rm_X_write (va_Pc [.ref o, .int x1, .long x2] (yP D cs (List.flatten [(w_X cs o hX I V), (w_Txt cs (hX 0) h_txt I_txt V_txt)]) sz)) (va_Qi (fun r u => (r, u) = out) (fun (u : FI × FV) t => xA D cs (va_A (List.flatten [(w_X cs o hX I V), (w_Txt cs (hX 0) h_txt I_txt V_txt)]) sz) (List.flatten [(w_X cs o hX I V), (w_Txt cs (hX 0) h_txt u.1 u.2)]) t) (va_A (List.flatten [(w_X cs o hX I V), (w_Txt cs (hX 0) h_txt I_txt V_txt)]) sz)) 0 0 (va_A (List.flatten [(w_X cs o hX I V), (w_Txt cs (hX 0) h_txt I_txt V_txt)]) sz) := by
  refine Met.ofW (cc := cX9_write) (maxL := 4) (ret := (some .int)) (by decide) rfl ?_
  intro p e s m args below meth c s₁ B hml hv
  obtain ⟨ha, hsz, hP, hK, hN, hD0⟩ := hv
  have hx := B.exec
  have hb := B.bytes
  have hr := B.returns
  have hts := atoms_spec (ws := wsX9_write) B.pre
  have hown : s.vm.findClass RX9 = some m.cls := findClass_of_methodNamed B.named
  have hlocks := B.notSynchronized
  have in_X9 : ∀ w ∈ u_ws RX9 TX9 9, w ∈ wsX9_write := fun w h => List.mem_cons_of_mem _ (List.mem_append_left _ (List.mem_append_right _ h))
  have in_X8 : ∀ w ∈ u_ws RX8 TX8 2, w ∈ wsX9_write := fun w h => List.mem_cons_of_mem _ (List.mem_append_right _ h)
  have g_10 := hts (Cond.fieldLink RX9 10 "DaysLent" "text" "LDaysLent$Text;") (by decide +kernel)
  have w_append_72 := cwV (R := rm_X_write) (s := s) (args := args) (rm := rm_Txt_append) (mc := 0) (ms := 0) 2 hts gX9_write_X8_append rfl rfl rfl (by decide +kernel) ⟨Nat.le_of_ble_eq_true rfl, Nat.le_of_ble_eq_true rfl⟩
  have g_76 := hts (Cond.fieldLink RX9 76 "DaysLent$Text" "length" "I") (by decide +kernel)
  subst hsz
  have hD := hD0.self (sz := s.heap.size)
  generalize hAe : va_A (List.flatten [(w_X cs o hX I V), (w_Txt cs (hX 0) h_txt I_txt V_txt)]) s.heap.size = A at hD ⊢
  have hA : ∀ q : Nat, s.heap.size ≤ q → A q := fun q h => by rw [← hAe]; exact Or.inr h
  have hl := lv_entry ([.ref o, .int x1, .long x2]) (n := 4) (Nat.le_of_ble_eq_true rfl)
  rw [show entryFrame m args 4 = entryFrame m ([.ref o, .int x1, .long x2] : List Value).toArray 4 from by rw [ha], lg_entry_eq]
  generalize (lg_sl ([.ref o, .int x1, .long x2]) ++ List.replicate (4 - (lg_sl ([.ref o, .int x1, .long x2])).length) Slot.unset).toArray = ls at hl ⊢
  generalize hQ : MQ below (va_Qi (fun r u => (r, u) = out) (fun (u : FI × FV) t => xA D cs A (List.flatten [(w_X cs o hX I V), (w_Txt cs (hX 0) h_txt u.1 u.2)]) t) A) args s 0 0 A = Q
  have hret : ∀ (v : Int32) (Itxt9 : FI) (Vtxt9 : FV) (H : Heap) (locs : List Loc) (pc : Nat) (ls : Array Slot), some (v, Itxt9, Vtxt9) = some out → va_P D vwCl (List.flatten [(w_X cs o hX I V), (w_Txt cs (hX 0) h_txt Itxt9 Vtxt9)]) H → va_D A (List.flatten [(w_X cs o hX I V), (w_Txt cs (hX 0) h_txt Itxt9 Vtxt9)]) → va_S A s.heap H locs → decode cX9_write pc = .ok (.ireturn, 1) → W p l e rm_X_write s m args below meth c H locs 0 0 Q (F0 m pc ls [.int v]) := by
    intro v Itxt9 Vtxt9 H locs pc ls hf hP hD hS hd
    rw [← hQ]
    exact W.iret (v := v) hx hb hr (fun t ht hW => ⟨⟨v, (Itxt9, Vtxt9), rfl, Option.some.inj hf, by show va_P D vwCl (List.flatten [(w_X cs o hX I V), (w_Txt cs (hX 0) h_txt Itxt9 Vtxt9)]) t.heap; rw [ht]; exact hP, va_K.moved hW.alike hK, hD⟩, hS.F ht⟩) hS.2.2 hd
  exact v_X_write hf hx hb hml hown hts in_X9 in_X8 g_10 w_append_72 g_76 hA hP hD hK hN hret ls hl
def X_wipe (f : Nat) (I : FI) (V : FV) (I_txt : FI) (V_txt : FV) : Option (Int32 × FI) := nm (va_up I_txt 1 0) (fun I1 => some ((I_txt 1), I1))
abbrev rm_X_wipe : Room := { frames := 0, cells := 0, slots := 0, locals := 0 }
set_option maxHeartbeats 4000000 in
set_option maxRecDepth 100000 in
theorem v_X_wipe {l : Launch} {p : Program} {e : Env} {s : State} {m : MethodId} {args : Array Value} {below : List Frame} {meth : Method} {c : Code} {Q : State → Prop} {D : va_G} {cs : Nat → ClassId} {o : Nat} {hX : Nat → Nat} {h_txt : Nat → Nat} {A : Nat → Prop} {I : FI} {V : FV} {I_txt : FI} {V_txt : FV} {f : Nat} {out : Int32 × FI} (hf : X_wipe f I V I_txt V_txt = some out) (hx : p.tables.exec = Jvm.exec) (hb : c.code = cX9_wipe) (hml : c.maxLocals = 2) (hown : s.vm.findClass RX9 = some m.cls) (hts : ∀ w ∈ wsX9_wipe, w.before args s = true) (in_X9 : ∀ w ∈ u_ws RX9 TX9 9, w ∈ wsX9_wipe) (in_X8 : ∀ w ∈ u_ws RX8 TX8 2, w ∈ wsX9_wipe) (g_10 : (Cond.fieldLink RX9 10 "DaysLent" "text" "LDaysLent$Text;").before args s = true) (g_76 : (Cond.fieldLink RX9 76 "DaysLent$Text" "length" "I").before args s = true) (hA : ∀ q : Nat, s.heap.size ≤ q → A q) (hP : va_P D vwCl (List.flatten [(w_X cs o hX I V), (w_Txt cs (hX 0) h_txt I_txt V_txt)]) s.heap) (hD : va_D A (List.flatten [(w_X cs o hX I V), (w_Txt cs (hX 0) h_txt I_txt V_txt)])) (hK : va_K D vwCl (tyA cs) s) (hN : yN s) (hret : ∀ (v : Int32) (Itxt9 : FI) (H : Heap) (locs : List Loc) (pc : Nat) (ls : Array Slot), some (v, Itxt9) = some out → va_P D vwCl (List.flatten [(w_X cs o hX I V), (w_Txt cs (hX 0) h_txt Itxt9 V_txt)]) H → va_D A (List.flatten [(w_X cs o hX I V), (w_Txt cs (hX 0) h_txt Itxt9 V_txt)]) → va_S A s.heap H locs → decode cX9_wipe pc = .ok (.ireturn, 1) → W p l e rm_X_wipe s m args below meth c H locs 0 0 Q (F0 m pc ls [.int v])) : ∀ ls : Array Slot, lv_has ls 2 [(0, .ref o)] → W p l e rm_X_wipe s m args below meth c s.heap [] 0 0 Q (F0 m 0 ls []) := by
  intro ls hl
  have hS : va_S A s.heap s.heap [] := va_S.rf
  unfold X_wipe at hf
  refine lv_aload_n hx hb dX9_wipe_0 rfl (lv_at hl 0 rfl) ?_
  refine va_get (D := D) (ci := 9) (v := .ref (hX 0)) (C := RX9) (T := TX9) (N := 9) hx hb hts in_X9 hown hK hP 0 rfl rfl 0 (by decide) g_10 (fun _ h9 => h9) rfl dX9_wipe_1 ?_
  refine va_get (D := D) (ci := 8) (v := .int (I_txt 1)) (C := RX8) (T := TX8) (N := 2) hx hb hts in_X8 hown hK hP 1 rfl rfl 1 (by decide) g_76 (fun _ h9 => h9) rfl dX9_wipe_4 ?_
  refine lv_istore_n (lv' := [(1, .int (I_txt 1)), (0, .ref o)]) hx hb dX9_wipe_7 rfl hl (by decide) rfl (fun ls hl => ?_)
  refine lv_aload_n hx hb dX9_wipe_8 rfl (lv_at hl 1 rfl) ?_
  refine va_get (D := D) (ci := 9) (v := .ref (hX 0)) (C := RX9) (T := TX9) (N := 9) hx hb hts in_X9 hown hK hP 0 rfl rfl 0 (by decide) g_10 (fun _ h9 => h9) rfl dX9_wipe_9 ?_
  refine lv_iconst (v := 0) hx hb dX9_wipe_12 (by decide) ?_
  refine va_put (D := D) (ci := 8) (v := .int 0) (ty := .int) (C := RX8) (T := TX8) (N := 2) hx hb hts in_X8 tyX8 tyX8_ok nmX8 hown hK hP hD hS 1 rfl rfl 1 (by decide) g_76 (fun _ h9 => h9) rfl (by decide +kernel) rfl rfl (Nat.le_of_ble_eq_true rfl) dX9_wipe_13 (fun H locs hP hD hS => ?_)
  obtain ⟨I1, eI1, hf⟩ := nme hf
  have hP : va_P D vwCl (List.flatten [(w_X cs o hX I V), (w_Txt cs (hX 0) h_txt I1 V_txt)]) H := by rw [eI1]; exact hP
  have hD : va_D A (List.flatten [(w_X cs o hX I V), (w_Txt cs (hX 0) h_txt I1 V_txt)]) := by rw [eI1]; exact hD
  refine lv_iload_n hx hb dX9_wipe_16 rfl (lv_at hl 0 rfl) ?_
  exact hret (I_txt 1) I1 _ _ 17 _ hf hP hD hS dX9_wipe_17
set_option maxHeartbeats 4000000 in
set_option maxRecDepth 100000 in
theorem c_X_wipe (l : Launch) (D : va_G) (cs : Nat → ClassId) (o : Nat) (hX : Nat → Nat) (h_txt : Nat → Nat) (sz : Nat) (I : FI) (V : FV) (I_txt : FI) (V_txt : FV) (f : Nat) (out : Int32 × FI) (hf : X_wipe f I V I_txt V_txt = some out) : Met l yX9_wipe wsX9_wipe rm_X_wipe (va_Pc [.ref o] (yP D cs (List.flatten [(w_X cs o hX I V), (w_Txt cs (hX 0) h_txt I_txt V_txt)]) sz)) (va_Qi (fun r u => (r, u) = out) (fun (u : FI) t => xA D cs (va_A (List.flatten [(w_X cs o hX I V), (w_Txt cs (hX 0) h_txt I_txt V_txt)]) sz) (List.flatten [(w_X cs o hX I V), (w_Txt cs (hX 0) h_txt u V_txt)]) t) (va_A (List.flatten [(w_X cs o hX I V), (w_Txt cs (hX 0) h_txt I_txt V_txt)]) sz)) 0 0 (va_A (List.flatten [(w_X cs o hX I V), (w_Txt cs (hX 0) h_txt I_txt V_txt)]) sz) := by
  refine Met.ofW (cc := cX9_wipe) (maxL := 2) (ret := (some .int)) (by decide) rfl ?_
  intro p e s m args below meth c s₁ B hml hv
  obtain ⟨ha, hsz, hP, hK, hN, hD0⟩ := hv
  have hx := B.exec
  have hb := B.bytes
  have hr := B.returns
  have hts := atoms_spec (ws := wsX9_wipe) B.pre
  have hown : s.vm.findClass RX9 = some m.cls := findClass_of_methodNamed B.named
  have hlocks := B.notSynchronized
  have in_X9 : ∀ w ∈ u_ws RX9 TX9 9, w ∈ wsX9_wipe := fun w h => List.mem_cons_of_mem _ (List.mem_append_left _ (List.mem_append_right _ h))
  have in_X8 : ∀ w ∈ u_ws RX8 TX8 2, w ∈ wsX9_wipe := fun w h => List.mem_cons_of_mem _ (List.mem_append_right _ h)
  have g_10 := hts (Cond.fieldLink RX9 10 "DaysLent" "text" "LDaysLent$Text;") (by decide +kernel)
  have g_76 := hts (Cond.fieldLink RX9 76 "DaysLent$Text" "length" "I") (by decide +kernel)
  subst hsz
  have hD := hD0.self (sz := s.heap.size)
  generalize hAe : va_A (List.flatten [(w_X cs o hX I V), (w_Txt cs (hX 0) h_txt I_txt V_txt)]) s.heap.size = A at hD ⊢
  have hA : ∀ q : Nat, s.heap.size ≤ q → A q := fun q h => by rw [← hAe]; exact Or.inr h
  have hl := lv_entry ([.ref o]) (n := 2) (Nat.le_of_ble_eq_true rfl)
  rw [show entryFrame m args 2 = entryFrame m ([.ref o] : List Value).toArray 2 from by rw [ha], lg_entry_eq]
  generalize (lg_sl ([.ref o]) ++ List.replicate (2 - (lg_sl ([.ref o])).length) Slot.unset).toArray = ls at hl ⊢
  generalize hQ : MQ below (va_Qi (fun r u => (r, u) = out) (fun (u : FI) t => xA D cs A (List.flatten [(w_X cs o hX I V), (w_Txt cs (hX 0) h_txt u V_txt)]) t) A) args s 0 0 A = Q
  have hret : ∀ (v : Int32) (Itxt9 : FI) (H : Heap) (locs : List Loc) (pc : Nat) (ls : Array Slot), some (v, Itxt9) = some out → va_P D vwCl (List.flatten [(w_X cs o hX I V), (w_Txt cs (hX 0) h_txt Itxt9 V_txt)]) H → va_D A (List.flatten [(w_X cs o hX I V), (w_Txt cs (hX 0) h_txt Itxt9 V_txt)]) → va_S A s.heap H locs → decode cX9_wipe pc = .ok (.ireturn, 1) → W p l e rm_X_wipe s m args below meth c H locs 0 0 Q (F0 m pc ls [.int v]) := by
    intro v Itxt9 H locs pc ls hf hP hD hS hd
    rw [← hQ]
    exact W.iret (v := v) hx hb hr (fun t ht hW => ⟨⟨v, Itxt9, rfl, Option.some.inj hf, by show va_P D vwCl (List.flatten [(w_X cs o hX I V), (w_Txt cs (hX 0) h_txt Itxt9 V_txt)]) t.heap; rw [ht]; exact hP, va_K.moved hW.alike hK, hD⟩, hS.F ht⟩) hS.2.2 hd
  exact v_X_wipe hf hx hb hml hown hts in_X9 in_X8 g_10 g_76 hA hP hD hK hN hret ls hl
def X_fault (f : Nat) (I : FI) (V : FV) (I_txt : FI) (V_txt : FV) : Option (Int32) := ob1 (Txt_firstFault f I_txt V_txt) (fun zr1 => some zr1)
abbrev rm_X_fault : Room := { frames := 4, cells := 0, slots := 0, locals := 96 }
set_option maxHeartbeats 4000000 in
set_option maxRecDepth 100000 in
theorem v_X_fault {l : Launch} {p : Program} {e : Env} {s : State} {m : MethodId} {args : Array Value} {below : List Frame} {meth : Method} {c : Code} {Q : State → Prop} {D : va_G} {cs : Nat → ClassId} {o : Nat} {hX : Nat → Nat} {h_txt : Nat → Nat} {I : FI} {V : FV} {I_txt : FI} {V_txt : FV} {f : Nat} {out : Int32} (hf : X_fault f I V I_txt V_txt = some out) (hx : p.tables.exec = Jvm.exec) (hb : c.code = cX9_fault) (hml : c.maxLocals = 1) (hown : s.vm.findClass RX9 = some m.cls) (hts : ∀ w ∈ wsX9_fault, w.before args s = true) (in_X9 : ∀ w ∈ u_ws RX9 TX9 9, w ∈ wsX9_fault) (in_X8 : ∀ w ∈ u_ws RX8 TX8 2, w ∈ wsX9_fault) (g_10 : (Cond.fieldLink RX9 10 "DaysLent" "text" "LDaysLent$Text;").before args s = true) (w_firstFault_80 : CallW rm_X_fault s args RX9 RX8 80 yX8_firstFault cX8_firstFault 6 (some .int) wsX8_firstFault rm_Txt_firstFault 0 0 0) (hP : va_P D vwCl (List.flatten [(w_X cs o hX I V), (w_Txt cs (hX 0) h_txt I_txt V_txt)]) s.heap) (hK : va_K D vwCl (tyA cs) s) (hN : yN s) (hret : ∀ (v : Int32) (pc : Nat) (ls : Array Slot), some v = some out → decode cX9_fault pc = .ok (.ireturn, 1) → W p l e rm_X_fault s m args below meth c s.heap [] 0 0 Q (F0 m pc ls [.int v])) : ∀ ls : Array Slot, lv_has ls 1 [(0, .ref o)] → W p l e rm_X_fault s m args below meth c s.heap [] 0 0 Q (F0 m 0 ls []) := by
  intro ls hl
  unfold X_fault at hf
  refine lv_aload_n hx hb dX9_fault_0 rfl (lv_at hl 0 rfl) ?_
  refine va_get (D := D) (ci := 9) (v := .ref (hX 0)) (C := RX9) (T := TX9) (N := 9) hx hb hts in_X9 hown hK hP 0 rfl rfl 0 (by decide) g_10 (fun _ h9 => h9) rfl dX9_fault_1 ?_
  have hPc := subB (bs := [(w_X cs o hX I V), (w_Txt cs (hX 0) h_txt I_txt V_txt)]) (ca := [(w_Txt cs (hX 0) h_txt I_txt V_txt)]) (ra := [(w_X cs o hX I V)]) [1, 0] (by decide) rfl rfl hP
  obtain ⟨zr1, qr1, hf⟩ := bd1 hf
  refine vp_callSi (va_Run.run (va_runV (As := []) (rest := []) ⟨hx, hb, hml, hown, hts⟩ (c_Txt_firstFault l D cs (hX 0) h_txt I_txt V_txt f zr1 qr1) w_firstFault_80 ⟨yR_moved, va_recv hK hPc (ci := 8) (q0 := 0) rfl rfl, fun U hU hW => ⟨rfl, by rw [hU]; exact hPc, va_K.moved hW.alike hK, yN_warm hW hN⟩⟩ rfl rfl hl.1 rfl (lv_room (Nat.le_of_ble_eq_true rfl)) dX9_fault_4 ⟨Nat.zero_le _, Nat.zero_le _⟩)) (fun r1 er1 => ?_)
  rw [er1]
  exact hret zr1 7 _ hf dX9_fault_7
set_option maxHeartbeats 4000000 in
set_option maxRecDepth 100000 in
theorem c_X_fault (l : Launch) (D : va_G) (cs : Nat → ClassId) (o : Nat) (hX : Nat → Nat) (h_txt : Nat → Nat) (I : FI) (V : FV) (I_txt : FI) (V_txt : FV) (f : Nat) (out : Int32) (hf : X_fault f I V I_txt V_txt = some out) : Met l yX9_fault wsX9_fault rm_X_fault (va_Pc [.ref o] (yR D cs (List.flatten [(w_X cs o hX I V), (w_Txt cs (hX 0) h_txt I_txt V_txt)]))) (vp_Si (fun r => r = out)) 0 0 (fun _ => False) := by
  refine Met.ofW (cc := cX9_fault) (maxL := 1) (ret := (some .int)) (by decide) rfl ?_
  intro p e s m args below meth c s₁ B hml hv
  obtain ⟨ha, hP, hK, hN⟩ := hv
  have hx := B.exec
  have hb := B.bytes
  have hr := B.returns
  have hts := atoms_spec (ws := wsX9_fault) B.pre
  have hown : s.vm.findClass RX9 = some m.cls := findClass_of_methodNamed B.named
  have hlocks := B.notSynchronized
  have in_X9 : ∀ w ∈ u_ws RX9 TX9 9, w ∈ wsX9_fault := fun w h => List.mem_cons_of_mem _ (List.mem_append_left _ (List.mem_append_right _ h))
  have in_X8 : ∀ w ∈ u_ws RX8 TX8 2, w ∈ wsX9_fault := fun w h => List.mem_cons_of_mem _ (List.mem_append_right _ h)
  have g_10 := hts (Cond.fieldLink RX9 10 "DaysLent" "text" "LDaysLent$Text;") (by decide +kernel)
  have w_firstFault_80 := cwV (R := rm_X_fault) (s := s) (args := args) (rm := rm_Txt_firstFault) (mc := 0) (ms := 0) 0 hts gX9_fault_X8_firstFault rfl rfl rfl (by decide +kernel) ⟨Nat.le_of_ble_eq_true rfl, Nat.le_of_ble_eq_true rfl⟩
  have hl := lv_entry ([.ref o]) (n := 1) (Nat.le_of_ble_eq_true rfl)
  rw [show entryFrame m args 1 = entryFrame m ([.ref o] : List Value).toArray 1 from by rw [ha], lg_entry_eq]
  generalize (lg_sl ([.ref o]) ++ List.replicate (1 - (lg_sl ([.ref o])).length) Slot.unset).toArray = ls at hl ⊢
  generalize hQ : MQ below (vp_Si (fun r => r = out)) args s 0 0 (fun _ => False) = Q
  have hret : ∀ (v : Int32) (pc : Nat) (ls : Array Slot), some v = some out → decode cX9_fault pc = .ok (.ireturn, 1) → W p l e rm_X_fault s m args below meth c s.heap [] 0 0 Q (F0 m pc ls [.int v]) := by
    intro v pc ls hf hd
    rw [← hQ]
    exact W.iret (v := v) hx hb hr (fun t ht hW => ⟨v, rfl, Option.some.inj hf, ht⟩) (fun q h => by cases h) hd
  exact v_X_fault hf hx hb hml hown hts in_X9 in_X8 g_10 w_firstFault_80 hP hK hN hret ls hl
def X_book (f : Nat) (I : FI) (V : FV) (I_txt : FI) (V_txt : FV) (I_now : FI) (V_now : FV) (I_act : FI) (V_act : FV) (I_slt : FI) (V_slt : FV) : Option (Int32 × FI × FV × FI × FV) := ob1 (Txt_firstFault f I_txt V_txt) (fun zr1 => (if zr1 = (-9) then ob2 (Txt_tellTo f I_txt V_txt I_now V_now) (fun I3 V4 => ob1 (Act_clear f I_act V_act) (fun I6 => ob1 (Slt_clear f I_slt V_slt) (fun V8 => some ((I3 0), I3, V4, I6, V8)))) else some ((-3), I_now, V_now, I_act, V_slt)))
abbrev rm_X_book : Room := { frames := 4, cells := 0, slots := 0, locals := 96 }
set_option maxHeartbeats 4000000 in
set_option maxRecDepth 100000 in
theorem v_X_book {l : Launch} {p : Program} {e : Env} {s : State} {m : MethodId} {args : Array Value} {below : List Frame} {meth : Method} {c : Code} {Q : State → Prop} {D : va_G} {cs : Nat → ClassId} {o : Nat} {hX : Nat → Nat} {h_txt : Nat → Nat} {h_now : Nat → Nat} {h_act : Nat → Nat} {laa : Nat → Nat} {h_slt : Nat → Nat} {lsa : Nat → Nat} {A : Nat → Prop} {I : FI} {V : FV} {I_txt : FI} {V_txt : FV} {I_now : FI} {V_now : FV} {I_act : FI} {V_act : FV} {I_slt : FI} {V_slt : FV} {f : Nat} {out : Int32 × FI × FV × FI × FV} (hf : X_book f I V I_txt V_txt I_now V_now I_act V_act I_slt V_slt = some out) (hx : p.tables.exec = Jvm.exec) (hb : c.code = cX9_book) (hml : c.maxLocals = 1) (hown : s.vm.findClass RX9 = some m.cls) (hts : ∀ w ∈ wsX9_book, w.before args s = true) (in_X9 : ∀ w ∈ u_ws RX9 TX9 9, w ∈ wsX9_book) (in_X8 : ∀ w ∈ u_ws RX8 TX8 2, w ∈ wsX9_book) (in_X3 : ∀ w ∈ u_ws RX3 TX3 11, w ∈ wsX9_book) (in_X0 : ∀ w ∈ u_ws RX0 TX0 3, w ∈ wsX9_book) (in_X7 : ∀ w ∈ u_ws RX7 TX7 2, w ∈ wsX9_book) (g_10 : (Cond.fieldLink RX9 10 "DaysLent" "text" "LDaysLent$Text;").before args s = true) (w_firstFault_80 : CallW rm_X_book s args RX9 RX8 80 yX8_firstFault cX8_firstFault 6 (some .int) wsX8_firstFault rm_Txt_firstFault 0 0 0) (g_19 : (Cond.fieldLink RX9 19 "DaysLent" "now" "LDaysLent$Ledger;").before args s = true) (w_tellTo_84 : CallW rm_X_book s args RX9 RX8 84 yX8_tellTo cX8_tellTo 4 none wsX8_tellTo rm_Txt_tellTo 0 0 1) (g_26 : (Cond.fieldLink RX9 26 "DaysLent" "acts" "LDaysLent$Acts;").before args s = true) (w_clear_88 : CallW rm_X_book s args RX9 RX0 88 yX0_clear cX0_clear 1 none wsX0_clear rm_Act_clear 0 0 0) (g_33 : (Cond.fieldLink RX9 33 "DaysLent" "slots" "LDaysLent$Slots;").before args s = true) (w_clear_91 : CallW rm_X_book s args RX9 RX7 91 yX7_clear cX7_clear 2 none wsX7_clear rm_Slt_clear 0 0 0) (g_92 : (Cond.fieldLink RX9 92 "DaysLent$Ledger" "people" "I").before args s = true) (hA : ∀ q : Nat, s.heap.size ≤ q → A q) (hP : va_P D vwCl (List.flatten [(w_X cs o hX I V), (w_Txt cs (hX 0) h_txt I_txt V_txt), (w_Led cs (hX 1) h_now I_now V_now), (w_Act cs (hX 2) h_act laa I_act V_act), (w_Slt cs (hX 3) h_slt lsa I_slt V_slt)]) s.heap) (hD : va_D A (List.flatten [(w_X cs o hX I V), (w_Txt cs (hX 0) h_txt I_txt V_txt), (w_Led cs (hX 1) h_now I_now V_now), (w_Act cs (hX 2) h_act laa I_act V_act), (w_Slt cs (hX 3) h_slt lsa I_slt V_slt)])) (hK : va_K D vwCl (tyA cs) s) (hN : yN s) (hret : ∀ (v : Int32) (Inow9 : FI) (Vnow9 : FV) (Iact9 : FI) (Vslt9 : FV) (H : Heap) (locs : List Loc) (pc : Nat) (ls : Array Slot), some (v, Inow9, Vnow9, Iact9, Vslt9) = some out → va_P D vwCl (List.flatten [(w_X cs o hX I V), (w_Txt cs (hX 0) h_txt I_txt V_txt), (w_Led cs (hX 1) h_now Inow9 Vnow9), (w_Act cs (hX 2) h_act laa Iact9 V_act), (w_Slt cs (hX 3) h_slt lsa I_slt Vslt9)]) H → va_D A (List.flatten [(w_X cs o hX I V), (w_Txt cs (hX 0) h_txt I_txt V_txt), (w_Led cs (hX 1) h_now Inow9 Vnow9), (w_Act cs (hX 2) h_act laa Iact9 V_act), (w_Slt cs (hX 3) h_slt lsa I_slt Vslt9)]) → va_S A s.heap H locs → decode cX9_book pc = .ok (.ireturn, 1) → W p l e rm_X_book s m args below meth c H locs 0 0 Q (F0 m pc ls [.int v])) : ∀ ls : Array Slot, lv_has ls 1 [(0, .ref o)] → W p l e rm_X_book s m args below meth c s.heap [] 0 0 Q (F0 m 0 ls []) := by
  intro ls hl
  have hS : va_S A s.heap s.heap [] := va_S.rf
  unfold X_book at hf
  refine lv_aload_n hx hb dX9_book_0 rfl (lv_at hl 0 rfl) ?_
  refine va_get (D := D) (ci := 9) (v := .ref (hX 0)) (C := RX9) (T := TX9) (N := 9) hx hb hts in_X9 hown hK hP 0 rfl rfl 0 (by decide) g_10 (fun _ h9 => h9) rfl dX9_book_1 ?_
  have hPc := subB (bs := [(w_X cs o hX I V), (w_Txt cs (hX 0) h_txt I_txt V_txt), (w_Led cs (hX 1) h_now I_now V_now), (w_Act cs (hX 2) h_act laa I_act V_act), (w_Slt cs (hX 3) h_slt lsa I_slt V_slt)]) (ca := [(w_Txt cs (hX 0) h_txt I_txt V_txt)]) (ra := [(w_X cs o hX I V), (w_Led cs (hX 1) h_now I_now V_now), (w_Act cs (hX 2) h_act laa I_act V_act), (w_Slt cs (hX 3) h_slt lsa I_slt V_slt)]) [1, 0, 2, 3, 4] (by decide) rfl rfl hP
  obtain ⟨zr1, qr1, hf⟩ := bd1 hf
  refine vp_callSi (va_Run.run (va_runV (As := []) (rest := []) ⟨hx, hb, hml, hown, hts⟩ (c_Txt_firstFault l D cs (hX 0) h_txt I_txt V_txt f zr1 qr1) w_firstFault_80 ⟨yR_moved, va_recv hK hPc (ci := 8) (q0 := 0) rfl rfl, fun U hU hW => ⟨rfl, by rw [hU]; exact hPc, va_K.moved hW.alike hK, yN_warm hW hN⟩⟩ rfl rfl hl.1 rfl (lv_room (Nat.le_of_ble_eq_true rfl)) dX9_book_4 ⟨Nat.zero_le _, Nat.zero_le _⟩)) (fun r1 er1 => ?_)
  rw [er1]
  refine lv_bipush (v := (-9)) hx hb dX9_book_7 (by decide) ?_
  refine lv_icmp_eq (tgt := 15) hx hb dX9_book_9 (by decide) (fun c9 => ?_) (fun c9 => ?_)
  · replace hf := ip c9 hf
    refine lv_aload_n hx hb dX9_book_15 rfl (lv_at hl 0 rfl) ?_
    refine va_get (D := D) (ci := 9) (v := .ref (hX 0)) (C := RX9) (T := TX9) (N := 9) hx hb hts in_X9 hown hK hP 0 rfl rfl 0 (by decide) g_10 (fun _ h9 => h9) rfl dX9_book_16 ?_
    refine lv_aload_n hx hb dX9_book_19 rfl (lv_at hl 0 rfl) ?_
    refine va_get (D := D) (ci := 9) (v := .ref (hX 1)) (C := RX9) (T := TX9) (N := 9) hx hb hts in_X9 hown hK hP 0 rfl rfl 1 (by decide) g_19 (fun _ h9 => h9) rfl dX9_book_20 ?_
    have hPc := subB (bs := [(w_X cs o hX I V), (w_Txt cs (hX 0) h_txt I_txt V_txt), (w_Led cs (hX 1) h_now I_now V_now), (w_Act cs (hX 2) h_act laa I_act V_act), (w_Slt cs (hX 3) h_slt lsa I_slt V_slt)]) (ca := [(w_Txt cs (hX 0) h_txt I_txt V_txt), (w_Led cs (hX 1) h_now I_now V_now)]) (ra := [(w_X cs o hX I V), (w_Act cs (hX 2) h_act laa I_act V_act), (w_Slt cs (hX 3) h_slt lsa I_slt V_slt)]) [1, 2, 0, 3, 4] (by decide) rfl rfl hP
    obtain ⟨I3, V4, qr2, hf⟩ := bd2 hf
    have hDc := subD (bs := [(w_X cs o hX I V), (w_Txt cs (hX 0) h_txt I_txt V_txt), (w_Led cs (hX 1) h_now I_now V_now), (w_Act cs (hX 2) h_act laa I_act V_act), (w_Slt cs (hX 3) h_slt lsa I_slt V_slt)]) (ca := [(w_Txt cs (hX 0) h_txt I_txt V_txt), (w_Led cs (hX 1) h_now I_now V_now)]) (ra := [(w_X cs o hX I V), (w_Act cs (hX 2) h_act laa I_act V_act), (w_Slt cs (hX 3) h_slt lsa I_slt V_slt)]) [1, 2, 0, 3, 4] (by decide) rfl rfl hD
    have hFc := xfree hDc hS hA
    refine va_callv (va_runV (As := [.ref (hX 1)]) (rest := []) ⟨hx, hb, hml, hown, hts⟩ (c_Txt_tellTo l D cs (hX 0) h_txt (hX 1) h_now _ I_txt V_txt I_now V_now f _ qr2) w_tellTo_84 ⟨yP_moved, va_recv hK hPc (ci := 8) (q0 := 0) rfl rfl, fun U hU hW => ⟨rfl, by rw [hU], by rw [hU]; exact hPc, va_K.moved hW.alike hK, yN_warm hW hN, hDc.weaken (fun _ _ _ _ => trivial)⟩⟩ rfl rfl hl.1 rfl (lv_room (Nat.le_of_ble_eq_true rfl)) dX9_book_23 ⟨Nat.zero_le _, Nat.zero_le _⟩) hS (fun q _ h9 => hFc q h9) hFc (fun u t H1 locs ht hvm hw hB hz1 hk1 hS => ?_)
    rw [hw] at hB
    obtain ⟨hP1, hK1, hD1⟩ := hB
    rw [ht] at hP1
    obtain ⟨hP, hD⟩ := joinB (bs := [(w_X cs o hX I V), (w_Txt cs (hX 0) h_txt I_txt V_txt), (w_Led cs (hX 1) h_now I_now V_now), (w_Act cs (hX 2) h_act laa I_act V_act), (w_Slt cs (hX 3) h_slt lsa I_slt V_slt)]) (ca := [(w_Txt cs (hX 0) h_txt I_txt V_txt), (w_Led cs (hX 1) h_now I_now V_now)]) (ra := [(w_X cs o hX I V), (w_Act cs (hX 2) h_act laa I_act V_act), (w_Slt cs (hX 3) h_slt lsa I_slt V_slt)]) [1, 2, 0, 3, 4] (by decide) rfl rfl hP hD hk1 hFc (cb := [(w_Txt cs (hX 0) h_txt I_txt V_txt), (w_Led cs (hX 1) h_now I3 V4)]) hP1 hD1 (be := [(w_X cs o hX I V), (w_Txt cs (hX 0) h_txt I_txt V_txt), (w_Led cs (hX 1) h_now I3 V4), (w_Act cs (hX 2) h_act laa I_act V_act), (w_Slt cs (hX 3) h_slt lsa I_slt V_slt)]) [2, 0, 1, 3, 4] (by decide) rfl rfl
    refine lv_aload_n hx hb dX9_book_26 rfl (lv_at hl 0 rfl) ?_
    refine va_get (D := D) (ci := 9) (v := .ref (hX 2)) (C := RX9) (T := TX9) (N := 9) hx hb hts in_X9 hown hK hP 0 rfl rfl 2 (by decide) g_26 (fun _ h9 => h9) rfl dX9_book_27 ?_
    have hPc := subB (bs := [(w_X cs o hX I V), (w_Txt cs (hX 0) h_txt I_txt V_txt), (w_Led cs (hX 1) h_now I3 V4), (w_Act cs (hX 2) h_act laa I_act V_act), (w_Slt cs (hX 3) h_slt lsa I_slt V_slt)]) (ca := [(w_Act cs (hX 2) h_act laa I_act V_act)]) (ra := [(w_X cs o hX I V), (w_Txt cs (hX 0) h_txt I_txt V_txt), (w_Led cs (hX 1) h_now I3 V4), (w_Slt cs (hX 3) h_slt lsa I_slt V_slt)]) [3, 0, 1, 2, 4] (by decide) rfl rfl hP
    obtain ⟨I6, qr5, hf⟩ := bd1 hf
    have hDc := subD (bs := [(w_X cs o hX I V), (w_Txt cs (hX 0) h_txt I_txt V_txt), (w_Led cs (hX 1) h_now I3 V4), (w_Act cs (hX 2) h_act laa I_act V_act), (w_Slt cs (hX 3) h_slt lsa I_slt V_slt)]) (ca := [(w_Act cs (hX 2) h_act laa I_act V_act)]) (ra := [(w_X cs o hX I V), (w_Txt cs (hX 0) h_txt I_txt V_txt), (w_Led cs (hX 1) h_now I3 V4), (w_Slt cs (hX 3) h_slt lsa I_slt V_slt)]) [3, 0, 1, 2, 4] (by decide) rfl rfl hD
    have hFc := xfree hDc hS hA
    refine va_callv (va_runV (As := []) (rest := []) ⟨hx, hb, hml, hown, hts⟩ (c_Act_clear l D cs (hX 2) h_act laa _ I_act V_act f _ qr5) w_clear_88 ⟨yP_moved, va_recv hK hPc (ci := 0) (q0 := 0) rfl rfl, fun U hU hW => ⟨rfl, by rw [hU], by rw [hU]; exact hPc, va_K.moved hW.alike hK, yN_warm hW hN, hDc.weaken (fun _ _ _ _ => trivial)⟩⟩ rfl rfl hl.1 rfl (lv_room (Nat.le_of_ble_eq_true rfl)) dX9_book_30 ⟨Nat.zero_le _, Nat.zero_le _⟩) hS (fun q _ h9 => hFc q h9) hFc (fun u t H1 locs ht hvm hw hB hz1 hk1 hS => ?_)
    rw [hw] at hB
    obtain ⟨hP1, hK1, hD1⟩ := hB
    rw [ht] at hP1
    obtain ⟨hP, hD⟩ := joinB (bs := [(w_X cs o hX I V), (w_Txt cs (hX 0) h_txt I_txt V_txt), (w_Led cs (hX 1) h_now I3 V4), (w_Act cs (hX 2) h_act laa I_act V_act), (w_Slt cs (hX 3) h_slt lsa I_slt V_slt)]) (ca := [(w_Act cs (hX 2) h_act laa I_act V_act)]) (ra := [(w_X cs o hX I V), (w_Txt cs (hX 0) h_txt I_txt V_txt), (w_Led cs (hX 1) h_now I3 V4), (w_Slt cs (hX 3) h_slt lsa I_slt V_slt)]) [3, 0, 1, 2, 4] (by decide) rfl rfl hP hD hk1 hFc (cb := [(w_Act cs (hX 2) h_act laa I6 V_act)]) hP1 hD1 (be := [(w_X cs o hX I V), (w_Txt cs (hX 0) h_txt I_txt V_txt), (w_Led cs (hX 1) h_now I3 V4), (w_Act cs (hX 2) h_act laa I6 V_act), (w_Slt cs (hX 3) h_slt lsa I_slt V_slt)]) [1, 2, 3, 0, 4] (by decide) rfl rfl
    refine lv_aload_n hx hb dX9_book_33 rfl (lv_at hl 0 rfl) ?_
    refine va_get (D := D) (ci := 9) (v := .ref (hX 3)) (C := RX9) (T := TX9) (N := 9) hx hb hts in_X9 hown hK hP 0 rfl rfl 3 (by decide) g_33 (fun _ h9 => h9) rfl dX9_book_34 ?_
    have hPc := subB (bs := [(w_X cs o hX I V), (w_Txt cs (hX 0) h_txt I_txt V_txt), (w_Led cs (hX 1) h_now I3 V4), (w_Act cs (hX 2) h_act laa I6 V_act), (w_Slt cs (hX 3) h_slt lsa I_slt V_slt)]) (ca := [(w_Slt cs (hX 3) h_slt lsa I_slt V_slt)]) (ra := [(w_X cs o hX I V), (w_Txt cs (hX 0) h_txt I_txt V_txt), (w_Led cs (hX 1) h_now I3 V4), (w_Act cs (hX 2) h_act laa I6 V_act)]) [4, 0, 1, 2, 3] (by decide) rfl rfl hP
    obtain ⟨V8, qr7, hf⟩ := bd1 hf
    have hDc := subD (bs := [(w_X cs o hX I V), (w_Txt cs (hX 0) h_txt I_txt V_txt), (w_Led cs (hX 1) h_now I3 V4), (w_Act cs (hX 2) h_act laa I6 V_act), (w_Slt cs (hX 3) h_slt lsa I_slt V_slt)]) (ca := [(w_Slt cs (hX 3) h_slt lsa I_slt V_slt)]) (ra := [(w_X cs o hX I V), (w_Txt cs (hX 0) h_txt I_txt V_txt), (w_Led cs (hX 1) h_now I3 V4), (w_Act cs (hX 2) h_act laa I6 V_act)]) [4, 0, 1, 2, 3] (by decide) rfl rfl hD
    have hFc := xfree hDc hS hA
    refine va_callv (va_runV (As := []) (rest := []) ⟨hx, hb, hml, hown, hts⟩ (c_Slt_clear l D cs (hX 3) h_slt lsa _ I_slt V_slt f _ qr7) w_clear_91 ⟨yP_moved, va_recv hK hPc (ci := 7) (q0 := 0) rfl rfl, fun U hU hW => ⟨rfl, by rw [hU], by rw [hU]; exact hPc, va_K.moved hW.alike hK, yN_warm hW hN, hDc.weaken (fun _ _ _ _ => trivial)⟩⟩ rfl rfl hl.1 rfl (lv_room (Nat.le_of_ble_eq_true rfl)) dX9_book_37 ⟨Nat.zero_le _, Nat.zero_le _⟩) hS (fun q _ h9 => hFc q h9) hFc (fun u t H1 locs ht hvm hw hB hz1 hk1 hS => ?_)
    rw [hw] at hB
    obtain ⟨hP1, hK1, hD1⟩ := hB
    rw [ht] at hP1
    obtain ⟨hP, hD⟩ := joinB (bs := [(w_X cs o hX I V), (w_Txt cs (hX 0) h_txt I_txt V_txt), (w_Led cs (hX 1) h_now I3 V4), (w_Act cs (hX 2) h_act laa I6 V_act), (w_Slt cs (hX 3) h_slt lsa I_slt V_slt)]) (ca := [(w_Slt cs (hX 3) h_slt lsa I_slt V_slt)]) (ra := [(w_X cs o hX I V), (w_Txt cs (hX 0) h_txt I_txt V_txt), (w_Led cs (hX 1) h_now I3 V4), (w_Act cs (hX 2) h_act laa I6 V_act)]) [4, 0, 1, 2, 3] (by decide) rfl rfl hP hD hk1 hFc (cb := [(w_Slt cs (hX 3) h_slt lsa I_slt V8)]) hP1 hD1 (be := [(w_X cs o hX I V), (w_Txt cs (hX 0) h_txt I_txt V_txt), (w_Led cs (hX 1) h_now I3 V4), (w_Act cs (hX 2) h_act laa I6 V_act), (w_Slt cs (hX 3) h_slt lsa I_slt V8)]) [1, 2, 3, 4, 0] (by decide) rfl rfl
    refine lv_aload_n hx hb dX9_book_40 rfl (lv_at hl 0 rfl) ?_
    refine va_get (D := D) (ci := 9) (v := .ref (hX 1)) (C := RX9) (T := TX9) (N := 9) hx hb hts in_X9 hown hK hP 0 rfl rfl 1 (by decide) g_19 (fun _ h9 => h9) rfl dX9_book_41 ?_
    refine va_get (D := D) (ci := 3) (v := .int (I3 0)) (C := RX3) (T := TX3) (N := 11) hx hb hts in_X3 hown hK hP 3 rfl rfl 0 (by decide) g_92 (fun _ h9 => h9) rfl dX9_book_44 ?_
    exact hret (I3 0) I3 V4 I6 V8 _ _ 47 _ hf hP hD hS dX9_book_47
  · replace hf := im c9 hf
    refine lv_bipush (v := (-3)) hx hb dX9_book_12 (by decide) ?_
    exact hret (-3) I_now V_now I_act V_slt _ _ 14 _ hf hP hD hS dX9_book_14
set_option maxHeartbeats 4000000 in
set_option maxRecDepth 100000 in
theorem c_X_book (l : Launch) (D : va_G) (cs : Nat → ClassId) (o : Nat) (hX : Nat → Nat) (h_txt : Nat → Nat) (h_now : Nat → Nat) (h_act : Nat → Nat) (laa : Nat → Nat) (h_slt : Nat → Nat) (lsa : Nat → Nat) (sz : Nat) (I : FI) (V : FV) (I_txt : FI) (V_txt : FV) (I_now : FI) (V_now : FV) (I_act : FI) (V_act : FV) (I_slt : FI) (V_slt : FV) (f : Nat) (out : Int32 × FI × FV × FI × FV) (hf : X_book f I V I_txt V_txt I_now V_now I_act V_act I_slt V_slt = some out) : Met l yX9_book wsX9_book rm_X_book (va_Pc [.ref o] (yP D cs (List.flatten [(w_X cs o hX I V), (w_Txt cs (hX 0) h_txt I_txt V_txt), (w_Led cs (hX 1) h_now I_now V_now), (w_Act cs (hX 2) h_act laa I_act V_act), (w_Slt cs (hX 3) h_slt lsa I_slt V_slt)]) sz)) (va_Qi (fun r u => (r, u) = out) (fun (u : FI × FV × FI × FV) t => xA D cs (va_A (List.flatten [(w_X cs o hX I V), (w_Txt cs (hX 0) h_txt I_txt V_txt), (w_Led cs (hX 1) h_now I_now V_now), (w_Act cs (hX 2) h_act laa I_act V_act), (w_Slt cs (hX 3) h_slt lsa I_slt V_slt)]) sz) (List.flatten [(w_X cs o hX I V), (w_Txt cs (hX 0) h_txt I_txt V_txt), (w_Led cs (hX 1) h_now u.1 u.2.1), (w_Act cs (hX 2) h_act laa u.2.2.1 V_act), (w_Slt cs (hX 3) h_slt lsa I_slt u.2.2.2)]) t) (va_A (List.flatten [(w_X cs o hX I V), (w_Txt cs (hX 0) h_txt I_txt V_txt), (w_Led cs (hX 1) h_now I_now V_now), (w_Act cs (hX 2) h_act laa I_act V_act), (w_Slt cs (hX 3) h_slt lsa I_slt V_slt)]) sz)) 0 0 (va_A (List.flatten [(w_X cs o hX I V), (w_Txt cs (hX 0) h_txt I_txt V_txt), (w_Led cs (hX 1) h_now I_now V_now), (w_Act cs (hX 2) h_act laa I_act V_act), (w_Slt cs (hX 3) h_slt lsa I_slt V_slt)]) sz) := by
  refine Met.ofW (cc := cX9_book) (maxL := 1) (ret := (some .int)) (by decide) rfl ?_
  intro p e s m args below meth c s₁ B hml hv
  obtain ⟨ha, hsz, hP, hK, hN, hD0⟩ := hv
  have hx := B.exec
  have hb := B.bytes
  have hr := B.returns
  have hts := atoms_spec (ws := wsX9_book) B.pre
  have hown : s.vm.findClass RX9 = some m.cls := findClass_of_methodNamed B.named
  have hlocks := B.notSynchronized
  have in_X9 : ∀ w ∈ u_ws RX9 TX9 9, w ∈ wsX9_book := fun w h => List.mem_cons_of_mem _ (List.mem_append_left _ (List.mem_append_left _ (List.mem_append_left _ (List.mem_append_left _ (List.mem_append_right _ h)))))
  have in_X8 : ∀ w ∈ u_ws RX8 TX8 2, w ∈ wsX9_book := fun w h => List.mem_cons_of_mem _ (List.mem_append_left _ (List.mem_append_left _ (List.mem_append_right _ h)))
  have in_X3 : ∀ w ∈ u_ws RX3 TX3 11, w ∈ wsX9_book := fun w h => List.mem_cons_of_mem _ (List.mem_append_left _ (List.mem_append_left _ (List.mem_append_left _ (List.mem_append_right _ h))))
  have in_X0 : ∀ w ∈ u_ws RX0 TX0 3, w ∈ wsX9_book := fun w h => List.mem_cons_of_mem _ (List.mem_append_left _ (List.mem_append_right _ h))
  have in_X7 : ∀ w ∈ u_ws RX7 TX7 2, w ∈ wsX9_book := fun w h => List.mem_cons_of_mem _ (List.mem_append_right _ h)
  have g_10 := hts (Cond.fieldLink RX9 10 "DaysLent" "text" "LDaysLent$Text;") (by decide +kernel)
  have w_firstFault_80 := cwV (R := rm_X_book) (s := s) (args := args) (rm := rm_Txt_firstFault) (mc := 0) (ms := 0) 0 hts gX9_book_X8_firstFault rfl rfl rfl (by decide +kernel) ⟨Nat.le_of_ble_eq_true rfl, Nat.le_of_ble_eq_true rfl⟩
  have g_19 := hts (Cond.fieldLink RX9 19 "DaysLent" "now" "LDaysLent$Ledger;") (by decide +kernel)
  have w_tellTo_84 := cwV (R := rm_X_book) (s := s) (args := args) (rm := rm_Txt_tellTo) (mc := 0) (ms := 0) 1 hts gX9_book_X8_tellTo rfl rfl rfl (by decide +kernel) ⟨Nat.le_of_ble_eq_true rfl, Nat.le_of_ble_eq_true rfl⟩
  have g_26 := hts (Cond.fieldLink RX9 26 "DaysLent" "acts" "LDaysLent$Acts;") (by decide +kernel)
  have w_clear_88 := cwV (R := rm_X_book) (s := s) (args := args) (rm := rm_Act_clear) (mc := 0) (ms := 0) 0 hts gX9_book_X0_clear rfl rfl rfl (by decide +kernel) ⟨Nat.le_of_ble_eq_true rfl, Nat.le_of_ble_eq_true rfl⟩
  have g_33 := hts (Cond.fieldLink RX9 33 "DaysLent" "slots" "LDaysLent$Slots;") (by decide +kernel)
  have w_clear_91 := cwV (R := rm_X_book) (s := s) (args := args) (rm := rm_Slt_clear) (mc := 0) (ms := 0) 0 hts gX9_book_X7_clear rfl rfl rfl (by decide +kernel) ⟨Nat.le_of_ble_eq_true rfl, Nat.le_of_ble_eq_true rfl⟩
  have g_92 := hts (Cond.fieldLink RX9 92 "DaysLent$Ledger" "people" "I") (by decide +kernel)
  subst hsz
  have hD := hD0.self (sz := s.heap.size)
  generalize hAe : va_A (List.flatten [(w_X cs o hX I V), (w_Txt cs (hX 0) h_txt I_txt V_txt), (w_Led cs (hX 1) h_now I_now V_now), (w_Act cs (hX 2) h_act laa I_act V_act), (w_Slt cs (hX 3) h_slt lsa I_slt V_slt)]) s.heap.size = A at hD ⊢
  have hA : ∀ q : Nat, s.heap.size ≤ q → A q := fun q h => by rw [← hAe]; exact Or.inr h
  have hl := lv_entry ([.ref o]) (n := 1) (Nat.le_of_ble_eq_true rfl)
  rw [show entryFrame m args 1 = entryFrame m ([.ref o] : List Value).toArray 1 from by rw [ha], lg_entry_eq]
  generalize (lg_sl ([.ref o]) ++ List.replicate (1 - (lg_sl ([.ref o])).length) Slot.unset).toArray = ls at hl ⊢
  generalize hQ : MQ below (va_Qi (fun r u => (r, u) = out) (fun (u : FI × FV × FI × FV) t => xA D cs A (List.flatten [(w_X cs o hX I V), (w_Txt cs (hX 0) h_txt I_txt V_txt), (w_Led cs (hX 1) h_now u.1 u.2.1), (w_Act cs (hX 2) h_act laa u.2.2.1 V_act), (w_Slt cs (hX 3) h_slt lsa I_slt u.2.2.2)]) t) A) args s 0 0 A = Q
  have hret : ∀ (v : Int32) (Inow9 : FI) (Vnow9 : FV) (Iact9 : FI) (Vslt9 : FV) (H : Heap) (locs : List Loc) (pc : Nat) (ls : Array Slot), some (v, Inow9, Vnow9, Iact9, Vslt9) = some out → va_P D vwCl (List.flatten [(w_X cs o hX I V), (w_Txt cs (hX 0) h_txt I_txt V_txt), (w_Led cs (hX 1) h_now Inow9 Vnow9), (w_Act cs (hX 2) h_act laa Iact9 V_act), (w_Slt cs (hX 3) h_slt lsa I_slt Vslt9)]) H → va_D A (List.flatten [(w_X cs o hX I V), (w_Txt cs (hX 0) h_txt I_txt V_txt), (w_Led cs (hX 1) h_now Inow9 Vnow9), (w_Act cs (hX 2) h_act laa Iact9 V_act), (w_Slt cs (hX 3) h_slt lsa I_slt Vslt9)]) → va_S A s.heap H locs → decode cX9_book pc = .ok (.ireturn, 1) → W p l e rm_X_book s m args below meth c H locs 0 0 Q (F0 m pc ls [.int v]) := by
    intro v Inow9 Vnow9 Iact9 Vslt9 H locs pc ls hf hP hD hS hd
    rw [← hQ]
    exact W.iret (v := v) hx hb hr (fun t ht hW => ⟨⟨v, (Inow9, Vnow9, Iact9, Vslt9), rfl, Option.some.inj hf, by show va_P D vwCl (List.flatten [(w_X cs o hX I V), (w_Txt cs (hX 0) h_txt I_txt V_txt), (w_Led cs (hX 1) h_now Inow9 Vnow9), (w_Act cs (hX 2) h_act laa Iact9 V_act), (w_Slt cs (hX 3) h_slt lsa I_slt Vslt9)]) t.heap; rw [ht]; exact hP, va_K.moved hW.alike hK, hD⟩, hS.F ht⟩) hS.2.2 hd
  exact v_X_book hf hx hb hml hown hts in_X9 in_X8 in_X3 in_X0 in_X7 g_10 w_firstFault_80 g_19 w_tellTo_84 g_26 w_clear_88 g_33 w_clear_91 g_92 hA hP hD hK hN hret ls hl
def X_about (f : Nat) (x1 : Int32) (I : FI) (V : FV) (I_now : FI) (V_now : FV) (I_act : FI) (V_act : FV) (I_day : FI) (V_day : FV) (I_txt : FI) (V_txt : FV) : Option (Int32) := (if x1 = 0 then some (I_now 0) else if x1 = 1 then some (I_now 1) else if x1 = 2 then some (I_now 2) else if x1 = 3 then some (I_act 2) else if x1 = 4 then some (I_now 3) else if x1 = 5 then some (I_now 4) else if x1 = 6 then ob1 (Led_allMornings f I_now V_now) (fun zr1 => some zr1) else if x1 = 7 then ob1 (Led_allOwed f I_now V_now) (fun zr2 => some zr2) else if x1 = 8 then some (I_day 3) else if x1 = 9 then some (I_txt 1) else some (-2))
abbrev rm_X_about : Room := { frames := 1, cells := 0, slots := 0, locals := 22 }
set_option maxHeartbeats 4000000 in
set_option maxRecDepth 100000 in
theorem v_X_about {l : Launch} {p : Program} {e : Env} {s : State} {m : MethodId} {args : Array Value} {below : List Frame} {meth : Method} {c : Code} {Q : State → Prop} {D : va_G} {cs : Nat → ClassId} {o : Nat} {hX : Nat → Nat} {h_now : Nat → Nat} {h_act : Nat → Nat} {laa : Nat → Nat} {h_day : Nat → Nat} {h_txt : Nat → Nat} {I : FI} {V : FV} {I_now : FI} {V_now : FV} {I_act : FI} {V_act : FV} {I_day : FI} {V_day : FV} {I_txt : FI} {V_txt : FV} {x1 : Int32} {f : Nat} {out : Int32} (hf : X_about f x1 I V I_now V_now I_act V_act I_day V_day I_txt V_txt = some out) (hx : p.tables.exec = Jvm.exec) (hb : c.code = cX9_about) (hml : c.maxLocals = 2) (hown : s.vm.findClass RX9 = some m.cls) (hts : ∀ w ∈ wsX9_about, w.before args s = true) (in_X9 : ∀ w ∈ u_ws RX9 TX9 9, w ∈ wsX9_about) (in_X3 : ∀ w ∈ u_ws RX3 TX3 11, w ∈ wsX9_about) (in_X0 : ∀ w ∈ u_ws RX0 TX0 3, w ∈ wsX9_about) (in_X2 : ∀ w ∈ u_ws RX2 TX2 4, w ∈ wsX9_about) (in_X8 : ∀ w ∈ u_ws RX8 TX8 2, w ∈ wsX9_about) (g_19 : (Cond.fieldLink RX9 19 "DaysLent" "now" "LDaysLent$Ledger;").before args s = true) (g_92 : (Cond.fieldLink RX9 92 "DaysLent$Ledger" "people" "I").before args s = true) (g_95 : (Cond.fieldLink RX9 95 "DaysLent$Ledger" "debts" "I").before args s = true) (g_98 : (Cond.fieldLink RX9 98 "DaysLent$Ledger" "weekNumber" "I").before args s = true) (g_26 : (Cond.fieldLink RX9 26 "DaysLent" "acts" "LDaysLent$Acts;").before args s = true) (g_101 : (Cond.fieldLink RX9 101 "DaysLent$Acts" "count" "I").before args s = true) (g_104 : (Cond.fieldLink RX9 104 "DaysLent$Ledger" "alive" "I").before args s = true) (g_107 : (Cond.fieldLink RX9 107 "DaysLent$Ledger" "broken" "I").before args s = true) (w_allMornings_110 : CallW rm_X_about s args RX9 RX3 110 yX3_allMornings cX3_allMornings 3 (some .int) wsX3_allMornings rm_Led_allMornings 0 0 0) (w_allOwed_113 : CallW rm_X_about s args RX9 RX3 113 yX3_allOwed cX3_allOwed 3 (some .int) wsX3_allOwed rm_Led_allOwed 0 0 0) (g_40 : (Cond.fieldLink RX9 40 "DaysLent" "days" "LDaysLent$DayBook;").before args s = true) (g_116 : (Cond.fieldLink RX9 116 "DaysLent$DayBook" "count" "I").before args s = true) (g_10 : (Cond.fieldLink RX9 10 "DaysLent" "text" "LDaysLent$Text;").before args s = true) (g_76 : (Cond.fieldLink RX9 76 "DaysLent$Text" "length" "I").before args s = true) (hP : va_P D vwCl (List.flatten [(w_X cs o hX I V), (w_Led cs (hX 1) h_now I_now V_now), (w_Act cs (hX 2) h_act laa I_act V_act), (w_Day cs (hX 4) h_day I_day V_day), (w_Txt cs (hX 0) h_txt I_txt V_txt)]) s.heap) (hK : va_K D vwCl (tyA cs) s) (hN : yN s) (hret : ∀ (v : Int32) (pc : Nat) (ls : Array Slot), some v = some out → decode cX9_about pc = .ok (.ireturn, 1) → W p l e rm_X_about s m args below meth c s.heap [] 0 0 Q (F0 m pc ls [.int v])) : ∀ ls : Array Slot, lv_has ls 2 [(0, .ref o), (1, .int x1)] → W p l e rm_X_about s m args below meth c s.heap [] 0 0 Q (F0 m 0 ls []) := by
  intro ls hl
  unfold X_about at hf
  refine lv_iload_n hx hb dX9_about_0 rfl (lv_at hl 1 rfl) ?_
  by_cases c1_0 : x1 = 0
  · replace hf := ip c1_0 hf
    refine lv_tableIn (tgt := 56) hx hb dX9_about_1 (by rw [c1_0]; decide) (by rw [c1_0]; decide) (by rw [c1_0]; rfl) (by decide) ?_
    refine lv_aload_n hx hb dX9_about_56 rfl (lv_at hl 0 rfl) ?_
    refine va_get (D := D) (ci := 9) (v := .ref (hX 1)) (C := RX9) (T := TX9) (N := 9) hx hb hts in_X9 hown hK hP 0 rfl rfl 1 (by decide) g_19 (fun _ h9 => h9) rfl dX9_about_57 ?_
    refine va_get (D := D) (ci := 3) (v := .int (I_now 0)) (C := RX3) (T := TX3) (N := 11) hx hb hts in_X3 hown hK hP 1 rfl rfl 0 (by decide) g_92 (fun _ h9 => h9) rfl dX9_about_60 ?_
    exact hret (I_now 0) 63 _ hf dX9_about_63
  replace hf := im c1_0 hf
  by_cases c1_1 : x1 = 1
  · replace hf := ip c1_1 hf
    refine lv_tableIn (tgt := 64) hx hb dX9_about_1 (by rw [c1_1]; decide) (by rw [c1_1]; decide) (by rw [c1_1]; rfl) (by decide) ?_
    refine lv_aload_n hx hb dX9_about_64 rfl (lv_at hl 0 rfl) ?_
    refine va_get (D := D) (ci := 9) (v := .ref (hX 1)) (C := RX9) (T := TX9) (N := 9) hx hb hts in_X9 hown hK hP 0 rfl rfl 1 (by decide) g_19 (fun _ h9 => h9) rfl dX9_about_65 ?_
    refine va_get (D := D) (ci := 3) (v := .int (I_now 1)) (C := RX3) (T := TX3) (N := 11) hx hb hts in_X3 hown hK hP 1 rfl rfl 1 (by decide) g_95 (fun _ h9 => h9) rfl dX9_about_68 ?_
    exact hret (I_now 1) 71 _ hf dX9_about_71
  replace hf := im c1_1 hf
  by_cases c1_2 : x1 = 2
  · replace hf := ip c1_2 hf
    refine lv_tableIn (tgt := 72) hx hb dX9_about_1 (by rw [c1_2]; decide) (by rw [c1_2]; decide) (by rw [c1_2]; rfl) (by decide) ?_
    refine lv_aload_n hx hb dX9_about_72 rfl (lv_at hl 0 rfl) ?_
    refine va_get (D := D) (ci := 9) (v := .ref (hX 1)) (C := RX9) (T := TX9) (N := 9) hx hb hts in_X9 hown hK hP 0 rfl rfl 1 (by decide) g_19 (fun _ h9 => h9) rfl dX9_about_73 ?_
    refine va_get (D := D) (ci := 3) (v := .int (I_now 2)) (C := RX3) (T := TX3) (N := 11) hx hb hts in_X3 hown hK hP 1 rfl rfl 2 (by decide) g_98 (fun _ h9 => h9) rfl dX9_about_76 ?_
    exact hret (I_now 2) 79 _ hf dX9_about_79
  replace hf := im c1_2 hf
  by_cases c1_3 : x1 = 3
  · replace hf := ip c1_3 hf
    refine lv_tableIn (tgt := 80) hx hb dX9_about_1 (by rw [c1_3]; decide) (by rw [c1_3]; decide) (by rw [c1_3]; rfl) (by decide) ?_
    refine lv_aload_n hx hb dX9_about_80 rfl (lv_at hl 0 rfl) ?_
    refine va_get (D := D) (ci := 9) (v := .ref (hX 2)) (C := RX9) (T := TX9) (N := 9) hx hb hts in_X9 hown hK hP 0 rfl rfl 2 (by decide) g_26 (fun _ h9 => h9) rfl dX9_about_81 ?_
    refine va_get (D := D) (ci := 0) (v := .int (I_act 2)) (C := RX0) (T := TX0) (N := 3) hx hb hts in_X0 hown hK hP 8 rfl rfl 2 (by decide) g_101 (fun _ h9 => h9) rfl dX9_about_84 ?_
    exact hret (I_act 2) 87 _ hf dX9_about_87
  replace hf := im c1_3 hf
  by_cases c1_4 : x1 = 4
  · replace hf := ip c1_4 hf
    refine lv_tableIn (tgt := 88) hx hb dX9_about_1 (by rw [c1_4]; decide) (by rw [c1_4]; decide) (by rw [c1_4]; rfl) (by decide) ?_
    refine lv_aload_n hx hb dX9_about_88 rfl (lv_at hl 0 rfl) ?_
    refine va_get (D := D) (ci := 9) (v := .ref (hX 1)) (C := RX9) (T := TX9) (N := 9) hx hb hts in_X9 hown hK hP 0 rfl rfl 1 (by decide) g_19 (fun _ h9 => h9) rfl dX9_about_89 ?_
    refine va_get (D := D) (ci := 3) (v := .int (I_now 3)) (C := RX3) (T := TX3) (N := 11) hx hb hts in_X3 hown hK hP 1 rfl rfl 3 (by decide) g_104 (fun _ h9 => h9) rfl dX9_about_92 ?_
    exact hret (I_now 3) 95 _ hf dX9_about_95
  replace hf := im c1_4 hf
  by_cases c1_5 : x1 = 5
  · replace hf := ip c1_5 hf
    refine lv_tableIn (tgt := 96) hx hb dX9_about_1 (by rw [c1_5]; decide) (by rw [c1_5]; decide) (by rw [c1_5]; rfl) (by decide) ?_
    refine lv_aload_n hx hb dX9_about_96 rfl (lv_at hl 0 rfl) ?_
    refine va_get (D := D) (ci := 9) (v := .ref (hX 1)) (C := RX9) (T := TX9) (N := 9) hx hb hts in_X9 hown hK hP 0 rfl rfl 1 (by decide) g_19 (fun _ h9 => h9) rfl dX9_about_97 ?_
    refine va_get (D := D) (ci := 3) (v := .int (I_now 4)) (C := RX3) (T := TX3) (N := 11) hx hb hts in_X3 hown hK hP 1 rfl rfl 4 (by decide) g_107 (fun _ h9 => h9) rfl dX9_about_100 ?_
    exact hret (I_now 4) 103 _ hf dX9_about_103
  replace hf := im c1_5 hf
  by_cases c1_6 : x1 = 6
  · replace hf := ip c1_6 hf
    refine lv_tableIn (tgt := 104) hx hb dX9_about_1 (by rw [c1_6]; decide) (by rw [c1_6]; decide) (by rw [c1_6]; rfl) (by decide) ?_
    refine lv_aload_n hx hb dX9_about_104 rfl (lv_at hl 0 rfl) ?_
    refine va_get (D := D) (ci := 9) (v := .ref (hX 1)) (C := RX9) (T := TX9) (N := 9) hx hb hts in_X9 hown hK hP 0 rfl rfl 1 (by decide) g_19 (fun _ h9 => h9) rfl dX9_about_105 ?_
    have hPc := subB (bs := [(w_X cs o hX I V), (w_Led cs (hX 1) h_now I_now V_now), (w_Act cs (hX 2) h_act laa I_act V_act), (w_Day cs (hX 4) h_day I_day V_day), (w_Txt cs (hX 0) h_txt I_txt V_txt)]) (ca := [(w_Led cs (hX 1) h_now I_now V_now)]) (ra := [(w_X cs o hX I V), (w_Act cs (hX 2) h_act laa I_act V_act), (w_Day cs (hX 4) h_day I_day V_day), (w_Txt cs (hX 0) h_txt I_txt V_txt)]) [1, 0, 2, 3, 4] (by decide) rfl rfl hP
    obtain ⟨zr1, qr1, hf⟩ := bd1 hf
    refine vp_callSi (va_Run.run (va_runV (As := []) (rest := []) ⟨hx, hb, hml, hown, hts⟩ (c_Led_allMornings l D cs (hX 1) h_now I_now V_now f zr1 qr1) w_allMornings_110 ⟨yR_moved, va_recv hK hPc (ci := 3) (q0 := 0) rfl rfl, fun U hU hW => ⟨rfl, by rw [hU]; exact hPc, va_K.moved hW.alike hK, yN_warm hW hN⟩⟩ rfl rfl hl.1 rfl (lv_room (Nat.le_of_ble_eq_true rfl)) dX9_about_108 ⟨Nat.zero_le _, Nat.zero_le _⟩)) (fun r1 er1 => ?_)
    rw [er1]
    exact hret zr1 111 _ hf dX9_about_111
  replace hf := im c1_6 hf
  by_cases c1_7 : x1 = 7
  · replace hf := ip c1_7 hf
    refine lv_tableIn (tgt := 112) hx hb dX9_about_1 (by rw [c1_7]; decide) (by rw [c1_7]; decide) (by rw [c1_7]; rfl) (by decide) ?_
    refine lv_aload_n hx hb dX9_about_112 rfl (lv_at hl 0 rfl) ?_
    refine va_get (D := D) (ci := 9) (v := .ref (hX 1)) (C := RX9) (T := TX9) (N := 9) hx hb hts in_X9 hown hK hP 0 rfl rfl 1 (by decide) g_19 (fun _ h9 => h9) rfl dX9_about_113 ?_
    have hPc := subB (bs := [(w_X cs o hX I V), (w_Led cs (hX 1) h_now I_now V_now), (w_Act cs (hX 2) h_act laa I_act V_act), (w_Day cs (hX 4) h_day I_day V_day), (w_Txt cs (hX 0) h_txt I_txt V_txt)]) (ca := [(w_Led cs (hX 1) h_now I_now V_now)]) (ra := [(w_X cs o hX I V), (w_Act cs (hX 2) h_act laa I_act V_act), (w_Day cs (hX 4) h_day I_day V_day), (w_Txt cs (hX 0) h_txt I_txt V_txt)]) [1, 0, 2, 3, 4] (by decide) rfl rfl hP
    obtain ⟨zr2, qr2, hf⟩ := bd1 hf
    refine vp_callSi (va_Run.run (va_runV (As := []) (rest := []) ⟨hx, hb, hml, hown, hts⟩ (c_Led_allOwed l D cs (hX 1) h_now I_now V_now f zr2 qr2) w_allOwed_113 ⟨yR_moved, va_recv hK hPc (ci := 3) (q0 := 0) rfl rfl, fun U hU hW => ⟨rfl, by rw [hU]; exact hPc, va_K.moved hW.alike hK, yN_warm hW hN⟩⟩ rfl rfl hl.1 rfl (lv_room (Nat.le_of_ble_eq_true rfl)) dX9_about_116 ⟨Nat.zero_le _, Nat.zero_le _⟩)) (fun r2 er2 => ?_)
    rw [er2]
    exact hret zr2 119 _ hf dX9_about_119
  replace hf := im c1_7 hf
  by_cases c1_8 : x1 = 8
  · replace hf := ip c1_8 hf
    refine lv_tableIn (tgt := 120) hx hb dX9_about_1 (by rw [c1_8]; decide) (by rw [c1_8]; decide) (by rw [c1_8]; rfl) (by decide) ?_
    refine lv_aload_n hx hb dX9_about_120 rfl (lv_at hl 0 rfl) ?_
    refine va_get (D := D) (ci := 9) (v := .ref (hX 4)) (C := RX9) (T := TX9) (N := 9) hx hb hts in_X9 hown hK hP 0 rfl rfl 4 (by decide) g_40 (fun _ h9 => h9) rfl dX9_about_121 ?_
    refine va_get (D := D) (ci := 2) (v := .int (I_day 3)) (C := RX2) (T := TX2) (N := 4) hx hb hts in_X2 hown hK hP 10 rfl rfl 3 (by decide) g_116 (fun _ h9 => h9) rfl dX9_about_124 ?_
    exact hret (I_day 3) 127 _ hf dX9_about_127
  replace hf := im c1_8 hf
  by_cases c1_9 : x1 = 9
  · replace hf := ip c1_9 hf
    refine lv_tableIn (tgt := 128) hx hb dX9_about_1 (by rw [c1_9]; decide) (by rw [c1_9]; decide) (by rw [c1_9]; rfl) (by decide) ?_
    refine lv_aload_n hx hb dX9_about_128 rfl (lv_at hl 0 rfl) ?_
    refine va_get (D := D) (ci := 9) (v := .ref (hX 0)) (C := RX9) (T := TX9) (N := 9) hx hb hts in_X9 hown hK hP 0 rfl rfl 0 (by decide) g_10 (fun _ h9 => h9) rfl dX9_about_129 ?_
    refine va_get (D := D) (ci := 8) (v := .int (I_txt 1)) (C := RX8) (T := TX8) (N := 2) hx hb hts in_X8 hown hK hP 14 rfl rfl 1 (by decide) g_76 (fun _ h9 => h9) rfl dX9_about_132 ?_
    exact hret (I_txt 1) 135 _ hf dX9_about_135
  replace hf := im c1_9 hf
  refine lv_tableOut (tgt := 136) hx hb dX9_about_1 (by have nc1_0 := lv_neT (a := 0) c1_0 rfl; have nc1_1 := lv_neT (a := 1) c1_1 rfl; have nc1_2 := lv_neT (a := 2) c1_2 rfl; have nc1_3 := lv_neT (a := 3) c1_3 rfl; have nc1_4 := lv_neT (a := 4) c1_4 rfl; have nc1_5 := lv_neT (a := 5) c1_5 rfl; have nc1_6 := lv_neT (a := 6) c1_6 rfl; have nc1_7 := lv_neT (a := 7) c1_7 rfl; have nc1_8 := lv_neT (a := 8) c1_8 rfl; have nc1_9 := lv_neT (a := 9) c1_9 rfl; omega) (by decide) ?_
  refine lv_bipush (v := (-2)) hx hb dX9_about_136 (by decide) ?_
  exact hret (-2) 138 _ hf dX9_about_138
set_option maxHeartbeats 4000000 in
set_option maxRecDepth 100000 in
theorem c_X_about (l : Launch) (D : va_G) (cs : Nat → ClassId) (o : Nat) (hX : Nat → Nat) (h_now : Nat → Nat) (h_act : Nat → Nat) (laa : Nat → Nat) (h_day : Nat → Nat) (h_txt : Nat → Nat) (I : FI) (V : FV) (I_now : FI) (V_now : FV) (I_act : FI) (V_act : FV) (I_day : FI) (V_day : FV) (I_txt : FI) (V_txt : FV) (x1 : Int32) (f : Nat) (out : Int32) (hf : X_about f x1 I V I_now V_now I_act V_act I_day V_day I_txt V_txt = some out) : Met l yX9_about wsX9_about rm_X_about (va_Pc [.ref o, .int x1] (yR D cs (List.flatten [(w_X cs o hX I V), (w_Led cs (hX 1) h_now I_now V_now), (w_Act cs (hX 2) h_act laa I_act V_act), (w_Day cs (hX 4) h_day I_day V_day), (w_Txt cs (hX 0) h_txt I_txt V_txt)]))) (vp_Si (fun r => r = out)) 0 0 (fun _ => False) := by
  refine Met.ofW (cc := cX9_about) (maxL := 2) (ret := (some .int)) (by decide) rfl ?_
  intro p e s m args below meth c s₁ B hml hv
  obtain ⟨ha, hP, hK, hN⟩ := hv
  have hx := B.exec
  have hb := B.bytes
  have hr := B.returns
  have hts := atoms_spec (ws := wsX9_about) B.pre
  have hown : s.vm.findClass RX9 = some m.cls := findClass_of_methodNamed B.named
  have hlocks := B.notSynchronized
  have in_X9 : ∀ w ∈ u_ws RX9 TX9 9, w ∈ wsX9_about := fun w h => List.mem_cons_of_mem _ (List.mem_append_left _ (List.mem_append_left _ (List.mem_append_left _ (List.mem_append_left _ (List.mem_append_right _ h)))))
  have in_X3 : ∀ w ∈ u_ws RX3 TX3 11, w ∈ wsX9_about := fun w h => List.mem_cons_of_mem _ (List.mem_append_left _ (List.mem_append_left _ (List.mem_append_left _ (List.mem_append_right _ h))))
  have in_X0 : ∀ w ∈ u_ws RX0 TX0 3, w ∈ wsX9_about := fun w h => List.mem_cons_of_mem _ (List.mem_append_left _ (List.mem_append_left _ (List.mem_append_right _ h)))
  have in_X2 : ∀ w ∈ u_ws RX2 TX2 4, w ∈ wsX9_about := fun w h => List.mem_cons_of_mem _ (List.mem_append_left _ (List.mem_append_right _ h))
  have in_X8 : ∀ w ∈ u_ws RX8 TX8 2, w ∈ wsX9_about := fun w h => List.mem_cons_of_mem _ (List.mem_append_right _ h)
  have g_19 := hts (Cond.fieldLink RX9 19 "DaysLent" "now" "LDaysLent$Ledger;") (by decide +kernel)
  have g_92 := hts (Cond.fieldLink RX9 92 "DaysLent$Ledger" "people" "I") (by decide +kernel)
  have g_95 := hts (Cond.fieldLink RX9 95 "DaysLent$Ledger" "debts" "I") (by decide +kernel)
  have g_98 := hts (Cond.fieldLink RX9 98 "DaysLent$Ledger" "weekNumber" "I") (by decide +kernel)
  have g_26 := hts (Cond.fieldLink RX9 26 "DaysLent" "acts" "LDaysLent$Acts;") (by decide +kernel)
  have g_101 := hts (Cond.fieldLink RX9 101 "DaysLent$Acts" "count" "I") (by decide +kernel)
  have g_104 := hts (Cond.fieldLink RX9 104 "DaysLent$Ledger" "alive" "I") (by decide +kernel)
  have g_107 := hts (Cond.fieldLink RX9 107 "DaysLent$Ledger" "broken" "I") (by decide +kernel)
  have w_allMornings_110 := cwV (R := rm_X_about) (s := s) (args := args) (rm := rm_Led_allMornings) (mc := 0) (ms := 0) 0 hts gX9_about_X3_allMornings rfl rfl rfl (by decide +kernel) ⟨Nat.le_of_ble_eq_true rfl, Nat.le_of_ble_eq_true rfl⟩
  have w_allOwed_113 := cwV (R := rm_X_about) (s := s) (args := args) (rm := rm_Led_allOwed) (mc := 0) (ms := 0) 0 hts gX9_about_X3_allOwed rfl rfl rfl (by decide +kernel) ⟨Nat.le_of_ble_eq_true rfl, Nat.le_of_ble_eq_true rfl⟩
  have g_40 := hts (Cond.fieldLink RX9 40 "DaysLent" "days" "LDaysLent$DayBook;") (by decide +kernel)
  have g_116 := hts (Cond.fieldLink RX9 116 "DaysLent$DayBook" "count" "I") (by decide +kernel)
  have g_10 := hts (Cond.fieldLink RX9 10 "DaysLent" "text" "LDaysLent$Text;") (by decide +kernel)
  have g_76 := hts (Cond.fieldLink RX9 76 "DaysLent$Text" "length" "I") (by decide +kernel)
  have hl := lv_entry ([.ref o, .int x1]) (n := 2) (Nat.le_of_ble_eq_true rfl)
  rw [show entryFrame m args 2 = entryFrame m ([.ref o, .int x1] : List Value).toArray 2 from by rw [ha], lg_entry_eq]
  generalize (lg_sl ([.ref o, .int x1]) ++ List.replicate (2 - (lg_sl ([.ref o, .int x1])).length) Slot.unset).toArray = ls at hl ⊢
  generalize hQ : MQ below (vp_Si (fun r => r = out)) args s 0 0 (fun _ => False) = Q
  have hret : ∀ (v : Int32) (pc : Nat) (ls : Array Slot), some v = some out → decode cX9_about pc = .ok (.ireturn, 1) → W p l e rm_X_about s m args below meth c s.heap [] 0 0 Q (F0 m pc ls [.int v]) := by
    intro v pc ls hf hd
    rw [← hQ]
    exact W.iret (v := v) hx hb hr (fun t ht hW => ⟨v, rfl, Option.some.inj hf, ht⟩) (fun q h => by cases h) hd
  exact v_X_about hf hx hb hml hown hts in_X9 in_X3 in_X0 in_X2 in_X8 g_19 g_92 g_95 g_98 g_26 g_101 g_104 g_107 w_allMornings_110 w_allOwed_113 g_40 g_116 g_10 g_76 hP hK hN hret ls hl
def X_person (f : Nat) (x1 : Int32) (x2 : Int32) (I : FI) (V : FV) (I_now : FI) (V_now : FV) : Option (Int32) := ob1 (Led_has f x1 I_now V_now) (fun zr1 => (if zr1 = 0 then some (-1) else (if x2 = 0 then if x1 < 0 ∨ 6 ≤ x1.toNatClampNeg then none else (some ((V_now 5) x1.toNatClampNeg)) else if x2 = 1 then if x1 < 0 ∨ 6 ≤ x1.toNatClampNeg then none else (some ((V_now 6) x1.toNatClampNeg)) else if x2 = 2 then ob1 (Led_isAlive f x1 I_now V_now) (fun zr2 => (if zr2 = 0 then some 0 else some 1)) else if x2 = 3 then ob1 (Led_isBroken f x1 I_now V_now) (fun zr3 => (if zr3 = 0 then some 0 else some 1)) else if x2 = 4 then ob1 (Led_owedBy f x1 I_now V_now) (fun zr4 => some zr4) else if x2 = 5 then ob1 (Led_owedTo f x1 I_now V_now) (fun zr5 => some zr5) else if x2 = 6 then ob1 (Led_netOf f x1 I_now V_now) (fun zr6 => some (zr6 + 10000)) else some (-2))))
abbrev rm_X_person : Room := { frames := 2, cells := 0, slots := 0, locals := 44 }
set_option maxHeartbeats 4000000 in
set_option maxRecDepth 100000 in
theorem v_X_person {l : Launch} {p : Program} {e : Env} {s : State} {m : MethodId} {args : Array Value} {below : List Frame} {meth : Method} {c : Code} {Q : State → Prop} {D : va_G} {cs : Nat → ClassId} {o : Nat} {hX : Nat → Nat} {h_now : Nat → Nat} {I : FI} {V : FV} {I_now : FI} {V_now : FV} {x1 : Int32} {x2 : Int32} {f : Nat} {out : Int32} (hf : X_person f x1 x2 I V I_now V_now = some out) (hx : p.tables.exec = Jvm.exec) (hb : c.code = cX9_person) (hml : c.maxLocals = 3) (hown : s.vm.findClass RX9 = some m.cls) (hts : ∀ w ∈ wsX9_person, w.before args s = true) (in_X9 : ∀ w ∈ u_ws RX9 TX9 9, w ∈ wsX9_person) (in_X3 : ∀ w ∈ u_ws RX3 TX3 11, w ∈ wsX9_person) (g_19 : (Cond.fieldLink RX9 19 "DaysLent" "now" "LDaysLent$Ledger;").before args s = true) (w_has_117 : CallW rm_X_person s args RX9 RX3 117 yX3_has cX3_has 2 (some .boolean) wsX3_has rm_Led_has 0 0 1) (g_121 : (Cond.fieldLink RX9 121 "DaysLent$Ledger" "mornings" "[I").before args s = true) (g_125 : (Cond.fieldLink RX9 125 "DaysLent$Ledger" "asks" "[I").before args s = true) (w_isAlive_128 : CallW rm_X_person s args RX9 RX3 128 yX3_isAlive cX3_isAlive 2 (some .boolean) wsX3_isAlive rm_Led_isAlive 0 0 1) (w_isBroken_131 : CallW rm_X_person s args RX9 RX3 131 yX3_isBroken cX3_isBroken 2 (some .boolean) wsX3_isBroken rm_Led_isBroken 0 0 1) (w_owedBy_134 : CallW rm_X_person s args RX9 RX3 134 yX3_owedBy cX3_owedBy 4 (some .int) wsX3_owedBy rm_Led_owedBy 0 0 1) (w_owedTo_138 : CallW rm_X_person s args RX9 RX3 138 yX3_owedTo cX3_owedTo 4 (some .int) wsX3_owedTo rm_Led_owedTo 0 0 1) (w_netOf_141 : CallW rm_X_person s args RX9 RX3 141 yX3_netOf cX3_netOf 2 (some .int) wsX3_netOf rm_Led_netOf 0 0 1) (hP : va_P D vwCl (List.flatten [(w_X cs o hX I V), (w_Led cs (hX 1) h_now I_now V_now)]) s.heap) (hK : va_K D vwCl (tyA cs) s) (hN : yN s) (hret : ∀ (v : Int32) (pc : Nat) (ls : Array Slot), some v = some out → decode cX9_person pc = .ok (.ireturn, 1) → W p l e rm_X_person s m args below meth c s.heap [] 0 0 Q (F0 m pc ls [.int v])) : ∀ ls : Array Slot, lv_has ls 3 [(0, .ref o), (1, .int x1), (2, .int x2)] → W p l e rm_X_person s m args below meth c s.heap [] 0 0 Q (F0 m 0 ls []) := by
  intro ls hl
  unfold X_person at hf
  refine lv_aload_n hx hb dX9_person_0 rfl (lv_at hl 0 rfl) ?_
  refine va_get (D := D) (ci := 9) (v := .ref (hX 1)) (C := RX9) (T := TX9) (N := 9) hx hb hts in_X9 hown hK hP 0 rfl rfl 1 (by decide) g_19 (fun _ h9 => h9) rfl dX9_person_1 ?_
  refine lv_iload_n hx hb dX9_person_4 rfl (lv_at hl 1 rfl) ?_
  have hPc := subB (bs := [(w_X cs o hX I V), (w_Led cs (hX 1) h_now I_now V_now)]) (ca := [(w_Led cs (hX 1) h_now I_now V_now)]) (ra := [(w_X cs o hX I V)]) [1, 0] (by decide) rfl rfl hP
  obtain ⟨zr1, qr1, hf⟩ := bd1 hf
  refine vp_callSi (va_Run.run (va_runV (As := [.int x1]) (rest := []) ⟨hx, hb, hml, hown, hts⟩ (c_Led_has l D cs (hX 1) h_now I_now V_now x1 f zr1 qr1) w_has_117 ⟨yR_moved, va_recv hK hPc (ci := 3) (q0 := 0) rfl rfl, fun U hU hW => ⟨rfl, by rw [hU]; exact hPc, va_K.moved hW.alike hK, yN_warm hW hN⟩⟩ rfl rfl hl.1 rfl (lv_room (Nat.le_of_ble_eq_true rfl)) dX9_person_5 ⟨Nat.zero_le _, Nat.zero_le _⟩)) (fun r1 er1 => ?_)
  rw [er1]
  refine lv_if_ne (tgt := 13) hx hb dX9_person_8 (by decide) (fun c8 => ?_) (fun c8 => ?_)
  · replace hf := im c8 hf
    refine lv_iload_n hx hb dX9_person_13 rfl (lv_at hl 2 rfl) ?_
    by_cases c14_0 : x2 = 0
    · replace hf := ip c14_0 hf
      refine lv_tableIn (tgt := 56) hx hb dX9_person_14 (by rw [c14_0]; decide) (by rw [c14_0]; decide) (by rw [c14_0]; rfl) (by decide) ?_
      refine lv_aload_n hx hb dX9_person_56 rfl (lv_at hl 0 rfl) ?_
      refine va_get (D := D) (ci := 9) (v := .ref (hX 1)) (C := RX9) (T := TX9) (N := 9) hx hb hts in_X9 hown hK hP 0 rfl rfl 1 (by decide) g_19 (fun _ h9 => h9) rfl dX9_person_57 ?_
      refine va_get (D := D) (ci := 3) (v := .ref (h_now 5)) (C := RX3) (T := TX3) (N := 11) hx hb hts in_X3 hown hK hP 1 rfl rfl 5 (by decide) g_121 (fun _ h9 => h9) rfl dX9_person_60 ?_
      refine lv_iload_n hx hb dX9_person_63 rfl (lv_at hl 1 rfl) ?_
      obtain ⟨c64, hf⟩ := gd hf
      refine va_iald (f := (V_now 5)) hx hb hK hP 2 0 rfl rfl c64 dX9_person_64 ?_
      exact hret ((V_now 5) x1.toNatClampNeg) 65 _ hf dX9_person_65
    replace hf := im c14_0 hf
    by_cases c14_1 : x2 = 1
    · replace hf := ip c14_1 hf
      refine lv_tableIn (tgt := 66) hx hb dX9_person_14 (by rw [c14_1]; decide) (by rw [c14_1]; decide) (by rw [c14_1]; rfl) (by decide) ?_
      refine lv_aload_n hx hb dX9_person_66 rfl (lv_at hl 0 rfl) ?_
      refine va_get (D := D) (ci := 9) (v := .ref (hX 1)) (C := RX9) (T := TX9) (N := 9) hx hb hts in_X9 hown hK hP 0 rfl rfl 1 (by decide) g_19 (fun _ h9 => h9) rfl dX9_person_67 ?_
      refine va_get (D := D) (ci := 3) (v := .ref (h_now 6)) (C := RX3) (T := TX3) (N := 11) hx hb hts in_X3 hown hK hP 1 rfl rfl 6 (by decide) g_125 (fun _ h9 => h9) rfl dX9_person_70 ?_
      refine lv_iload_n hx hb dX9_person_73 rfl (lv_at hl 1 rfl) ?_
      obtain ⟨c74, hf⟩ := gd hf
      refine va_iald (f := (V_now 6)) hx hb hK hP 3 0 rfl rfl c74 dX9_person_74 ?_
      exact hret ((V_now 6) x1.toNatClampNeg) 75 _ hf dX9_person_75
    replace hf := im c14_1 hf
    by_cases c14_2 : x2 = 2
    · replace hf := ip c14_2 hf
      refine lv_tableIn (tgt := 76) hx hb dX9_person_14 (by rw [c14_2]; decide) (by rw [c14_2]; decide) (by rw [c14_2]; rfl) (by decide) ?_
      refine lv_aload_n hx hb dX9_person_76 rfl (lv_at hl 0 rfl) ?_
      refine va_get (D := D) (ci := 9) (v := .ref (hX 1)) (C := RX9) (T := TX9) (N := 9) hx hb hts in_X9 hown hK hP 0 rfl rfl 1 (by decide) g_19 (fun _ h9 => h9) rfl dX9_person_77 ?_
      refine lv_iload_n hx hb dX9_person_80 rfl (lv_at hl 1 rfl) ?_
      have hPc := subB (bs := [(w_X cs o hX I V), (w_Led cs (hX 1) h_now I_now V_now)]) (ca := [(w_Led cs (hX 1) h_now I_now V_now)]) (ra := [(w_X cs o hX I V)]) [1, 0] (by decide) rfl rfl hP
      obtain ⟨zr2, qr2, hf⟩ := bd1 hf
      refine vp_callSi (va_Run.run (va_runV (As := [.int x1]) (rest := []) ⟨hx, hb, hml, hown, hts⟩ (c_Led_isAlive l D cs (hX 1) h_now I_now V_now x1 f zr2 qr2) w_isAlive_128 ⟨yR_moved, va_recv hK hPc (ci := 3) (q0 := 0) rfl rfl, fun U hU hW => ⟨rfl, by rw [hU]; exact hPc, va_K.moved hW.alike hK, yN_warm hW hN⟩⟩ rfl rfl hl.1 rfl (lv_room (Nat.le_of_ble_eq_true rfl)) dX9_person_81 ⟨Nat.zero_le _, Nat.zero_le _⟩)) (fun r2 er2 => ?_)
      rw [er2]
      refine lv_if_eq (tgt := 91) hx hb dX9_person_84 (by decide) (fun c84 => ?_) (fun c84 => ?_)
      · replace hf := ip c84 hf
        refine lv_iconst (v := 0) hx hb dX9_person_91 (by decide) ?_
        exact hret 0 92 _ hf dX9_person_92
      · replace hf := im c84 hf
        refine lv_iconst (v := 1) hx hb dX9_person_87 (by decide) ?_
        refine lv_goto (tgt := 92) hx hb dX9_person_88 (by decide) ?_
        exact hret 1 92 _ hf dX9_person_92
    replace hf := im c14_2 hf
    by_cases c14_3 : x2 = 3
    · replace hf := ip c14_3 hf
      refine lv_tableIn (tgt := 93) hx hb dX9_person_14 (by rw [c14_3]; decide) (by rw [c14_3]; decide) (by rw [c14_3]; rfl) (by decide) ?_
      refine lv_aload_n hx hb dX9_person_93 rfl (lv_at hl 0 rfl) ?_
      refine va_get (D := D) (ci := 9) (v := .ref (hX 1)) (C := RX9) (T := TX9) (N := 9) hx hb hts in_X9 hown hK hP 0 rfl rfl 1 (by decide) g_19 (fun _ h9 => h9) rfl dX9_person_94 ?_
      refine lv_iload_n hx hb dX9_person_97 rfl (lv_at hl 1 rfl) ?_
      have hPc := subB (bs := [(w_X cs o hX I V), (w_Led cs (hX 1) h_now I_now V_now)]) (ca := [(w_Led cs (hX 1) h_now I_now V_now)]) (ra := [(w_X cs o hX I V)]) [1, 0] (by decide) rfl rfl hP
      obtain ⟨zr3, qr3, hf⟩ := bd1 hf
      refine vp_callSi (va_Run.run (va_runV (As := [.int x1]) (rest := []) ⟨hx, hb, hml, hown, hts⟩ (c_Led_isBroken l D cs (hX 1) h_now I_now V_now x1 f zr3 qr3) w_isBroken_131 ⟨yR_moved, va_recv hK hPc (ci := 3) (q0 := 0) rfl rfl, fun U hU hW => ⟨rfl, by rw [hU]; exact hPc, va_K.moved hW.alike hK, yN_warm hW hN⟩⟩ rfl rfl hl.1 rfl (lv_room (Nat.le_of_ble_eq_true rfl)) dX9_person_98 ⟨Nat.zero_le _, Nat.zero_le _⟩)) (fun r3 er3 => ?_)
      rw [er3]
      refine lv_if_eq (tgt := 108) hx hb dX9_person_101 (by decide) (fun c101 => ?_) (fun c101 => ?_)
      · replace hf := ip c101 hf
        refine lv_iconst (v := 0) hx hb dX9_person_108 (by decide) ?_
        exact hret 0 109 _ hf dX9_person_109
      · replace hf := im c101 hf
        refine lv_iconst (v := 1) hx hb dX9_person_104 (by decide) ?_
        refine lv_goto (tgt := 109) hx hb dX9_person_105 (by decide) ?_
        exact hret 1 109 _ hf dX9_person_109
    replace hf := im c14_3 hf
    by_cases c14_4 : x2 = 4
    · replace hf := ip c14_4 hf
      refine lv_tableIn (tgt := 110) hx hb dX9_person_14 (by rw [c14_4]; decide) (by rw [c14_4]; decide) (by rw [c14_4]; rfl) (by decide) ?_
      refine lv_aload_n hx hb dX9_person_110 rfl (lv_at hl 0 rfl) ?_
      refine va_get (D := D) (ci := 9) (v := .ref (hX 1)) (C := RX9) (T := TX9) (N := 9) hx hb hts in_X9 hown hK hP 0 rfl rfl 1 (by decide) g_19 (fun _ h9 => h9) rfl dX9_person_111 ?_
      refine lv_iload_n hx hb dX9_person_114 rfl (lv_at hl 1 rfl) ?_
      have hPc := subB (bs := [(w_X cs o hX I V), (w_Led cs (hX 1) h_now I_now V_now)]) (ca := [(w_Led cs (hX 1) h_now I_now V_now)]) (ra := [(w_X cs o hX I V)]) [1, 0] (by decide) rfl rfl hP
      obtain ⟨zr4, qr4, hf⟩ := bd1 hf
      refine vp_callSi (va_Run.run (va_runV (As := [.int x1]) (rest := []) ⟨hx, hb, hml, hown, hts⟩ (c_Led_owedBy l D cs (hX 1) h_now I_now V_now x1 f zr4 qr4) w_owedBy_134 ⟨yR_moved, va_recv hK hPc (ci := 3) (q0 := 0) rfl rfl, fun U hU hW => ⟨rfl, by rw [hU]; exact hPc, va_K.moved hW.alike hK, yN_warm hW hN⟩⟩ rfl rfl hl.1 rfl (lv_room (Nat.le_of_ble_eq_true rfl)) dX9_person_115 ⟨Nat.zero_le _, Nat.zero_le _⟩)) (fun r4 er4 => ?_)
      rw [er4]
      exact hret zr4 118 _ hf dX9_person_118
    replace hf := im c14_4 hf
    by_cases c14_5 : x2 = 5
    · replace hf := ip c14_5 hf
      refine lv_tableIn (tgt := 119) hx hb dX9_person_14 (by rw [c14_5]; decide) (by rw [c14_5]; decide) (by rw [c14_5]; rfl) (by decide) ?_
      refine lv_aload_n hx hb dX9_person_119 rfl (lv_at hl 0 rfl) ?_
      refine va_get (D := D) (ci := 9) (v := .ref (hX 1)) (C := RX9) (T := TX9) (N := 9) hx hb hts in_X9 hown hK hP 0 rfl rfl 1 (by decide) g_19 (fun _ h9 => h9) rfl dX9_person_120 ?_
      refine lv_iload_n hx hb dX9_person_123 rfl (lv_at hl 1 rfl) ?_
      have hPc := subB (bs := [(w_X cs o hX I V), (w_Led cs (hX 1) h_now I_now V_now)]) (ca := [(w_Led cs (hX 1) h_now I_now V_now)]) (ra := [(w_X cs o hX I V)]) [1, 0] (by decide) rfl rfl hP
      obtain ⟨zr5, qr5, hf⟩ := bd1 hf
      refine vp_callSi (va_Run.run (va_runV (As := [.int x1]) (rest := []) ⟨hx, hb, hml, hown, hts⟩ (c_Led_owedTo l D cs (hX 1) h_now I_now V_now x1 f zr5 qr5) w_owedTo_138 ⟨yR_moved, va_recv hK hPc (ci := 3) (q0 := 0) rfl rfl, fun U hU hW => ⟨rfl, by rw [hU]; exact hPc, va_K.moved hW.alike hK, yN_warm hW hN⟩⟩ rfl rfl hl.1 rfl (lv_room (Nat.le_of_ble_eq_true rfl)) dX9_person_124 ⟨Nat.zero_le _, Nat.zero_le _⟩)) (fun r5 er5 => ?_)
      rw [er5]
      exact hret zr5 127 _ hf dX9_person_127
    replace hf := im c14_5 hf
    by_cases c14_6 : x2 = 6
    · replace hf := ip c14_6 hf
      refine lv_tableIn (tgt := 128) hx hb dX9_person_14 (by rw [c14_6]; decide) (by rw [c14_6]; decide) (by rw [c14_6]; rfl) (by decide) ?_
      refine lv_aload_n hx hb dX9_person_128 rfl (lv_at hl 0 rfl) ?_
      refine va_get (D := D) (ci := 9) (v := .ref (hX 1)) (C := RX9) (T := TX9) (N := 9) hx hb hts in_X9 hown hK hP 0 rfl rfl 1 (by decide) g_19 (fun _ h9 => h9) rfl dX9_person_129 ?_
      refine lv_iload_n hx hb dX9_person_132 rfl (lv_at hl 1 rfl) ?_
      have hPc := subB (bs := [(w_X cs o hX I V), (w_Led cs (hX 1) h_now I_now V_now)]) (ca := [(w_Led cs (hX 1) h_now I_now V_now)]) (ra := [(w_X cs o hX I V)]) [1, 0] (by decide) rfl rfl hP
      obtain ⟨zr6, qr6, hf⟩ := bd1 hf
      refine vp_callSi (va_Run.run (va_runV (As := [.int x1]) (rest := []) ⟨hx, hb, hml, hown, hts⟩ (c_Led_netOf l D cs (hX 1) h_now I_now V_now x1 f zr6 qr6) w_netOf_141 ⟨yR_moved, va_recv hK hPc (ci := 3) (q0 := 0) rfl rfl, fun U hU hW => ⟨rfl, by rw [hU]; exact hPc, va_K.moved hW.alike hK, yN_warm hW hN⟩⟩ rfl rfl hl.1 rfl (lv_room (Nat.le_of_ble_eq_true rfl)) dX9_person_133 ⟨Nat.zero_le _, Nat.zero_le _⟩)) (fun r6 er6 => ?_)
      rw [er6]
      refine lv_sipush (v := 10000) hx hb dX9_person_136 (by decide) ?_
      refine lv_iadd hx hb dX9_person_139 ?_
      exact hret (zr6 + 10000) 140 _ hf dX9_person_140
    replace hf := im c14_6 hf
    refine lv_tableOut (tgt := 141) hx hb dX9_person_14 (by have nc14_0 := lv_neT (a := 0) c14_0 rfl; have nc14_1 := lv_neT (a := 1) c14_1 rfl; have nc14_2 := lv_neT (a := 2) c14_2 rfl; have nc14_3 := lv_neT (a := 3) c14_3 rfl; have nc14_4 := lv_neT (a := 4) c14_4 rfl; have nc14_5 := lv_neT (a := 5) c14_5 rfl; have nc14_6 := lv_neT (a := 6) c14_6 rfl; omega) (by decide) ?_
    refine lv_bipush (v := (-2)) hx hb dX9_person_141 (by decide) ?_
    exact hret (-2) 143 _ hf dX9_person_143
  · replace hf := ip c8 hf
    refine lv_iconst (v := (-1)) hx hb dX9_person_11 (by decide) ?_
    exact hret (-1) 12 _ hf dX9_person_12
set_option maxHeartbeats 4000000 in
set_option maxRecDepth 100000 in
theorem c_X_person (l : Launch) (D : va_G) (cs : Nat → ClassId) (o : Nat) (hX : Nat → Nat) (h_now : Nat → Nat) (I : FI) (V : FV) (I_now : FI) (V_now : FV) (x1 : Int32) (x2 : Int32) (f : Nat) (out : Int32) (hf : X_person f x1 x2 I V I_now V_now = some out) : Met l yX9_person wsX9_person rm_X_person (va_Pc [.ref o, .int x1, .int x2] (yR D cs (List.flatten [(w_X cs o hX I V), (w_Led cs (hX 1) h_now I_now V_now)]))) (vp_Si (fun r => r = out)) 0 0 (fun _ => False) := by
  refine Met.ofW (cc := cX9_person) (maxL := 3) (ret := (some .int)) (by decide) rfl ?_
  intro p e s m args below meth c s₁ B hml hv
  obtain ⟨ha, hP, hK, hN⟩ := hv
  have hx := B.exec
  have hb := B.bytes
  have hr := B.returns
  have hts := atoms_spec (ws := wsX9_person) B.pre
  have hown : s.vm.findClass RX9 = some m.cls := findClass_of_methodNamed B.named
  have hlocks := B.notSynchronized
  have in_X9 : ∀ w ∈ u_ws RX9 TX9 9, w ∈ wsX9_person := fun w h => List.mem_cons_of_mem _ (List.mem_append_left _ (List.mem_append_right _ h))
  have in_X3 : ∀ w ∈ u_ws RX3 TX3 11, w ∈ wsX9_person := fun w h => List.mem_cons_of_mem _ (List.mem_append_right _ h)
  have g_19 := hts (Cond.fieldLink RX9 19 "DaysLent" "now" "LDaysLent$Ledger;") (by decide +kernel)
  have w_has_117 := cwV (R := rm_X_person) (s := s) (args := args) (rm := rm_Led_has) (mc := 0) (ms := 0) 1 hts gX9_person_X3_has rfl rfl rfl (by decide +kernel) ⟨Nat.le_of_ble_eq_true rfl, Nat.le_of_ble_eq_true rfl⟩
  have g_121 := hts (Cond.fieldLink RX9 121 "DaysLent$Ledger" "mornings" "[I") (by decide +kernel)
  have g_125 := hts (Cond.fieldLink RX9 125 "DaysLent$Ledger" "asks" "[I") (by decide +kernel)
  have w_isAlive_128 := cwV (R := rm_X_person) (s := s) (args := args) (rm := rm_Led_isAlive) (mc := 0) (ms := 0) 1 hts gX9_person_X3_isAlive rfl rfl rfl (by decide +kernel) ⟨Nat.le_of_ble_eq_true rfl, Nat.le_of_ble_eq_true rfl⟩
  have w_isBroken_131 := cwV (R := rm_X_person) (s := s) (args := args) (rm := rm_Led_isBroken) (mc := 0) (ms := 0) 1 hts gX9_person_X3_isBroken rfl rfl rfl (by decide +kernel) ⟨Nat.le_of_ble_eq_true rfl, Nat.le_of_ble_eq_true rfl⟩
  have w_owedBy_134 := cwV (R := rm_X_person) (s := s) (args := args) (rm := rm_Led_owedBy) (mc := 0) (ms := 0) 1 hts gX9_person_X3_owedBy rfl rfl rfl (by decide +kernel) ⟨Nat.le_of_ble_eq_true rfl, Nat.le_of_ble_eq_true rfl⟩
  have w_owedTo_138 := cwV (R := rm_X_person) (s := s) (args := args) (rm := rm_Led_owedTo) (mc := 0) (ms := 0) 1 hts gX9_person_X3_owedTo rfl rfl rfl (by decide +kernel) ⟨Nat.le_of_ble_eq_true rfl, Nat.le_of_ble_eq_true rfl⟩
  have w_netOf_141 := cwV (R := rm_X_person) (s := s) (args := args) (rm := rm_Led_netOf) (mc := 0) (ms := 0) 1 hts gX9_person_X3_netOf rfl rfl rfl (by decide +kernel) ⟨Nat.le_of_ble_eq_true rfl, Nat.le_of_ble_eq_true rfl⟩
  have hl := lv_entry ([.ref o, .int x1, .int x2]) (n := 3) (Nat.le_of_ble_eq_true rfl)
  rw [show entryFrame m args 3 = entryFrame m ([.ref o, .int x1, .int x2] : List Value).toArray 3 from by rw [ha], lg_entry_eq]
  generalize (lg_sl ([.ref o, .int x1, .int x2]) ++ List.replicate (3 - (lg_sl ([.ref o, .int x1, .int x2])).length) Slot.unset).toArray = ls at hl ⊢
  generalize hQ : MQ below (vp_Si (fun r => r = out)) args s 0 0 (fun _ => False) = Q
  have hret : ∀ (v : Int32) (pc : Nat) (ls : Array Slot), some v = some out → decode cX9_person pc = .ok (.ireturn, 1) → W p l e rm_X_person s m args below meth c s.heap [] 0 0 Q (F0 m pc ls [.int v]) := by
    intro v pc ls hf hd
    rw [← hQ]
    exact W.iret (v := v) hx hb hr (fun t ht hW => ⟨v, rfl, Option.some.inj hf, ht⟩) (fun q h => by cases h) hd
  exact v_X_person hf hx hb hml hown hts in_X9 in_X3 g_19 w_has_117 g_121 g_125 w_isAlive_128 w_isBroken_131 w_owedBy_134 w_owedTo_138 w_netOf_141 hP hK hN hret ls hl
def X_debt (f : Nat) (x1 : Int32) (x2 : Int32) (I : FI) (V : FV) (I_now : FI) (V_now : FV) : Option (Int32) := (if x1 < 0 then some (-1) else (if (I_now 1) ≤ x1 then some (-1) else (if x1 < 12 then (if x2 = 0 then if x1 < 0 ∨ 12 ≤ x1.toNatClampNeg then none else (some ((V_now 7) x1.toNatClampNeg)) else if x2 = 1 then if x1 < 0 ∨ 12 ≤ x1.toNatClampNeg then none else (some ((V_now 8) x1.toNatClampNeg)) else if x2 = 2 then if x1 < 0 ∨ 12 ≤ x1.toNatClampNeg then none else (some ((V_now 9) x1.toNatClampNeg)) else if x2 = 3 then if x1 < 0 ∨ 12 ≤ x1.toNatClampNeg then none else (some ((V_now 10) x1.toNatClampNeg)) else some (-2)) else some (-1))))
abbrev rm_X_debt : Room := { frames := 0, cells := 0, slots := 0, locals := 0 }
set_option maxHeartbeats 4000000 in
set_option maxRecDepth 100000 in
theorem v_X_debt {l : Launch} {p : Program} {e : Env} {s : State} {m : MethodId} {args : Array Value} {below : List Frame} {meth : Method} {c : Code} {Q : State → Prop} {D : va_G} {cs : Nat → ClassId} {o : Nat} {hX : Nat → Nat} {h_now : Nat → Nat} {I : FI} {V : FV} {I_now : FI} {V_now : FV} {x1 : Int32} {x2 : Int32} {f : Nat} {out : Int32} (hf : X_debt f x1 x2 I V I_now V_now = some out) (hx : p.tables.exec = Jvm.exec) (hb : c.code = cX9_debt) (hml : c.maxLocals = 3) (hown : s.vm.findClass RX9 = some m.cls) (hts : ∀ w ∈ wsX9_debt, w.before args s = true) (in_X9 : ∀ w ∈ u_ws RX9 TX9 9, w ∈ wsX9_debt) (in_X3 : ∀ w ∈ u_ws RX3 TX3 11, w ∈ wsX9_debt) (g_19 : (Cond.fieldLink RX9 19 "DaysLent" "now" "LDaysLent$Ledger;").before args s = true) (g_95 : (Cond.fieldLink RX9 95 "DaysLent$Ledger" "debts" "I").before args s = true) (g_144 : (Cond.fieldLink RX9 144 "DaysLent$Ledger" "creditor" "[I").before args s = true) (g_147 : (Cond.fieldLink RX9 147 "DaysLent$Ledger" "debtor" "[I").before args s = true) (g_150 : (Cond.fieldLink RX9 150 "DaysLent$Ledger" "amount" "[I").before args s = true) (g_153 : (Cond.fieldLink RX9 153 "DaysLent$Ledger" "due" "[I").before args s = true) (hP : va_P D vwCl (List.flatten [(w_X cs o hX I V), (w_Led cs (hX 1) h_now I_now V_now)]) s.heap) (hK : va_K D vwCl (tyA cs) s) (hN : yN s) (hret : ∀ (v : Int32) (pc : Nat) (ls : Array Slot), some v = some out → decode cX9_debt pc = .ok (.ireturn, 1) → W p l e rm_X_debt s m args below meth c s.heap [] 0 0 Q (F0 m pc ls [.int v])) : ∀ ls : Array Slot, lv_has ls 3 [(0, .ref o), (1, .int x1), (2, .int x2)] → W p l e rm_X_debt s m args below meth c s.heap [] 0 0 Q (F0 m 0 ls []) := by
  intro ls hl
  unfold X_debt at hf
  refine lv_iload_n hx hb dX9_debt_0 rfl (lv_at hl 1 rfl) ?_
  refine lv_if_lt (tgt := 21) hx hb dX9_debt_1 (by decide) (fun c1 => ?_) (fun c1 => ?_)
  · replace hf := ip c1 hf
    refine lv_iconst (v := (-1)) hx hb dX9_debt_21 (by decide) ?_
    exact hret (-1) 22 _ hf dX9_debt_22
  · replace hf := im c1 hf
    refine lv_iload_n hx hb dX9_debt_4 rfl (lv_at hl 1 rfl) ?_
    refine lv_aload_n hx hb dX9_debt_5 rfl (lv_at hl 0 rfl) ?_
    refine va_get (D := D) (ci := 9) (v := .ref (hX 1)) (C := RX9) (T := TX9) (N := 9) hx hb hts in_X9 hown hK hP 0 rfl rfl 1 (by decide) g_19 (fun _ h9 => h9) rfl dX9_debt_6 ?_
    refine va_get (D := D) (ci := 3) (v := .int (I_now 1)) (C := RX3) (T := TX3) (N := 11) hx hb hts in_X3 hown hK hP 1 rfl rfl 1 (by decide) g_95 (fun _ h9 => h9) rfl dX9_debt_9 ?_
    refine lv_icmp_ge (tgt := 21) hx hb dX9_debt_12 (by decide) (fun c12 => ?_) (fun c12 => ?_)
    · replace hf := ip c12 hf
      refine lv_iconst (v := (-1)) hx hb dX9_debt_21 (by decide) ?_
      exact hret (-1) 22 _ hf dX9_debt_22
    · replace hf := im c12 hf
      refine lv_iload_n hx hb dX9_debt_15 rfl (lv_at hl 1 rfl) ?_
      refine lv_bipush (v := 12) hx hb dX9_debt_16 (by decide) ?_
      refine lv_icmp_lt (tgt := 23) hx hb dX9_debt_18 (by decide) (fun c18 => ?_) (fun c18 => ?_)
      · replace hf := ip c18 hf
        refine lv_iload_n hx hb dX9_debt_23 rfl (lv_at hl 2 rfl) ?_
        by_cases c24_0 : x2 = 0
        · replace hf := ip c24_0 hf
          refine lv_tableIn (tgt := 56) hx hb dX9_debt_24 (by rw [c24_0]; decide) (by rw [c24_0]; decide) (by rw [c24_0]; rfl) (by decide) ?_
          refine lv_aload_n hx hb dX9_debt_56 rfl (lv_at hl 0 rfl) ?_
          refine va_get (D := D) (ci := 9) (v := .ref (hX 1)) (C := RX9) (T := TX9) (N := 9) hx hb hts in_X9 hown hK hP 0 rfl rfl 1 (by decide) g_19 (fun _ h9 => h9) rfl dX9_debt_57 ?_
          refine va_get (D := D) (ci := 3) (v := .ref (h_now 7)) (C := RX3) (T := TX3) (N := 11) hx hb hts in_X3 hown hK hP 1 rfl rfl 7 (by decide) g_144 (fun _ h9 => h9) rfl dX9_debt_60 ?_
          refine lv_iload_n hx hb dX9_debt_63 rfl (lv_at hl 1 rfl) ?_
          obtain ⟨c64, hf⟩ := gd hf
          refine va_iald (f := (V_now 7)) hx hb hK hP 4 0 rfl rfl c64 dX9_debt_64 ?_
          exact hret ((V_now 7) x1.toNatClampNeg) 65 _ hf dX9_debt_65
        replace hf := im c24_0 hf
        by_cases c24_1 : x2 = 1
        · replace hf := ip c24_1 hf
          refine lv_tableIn (tgt := 66) hx hb dX9_debt_24 (by rw [c24_1]; decide) (by rw [c24_1]; decide) (by rw [c24_1]; rfl) (by decide) ?_
          refine lv_aload_n hx hb dX9_debt_66 rfl (lv_at hl 0 rfl) ?_
          refine va_get (D := D) (ci := 9) (v := .ref (hX 1)) (C := RX9) (T := TX9) (N := 9) hx hb hts in_X9 hown hK hP 0 rfl rfl 1 (by decide) g_19 (fun _ h9 => h9) rfl dX9_debt_67 ?_
          refine va_get (D := D) (ci := 3) (v := .ref (h_now 8)) (C := RX3) (T := TX3) (N := 11) hx hb hts in_X3 hown hK hP 1 rfl rfl 8 (by decide) g_147 (fun _ h9 => h9) rfl dX9_debt_70 ?_
          refine lv_iload_n hx hb dX9_debt_73 rfl (lv_at hl 1 rfl) ?_
          obtain ⟨c74, hf⟩ := gd hf
          refine va_iald (f := (V_now 8)) hx hb hK hP 5 0 rfl rfl c74 dX9_debt_74 ?_
          exact hret ((V_now 8) x1.toNatClampNeg) 75 _ hf dX9_debt_75
        replace hf := im c24_1 hf
        by_cases c24_2 : x2 = 2
        · replace hf := ip c24_2 hf
          refine lv_tableIn (tgt := 76) hx hb dX9_debt_24 (by rw [c24_2]; decide) (by rw [c24_2]; decide) (by rw [c24_2]; rfl) (by decide) ?_
          refine lv_aload_n hx hb dX9_debt_76 rfl (lv_at hl 0 rfl) ?_
          refine va_get (D := D) (ci := 9) (v := .ref (hX 1)) (C := RX9) (T := TX9) (N := 9) hx hb hts in_X9 hown hK hP 0 rfl rfl 1 (by decide) g_19 (fun _ h9 => h9) rfl dX9_debt_77 ?_
          refine va_get (D := D) (ci := 3) (v := .ref (h_now 9)) (C := RX3) (T := TX3) (N := 11) hx hb hts in_X3 hown hK hP 1 rfl rfl 9 (by decide) g_150 (fun _ h9 => h9) rfl dX9_debt_80 ?_
          refine lv_iload_n hx hb dX9_debt_83 rfl (lv_at hl 1 rfl) ?_
          obtain ⟨c84, hf⟩ := gd hf
          refine va_iald (f := (V_now 9)) hx hb hK hP 6 0 rfl rfl c84 dX9_debt_84 ?_
          exact hret ((V_now 9) x1.toNatClampNeg) 85 _ hf dX9_debt_85
        replace hf := im c24_2 hf
        by_cases c24_3 : x2 = 3
        · replace hf := ip c24_3 hf
          refine lv_tableIn (tgt := 86) hx hb dX9_debt_24 (by rw [c24_3]; decide) (by rw [c24_3]; decide) (by rw [c24_3]; rfl) (by decide) ?_
          refine lv_aload_n hx hb dX9_debt_86 rfl (lv_at hl 0 rfl) ?_
          refine va_get (D := D) (ci := 9) (v := .ref (hX 1)) (C := RX9) (T := TX9) (N := 9) hx hb hts in_X9 hown hK hP 0 rfl rfl 1 (by decide) g_19 (fun _ h9 => h9) rfl dX9_debt_87 ?_
          refine va_get (D := D) (ci := 3) (v := .ref (h_now 10)) (C := RX3) (T := TX3) (N := 11) hx hb hts in_X3 hown hK hP 1 rfl rfl 10 (by decide) g_153 (fun _ h9 => h9) rfl dX9_debt_90 ?_
          refine lv_iload_n hx hb dX9_debt_93 rfl (lv_at hl 1 rfl) ?_
          obtain ⟨c94, hf⟩ := gd hf
          refine va_iald (f := (V_now 10)) hx hb hK hP 7 0 rfl rfl c94 dX9_debt_94 ?_
          exact hret ((V_now 10) x1.toNatClampNeg) 95 _ hf dX9_debt_95
        replace hf := im c24_3 hf
        refine lv_tableOut (tgt := 96) hx hb dX9_debt_24 (by have nc24_0 := lv_neT (a := 0) c24_0 rfl; have nc24_1 := lv_neT (a := 1) c24_1 rfl; have nc24_2 := lv_neT (a := 2) c24_2 rfl; have nc24_3 := lv_neT (a := 3) c24_3 rfl; omega) (by decide) ?_
        refine lv_bipush (v := (-2)) hx hb dX9_debt_96 (by decide) ?_
        exact hret (-2) 98 _ hf dX9_debt_98
      · replace hf := im c18 hf
        refine lv_iconst (v := (-1)) hx hb dX9_debt_21 (by decide) ?_
        exact hret (-1) 22 _ hf dX9_debt_22
set_option maxHeartbeats 4000000 in
set_option maxRecDepth 100000 in
theorem c_X_debt (l : Launch) (D : va_G) (cs : Nat → ClassId) (o : Nat) (hX : Nat → Nat) (h_now : Nat → Nat) (I : FI) (V : FV) (I_now : FI) (V_now : FV) (x1 : Int32) (x2 : Int32) (f : Nat) (out : Int32) (hf : X_debt f x1 x2 I V I_now V_now = some out) : Met l yX9_debt wsX9_debt rm_X_debt (va_Pc [.ref o, .int x1, .int x2] (yR D cs (List.flatten [(w_X cs o hX I V), (w_Led cs (hX 1) h_now I_now V_now)]))) (vp_Si (fun r => r = out)) 0 0 (fun _ => False) := by
  refine Met.ofW (cc := cX9_debt) (maxL := 3) (ret := (some .int)) (by decide) rfl ?_
  intro p e s m args below meth c s₁ B hml hv
  obtain ⟨ha, hP, hK, hN⟩ := hv
  have hx := B.exec
  have hb := B.bytes
  have hr := B.returns
  have hts := atoms_spec (ws := wsX9_debt) B.pre
  have hown : s.vm.findClass RX9 = some m.cls := findClass_of_methodNamed B.named
  have hlocks := B.notSynchronized
  have in_X9 : ∀ w ∈ u_ws RX9 TX9 9, w ∈ wsX9_debt := fun w h => List.mem_cons_of_mem _ (List.mem_append_left _ (List.mem_append_right _ h))
  have in_X3 : ∀ w ∈ u_ws RX3 TX3 11, w ∈ wsX9_debt := fun w h => List.mem_cons_of_mem _ (List.mem_append_right _ h)
  have g_19 := hts (Cond.fieldLink RX9 19 "DaysLent" "now" "LDaysLent$Ledger;") (by decide +kernel)
  have g_95 := hts (Cond.fieldLink RX9 95 "DaysLent$Ledger" "debts" "I") (by decide +kernel)
  have g_144 := hts (Cond.fieldLink RX9 144 "DaysLent$Ledger" "creditor" "[I") (by decide +kernel)
  have g_147 := hts (Cond.fieldLink RX9 147 "DaysLent$Ledger" "debtor" "[I") (by decide +kernel)
  have g_150 := hts (Cond.fieldLink RX9 150 "DaysLent$Ledger" "amount" "[I") (by decide +kernel)
  have g_153 := hts (Cond.fieldLink RX9 153 "DaysLent$Ledger" "due" "[I") (by decide +kernel)
  have hl := lv_entry ([.ref o, .int x1, .int x2]) (n := 3) (Nat.le_of_ble_eq_true rfl)
  rw [show entryFrame m args 3 = entryFrame m ([.ref o, .int x1, .int x2] : List Value).toArray 3 from by rw [ha], lg_entry_eq]
  generalize (lg_sl ([.ref o, .int x1, .int x2]) ++ List.replicate (3 - (lg_sl ([.ref o, .int x1, .int x2])).length) Slot.unset).toArray = ls at hl ⊢
  generalize hQ : MQ below (vp_Si (fun r => r = out)) args s 0 0 (fun _ => False) = Q
  have hret : ∀ (v : Int32) (pc : Nat) (ls : Array Slot), some v = some out → decode cX9_debt pc = .ok (.ireturn, 1) → W p l e rm_X_debt s m args below meth c s.heap [] 0 0 Q (F0 m pc ls [.int v]) := by
    intro v pc ls hf hd
    rw [← hQ]
    exact W.iret (v := v) hx hb hr (fun t ht hW => ⟨v, rfl, Option.some.inj hf, ht⟩) (fun q h => by cases h) hd
  exact v_X_debt hf hx hb hml hown hts in_X9 in_X3 g_19 g_95 g_144 g_147 g_150 g_153 hP hK hN hret ls hl
def X_ask (f : Nat) (x1 : Int32) (x2 : Int32) (I : FI) (V : FV) (I_now : FI) (V_now : FV) : Option (Int32 × FV) := ob1 (Led_has f x1 I_now V_now) (fun zr1 => (if zr1 = 0 then some ((-1), V_now) else (if x2 < 0 then some ((-2), V_now) else (if x2 ≤ 9 then if x1 < 0 ∨ 6 ≤ x1.toNatClampNeg then none else (nm ((V_now 6) x1.toNatClampNeg) (fun y2 => if x1 < 0 ∨ 6 ≤ x1.toNatClampNeg then none else (nm (va_up V_now 6 (upd (V_now 6) x1.toNatClampNeg x2)) (fun V3 => some (y2, V3))))) else some ((-2), V_now)))))
abbrev rm_X_ask : Room := { frames := 1, cells := 0, slots := 0, locals := 21 }
set_option maxHeartbeats 4000000 in
set_option maxRecDepth 100000 in
theorem v_X_ask {l : Launch} {p : Program} {e : Env} {s : State} {m : MethodId} {args : Array Value} {below : List Frame} {meth : Method} {c : Code} {Q : State → Prop} {D : va_G} {cs : Nat → ClassId} {o : Nat} {hX : Nat → Nat} {h_now : Nat → Nat} {A : Nat → Prop} {I : FI} {V : FV} {I_now : FI} {V_now : FV} {x1 : Int32} {x2 : Int32} {f : Nat} {out : Int32 × FV} (hf : X_ask f x1 x2 I V I_now V_now = some out) (hx : p.tables.exec = Jvm.exec) (hb : c.code = cX9_ask) (hml : c.maxLocals = 4) (hown : s.vm.findClass RX9 = some m.cls) (hts : ∀ w ∈ wsX9_ask, w.before args s = true) (in_X9 : ∀ w ∈ u_ws RX9 TX9 9, w ∈ wsX9_ask) (in_X3 : ∀ w ∈ u_ws RX3 TX3 11, w ∈ wsX9_ask) (g_19 : (Cond.fieldLink RX9 19 "DaysLent" "now" "LDaysLent$Ledger;").before args s = true) (w_has_117 : CallW rm_X_ask s args RX9 RX3 117 yX3_has cX3_has 2 (some .boolean) wsX3_has rm_Led_has 0 0 1) (g_125 : (Cond.fieldLink RX9 125 "DaysLent$Ledger" "asks" "[I").before args s = true) (hA : ∀ q : Nat, s.heap.size ≤ q → A q) (hP : va_P D vwCl (List.flatten [(w_X cs o hX I V), (w_Led cs (hX 1) h_now I_now V_now)]) s.heap) (hD : va_D A (List.flatten [(w_X cs o hX I V), (w_Led cs (hX 1) h_now I_now V_now)])) (hK : va_K D vwCl (tyA cs) s) (hN : yN s) (hret : ∀ (v : Int32) (Vnow9 : FV) (H : Heap) (locs : List Loc) (pc : Nat) (ls : Array Slot), some (v, Vnow9) = some out → va_P D vwCl (List.flatten [(w_X cs o hX I V), (w_Led cs (hX 1) h_now I_now Vnow9)]) H → va_D A (List.flatten [(w_X cs o hX I V), (w_Led cs (hX 1) h_now I_now Vnow9)]) → va_S A s.heap H locs → decode cX9_ask pc = .ok (.ireturn, 1) → W p l e rm_X_ask s m args below meth c H locs 0 0 Q (F0 m pc ls [.int v])) : ∀ ls : Array Slot, lv_has ls 4 [(0, .ref o), (1, .int x1), (2, .int x2)] → W p l e rm_X_ask s m args below meth c s.heap [] 0 0 Q (F0 m 0 ls []) := by
  intro ls hl
  have hS : va_S A s.heap s.heap [] := va_S.rf
  unfold X_ask at hf
  refine lv_aload_n hx hb dX9_ask_0 rfl (lv_at hl 0 rfl) ?_
  refine va_get (D := D) (ci := 9) (v := .ref (hX 1)) (C := RX9) (T := TX9) (N := 9) hx hb hts in_X9 hown hK hP 0 rfl rfl 1 (by decide) g_19 (fun _ h9 => h9) rfl dX9_ask_1 ?_
  refine lv_iload_n hx hb dX9_ask_4 rfl (lv_at hl 1 rfl) ?_
  have hPc := subB (bs := [(w_X cs o hX I V), (w_Led cs (hX 1) h_now I_now V_now)]) (ca := [(w_Led cs (hX 1) h_now I_now V_now)]) (ra := [(w_X cs o hX I V)]) [1, 0] (by decide) rfl rfl hP
  obtain ⟨zr1, qr1, hf⟩ := bd1 hf
  refine vp_callSi (va_Run.run (va_runV (As := [.int x1]) (rest := []) ⟨hx, hb, hml, hown, hts⟩ (c_Led_has l D cs (hX 1) h_now I_now V_now x1 f zr1 qr1) w_has_117 ⟨yR_moved, va_recv hK hPc (ci := 3) (q0 := 0) rfl rfl, fun U hU hW => ⟨rfl, by rw [hU]; exact hPc, va_K.moved hW.alike hK, yN_warm hW hN⟩⟩ rfl rfl hl.1 rfl (lv_room (Nat.le_of_ble_eq_true rfl)) dX9_ask_5 ⟨Nat.zero_le _, Nat.zero_le _⟩)) (fun r1 er1 => ?_)
  rw [er1]
  refine lv_if_ne (tgt := 13) hx hb dX9_ask_8 (by decide) (fun c8 => ?_) (fun c8 => ?_)
  · replace hf := im c8 hf
    refine lv_iload_n hx hb dX9_ask_13 rfl (lv_at hl 2 rfl) ?_
    refine lv_if_lt (tgt := 23) hx hb dX9_ask_14 (by decide) (fun c14 => ?_) (fun c14 => ?_)
    · replace hf := ip c14 hf
      refine lv_bipush (v := (-2)) hx hb dX9_ask_23 (by decide) ?_
      exact hret (-2) V_now _ _ 25 _ hf hP hD hS dX9_ask_25
    · replace hf := im c14 hf
      refine lv_iload_n hx hb dX9_ask_17 rfl (lv_at hl 2 rfl) ?_
      refine lv_bipush (v := 9) hx hb dX9_ask_18 (by decide) ?_
      refine lv_icmp_le (tgt := 26) hx hb dX9_ask_20 (by decide) (fun c20 => ?_) (fun c20 => ?_)
      · replace hf := ip c20 hf
        refine lv_aload_n hx hb dX9_ask_26 rfl (lv_at hl 0 rfl) ?_
        refine va_get (D := D) (ci := 9) (v := .ref (hX 1)) (C := RX9) (T := TX9) (N := 9) hx hb hts in_X9 hown hK hP 0 rfl rfl 1 (by decide) g_19 (fun _ h9 => h9) rfl dX9_ask_27 ?_
        refine va_get (D := D) (ci := 3) (v := .ref (h_now 6)) (C := RX3) (T := TX3) (N := 11) hx hb hts in_X3 hown hK hP 1 rfl rfl 6 (by decide) g_125 (fun _ h9 => h9) rfl dX9_ask_30 ?_
        refine lv_iload_n hx hb dX9_ask_33 rfl (lv_at hl 1 rfl) ?_
        obtain ⟨c34, hf⟩ := gd hf
        refine va_iald (f := (V_now 6)) hx hb hK hP 3 0 rfl rfl c34 dX9_ask_34 ?_
        refine lv_topi (fun y2 ey2 => ?_)
        replace hf := nmd hf ey2
        refine lv_istore_n (lv' := [(3, .int y2), (0, .ref o), (1, .int x1), (2, .int x2)]) hx hb dX9_ask_35 rfl hl (by decide) rfl (fun ls hl => ?_)
        refine lv_aload_n hx hb dX9_ask_36 rfl (lv_at hl 1 rfl) ?_
        refine va_get (D := D) (ci := 9) (v := .ref (hX 1)) (C := RX9) (T := TX9) (N := 9) hx hb hts in_X9 hown hK hP 0 rfl rfl 1 (by decide) g_19 (fun _ h9 => h9) rfl dX9_ask_37 ?_
        refine va_get (D := D) (ci := 3) (v := .ref (h_now 6)) (C := RX3) (T := TX3) (N := 11) hx hb hts in_X3 hown hK hP 1 rfl rfl 6 (by decide) g_125 (fun _ h9 => h9) rfl dX9_ask_40 ?_
        refine lv_iload_n hx hb dX9_ask_43 rfl (lv_at hl 2 rfl) ?_
        refine lv_iload_n hx hb dX9_ask_44 rfl (lv_at hl 3 rfl) ?_
        obtain ⟨c45, hf⟩ := gd hf
        refine va_iast (f := (V_now 6)) hx hb hK hP hD hS 3 0 rfl rfl c45 dX9_ask_45 (fun H locs hP hD hS => ?_)
        obtain ⟨V3, eV3, hf⟩ := nme hf
        have hP : va_P D vwCl (List.flatten [(w_X cs o hX I V), (w_Led cs (hX 1) h_now I_now V3)]) H := by rw [eV3]; exact hP
        have hD : va_D A (List.flatten [(w_X cs o hX I V), (w_Led cs (hX 1) h_now I_now V3)]) := by rw [eV3]; exact hD
        refine lv_iload_n hx hb dX9_ask_46 rfl (lv_at hl 0 rfl) ?_
        exact hret y2 V3 _ _ 47 _ hf hP hD hS dX9_ask_47
      · replace hf := im c20 hf
        refine lv_bipush (v := (-2)) hx hb dX9_ask_23 (by decide) ?_
        exact hret (-2) V_now _ _ 25 _ hf hP hD hS dX9_ask_25
  · replace hf := ip c8 hf
    refine lv_iconst (v := (-1)) hx hb dX9_ask_11 (by decide) ?_
    exact hret (-1) V_now _ _ 12 _ hf hP hD hS dX9_ask_12
set_option maxHeartbeats 4000000 in
set_option maxRecDepth 100000 in
theorem c_X_ask (l : Launch) (D : va_G) (cs : Nat → ClassId) (o : Nat) (hX : Nat → Nat) (h_now : Nat → Nat) (sz : Nat) (I : FI) (V : FV) (I_now : FI) (V_now : FV) (x1 : Int32) (x2 : Int32) (f : Nat) (out : Int32 × FV) (hf : X_ask f x1 x2 I V I_now V_now = some out) : Met l yX9_ask wsX9_ask rm_X_ask (va_Pc [.ref o, .int x1, .int x2] (yP D cs (List.flatten [(w_X cs o hX I V), (w_Led cs (hX 1) h_now I_now V_now)]) sz)) (va_Qi (fun r u => (r, u) = out) (fun (u : FV) t => xA D cs (va_A (List.flatten [(w_X cs o hX I V), (w_Led cs (hX 1) h_now I_now V_now)]) sz) (List.flatten [(w_X cs o hX I V), (w_Led cs (hX 1) h_now I_now u)]) t) (va_A (List.flatten [(w_X cs o hX I V), (w_Led cs (hX 1) h_now I_now V_now)]) sz)) 0 0 (va_A (List.flatten [(w_X cs o hX I V), (w_Led cs (hX 1) h_now I_now V_now)]) sz) := by
  refine Met.ofW (cc := cX9_ask) (maxL := 4) (ret := (some .int)) (by decide) rfl ?_
  intro p e s m args below meth c s₁ B hml hv
  obtain ⟨ha, hsz, hP, hK, hN, hD0⟩ := hv
  have hx := B.exec
  have hb := B.bytes
  have hr := B.returns
  have hts := atoms_spec (ws := wsX9_ask) B.pre
  have hown : s.vm.findClass RX9 = some m.cls := findClass_of_methodNamed B.named
  have hlocks := B.notSynchronized
  have in_X9 : ∀ w ∈ u_ws RX9 TX9 9, w ∈ wsX9_ask := fun w h => List.mem_cons_of_mem _ (List.mem_append_left _ (List.mem_append_right _ h))
  have in_X3 : ∀ w ∈ u_ws RX3 TX3 11, w ∈ wsX9_ask := fun w h => List.mem_cons_of_mem _ (List.mem_append_right _ h)
  have g_19 := hts (Cond.fieldLink RX9 19 "DaysLent" "now" "LDaysLent$Ledger;") (by decide +kernel)
  have w_has_117 := cwV (R := rm_X_ask) (s := s) (args := args) (rm := rm_Led_has) (mc := 0) (ms := 0) 1 hts gX9_ask_X3_has rfl rfl rfl (by decide +kernel) ⟨Nat.le_of_ble_eq_true rfl, Nat.le_of_ble_eq_true rfl⟩
  have g_125 := hts (Cond.fieldLink RX9 125 "DaysLent$Ledger" "asks" "[I") (by decide +kernel)
  subst hsz
  have hD := hD0.self (sz := s.heap.size)
  generalize hAe : va_A (List.flatten [(w_X cs o hX I V), (w_Led cs (hX 1) h_now I_now V_now)]) s.heap.size = A at hD ⊢
  have hA : ∀ q : Nat, s.heap.size ≤ q → A q := fun q h => by rw [← hAe]; exact Or.inr h
  have hl := lv_entry ([.ref o, .int x1, .int x2]) (n := 4) (Nat.le_of_ble_eq_true rfl)
  rw [show entryFrame m args 4 = entryFrame m ([.ref o, .int x1, .int x2] : List Value).toArray 4 from by rw [ha], lg_entry_eq]
  generalize (lg_sl ([.ref o, .int x1, .int x2]) ++ List.replicate (4 - (lg_sl ([.ref o, .int x1, .int x2])).length) Slot.unset).toArray = ls at hl ⊢
  generalize hQ : MQ below (va_Qi (fun r u => (r, u) = out) (fun (u : FV) t => xA D cs A (List.flatten [(w_X cs o hX I V), (w_Led cs (hX 1) h_now I_now u)]) t) A) args s 0 0 A = Q
  have hret : ∀ (v : Int32) (Vnow9 : FV) (H : Heap) (locs : List Loc) (pc : Nat) (ls : Array Slot), some (v, Vnow9) = some out → va_P D vwCl (List.flatten [(w_X cs o hX I V), (w_Led cs (hX 1) h_now I_now Vnow9)]) H → va_D A (List.flatten [(w_X cs o hX I V), (w_Led cs (hX 1) h_now I_now Vnow9)]) → va_S A s.heap H locs → decode cX9_ask pc = .ok (.ireturn, 1) → W p l e rm_X_ask s m args below meth c H locs 0 0 Q (F0 m pc ls [.int v]) := by
    intro v Vnow9 H locs pc ls hf hP hD hS hd
    rw [← hQ]
    exact W.iret (v := v) hx hb hr (fun t ht hW => ⟨⟨v, Vnow9, rfl, Option.some.inj hf, by show va_P D vwCl (List.flatten [(w_X cs o hX I V), (w_Led cs (hX 1) h_now I_now Vnow9)]) t.heap; rw [ht]; exact hP, va_K.moved hW.alike hK, hD⟩, hS.F ht⟩) hS.2.2 hd
  exact v_X_ask hf hx hb hml hown hts in_X9 in_X3 g_19 w_has_117 g_125 hA hP hD hK hN hret ls hl
def X_lend (f : Nat) (x1 : Int32) (x2 : Int32) (x3 : Int32) (x4 : Int32) (I : FI) (V : FV) (I_now : FI) (V_now : FV) (I_act : FI) (V_act : FV) (LaI : Nat → FI) (LaV : Nat → FV) : Option (Int32 × FI × FV × FI × (Nat → FI) × (Nat → FV)) := ob1 (Led_has f x1 I_now V_now) (fun zr1 => (if zr1 = 0 then some ((-1), I_now, V_now, I_act, LaI, LaV) else ob1 (Led_has f x2 I_now V_now) (fun zr2 => (if zr2 = 0 then some ((-1), I_now, V_now, I_act, LaI, LaV) else (if x1 = x2 then some ((-2), I_now, V_now, I_act, LaI, LaV) else ob1 (X_isLoan f x3) (fun zr3 => (if zr3 = 0 then some ((-2), I_now, V_now, I_act, LaI, LaV) else (if x4 < 1 then some ((-2), I_now, V_now, I_act, LaI, LaV) else (if x4 ≤ 9 then ob1 (Led_mayLend f x1 x2 x3 I_now V_now) (fun zr4 => (if zr4 = 0 then some ((-3), I_now, V_now, I_act, LaI, LaV) else (if (I_now 1) < 12 then ob3 (Act_remember f I_act V_act LaI LaV I_now V_now) (fun I6 I7 V8 => ob3 (Led_giveAsLoan f x1 x2 x3 x4 I_now V_now) (fun zr9 I10 V11 => some (zr9, I10, V11, I6, I7, V8))) else some ((-4), I_now, V_now, I_act, LaI, LaV)))) else some ((-2), I_now, V_now, I_act, LaI, LaV))))))))))
abbrev rm_X_lend : Room := { frames := 3, cells := 0, slots := 0, locals := 70 }
set_option maxHeartbeats 4000000 in
set_option maxRecDepth 100000 in
theorem v_X_lend {l : Launch} {p : Program} {e : Env} {s : State} {m : MethodId} {args : Array Value} {below : List Frame} {meth : Method} {c : Code} {Q : State → Prop} {D : va_G} {cs : Nat → ClassId} {o : Nat} {hX : Nat → Nat} {h_now : Nat → Nat} {h_act : Nat → Nat} {laa : Nat → Nat} {lah : Nat → Nat → Nat} {A : Nat → Prop} {I : FI} {V : FV} {I_now : FI} {V_now : FV} {I_act : FI} {V_act : FV} {LaI : Nat → FI} {LaV : Nat → FV} {x1 : Int32} {x2 : Int32} {x3 : Int32} {x4 : Int32} {f : Nat} {out : Int32 × FI × FV × FI × (Nat → FI) × (Nat → FV)} (hf : X_lend f x1 x2 x3 x4 I V I_now V_now I_act V_act LaI LaV = some out) (hx : p.tables.exec = Jvm.exec) (hb : c.code = cX9_lend) (hml : c.maxLocals = 5) (hown : s.vm.findClass RX9 = some m.cls) (hts : ∀ w ∈ wsX9_lend, w.before args s = true) (in_X9 : ∀ w ∈ u_ws RX9 TX9 9, w ∈ wsX9_lend) (in_X3 : ∀ w ∈ u_ws RX3 TX3 11, w ∈ wsX9_lend) (in_X0 : ∀ w ∈ u_ws RX0 TX0 3, w ∈ wsX9_lend) (g_19 : (Cond.fieldLink RX9 19 "DaysLent" "now" "LDaysLent$Ledger;").before args s = true) (w_has_117 : CallW rm_X_lend s args RX9 RX3 117 yX3_has cX3_has 2 (some .boolean) wsX3_has rm_Led_has 0 0 1) (w_isLoan_156 : CallB rm_X_lend s args RX9 156 yX9_isLoan cX9_isLoan 1 (some .boolean) wsX9_isLoan rm_X_isLoan 0 0 1 ∧ (Cond.static yX9_isLoan).before args s = true) (w_mayLend_159 : CallW rm_X_lend s args RX9 RX3 159 yX3_mayLend cX3_mayLend 4 (some .boolean) wsX3_mayLend rm_Led_mayLend 0 0 3) (g_95 : (Cond.fieldLink RX9 95 "DaysLent$Ledger" "debts" "I").before args s = true) (g_26 : (Cond.fieldLink RX9 26 "DaysLent" "acts" "LDaysLent$Acts;").before args s = true) (w_remember_163 : CallW rm_X_lend s args RX9 RX0 163 yX0_remember cX0_remember 2 none wsX0_remember rm_Act_remember 0 0 1) (w_giveAsLoan_166 : CallW rm_X_lend s args RX9 RX3 166 yX3_giveAsLoan cX3_giveAsLoan 6 (some .int) wsX3_giveAsLoan rm_Led_giveAsLoan 0 0 4) (hA : ∀ q : Nat, s.heap.size ≤ q → A q) (hP : va_P D vwCl (List.flatten [(w_X cs o hX I V), (w_Led cs (hX 1) h_now I_now V_now), (w_Act cs (hX 2) h_act laa I_act V_act), (w_Pool cs laa lah LaI LaV 10)]) s.heap) (hD : va_D A (List.flatten [(w_X cs o hX I V), (w_Led cs (hX 1) h_now I_now V_now), (w_Act cs (hX 2) h_act laa I_act V_act), (w_Pool cs laa lah LaI LaV 10)])) (hK : va_K D vwCl (tyA cs) s) (hN : yN s) (hret : ∀ (v : Int32) (Inow9 : FI) (Vnow9 : FV) (Iact9 : FI) (Ipa9 : Nat → FI) (Vpa9 : Nat → FV) (H : Heap) (locs : List Loc) (pc : Nat) (ls : Array Slot), some (v, Inow9, Vnow9, Iact9, Ipa9, Vpa9) = some out → va_P D vwCl (List.flatten [(w_X cs o hX I V), (w_Led cs (hX 1) h_now Inow9 Vnow9), (w_Act cs (hX 2) h_act laa Iact9 V_act), (w_Pool cs laa lah Ipa9 Vpa9 10)]) H → va_D A (List.flatten [(w_X cs o hX I V), (w_Led cs (hX 1) h_now Inow9 Vnow9), (w_Act cs (hX 2) h_act laa Iact9 V_act), (w_Pool cs laa lah Ipa9 Vpa9 10)]) → va_S A s.heap H locs → decode cX9_lend pc = .ok (.ireturn, 1) → W p l e rm_X_lend s m args below meth c H locs 0 0 Q (F0 m pc ls [.int v])) : ∀ ls : Array Slot, lv_has ls 5 [(0, .ref o), (1, .int x1), (2, .int x2), (3, .int x3), (4, .int x4)] → W p l e rm_X_lend s m args below meth c s.heap [] 0 0 Q (F0 m 0 ls []) := by
  intro ls hl
  have hS : va_S A s.heap s.heap [] := va_S.rf
  unfold X_lend at hf
  refine lv_aload_n hx hb dX9_lend_0 rfl (lv_at hl 0 rfl) ?_
  refine va_get (D := D) (ci := 9) (v := .ref (hX 1)) (C := RX9) (T := TX9) (N := 9) hx hb hts in_X9 hown hK hP 0 rfl rfl 1 (by decide) g_19 (fun _ h9 => h9) rfl dX9_lend_1 ?_
  refine lv_iload_n hx hb dX9_lend_4 rfl (lv_at hl 1 rfl) ?_
  have hPc := subB (bs := [(w_X cs o hX I V), (w_Led cs (hX 1) h_now I_now V_now), (w_Act cs (hX 2) h_act laa I_act V_act), (w_Pool cs laa lah LaI LaV 10)]) (ca := [(w_Led cs (hX 1) h_now I_now V_now)]) (ra := [(w_X cs o hX I V), (w_Act cs (hX 2) h_act laa I_act V_act), (w_Pool cs laa lah LaI LaV 10)]) [1, 0, 2, 3] (by decide) rfl rfl hP
  obtain ⟨zr1, qr1, hf⟩ := bd1 hf
  refine vp_callSi (va_Run.run (va_runV (As := [.int x1]) (rest := []) ⟨hx, hb, hml, hown, hts⟩ (c_Led_has l D cs (hX 1) h_now I_now V_now x1 f zr1 qr1) w_has_117 ⟨yR_moved, va_recv hK hPc (ci := 3) (q0 := 0) rfl rfl, fun U hU hW => ⟨rfl, by rw [hU]; exact hPc, va_K.moved hW.alike hK, yN_warm hW hN⟩⟩ rfl rfl hl.1 rfl (lv_room (Nat.le_of_ble_eq_true rfl)) dX9_lend_5 ⟨Nat.zero_le _, Nat.zero_le _⟩)) (fun r1 er1 => ?_)
  rw [er1]
  refine lv_if_eq (tgt := 22) hx hb dX9_lend_8 (by decide) (fun c8 => ?_) (fun c8 => ?_)
  · replace hf := ip c8 hf
    refine lv_iconst (v := (-1)) hx hb dX9_lend_22 (by decide) ?_
    exact hret (-1) I_now V_now I_act LaI LaV _ _ 23 _ hf hP hD hS dX9_lend_23
  · replace hf := im c8 hf
    refine lv_aload_n hx hb dX9_lend_11 rfl (lv_at hl 0 rfl) ?_
    refine va_get (D := D) (ci := 9) (v := .ref (hX 1)) (C := RX9) (T := TX9) (N := 9) hx hb hts in_X9 hown hK hP 0 rfl rfl 1 (by decide) g_19 (fun _ h9 => h9) rfl dX9_lend_12 ?_
    refine lv_iload_n hx hb dX9_lend_15 rfl (lv_at hl 2 rfl) ?_
    have hPc := subB (bs := [(w_X cs o hX I V), (w_Led cs (hX 1) h_now I_now V_now), (w_Act cs (hX 2) h_act laa I_act V_act), (w_Pool cs laa lah LaI LaV 10)]) (ca := [(w_Led cs (hX 1) h_now I_now V_now)]) (ra := [(w_X cs o hX I V), (w_Act cs (hX 2) h_act laa I_act V_act), (w_Pool cs laa lah LaI LaV 10)]) [1, 0, 2, 3] (by decide) rfl rfl hP
    obtain ⟨zr2, qr2, hf⟩ := bd1 hf
    refine vp_callSi (va_Run.run (va_runV (As := [.int x2]) (rest := []) ⟨hx, hb, hml, hown, hts⟩ (c_Led_has l D cs (hX 1) h_now I_now V_now x2 f zr2 qr2) w_has_117 ⟨yR_moved, va_recv hK hPc (ci := 3) (q0 := 0) rfl rfl, fun U hU hW => ⟨rfl, by rw [hU]; exact hPc, va_K.moved hW.alike hK, yN_warm hW hN⟩⟩ rfl rfl hl.1 rfl (lv_room (Nat.le_of_ble_eq_true rfl)) dX9_lend_16 ⟨Nat.zero_le _, Nat.zero_le _⟩)) (fun r2 er2 => ?_)
    rw [er2]
    refine lv_if_ne (tgt := 24) hx hb dX9_lend_19 (by decide) (fun c19 => ?_) (fun c19 => ?_)
    · replace hf := im c19 hf
      refine lv_iload_n hx hb dX9_lend_24 rfl (lv_at hl 1 rfl) ?_
      refine lv_iload_n hx hb dX9_lend_25 rfl (lv_at hl 2 rfl) ?_
      refine lv_icmp_eq (tgt := 49) hx hb dX9_lend_26 (by decide) (fun c26 => ?_) (fun c26 => ?_)
      · replace hf := ip c26 hf
        refine lv_bipush (v := (-2)) hx hb dX9_lend_49 (by decide) ?_
        exact hret (-2) I_now V_now I_act LaI LaV _ _ 51 _ hf hP hD hS dX9_lend_51
      · replace hf := im c26 hf
        refine lv_iload_n hx hb dX9_lend_29 rfl (lv_at hl 3 rfl) ?_
        obtain ⟨zr3, qr3, hf⟩ := bd1 hf
        refine vp_callSi (va_Run.run (va_runS (As := [.int x3]) (rest := []) ⟨hx, hb, hml, hown, hts⟩ (c_X_isLoan l x3 f zr3 qr3) w_isLoan_156 ⟨fun a U g mk q => q, fun U hU hW => ⟨rfl, trivial⟩⟩ rfl rfl hl.1 rfl (lv_room (Nat.le_of_ble_eq_true rfl)) dX9_lend_30 ⟨Nat.zero_le _, Nat.zero_le _⟩)) (fun r3 er3 => ?_)
        rw [er3]
        refine lv_if_eq (tgt := 49) hx hb dX9_lend_33 (by decide) (fun c33 => ?_) (fun c33 => ?_)
        · replace hf := ip c33 hf
          refine lv_bipush (v := (-2)) hx hb dX9_lend_49 (by decide) ?_
          exact hret (-2) I_now V_now I_act LaI LaV _ _ 51 _ hf hP hD hS dX9_lend_51
        · replace hf := im c33 hf
          refine lv_iload hx hb dX9_lend_36 (lv_at hl 4 rfl) ?_
          refine lv_iconst (v := 1) hx hb dX9_lend_38 (by decide) ?_
          refine lv_icmp_lt (tgt := 49) hx hb dX9_lend_39 (by decide) (fun c39 => ?_) (fun c39 => ?_)
          · replace hf := ip c39 hf
            refine lv_bipush (v := (-2)) hx hb dX9_lend_49 (by decide) ?_
            exact hret (-2) I_now V_now I_act LaI LaV _ _ 51 _ hf hP hD hS dX9_lend_51
          · replace hf := im c39 hf
            refine lv_iload hx hb dX9_lend_42 (lv_at hl 4 rfl) ?_
            refine lv_bipush (v := 9) hx hb dX9_lend_44 (by decide) ?_
            refine lv_icmp_le (tgt := 52) hx hb dX9_lend_46 (by decide) (fun c46 => ?_) (fun c46 => ?_)
            · replace hf := ip c46 hf
              refine lv_aload_n hx hb dX9_lend_52 rfl (lv_at hl 0 rfl) ?_
              refine va_get (D := D) (ci := 9) (v := .ref (hX 1)) (C := RX9) (T := TX9) (N := 9) hx hb hts in_X9 hown hK hP 0 rfl rfl 1 (by decide) g_19 (fun _ h9 => h9) rfl dX9_lend_53 ?_
              refine lv_iload_n hx hb dX9_lend_56 rfl (lv_at hl 1 rfl) ?_
              refine lv_iload_n hx hb dX9_lend_57 rfl (lv_at hl 2 rfl) ?_
              refine lv_iload_n hx hb dX9_lend_58 rfl (lv_at hl 3 rfl) ?_
              have hPc := subB (bs := [(w_X cs o hX I V), (w_Led cs (hX 1) h_now I_now V_now), (w_Act cs (hX 2) h_act laa I_act V_act), (w_Pool cs laa lah LaI LaV 10)]) (ca := [(w_Led cs (hX 1) h_now I_now V_now)]) (ra := [(w_X cs o hX I V), (w_Act cs (hX 2) h_act laa I_act V_act), (w_Pool cs laa lah LaI LaV 10)]) [1, 0, 2, 3] (by decide) rfl rfl hP
              obtain ⟨zr4, qr4, hf⟩ := bd1 hf
              refine vp_callSi (va_Run.run (va_runV (As := [.int x1, .int x2, .int x3]) (rest := []) ⟨hx, hb, hml, hown, hts⟩ (c_Led_mayLend l D cs (hX 1) h_now I_now V_now x1 x2 x3 f zr4 qr4) w_mayLend_159 ⟨yR_moved, va_recv hK hPc (ci := 3) (q0 := 0) rfl rfl, fun U hU hW => ⟨rfl, by rw [hU]; exact hPc, va_K.moved hW.alike hK, yN_warm hW hN⟩⟩ rfl rfl hl.1 rfl (lv_room (Nat.le_of_ble_eq_true rfl)) dX9_lend_59 ⟨Nat.zero_le _, Nat.zero_le _⟩)) (fun r4 er4 => ?_)
              rw [er4]
              refine lv_if_ne (tgt := 68) hx hb dX9_lend_62 (by decide) (fun c62 => ?_) (fun c62 => ?_)
              · replace hf := im c62 hf
                refine lv_aload_n hx hb dX9_lend_68 rfl (lv_at hl 0 rfl) ?_
                refine va_get (D := D) (ci := 9) (v := .ref (hX 1)) (C := RX9) (T := TX9) (N := 9) hx hb hts in_X9 hown hK hP 0 rfl rfl 1 (by decide) g_19 (fun _ h9 => h9) rfl dX9_lend_69 ?_
                refine va_get (D := D) (ci := 3) (v := .int (I_now 1)) (C := RX3) (T := TX3) (N := 11) hx hb hts in_X3 hown hK hP 1 rfl rfl 1 (by decide) g_95 (fun _ h9 => h9) rfl dX9_lend_72 ?_
                refine lv_bipush (v := 12) hx hb dX9_lend_75 (by decide) ?_
                refine lv_icmp_lt (tgt := 83) hx hb dX9_lend_77 (by decide) (fun c77 => ?_) (fun c77 => ?_)
                · replace hf := ip c77 hf
                  refine lv_aload_n hx hb dX9_lend_83 rfl (lv_at hl 0 rfl) ?_
                  refine va_get (D := D) (ci := 9) (v := .ref (hX 2)) (C := RX9) (T := TX9) (N := 9) hx hb hts in_X9 hown hK hP 0 rfl rfl 2 (by decide) g_26 (fun _ h9 => h9) rfl dX9_lend_84 ?_
                  refine lv_aload_n hx hb dX9_lend_87 rfl (lv_at hl 0 rfl) ?_
                  refine va_get (D := D) (ci := 9) (v := .ref (hX 1)) (C := RX9) (T := TX9) (N := 9) hx hb hts in_X9 hown hK hP 0 rfl rfl 1 (by decide) g_19 (fun _ h9 => h9) rfl dX9_lend_88 ?_
                  have hPc := subB (bs := [(w_X cs o hX I V), (w_Led cs (hX 1) h_now I_now V_now), (w_Act cs (hX 2) h_act laa I_act V_act), (w_Pool cs laa lah LaI LaV 10)]) (ca := [(w_Act cs (hX 2) h_act laa I_act V_act), (w_Pool cs laa lah LaI LaV 10), (w_Led cs (hX 1) h_now I_now V_now)]) (ra := [(w_X cs o hX I V)]) [2, 3, 1, 0] (by decide) rfl rfl hP
                  obtain ⟨I6, I7, V8, qr5, hf⟩ := bd3 hf
                  have hDc := subD (bs := [(w_X cs o hX I V), (w_Led cs (hX 1) h_now I_now V_now), (w_Act cs (hX 2) h_act laa I_act V_act), (w_Pool cs laa lah LaI LaV 10)]) (ca := [(w_Act cs (hX 2) h_act laa I_act V_act), (w_Pool cs laa lah LaI LaV 10), (w_Led cs (hX 1) h_now I_now V_now)]) (ra := [(w_X cs o hX I V)]) [2, 3, 1, 0] (by decide) rfl rfl hD
                  have hFc := xfree hDc hS hA
                  refine va_callv (va_runV (As := [.ref (hX 1)]) (rest := []) ⟨hx, hb, hml, hown, hts⟩ (c_Act_remember l D cs (hX 2) h_act laa lah (hX 1) h_now _ I_act V_act LaI LaV I_now V_now f _ qr5) w_remember_163 ⟨yP_moved, va_recv hK hPc (ci := 0) (q0 := 0) rfl rfl, fun U hU hW => ⟨rfl, by rw [hU], by rw [hU]; exact hPc, va_K.moved hW.alike hK, yN_warm hW hN, hDc.weaken (fun _ _ _ _ => trivial)⟩⟩ rfl rfl hl.1 rfl (lv_room (Nat.le_of_ble_eq_true rfl)) dX9_lend_91 ⟨Nat.zero_le _, Nat.zero_le _⟩) hS (fun q _ h9 => hFc q h9) hFc (fun u t H1 locs ht hvm hw hB hz1 hk1 hS => ?_)
                  rw [hw] at hB
                  obtain ⟨hP1, hK1, hD1⟩ := hB
                  rw [ht] at hP1
                  obtain ⟨hP, hD⟩ := joinB (bs := [(w_X cs o hX I V), (w_Led cs (hX 1) h_now I_now V_now), (w_Act cs (hX 2) h_act laa I_act V_act), (w_Pool cs laa lah LaI LaV 10)]) (ca := [(w_Act cs (hX 2) h_act laa I_act V_act), (w_Pool cs laa lah LaI LaV 10), (w_Led cs (hX 1) h_now I_now V_now)]) (ra := [(w_X cs o hX I V)]) [2, 3, 1, 0] (by decide) rfl rfl hP hD hk1 hFc (cb := [(w_Act cs (hX 2) h_act laa I6 V_act), (w_Pool cs laa lah I7 V8 10), (w_Led cs (hX 1) h_now I_now V_now)]) hP1 hD1 (be := [(w_X cs o hX I V), (w_Led cs (hX 1) h_now I_now V_now), (w_Act cs (hX 2) h_act laa I6 V_act), (w_Pool cs laa lah I7 V8 10)]) [3, 2, 0, 1] (by decide) rfl rfl
                  refine lv_aload_n hx hb dX9_lend_94 rfl (lv_at hl 0 rfl) ?_
                  refine va_get (D := D) (ci := 9) (v := .ref (hX 1)) (C := RX9) (T := TX9) (N := 9) hx hb hts in_X9 hown hK hP 0 rfl rfl 1 (by decide) g_19 (fun _ h9 => h9) rfl dX9_lend_95 ?_
                  refine lv_iload_n hx hb dX9_lend_98 rfl (lv_at hl 1 rfl) ?_
                  refine lv_iload_n hx hb dX9_lend_99 rfl (lv_at hl 2 rfl) ?_
                  refine lv_iload_n hx hb dX9_lend_100 rfl (lv_at hl 3 rfl) ?_
                  refine lv_iload hx hb dX9_lend_101 (lv_at hl 4 rfl) ?_
                  have hPc := subB (bs := [(w_X cs o hX I V), (w_Led cs (hX 1) h_now I_now V_now), (w_Act cs (hX 2) h_act laa I6 V_act), (w_Pool cs laa lah I7 V8 10)]) (ca := [(w_Led cs (hX 1) h_now I_now V_now)]) (ra := [(w_X cs o hX I V), (w_Act cs (hX 2) h_act laa I6 V_act), (w_Pool cs laa lah I7 V8 10)]) [1, 0, 2, 3] (by decide) rfl rfl hP
                  obtain ⟨zr9, I10, V11, qr9, hf⟩ := bd3 hf
                  have hDc := subD (bs := [(w_X cs o hX I V), (w_Led cs (hX 1) h_now I_now V_now), (w_Act cs (hX 2) h_act laa I6 V_act), (w_Pool cs laa lah I7 V8 10)]) (ca := [(w_Led cs (hX 1) h_now I_now V_now)]) (ra := [(w_X cs o hX I V), (w_Act cs (hX 2) h_act laa I6 V_act), (w_Pool cs laa lah I7 V8 10)]) [1, 0, 2, 3] (by decide) rfl rfl hD
                  have hFc := xfree hDc hS hA
                  refine va_calli (va_runV (As := [.int x1, .int x2, .int x3, .int x4]) (rest := []) ⟨hx, hb, hml, hown, hts⟩ (c_Led_giveAsLoan l D cs (hX 1) h_now _ I_now V_now x1 x2 x3 x4 f _ qr9) w_giveAsLoan_166 ⟨yP_moved, va_recv hK hPc (ci := 3) (q0 := 0) rfl rfl, fun U hU hW => ⟨rfl, by rw [hU], by rw [hU]; exact hPc, va_K.moved hW.alike hK, yN_warm hW hN, hDc.weaken (fun _ _ _ _ => trivial)⟩⟩ rfl rfl hl.1 rfl (lv_room (Nat.le_of_ble_eq_true rfl)) dX9_lend_103 ⟨Nat.zero_le _, Nat.zero_le _⟩) hS (fun q _ h9 => hFc q h9) hFc (fun r9 u t H1 locs ht hvm hw hB hz1 hk1 hS => ?_)
                  have er9 := congrArg Prod.fst hw
                  have eu := congrArg Prod.snd hw
                  dsimp only at er9 eu
                  rw [er9]
                  rw [eu] at hB
                  obtain ⟨hP1, hK1, hD1⟩ := hB
                  rw [ht] at hP1
                  obtain ⟨hP, hD⟩ := joinB (bs := [(w_X cs o hX I V), (w_Led cs (hX 1) h_now I_now V_now), (w_Act cs (hX 2) h_act laa I6 V_act), (w_Pool cs laa lah I7 V8 10)]) (ca := [(w_Led cs (hX 1) h_now I_now V_now)]) (ra := [(w_X cs o hX I V), (w_Act cs (hX 2) h_act laa I6 V_act), (w_Pool cs laa lah I7 V8 10)]) [1, 0, 2, 3] (by decide) rfl rfl hP hD hk1 hFc (cb := [(w_Led cs (hX 1) h_now I10 V11)]) hP1 hD1 (be := [(w_X cs o hX I V), (w_Led cs (hX 1) h_now I10 V11), (w_Act cs (hX 2) h_act laa I6 V_act), (w_Pool cs laa lah I7 V8 10)]) [1, 0, 2, 3] (by decide) rfl rfl
                  exact hret zr9 I10 V11 I6 I7 V8 _ _ 106 _ hf hP hD hS dX9_lend_106
                · replace hf := im c77 hf
                  refine lv_bipush (v := (-4)) hx hb dX9_lend_80 (by decide) ?_
                  exact hret (-4) I_now V_now I_act LaI LaV _ _ 82 _ hf hP hD hS dX9_lend_82
              · replace hf := ip c62 hf
                refine lv_bipush (v := (-3)) hx hb dX9_lend_65 (by decide) ?_
                exact hret (-3) I_now V_now I_act LaI LaV _ _ 67 _ hf hP hD hS dX9_lend_67
            · replace hf := im c46 hf
              refine lv_bipush (v := (-2)) hx hb dX9_lend_49 (by decide) ?_
              exact hret (-2) I_now V_now I_act LaI LaV _ _ 51 _ hf hP hD hS dX9_lend_51
    · replace hf := ip c19 hf
      refine lv_iconst (v := (-1)) hx hb dX9_lend_22 (by decide) ?_
      exact hret (-1) I_now V_now I_act LaI LaV _ _ 23 _ hf hP hD hS dX9_lend_23
set_option maxHeartbeats 4000000 in
set_option maxRecDepth 100000 in
theorem c_X_lend (l : Launch) (D : va_G) (cs : Nat → ClassId) (o : Nat) (hX : Nat → Nat) (h_now : Nat → Nat) (h_act : Nat → Nat) (laa : Nat → Nat) (lah : Nat → Nat → Nat) (sz : Nat) (I : FI) (V : FV) (I_now : FI) (V_now : FV) (I_act : FI) (V_act : FV) (LaI : Nat → FI) (LaV : Nat → FV) (x1 : Int32) (x2 : Int32) (x3 : Int32) (x4 : Int32) (f : Nat) (out : Int32 × FI × FV × FI × (Nat → FI) × (Nat → FV)) (hf : X_lend f x1 x2 x3 x4 I V I_now V_now I_act V_act LaI LaV = some out) : Met l yX9_lend wsX9_lend rm_X_lend (va_Pc [.ref o, .int x1, .int x2, .int x3, .int x4] (yP D cs (List.flatten [(w_X cs o hX I V), (w_Led cs (hX 1) h_now I_now V_now), (w_Act cs (hX 2) h_act laa I_act V_act), (w_Pool cs laa lah LaI LaV 10)]) sz)) (va_Qi (fun r u => (r, u) = out) (fun (u : FI × FV × FI × (Nat → FI) × (Nat → FV)) t => xA D cs (va_A (List.flatten [(w_X cs o hX I V), (w_Led cs (hX 1) h_now I_now V_now), (w_Act cs (hX 2) h_act laa I_act V_act), (w_Pool cs laa lah LaI LaV 10)]) sz) (List.flatten [(w_X cs o hX I V), (w_Led cs (hX 1) h_now u.1 u.2.1), (w_Act cs (hX 2) h_act laa u.2.2.1 V_act), (w_Pool cs laa lah u.2.2.2.1 u.2.2.2.2 10)]) t) (va_A (List.flatten [(w_X cs o hX I V), (w_Led cs (hX 1) h_now I_now V_now), (w_Act cs (hX 2) h_act laa I_act V_act), (w_Pool cs laa lah LaI LaV 10)]) sz)) 0 0 (va_A (List.flatten [(w_X cs o hX I V), (w_Led cs (hX 1) h_now I_now V_now), (w_Act cs (hX 2) h_act laa I_act V_act), (w_Pool cs laa lah LaI LaV 10)]) sz) := by
  refine Met.ofW (cc := cX9_lend) (maxL := 5) (ret := (some .int)) (by decide) rfl ?_
  intro p e s m args below meth c s₁ B hml hv
  obtain ⟨ha, hsz, hP, hK, hN, hD0⟩ := hv
  have hx := B.exec
  have hb := B.bytes
  have hr := B.returns
  have hts := atoms_spec (ws := wsX9_lend) B.pre
  have hown : s.vm.findClass RX9 = some m.cls := findClass_of_methodNamed B.named
  have hlocks := B.notSynchronized
  have in_X9 : ∀ w ∈ u_ws RX9 TX9 9, w ∈ wsX9_lend := fun w h => List.mem_cons_of_mem _ (List.mem_append_left _ (List.mem_append_left _ (List.mem_append_right _ h)))
  have in_X3 : ∀ w ∈ u_ws RX3 TX3 11, w ∈ wsX9_lend := fun w h => List.mem_cons_of_mem _ (List.mem_append_left _ (List.mem_append_right _ h))
  have in_X0 : ∀ w ∈ u_ws RX0 TX0 3, w ∈ wsX9_lend := fun w h => List.mem_cons_of_mem _ (List.mem_append_right _ h)
  have g_19 := hts (Cond.fieldLink RX9 19 "DaysLent" "now" "LDaysLent$Ledger;") (by decide +kernel)
  have w_has_117 := cwV (R := rm_X_lend) (s := s) (args := args) (rm := rm_Led_has) (mc := 0) (ms := 0) 1 hts gX9_lend_X3_has rfl rfl rfl (by decide +kernel) ⟨Nat.le_of_ble_eq_true rfl, Nat.le_of_ble_eq_true rfl⟩
  have w_isLoan_156 := va_cwS (R := rm_X_lend) (s := s) (args := args) (rm := rm_X_isLoan) (mc := 0) (ms := 0) 1 hts gX9_lend_X9_isLoan rfl rfl rfl (by decide +kernel) ⟨Nat.le_of_ble_eq_true rfl, Nat.le_of_ble_eq_true rfl⟩
  have w_mayLend_159 := cwV (R := rm_X_lend) (s := s) (args := args) (rm := rm_Led_mayLend) (mc := 0) (ms := 0) 3 hts gX9_lend_X3_mayLend rfl rfl rfl (by decide +kernel) ⟨Nat.le_of_ble_eq_true rfl, Nat.le_of_ble_eq_true rfl⟩
  have g_95 := hts (Cond.fieldLink RX9 95 "DaysLent$Ledger" "debts" "I") (by decide +kernel)
  have g_26 := hts (Cond.fieldLink RX9 26 "DaysLent" "acts" "LDaysLent$Acts;") (by decide +kernel)
  have w_remember_163 := cwV (R := rm_X_lend) (s := s) (args := args) (rm := rm_Act_remember) (mc := 0) (ms := 0) 1 hts gX9_lend_X0_remember rfl rfl rfl (by decide +kernel) ⟨Nat.le_of_ble_eq_true rfl, Nat.le_of_ble_eq_true rfl⟩
  have w_giveAsLoan_166 := cwV (R := rm_X_lend) (s := s) (args := args) (rm := rm_Led_giveAsLoan) (mc := 0) (ms := 0) 4 hts gX9_lend_X3_giveAsLoan rfl rfl rfl (by decide +kernel) ⟨Nat.le_of_ble_eq_true rfl, Nat.le_of_ble_eq_true rfl⟩
  subst hsz
  have hD := hD0.self (sz := s.heap.size)
  generalize hAe : va_A (List.flatten [(w_X cs o hX I V), (w_Led cs (hX 1) h_now I_now V_now), (w_Act cs (hX 2) h_act laa I_act V_act), (w_Pool cs laa lah LaI LaV 10)]) s.heap.size = A at hD ⊢
  have hA : ∀ q : Nat, s.heap.size ≤ q → A q := fun q h => by rw [← hAe]; exact Or.inr h
  have hl := lv_entry ([.ref o, .int x1, .int x2, .int x3, .int x4]) (n := 5) (Nat.le_of_ble_eq_true rfl)
  rw [show entryFrame m args 5 = entryFrame m ([.ref o, .int x1, .int x2, .int x3, .int x4] : List Value).toArray 5 from by rw [ha], lg_entry_eq]
  generalize (lg_sl ([.ref o, .int x1, .int x2, .int x3, .int x4]) ++ List.replicate (5 - (lg_sl ([.ref o, .int x1, .int x2, .int x3, .int x4])).length) Slot.unset).toArray = ls at hl ⊢
  generalize hQ : MQ below (va_Qi (fun r u => (r, u) = out) (fun (u : FI × FV × FI × (Nat → FI) × (Nat → FV)) t => xA D cs A (List.flatten [(w_X cs o hX I V), (w_Led cs (hX 1) h_now u.1 u.2.1), (w_Act cs (hX 2) h_act laa u.2.2.1 V_act), (w_Pool cs laa lah u.2.2.2.1 u.2.2.2.2 10)]) t) A) args s 0 0 A = Q
  have hret : ∀ (v : Int32) (Inow9 : FI) (Vnow9 : FV) (Iact9 : FI) (Ipa9 : Nat → FI) (Vpa9 : Nat → FV) (H : Heap) (locs : List Loc) (pc : Nat) (ls : Array Slot), some (v, Inow9, Vnow9, Iact9, Ipa9, Vpa9) = some out → va_P D vwCl (List.flatten [(w_X cs o hX I V), (w_Led cs (hX 1) h_now Inow9 Vnow9), (w_Act cs (hX 2) h_act laa Iact9 V_act), (w_Pool cs laa lah Ipa9 Vpa9 10)]) H → va_D A (List.flatten [(w_X cs o hX I V), (w_Led cs (hX 1) h_now Inow9 Vnow9), (w_Act cs (hX 2) h_act laa Iact9 V_act), (w_Pool cs laa lah Ipa9 Vpa9 10)]) → va_S A s.heap H locs → decode cX9_lend pc = .ok (.ireturn, 1) → W p l e rm_X_lend s m args below meth c H locs 0 0 Q (F0 m pc ls [.int v]) := by
    intro v Inow9 Vnow9 Iact9 Ipa9 Vpa9 H locs pc ls hf hP hD hS hd
    rw [← hQ]
    exact W.iret (v := v) hx hb hr (fun t ht hW => ⟨⟨v, (Inow9, Vnow9, Iact9, Ipa9, Vpa9), rfl, Option.some.inj hf, by show va_P D vwCl (List.flatten [(w_X cs o hX I V), (w_Led cs (hX 1) h_now Inow9 Vnow9), (w_Act cs (hX 2) h_act laa Iact9 V_act), (w_Pool cs laa lah Ipa9 Vpa9 10)]) t.heap; rw [ht]; exact hP, va_K.moved hW.alike hK, hD⟩, hS.F ht⟩) hS.2.2 hd
  exact v_X_lend hf hx hb hml hown hts in_X9 in_X3 in_X0 g_19 w_has_117 w_isLoan_156 w_mayLend_159 g_95 g_26 w_remember_163 w_giveAsLoan_166 hA hP hD hK hN hret ls hl
def X_week (f : Nat) (I : FI) (V : FV) (I_act : FI) (V_act : FV) (I_now : FI) (V_now : FV) (LaI : Nat → FI) (LaV : Nat → FV) : Option (Int32 × FI × FI × FV × (Nat → FI) × (Nat → FV)) := ob3 (Act_remember f I_act V_act LaI LaV I_now V_now) (fun I2 I3 V4 => ob3 (Led_passWeek f I_now V_now) (fun zr5 I6 V7 => some (zr5, I2, I6, V7, I3, V4)))
abbrev rm_X_week : Room := { frames := 3, cells := 0, slots := 0, locals := 69 }
set_option maxHeartbeats 4000000 in
set_option maxRecDepth 100000 in
theorem v_X_week {l : Launch} {p : Program} {e : Env} {s : State} {m : MethodId} {args : Array Value} {below : List Frame} {meth : Method} {c : Code} {Q : State → Prop} {D : va_G} {cs : Nat → ClassId} {o : Nat} {hX : Nat → Nat} {h_act : Nat → Nat} {laa : Nat → Nat} {h_now : Nat → Nat} {lah : Nat → Nat → Nat} {A : Nat → Prop} {I : FI} {V : FV} {I_act : FI} {V_act : FV} {I_now : FI} {V_now : FV} {LaI : Nat → FI} {LaV : Nat → FV} {f : Nat} {out : Int32 × FI × FI × FV × (Nat → FI) × (Nat → FV)} (hf : X_week f I V I_act V_act I_now V_now LaI LaV = some out) (hx : p.tables.exec = Jvm.exec) (hb : c.code = cX9_week) (hml : c.maxLocals = 1) (hown : s.vm.findClass RX9 = some m.cls) (hts : ∀ w ∈ wsX9_week, w.before args s = true) (in_X9 : ∀ w ∈ u_ws RX9 TX9 9, w ∈ wsX9_week) (in_X0 : ∀ w ∈ u_ws RX0 TX0 3, w ∈ wsX9_week) (in_X3 : ∀ w ∈ u_ws RX3 TX3 11, w ∈ wsX9_week) (g_26 : (Cond.fieldLink RX9 26 "DaysLent" "acts" "LDaysLent$Acts;").before args s = true) (g_19 : (Cond.fieldLink RX9 19 "DaysLent" "now" "LDaysLent$Ledger;").before args s = true) (w_remember_163 : CallW rm_X_week s args RX9 RX0 163 yX0_remember cX0_remember 2 none wsX0_remember rm_Act_remember 0 0 1) (w_passWeek_170 : CallW rm_X_week s args RX9 RX3 170 yX3_passWeek cX3_passWeek 4 (some .int) wsX3_passWeek rm_Led_passWeek 0 0 0) (hA : ∀ q : Nat, s.heap.size ≤ q → A q) (hP : va_P D vwCl (List.flatten [(w_X cs o hX I V), (w_Act cs (hX 2) h_act laa I_act V_act), (w_Led cs (hX 1) h_now I_now V_now), (w_Pool cs laa lah LaI LaV 10)]) s.heap) (hD : va_D A (List.flatten [(w_X cs o hX I V), (w_Act cs (hX 2) h_act laa I_act V_act), (w_Led cs (hX 1) h_now I_now V_now), (w_Pool cs laa lah LaI LaV 10)])) (hK : va_K D vwCl (tyA cs) s) (hN : yN s) (hret : ∀ (v : Int32) (Iact9 : FI) (Inow9 : FI) (Vnow9 : FV) (Ipa9 : Nat → FI) (Vpa9 : Nat → FV) (H : Heap) (locs : List Loc) (pc : Nat) (ls : Array Slot), some (v, Iact9, Inow9, Vnow9, Ipa9, Vpa9) = some out → va_P D vwCl (List.flatten [(w_X cs o hX I V), (w_Act cs (hX 2) h_act laa Iact9 V_act), (w_Led cs (hX 1) h_now Inow9 Vnow9), (w_Pool cs laa lah Ipa9 Vpa9 10)]) H → va_D A (List.flatten [(w_X cs o hX I V), (w_Act cs (hX 2) h_act laa Iact9 V_act), (w_Led cs (hX 1) h_now Inow9 Vnow9), (w_Pool cs laa lah Ipa9 Vpa9 10)]) → va_S A s.heap H locs → decode cX9_week pc = .ok (.ireturn, 1) → W p l e rm_X_week s m args below meth c H locs 0 0 Q (F0 m pc ls [.int v])) : ∀ ls : Array Slot, lv_has ls 1 [(0, .ref o)] → W p l e rm_X_week s m args below meth c s.heap [] 0 0 Q (F0 m 0 ls []) := by
  intro ls hl
  have hS : va_S A s.heap s.heap [] := va_S.rf
  unfold X_week at hf
  refine lv_aload_n hx hb dX9_week_0 rfl (lv_at hl 0 rfl) ?_
  refine va_get (D := D) (ci := 9) (v := .ref (hX 2)) (C := RX9) (T := TX9) (N := 9) hx hb hts in_X9 hown hK hP 0 rfl rfl 2 (by decide) g_26 (fun _ h9 => h9) rfl dX9_week_1 ?_
  refine lv_aload_n hx hb dX9_week_4 rfl (lv_at hl 0 rfl) ?_
  refine va_get (D := D) (ci := 9) (v := .ref (hX 1)) (C := RX9) (T := TX9) (N := 9) hx hb hts in_X9 hown hK hP 0 rfl rfl 1 (by decide) g_19 (fun _ h9 => h9) rfl dX9_week_5 ?_
  have hPc := subB (bs := [(w_X cs o hX I V), (w_Act cs (hX 2) h_act laa I_act V_act), (w_Led cs (hX 1) h_now I_now V_now), (w_Pool cs laa lah LaI LaV 10)]) (ca := [(w_Act cs (hX 2) h_act laa I_act V_act), (w_Pool cs laa lah LaI LaV 10), (w_Led cs (hX 1) h_now I_now V_now)]) (ra := [(w_X cs o hX I V)]) [1, 3, 2, 0] (by decide) rfl rfl hP
  obtain ⟨I2, I3, V4, qr1, hf⟩ := bd3 hf
  have hDc := subD (bs := [(w_X cs o hX I V), (w_Act cs (hX 2) h_act laa I_act V_act), (w_Led cs (hX 1) h_now I_now V_now), (w_Pool cs laa lah LaI LaV 10)]) (ca := [(w_Act cs (hX 2) h_act laa I_act V_act), (w_Pool cs laa lah LaI LaV 10), (w_Led cs (hX 1) h_now I_now V_now)]) (ra := [(w_X cs o hX I V)]) [1, 3, 2, 0] (by decide) rfl rfl hD
  have hFc := xfree hDc hS hA
  refine va_callv (va_runV (As := [.ref (hX 1)]) (rest := []) ⟨hx, hb, hml, hown, hts⟩ (c_Act_remember l D cs (hX 2) h_act laa lah (hX 1) h_now _ I_act V_act LaI LaV I_now V_now f _ qr1) w_remember_163 ⟨yP_moved, va_recv hK hPc (ci := 0) (q0 := 0) rfl rfl, fun U hU hW => ⟨rfl, by rw [hU], by rw [hU]; exact hPc, va_K.moved hW.alike hK, yN_warm hW hN, hDc.weaken (fun _ _ _ _ => trivial)⟩⟩ rfl rfl hl.1 rfl (lv_room (Nat.le_of_ble_eq_true rfl)) dX9_week_8 ⟨Nat.zero_le _, Nat.zero_le _⟩) hS (fun q _ h9 => hFc q h9) hFc (fun u t H1 locs ht hvm hw hB hz1 hk1 hS => ?_)
  rw [hw] at hB
  obtain ⟨hP1, hK1, hD1⟩ := hB
  rw [ht] at hP1
  obtain ⟨hP, hD⟩ := joinB (bs := [(w_X cs o hX I V), (w_Act cs (hX 2) h_act laa I_act V_act), (w_Led cs (hX 1) h_now I_now V_now), (w_Pool cs laa lah LaI LaV 10)]) (ca := [(w_Act cs (hX 2) h_act laa I_act V_act), (w_Pool cs laa lah LaI LaV 10), (w_Led cs (hX 1) h_now I_now V_now)]) (ra := [(w_X cs o hX I V)]) [1, 3, 2, 0] (by decide) rfl rfl hP hD hk1 hFc (cb := [(w_Act cs (hX 2) h_act laa I2 V_act), (w_Pool cs laa lah I3 V4 10), (w_Led cs (hX 1) h_now I_now V_now)]) hP1 hD1 (be := [(w_X cs o hX I V), (w_Act cs (hX 2) h_act laa I2 V_act), (w_Led cs (hX 1) h_now I_now V_now), (w_Pool cs laa lah I3 V4 10)]) [3, 0, 2, 1] (by decide) rfl rfl
  refine lv_aload_n hx hb dX9_week_11 rfl (lv_at hl 0 rfl) ?_
  refine va_get (D := D) (ci := 9) (v := .ref (hX 1)) (C := RX9) (T := TX9) (N := 9) hx hb hts in_X9 hown hK hP 0 rfl rfl 1 (by decide) g_19 (fun _ h9 => h9) rfl dX9_week_12 ?_
  have hPc := subB (bs := [(w_X cs o hX I V), (w_Act cs (hX 2) h_act laa I2 V_act), (w_Led cs (hX 1) h_now I_now V_now), (w_Pool cs laa lah I3 V4 10)]) (ca := [(w_Led cs (hX 1) h_now I_now V_now)]) (ra := [(w_X cs o hX I V), (w_Act cs (hX 2) h_act laa I2 V_act), (w_Pool cs laa lah I3 V4 10)]) [2, 0, 1, 3] (by decide) rfl rfl hP
  obtain ⟨zr5, I6, V7, qr5, hf⟩ := bd3 hf
  have hDc := subD (bs := [(w_X cs o hX I V), (w_Act cs (hX 2) h_act laa I2 V_act), (w_Led cs (hX 1) h_now I_now V_now), (w_Pool cs laa lah I3 V4 10)]) (ca := [(w_Led cs (hX 1) h_now I_now V_now)]) (ra := [(w_X cs o hX I V), (w_Act cs (hX 2) h_act laa I2 V_act), (w_Pool cs laa lah I3 V4 10)]) [2, 0, 1, 3] (by decide) rfl rfl hD
  have hFc := xfree hDc hS hA
  refine va_calli (va_runV (As := []) (rest := []) ⟨hx, hb, hml, hown, hts⟩ (c_Led_passWeek l D cs (hX 1) h_now _ I_now V_now f _ qr5) w_passWeek_170 ⟨yP_moved, va_recv hK hPc (ci := 3) (q0 := 0) rfl rfl, fun U hU hW => ⟨rfl, by rw [hU], by rw [hU]; exact hPc, va_K.moved hW.alike hK, yN_warm hW hN, hDc.weaken (fun _ _ _ _ => trivial)⟩⟩ rfl rfl hl.1 rfl (lv_room (Nat.le_of_ble_eq_true rfl)) dX9_week_15 ⟨Nat.zero_le _, Nat.zero_le _⟩) hS (fun q _ h9 => hFc q h9) hFc (fun r5 u t H1 locs ht hvm hw hB hz1 hk1 hS => ?_)
  have er5 := congrArg Prod.fst hw
  have eu := congrArg Prod.snd hw
  dsimp only at er5 eu
  rw [er5]
  rw [eu] at hB
  obtain ⟨hP1, hK1, hD1⟩ := hB
  rw [ht] at hP1
  obtain ⟨hP, hD⟩ := joinB (bs := [(w_X cs o hX I V), (w_Act cs (hX 2) h_act laa I2 V_act), (w_Led cs (hX 1) h_now I_now V_now), (w_Pool cs laa lah I3 V4 10)]) (ca := [(w_Led cs (hX 1) h_now I_now V_now)]) (ra := [(w_X cs o hX I V), (w_Act cs (hX 2) h_act laa I2 V_act), (w_Pool cs laa lah I3 V4 10)]) [2, 0, 1, 3] (by decide) rfl rfl hP hD hk1 hFc (cb := [(w_Led cs (hX 1) h_now I6 V7)]) hP1 hD1 (be := [(w_X cs o hX I V), (w_Act cs (hX 2) h_act laa I2 V_act), (w_Led cs (hX 1) h_now I6 V7), (w_Pool cs laa lah I3 V4 10)]) [1, 2, 0, 3] (by decide) rfl rfl
  exact hret zr5 I2 I6 V7 I3 V4 _ _ 18 _ hf hP hD hS dX9_week_18
set_option maxHeartbeats 4000000 in
set_option maxRecDepth 100000 in
theorem c_X_week (l : Launch) (D : va_G) (cs : Nat → ClassId) (o : Nat) (hX : Nat → Nat) (h_act : Nat → Nat) (laa : Nat → Nat) (h_now : Nat → Nat) (lah : Nat → Nat → Nat) (sz : Nat) (I : FI) (V : FV) (I_act : FI) (V_act : FV) (I_now : FI) (V_now : FV) (LaI : Nat → FI) (LaV : Nat → FV) (f : Nat) (out : Int32 × FI × FI × FV × (Nat → FI) × (Nat → FV)) (hf : X_week f I V I_act V_act I_now V_now LaI LaV = some out) : Met l yX9_week wsX9_week rm_X_week (va_Pc [.ref o] (yP D cs (List.flatten [(w_X cs o hX I V), (w_Act cs (hX 2) h_act laa I_act V_act), (w_Led cs (hX 1) h_now I_now V_now), (w_Pool cs laa lah LaI LaV 10)]) sz)) (va_Qi (fun r u => (r, u) = out) (fun (u : FI × FI × FV × (Nat → FI) × (Nat → FV)) t => xA D cs (va_A (List.flatten [(w_X cs o hX I V), (w_Act cs (hX 2) h_act laa I_act V_act), (w_Led cs (hX 1) h_now I_now V_now), (w_Pool cs laa lah LaI LaV 10)]) sz) (List.flatten [(w_X cs o hX I V), (w_Act cs (hX 2) h_act laa u.1 V_act), (w_Led cs (hX 1) h_now u.2.1 u.2.2.1), (w_Pool cs laa lah u.2.2.2.1 u.2.2.2.2 10)]) t) (va_A (List.flatten [(w_X cs o hX I V), (w_Act cs (hX 2) h_act laa I_act V_act), (w_Led cs (hX 1) h_now I_now V_now), (w_Pool cs laa lah LaI LaV 10)]) sz)) 0 0 (va_A (List.flatten [(w_X cs o hX I V), (w_Act cs (hX 2) h_act laa I_act V_act), (w_Led cs (hX 1) h_now I_now V_now), (w_Pool cs laa lah LaI LaV 10)]) sz) := by
  refine Met.ofW (cc := cX9_week) (maxL := 1) (ret := (some .int)) (by decide) rfl ?_
  intro p e s m args below meth c s₁ B hml hv
  obtain ⟨ha, hsz, hP, hK, hN, hD0⟩ := hv
  have hx := B.exec
  have hb := B.bytes
  have hr := B.returns
  have hts := atoms_spec (ws := wsX9_week) B.pre
  have hown : s.vm.findClass RX9 = some m.cls := findClass_of_methodNamed B.named
  have hlocks := B.notSynchronized
  have in_X9 : ∀ w ∈ u_ws RX9 TX9 9, w ∈ wsX9_week := fun w h => List.mem_cons_of_mem _ (List.mem_append_left _ (List.mem_append_left _ (List.mem_append_right _ h)))
  have in_X0 : ∀ w ∈ u_ws RX0 TX0 3, w ∈ wsX9_week := fun w h => List.mem_cons_of_mem _ (List.mem_append_left _ (List.mem_append_right _ h))
  have in_X3 : ∀ w ∈ u_ws RX3 TX3 11, w ∈ wsX9_week := fun w h => List.mem_cons_of_mem _ (List.mem_append_right _ h)
  have g_26 := hts (Cond.fieldLink RX9 26 "DaysLent" "acts" "LDaysLent$Acts;") (by decide +kernel)
  have g_19 := hts (Cond.fieldLink RX9 19 "DaysLent" "now" "LDaysLent$Ledger;") (by decide +kernel)
  have w_remember_163 := cwV (R := rm_X_week) (s := s) (args := args) (rm := rm_Act_remember) (mc := 0) (ms := 0) 1 hts gX9_week_X0_remember rfl rfl rfl (by decide +kernel) ⟨Nat.le_of_ble_eq_true rfl, Nat.le_of_ble_eq_true rfl⟩
  have w_passWeek_170 := cwV (R := rm_X_week) (s := s) (args := args) (rm := rm_Led_passWeek) (mc := 0) (ms := 0) 0 hts gX9_week_X3_passWeek rfl rfl rfl (by decide +kernel) ⟨Nat.le_of_ble_eq_true rfl, Nat.le_of_ble_eq_true rfl⟩
  subst hsz
  have hD := hD0.self (sz := s.heap.size)
  generalize hAe : va_A (List.flatten [(w_X cs o hX I V), (w_Act cs (hX 2) h_act laa I_act V_act), (w_Led cs (hX 1) h_now I_now V_now), (w_Pool cs laa lah LaI LaV 10)]) s.heap.size = A at hD ⊢
  have hA : ∀ q : Nat, s.heap.size ≤ q → A q := fun q h => by rw [← hAe]; exact Or.inr h
  have hl := lv_entry ([.ref o]) (n := 1) (Nat.le_of_ble_eq_true rfl)
  rw [show entryFrame m args 1 = entryFrame m ([.ref o] : List Value).toArray 1 from by rw [ha], lg_entry_eq]
  generalize (lg_sl ([.ref o]) ++ List.replicate (1 - (lg_sl ([.ref o])).length) Slot.unset).toArray = ls at hl ⊢
  generalize hQ : MQ below (va_Qi (fun r u => (r, u) = out) (fun (u : FI × FI × FV × (Nat → FI) × (Nat → FV)) t => xA D cs A (List.flatten [(w_X cs o hX I V), (w_Act cs (hX 2) h_act laa u.1 V_act), (w_Led cs (hX 1) h_now u.2.1 u.2.2.1), (w_Pool cs laa lah u.2.2.2.1 u.2.2.2.2 10)]) t) A) args s 0 0 A = Q
  have hret : ∀ (v : Int32) (Iact9 : FI) (Inow9 : FI) (Vnow9 : FV) (Ipa9 : Nat → FI) (Vpa9 : Nat → FV) (H : Heap) (locs : List Loc) (pc : Nat) (ls : Array Slot), some (v, Iact9, Inow9, Vnow9, Ipa9, Vpa9) = some out → va_P D vwCl (List.flatten [(w_X cs o hX I V), (w_Act cs (hX 2) h_act laa Iact9 V_act), (w_Led cs (hX 1) h_now Inow9 Vnow9), (w_Pool cs laa lah Ipa9 Vpa9 10)]) H → va_D A (List.flatten [(w_X cs o hX I V), (w_Act cs (hX 2) h_act laa Iact9 V_act), (w_Led cs (hX 1) h_now Inow9 Vnow9), (w_Pool cs laa lah Ipa9 Vpa9 10)]) → va_S A s.heap H locs → decode cX9_week pc = .ok (.ireturn, 1) → W p l e rm_X_week s m args below meth c H locs 0 0 Q (F0 m pc ls [.int v]) := by
    intro v Iact9 Inow9 Vnow9 Ipa9 Vpa9 H locs pc ls hf hP hD hS hd
    rw [← hQ]
    exact W.iret (v := v) hx hb hr (fun t ht hW => ⟨⟨v, (Iact9, Inow9, Vnow9, Ipa9, Vpa9), rfl, Option.some.inj hf, by show va_P D vwCl (List.flatten [(w_X cs o hX I V), (w_Act cs (hX 2) h_act laa Iact9 V_act), (w_Led cs (hX 1) h_now Inow9 Vnow9), (w_Pool cs laa lah Ipa9 Vpa9 10)]) t.heap; rw [ht]; exact hP, va_K.moved hW.alike hK, hD⟩, hS.F ht⟩) hS.2.2 hd
  exact v_X_week hf hx hb hml hown hts in_X9 in_X0 in_X3 g_26 g_19 w_remember_163 w_passWeek_170 hA hP hD hK hN hret ls hl
def X_heirs (f : Nat) (x1 : Int32) (x2 : Int32) (I : FI) (V : FV) (I_now : FI) (V_now : FV) (I_act : FI) (V_act : FV) (LaI : Nat → FI) (LaV : Nat → FV) : Option (Int32 × FI × FV × FI × (Nat → FI) × (Nat → FV)) := ob1 (Led_has f x1 I_now V_now) (fun zr1 => (if zr1 = 0 then some ((-1), I_now, V_now, I_act, LaI, LaV) else ob1 (Led_areAllPeople f x2 I_now V_now) (fun zr2 => (if zr2 = 0 then some ((-2), I_now, V_now, I_act, LaI, LaV) else (if x2 = 0 then some ((-2), I_now, V_now, I_act, LaI, LaV) else ob1 (X_isIn f x2 x1) (fun zr3 => (if zr3 = 0 then ob1 (Led_isAlive f x1 I_now V_now) (fun zr4 => (if zr4 = 0 then some ((-3), I_now, V_now, I_act, LaI, LaV) else (if (x2 &&& ((I_now 3) ^^^ (-1))) = 0 then ob3 (Act_remember f I_act V_act LaI LaV I_now V_now) (fun I6 I7 V8 => ob3 (Led_passOn f x1 x2 I_now V_now) (fun zr9 I10 V11 => some (zr9, I10, V11, I6, I7, V8))) else some ((-3), I_now, V_now, I_act, LaI, LaV)))) else some ((-2), I_now, V_now, I_act, LaI, LaV))))))))
abbrev rm_X_heirs : Room := { frames := 3, cells := 0, slots := 0, locals := 74 }
set_option maxHeartbeats 4000000 in
set_option maxRecDepth 100000 in
theorem v_X_heirs {l : Launch} {p : Program} {e : Env} {s : State} {m : MethodId} {args : Array Value} {below : List Frame} {meth : Method} {c : Code} {Q : State → Prop} {D : va_G} {cs : Nat → ClassId} {o : Nat} {hX : Nat → Nat} {h_now : Nat → Nat} {h_act : Nat → Nat} {laa : Nat → Nat} {lah : Nat → Nat → Nat} {A : Nat → Prop} {I : FI} {V : FV} {I_now : FI} {V_now : FV} {I_act : FI} {V_act : FV} {LaI : Nat → FI} {LaV : Nat → FV} {x1 : Int32} {x2 : Int32} {f : Nat} {out : Int32 × FI × FV × FI × (Nat → FI) × (Nat → FV)} (hf : X_heirs f x1 x2 I V I_now V_now I_act V_act LaI LaV = some out) (hx : p.tables.exec = Jvm.exec) (hb : c.code = cX9_heirs) (hml : c.maxLocals = 3) (hown : s.vm.findClass RX9 = some m.cls) (hts : ∀ w ∈ wsX9_heirs, w.before args s = true) (in_X9 : ∀ w ∈ u_ws RX9 TX9 9, w ∈ wsX9_heirs) (in_X3 : ∀ w ∈ u_ws RX3 TX3 11, w ∈ wsX9_heirs) (in_X0 : ∀ w ∈ u_ws RX0 TX0 3, w ∈ wsX9_heirs) (g_19 : (Cond.fieldLink RX9 19 "DaysLent" "now" "LDaysLent$Ledger;").before args s = true) (w_has_117 : CallW rm_X_heirs s args RX9 RX3 117 yX3_has cX3_has 2 (some .boolean) wsX3_has rm_Led_has 0 0 1) (w_areAllPeople_173 : CallW rm_X_heirs s args RX9 RX3 173 yX3_areAllPeople cX3_areAllPeople 2 (some .boolean) wsX3_areAllPeople rm_Led_areAllPeople 0 0 1) (w_isIn_176 : CallB rm_X_heirs s args RX9 176 yX9_isIn cX9_isIn 2 (some .boolean) wsX9_isIn rm_X_isIn 0 0 2 ∧ (Cond.static yX9_isIn).before args s = true) (w_isAlive_128 : CallW rm_X_heirs s args RX9 RX3 128 yX3_isAlive cX3_isAlive 2 (some .boolean) wsX3_isAlive rm_Led_isAlive 0 0 1) (g_104 : (Cond.fieldLink RX9 104 "DaysLent$Ledger" "alive" "I").before args s = true) (g_26 : (Cond.fieldLink RX9 26 "DaysLent" "acts" "LDaysLent$Acts;").before args s = true) (w_remember_163 : CallW rm_X_heirs s args RX9 RX0 163 yX0_remember cX0_remember 2 none wsX0_remember rm_Act_remember 0 0 1) (w_passOn_180 : CallW rm_X_heirs s args RX9 RX3 180 yX3_passOn cX3_passOn 8 (some .int) wsX3_passOn rm_Led_passOn 0 0 2) (hA : ∀ q : Nat, s.heap.size ≤ q → A q) (hP : va_P D vwCl (List.flatten [(w_X cs o hX I V), (w_Led cs (hX 1) h_now I_now V_now), (w_Act cs (hX 2) h_act laa I_act V_act), (w_Pool cs laa lah LaI LaV 10)]) s.heap) (hD : va_D A (List.flatten [(w_X cs o hX I V), (w_Led cs (hX 1) h_now I_now V_now), (w_Act cs (hX 2) h_act laa I_act V_act), (w_Pool cs laa lah LaI LaV 10)])) (hK : va_K D vwCl (tyA cs) s) (hN : yN s) (hret : ∀ (v : Int32) (Inow9 : FI) (Vnow9 : FV) (Iact9 : FI) (Ipa9 : Nat → FI) (Vpa9 : Nat → FV) (H : Heap) (locs : List Loc) (pc : Nat) (ls : Array Slot), some (v, Inow9, Vnow9, Iact9, Ipa9, Vpa9) = some out → va_P D vwCl (List.flatten [(w_X cs o hX I V), (w_Led cs (hX 1) h_now Inow9 Vnow9), (w_Act cs (hX 2) h_act laa Iact9 V_act), (w_Pool cs laa lah Ipa9 Vpa9 10)]) H → va_D A (List.flatten [(w_X cs o hX I V), (w_Led cs (hX 1) h_now Inow9 Vnow9), (w_Act cs (hX 2) h_act laa Iact9 V_act), (w_Pool cs laa lah Ipa9 Vpa9 10)]) → va_S A s.heap H locs → decode cX9_heirs pc = .ok (.ireturn, 1) → W p l e rm_X_heirs s m args below meth c H locs 0 0 Q (F0 m pc ls [.int v])) : ∀ ls : Array Slot, lv_has ls 3 [(0, .ref o), (1, .int x1), (2, .int x2)] → W p l e rm_X_heirs s m args below meth c s.heap [] 0 0 Q (F0 m 0 ls []) := by
  intro ls hl
  have hS : va_S A s.heap s.heap [] := va_S.rf
  unfold X_heirs at hf
  refine lv_aload_n hx hb dX9_heirs_0 rfl (lv_at hl 0 rfl) ?_
  refine va_get (D := D) (ci := 9) (v := .ref (hX 1)) (C := RX9) (T := TX9) (N := 9) hx hb hts in_X9 hown hK hP 0 rfl rfl 1 (by decide) g_19 (fun _ h9 => h9) rfl dX9_heirs_1 ?_
  refine lv_iload_n hx hb dX9_heirs_4 rfl (lv_at hl 1 rfl) ?_
  have hPc := subB (bs := [(w_X cs o hX I V), (w_Led cs (hX 1) h_now I_now V_now), (w_Act cs (hX 2) h_act laa I_act V_act), (w_Pool cs laa lah LaI LaV 10)]) (ca := [(w_Led cs (hX 1) h_now I_now V_now)]) (ra := [(w_X cs o hX I V), (w_Act cs (hX 2) h_act laa I_act V_act), (w_Pool cs laa lah LaI LaV 10)]) [1, 0, 2, 3] (by decide) rfl rfl hP
  obtain ⟨zr1, qr1, hf⟩ := bd1 hf
  refine vp_callSi (va_Run.run (va_runV (As := [.int x1]) (rest := []) ⟨hx, hb, hml, hown, hts⟩ (c_Led_has l D cs (hX 1) h_now I_now V_now x1 f zr1 qr1) w_has_117 ⟨yR_moved, va_recv hK hPc (ci := 3) (q0 := 0) rfl rfl, fun U hU hW => ⟨rfl, by rw [hU]; exact hPc, va_K.moved hW.alike hK, yN_warm hW hN⟩⟩ rfl rfl hl.1 rfl (lv_room (Nat.le_of_ble_eq_true rfl)) dX9_heirs_5 ⟨Nat.zero_le _, Nat.zero_le _⟩)) (fun r1 er1 => ?_)
  rw [er1]
  refine lv_if_ne (tgt := 13) hx hb dX9_heirs_8 (by decide) (fun c8 => ?_) (fun c8 => ?_)
  · replace hf := im c8 hf
    refine lv_aload_n hx hb dX9_heirs_13 rfl (lv_at hl 0 rfl) ?_
    refine va_get (D := D) (ci := 9) (v := .ref (hX 1)) (C := RX9) (T := TX9) (N := 9) hx hb hts in_X9 hown hK hP 0 rfl rfl 1 (by decide) g_19 (fun _ h9 => h9) rfl dX9_heirs_14 ?_
    refine lv_iload_n hx hb dX9_heirs_17 rfl (lv_at hl 2 rfl) ?_
    have hPc := subB (bs := [(w_X cs o hX I V), (w_Led cs (hX 1) h_now I_now V_now), (w_Act cs (hX 2) h_act laa I_act V_act), (w_Pool cs laa lah LaI LaV 10)]) (ca := [(w_Led cs (hX 1) h_now I_now V_now)]) (ra := [(w_X cs o hX I V), (w_Act cs (hX 2) h_act laa I_act V_act), (w_Pool cs laa lah LaI LaV 10)]) [1, 0, 2, 3] (by decide) rfl rfl hP
    obtain ⟨zr2, qr2, hf⟩ := bd1 hf
    refine vp_callSi (va_Run.run (va_runV (As := [.int x2]) (rest := []) ⟨hx, hb, hml, hown, hts⟩ (c_Led_areAllPeople l D cs (hX 1) h_now I_now V_now x2 f zr2 qr2) w_areAllPeople_173 ⟨yR_moved, va_recv hK hPc (ci := 3) (q0 := 0) rfl rfl, fun U hU hW => ⟨rfl, by rw [hU]; exact hPc, va_K.moved hW.alike hK, yN_warm hW hN⟩⟩ rfl rfl hl.1 rfl (lv_room (Nat.le_of_ble_eq_true rfl)) dX9_heirs_18 ⟨Nat.zero_le _, Nat.zero_le _⟩)) (fun r2 er2 => ?_)
    rw [er2]
    refine lv_if_eq (tgt := 36) hx hb dX9_heirs_21 (by decide) (fun c21 => ?_) (fun c21 => ?_)
    · replace hf := ip c21 hf
      refine lv_bipush (v := (-2)) hx hb dX9_heirs_36 (by decide) ?_
      exact hret (-2) I_now V_now I_act LaI LaV _ _ 38 _ hf hP hD hS dX9_heirs_38
    · replace hf := im c21 hf
      refine lv_iload_n hx hb dX9_heirs_24 rfl (lv_at hl 2 rfl) ?_
      refine lv_if_eq (tgt := 36) hx hb dX9_heirs_25 (by decide) (fun c25 => ?_) (fun c25 => ?_)
      · replace hf := ip c25 hf
        refine lv_bipush (v := (-2)) hx hb dX9_heirs_36 (by decide) ?_
        exact hret (-2) I_now V_now I_act LaI LaV _ _ 38 _ hf hP hD hS dX9_heirs_38
      · replace hf := im c25 hf
        refine lv_iload_n hx hb dX9_heirs_28 rfl (lv_at hl 2 rfl) ?_
        refine lv_iload_n hx hb dX9_heirs_29 rfl (lv_at hl 1 rfl) ?_
        obtain ⟨zr3, qr3, hf⟩ := bd1 hf
        refine vp_callSi (va_Run.run (va_runS (As := [.int x2, .int x1]) (rest := []) ⟨hx, hb, hml, hown, hts⟩ (c_X_isIn l x2 x1 f zr3 qr3) w_isIn_176 ⟨fun a U g mk q => q, fun U hU hW => ⟨rfl, trivial⟩⟩ rfl rfl hl.1 rfl (lv_room (Nat.le_of_ble_eq_true rfl)) dX9_heirs_30 ⟨Nat.zero_le _, Nat.zero_le _⟩)) (fun r3 er3 => ?_)
        rw [er3]
        refine lv_if_eq (tgt := 39) hx hb dX9_heirs_33 (by decide) (fun c33 => ?_) (fun c33 => ?_)
        · replace hf := ip c33 hf
          refine lv_aload_n hx hb dX9_heirs_39 rfl (lv_at hl 0 rfl) ?_
          refine va_get (D := D) (ci := 9) (v := .ref (hX 1)) (C := RX9) (T := TX9) (N := 9) hx hb hts in_X9 hown hK hP 0 rfl rfl 1 (by decide) g_19 (fun _ h9 => h9) rfl dX9_heirs_40 ?_
          refine lv_iload_n hx hb dX9_heirs_43 rfl (lv_at hl 1 rfl) ?_
          have hPc := subB (bs := [(w_X cs o hX I V), (w_Led cs (hX 1) h_now I_now V_now), (w_Act cs (hX 2) h_act laa I_act V_act), (w_Pool cs laa lah LaI LaV 10)]) (ca := [(w_Led cs (hX 1) h_now I_now V_now)]) (ra := [(w_X cs o hX I V), (w_Act cs (hX 2) h_act laa I_act V_act), (w_Pool cs laa lah LaI LaV 10)]) [1, 0, 2, 3] (by decide) rfl rfl hP
          obtain ⟨zr4, qr4, hf⟩ := bd1 hf
          refine vp_callSi (va_Run.run (va_runV (As := [.int x1]) (rest := []) ⟨hx, hb, hml, hown, hts⟩ (c_Led_isAlive l D cs (hX 1) h_now I_now V_now x1 f zr4 qr4) w_isAlive_128 ⟨yR_moved, va_recv hK hPc (ci := 3) (q0 := 0) rfl rfl, fun U hU hW => ⟨rfl, by rw [hU]; exact hPc, va_K.moved hW.alike hK, yN_warm hW hN⟩⟩ rfl rfl hl.1 rfl (lv_room (Nat.le_of_ble_eq_true rfl)) dX9_heirs_44 ⟨Nat.zero_le _, Nat.zero_le _⟩)) (fun r4 er4 => ?_)
          rw [er4]
          refine lv_if_eq (tgt := 64) hx hb dX9_heirs_47 (by decide) (fun c47 => ?_) (fun c47 => ?_)
          · replace hf := ip c47 hf
            refine lv_bipush (v := (-3)) hx hb dX9_heirs_64 (by decide) ?_
            exact hret (-3) I_now V_now I_act LaI LaV _ _ 66 _ hf hP hD hS dX9_heirs_66
          · replace hf := im c47 hf
            refine lv_iload_n hx hb dX9_heirs_50 rfl (lv_at hl 2 rfl) ?_
            refine lv_aload_n hx hb dX9_heirs_51 rfl (lv_at hl 0 rfl) ?_
            refine va_get (D := D) (ci := 9) (v := .ref (hX 1)) (C := RX9) (T := TX9) (N := 9) hx hb hts in_X9 hown hK hP 0 rfl rfl 1 (by decide) g_19 (fun _ h9 => h9) rfl dX9_heirs_52 ?_
            refine va_get (D := D) (ci := 3) (v := .int (I_now 3)) (C := RX3) (T := TX3) (N := 11) hx hb hts in_X3 hown hK hP 1 rfl rfl 3 (by decide) g_104 (fun _ h9 => h9) rfl dX9_heirs_55 ?_
            refine lv_iconst (v := (-1)) hx hb dX9_heirs_58 (by decide) ?_
            refine lv_ixor hx hb dX9_heirs_59 ?_
            refine lv_iand hx hb dX9_heirs_60 ?_
            refine lv_if_eq (tgt := 67) hx hb dX9_heirs_61 (by decide) (fun c61 => ?_) (fun c61 => ?_)
            · replace hf := ip c61 hf
              refine lv_aload_n hx hb dX9_heirs_67 rfl (lv_at hl 0 rfl) ?_
              refine va_get (D := D) (ci := 9) (v := .ref (hX 2)) (C := RX9) (T := TX9) (N := 9) hx hb hts in_X9 hown hK hP 0 rfl rfl 2 (by decide) g_26 (fun _ h9 => h9) rfl dX9_heirs_68 ?_
              refine lv_aload_n hx hb dX9_heirs_71 rfl (lv_at hl 0 rfl) ?_
              refine va_get (D := D) (ci := 9) (v := .ref (hX 1)) (C := RX9) (T := TX9) (N := 9) hx hb hts in_X9 hown hK hP 0 rfl rfl 1 (by decide) g_19 (fun _ h9 => h9) rfl dX9_heirs_72 ?_
              have hPc := subB (bs := [(w_X cs o hX I V), (w_Led cs (hX 1) h_now I_now V_now), (w_Act cs (hX 2) h_act laa I_act V_act), (w_Pool cs laa lah LaI LaV 10)]) (ca := [(w_Act cs (hX 2) h_act laa I_act V_act), (w_Pool cs laa lah LaI LaV 10), (w_Led cs (hX 1) h_now I_now V_now)]) (ra := [(w_X cs o hX I V)]) [2, 3, 1, 0] (by decide) rfl rfl hP
              obtain ⟨I6, I7, V8, qr5, hf⟩ := bd3 hf
              have hDc := subD (bs := [(w_X cs o hX I V), (w_Led cs (hX 1) h_now I_now V_now), (w_Act cs (hX 2) h_act laa I_act V_act), (w_Pool cs laa lah LaI LaV 10)]) (ca := [(w_Act cs (hX 2) h_act laa I_act V_act), (w_Pool cs laa lah LaI LaV 10), (w_Led cs (hX 1) h_now I_now V_now)]) (ra := [(w_X cs o hX I V)]) [2, 3, 1, 0] (by decide) rfl rfl hD
              have hFc := xfree hDc hS hA
              refine va_callv (va_runV (As := [.ref (hX 1)]) (rest := []) ⟨hx, hb, hml, hown, hts⟩ (c_Act_remember l D cs (hX 2) h_act laa lah (hX 1) h_now _ I_act V_act LaI LaV I_now V_now f _ qr5) w_remember_163 ⟨yP_moved, va_recv hK hPc (ci := 0) (q0 := 0) rfl rfl, fun U hU hW => ⟨rfl, by rw [hU], by rw [hU]; exact hPc, va_K.moved hW.alike hK, yN_warm hW hN, hDc.weaken (fun _ _ _ _ => trivial)⟩⟩ rfl rfl hl.1 rfl (lv_room (Nat.le_of_ble_eq_true rfl)) dX9_heirs_75 ⟨Nat.zero_le _, Nat.zero_le _⟩) hS (fun q _ h9 => hFc q h9) hFc (fun u t H1 locs ht hvm hw hB hz1 hk1 hS => ?_)
              rw [hw] at hB
              obtain ⟨hP1, hK1, hD1⟩ := hB
              rw [ht] at hP1
              obtain ⟨hP, hD⟩ := joinB (bs := [(w_X cs o hX I V), (w_Led cs (hX 1) h_now I_now V_now), (w_Act cs (hX 2) h_act laa I_act V_act), (w_Pool cs laa lah LaI LaV 10)]) (ca := [(w_Act cs (hX 2) h_act laa I_act V_act), (w_Pool cs laa lah LaI LaV 10), (w_Led cs (hX 1) h_now I_now V_now)]) (ra := [(w_X cs o hX I V)]) [2, 3, 1, 0] (by decide) rfl rfl hP hD hk1 hFc (cb := [(w_Act cs (hX 2) h_act laa I6 V_act), (w_Pool cs laa lah I7 V8 10), (w_Led cs (hX 1) h_now I_now V_now)]) hP1 hD1 (be := [(w_X cs o hX I V), (w_Led cs (hX 1) h_now I_now V_now), (w_Act cs (hX 2) h_act laa I6 V_act), (w_Pool cs laa lah I7 V8 10)]) [3, 2, 0, 1] (by decide) rfl rfl
              refine lv_aload_n hx hb dX9_heirs_78 rfl (lv_at hl 0 rfl) ?_
              refine va_get (D := D) (ci := 9) (v := .ref (hX 1)) (C := RX9) (T := TX9) (N := 9) hx hb hts in_X9 hown hK hP 0 rfl rfl 1 (by decide) g_19 (fun _ h9 => h9) rfl dX9_heirs_79 ?_
              refine lv_iload_n hx hb dX9_heirs_82 rfl (lv_at hl 1 rfl) ?_
              refine lv_iload_n hx hb dX9_heirs_83 rfl (lv_at hl 2 rfl) ?_
              have hPc := subB (bs := [(w_X cs o hX I V), (w_Led cs (hX 1) h_now I_now V_now), (w_Act cs (hX 2) h_act laa I6 V_act), (w_Pool cs laa lah I7 V8 10)]) (ca := [(w_Led cs (hX 1) h_now I_now V_now)]) (ra := [(w_X cs o hX I V), (w_Act cs (hX 2) h_act laa I6 V_act), (w_Pool cs laa lah I7 V8 10)]) [1, 0, 2, 3] (by decide) rfl rfl hP
              obtain ⟨zr9, I10, V11, qr9, hf⟩ := bd3 hf
              have hDc := subD (bs := [(w_X cs o hX I V), (w_Led cs (hX 1) h_now I_now V_now), (w_Act cs (hX 2) h_act laa I6 V_act), (w_Pool cs laa lah I7 V8 10)]) (ca := [(w_Led cs (hX 1) h_now I_now V_now)]) (ra := [(w_X cs o hX I V), (w_Act cs (hX 2) h_act laa I6 V_act), (w_Pool cs laa lah I7 V8 10)]) [1, 0, 2, 3] (by decide) rfl rfl hD
              have hFc := xfree hDc hS hA
              refine va_calli (va_runV (As := [.int x1, .int x2]) (rest := []) ⟨hx, hb, hml, hown, hts⟩ (c_Led_passOn l D cs (hX 1) h_now _ I_now V_now x1 x2 f _ qr9) w_passOn_180 ⟨yP_moved, va_recv hK hPc (ci := 3) (q0 := 0) rfl rfl, fun U hU hW => ⟨rfl, by rw [hU], by rw [hU]; exact hPc, va_K.moved hW.alike hK, yN_warm hW hN, hDc.weaken (fun _ _ _ _ => trivial)⟩⟩ rfl rfl hl.1 rfl (lv_room (Nat.le_of_ble_eq_true rfl)) dX9_heirs_84 ⟨Nat.zero_le _, Nat.zero_le _⟩) hS (fun q _ h9 => hFc q h9) hFc (fun r9 u t H1 locs ht hvm hw hB hz1 hk1 hS => ?_)
              have er9 := congrArg Prod.fst hw
              have eu := congrArg Prod.snd hw
              dsimp only at er9 eu
              rw [er9]
              rw [eu] at hB
              obtain ⟨hP1, hK1, hD1⟩ := hB
              rw [ht] at hP1
              obtain ⟨hP, hD⟩ := joinB (bs := [(w_X cs o hX I V), (w_Led cs (hX 1) h_now I_now V_now), (w_Act cs (hX 2) h_act laa I6 V_act), (w_Pool cs laa lah I7 V8 10)]) (ca := [(w_Led cs (hX 1) h_now I_now V_now)]) (ra := [(w_X cs o hX I V), (w_Act cs (hX 2) h_act laa I6 V_act), (w_Pool cs laa lah I7 V8 10)]) [1, 0, 2, 3] (by decide) rfl rfl hP hD hk1 hFc (cb := [(w_Led cs (hX 1) h_now I10 V11)]) hP1 hD1 (be := [(w_X cs o hX I V), (w_Led cs (hX 1) h_now I10 V11), (w_Act cs (hX 2) h_act laa I6 V_act), (w_Pool cs laa lah I7 V8 10)]) [1, 0, 2, 3] (by decide) rfl rfl
              exact hret zr9 I10 V11 I6 I7 V8 _ _ 87 _ hf hP hD hS dX9_heirs_87
            · replace hf := im c61 hf
              refine lv_bipush (v := (-3)) hx hb dX9_heirs_64 (by decide) ?_
              exact hret (-3) I_now V_now I_act LaI LaV _ _ 66 _ hf hP hD hS dX9_heirs_66
        · replace hf := im c33 hf
          refine lv_bipush (v := (-2)) hx hb dX9_heirs_36 (by decide) ?_
          exact hret (-2) I_now V_now I_act LaI LaV _ _ 38 _ hf hP hD hS dX9_heirs_38
  · replace hf := ip c8 hf
    refine lv_iconst (v := (-1)) hx hb dX9_heirs_11 (by decide) ?_
    exact hret (-1) I_now V_now I_act LaI LaV _ _ 12 _ hf hP hD hS dX9_heirs_12
set_option maxHeartbeats 4000000 in
set_option maxRecDepth 100000 in
theorem c_X_heirs (l : Launch) (D : va_G) (cs : Nat → ClassId) (o : Nat) (hX : Nat → Nat) (h_now : Nat → Nat) (h_act : Nat → Nat) (laa : Nat → Nat) (lah : Nat → Nat → Nat) (sz : Nat) (I : FI) (V : FV) (I_now : FI) (V_now : FV) (I_act : FI) (V_act : FV) (LaI : Nat → FI) (LaV : Nat → FV) (x1 : Int32) (x2 : Int32) (f : Nat) (out : Int32 × FI × FV × FI × (Nat → FI) × (Nat → FV)) (hf : X_heirs f x1 x2 I V I_now V_now I_act V_act LaI LaV = some out) : Met l yX9_heirs wsX9_heirs rm_X_heirs (va_Pc [.ref o, .int x1, .int x2] (yP D cs (List.flatten [(w_X cs o hX I V), (w_Led cs (hX 1) h_now I_now V_now), (w_Act cs (hX 2) h_act laa I_act V_act), (w_Pool cs laa lah LaI LaV 10)]) sz)) (va_Qi (fun r u => (r, u) = out) (fun (u : FI × FV × FI × (Nat → FI) × (Nat → FV)) t => xA D cs (va_A (List.flatten [(w_X cs o hX I V), (w_Led cs (hX 1) h_now I_now V_now), (w_Act cs (hX 2) h_act laa I_act V_act), (w_Pool cs laa lah LaI LaV 10)]) sz) (List.flatten [(w_X cs o hX I V), (w_Led cs (hX 1) h_now u.1 u.2.1), (w_Act cs (hX 2) h_act laa u.2.2.1 V_act), (w_Pool cs laa lah u.2.2.2.1 u.2.2.2.2 10)]) t) (va_A (List.flatten [(w_X cs o hX I V), (w_Led cs (hX 1) h_now I_now V_now), (w_Act cs (hX 2) h_act laa I_act V_act), (w_Pool cs laa lah LaI LaV 10)]) sz)) 0 0 (va_A (List.flatten [(w_X cs o hX I V), (w_Led cs (hX 1) h_now I_now V_now), (w_Act cs (hX 2) h_act laa I_act V_act), (w_Pool cs laa lah LaI LaV 10)]) sz) := by
  refine Met.ofW (cc := cX9_heirs) (maxL := 3) (ret := (some .int)) (by decide) rfl ?_
  intro p e s m args below meth c s₁ B hml hv
  obtain ⟨ha, hsz, hP, hK, hN, hD0⟩ := hv
  have hx := B.exec
  have hb := B.bytes
  have hr := B.returns
  have hts := atoms_spec (ws := wsX9_heirs) B.pre
  have hown : s.vm.findClass RX9 = some m.cls := findClass_of_methodNamed B.named
  have hlocks := B.notSynchronized
  have in_X9 : ∀ w ∈ u_ws RX9 TX9 9, w ∈ wsX9_heirs := fun w h => List.mem_cons_of_mem _ (List.mem_append_left _ (List.mem_append_left _ (List.mem_append_right _ h)))
  have in_X3 : ∀ w ∈ u_ws RX3 TX3 11, w ∈ wsX9_heirs := fun w h => List.mem_cons_of_mem _ (List.mem_append_left _ (List.mem_append_right _ h))
  have in_X0 : ∀ w ∈ u_ws RX0 TX0 3, w ∈ wsX9_heirs := fun w h => List.mem_cons_of_mem _ (List.mem_append_right _ h)
  have g_19 := hts (Cond.fieldLink RX9 19 "DaysLent" "now" "LDaysLent$Ledger;") (by decide +kernel)
  have w_has_117 := cwV (R := rm_X_heirs) (s := s) (args := args) (rm := rm_Led_has) (mc := 0) (ms := 0) 1 hts gX9_heirs_X3_has rfl rfl rfl (by decide +kernel) ⟨Nat.le_of_ble_eq_true rfl, Nat.le_of_ble_eq_true rfl⟩
  have w_areAllPeople_173 := cwV (R := rm_X_heirs) (s := s) (args := args) (rm := rm_Led_areAllPeople) (mc := 0) (ms := 0) 1 hts gX9_heirs_X3_areAllPeople rfl rfl rfl (by decide +kernel) ⟨Nat.le_of_ble_eq_true rfl, Nat.le_of_ble_eq_true rfl⟩
  have w_isIn_176 := va_cwS (R := rm_X_heirs) (s := s) (args := args) (rm := rm_X_isIn) (mc := 0) (ms := 0) 2 hts gX9_heirs_X9_isIn rfl rfl rfl (by decide +kernel) ⟨Nat.le_of_ble_eq_true rfl, Nat.le_of_ble_eq_true rfl⟩
  have w_isAlive_128 := cwV (R := rm_X_heirs) (s := s) (args := args) (rm := rm_Led_isAlive) (mc := 0) (ms := 0) 1 hts gX9_heirs_X3_isAlive rfl rfl rfl (by decide +kernel) ⟨Nat.le_of_ble_eq_true rfl, Nat.le_of_ble_eq_true rfl⟩
  have g_104 := hts (Cond.fieldLink RX9 104 "DaysLent$Ledger" "alive" "I") (by decide +kernel)
  have g_26 := hts (Cond.fieldLink RX9 26 "DaysLent" "acts" "LDaysLent$Acts;") (by decide +kernel)
  have w_remember_163 := cwV (R := rm_X_heirs) (s := s) (args := args) (rm := rm_Act_remember) (mc := 0) (ms := 0) 1 hts gX9_heirs_X0_remember rfl rfl rfl (by decide +kernel) ⟨Nat.le_of_ble_eq_true rfl, Nat.le_of_ble_eq_true rfl⟩
  have w_passOn_180 := cwV (R := rm_X_heirs) (s := s) (args := args) (rm := rm_Led_passOn) (mc := 0) (ms := 0) 2 hts gX9_heirs_X3_passOn rfl rfl rfl (by decide +kernel) ⟨Nat.le_of_ble_eq_true rfl, Nat.le_of_ble_eq_true rfl⟩
  subst hsz
  have hD := hD0.self (sz := s.heap.size)
  generalize hAe : va_A (List.flatten [(w_X cs o hX I V), (w_Led cs (hX 1) h_now I_now V_now), (w_Act cs (hX 2) h_act laa I_act V_act), (w_Pool cs laa lah LaI LaV 10)]) s.heap.size = A at hD ⊢
  have hA : ∀ q : Nat, s.heap.size ≤ q → A q := fun q h => by rw [← hAe]; exact Or.inr h
  have hl := lv_entry ([.ref o, .int x1, .int x2]) (n := 3) (Nat.le_of_ble_eq_true rfl)
  rw [show entryFrame m args 3 = entryFrame m ([.ref o, .int x1, .int x2] : List Value).toArray 3 from by rw [ha], lg_entry_eq]
  generalize (lg_sl ([.ref o, .int x1, .int x2]) ++ List.replicate (3 - (lg_sl ([.ref o, .int x1, .int x2])).length) Slot.unset).toArray = ls at hl ⊢
  generalize hQ : MQ below (va_Qi (fun r u => (r, u) = out) (fun (u : FI × FV × FI × (Nat → FI) × (Nat → FV)) t => xA D cs A (List.flatten [(w_X cs o hX I V), (w_Led cs (hX 1) h_now u.1 u.2.1), (w_Act cs (hX 2) h_act laa u.2.2.1 V_act), (w_Pool cs laa lah u.2.2.2.1 u.2.2.2.2 10)]) t) A) args s 0 0 A = Q
  have hret : ∀ (v : Int32) (Inow9 : FI) (Vnow9 : FV) (Iact9 : FI) (Ipa9 : Nat → FI) (Vpa9 : Nat → FV) (H : Heap) (locs : List Loc) (pc : Nat) (ls : Array Slot), some (v, Inow9, Vnow9, Iact9, Ipa9, Vpa9) = some out → va_P D vwCl (List.flatten [(w_X cs o hX I V), (w_Led cs (hX 1) h_now Inow9 Vnow9), (w_Act cs (hX 2) h_act laa Iact9 V_act), (w_Pool cs laa lah Ipa9 Vpa9 10)]) H → va_D A (List.flatten [(w_X cs o hX I V), (w_Led cs (hX 1) h_now Inow9 Vnow9), (w_Act cs (hX 2) h_act laa Iact9 V_act), (w_Pool cs laa lah Ipa9 Vpa9 10)]) → va_S A s.heap H locs → decode cX9_heirs pc = .ok (.ireturn, 1) → W p l e rm_X_heirs s m args below meth c H locs 0 0 Q (F0 m pc ls [.int v]) := by
    intro v Inow9 Vnow9 Iact9 Ipa9 Vpa9 H locs pc ls hf hP hD hS hd
    rw [← hQ]
    exact W.iret (v := v) hx hb hr (fun t ht hW => ⟨⟨v, (Inow9, Vnow9, Iact9, Ipa9, Vpa9), rfl, Option.some.inj hf, by show va_P D vwCl (List.flatten [(w_X cs o hX I V), (w_Led cs (hX 1) h_now Inow9 Vnow9), (w_Act cs (hX 2) h_act laa Iact9 V_act), (w_Pool cs laa lah Ipa9 Vpa9 10)]) t.heap; rw [ht]; exact hP, va_K.moved hW.alike hK, hD⟩, hS.F ht⟩) hS.2.2 hd
  exact v_X_heirs hf hx hb hml hown hts in_X9 in_X3 in_X0 g_19 w_has_117 w_areAllPeople_173 w_isIn_176 w_isAlive_128 g_104 g_26 w_remember_163 w_passOn_180 hA hP hD hK hN hret ls hl
def X_jubilee (f : Nat) (I : FI) (V : FV) (I_act : FI) (V_act : FV) (I_now : FI) (V_now : FV) (LaI : Nat → FI) (LaV : Nat → FV) : Option (Int32 × FI × FI × (Nat → FI) × (Nat → FV)) := ob3 (Act_remember f I_act V_act LaI LaV I_now V_now) (fun I2 I3 V4 => ob2 (Led_forgive f I_now V_now) (fun zr5 I6 => some (zr5, I2, I6, I3, V4)))
abbrev rm_X_jubilee : Room := { frames := 3, cells := 0, slots := 0, locals := 69 }
set_option maxHeartbeats 4000000 in
set_option maxRecDepth 100000 in
theorem v_X_jubilee {l : Launch} {p : Program} {e : Env} {s : State} {m : MethodId} {args : Array Value} {below : List Frame} {meth : Method} {c : Code} {Q : State → Prop} {D : va_G} {cs : Nat → ClassId} {o : Nat} {hX : Nat → Nat} {h_act : Nat → Nat} {laa : Nat → Nat} {h_now : Nat → Nat} {lah : Nat → Nat → Nat} {A : Nat → Prop} {I : FI} {V : FV} {I_act : FI} {V_act : FV} {I_now : FI} {V_now : FV} {LaI : Nat → FI} {LaV : Nat → FV} {f : Nat} {out : Int32 × FI × FI × (Nat → FI) × (Nat → FV)} (hf : X_jubilee f I V I_act V_act I_now V_now LaI LaV = some out) (hx : p.tables.exec = Jvm.exec) (hb : c.code = cX9_jubilee) (hml : c.maxLocals = 1) (hown : s.vm.findClass RX9 = some m.cls) (hts : ∀ w ∈ wsX9_jubilee, w.before args s = true) (in_X9 : ∀ w ∈ u_ws RX9 TX9 9, w ∈ wsX9_jubilee) (in_X0 : ∀ w ∈ u_ws RX0 TX0 3, w ∈ wsX9_jubilee) (in_X3 : ∀ w ∈ u_ws RX3 TX3 11, w ∈ wsX9_jubilee) (g_26 : (Cond.fieldLink RX9 26 "DaysLent" "acts" "LDaysLent$Acts;").before args s = true) (g_19 : (Cond.fieldLink RX9 19 "DaysLent" "now" "LDaysLent$Ledger;").before args s = true) (w_remember_163 : CallW rm_X_jubilee s args RX9 RX0 163 yX0_remember cX0_remember 2 none wsX0_remember rm_Act_remember 0 0 1) (w_forgive_184 : CallW rm_X_jubilee s args RX9 RX3 184 yX3_forgive cX3_forgive 2 (some .int) wsX3_forgive rm_Led_forgive 0 0 0) (hA : ∀ q : Nat, s.heap.size ≤ q → A q) (hP : va_P D vwCl (List.flatten [(w_X cs o hX I V), (w_Act cs (hX 2) h_act laa I_act V_act), (w_Led cs (hX 1) h_now I_now V_now), (w_Pool cs laa lah LaI LaV 10)]) s.heap) (hD : va_D A (List.flatten [(w_X cs o hX I V), (w_Act cs (hX 2) h_act laa I_act V_act), (w_Led cs (hX 1) h_now I_now V_now), (w_Pool cs laa lah LaI LaV 10)])) (hK : va_K D vwCl (tyA cs) s) (hN : yN s) (hret : ∀ (v : Int32) (Iact9 : FI) (Inow9 : FI) (Ipa9 : Nat → FI) (Vpa9 : Nat → FV) (H : Heap) (locs : List Loc) (pc : Nat) (ls : Array Slot), some (v, Iact9, Inow9, Ipa9, Vpa9) = some out → va_P D vwCl (List.flatten [(w_X cs o hX I V), (w_Act cs (hX 2) h_act laa Iact9 V_act), (w_Led cs (hX 1) h_now Inow9 V_now), (w_Pool cs laa lah Ipa9 Vpa9 10)]) H → va_D A (List.flatten [(w_X cs o hX I V), (w_Act cs (hX 2) h_act laa Iact9 V_act), (w_Led cs (hX 1) h_now Inow9 V_now), (w_Pool cs laa lah Ipa9 Vpa9 10)]) → va_S A s.heap H locs → decode cX9_jubilee pc = .ok (.ireturn, 1) → W p l e rm_X_jubilee s m args below meth c H locs 0 0 Q (F0 m pc ls [.int v])) : ∀ ls : Array Slot, lv_has ls 1 [(0, .ref o)] → W p l e rm_X_jubilee s m args below meth c s.heap [] 0 0 Q (F0 m 0 ls []) := by
  intro ls hl
  have hS : va_S A s.heap s.heap [] := va_S.rf
  unfold X_jubilee at hf
  refine lv_aload_n hx hb dX9_jubilee_0 rfl (lv_at hl 0 rfl) ?_
  refine va_get (D := D) (ci := 9) (v := .ref (hX 2)) (C := RX9) (T := TX9) (N := 9) hx hb hts in_X9 hown hK hP 0 rfl rfl 2 (by decide) g_26 (fun _ h9 => h9) rfl dX9_jubilee_1 ?_
  refine lv_aload_n hx hb dX9_jubilee_4 rfl (lv_at hl 0 rfl) ?_
  refine va_get (D := D) (ci := 9) (v := .ref (hX 1)) (C := RX9) (T := TX9) (N := 9) hx hb hts in_X9 hown hK hP 0 rfl rfl 1 (by decide) g_19 (fun _ h9 => h9) rfl dX9_jubilee_5 ?_
  have hPc := subB (bs := [(w_X cs o hX I V), (w_Act cs (hX 2) h_act laa I_act V_act), (w_Led cs (hX 1) h_now I_now V_now), (w_Pool cs laa lah LaI LaV 10)]) (ca := [(w_Act cs (hX 2) h_act laa I_act V_act), (w_Pool cs laa lah LaI LaV 10), (w_Led cs (hX 1) h_now I_now V_now)]) (ra := [(w_X cs o hX I V)]) [1, 3, 2, 0] (by decide) rfl rfl hP
  obtain ⟨I2, I3, V4, qr1, hf⟩ := bd3 hf
  have hDc := subD (bs := [(w_X cs o hX I V), (w_Act cs (hX 2) h_act laa I_act V_act), (w_Led cs (hX 1) h_now I_now V_now), (w_Pool cs laa lah LaI LaV 10)]) (ca := [(w_Act cs (hX 2) h_act laa I_act V_act), (w_Pool cs laa lah LaI LaV 10), (w_Led cs (hX 1) h_now I_now V_now)]) (ra := [(w_X cs o hX I V)]) [1, 3, 2, 0] (by decide) rfl rfl hD
  have hFc := xfree hDc hS hA
  refine va_callv (va_runV (As := [.ref (hX 1)]) (rest := []) ⟨hx, hb, hml, hown, hts⟩ (c_Act_remember l D cs (hX 2) h_act laa lah (hX 1) h_now _ I_act V_act LaI LaV I_now V_now f _ qr1) w_remember_163 ⟨yP_moved, va_recv hK hPc (ci := 0) (q0 := 0) rfl rfl, fun U hU hW => ⟨rfl, by rw [hU], by rw [hU]; exact hPc, va_K.moved hW.alike hK, yN_warm hW hN, hDc.weaken (fun _ _ _ _ => trivial)⟩⟩ rfl rfl hl.1 rfl (lv_room (Nat.le_of_ble_eq_true rfl)) dX9_jubilee_8 ⟨Nat.zero_le _, Nat.zero_le _⟩) hS (fun q _ h9 => hFc q h9) hFc (fun u t H1 locs ht hvm hw hB hz1 hk1 hS => ?_)
  rw [hw] at hB
  obtain ⟨hP1, hK1, hD1⟩ := hB
  rw [ht] at hP1
  obtain ⟨hP, hD⟩ := joinB (bs := [(w_X cs o hX I V), (w_Act cs (hX 2) h_act laa I_act V_act), (w_Led cs (hX 1) h_now I_now V_now), (w_Pool cs laa lah LaI LaV 10)]) (ca := [(w_Act cs (hX 2) h_act laa I_act V_act), (w_Pool cs laa lah LaI LaV 10), (w_Led cs (hX 1) h_now I_now V_now)]) (ra := [(w_X cs o hX I V)]) [1, 3, 2, 0] (by decide) rfl rfl hP hD hk1 hFc (cb := [(w_Act cs (hX 2) h_act laa I2 V_act), (w_Pool cs laa lah I3 V4 10), (w_Led cs (hX 1) h_now I_now V_now)]) hP1 hD1 (be := [(w_X cs o hX I V), (w_Act cs (hX 2) h_act laa I2 V_act), (w_Led cs (hX 1) h_now I_now V_now), (w_Pool cs laa lah I3 V4 10)]) [3, 0, 2, 1] (by decide) rfl rfl
  refine lv_aload_n hx hb dX9_jubilee_11 rfl (lv_at hl 0 rfl) ?_
  refine va_get (D := D) (ci := 9) (v := .ref (hX 1)) (C := RX9) (T := TX9) (N := 9) hx hb hts in_X9 hown hK hP 0 rfl rfl 1 (by decide) g_19 (fun _ h9 => h9) rfl dX9_jubilee_12 ?_
  have hPc := subB (bs := [(w_X cs o hX I V), (w_Act cs (hX 2) h_act laa I2 V_act), (w_Led cs (hX 1) h_now I_now V_now), (w_Pool cs laa lah I3 V4 10)]) (ca := [(w_Led cs (hX 1) h_now I_now V_now)]) (ra := [(w_X cs o hX I V), (w_Act cs (hX 2) h_act laa I2 V_act), (w_Pool cs laa lah I3 V4 10)]) [2, 0, 1, 3] (by decide) rfl rfl hP
  obtain ⟨zr5, I6, qr5, hf⟩ := bd2 hf
  have hDc := subD (bs := [(w_X cs o hX I V), (w_Act cs (hX 2) h_act laa I2 V_act), (w_Led cs (hX 1) h_now I_now V_now), (w_Pool cs laa lah I3 V4 10)]) (ca := [(w_Led cs (hX 1) h_now I_now V_now)]) (ra := [(w_X cs o hX I V), (w_Act cs (hX 2) h_act laa I2 V_act), (w_Pool cs laa lah I3 V4 10)]) [2, 0, 1, 3] (by decide) rfl rfl hD
  have hFc := xfree hDc hS hA
  refine va_calli (va_runV (As := []) (rest := []) ⟨hx, hb, hml, hown, hts⟩ (c_Led_forgive l D cs (hX 1) h_now _ I_now V_now f _ qr5) w_forgive_184 ⟨yP_moved, va_recv hK hPc (ci := 3) (q0 := 0) rfl rfl, fun U hU hW => ⟨rfl, by rw [hU], by rw [hU]; exact hPc, va_K.moved hW.alike hK, yN_warm hW hN, hDc.weaken (fun _ _ _ _ => trivial)⟩⟩ rfl rfl hl.1 rfl (lv_room (Nat.le_of_ble_eq_true rfl)) dX9_jubilee_15 ⟨Nat.zero_le _, Nat.zero_le _⟩) hS (fun q _ h9 => hFc q h9) hFc (fun r5 u t H1 locs ht hvm hw hB hz1 hk1 hS => ?_)
  have er5 := congrArg Prod.fst hw
  have eu := congrArg Prod.snd hw
  dsimp only at er5 eu
  rw [er5]
  rw [eu] at hB
  obtain ⟨hP1, hK1, hD1⟩ := hB
  rw [ht] at hP1
  obtain ⟨hP, hD⟩ := joinB (bs := [(w_X cs o hX I V), (w_Act cs (hX 2) h_act laa I2 V_act), (w_Led cs (hX 1) h_now I_now V_now), (w_Pool cs laa lah I3 V4 10)]) (ca := [(w_Led cs (hX 1) h_now I_now V_now)]) (ra := [(w_X cs o hX I V), (w_Act cs (hX 2) h_act laa I2 V_act), (w_Pool cs laa lah I3 V4 10)]) [2, 0, 1, 3] (by decide) rfl rfl hP hD hk1 hFc (cb := [(w_Led cs (hX 1) h_now I6 V_now)]) hP1 hD1 (be := [(w_X cs o hX I V), (w_Act cs (hX 2) h_act laa I2 V_act), (w_Led cs (hX 1) h_now I6 V_now), (w_Pool cs laa lah I3 V4 10)]) [1, 2, 0, 3] (by decide) rfl rfl
  exact hret zr5 I2 I6 I3 V4 _ _ 18 _ hf hP hD hS dX9_jubilee_18
set_option maxHeartbeats 4000000 in
set_option maxRecDepth 100000 in
theorem c_X_jubilee (l : Launch) (D : va_G) (cs : Nat → ClassId) (o : Nat) (hX : Nat → Nat) (h_act : Nat → Nat) (laa : Nat → Nat) (h_now : Nat → Nat) (lah : Nat → Nat → Nat) (sz : Nat) (I : FI) (V : FV) (I_act : FI) (V_act : FV) (I_now : FI) (V_now : FV) (LaI : Nat → FI) (LaV : Nat → FV) (f : Nat) (out : Int32 × FI × FI × (Nat → FI) × (Nat → FV)) (hf : X_jubilee f I V I_act V_act I_now V_now LaI LaV = some out) : Met l yX9_jubilee wsX9_jubilee rm_X_jubilee (va_Pc [.ref o] (yP D cs (List.flatten [(w_X cs o hX I V), (w_Act cs (hX 2) h_act laa I_act V_act), (w_Led cs (hX 1) h_now I_now V_now), (w_Pool cs laa lah LaI LaV 10)]) sz)) (va_Qi (fun r u => (r, u) = out) (fun (u : FI × FI × (Nat → FI) × (Nat → FV)) t => xA D cs (va_A (List.flatten [(w_X cs o hX I V), (w_Act cs (hX 2) h_act laa I_act V_act), (w_Led cs (hX 1) h_now I_now V_now), (w_Pool cs laa lah LaI LaV 10)]) sz) (List.flatten [(w_X cs o hX I V), (w_Act cs (hX 2) h_act laa u.1 V_act), (w_Led cs (hX 1) h_now u.2.1 V_now), (w_Pool cs laa lah u.2.2.1 u.2.2.2 10)]) t) (va_A (List.flatten [(w_X cs o hX I V), (w_Act cs (hX 2) h_act laa I_act V_act), (w_Led cs (hX 1) h_now I_now V_now), (w_Pool cs laa lah LaI LaV 10)]) sz)) 0 0 (va_A (List.flatten [(w_X cs o hX I V), (w_Act cs (hX 2) h_act laa I_act V_act), (w_Led cs (hX 1) h_now I_now V_now), (w_Pool cs laa lah LaI LaV 10)]) sz) := by
  refine Met.ofW (cc := cX9_jubilee) (maxL := 1) (ret := (some .int)) (by decide) rfl ?_
  intro p e s m args below meth c s₁ B hml hv
  obtain ⟨ha, hsz, hP, hK, hN, hD0⟩ := hv
  have hx := B.exec
  have hb := B.bytes
  have hr := B.returns
  have hts := atoms_spec (ws := wsX9_jubilee) B.pre
  have hown : s.vm.findClass RX9 = some m.cls := findClass_of_methodNamed B.named
  have hlocks := B.notSynchronized
  have in_X9 : ∀ w ∈ u_ws RX9 TX9 9, w ∈ wsX9_jubilee := fun w h => List.mem_cons_of_mem _ (List.mem_append_left _ (List.mem_append_left _ (List.mem_append_right _ h)))
  have in_X0 : ∀ w ∈ u_ws RX0 TX0 3, w ∈ wsX9_jubilee := fun w h => List.mem_cons_of_mem _ (List.mem_append_left _ (List.mem_append_right _ h))
  have in_X3 : ∀ w ∈ u_ws RX3 TX3 11, w ∈ wsX9_jubilee := fun w h => List.mem_cons_of_mem _ (List.mem_append_right _ h)
  have g_26 := hts (Cond.fieldLink RX9 26 "DaysLent" "acts" "LDaysLent$Acts;") (by decide +kernel)
  have g_19 := hts (Cond.fieldLink RX9 19 "DaysLent" "now" "LDaysLent$Ledger;") (by decide +kernel)
  have w_remember_163 := cwV (R := rm_X_jubilee) (s := s) (args := args) (rm := rm_Act_remember) (mc := 0) (ms := 0) 1 hts gX9_jubilee_X0_remember rfl rfl rfl (by decide +kernel) ⟨Nat.le_of_ble_eq_true rfl, Nat.le_of_ble_eq_true rfl⟩
  have w_forgive_184 := cwV (R := rm_X_jubilee) (s := s) (args := args) (rm := rm_Led_forgive) (mc := 0) (ms := 0) 0 hts gX9_jubilee_X3_forgive rfl rfl rfl (by decide +kernel) ⟨Nat.le_of_ble_eq_true rfl, Nat.le_of_ble_eq_true rfl⟩
  subst hsz
  have hD := hD0.self (sz := s.heap.size)
  generalize hAe : va_A (List.flatten [(w_X cs o hX I V), (w_Act cs (hX 2) h_act laa I_act V_act), (w_Led cs (hX 1) h_now I_now V_now), (w_Pool cs laa lah LaI LaV 10)]) s.heap.size = A at hD ⊢
  have hA : ∀ q : Nat, s.heap.size ≤ q → A q := fun q h => by rw [← hAe]; exact Or.inr h
  have hl := lv_entry ([.ref o]) (n := 1) (Nat.le_of_ble_eq_true rfl)
  rw [show entryFrame m args 1 = entryFrame m ([.ref o] : List Value).toArray 1 from by rw [ha], lg_entry_eq]
  generalize (lg_sl ([.ref o]) ++ List.replicate (1 - (lg_sl ([.ref o])).length) Slot.unset).toArray = ls at hl ⊢
  generalize hQ : MQ below (va_Qi (fun r u => (r, u) = out) (fun (u : FI × FI × (Nat → FI) × (Nat → FV)) t => xA D cs A (List.flatten [(w_X cs o hX I V), (w_Act cs (hX 2) h_act laa u.1 V_act), (w_Led cs (hX 1) h_now u.2.1 V_now), (w_Pool cs laa lah u.2.2.1 u.2.2.2 10)]) t) A) args s 0 0 A = Q
  have hret : ∀ (v : Int32) (Iact9 : FI) (Inow9 : FI) (Ipa9 : Nat → FI) (Vpa9 : Nat → FV) (H : Heap) (locs : List Loc) (pc : Nat) (ls : Array Slot), some (v, Iact9, Inow9, Ipa9, Vpa9) = some out → va_P D vwCl (List.flatten [(w_X cs o hX I V), (w_Act cs (hX 2) h_act laa Iact9 V_act), (w_Led cs (hX 1) h_now Inow9 V_now), (w_Pool cs laa lah Ipa9 Vpa9 10)]) H → va_D A (List.flatten [(w_X cs o hX I V), (w_Act cs (hX 2) h_act laa Iact9 V_act), (w_Led cs (hX 1) h_now Inow9 V_now), (w_Pool cs laa lah Ipa9 Vpa9 10)]) → va_S A s.heap H locs → decode cX9_jubilee pc = .ok (.ireturn, 1) → W p l e rm_X_jubilee s m args below meth c H locs 0 0 Q (F0 m pc ls [.int v]) := by
    intro v Iact9 Inow9 Ipa9 Vpa9 H locs pc ls hf hP hD hS hd
    rw [← hQ]
    exact W.iret (v := v) hx hb hr (fun t ht hW => ⟨⟨v, (Iact9, Inow9, Ipa9, Vpa9), rfl, Option.some.inj hf, by show va_P D vwCl (List.flatten [(w_X cs o hX I V), (w_Act cs (hX 2) h_act laa Iact9 V_act), (w_Led cs (hX 1) h_now Inow9 V_now), (w_Pool cs laa lah Ipa9 Vpa9 10)]) t.heap; rw [ht]; exact hP, va_K.moved hW.alike hK, hD⟩, hS.F ht⟩) hS.2.2 hd
  exact v_X_jubilee hf hx hb hml hown hts in_X9 in_X0 in_X3 g_26 g_19 w_remember_163 w_forgive_184 hA hP hD hK hN hret ls hl
def X_undo (f : Nat) (I : FI) (V : FV) (I_act : FI) (V_act : FV) (I_now : FI) (V_now : FV) (LaI : Nat → FI) (LaV : Nat → FV) : Option (Int32 × FI × FI × FV) := (if (I_act 2) = 0 then some ((-3), I_act, I_now, V_now) else ob3 (Act_takeBack f I_act V_act LaI LaV I_now V_now) (fun I2 I3 V4 => some ((I2 2), I2, I3, V4)))
abbrev rm_X_undo : Room := { frames := 3, cells := 0, slots := 0, locals := 69 }
set_option maxHeartbeats 4000000 in
set_option maxRecDepth 100000 in
theorem v_X_undo {l : Launch} {p : Program} {e : Env} {s : State} {m : MethodId} {args : Array Value} {below : List Frame} {meth : Method} {c : Code} {Q : State → Prop} {D : va_G} {cs : Nat → ClassId} {o : Nat} {hX : Nat → Nat} {h_act : Nat → Nat} {laa : Nat → Nat} {h_now : Nat → Nat} {lah : Nat → Nat → Nat} {A : Nat → Prop} {I : FI} {V : FV} {I_act : FI} {V_act : FV} {I_now : FI} {V_now : FV} {LaI : Nat → FI} {LaV : Nat → FV} {f : Nat} {out : Int32 × FI × FI × FV} (hf : X_undo f I V I_act V_act I_now V_now LaI LaV = some out) (hx : p.tables.exec = Jvm.exec) (hb : c.code = cX9_undo) (hml : c.maxLocals = 1) (hown : s.vm.findClass RX9 = some m.cls) (hts : ∀ w ∈ wsX9_undo, w.before args s = true) (in_X9 : ∀ w ∈ u_ws RX9 TX9 9, w ∈ wsX9_undo) (in_X0 : ∀ w ∈ u_ws RX0 TX0 3, w ∈ wsX9_undo) (in_X3 : ∀ w ∈ u_ws RX3 TX3 11, w ∈ wsX9_undo) (g_26 : (Cond.fieldLink RX9 26 "DaysLent" "acts" "LDaysLent$Acts;").before args s = true) (g_101 : (Cond.fieldLink RX9 101 "DaysLent$Acts" "count" "I").before args s = true) (g_19 : (Cond.fieldLink RX9 19 "DaysLent" "now" "LDaysLent$Ledger;").before args s = true) (w_takeBack_187 : CallW rm_X_undo s args RX9 RX0 187 yX0_takeBack cX0_takeBack 2 none wsX0_takeBack rm_Act_takeBack 0 0 1) (hA : ∀ q : Nat, s.heap.size ≤ q → A q) (hP : va_P D vwCl (List.flatten [(w_X cs o hX I V), (w_Act cs (hX 2) h_act laa I_act V_act), (w_Led cs (hX 1) h_now I_now V_now), (w_Pool cs laa lah LaI LaV 10)]) s.heap) (hD : va_D A (List.flatten [(w_X cs o hX I V), (w_Act cs (hX 2) h_act laa I_act V_act), (w_Led cs (hX 1) h_now I_now V_now), (w_Pool cs laa lah LaI LaV 10)])) (hK : va_K D vwCl (tyA cs) s) (hN : yN s) (hret : ∀ (v : Int32) (Iact9 : FI) (Inow9 : FI) (Vnow9 : FV) (H : Heap) (locs : List Loc) (pc : Nat) (ls : Array Slot), some (v, Iact9, Inow9, Vnow9) = some out → va_P D vwCl (List.flatten [(w_X cs o hX I V), (w_Act cs (hX 2) h_act laa Iact9 V_act), (w_Led cs (hX 1) h_now Inow9 Vnow9), (w_Pool cs laa lah LaI LaV 10)]) H → va_D A (List.flatten [(w_X cs o hX I V), (w_Act cs (hX 2) h_act laa Iact9 V_act), (w_Led cs (hX 1) h_now Inow9 Vnow9), (w_Pool cs laa lah LaI LaV 10)]) → va_S A s.heap H locs → decode cX9_undo pc = .ok (.ireturn, 1) → W p l e rm_X_undo s m args below meth c H locs 0 0 Q (F0 m pc ls [.int v])) : ∀ ls : Array Slot, lv_has ls 1 [(0, .ref o)] → W p l e rm_X_undo s m args below meth c s.heap [] 0 0 Q (F0 m 0 ls []) := by
  intro ls hl
  have hS : va_S A s.heap s.heap [] := va_S.rf
  unfold X_undo at hf
  refine lv_aload_n hx hb dX9_undo_0 rfl (lv_at hl 0 rfl) ?_
  refine va_get (D := D) (ci := 9) (v := .ref (hX 2)) (C := RX9) (T := TX9) (N := 9) hx hb hts in_X9 hown hK hP 0 rfl rfl 2 (by decide) g_26 (fun _ h9 => h9) rfl dX9_undo_1 ?_
  refine va_get (D := D) (ci := 0) (v := .int (I_act 2)) (C := RX0) (T := TX0) (N := 3) hx hb hts in_X0 hown hK hP 1 rfl rfl 2 (by decide) g_101 (fun _ h9 => h9) rfl dX9_undo_4 ?_
  refine lv_if_ne (tgt := 13) hx hb dX9_undo_7 (by decide) (fun c7 => ?_) (fun c7 => ?_)
  · replace hf := im c7 hf
    refine lv_aload_n hx hb dX9_undo_13 rfl (lv_at hl 0 rfl) ?_
    refine va_get (D := D) (ci := 9) (v := .ref (hX 2)) (C := RX9) (T := TX9) (N := 9) hx hb hts in_X9 hown hK hP 0 rfl rfl 2 (by decide) g_26 (fun _ h9 => h9) rfl dX9_undo_14 ?_
    refine lv_aload_n hx hb dX9_undo_17 rfl (lv_at hl 0 rfl) ?_
    refine va_get (D := D) (ci := 9) (v := .ref (hX 1)) (C := RX9) (T := TX9) (N := 9) hx hb hts in_X9 hown hK hP 0 rfl rfl 1 (by decide) g_19 (fun _ h9 => h9) rfl dX9_undo_18 ?_
    have hPc := subB (bs := [(w_X cs o hX I V), (w_Act cs (hX 2) h_act laa I_act V_act), (w_Led cs (hX 1) h_now I_now V_now), (w_Pool cs laa lah LaI LaV 10)]) (ca := [(w_Act cs (hX 2) h_act laa I_act V_act), (w_Pool cs laa lah LaI LaV 10), (w_Led cs (hX 1) h_now I_now V_now)]) (ra := [(w_X cs o hX I V)]) [1, 3, 2, 0] (by decide) rfl rfl hP
    obtain ⟨I2, I3, V4, qr1, hf⟩ := bd3 hf
    have hDc := subD (bs := [(w_X cs o hX I V), (w_Act cs (hX 2) h_act laa I_act V_act), (w_Led cs (hX 1) h_now I_now V_now), (w_Pool cs laa lah LaI LaV 10)]) (ca := [(w_Act cs (hX 2) h_act laa I_act V_act), (w_Pool cs laa lah LaI LaV 10), (w_Led cs (hX 1) h_now I_now V_now)]) (ra := [(w_X cs o hX I V)]) [1, 3, 2, 0] (by decide) rfl rfl hD
    have hFc := xfree hDc hS hA
    refine va_callv (va_runV (As := [.ref (hX 1)]) (rest := []) ⟨hx, hb, hml, hown, hts⟩ (c_Act_takeBack l D cs (hX 2) h_act laa lah (hX 1) h_now _ I_act V_act LaI LaV I_now V_now f _ qr1) w_takeBack_187 ⟨yP_moved, va_recv hK hPc (ci := 0) (q0 := 0) rfl rfl, fun U hU hW => ⟨rfl, by rw [hU], by rw [hU]; exact hPc, va_K.moved hW.alike hK, yN_warm hW hN, hDc.weaken (fun _ _ _ _ => trivial)⟩⟩ rfl rfl hl.1 rfl (lv_room (Nat.le_of_ble_eq_true rfl)) dX9_undo_21 ⟨Nat.zero_le _, Nat.zero_le _⟩) hS (fun q _ h9 => hFc q h9) hFc (fun u t H1 locs ht hvm hw hB hz1 hk1 hS => ?_)
    rw [hw] at hB
    obtain ⟨hP1, hK1, hD1⟩ := hB
    rw [ht] at hP1
    obtain ⟨hP, hD⟩ := joinB (bs := [(w_X cs o hX I V), (w_Act cs (hX 2) h_act laa I_act V_act), (w_Led cs (hX 1) h_now I_now V_now), (w_Pool cs laa lah LaI LaV 10)]) (ca := [(w_Act cs (hX 2) h_act laa I_act V_act), (w_Pool cs laa lah LaI LaV 10), (w_Led cs (hX 1) h_now I_now V_now)]) (ra := [(w_X cs o hX I V)]) [1, 3, 2, 0] (by decide) rfl rfl hP hD hk1 hFc (cb := [(w_Act cs (hX 2) h_act laa I2 V_act), (w_Pool cs laa lah LaI LaV 10), (w_Led cs (hX 1) h_now I3 V4)]) hP1 hD1 (be := [(w_X cs o hX I V), (w_Act cs (hX 2) h_act laa I2 V_act), (w_Led cs (hX 1) h_now I3 V4), (w_Pool cs laa lah LaI LaV 10)]) [3, 0, 2, 1] (by decide) rfl rfl
    refine lv_aload_n hx hb dX9_undo_24 rfl (lv_at hl 0 rfl) ?_
    refine va_get (D := D) (ci := 9) (v := .ref (hX 2)) (C := RX9) (T := TX9) (N := 9) hx hb hts in_X9 hown hK hP 0 rfl rfl 2 (by decide) g_26 (fun _ h9 => h9) rfl dX9_undo_25 ?_
    refine va_get (D := D) (ci := 0) (v := .int (I2 2)) (C := RX0) (T := TX0) (N := 3) hx hb hts in_X0 hown hK hP 1 rfl rfl 2 (by decide) g_101 (fun _ h9 => h9) rfl dX9_undo_28 ?_
    exact hret (I2 2) I2 I3 V4 _ _ 31 _ hf hP hD hS dX9_undo_31
  · replace hf := ip c7 hf
    refine lv_bipush (v := (-3)) hx hb dX9_undo_10 (by decide) ?_
    exact hret (-3) I_act I_now V_now _ _ 12 _ hf hP hD hS dX9_undo_12
set_option maxHeartbeats 4000000 in
set_option maxRecDepth 100000 in
theorem c_X_undo (l : Launch) (D : va_G) (cs : Nat → ClassId) (o : Nat) (hX : Nat → Nat) (h_act : Nat → Nat) (laa : Nat → Nat) (h_now : Nat → Nat) (lah : Nat → Nat → Nat) (sz : Nat) (I : FI) (V : FV) (I_act : FI) (V_act : FV) (I_now : FI) (V_now : FV) (LaI : Nat → FI) (LaV : Nat → FV) (f : Nat) (out : Int32 × FI × FI × FV) (hf : X_undo f I V I_act V_act I_now V_now LaI LaV = some out) : Met l yX9_undo wsX9_undo rm_X_undo (va_Pc [.ref o] (yP D cs (List.flatten [(w_X cs o hX I V), (w_Act cs (hX 2) h_act laa I_act V_act), (w_Led cs (hX 1) h_now I_now V_now), (w_Pool cs laa lah LaI LaV 10)]) sz)) (va_Qi (fun r u => (r, u) = out) (fun (u : FI × FI × FV) t => xA D cs (va_A (List.flatten [(w_X cs o hX I V), (w_Act cs (hX 2) h_act laa I_act V_act), (w_Led cs (hX 1) h_now I_now V_now), (w_Pool cs laa lah LaI LaV 10)]) sz) (List.flatten [(w_X cs o hX I V), (w_Act cs (hX 2) h_act laa u.1 V_act), (w_Led cs (hX 1) h_now u.2.1 u.2.2), (w_Pool cs laa lah LaI LaV 10)]) t) (va_A (List.flatten [(w_X cs o hX I V), (w_Act cs (hX 2) h_act laa I_act V_act), (w_Led cs (hX 1) h_now I_now V_now), (w_Pool cs laa lah LaI LaV 10)]) sz)) 0 0 (va_A (List.flatten [(w_X cs o hX I V), (w_Act cs (hX 2) h_act laa I_act V_act), (w_Led cs (hX 1) h_now I_now V_now), (w_Pool cs laa lah LaI LaV 10)]) sz) := by
  refine Met.ofW (cc := cX9_undo) (maxL := 1) (ret := (some .int)) (by decide) rfl ?_
  intro p e s m args below meth c s₁ B hml hv
  obtain ⟨ha, hsz, hP, hK, hN, hD0⟩ := hv
  have hx := B.exec
  have hb := B.bytes
  have hr := B.returns
  have hts := atoms_spec (ws := wsX9_undo) B.pre
  have hown : s.vm.findClass RX9 = some m.cls := findClass_of_methodNamed B.named
  have hlocks := B.notSynchronized
  have in_X9 : ∀ w ∈ u_ws RX9 TX9 9, w ∈ wsX9_undo := fun w h => List.mem_cons_of_mem _ (List.mem_append_left _ (List.mem_append_left _ (List.mem_append_right _ h)))
  have in_X0 : ∀ w ∈ u_ws RX0 TX0 3, w ∈ wsX9_undo := fun w h => List.mem_cons_of_mem _ (List.mem_append_left _ (List.mem_append_right _ h))
  have in_X3 : ∀ w ∈ u_ws RX3 TX3 11, w ∈ wsX9_undo := fun w h => List.mem_cons_of_mem _ (List.mem_append_right _ h)
  have g_26 := hts (Cond.fieldLink RX9 26 "DaysLent" "acts" "LDaysLent$Acts;") (by decide +kernel)
  have g_101 := hts (Cond.fieldLink RX9 101 "DaysLent$Acts" "count" "I") (by decide +kernel)
  have g_19 := hts (Cond.fieldLink RX9 19 "DaysLent" "now" "LDaysLent$Ledger;") (by decide +kernel)
  have w_takeBack_187 := cwV (R := rm_X_undo) (s := s) (args := args) (rm := rm_Act_takeBack) (mc := 0) (ms := 0) 1 hts gX9_undo_X0_takeBack rfl rfl rfl (by decide +kernel) ⟨Nat.le_of_ble_eq_true rfl, Nat.le_of_ble_eq_true rfl⟩
  subst hsz
  have hD := hD0.self (sz := s.heap.size)
  generalize hAe : va_A (List.flatten [(w_X cs o hX I V), (w_Act cs (hX 2) h_act laa I_act V_act), (w_Led cs (hX 1) h_now I_now V_now), (w_Pool cs laa lah LaI LaV 10)]) s.heap.size = A at hD ⊢
  have hA : ∀ q : Nat, s.heap.size ≤ q → A q := fun q h => by rw [← hAe]; exact Or.inr h
  have hl := lv_entry ([.ref o]) (n := 1) (Nat.le_of_ble_eq_true rfl)
  rw [show entryFrame m args 1 = entryFrame m ([.ref o] : List Value).toArray 1 from by rw [ha], lg_entry_eq]
  generalize (lg_sl ([.ref o]) ++ List.replicate (1 - (lg_sl ([.ref o])).length) Slot.unset).toArray = ls at hl ⊢
  generalize hQ : MQ below (va_Qi (fun r u => (r, u) = out) (fun (u : FI × FI × FV) t => xA D cs A (List.flatten [(w_X cs o hX I V), (w_Act cs (hX 2) h_act laa u.1 V_act), (w_Led cs (hX 1) h_now u.2.1 u.2.2), (w_Pool cs laa lah LaI LaV 10)]) t) A) args s 0 0 A = Q
  have hret : ∀ (v : Int32) (Iact9 : FI) (Inow9 : FI) (Vnow9 : FV) (H : Heap) (locs : List Loc) (pc : Nat) (ls : Array Slot), some (v, Iact9, Inow9, Vnow9) = some out → va_P D vwCl (List.flatten [(w_X cs o hX I V), (w_Act cs (hX 2) h_act laa Iact9 V_act), (w_Led cs (hX 1) h_now Inow9 Vnow9), (w_Pool cs laa lah LaI LaV 10)]) H → va_D A (List.flatten [(w_X cs o hX I V), (w_Act cs (hX 2) h_act laa Iact9 V_act), (w_Led cs (hX 1) h_now Inow9 Vnow9), (w_Pool cs laa lah LaI LaV 10)]) → va_S A s.heap H locs → decode cX9_undo pc = .ok (.ireturn, 1) → W p l e rm_X_undo s m args below meth c H locs 0 0 Q (F0 m pc ls [.int v]) := by
    intro v Iact9 Inow9 Vnow9 H locs pc ls hf hP hD hS hd
    rw [← hQ]
    exact W.iret (v := v) hx hb hr (fun t ht hW => ⟨⟨v, (Iact9, Inow9, Vnow9), rfl, Option.some.inj hf, by show va_P D vwCl (List.flatten [(w_X cs o hX I V), (w_Act cs (hX 2) h_act laa Iact9 V_act), (w_Led cs (hX 1) h_now Inow9 Vnow9), (w_Pool cs laa lah LaI LaV 10)]) t.heap; rw [ht]; exact hP, va_K.moved hW.alike hK, hD⟩, hS.F ht⟩) hS.2.2 hd
  exact v_X_undo hf hx hb hml hown hts in_X9 in_X0 in_X3 g_26 g_101 g_19 w_takeBack_187 hA hP hD hK hN hret ls hl
def X_fewest (f : Nat) (I : FI) (V : FV) (I_set : FI) (V_set : FV) (I_now : FI) (V_now : FV) : Option (Int32 × FV) := ob2 (Set_fewestPayments f I_set V_set I_now V_now) (fun zr1 V2 => some (zr1, V2))
abbrev rm_X_fewest : Room := { frames := 4, cells := 0, slots := 0, locals := 92 }
set_option maxHeartbeats 4000000 in
set_option maxRecDepth 100000 in
theorem v_X_fewest {l : Launch} {p : Program} {e : Env} {s : State} {m : MethodId} {args : Array Value} {below : List Frame} {meth : Method} {c : Code} {Q : State → Prop} {D : va_G} {cs : Nat → ClassId} {o : Nat} {hX : Nat → Nat} {h_set : Nat → Nat} {h_now : Nat → Nat} {A : Nat → Prop} {I : FI} {V : FV} {I_set : FI} {V_set : FV} {I_now : FI} {V_now : FV} {f : Nat} {out : Int32 × FV} (hf : X_fewest f I V I_set V_set I_now V_now = some out) (hx : p.tables.exec = Jvm.exec) (hb : c.code = cX9_fewest) (hml : c.maxLocals = 1) (hown : s.vm.findClass RX9 = some m.cls) (hts : ∀ w ∈ wsX9_fewest, w.before args s = true) (in_X9 : ∀ w ∈ u_ws RX9 TX9 9, w ∈ wsX9_fewest) (in_X6 : ∀ w ∈ u_ws RX6 TX6 2, w ∈ wsX9_fewest) (in_X3 : ∀ w ∈ u_ws RX3 TX3 11, w ∈ wsX9_fewest) (g_47 : (Cond.fieldLink RX9 47 "DaysLent" "settlement" "LDaysLent$Settlement;").before args s = true) (g_19 : (Cond.fieldLink RX9 19 "DaysLent" "now" "LDaysLent$Ledger;").before args s = true) (w_fewestPayments_190 : CallW rm_X_fewest s args RX9 RX6 190 yX6_fewestPayments cX6_fewestPayments 4 (some .int) wsX6_fewestPayments rm_Set_fewestPayments 0 0 1) (hA : ∀ q : Nat, s.heap.size ≤ q → A q) (hP : va_P D vwCl (List.flatten [(w_X cs o hX I V), (w_Set cs (hX 5) h_set I_set V_set), (w_Led cs (hX 1) h_now I_now V_now)]) s.heap) (hD : va_D A (List.flatten [(w_X cs o hX I V), (w_Set cs (hX 5) h_set I_set V_set), (w_Led cs (hX 1) h_now I_now V_now)])) (hK : va_K D vwCl (tyA cs) s) (hN : yN s) (hret : ∀ (v : Int32) (Vset9 : FV) (H : Heap) (locs : List Loc) (pc : Nat) (ls : Array Slot), some (v, Vset9) = some out → va_P D vwCl (List.flatten [(w_X cs o hX I V), (w_Set cs (hX 5) h_set I_set Vset9), (w_Led cs (hX 1) h_now I_now V_now)]) H → va_D A (List.flatten [(w_X cs o hX I V), (w_Set cs (hX 5) h_set I_set Vset9), (w_Led cs (hX 1) h_now I_now V_now)]) → va_S A s.heap H locs → decode cX9_fewest pc = .ok (.ireturn, 1) → W p l e rm_X_fewest s m args below meth c H locs 0 0 Q (F0 m pc ls [.int v])) : ∀ ls : Array Slot, lv_has ls 1 [(0, .ref o)] → W p l e rm_X_fewest s m args below meth c s.heap [] 0 0 Q (F0 m 0 ls []) := by
  intro ls hl
  have hS : va_S A s.heap s.heap [] := va_S.rf
  unfold X_fewest at hf
  refine lv_aload_n hx hb dX9_fewest_0 rfl (lv_at hl 0 rfl) ?_
  refine va_get (D := D) (ci := 9) (v := .ref (hX 5)) (C := RX9) (T := TX9) (N := 9) hx hb hts in_X9 hown hK hP 0 rfl rfl 5 (by decide) g_47 (fun _ h9 => h9) rfl dX9_fewest_1 ?_
  refine lv_aload_n hx hb dX9_fewest_4 rfl (lv_at hl 0 rfl) ?_
  refine va_get (D := D) (ci := 9) (v := .ref (hX 1)) (C := RX9) (T := TX9) (N := 9) hx hb hts in_X9 hown hK hP 0 rfl rfl 1 (by decide) g_19 (fun _ h9 => h9) rfl dX9_fewest_5 ?_
  have hPc := subB (bs := [(w_X cs o hX I V), (w_Set cs (hX 5) h_set I_set V_set), (w_Led cs (hX 1) h_now I_now V_now)]) (ca := [(w_Set cs (hX 5) h_set I_set V_set), (w_Led cs (hX 1) h_now I_now V_now)]) (ra := [(w_X cs o hX I V)]) [1, 2, 0] (by decide) rfl rfl hP
  obtain ⟨zr1, V2, qr1, hf⟩ := bd2 hf
  have hDc := subD (bs := [(w_X cs o hX I V), (w_Set cs (hX 5) h_set I_set V_set), (w_Led cs (hX 1) h_now I_now V_now)]) (ca := [(w_Set cs (hX 5) h_set I_set V_set), (w_Led cs (hX 1) h_now I_now V_now)]) (ra := [(w_X cs o hX I V)]) [1, 2, 0] (by decide) rfl rfl hD
  have hFc := xfree hDc hS hA
  refine va_calli (va_runV (As := [.ref (hX 1)]) (rest := []) ⟨hx, hb, hml, hown, hts⟩ (c_Set_fewestPayments l D cs (hX 5) h_set (hX 1) h_now _ I_set V_set I_now V_now f _ qr1) w_fewestPayments_190 ⟨yP_moved, va_recv hK hPc (ci := 6) (q0 := 0) rfl rfl, fun U hU hW => ⟨rfl, by rw [hU], by rw [hU]; exact hPc, va_K.moved hW.alike hK, yN_warm hW hN, hDc.weaken (fun _ _ _ _ => trivial)⟩⟩ rfl rfl hl.1 rfl (lv_room (Nat.le_of_ble_eq_true rfl)) dX9_fewest_8 ⟨Nat.zero_le _, Nat.zero_le _⟩) hS (fun q _ h9 => hFc q h9) hFc (fun r1 u t H1 locs ht hvm hw hB hz1 hk1 hS => ?_)
  have er1 := congrArg Prod.fst hw
  have eu := congrArg Prod.snd hw
  dsimp only at er1 eu
  rw [er1]
  rw [eu] at hB
  obtain ⟨hP1, hK1, hD1⟩ := hB
  rw [ht] at hP1
  obtain ⟨hP, hD⟩ := joinB (bs := [(w_X cs o hX I V), (w_Set cs (hX 5) h_set I_set V_set), (w_Led cs (hX 1) h_now I_now V_now)]) (ca := [(w_Set cs (hX 5) h_set I_set V_set), (w_Led cs (hX 1) h_now I_now V_now)]) (ra := [(w_X cs o hX I V)]) [1, 2, 0] (by decide) rfl rfl hP hD hk1 hFc (cb := [(w_Set cs (hX 5) h_set I_set V2), (w_Led cs (hX 1) h_now I_now V_now)]) hP1 hD1 (be := [(w_X cs o hX I V), (w_Set cs (hX 5) h_set I_set V2), (w_Led cs (hX 1) h_now I_now V_now)]) [2, 0, 1] (by decide) rfl rfl
  exact hret zr1 V2 _ _ 11 _ hf hP hD hS dX9_fewest_11
set_option maxHeartbeats 4000000 in
set_option maxRecDepth 100000 in
theorem c_X_fewest (l : Launch) (D : va_G) (cs : Nat → ClassId) (o : Nat) (hX : Nat → Nat) (h_set : Nat → Nat) (h_now : Nat → Nat) (sz : Nat) (I : FI) (V : FV) (I_set : FI) (V_set : FV) (I_now : FI) (V_now : FV) (f : Nat) (out : Int32 × FV) (hf : X_fewest f I V I_set V_set I_now V_now = some out) : Met l yX9_fewest wsX9_fewest rm_X_fewest (va_Pc [.ref o] (yP D cs (List.flatten [(w_X cs o hX I V), (w_Set cs (hX 5) h_set I_set V_set), (w_Led cs (hX 1) h_now I_now V_now)]) sz)) (va_Qi (fun r u => (r, u) = out) (fun (u : FV) t => xA D cs (va_A (List.flatten [(w_X cs o hX I V), (w_Set cs (hX 5) h_set I_set V_set), (w_Led cs (hX 1) h_now I_now V_now)]) sz) (List.flatten [(w_X cs o hX I V), (w_Set cs (hX 5) h_set I_set u), (w_Led cs (hX 1) h_now I_now V_now)]) t) (va_A (List.flatten [(w_X cs o hX I V), (w_Set cs (hX 5) h_set I_set V_set), (w_Led cs (hX 1) h_now I_now V_now)]) sz)) 0 0 (va_A (List.flatten [(w_X cs o hX I V), (w_Set cs (hX 5) h_set I_set V_set), (w_Led cs (hX 1) h_now I_now V_now)]) sz) := by
  refine Met.ofW (cc := cX9_fewest) (maxL := 1) (ret := (some .int)) (by decide) rfl ?_
  intro p e s m args below meth c s₁ B hml hv
  obtain ⟨ha, hsz, hP, hK, hN, hD0⟩ := hv
  have hx := B.exec
  have hb := B.bytes
  have hr := B.returns
  have hts := atoms_spec (ws := wsX9_fewest) B.pre
  have hown : s.vm.findClass RX9 = some m.cls := findClass_of_methodNamed B.named
  have hlocks := B.notSynchronized
  have in_X9 : ∀ w ∈ u_ws RX9 TX9 9, w ∈ wsX9_fewest := fun w h => List.mem_cons_of_mem _ (List.mem_append_left _ (List.mem_append_left _ (List.mem_append_right _ h)))
  have in_X6 : ∀ w ∈ u_ws RX6 TX6 2, w ∈ wsX9_fewest := fun w h => List.mem_cons_of_mem _ (List.mem_append_right _ h)
  have in_X3 : ∀ w ∈ u_ws RX3 TX3 11, w ∈ wsX9_fewest := fun w h => List.mem_cons_of_mem _ (List.mem_append_left _ (List.mem_append_right _ h))
  have g_47 := hts (Cond.fieldLink RX9 47 "DaysLent" "settlement" "LDaysLent$Settlement;") (by decide +kernel)
  have g_19 := hts (Cond.fieldLink RX9 19 "DaysLent" "now" "LDaysLent$Ledger;") (by decide +kernel)
  have w_fewestPayments_190 := cwV (R := rm_X_fewest) (s := s) (args := args) (rm := rm_Set_fewestPayments) (mc := 0) (ms := 0) 1 hts gX9_fewest_X6_fewestPayments rfl rfl rfl (by decide +kernel) ⟨Nat.le_of_ble_eq_true rfl, Nat.le_of_ble_eq_true rfl⟩
  subst hsz
  have hD := hD0.self (sz := s.heap.size)
  generalize hAe : va_A (List.flatten [(w_X cs o hX I V), (w_Set cs (hX 5) h_set I_set V_set), (w_Led cs (hX 1) h_now I_now V_now)]) s.heap.size = A at hD ⊢
  have hA : ∀ q : Nat, s.heap.size ≤ q → A q := fun q h => by rw [← hAe]; exact Or.inr h
  have hl := lv_entry ([.ref o]) (n := 1) (Nat.le_of_ble_eq_true rfl)
  rw [show entryFrame m args 1 = entryFrame m ([.ref o] : List Value).toArray 1 from by rw [ha], lg_entry_eq]
  generalize (lg_sl ([.ref o]) ++ List.replicate (1 - (lg_sl ([.ref o])).length) Slot.unset).toArray = ls at hl ⊢
  generalize hQ : MQ below (va_Qi (fun r u => (r, u) = out) (fun (u : FV) t => xA D cs A (List.flatten [(w_X cs o hX I V), (w_Set cs (hX 5) h_set I_set u), (w_Led cs (hX 1) h_now I_now V_now)]) t) A) args s 0 0 A = Q
  have hret : ∀ (v : Int32) (Vset9 : FV) (H : Heap) (locs : List Loc) (pc : Nat) (ls : Array Slot), some (v, Vset9) = some out → va_P D vwCl (List.flatten [(w_X cs o hX I V), (w_Set cs (hX 5) h_set I_set Vset9), (w_Led cs (hX 1) h_now I_now V_now)]) H → va_D A (List.flatten [(w_X cs o hX I V), (w_Set cs (hX 5) h_set I_set Vset9), (w_Led cs (hX 1) h_now I_now V_now)]) → va_S A s.heap H locs → decode cX9_fewest pc = .ok (.ireturn, 1) → W p l e rm_X_fewest s m args below meth c H locs 0 0 Q (F0 m pc ls [.int v]) := by
    intro v Vset9 H locs pc ls hf hP hD hS hd
    rw [← hQ]
    exact W.iret (v := v) hx hb hr (fun t ht hW => ⟨⟨v, Vset9, rfl, Option.some.inj hf, by show va_P D vwCl (List.flatten [(w_X cs o hX I V), (w_Set cs (hX 5) h_set I_set Vset9), (w_Led cs (hX 1) h_now I_now V_now)]) t.heap; rw [ht]; exact hP, va_K.moved hW.alike hK, hD⟩, hS.F ht⟩) hS.2.2 hd
  exact v_X_fewest hf hx hb hml hown hts in_X9 in_X6 in_X3 g_47 g_19 w_fewestPayments_190 hA hP hD hK hN hret ls hl
def X_falls (f : Nat) (x1 : Int32) (I : FI) (V : FV) (I_now : FI) (V_now : FV) (I_set : FI) (V_set : FV) : Option (Int32) := ob1 (Led_areAllPeople f x1 I_now V_now) (fun zr1 => (if zr1 = 0 then some (-2) else ob1 (Set_fallen f x1 I_set V_set I_now V_now) (fun zr2 => some zr2)))
abbrev rm_X_falls : Room := { frames := 4, cells := 0, slots := 0, locals := 94 }
set_option maxHeartbeats 4000000 in
set_option maxRecDepth 100000 in
theorem v_X_falls {l : Launch} {p : Program} {e : Env} {s : State} {m : MethodId} {args : Array Value} {below : List Frame} {meth : Method} {c : Code} {Q : State → Prop} {D : va_G} {cs : Nat → ClassId} {o : Nat} {hX : Nat → Nat} {h_now : Nat → Nat} {h_set : Nat → Nat} {I : FI} {V : FV} {I_now : FI} {V_now : FV} {I_set : FI} {V_set : FV} {x1 : Int32} {f : Nat} {out : Int32} (hf : X_falls f x1 I V I_now V_now I_set V_set = some out) (hx : p.tables.exec = Jvm.exec) (hb : c.code = cX9_falls) (hml : c.maxLocals = 2) (hown : s.vm.findClass RX9 = some m.cls) (hts : ∀ w ∈ wsX9_falls, w.before args s = true) (in_X9 : ∀ w ∈ u_ws RX9 TX9 9, w ∈ wsX9_falls) (in_X3 : ∀ w ∈ u_ws RX3 TX3 11, w ∈ wsX9_falls) (g_19 : (Cond.fieldLink RX9 19 "DaysLent" "now" "LDaysLent$Ledger;").before args s = true) (w_areAllPeople_173 : CallW rm_X_falls s args RX9 RX3 173 yX3_areAllPeople cX3_areAllPeople 2 (some .boolean) wsX3_areAllPeople rm_Led_areAllPeople 0 0 1) (g_47 : (Cond.fieldLink RX9 47 "DaysLent" "settlement" "LDaysLent$Settlement;").before args s = true) (w_fallen_194 : CallW rm_X_falls s args RX9 RX6 194 yX6_fallen cX6_fallen 5 (some .int) wsX6_fallen rm_Set_fallen 0 0 2) (hP : va_P D vwCl (List.flatten [(w_X cs o hX I V), (w_Led cs (hX 1) h_now I_now V_now), (w_Set cs (hX 5) h_set I_set V_set)]) s.heap) (hK : va_K D vwCl (tyA cs) s) (hN : yN s) (hret : ∀ (v : Int32) (pc : Nat) (ls : Array Slot), some v = some out → decode cX9_falls pc = .ok (.ireturn, 1) → W p l e rm_X_falls s m args below meth c s.heap [] 0 0 Q (F0 m pc ls [.int v])) : ∀ ls : Array Slot, lv_has ls 2 [(0, .ref o), (1, .int x1)] → W p l e rm_X_falls s m args below meth c s.heap [] 0 0 Q (F0 m 0 ls []) := by
  intro ls hl
  unfold X_falls at hf
  refine lv_aload_n hx hb dX9_falls_0 rfl (lv_at hl 0 rfl) ?_
  refine va_get (D := D) (ci := 9) (v := .ref (hX 1)) (C := RX9) (T := TX9) (N := 9) hx hb hts in_X9 hown hK hP 0 rfl rfl 1 (by decide) g_19 (fun _ h9 => h9) rfl dX9_falls_1 ?_
  refine lv_iload_n hx hb dX9_falls_4 rfl (lv_at hl 1 rfl) ?_
  have hPc := subB (bs := [(w_X cs o hX I V), (w_Led cs (hX 1) h_now I_now V_now), (w_Set cs (hX 5) h_set I_set V_set)]) (ca := [(w_Led cs (hX 1) h_now I_now V_now)]) (ra := [(w_X cs o hX I V), (w_Set cs (hX 5) h_set I_set V_set)]) [1, 0, 2] (by decide) rfl rfl hP
  obtain ⟨zr1, qr1, hf⟩ := bd1 hf
  refine vp_callSi (va_Run.run (va_runV (As := [.int x1]) (rest := []) ⟨hx, hb, hml, hown, hts⟩ (c_Led_areAllPeople l D cs (hX 1) h_now I_now V_now x1 f zr1 qr1) w_areAllPeople_173 ⟨yR_moved, va_recv hK hPc (ci := 3) (q0 := 0) rfl rfl, fun U hU hW => ⟨rfl, by rw [hU]; exact hPc, va_K.moved hW.alike hK, yN_warm hW hN⟩⟩ rfl rfl hl.1 rfl (lv_room (Nat.le_of_ble_eq_true rfl)) dX9_falls_5 ⟨Nat.zero_le _, Nat.zero_le _⟩)) (fun r1 er1 => ?_)
  rw [er1]
  refine lv_if_ne (tgt := 14) hx hb dX9_falls_8 (by decide) (fun c8 => ?_) (fun c8 => ?_)
  · replace hf := im c8 hf
    refine lv_aload_n hx hb dX9_falls_14 rfl (lv_at hl 0 rfl) ?_
    refine va_get (D := D) (ci := 9) (v := .ref (hX 5)) (C := RX9) (T := TX9) (N := 9) hx hb hts in_X9 hown hK hP 0 rfl rfl 5 (by decide) g_47 (fun _ h9 => h9) rfl dX9_falls_15 ?_
    refine lv_aload_n hx hb dX9_falls_18 rfl (lv_at hl 0 rfl) ?_
    refine va_get (D := D) (ci := 9) (v := .ref (hX 1)) (C := RX9) (T := TX9) (N := 9) hx hb hts in_X9 hown hK hP 0 rfl rfl 1 (by decide) g_19 (fun _ h9 => h9) rfl dX9_falls_19 ?_
    refine lv_iload_n hx hb dX9_falls_22 rfl (lv_at hl 1 rfl) ?_
    have hPc := subB (bs := [(w_X cs o hX I V), (w_Led cs (hX 1) h_now I_now V_now), (w_Set cs (hX 5) h_set I_set V_set)]) (ca := [(w_Set cs (hX 5) h_set I_set V_set), (w_Led cs (hX 1) h_now I_now V_now)]) (ra := [(w_X cs o hX I V)]) [2, 1, 0] (by decide) rfl rfl hP
    obtain ⟨zr2, qr2, hf⟩ := bd1 hf
    refine vp_callSi (va_Run.run (va_runV (As := [.ref (hX 1), .int x1]) (rest := []) ⟨hx, hb, hml, hown, hts⟩ (c_Set_fallen l D cs (hX 5) h_set (hX 1) h_now I_set V_set I_now V_now x1 f zr2 qr2) w_fallen_194 ⟨yR_moved, va_recv hK hPc (ci := 6) (q0 := 0) rfl rfl, fun U hU hW => ⟨rfl, by rw [hU]; exact hPc, va_K.moved hW.alike hK, yN_warm hW hN⟩⟩ rfl rfl hl.1 rfl (lv_room (Nat.le_of_ble_eq_true rfl)) dX9_falls_23 ⟨Nat.zero_le _, Nat.zero_le _⟩)) (fun r2 er2 => ?_)
    rw [er2]
    exact hret zr2 26 _ hf dX9_falls_26
  · replace hf := ip c8 hf
    refine lv_bipush (v := (-2)) hx hb dX9_falls_11 (by decide) ?_
    exact hret (-2) 13 _ hf dX9_falls_13
set_option maxHeartbeats 4000000 in
set_option maxRecDepth 100000 in
theorem c_X_falls (l : Launch) (D : va_G) (cs : Nat → ClassId) (o : Nat) (hX : Nat → Nat) (h_now : Nat → Nat) (h_set : Nat → Nat) (I : FI) (V : FV) (I_now : FI) (V_now : FV) (I_set : FI) (V_set : FV) (x1 : Int32) (f : Nat) (out : Int32) (hf : X_falls f x1 I V I_now V_now I_set V_set = some out) : Met l yX9_falls wsX9_falls rm_X_falls (va_Pc [.ref o, .int x1] (yR D cs (List.flatten [(w_X cs o hX I V), (w_Led cs (hX 1) h_now I_now V_now), (w_Set cs (hX 5) h_set I_set V_set)]))) (vp_Si (fun r => r = out)) 0 0 (fun _ => False) := by
  refine Met.ofW (cc := cX9_falls) (maxL := 2) (ret := (some .int)) (by decide) rfl ?_
  intro p e s m args below meth c s₁ B hml hv
  obtain ⟨ha, hP, hK, hN⟩ := hv
  have hx := B.exec
  have hb := B.bytes
  have hr := B.returns
  have hts := atoms_spec (ws := wsX9_falls) B.pre
  have hown : s.vm.findClass RX9 = some m.cls := findClass_of_methodNamed B.named
  have hlocks := B.notSynchronized
  have in_X9 : ∀ w ∈ u_ws RX9 TX9 9, w ∈ wsX9_falls := fun w h => List.mem_cons_of_mem _ (List.mem_append_left _ (List.mem_append_right _ h))
  have in_X3 : ∀ w ∈ u_ws RX3 TX3 11, w ∈ wsX9_falls := fun w h => List.mem_cons_of_mem _ (List.mem_append_right _ h)
  have g_19 := hts (Cond.fieldLink RX9 19 "DaysLent" "now" "LDaysLent$Ledger;") (by decide +kernel)
  have w_areAllPeople_173 := cwV (R := rm_X_falls) (s := s) (args := args) (rm := rm_Led_areAllPeople) (mc := 0) (ms := 0) 1 hts gX9_falls_X3_areAllPeople rfl rfl rfl (by decide +kernel) ⟨Nat.le_of_ble_eq_true rfl, Nat.le_of_ble_eq_true rfl⟩
  have g_47 := hts (Cond.fieldLink RX9 47 "DaysLent" "settlement" "LDaysLent$Settlement;") (by decide +kernel)
  have w_fallen_194 := cwV (R := rm_X_falls) (s := s) (args := args) (rm := rm_Set_fallen) (mc := 0) (ms := 0) 2 hts gX9_falls_X6_fallen rfl rfl rfl (by decide +kernel) ⟨Nat.le_of_ble_eq_true rfl, Nat.le_of_ble_eq_true rfl⟩
  have hl := lv_entry ([.ref o, .int x1]) (n := 2) (Nat.le_of_ble_eq_true rfl)
  rw [show entryFrame m args 2 = entryFrame m ([.ref o, .int x1] : List Value).toArray 2 from by rw [ha], lg_entry_eq]
  generalize (lg_sl ([.ref o, .int x1]) ++ List.replicate (2 - (lg_sl ([.ref o, .int x1])).length) Slot.unset).toArray = ls at hl ⊢
  generalize hQ : MQ below (vp_Si (fun r => r = out)) args s 0 0 (fun _ => False) = Q
  have hret : ∀ (v : Int32) (pc : Nat) (ls : Array Slot), some v = some out → decode cX9_falls pc = .ok (.ireturn, 1) → W p l e rm_X_falls s m args below meth c s.heap [] 0 0 Q (F0 m pc ls [.int v]) := by
    intro v pc ls hf hd
    rw [← hQ]
    exact W.iret (v := v) hx hb hr (fun t ht hW => ⟨v, rfl, Option.some.inj hf, ht⟩) (fun q h => by cases h) hd
  exact v_X_falls hf hx hb hml hown hts in_X9 in_X3 g_19 w_areAllPeople_173 g_47 w_fallen_194 hP hK hN hret ls hl
def X_ring (f : Nat) (x1 : Int32) (I : FI) (V : FV) (I_now : FI) (V_now : FV) (I_rng : FI) (V_rng : FV) : Option (Int32 × FV) := ob1 (Led_has f x1 I_now V_now) (fun zr1 => (if zr1 = 0 then some ((-1), V_rng) else ob2 (Rng_fewestDebts f x1 I_rng V_rng I_now V_now) (fun zr2 V3 => some (zr2, V3))))
abbrev rm_X_ring : Room := { frames := 3, cells := 0, slots := 0, locals := 70 }
set_option maxHeartbeats 4000000 in
set_option maxRecDepth 100000 in
theorem v_X_ring {l : Launch} {p : Program} {e : Env} {s : State} {m : MethodId} {args : Array Value} {below : List Frame} {meth : Method} {c : Code} {Q : State → Prop} {D : va_G} {cs : Nat → ClassId} {o : Nat} {hX : Nat → Nat} {h_now : Nat → Nat} {h_rng : Nat → Nat} {A : Nat → Prop} {I : FI} {V : FV} {I_now : FI} {V_now : FV} {I_rng : FI} {V_rng : FV} {x1 : Int32} {f : Nat} {out : Int32 × FV} (hf : X_ring f x1 I V I_now V_now I_rng V_rng = some out) (hx : p.tables.exec = Jvm.exec) (hb : c.code = cX9_ring) (hml : c.maxLocals = 2) (hown : s.vm.findClass RX9 = some m.cls) (hts : ∀ w ∈ wsX9_ring, w.before args s = true) (in_X9 : ∀ w ∈ u_ws RX9 TX9 9, w ∈ wsX9_ring) (in_X3 : ∀ w ∈ u_ws RX3 TX3 11, w ∈ wsX9_ring) (in_X5 : ∀ w ∈ u_ws RX5 TX5 1, w ∈ wsX9_ring) (g_19 : (Cond.fieldLink RX9 19 "DaysLent" "now" "LDaysLent$Ledger;").before args s = true) (w_has_117 : CallW rm_X_ring s args RX9 RX3 117 yX3_has cX3_has 2 (some .boolean) wsX3_has rm_Led_has 0 0 1) (g_54 : (Cond.fieldLink RX9 54 "DaysLent" "rings" "LDaysLent$Rings;").before args s = true) (w_fewestDebts_198 : CallW rm_X_ring s args RX9 RX5 198 yX5_fewestDebts cX5_fewestDebts 5 (some .int) wsX5_fewestDebts rm_Rng_fewestDebts 0 0 2) (hA : ∀ q : Nat, s.heap.size ≤ q → A q) (hP : va_P D vwCl (List.flatten [(w_X cs o hX I V), (w_Led cs (hX 1) h_now I_now V_now), (w_Rng cs (hX 6) h_rng I_rng V_rng)]) s.heap) (hD : va_D A (List.flatten [(w_X cs o hX I V), (w_Led cs (hX 1) h_now I_now V_now), (w_Rng cs (hX 6) h_rng I_rng V_rng)])) (hK : va_K D vwCl (tyA cs) s) (hN : yN s) (hret : ∀ (v : Int32) (Vrng9 : FV) (H : Heap) (locs : List Loc) (pc : Nat) (ls : Array Slot), some (v, Vrng9) = some out → va_P D vwCl (List.flatten [(w_X cs o hX I V), (w_Led cs (hX 1) h_now I_now V_now), (w_Rng cs (hX 6) h_rng I_rng Vrng9)]) H → va_D A (List.flatten [(w_X cs o hX I V), (w_Led cs (hX 1) h_now I_now V_now), (w_Rng cs (hX 6) h_rng I_rng Vrng9)]) → va_S A s.heap H locs → decode cX9_ring pc = .ok (.ireturn, 1) → W p l e rm_X_ring s m args below meth c H locs 0 0 Q (F0 m pc ls [.int v])) : ∀ ls : Array Slot, lv_has ls 2 [(0, .ref o), (1, .int x1)] → W p l e rm_X_ring s m args below meth c s.heap [] 0 0 Q (F0 m 0 ls []) := by
  intro ls hl
  have hS : va_S A s.heap s.heap [] := va_S.rf
  unfold X_ring at hf
  refine lv_aload_n hx hb dX9_ring_0 rfl (lv_at hl 0 rfl) ?_
  refine va_get (D := D) (ci := 9) (v := .ref (hX 1)) (C := RX9) (T := TX9) (N := 9) hx hb hts in_X9 hown hK hP 0 rfl rfl 1 (by decide) g_19 (fun _ h9 => h9) rfl dX9_ring_1 ?_
  refine lv_iload_n hx hb dX9_ring_4 rfl (lv_at hl 1 rfl) ?_
  have hPc := subB (bs := [(w_X cs o hX I V), (w_Led cs (hX 1) h_now I_now V_now), (w_Rng cs (hX 6) h_rng I_rng V_rng)]) (ca := [(w_Led cs (hX 1) h_now I_now V_now)]) (ra := [(w_X cs o hX I V), (w_Rng cs (hX 6) h_rng I_rng V_rng)]) [1, 0, 2] (by decide) rfl rfl hP
  obtain ⟨zr1, qr1, hf⟩ := bd1 hf
  refine vp_callSi (va_Run.run (va_runV (As := [.int x1]) (rest := []) ⟨hx, hb, hml, hown, hts⟩ (c_Led_has l D cs (hX 1) h_now I_now V_now x1 f zr1 qr1) w_has_117 ⟨yR_moved, va_recv hK hPc (ci := 3) (q0 := 0) rfl rfl, fun U hU hW => ⟨rfl, by rw [hU]; exact hPc, va_K.moved hW.alike hK, yN_warm hW hN⟩⟩ rfl rfl hl.1 rfl (lv_room (Nat.le_of_ble_eq_true rfl)) dX9_ring_5 ⟨Nat.zero_le _, Nat.zero_le _⟩)) (fun r1 er1 => ?_)
  rw [er1]
  refine lv_if_ne (tgt := 13) hx hb dX9_ring_8 (by decide) (fun c8 => ?_) (fun c8 => ?_)
  · replace hf := im c8 hf
    refine lv_aload_n hx hb dX9_ring_13 rfl (lv_at hl 0 rfl) ?_
    refine va_get (D := D) (ci := 9) (v := .ref (hX 6)) (C := RX9) (T := TX9) (N := 9) hx hb hts in_X9 hown hK hP 0 rfl rfl 6 (by decide) g_54 (fun _ h9 => h9) rfl dX9_ring_14 ?_
    refine lv_aload_n hx hb dX9_ring_17 rfl (lv_at hl 0 rfl) ?_
    refine va_get (D := D) (ci := 9) (v := .ref (hX 1)) (C := RX9) (T := TX9) (N := 9) hx hb hts in_X9 hown hK hP 0 rfl rfl 1 (by decide) g_19 (fun _ h9 => h9) rfl dX9_ring_18 ?_
    refine lv_iload_n hx hb dX9_ring_21 rfl (lv_at hl 1 rfl) ?_
    have hPc := subB (bs := [(w_X cs o hX I V), (w_Led cs (hX 1) h_now I_now V_now), (w_Rng cs (hX 6) h_rng I_rng V_rng)]) (ca := [(w_Rng cs (hX 6) h_rng I_rng V_rng), (w_Led cs (hX 1) h_now I_now V_now)]) (ra := [(w_X cs o hX I V)]) [2, 1, 0] (by decide) rfl rfl hP
    obtain ⟨zr2, V3, qr2, hf⟩ := bd2 hf
    have hDc := subD (bs := [(w_X cs o hX I V), (w_Led cs (hX 1) h_now I_now V_now), (w_Rng cs (hX 6) h_rng I_rng V_rng)]) (ca := [(w_Rng cs (hX 6) h_rng I_rng V_rng), (w_Led cs (hX 1) h_now I_now V_now)]) (ra := [(w_X cs o hX I V)]) [2, 1, 0] (by decide) rfl rfl hD
    have hFc := xfree hDc hS hA
    refine va_calli (va_runV (As := [.ref (hX 1), .int x1]) (rest := []) ⟨hx, hb, hml, hown, hts⟩ (c_Rng_fewestDebts l D cs (hX 6) h_rng (hX 1) h_now _ I_rng V_rng I_now V_now x1 f _ qr2) w_fewestDebts_198 ⟨yP_moved, va_recv hK hPc (ci := 5) (q0 := 0) rfl rfl, fun U hU hW => ⟨rfl, by rw [hU], by rw [hU]; exact hPc, va_K.moved hW.alike hK, yN_warm hW hN, hDc.weaken (fun _ _ _ _ => trivial)⟩⟩ rfl rfl hl.1 rfl (lv_room (Nat.le_of_ble_eq_true rfl)) dX9_ring_22 ⟨Nat.zero_le _, Nat.zero_le _⟩) hS (fun q _ h9 => hFc q h9) hFc (fun r2 u t H1 locs ht hvm hw hB hz1 hk1 hS => ?_)
    have er2 := congrArg Prod.fst hw
    have eu := congrArg Prod.snd hw
    dsimp only at er2 eu
    rw [er2]
    rw [eu] at hB
    obtain ⟨hP1, hK1, hD1⟩ := hB
    rw [ht] at hP1
    obtain ⟨hP, hD⟩ := joinB (bs := [(w_X cs o hX I V), (w_Led cs (hX 1) h_now I_now V_now), (w_Rng cs (hX 6) h_rng I_rng V_rng)]) (ca := [(w_Rng cs (hX 6) h_rng I_rng V_rng), (w_Led cs (hX 1) h_now I_now V_now)]) (ra := [(w_X cs o hX I V)]) [2, 1, 0] (by decide) rfl rfl hP hD hk1 hFc (cb := [(w_Rng cs (hX 6) h_rng I_rng V3), (w_Led cs (hX 1) h_now I_now V_now)]) hP1 hD1 (be := [(w_X cs o hX I V), (w_Led cs (hX 1) h_now I_now V_now), (w_Rng cs (hX 6) h_rng I_rng V3)]) [2, 1, 0] (by decide) rfl rfl
    exact hret zr2 V3 _ _ 25 _ hf hP hD hS dX9_ring_25
  · replace hf := ip c8 hf
    refine lv_iconst (v := (-1)) hx hb dX9_ring_11 (by decide) ?_
    exact hret (-1) V_rng _ _ 12 _ hf hP hD hS dX9_ring_12
set_option maxHeartbeats 4000000 in
set_option maxRecDepth 100000 in
theorem c_X_ring (l : Launch) (D : va_G) (cs : Nat → ClassId) (o : Nat) (hX : Nat → Nat) (h_now : Nat → Nat) (h_rng : Nat → Nat) (sz : Nat) (I : FI) (V : FV) (I_now : FI) (V_now : FV) (I_rng : FI) (V_rng : FV) (x1 : Int32) (f : Nat) (out : Int32 × FV) (hf : X_ring f x1 I V I_now V_now I_rng V_rng = some out) : Met l yX9_ring wsX9_ring rm_X_ring (va_Pc [.ref o, .int x1] (yP D cs (List.flatten [(w_X cs o hX I V), (w_Led cs (hX 1) h_now I_now V_now), (w_Rng cs (hX 6) h_rng I_rng V_rng)]) sz)) (va_Qi (fun r u => (r, u) = out) (fun (u : FV) t => xA D cs (va_A (List.flatten [(w_X cs o hX I V), (w_Led cs (hX 1) h_now I_now V_now), (w_Rng cs (hX 6) h_rng I_rng V_rng)]) sz) (List.flatten [(w_X cs o hX I V), (w_Led cs (hX 1) h_now I_now V_now), (w_Rng cs (hX 6) h_rng I_rng u)]) t) (va_A (List.flatten [(w_X cs o hX I V), (w_Led cs (hX 1) h_now I_now V_now), (w_Rng cs (hX 6) h_rng I_rng V_rng)]) sz)) 0 0 (va_A (List.flatten [(w_X cs o hX I V), (w_Led cs (hX 1) h_now I_now V_now), (w_Rng cs (hX 6) h_rng I_rng V_rng)]) sz) := by
  refine Met.ofW (cc := cX9_ring) (maxL := 2) (ret := (some .int)) (by decide) rfl ?_
  intro p e s m args below meth c s₁ B hml hv
  obtain ⟨ha, hsz, hP, hK, hN, hD0⟩ := hv
  have hx := B.exec
  have hb := B.bytes
  have hr := B.returns
  have hts := atoms_spec (ws := wsX9_ring) B.pre
  have hown : s.vm.findClass RX9 = some m.cls := findClass_of_methodNamed B.named
  have hlocks := B.notSynchronized
  have in_X9 : ∀ w ∈ u_ws RX9 TX9 9, w ∈ wsX9_ring := fun w h => List.mem_cons_of_mem _ (List.mem_append_left _ (List.mem_append_left _ (List.mem_append_right _ h)))
  have in_X3 : ∀ w ∈ u_ws RX3 TX3 11, w ∈ wsX9_ring := fun w h => List.mem_cons_of_mem _ (List.mem_append_left _ (List.mem_append_right _ h))
  have in_X5 : ∀ w ∈ u_ws RX5 TX5 1, w ∈ wsX9_ring := fun w h => List.mem_cons_of_mem _ (List.mem_append_right _ h)
  have g_19 := hts (Cond.fieldLink RX9 19 "DaysLent" "now" "LDaysLent$Ledger;") (by decide +kernel)
  have w_has_117 := cwV (R := rm_X_ring) (s := s) (args := args) (rm := rm_Led_has) (mc := 0) (ms := 0) 1 hts gX9_ring_X3_has rfl rfl rfl (by decide +kernel) ⟨Nat.le_of_ble_eq_true rfl, Nat.le_of_ble_eq_true rfl⟩
  have g_54 := hts (Cond.fieldLink RX9 54 "DaysLent" "rings" "LDaysLent$Rings;") (by decide +kernel)
  have w_fewestDebts_198 := cwV (R := rm_X_ring) (s := s) (args := args) (rm := rm_Rng_fewestDebts) (mc := 0) (ms := 0) 2 hts gX9_ring_X5_fewestDebts rfl rfl rfl (by decide +kernel) ⟨Nat.le_of_ble_eq_true rfl, Nat.le_of_ble_eq_true rfl⟩
  subst hsz
  have hD := hD0.self (sz := s.heap.size)
  generalize hAe : va_A (List.flatten [(w_X cs o hX I V), (w_Led cs (hX 1) h_now I_now V_now), (w_Rng cs (hX 6) h_rng I_rng V_rng)]) s.heap.size = A at hD ⊢
  have hA : ∀ q : Nat, s.heap.size ≤ q → A q := fun q h => by rw [← hAe]; exact Or.inr h
  have hl := lv_entry ([.ref o, .int x1]) (n := 2) (Nat.le_of_ble_eq_true rfl)
  rw [show entryFrame m args 2 = entryFrame m ([.ref o, .int x1] : List Value).toArray 2 from by rw [ha], lg_entry_eq]
  generalize (lg_sl ([.ref o, .int x1]) ++ List.replicate (2 - (lg_sl ([.ref o, .int x1])).length) Slot.unset).toArray = ls at hl ⊢
  generalize hQ : MQ below (va_Qi (fun r u => (r, u) = out) (fun (u : FV) t => xA D cs A (List.flatten [(w_X cs o hX I V), (w_Led cs (hX 1) h_now I_now V_now), (w_Rng cs (hX 6) h_rng I_rng u)]) t) A) args s 0 0 A = Q
  have hret : ∀ (v : Int32) (Vrng9 : FV) (H : Heap) (locs : List Loc) (pc : Nat) (ls : Array Slot), some (v, Vrng9) = some out → va_P D vwCl (List.flatten [(w_X cs o hX I V), (w_Led cs (hX 1) h_now I_now V_now), (w_Rng cs (hX 6) h_rng I_rng Vrng9)]) H → va_D A (List.flatten [(w_X cs o hX I V), (w_Led cs (hX 1) h_now I_now V_now), (w_Rng cs (hX 6) h_rng I_rng Vrng9)]) → va_S A s.heap H locs → decode cX9_ring pc = .ok (.ireturn, 1) → W p l e rm_X_ring s m args below meth c H locs 0 0 Q (F0 m pc ls [.int v]) := by
    intro v Vrng9 H locs pc ls hf hP hD hS hd
    rw [← hQ]
    exact W.iret (v := v) hx hb hr (fun t ht hW => ⟨⟨v, Vrng9, rfl, Option.some.inj hf, by show va_P D vwCl (List.flatten [(w_X cs o hX I V), (w_Led cs (hX 1) h_now I_now V_now), (w_Rng cs (hX 6) h_rng I_rng Vrng9)]) t.heap; rw [ht]; exact hP, va_K.moved hW.alike hK, hD⟩, hS.F ht⟩) hS.2.2 hd
  exact v_X_ring hf hx hb hml hown hts in_X9 in_X3 in_X5 g_19 w_has_117 g_54 w_fewestDebts_198 hA hP hD hK hN hret ls hl
def X_room (f : Nat) (x1 : Int32) (I : FI) (V : FV) (I_now : FI) (V_now : FV) (I_rng : FI) (V_rng : FV) : Option (Int32 × FV) := ob1 (Led_has f x1 I_now V_now) (fun zr1 => (if zr1 = 0 then some ((-1), V_rng) else ob2 (Rng_leastAmount f x1 I_rng V_rng I_now V_now) (fun zr2 V3 => some (zr2, V3))))
abbrev rm_X_room : Room := { frames := 4, cells := 0, slots := 0, locals := 97 }
set_option maxHeartbeats 4000000 in
set_option maxRecDepth 100000 in
theorem v_X_room {l : Launch} {p : Program} {e : Env} {s : State} {m : MethodId} {args : Array Value} {below : List Frame} {meth : Method} {c : Code} {Q : State → Prop} {D : va_G} {cs : Nat → ClassId} {o : Nat} {hX : Nat → Nat} {h_now : Nat → Nat} {h_rng : Nat → Nat} {A : Nat → Prop} {I : FI} {V : FV} {I_now : FI} {V_now : FV} {I_rng : FI} {V_rng : FV} {x1 : Int32} {f : Nat} {out : Int32 × FV} (hf : X_room f x1 I V I_now V_now I_rng V_rng = some out) (hx : p.tables.exec = Jvm.exec) (hb : c.code = cX9_room) (hml : c.maxLocals = 2) (hown : s.vm.findClass RX9 = some m.cls) (hts : ∀ w ∈ wsX9_room, w.before args s = true) (in_X9 : ∀ w ∈ u_ws RX9 TX9 9, w ∈ wsX9_room) (in_X3 : ∀ w ∈ u_ws RX3 TX3 11, w ∈ wsX9_room) (in_X5 : ∀ w ∈ u_ws RX5 TX5 1, w ∈ wsX9_room) (g_19 : (Cond.fieldLink RX9 19 "DaysLent" "now" "LDaysLent$Ledger;").before args s = true) (w_has_117 : CallW rm_X_room s args RX9 RX3 117 yX3_has cX3_has 2 (some .boolean) wsX3_has rm_Led_has 0 0 1) (g_54 : (Cond.fieldLink RX9 54 "DaysLent" "rings" "LDaysLent$Rings;").before args s = true) (w_leastAmount_201 : CallW rm_X_room s args RX9 RX5 201 yX5_leastAmount cX5_leastAmount 8 (some .int) wsX5_leastAmount rm_Rng_leastAmount 0 0 2) (hA : ∀ q : Nat, s.heap.size ≤ q → A q) (hP : va_P D vwCl (List.flatten [(w_X cs o hX I V), (w_Led cs (hX 1) h_now I_now V_now), (w_Rng cs (hX 6) h_rng I_rng V_rng)]) s.heap) (hD : va_D A (List.flatten [(w_X cs o hX I V), (w_Led cs (hX 1) h_now I_now V_now), (w_Rng cs (hX 6) h_rng I_rng V_rng)])) (hK : va_K D vwCl (tyA cs) s) (hN : yN s) (hret : ∀ (v : Int32) (Vrng9 : FV) (H : Heap) (locs : List Loc) (pc : Nat) (ls : Array Slot), some (v, Vrng9) = some out → va_P D vwCl (List.flatten [(w_X cs o hX I V), (w_Led cs (hX 1) h_now I_now V_now), (w_Rng cs (hX 6) h_rng I_rng Vrng9)]) H → va_D A (List.flatten [(w_X cs o hX I V), (w_Led cs (hX 1) h_now I_now V_now), (w_Rng cs (hX 6) h_rng I_rng Vrng9)]) → va_S A s.heap H locs → decode cX9_room pc = .ok (.ireturn, 1) → W p l e rm_X_room s m args below meth c H locs 0 0 Q (F0 m pc ls [.int v])) : ∀ ls : Array Slot, lv_has ls 2 [(0, .ref o), (1, .int x1)] → W p l e rm_X_room s m args below meth c s.heap [] 0 0 Q (F0 m 0 ls []) := by
  intro ls hl
  have hS : va_S A s.heap s.heap [] := va_S.rf
  unfold X_room at hf
  refine lv_aload_n hx hb dX9_room_0 rfl (lv_at hl 0 rfl) ?_
  refine va_get (D := D) (ci := 9) (v := .ref (hX 1)) (C := RX9) (T := TX9) (N := 9) hx hb hts in_X9 hown hK hP 0 rfl rfl 1 (by decide) g_19 (fun _ h9 => h9) rfl dX9_room_1 ?_
  refine lv_iload_n hx hb dX9_room_4 rfl (lv_at hl 1 rfl) ?_
  have hPc := subB (bs := [(w_X cs o hX I V), (w_Led cs (hX 1) h_now I_now V_now), (w_Rng cs (hX 6) h_rng I_rng V_rng)]) (ca := [(w_Led cs (hX 1) h_now I_now V_now)]) (ra := [(w_X cs o hX I V), (w_Rng cs (hX 6) h_rng I_rng V_rng)]) [1, 0, 2] (by decide) rfl rfl hP
  obtain ⟨zr1, qr1, hf⟩ := bd1 hf
  refine vp_callSi (va_Run.run (va_runV (As := [.int x1]) (rest := []) ⟨hx, hb, hml, hown, hts⟩ (c_Led_has l D cs (hX 1) h_now I_now V_now x1 f zr1 qr1) w_has_117 ⟨yR_moved, va_recv hK hPc (ci := 3) (q0 := 0) rfl rfl, fun U hU hW => ⟨rfl, by rw [hU]; exact hPc, va_K.moved hW.alike hK, yN_warm hW hN⟩⟩ rfl rfl hl.1 rfl (lv_room (Nat.le_of_ble_eq_true rfl)) dX9_room_5 ⟨Nat.zero_le _, Nat.zero_le _⟩)) (fun r1 er1 => ?_)
  rw [er1]
  refine lv_if_ne (tgt := 13) hx hb dX9_room_8 (by decide) (fun c8 => ?_) (fun c8 => ?_)
  · replace hf := im c8 hf
    refine lv_aload_n hx hb dX9_room_13 rfl (lv_at hl 0 rfl) ?_
    refine va_get (D := D) (ci := 9) (v := .ref (hX 6)) (C := RX9) (T := TX9) (N := 9) hx hb hts in_X9 hown hK hP 0 rfl rfl 6 (by decide) g_54 (fun _ h9 => h9) rfl dX9_room_14 ?_
    refine lv_aload_n hx hb dX9_room_17 rfl (lv_at hl 0 rfl) ?_
    refine va_get (D := D) (ci := 9) (v := .ref (hX 1)) (C := RX9) (T := TX9) (N := 9) hx hb hts in_X9 hown hK hP 0 rfl rfl 1 (by decide) g_19 (fun _ h9 => h9) rfl dX9_room_18 ?_
    refine lv_iload_n hx hb dX9_room_21 rfl (lv_at hl 1 rfl) ?_
    have hPc := subB (bs := [(w_X cs o hX I V), (w_Led cs (hX 1) h_now I_now V_now), (w_Rng cs (hX 6) h_rng I_rng V_rng)]) (ca := [(w_Rng cs (hX 6) h_rng I_rng V_rng), (w_Led cs (hX 1) h_now I_now V_now)]) (ra := [(w_X cs o hX I V)]) [2, 1, 0] (by decide) rfl rfl hP
    obtain ⟨zr2, V3, qr2, hf⟩ := bd2 hf
    have hDc := subD (bs := [(w_X cs o hX I V), (w_Led cs (hX 1) h_now I_now V_now), (w_Rng cs (hX 6) h_rng I_rng V_rng)]) (ca := [(w_Rng cs (hX 6) h_rng I_rng V_rng), (w_Led cs (hX 1) h_now I_now V_now)]) (ra := [(w_X cs o hX I V)]) [2, 1, 0] (by decide) rfl rfl hD
    have hFc := xfree hDc hS hA
    refine va_calli (va_runV (As := [.ref (hX 1), .int x1]) (rest := []) ⟨hx, hb, hml, hown, hts⟩ (c_Rng_leastAmount l D cs (hX 6) h_rng (hX 1) h_now _ I_rng V_rng I_now V_now x1 f _ qr2) w_leastAmount_201 ⟨yP_moved, va_recv hK hPc (ci := 5) (q0 := 0) rfl rfl, fun U hU hW => ⟨rfl, by rw [hU], by rw [hU]; exact hPc, va_K.moved hW.alike hK, yN_warm hW hN, hDc.weaken (fun _ _ _ _ => trivial)⟩⟩ rfl rfl hl.1 rfl (lv_room (Nat.le_of_ble_eq_true rfl)) dX9_room_22 ⟨Nat.zero_le _, Nat.zero_le _⟩) hS (fun q _ h9 => hFc q h9) hFc (fun r2 u t H1 locs ht hvm hw hB hz1 hk1 hS => ?_)
    have er2 := congrArg Prod.fst hw
    have eu := congrArg Prod.snd hw
    dsimp only at er2 eu
    rw [er2]
    rw [eu] at hB
    obtain ⟨hP1, hK1, hD1⟩ := hB
    rw [ht] at hP1
    obtain ⟨hP, hD⟩ := joinB (bs := [(w_X cs o hX I V), (w_Led cs (hX 1) h_now I_now V_now), (w_Rng cs (hX 6) h_rng I_rng V_rng)]) (ca := [(w_Rng cs (hX 6) h_rng I_rng V_rng), (w_Led cs (hX 1) h_now I_now V_now)]) (ra := [(w_X cs o hX I V)]) [2, 1, 0] (by decide) rfl rfl hP hD hk1 hFc (cb := [(w_Rng cs (hX 6) h_rng I_rng V3), (w_Led cs (hX 1) h_now I_now V_now)]) hP1 hD1 (be := [(w_X cs o hX I V), (w_Led cs (hX 1) h_now I_now V_now), (w_Rng cs (hX 6) h_rng I_rng V3)]) [2, 1, 0] (by decide) rfl rfl
    exact hret zr2 V3 _ _ 25 _ hf hP hD hS dX9_room_25
  · replace hf := ip c8 hf
    refine lv_iconst (v := (-1)) hx hb dX9_room_11 (by decide) ?_
    exact hret (-1) V_rng _ _ 12 _ hf hP hD hS dX9_room_12
set_option maxHeartbeats 4000000 in
set_option maxRecDepth 100000 in
theorem c_X_room (l : Launch) (D : va_G) (cs : Nat → ClassId) (o : Nat) (hX : Nat → Nat) (h_now : Nat → Nat) (h_rng : Nat → Nat) (sz : Nat) (I : FI) (V : FV) (I_now : FI) (V_now : FV) (I_rng : FI) (V_rng : FV) (x1 : Int32) (f : Nat) (out : Int32 × FV) (hf : X_room f x1 I V I_now V_now I_rng V_rng = some out) : Met l yX9_room wsX9_room rm_X_room (va_Pc [.ref o, .int x1] (yP D cs (List.flatten [(w_X cs o hX I V), (w_Led cs (hX 1) h_now I_now V_now), (w_Rng cs (hX 6) h_rng I_rng V_rng)]) sz)) (va_Qi (fun r u => (r, u) = out) (fun (u : FV) t => xA D cs (va_A (List.flatten [(w_X cs o hX I V), (w_Led cs (hX 1) h_now I_now V_now), (w_Rng cs (hX 6) h_rng I_rng V_rng)]) sz) (List.flatten [(w_X cs o hX I V), (w_Led cs (hX 1) h_now I_now V_now), (w_Rng cs (hX 6) h_rng I_rng u)]) t) (va_A (List.flatten [(w_X cs o hX I V), (w_Led cs (hX 1) h_now I_now V_now), (w_Rng cs (hX 6) h_rng I_rng V_rng)]) sz)) 0 0 (va_A (List.flatten [(w_X cs o hX I V), (w_Led cs (hX 1) h_now I_now V_now), (w_Rng cs (hX 6) h_rng I_rng V_rng)]) sz) := by
  refine Met.ofW (cc := cX9_room) (maxL := 2) (ret := (some .int)) (by decide) rfl ?_
  intro p e s m args below meth c s₁ B hml hv
  obtain ⟨ha, hsz, hP, hK, hN, hD0⟩ := hv
  have hx := B.exec
  have hb := B.bytes
  have hr := B.returns
  have hts := atoms_spec (ws := wsX9_room) B.pre
  have hown : s.vm.findClass RX9 = some m.cls := findClass_of_methodNamed B.named
  have hlocks := B.notSynchronized
  have in_X9 : ∀ w ∈ u_ws RX9 TX9 9, w ∈ wsX9_room := fun w h => List.mem_cons_of_mem _ (List.mem_append_left _ (List.mem_append_left _ (List.mem_append_right _ h)))
  have in_X3 : ∀ w ∈ u_ws RX3 TX3 11, w ∈ wsX9_room := fun w h => List.mem_cons_of_mem _ (List.mem_append_left _ (List.mem_append_right _ h))
  have in_X5 : ∀ w ∈ u_ws RX5 TX5 1, w ∈ wsX9_room := fun w h => List.mem_cons_of_mem _ (List.mem_append_right _ h)
  have g_19 := hts (Cond.fieldLink RX9 19 "DaysLent" "now" "LDaysLent$Ledger;") (by decide +kernel)
  have w_has_117 := cwV (R := rm_X_room) (s := s) (args := args) (rm := rm_Led_has) (mc := 0) (ms := 0) 1 hts gX9_room_X3_has rfl rfl rfl (by decide +kernel) ⟨Nat.le_of_ble_eq_true rfl, Nat.le_of_ble_eq_true rfl⟩
  have g_54 := hts (Cond.fieldLink RX9 54 "DaysLent" "rings" "LDaysLent$Rings;") (by decide +kernel)
  have w_leastAmount_201 := cwV (R := rm_X_room) (s := s) (args := args) (rm := rm_Rng_leastAmount) (mc := 0) (ms := 0) 2 hts gX9_room_X5_leastAmount rfl rfl rfl (by decide +kernel) ⟨Nat.le_of_ble_eq_true rfl, Nat.le_of_ble_eq_true rfl⟩
  subst hsz
  have hD := hD0.self (sz := s.heap.size)
  generalize hAe : va_A (List.flatten [(w_X cs o hX I V), (w_Led cs (hX 1) h_now I_now V_now), (w_Rng cs (hX 6) h_rng I_rng V_rng)]) s.heap.size = A at hD ⊢
  have hA : ∀ q : Nat, s.heap.size ≤ q → A q := fun q h => by rw [← hAe]; exact Or.inr h
  have hl := lv_entry ([.ref o, .int x1]) (n := 2) (Nat.le_of_ble_eq_true rfl)
  rw [show entryFrame m args 2 = entryFrame m ([.ref o, .int x1] : List Value).toArray 2 from by rw [ha], lg_entry_eq]
  generalize (lg_sl ([.ref o, .int x1]) ++ List.replicate (2 - (lg_sl ([.ref o, .int x1])).length) Slot.unset).toArray = ls at hl ⊢
  generalize hQ : MQ below (va_Qi (fun r u => (r, u) = out) (fun (u : FV) t => xA D cs A (List.flatten [(w_X cs o hX I V), (w_Led cs (hX 1) h_now I_now V_now), (w_Rng cs (hX 6) h_rng I_rng u)]) t) A) args s 0 0 A = Q
  have hret : ∀ (v : Int32) (Vrng9 : FV) (H : Heap) (locs : List Loc) (pc : Nat) (ls : Array Slot), some (v, Vrng9) = some out → va_P D vwCl (List.flatten [(w_X cs o hX I V), (w_Led cs (hX 1) h_now I_now V_now), (w_Rng cs (hX 6) h_rng I_rng Vrng9)]) H → va_D A (List.flatten [(w_X cs o hX I V), (w_Led cs (hX 1) h_now I_now V_now), (w_Rng cs (hX 6) h_rng I_rng Vrng9)]) → va_S A s.heap H locs → decode cX9_room pc = .ok (.ireturn, 1) → W p l e rm_X_room s m args below meth c H locs 0 0 Q (F0 m pc ls [.int v]) := by
    intro v Vrng9 H locs pc ls hf hP hD hS hd
    rw [← hQ]
    exact W.iret (v := v) hx hb hr (fun t ht hW => ⟨⟨v, Vrng9, rfl, Option.some.inj hf, by show va_P D vwCl (List.flatten [(w_X cs o hX I V), (w_Led cs (hX 1) h_now I_now V_now), (w_Rng cs (hX 6) h_rng I_rng Vrng9)]) t.heap; rw [ht]; exact hP, va_K.moved hW.alike hK, hD⟩, hS.F ht⟩) hS.2.2 hd
  exact v_X_room hf hx hb hml hown hts in_X9 in_X3 in_X5 g_19 w_has_117 g_54 w_leastAmount_201 hA hP hD hK hN hret ls hl
def X_refusalOfWish (f : Nat) (x1 : Int32) (x2 : Int32) (I : FI) (V : FV) (I_now : FI) (V_now : FV) : Option (Int32) := ob1 (Led_has f x1 I_now V_now) (fun zr1 => (if zr1 = 0 then some (-1) else ob1 (X_isLoan f x2) (fun zr2 => (if zr2 = 0 then some (-2) else ob1 (Led_isAlive f x1 I_now V_now) (fun zr3 => (if zr3 = 0 then some (-3) else some 0))))))
abbrev rm_X_refusalOfWish : Room := { frames := 2, cells := 0, slots := 0, locals := 42 }
set_option maxHeartbeats 4000000 in
set_option maxRecDepth 100000 in
theorem v_X_refusalOfWish {l : Launch} {p : Program} {e : Env} {s : State} {m : MethodId} {args : Array Value} {below : List Frame} {meth : Method} {c : Code} {Q : State → Prop} {D : va_G} {cs : Nat → ClassId} {o : Nat} {hX : Nat → Nat} {h_now : Nat → Nat} {I : FI} {V : FV} {I_now : FI} {V_now : FV} {x1 : Int32} {x2 : Int32} {f : Nat} {out : Int32} (hf : X_refusalOfWish f x1 x2 I V I_now V_now = some out) (hx : p.tables.exec = Jvm.exec) (hb : c.code = cX9_refusalOfWish) (hml : c.maxLocals = 3) (hown : s.vm.findClass RX9 = some m.cls) (hts : ∀ w ∈ wsX9_refusalOfWish, w.before args s = true) (in_X9 : ∀ w ∈ u_ws RX9 TX9 9, w ∈ wsX9_refusalOfWish) (in_X3 : ∀ w ∈ u_ws RX3 TX3 11, w ∈ wsX9_refusalOfWish) (g_19 : (Cond.fieldLink RX9 19 "DaysLent" "now" "LDaysLent$Ledger;").before args s = true) (w_has_117 : CallW rm_X_refusalOfWish s args RX9 RX3 117 yX3_has cX3_has 2 (some .boolean) wsX3_has rm_Led_has 0 0 1) (w_isLoan_156 : CallB rm_X_refusalOfWish s args RX9 156 yX9_isLoan cX9_isLoan 1 (some .boolean) wsX9_isLoan rm_X_isLoan 0 0 1 ∧ (Cond.static yX9_isLoan).before args s = true) (w_isAlive_128 : CallW rm_X_refusalOfWish s args RX9 RX3 128 yX3_isAlive cX3_isAlive 2 (some .boolean) wsX3_isAlive rm_Led_isAlive 0 0 1) (hP : va_P D vwCl (List.flatten [(w_X cs o hX I V), (w_Led cs (hX 1) h_now I_now V_now)]) s.heap) (hK : va_K D vwCl (tyA cs) s) (hN : yN s) (hret : ∀ (v : Int32) (pc : Nat) (ls : Array Slot), some v = some out → decode cX9_refusalOfWish pc = .ok (.ireturn, 1) → W p l e rm_X_refusalOfWish s m args below meth c s.heap [] 0 0 Q (F0 m pc ls [.int v])) : ∀ ls : Array Slot, lv_has ls 3 [(0, .ref o), (1, .int x1), (2, .int x2)] → W p l e rm_X_refusalOfWish s m args below meth c s.heap [] 0 0 Q (F0 m 0 ls []) := by
  intro ls hl
  unfold X_refusalOfWish at hf
  refine lv_aload_n hx hb dX9_refusalOfWish_0 rfl (lv_at hl 0 rfl) ?_
  refine va_get (D := D) (ci := 9) (v := .ref (hX 1)) (C := RX9) (T := TX9) (N := 9) hx hb hts in_X9 hown hK hP 0 rfl rfl 1 (by decide) g_19 (fun _ h9 => h9) rfl dX9_refusalOfWish_1 ?_
  refine lv_iload_n hx hb dX9_refusalOfWish_4 rfl (lv_at hl 1 rfl) ?_
  have hPc := subB (bs := [(w_X cs o hX I V), (w_Led cs (hX 1) h_now I_now V_now)]) (ca := [(w_Led cs (hX 1) h_now I_now V_now)]) (ra := [(w_X cs o hX I V)]) [1, 0] (by decide) rfl rfl hP
  obtain ⟨zr1, qr1, hf⟩ := bd1 hf
  refine vp_callSi (va_Run.run (va_runV (As := [.int x1]) (rest := []) ⟨hx, hb, hml, hown, hts⟩ (c_Led_has l D cs (hX 1) h_now I_now V_now x1 f zr1 qr1) w_has_117 ⟨yR_moved, va_recv hK hPc (ci := 3) (q0 := 0) rfl rfl, fun U hU hW => ⟨rfl, by rw [hU]; exact hPc, va_K.moved hW.alike hK, yN_warm hW hN⟩⟩ rfl rfl hl.1 rfl (lv_room (Nat.le_of_ble_eq_true rfl)) dX9_refusalOfWish_5 ⟨Nat.zero_le _, Nat.zero_le _⟩)) (fun r1 er1 => ?_)
  rw [er1]
  refine lv_if_ne (tgt := 13) hx hb dX9_refusalOfWish_8 (by decide) (fun c8 => ?_) (fun c8 => ?_)
  · replace hf := im c8 hf
    refine lv_iload_n hx hb dX9_refusalOfWish_13 rfl (lv_at hl 2 rfl) ?_
    obtain ⟨zr2, qr2, hf⟩ := bd1 hf
    refine vp_callSi (va_Run.run (va_runS (As := [.int x2]) (rest := []) ⟨hx, hb, hml, hown, hts⟩ (c_X_isLoan l x2 f zr2 qr2) w_isLoan_156 ⟨fun a U g mk q => q, fun U hU hW => ⟨rfl, trivial⟩⟩ rfl rfl hl.1 rfl (lv_room (Nat.le_of_ble_eq_true rfl)) dX9_refusalOfWish_14 ⟨Nat.zero_le _, Nat.zero_le _⟩)) (fun r2 er2 => ?_)
    rw [er2]
    refine lv_if_ne (tgt := 23) hx hb dX9_refusalOfWish_17 (by decide) (fun c17 => ?_) (fun c17 => ?_)
    · replace hf := im c17 hf
      refine lv_aload_n hx hb dX9_refusalOfWish_23 rfl (lv_at hl 0 rfl) ?_
      refine va_get (D := D) (ci := 9) (v := .ref (hX 1)) (C := RX9) (T := TX9) (N := 9) hx hb hts in_X9 hown hK hP 0 rfl rfl 1 (by decide) g_19 (fun _ h9 => h9) rfl dX9_refusalOfWish_24 ?_
      refine lv_iload_n hx hb dX9_refusalOfWish_27 rfl (lv_at hl 1 rfl) ?_
      have hPc := subB (bs := [(w_X cs o hX I V), (w_Led cs (hX 1) h_now I_now V_now)]) (ca := [(w_Led cs (hX 1) h_now I_now V_now)]) (ra := [(w_X cs o hX I V)]) [1, 0] (by decide) rfl rfl hP
      obtain ⟨zr3, qr3, hf⟩ := bd1 hf
      refine vp_callSi (va_Run.run (va_runV (As := [.int x1]) (rest := []) ⟨hx, hb, hml, hown, hts⟩ (c_Led_isAlive l D cs (hX 1) h_now I_now V_now x1 f zr3 qr3) w_isAlive_128 ⟨yR_moved, va_recv hK hPc (ci := 3) (q0 := 0) rfl rfl, fun U hU hW => ⟨rfl, by rw [hU]; exact hPc, va_K.moved hW.alike hK, yN_warm hW hN⟩⟩ rfl rfl hl.1 rfl (lv_room (Nat.le_of_ble_eq_true rfl)) dX9_refusalOfWish_28 ⟨Nat.zero_le _, Nat.zero_le _⟩)) (fun r3 er3 => ?_)
      rw [er3]
      refine lv_if_eq (tgt := 38) hx hb dX9_refusalOfWish_31 (by decide) (fun c31 => ?_) (fun c31 => ?_)
      · replace hf := ip c31 hf
        refine lv_bipush (v := (-3)) hx hb dX9_refusalOfWish_38 (by decide) ?_
        exact hret (-3) 40 _ hf dX9_refusalOfWish_40
      · replace hf := im c31 hf
        refine lv_iconst (v := 0) hx hb dX9_refusalOfWish_34 (by decide) ?_
        refine lv_goto (tgt := 40) hx hb dX9_refusalOfWish_35 (by decide) ?_
        exact hret 0 40 _ hf dX9_refusalOfWish_40
    · replace hf := ip c17 hf
      refine lv_bipush (v := (-2)) hx hb dX9_refusalOfWish_20 (by decide) ?_
      exact hret (-2) 22 _ hf dX9_refusalOfWish_22
  · replace hf := ip c8 hf
    refine lv_iconst (v := (-1)) hx hb dX9_refusalOfWish_11 (by decide) ?_
    exact hret (-1) 12 _ hf dX9_refusalOfWish_12
set_option maxHeartbeats 4000000 in
set_option maxRecDepth 100000 in
theorem c_X_refusalOfWish (l : Launch) (D : va_G) (cs : Nat → ClassId) (o : Nat) (hX : Nat → Nat) (h_now : Nat → Nat) (I : FI) (V : FV) (I_now : FI) (V_now : FV) (x1 : Int32) (x2 : Int32) (f : Nat) (out : Int32) (hf : X_refusalOfWish f x1 x2 I V I_now V_now = some out) : Met l yX9_refusalOfWish wsX9_refusalOfWish rm_X_refusalOfWish (va_Pc [.ref o, .int x1, .int x2] (yR D cs (List.flatten [(w_X cs o hX I V), (w_Led cs (hX 1) h_now I_now V_now)]))) (vp_Si (fun r => r = out)) 0 0 (fun _ => False) := by
  refine Met.ofW (cc := cX9_refusalOfWish) (maxL := 3) (ret := (some .int)) (by decide) rfl ?_
  intro p e s m args below meth c s₁ B hml hv
  obtain ⟨ha, hP, hK, hN⟩ := hv
  have hx := B.exec
  have hb := B.bytes
  have hr := B.returns
  have hts := atoms_spec (ws := wsX9_refusalOfWish) B.pre
  have hown : s.vm.findClass RX9 = some m.cls := findClass_of_methodNamed B.named
  have hlocks := B.notSynchronized
  have in_X9 : ∀ w ∈ u_ws RX9 TX9 9, w ∈ wsX9_refusalOfWish := fun w h => List.mem_cons_of_mem _ (List.mem_append_left _ (List.mem_append_right _ h))
  have in_X3 : ∀ w ∈ u_ws RX3 TX3 11, w ∈ wsX9_refusalOfWish := fun w h => List.mem_cons_of_mem _ (List.mem_append_right _ h)
  have g_19 := hts (Cond.fieldLink RX9 19 "DaysLent" "now" "LDaysLent$Ledger;") (by decide +kernel)
  have w_has_117 := cwV (R := rm_X_refusalOfWish) (s := s) (args := args) (rm := rm_Led_has) (mc := 0) (ms := 0) 1 hts gX9_refusalOfWish_X3_has rfl rfl rfl (by decide +kernel) ⟨Nat.le_of_ble_eq_true rfl, Nat.le_of_ble_eq_true rfl⟩
  have w_isLoan_156 := va_cwS (R := rm_X_refusalOfWish) (s := s) (args := args) (rm := rm_X_isLoan) (mc := 0) (ms := 0) 1 hts gX9_refusalOfWish_X9_isLoan rfl rfl rfl (by decide +kernel) ⟨Nat.le_of_ble_eq_true rfl, Nat.le_of_ble_eq_true rfl⟩
  have w_isAlive_128 := cwV (R := rm_X_refusalOfWish) (s := s) (args := args) (rm := rm_Led_isAlive) (mc := 0) (ms := 0) 1 hts gX9_refusalOfWish_X3_isAlive rfl rfl rfl (by decide +kernel) ⟨Nat.le_of_ble_eq_true rfl, Nat.le_of_ble_eq_true rfl⟩
  have hl := lv_entry ([.ref o, .int x1, .int x2]) (n := 3) (Nat.le_of_ble_eq_true rfl)
  rw [show entryFrame m args 3 = entryFrame m ([.ref o, .int x1, .int x2] : List Value).toArray 3 from by rw [ha], lg_entry_eq]
  generalize (lg_sl ([.ref o, .int x1, .int x2]) ++ List.replicate (3 - (lg_sl ([.ref o, .int x1, .int x2])).length) Slot.unset).toArray = ls at hl ⊢
  generalize hQ : MQ below (vp_Si (fun r => r = out)) args s 0 0 (fun _ => False) = Q
  have hret : ∀ (v : Int32) (pc : Nat) (ls : Array Slot), some v = some out → decode cX9_refusalOfWish pc = .ok (.ireturn, 1) → W p l e rm_X_refusalOfWish s m args below meth c s.heap [] 0 0 Q (F0 m pc ls [.int v]) := by
    intro v pc ls hf hd
    rw [← hQ]
    exact W.iret (v := v) hx hb hr (fun t ht hW => ⟨v, rfl, Option.some.inj hf, ht⟩) (fun q h => by cases h) hd
  exact v_X_refusalOfWish hf hx hb hml hown hts in_X9 in_X3 g_19 w_has_117 w_isLoan_156 w_isAlive_128 hP hK hN hret ls hl
def X_wish (f : Nat) (x1 : Int32) (x2 : Int32) (I : FI) (V : FV) (I_now : FI) (V_now : FV) (I_lnd : FI) (V_lnd : FV) : Option (Int32 × FV) := ob1 (X_refusalOfWish f x1 x2 I V I_now V_now) (fun zr1 => (if zr1 = 0 then ob1 (Lnd_weigh f x1 x2 I_lnd V_lnd I_now V_now) (fun V3 => ob1 (Lnd_cheapest f x2 I_lnd V3) (fun zr4 => some (zr4, V3))) else some (zr1, V_lnd)))
abbrev rm_X_wish : Room := { frames := 3, cells := 0, slots := 0, locals := 72 }
set_option maxHeartbeats 4000000 in
set_option maxRecDepth 100000 in
theorem v_X_wish {l : Launch} {p : Program} {e : Env} {s : State} {m : MethodId} {args : Array Value} {below : List Frame} {meth : Method} {c : Code} {Q : State → Prop} {D : va_G} {cs : Nat → ClassId} {o : Nat} {hX : Nat → Nat} {h_now : Nat → Nat} {h_lnd : Nat → Nat} {A : Nat → Prop} {I : FI} {V : FV} {I_now : FI} {V_now : FV} {I_lnd : FI} {V_lnd : FV} {x1 : Int32} {x2 : Int32} {f : Nat} {out : Int32 × FV} (hf : X_wish f x1 x2 I V I_now V_now I_lnd V_lnd = some out) (hx : p.tables.exec = Jvm.exec) (hb : c.code = cX9_wish) (hml : c.maxLocals = 4) (hown : s.vm.findClass RX9 = some m.cls) (hts : ∀ w ∈ wsX9_wish, w.before args s = true) (in_X9 : ∀ w ∈ u_ws RX9 TX9 9, w ∈ wsX9_wish) (in_X3 : ∀ w ∈ u_ws RX3 TX3 11, w ∈ wsX9_wish) (in_X4 : ∀ w ∈ u_ws RX4 TX4 2, w ∈ wsX9_wish) (w_refusalOfWish_204 : CallW rm_X_wish s args RX9 RX9 204 yX9_refusalOfWish cX9_refusalOfWish 3 (some .int) wsX9_refusalOfWish rm_X_refusalOfWish 0 0 2) (g_61 : (Cond.fieldLink RX9 61 "DaysLent" "lenders" "LDaysLent$Lenders;").before args s = true) (g_19 : (Cond.fieldLink RX9 19 "DaysLent" "now" "LDaysLent$Ledger;").before args s = true) (w_weigh_207 : CallW rm_X_wish s args RX9 RX4 207 yX4_weigh cX4_weigh 7 none wsX4_weigh rm_Lnd_weigh 0 0 3) (w_cheapest_211 : CallW rm_X_wish s args RX9 RX4 211 yX4_cheapest cX4_cheapest 2 (some .int) wsX4_cheapest rm_Lnd_cheapest 0 0 1) (hA : ∀ q : Nat, s.heap.size ≤ q → A q) (hP : va_P D vwCl (List.flatten [(w_X cs o hX I V), (w_Led cs (hX 1) h_now I_now V_now), (w_Lnd cs (hX 7) h_lnd I_lnd V_lnd)]) s.heap) (hD : va_D A (List.flatten [(w_X cs o hX I V), (w_Led cs (hX 1) h_now I_now V_now), (w_Lnd cs (hX 7) h_lnd I_lnd V_lnd)])) (hK : va_K D vwCl (tyA cs) s) (hN : yN s) (hret : ∀ (v : Int32) (Vlnd9 : FV) (H : Heap) (locs : List Loc) (pc : Nat) (ls : Array Slot), some (v, Vlnd9) = some out → va_P D vwCl (List.flatten [(w_X cs o hX I V), (w_Led cs (hX 1) h_now I_now V_now), (w_Lnd cs (hX 7) h_lnd I_lnd Vlnd9)]) H → va_D A (List.flatten [(w_X cs o hX I V), (w_Led cs (hX 1) h_now I_now V_now), (w_Lnd cs (hX 7) h_lnd I_lnd Vlnd9)]) → va_S A s.heap H locs → decode cX9_wish pc = .ok (.ireturn, 1) → W p l e rm_X_wish s m args below meth c H locs 0 0 Q (F0 m pc ls [.int v])) : ∀ ls : Array Slot, lv_has ls 4 [(0, .ref o), (1, .int x1), (2, .int x2)] → W p l e rm_X_wish s m args below meth c s.heap [] 0 0 Q (F0 m 0 ls []) := by
  intro ls hl
  have hS : va_S A s.heap s.heap [] := va_S.rf
  unfold X_wish at hf
  refine lv_aload_n hx hb dX9_wish_0 rfl (lv_at hl 0 rfl) ?_
  refine lv_iload_n hx hb dX9_wish_1 rfl (lv_at hl 1 rfl) ?_
  refine lv_iload_n hx hb dX9_wish_2 rfl (lv_at hl 2 rfl) ?_
  have hPc := subB (bs := [(w_X cs o hX I V), (w_Led cs (hX 1) h_now I_now V_now), (w_Lnd cs (hX 7) h_lnd I_lnd V_lnd)]) (ca := [(w_X cs o hX I V), (w_Led cs (hX 1) h_now I_now V_now)]) (ra := [(w_Lnd cs (hX 7) h_lnd I_lnd V_lnd)]) [0, 1, 2] (by decide) rfl rfl hP
  obtain ⟨zr1, qr1, hf⟩ := bd1 hf
  refine vp_callSi (va_Run.run (va_runV (As := [.int x1, .int x2]) (rest := []) ⟨hx, hb, hml, hown, hts⟩ (c_X_refusalOfWish l D cs o hX h_now I V I_now V_now x1 x2 f zr1 qr1) w_refusalOfWish_204 ⟨yR_moved, va_recv hK hPc (ci := 9) (q0 := 0) rfl rfl, fun U hU hW => ⟨rfl, by rw [hU]; exact hPc, va_K.moved hW.alike hK, yN_warm hW hN⟩⟩ rfl rfl hl.1 rfl (lv_room (Nat.le_of_ble_eq_true rfl)) dX9_wish_3 ⟨Nat.zero_le _, Nat.zero_le _⟩)) (fun r1 er1 => ?_)
  rw [er1]
  refine lv_istore_n (lv' := [(3, .int zr1), (0, .ref o), (1, .int x1), (2, .int x2)]) hx hb dX9_wish_6 rfl hl (by decide) rfl (fun ls hl => ?_)
  refine lv_iload_n hx hb dX9_wish_7 rfl (lv_at hl 0 rfl) ?_
  refine lv_if_eq (tgt := 13) hx hb dX9_wish_8 (by decide) (fun c8 => ?_) (fun c8 => ?_)
  · replace hf := ip c8 hf
    refine lv_aload_n hx hb dX9_wish_13 rfl (lv_at hl 1 rfl) ?_
    refine va_get (D := D) (ci := 9) (v := .ref (hX 7)) (C := RX9) (T := TX9) (N := 9) hx hb hts in_X9 hown hK hP 0 rfl rfl 7 (by decide) g_61 (fun _ h9 => h9) rfl dX9_wish_14 ?_
    refine lv_aload_n hx hb dX9_wish_17 rfl (lv_at hl 1 rfl) ?_
    refine va_get (D := D) (ci := 9) (v := .ref (hX 1)) (C := RX9) (T := TX9) (N := 9) hx hb hts in_X9 hown hK hP 0 rfl rfl 1 (by decide) g_19 (fun _ h9 => h9) rfl dX9_wish_18 ?_
    refine lv_iload_n hx hb dX9_wish_21 rfl (lv_at hl 2 rfl) ?_
    refine lv_iload_n hx hb dX9_wish_22 rfl (lv_at hl 3 rfl) ?_
    have hPc := subB (bs := [(w_X cs o hX I V), (w_Led cs (hX 1) h_now I_now V_now), (w_Lnd cs (hX 7) h_lnd I_lnd V_lnd)]) (ca := [(w_Lnd cs (hX 7) h_lnd I_lnd V_lnd), (w_Led cs (hX 1) h_now I_now V_now)]) (ra := [(w_X cs o hX I V)]) [2, 1, 0] (by decide) rfl rfl hP
    obtain ⟨V3, qr2, hf⟩ := bd1 hf
    have hDc := subD (bs := [(w_X cs o hX I V), (w_Led cs (hX 1) h_now I_now V_now), (w_Lnd cs (hX 7) h_lnd I_lnd V_lnd)]) (ca := [(w_Lnd cs (hX 7) h_lnd I_lnd V_lnd), (w_Led cs (hX 1) h_now I_now V_now)]) (ra := [(w_X cs o hX I V)]) [2, 1, 0] (by decide) rfl rfl hD
    have hFc := xfree hDc hS hA
    refine va_callv (va_runV (As := [.ref (hX 1), .int x1, .int x2]) (rest := []) ⟨hx, hb, hml, hown, hts⟩ (c_Lnd_weigh l D cs (hX 7) h_lnd (hX 1) h_now _ I_lnd V_lnd I_now V_now x1 x2 f _ qr2) w_weigh_207 ⟨yP_moved, va_recv hK hPc (ci := 4) (q0 := 0) rfl rfl, fun U hU hW => ⟨rfl, by rw [hU], by rw [hU]; exact hPc, va_K.moved hW.alike hK, yN_warm hW hN, hDc.weaken (fun _ _ _ _ => trivial)⟩⟩ rfl rfl hl.1 rfl (lv_room (Nat.le_of_ble_eq_true rfl)) dX9_wish_23 ⟨Nat.zero_le _, Nat.zero_le _⟩) hS (fun q _ h9 => hFc q h9) hFc (fun u t H1 locs ht hvm hw hB hz1 hk1 hS => ?_)
    rw [hw] at hB
    obtain ⟨hP1, hK1, hD1⟩ := hB
    rw [ht] at hP1
    obtain ⟨hP, hD⟩ := joinB (bs := [(w_X cs o hX I V), (w_Led cs (hX 1) h_now I_now V_now), (w_Lnd cs (hX 7) h_lnd I_lnd V_lnd)]) (ca := [(w_Lnd cs (hX 7) h_lnd I_lnd V_lnd), (w_Led cs (hX 1) h_now I_now V_now)]) (ra := [(w_X cs o hX I V)]) [2, 1, 0] (by decide) rfl rfl hP hD hk1 hFc (cb := [(w_Lnd cs (hX 7) h_lnd I_lnd V3), (w_Led cs (hX 1) h_now I_now V_now)]) hP1 hD1 (be := [(w_X cs o hX I V), (w_Led cs (hX 1) h_now I_now V_now), (w_Lnd cs (hX 7) h_lnd I_lnd V3)]) [2, 1, 0] (by decide) rfl rfl
    refine lv_aload_n hx hb dX9_wish_26 rfl (lv_at hl 1 rfl) ?_
    refine va_get (D := D) (ci := 9) (v := .ref (hX 7)) (C := RX9) (T := TX9) (N := 9) hx hb hts in_X9 hown hK hP 0 rfl rfl 7 (by decide) g_61 (fun _ h9 => h9) rfl dX9_wish_27 ?_
    refine lv_iload_n hx hb dX9_wish_30 rfl (lv_at hl 3 rfl) ?_
    have hPc := subB (bs := [(w_X cs o hX I V), (w_Led cs (hX 1) h_now I_now V_now), (w_Lnd cs (hX 7) h_lnd I_lnd V3)]) (ca := [(w_Lnd cs (hX 7) h_lnd I_lnd V3)]) (ra := [(w_X cs o hX I V), (w_Led cs (hX 1) h_now I_now V_now)]) [2, 0, 1] (by decide) rfl rfl hP
    obtain ⟨zr4, qr4, hf⟩ := bd1 hf
    refine vp_callSi (va_Run.run (va_runV (As := [.int x2]) (rest := []) ⟨hx, hb, hml, hown, hts⟩ (c_Lnd_cheapest l D cs (hX 7) h_lnd I_lnd V3 x2 f zr4 qr4) w_cheapest_211 ⟨yR_moved, va_recv hK hPc (ci := 4) (q0 := 0) rfl rfl, fun U hU hW => ⟨rfl, by rw [hU]; exact hPc, va_K.moved hW.alike hK, yN_warm hW hN⟩⟩ rfl rfl hl.1 rfl (lv_room (Nat.le_of_ble_eq_true rfl)) dX9_wish_31 ⟨Nat.zero_le _, Nat.zero_le _⟩)) (fun r4 er4 => ?_)
    rw [er4]
    exact hret zr4 V3 _ _ 34 _ hf hP hD hS dX9_wish_34
  · replace hf := im c8 hf
    refine lv_iload_n hx hb dX9_wish_11 rfl (lv_at hl 0 rfl) ?_
    exact hret zr1 V_lnd _ _ 12 _ hf hP hD hS dX9_wish_12
set_option maxHeartbeats 4000000 in
set_option maxRecDepth 100000 in
theorem c_X_wish (l : Launch) (D : va_G) (cs : Nat → ClassId) (o : Nat) (hX : Nat → Nat) (h_now : Nat → Nat) (h_lnd : Nat → Nat) (sz : Nat) (I : FI) (V : FV) (I_now : FI) (V_now : FV) (I_lnd : FI) (V_lnd : FV) (x1 : Int32) (x2 : Int32) (f : Nat) (out : Int32 × FV) (hf : X_wish f x1 x2 I V I_now V_now I_lnd V_lnd = some out) : Met l yX9_wish wsX9_wish rm_X_wish (va_Pc [.ref o, .int x1, .int x2] (yP D cs (List.flatten [(w_X cs o hX I V), (w_Led cs (hX 1) h_now I_now V_now), (w_Lnd cs (hX 7) h_lnd I_lnd V_lnd)]) sz)) (va_Qi (fun r u => (r, u) = out) (fun (u : FV) t => xA D cs (va_A (List.flatten [(w_X cs o hX I V), (w_Led cs (hX 1) h_now I_now V_now), (w_Lnd cs (hX 7) h_lnd I_lnd V_lnd)]) sz) (List.flatten [(w_X cs o hX I V), (w_Led cs (hX 1) h_now I_now V_now), (w_Lnd cs (hX 7) h_lnd I_lnd u)]) t) (va_A (List.flatten [(w_X cs o hX I V), (w_Led cs (hX 1) h_now I_now V_now), (w_Lnd cs (hX 7) h_lnd I_lnd V_lnd)]) sz)) 0 0 (va_A (List.flatten [(w_X cs o hX I V), (w_Led cs (hX 1) h_now I_now V_now), (w_Lnd cs (hX 7) h_lnd I_lnd V_lnd)]) sz) := by
  refine Met.ofW (cc := cX9_wish) (maxL := 4) (ret := (some .int)) (by decide) rfl ?_
  intro p e s m args below meth c s₁ B hml hv
  obtain ⟨ha, hsz, hP, hK, hN, hD0⟩ := hv
  have hx := B.exec
  have hb := B.bytes
  have hr := B.returns
  have hts := atoms_spec (ws := wsX9_wish) B.pre
  have hown : s.vm.findClass RX9 = some m.cls := findClass_of_methodNamed B.named
  have hlocks := B.notSynchronized
  have in_X9 : ∀ w ∈ u_ws RX9 TX9 9, w ∈ wsX9_wish := fun w h => List.mem_cons_of_mem _ (List.mem_append_left _ (List.mem_append_left _ (List.mem_append_right _ h)))
  have in_X3 : ∀ w ∈ u_ws RX3 TX3 11, w ∈ wsX9_wish := fun w h => List.mem_cons_of_mem _ (List.mem_append_left _ (List.mem_append_right _ h))
  have in_X4 : ∀ w ∈ u_ws RX4 TX4 2, w ∈ wsX9_wish := fun w h => List.mem_cons_of_mem _ (List.mem_append_right _ h)
  have w_refusalOfWish_204 := cwV (R := rm_X_wish) (s := s) (args := args) (rm := rm_X_refusalOfWish) (mc := 0) (ms := 0) 2 hts gX9_wish_X9_refusalOfWish rfl rfl rfl (by decide +kernel) ⟨Nat.le_of_ble_eq_true rfl, Nat.le_of_ble_eq_true rfl⟩
  have g_61 := hts (Cond.fieldLink RX9 61 "DaysLent" "lenders" "LDaysLent$Lenders;") (by decide +kernel)
  have g_19 := hts (Cond.fieldLink RX9 19 "DaysLent" "now" "LDaysLent$Ledger;") (by decide +kernel)
  have w_weigh_207 := cwV (R := rm_X_wish) (s := s) (args := args) (rm := rm_Lnd_weigh) (mc := 0) (ms := 0) 3 hts gX9_wish_X4_weigh rfl rfl rfl (by decide +kernel) ⟨Nat.le_of_ble_eq_true rfl, Nat.le_of_ble_eq_true rfl⟩
  have w_cheapest_211 := cwV (R := rm_X_wish) (s := s) (args := args) (rm := rm_Lnd_cheapest) (mc := 0) (ms := 0) 1 hts gX9_wish_X4_cheapest rfl rfl rfl (by decide +kernel) ⟨Nat.le_of_ble_eq_true rfl, Nat.le_of_ble_eq_true rfl⟩
  subst hsz
  have hD := hD0.self (sz := s.heap.size)
  generalize hAe : va_A (List.flatten [(w_X cs o hX I V), (w_Led cs (hX 1) h_now I_now V_now), (w_Lnd cs (hX 7) h_lnd I_lnd V_lnd)]) s.heap.size = A at hD ⊢
  have hA : ∀ q : Nat, s.heap.size ≤ q → A q := fun q h => by rw [← hAe]; exact Or.inr h
  have hl := lv_entry ([.ref o, .int x1, .int x2]) (n := 4) (Nat.le_of_ble_eq_true rfl)
  rw [show entryFrame m args 4 = entryFrame m ([.ref o, .int x1, .int x2] : List Value).toArray 4 from by rw [ha], lg_entry_eq]
  generalize (lg_sl ([.ref o, .int x1, .int x2]) ++ List.replicate (4 - (lg_sl ([.ref o, .int x1, .int x2])).length) Slot.unset).toArray = ls at hl ⊢
  generalize hQ : MQ below (va_Qi (fun r u => (r, u) = out) (fun (u : FV) t => xA D cs A (List.flatten [(w_X cs o hX I V), (w_Led cs (hX 1) h_now I_now V_now), (w_Lnd cs (hX 7) h_lnd I_lnd u)]) t) A) args s 0 0 A = Q
  have hret : ∀ (v : Int32) (Vlnd9 : FV) (H : Heap) (locs : List Loc) (pc : Nat) (ls : Array Slot), some (v, Vlnd9) = some out → va_P D vwCl (List.flatten [(w_X cs o hX I V), (w_Led cs (hX 1) h_now I_now V_now), (w_Lnd cs (hX 7) h_lnd I_lnd Vlnd9)]) H → va_D A (List.flatten [(w_X cs o hX I V), (w_Led cs (hX 1) h_now I_now V_now), (w_Lnd cs (hX 7) h_lnd I_lnd Vlnd9)]) → va_S A s.heap H locs → decode cX9_wish pc = .ok (.ireturn, 1) → W p l e rm_X_wish s m args below meth c H locs 0 0 Q (F0 m pc ls [.int v]) := by
    intro v Vlnd9 H locs pc ls hf hP hD hS hd
    rw [← hQ]
    exact W.iret (v := v) hx hb hr (fun t ht hW => ⟨⟨v, Vlnd9, rfl, Option.some.inj hf, by show va_P D vwCl (List.flatten [(w_X cs o hX I V), (w_Led cs (hX 1) h_now I_now V_now), (w_Lnd cs (hX 7) h_lnd I_lnd Vlnd9)]) t.heap; rw [ht]; exact hP, va_K.moved hW.alike hK, hD⟩, hS.F ht⟩) hS.2.2 hd
  exact v_X_wish hf hx hb hml hown hts in_X9 in_X3 in_X4 w_refusalOfWish_204 g_61 g_19 w_weigh_207 w_cheapest_211 hA hP hD hK hN hret ls hl
def X_wishBy (f : Nat) (x1 : Int32) (x2 : Int32) (x3 : Int32) (I : FI) (V : FV) (I_now : FI) (V_now : FV) (I_lnd : FI) (V_lnd : FV) : Option (Int32 × FV) := ob1 (Led_has f x3 I_now V_now) (fun zr1 => (if zr1 = 0 then some ((-1), V_lnd) else ob1 (X_refusalOfWish f x1 x2 I V I_now V_now) (fun zr2 => (if zr2 = 0 then ob1 (Lnd_weigh f x1 x2 I_lnd V_lnd I_now V_now) (fun V4 => ob1 (Lnd_lentBy f x3 x2 I_lnd V4 I_now V_now) (fun zr5 => some (zr5, V4))) else some (zr2, V_lnd)))))
abbrev rm_X_wishBy : Room := { frames := 3, cells := 0, slots := 0, locals := 72 }
set_option maxHeartbeats 4000000 in
set_option maxRecDepth 100000 in
theorem v_X_wishBy {l : Launch} {p : Program} {e : Env} {s : State} {m : MethodId} {args : Array Value} {below : List Frame} {meth : Method} {c : Code} {Q : State → Prop} {D : va_G} {cs : Nat → ClassId} {o : Nat} {hX : Nat → Nat} {h_now : Nat → Nat} {h_lnd : Nat → Nat} {A : Nat → Prop} {I : FI} {V : FV} {I_now : FI} {V_now : FV} {I_lnd : FI} {V_lnd : FV} {x1 : Int32} {x2 : Int32} {x3 : Int32} {f : Nat} {out : Int32 × FV} (hf : X_wishBy f x1 x2 x3 I V I_now V_now I_lnd V_lnd = some out) (hx : p.tables.exec = Jvm.exec) (hb : c.code = cX9_wishBy) (hml : c.maxLocals = 5) (hown : s.vm.findClass RX9 = some m.cls) (hts : ∀ w ∈ wsX9_wishBy, w.before args s = true) (in_X9 : ∀ w ∈ u_ws RX9 TX9 9, w ∈ wsX9_wishBy) (in_X3 : ∀ w ∈ u_ws RX3 TX3 11, w ∈ wsX9_wishBy) (in_X4 : ∀ w ∈ u_ws RX4 TX4 2, w ∈ wsX9_wishBy) (g_19 : (Cond.fieldLink RX9 19 "DaysLent" "now" "LDaysLent$Ledger;").before args s = true) (w_has_117 : CallW rm_X_wishBy s args RX9 RX3 117 yX3_has cX3_has 2 (some .boolean) wsX3_has rm_Led_has 0 0 1) (w_refusalOfWish_204 : CallW rm_X_wishBy s args RX9 RX9 204 yX9_refusalOfWish cX9_refusalOfWish 3 (some .int) wsX9_refusalOfWish rm_X_refusalOfWish 0 0 2) (g_61 : (Cond.fieldLink RX9 61 "DaysLent" "lenders" "LDaysLent$Lenders;").before args s = true) (w_weigh_207 : CallW rm_X_wishBy s args RX9 RX4 207 yX4_weigh cX4_weigh 7 none wsX4_weigh rm_Lnd_weigh 0 0 3) (w_lentBy_214 : CallW rm_X_wishBy s args RX9 RX4 214 yX4_lentBy cX4_lentBy 7 (some .int) wsX4_lentBy rm_Lnd_lentBy 0 0 3) (hA : ∀ q : Nat, s.heap.size ≤ q → A q) (hP : va_P D vwCl (List.flatten [(w_X cs o hX I V), (w_Led cs (hX 1) h_now I_now V_now), (w_Lnd cs (hX 7) h_lnd I_lnd V_lnd)]) s.heap) (hD : va_D A (List.flatten [(w_X cs o hX I V), (w_Led cs (hX 1) h_now I_now V_now), (w_Lnd cs (hX 7) h_lnd I_lnd V_lnd)])) (hK : va_K D vwCl (tyA cs) s) (hN : yN s) (hret : ∀ (v : Int32) (Vlnd9 : FV) (H : Heap) (locs : List Loc) (pc : Nat) (ls : Array Slot), some (v, Vlnd9) = some out → va_P D vwCl (List.flatten [(w_X cs o hX I V), (w_Led cs (hX 1) h_now I_now V_now), (w_Lnd cs (hX 7) h_lnd I_lnd Vlnd9)]) H → va_D A (List.flatten [(w_X cs o hX I V), (w_Led cs (hX 1) h_now I_now V_now), (w_Lnd cs (hX 7) h_lnd I_lnd Vlnd9)]) → va_S A s.heap H locs → decode cX9_wishBy pc = .ok (.ireturn, 1) → W p l e rm_X_wishBy s m args below meth c H locs 0 0 Q (F0 m pc ls [.int v])) : ∀ ls : Array Slot, lv_has ls 5 [(0, .ref o), (1, .int x1), (2, .int x2), (3, .int x3)] → W p l e rm_X_wishBy s m args below meth c s.heap [] 0 0 Q (F0 m 0 ls []) := by
  intro ls hl
  have hS : va_S A s.heap s.heap [] := va_S.rf
  unfold X_wishBy at hf
  refine lv_aload_n hx hb dX9_wishBy_0 rfl (lv_at hl 0 rfl) ?_
  refine va_get (D := D) (ci := 9) (v := .ref (hX 1)) (C := RX9) (T := TX9) (N := 9) hx hb hts in_X9 hown hK hP 0 rfl rfl 1 (by decide) g_19 (fun _ h9 => h9) rfl dX9_wishBy_1 ?_
  refine lv_iload_n hx hb dX9_wishBy_4 rfl (lv_at hl 3 rfl) ?_
  have hPc := subB (bs := [(w_X cs o hX I V), (w_Led cs (hX 1) h_now I_now V_now), (w_Lnd cs (hX 7) h_lnd I_lnd V_lnd)]) (ca := [(w_Led cs (hX 1) h_now I_now V_now)]) (ra := [(w_X cs o hX I V), (w_Lnd cs (hX 7) h_lnd I_lnd V_lnd)]) [1, 0, 2] (by decide) rfl rfl hP
  obtain ⟨zr1, qr1, hf⟩ := bd1 hf
  refine vp_callSi (va_Run.run (va_runV (As := [.int x3]) (rest := []) ⟨hx, hb, hml, hown, hts⟩ (c_Led_has l D cs (hX 1) h_now I_now V_now x3 f zr1 qr1) w_has_117 ⟨yR_moved, va_recv hK hPc (ci := 3) (q0 := 0) rfl rfl, fun U hU hW => ⟨rfl, by rw [hU]; exact hPc, va_K.moved hW.alike hK, yN_warm hW hN⟩⟩ rfl rfl hl.1 rfl (lv_room (Nat.le_of_ble_eq_true rfl)) dX9_wishBy_5 ⟨Nat.zero_le _, Nat.zero_le _⟩)) (fun r1 er1 => ?_)
  rw [er1]
  refine lv_if_ne (tgt := 13) hx hb dX9_wishBy_8 (by decide) (fun c8 => ?_) (fun c8 => ?_)
  · replace hf := im c8 hf
    refine lv_aload_n hx hb dX9_wishBy_13 rfl (lv_at hl 0 rfl) ?_
    refine lv_iload_n hx hb dX9_wishBy_14 rfl (lv_at hl 1 rfl) ?_
    refine lv_iload_n hx hb dX9_wishBy_15 rfl (lv_at hl 2 rfl) ?_
    have hPc := subB (bs := [(w_X cs o hX I V), (w_Led cs (hX 1) h_now I_now V_now), (w_Lnd cs (hX 7) h_lnd I_lnd V_lnd)]) (ca := [(w_X cs o hX I V), (w_Led cs (hX 1) h_now I_now V_now)]) (ra := [(w_Lnd cs (hX 7) h_lnd I_lnd V_lnd)]) [0, 1, 2] (by decide) rfl rfl hP
    obtain ⟨zr2, qr2, hf⟩ := bd1 hf
    refine vp_callSi (va_Run.run (va_runV (As := [.int x1, .int x2]) (rest := []) ⟨hx, hb, hml, hown, hts⟩ (c_X_refusalOfWish l D cs o hX h_now I V I_now V_now x1 x2 f zr2 qr2) w_refusalOfWish_204 ⟨yR_moved, va_recv hK hPc (ci := 9) (q0 := 0) rfl rfl, fun U hU hW => ⟨rfl, by rw [hU]; exact hPc, va_K.moved hW.alike hK, yN_warm hW hN⟩⟩ rfl rfl hl.1 rfl (lv_room (Nat.le_of_ble_eq_true rfl)) dX9_wishBy_16 ⟨Nat.zero_le _, Nat.zero_le _⟩)) (fun r2 er2 => ?_)
    rw [er2]
    refine lv_istore (lv' := [(4, .int zr2), (0, .ref o), (1, .int x1), (2, .int x2), (3, .int x3)]) hx hb dX9_wishBy_19 hl (by decide) rfl (fun ls hl => ?_)
    refine lv_iload hx hb dX9_wishBy_21 (lv_at hl 0 rfl) ?_
    refine lv_if_eq (tgt := 29) hx hb dX9_wishBy_23 (by decide) (fun c23 => ?_) (fun c23 => ?_)
    · replace hf := ip c23 hf
      refine lv_aload_n hx hb dX9_wishBy_29 rfl (lv_at hl 1 rfl) ?_
      refine va_get (D := D) (ci := 9) (v := .ref (hX 7)) (C := RX9) (T := TX9) (N := 9) hx hb hts in_X9 hown hK hP 0 rfl rfl 7 (by decide) g_61 (fun _ h9 => h9) rfl dX9_wishBy_30 ?_
      refine lv_aload_n hx hb dX9_wishBy_33 rfl (lv_at hl 1 rfl) ?_
      refine va_get (D := D) (ci := 9) (v := .ref (hX 1)) (C := RX9) (T := TX9) (N := 9) hx hb hts in_X9 hown hK hP 0 rfl rfl 1 (by decide) g_19 (fun _ h9 => h9) rfl dX9_wishBy_34 ?_
      refine lv_iload_n hx hb dX9_wishBy_37 rfl (lv_at hl 2 rfl) ?_
      refine lv_iload_n hx hb dX9_wishBy_38 rfl (lv_at hl 3 rfl) ?_
      have hPc := subB (bs := [(w_X cs o hX I V), (w_Led cs (hX 1) h_now I_now V_now), (w_Lnd cs (hX 7) h_lnd I_lnd V_lnd)]) (ca := [(w_Lnd cs (hX 7) h_lnd I_lnd V_lnd), (w_Led cs (hX 1) h_now I_now V_now)]) (ra := [(w_X cs o hX I V)]) [2, 1, 0] (by decide) rfl rfl hP
      obtain ⟨V4, qr3, hf⟩ := bd1 hf
      have hDc := subD (bs := [(w_X cs o hX I V), (w_Led cs (hX 1) h_now I_now V_now), (w_Lnd cs (hX 7) h_lnd I_lnd V_lnd)]) (ca := [(w_Lnd cs (hX 7) h_lnd I_lnd V_lnd), (w_Led cs (hX 1) h_now I_now V_now)]) (ra := [(w_X cs o hX I V)]) [2, 1, 0] (by decide) rfl rfl hD
      have hFc := xfree hDc hS hA
      refine va_callv (va_runV (As := [.ref (hX 1), .int x1, .int x2]) (rest := []) ⟨hx, hb, hml, hown, hts⟩ (c_Lnd_weigh l D cs (hX 7) h_lnd (hX 1) h_now _ I_lnd V_lnd I_now V_now x1 x2 f _ qr3) w_weigh_207 ⟨yP_moved, va_recv hK hPc (ci := 4) (q0 := 0) rfl rfl, fun U hU hW => ⟨rfl, by rw [hU], by rw [hU]; exact hPc, va_K.moved hW.alike hK, yN_warm hW hN, hDc.weaken (fun _ _ _ _ => trivial)⟩⟩ rfl rfl hl.1 rfl (lv_room (Nat.le_of_ble_eq_true rfl)) dX9_wishBy_39 ⟨Nat.zero_le _, Nat.zero_le _⟩) hS (fun q _ h9 => hFc q h9) hFc (fun u t H1 locs ht hvm hw hB hz1 hk1 hS => ?_)
      rw [hw] at hB
      obtain ⟨hP1, hK1, hD1⟩ := hB
      rw [ht] at hP1
      obtain ⟨hP, hD⟩ := joinB (bs := [(w_X cs o hX I V), (w_Led cs (hX 1) h_now I_now V_now), (w_Lnd cs (hX 7) h_lnd I_lnd V_lnd)]) (ca := [(w_Lnd cs (hX 7) h_lnd I_lnd V_lnd), (w_Led cs (hX 1) h_now I_now V_now)]) (ra := [(w_X cs o hX I V)]) [2, 1, 0] (by decide) rfl rfl hP hD hk1 hFc (cb := [(w_Lnd cs (hX 7) h_lnd I_lnd V4), (w_Led cs (hX 1) h_now I_now V_now)]) hP1 hD1 (be := [(w_X cs o hX I V), (w_Led cs (hX 1) h_now I_now V_now), (w_Lnd cs (hX 7) h_lnd I_lnd V4)]) [2, 1, 0] (by decide) rfl rfl
      refine lv_aload_n hx hb dX9_wishBy_42 rfl (lv_at hl 1 rfl) ?_
      refine va_get (D := D) (ci := 9) (v := .ref (hX 7)) (C := RX9) (T := TX9) (N := 9) hx hb hts in_X9 hown hK hP 0 rfl rfl 7 (by decide) g_61 (fun _ h9 => h9) rfl dX9_wishBy_43 ?_
      refine lv_aload_n hx hb dX9_wishBy_46 rfl (lv_at hl 1 rfl) ?_
      refine va_get (D := D) (ci := 9) (v := .ref (hX 1)) (C := RX9) (T := TX9) (N := 9) hx hb hts in_X9 hown hK hP 0 rfl rfl 1 (by decide) g_19 (fun _ h9 => h9) rfl dX9_wishBy_47 ?_
      refine lv_iload_n hx hb dX9_wishBy_50 rfl (lv_at hl 4 rfl) ?_
      refine lv_iload_n hx hb dX9_wishBy_51 rfl (lv_at hl 3 rfl) ?_
      have hPc := subB (bs := [(w_X cs o hX I V), (w_Led cs (hX 1) h_now I_now V_now), (w_Lnd cs (hX 7) h_lnd I_lnd V4)]) (ca := [(w_Lnd cs (hX 7) h_lnd I_lnd V4), (w_Led cs (hX 1) h_now I_now V_now)]) (ra := [(w_X cs o hX I V)]) [2, 1, 0] (by decide) rfl rfl hP
      obtain ⟨zr5, qr5, hf⟩ := bd1 hf
      refine vp_callSi (va_Run.run (va_runV (As := [.ref (hX 1), .int x3, .int x2]) (rest := []) ⟨hx, hb, hml, hown, hts⟩ (c_Lnd_lentBy l D cs (hX 7) h_lnd (hX 1) h_now I_lnd V4 I_now V_now x3 x2 f zr5 qr5) w_lentBy_214 ⟨yR_moved, va_recv hK hPc (ci := 4) (q0 := 0) rfl rfl, fun U hU hW => ⟨rfl, by rw [hU]; exact hPc, va_K.moved hW.alike hK, yN_warm hW hN⟩⟩ rfl rfl hl.1 rfl (lv_room (Nat.le_of_ble_eq_true rfl)) dX9_wishBy_52 ⟨Nat.zero_le _, Nat.zero_le _⟩)) (fun r5 er5 => ?_)
      rw [er5]
      exact hret zr5 V4 _ _ 55 _ hf hP hD hS dX9_wishBy_55
    · replace hf := im c23 hf
      refine lv_iload hx hb dX9_wishBy_26 (lv_at hl 0 rfl) ?_
      exact hret zr2 V_lnd _ _ 28 _ hf hP hD hS dX9_wishBy_28
  · replace hf := ip c8 hf
    refine lv_iconst (v := (-1)) hx hb dX9_wishBy_11 (by decide) ?_
    exact hret (-1) V_lnd _ _ 12 _ hf hP hD hS dX9_wishBy_12
set_option maxHeartbeats 4000000 in
set_option maxRecDepth 100000 in
theorem c_X_wishBy (l : Launch) (D : va_G) (cs : Nat → ClassId) (o : Nat) (hX : Nat → Nat) (h_now : Nat → Nat) (h_lnd : Nat → Nat) (sz : Nat) (I : FI) (V : FV) (I_now : FI) (V_now : FV) (I_lnd : FI) (V_lnd : FV) (x1 : Int32) (x2 : Int32) (x3 : Int32) (f : Nat) (out : Int32 × FV) (hf : X_wishBy f x1 x2 x3 I V I_now V_now I_lnd V_lnd = some out) : Met l yX9_wishBy wsX9_wishBy rm_X_wishBy (va_Pc [.ref o, .int x1, .int x2, .int x3] (yP D cs (List.flatten [(w_X cs o hX I V), (w_Led cs (hX 1) h_now I_now V_now), (w_Lnd cs (hX 7) h_lnd I_lnd V_lnd)]) sz)) (va_Qi (fun r u => (r, u) = out) (fun (u : FV) t => xA D cs (va_A (List.flatten [(w_X cs o hX I V), (w_Led cs (hX 1) h_now I_now V_now), (w_Lnd cs (hX 7) h_lnd I_lnd V_lnd)]) sz) (List.flatten [(w_X cs o hX I V), (w_Led cs (hX 1) h_now I_now V_now), (w_Lnd cs (hX 7) h_lnd I_lnd u)]) t) (va_A (List.flatten [(w_X cs o hX I V), (w_Led cs (hX 1) h_now I_now V_now), (w_Lnd cs (hX 7) h_lnd I_lnd V_lnd)]) sz)) 0 0 (va_A (List.flatten [(w_X cs o hX I V), (w_Led cs (hX 1) h_now I_now V_now), (w_Lnd cs (hX 7) h_lnd I_lnd V_lnd)]) sz) := by
  refine Met.ofW (cc := cX9_wishBy) (maxL := 5) (ret := (some .int)) (by decide) rfl ?_
  intro p e s m args below meth c s₁ B hml hv
  obtain ⟨ha, hsz, hP, hK, hN, hD0⟩ := hv
  have hx := B.exec
  have hb := B.bytes
  have hr := B.returns
  have hts := atoms_spec (ws := wsX9_wishBy) B.pre
  have hown : s.vm.findClass RX9 = some m.cls := findClass_of_methodNamed B.named
  have hlocks := B.notSynchronized
  have in_X9 : ∀ w ∈ u_ws RX9 TX9 9, w ∈ wsX9_wishBy := fun w h => List.mem_cons_of_mem _ (List.mem_append_left _ (List.mem_append_left _ (List.mem_append_right _ h)))
  have in_X3 : ∀ w ∈ u_ws RX3 TX3 11, w ∈ wsX9_wishBy := fun w h => List.mem_cons_of_mem _ (List.mem_append_left _ (List.mem_append_right _ h))
  have in_X4 : ∀ w ∈ u_ws RX4 TX4 2, w ∈ wsX9_wishBy := fun w h => List.mem_cons_of_mem _ (List.mem_append_right _ h)
  have g_19 := hts (Cond.fieldLink RX9 19 "DaysLent" "now" "LDaysLent$Ledger;") (by decide +kernel)
  have w_has_117 := cwV (R := rm_X_wishBy) (s := s) (args := args) (rm := rm_Led_has) (mc := 0) (ms := 0) 1 hts gX9_wishBy_X3_has rfl rfl rfl (by decide +kernel) ⟨Nat.le_of_ble_eq_true rfl, Nat.le_of_ble_eq_true rfl⟩
  have w_refusalOfWish_204 := cwV (R := rm_X_wishBy) (s := s) (args := args) (rm := rm_X_refusalOfWish) (mc := 0) (ms := 0) 2 hts gX9_wishBy_X9_refusalOfWish rfl rfl rfl (by decide +kernel) ⟨Nat.le_of_ble_eq_true rfl, Nat.le_of_ble_eq_true rfl⟩
  have g_61 := hts (Cond.fieldLink RX9 61 "DaysLent" "lenders" "LDaysLent$Lenders;") (by decide +kernel)
  have w_weigh_207 := cwV (R := rm_X_wishBy) (s := s) (args := args) (rm := rm_Lnd_weigh) (mc := 0) (ms := 0) 3 hts gX9_wishBy_X4_weigh rfl rfl rfl (by decide +kernel) ⟨Nat.le_of_ble_eq_true rfl, Nat.le_of_ble_eq_true rfl⟩
  have w_lentBy_214 := cwV (R := rm_X_wishBy) (s := s) (args := args) (rm := rm_Lnd_lentBy) (mc := 0) (ms := 0) 3 hts gX9_wishBy_X4_lentBy rfl rfl rfl (by decide +kernel) ⟨Nat.le_of_ble_eq_true rfl, Nat.le_of_ble_eq_true rfl⟩
  subst hsz
  have hD := hD0.self (sz := s.heap.size)
  generalize hAe : va_A (List.flatten [(w_X cs o hX I V), (w_Led cs (hX 1) h_now I_now V_now), (w_Lnd cs (hX 7) h_lnd I_lnd V_lnd)]) s.heap.size = A at hD ⊢
  have hA : ∀ q : Nat, s.heap.size ≤ q → A q := fun q h => by rw [← hAe]; exact Or.inr h
  have hl := lv_entry ([.ref o, .int x1, .int x2, .int x3]) (n := 5) (Nat.le_of_ble_eq_true rfl)
  rw [show entryFrame m args 5 = entryFrame m ([.ref o, .int x1, .int x2, .int x3] : List Value).toArray 5 from by rw [ha], lg_entry_eq]
  generalize (lg_sl ([.ref o, .int x1, .int x2, .int x3]) ++ List.replicate (5 - (lg_sl ([.ref o, .int x1, .int x2, .int x3])).length) Slot.unset).toArray = ls at hl ⊢
  generalize hQ : MQ below (va_Qi (fun r u => (r, u) = out) (fun (u : FV) t => xA D cs A (List.flatten [(w_X cs o hX I V), (w_Led cs (hX 1) h_now I_now V_now), (w_Lnd cs (hX 7) h_lnd I_lnd u)]) t) A) args s 0 0 A = Q
  have hret : ∀ (v : Int32) (Vlnd9 : FV) (H : Heap) (locs : List Loc) (pc : Nat) (ls : Array Slot), some (v, Vlnd9) = some out → va_P D vwCl (List.flatten [(w_X cs o hX I V), (w_Led cs (hX 1) h_now I_now V_now), (w_Lnd cs (hX 7) h_lnd I_lnd Vlnd9)]) H → va_D A (List.flatten [(w_X cs o hX I V), (w_Led cs (hX 1) h_now I_now V_now), (w_Lnd cs (hX 7) h_lnd I_lnd Vlnd9)]) → va_S A s.heap H locs → decode cX9_wishBy pc = .ok (.ireturn, 1) → W p l e rm_X_wishBy s m args below meth c H locs 0 0 Q (F0 m pc ls [.int v]) := by
    intro v Vlnd9 H locs pc ls hf hP hD hS hd
    rw [← hQ]
    exact W.iret (v := v) hx hb hr (fun t ht hW => ⟨⟨v, Vlnd9, rfl, Option.some.inj hf, by show va_P D vwCl (List.flatten [(w_X cs o hX I V), (w_Led cs (hX 1) h_now I_now V_now), (w_Lnd cs (hX 7) h_lnd I_lnd Vlnd9)]) t.heap; rw [ht]; exact hP, va_K.moved hW.alike hK, hD⟩, hS.F ht⟩) hS.2.2 hd
  exact v_X_wishBy hf hx hb hml hown hts in_X9 in_X3 in_X4 g_19 w_has_117 w_refusalOfWish_204 g_61 w_weigh_207 w_lentBy_214 hA hP hD hK hN hret ls hl
def X_run (f : Nat) (x1 : Int32) (x2 : Int32) (x3 : Int32) (I : FI) (V : FV) (I_now : FI) (V_now : FV) (I_crd : FI) (V_crd : FV) : Option (Int64 × FI × FV) := ob1 (Led_has f x1 I_now V_now) (fun zr1 => (if zr1 = 0 then some ((-1), I_crd, V_crd) else (if x2 < 0 then some ((-2), I_crd, V_crd) else (if x2 ≤ 10 then ob2 (Crd_gather f x1 x2 I_crd V_crd I_now V_now) (fun I3 V4 => if x1 < 0 ∨ 6 ≤ x1.toNatClampNeg then none else (ob1 (Crd_waysWithin f ((V_now 5) x1.toNatClampNeg) I3 V4) (fun zr5 => ob1 (X_commonDivisor f zr5 (I3 3)) (fun zr6 => (if 1 ≤ zr6 then (if x3 = 0 then if zr6 = 0 then none else (some ((((I3 3) / zr6).toInt64), I3, V4)) else if zr6 = 0 then none else (some (((zr5 / zr6).toInt64), I3, V4))) else (if x3 = 0 then some (((I3 3).toInt64), I3, V4) else some ((zr5.toInt64), I3, V4))))))) else some ((-2), I_crd, V_crd)))))
abbrev rm_X_run : Room := { frames := 2, cells := 0, slots := 0, locals := 50 }
set_option maxHeartbeats 4000000 in
set_option maxRecDepth 100000 in
theorem v_X_run {l : Launch} {p : Program} {e : Env} {s : State} {m : MethodId} {args : Array Value} {below : List Frame} {meth : Method} {c : Code} {Q : State → Prop} {D : va_G} {cs : Nat → ClassId} {o : Nat} {hX : Nat → Nat} {h_now : Nat → Nat} {h_crd : Nat → Nat} {A : Nat → Prop} {I : FI} {V : FV} {I_now : FI} {V_now : FV} {I_crd : FI} {V_crd : FV} {x1 : Int32} {x2 : Int32} {x3 : Int32} {f : Nat} {out : Int64 × FI × FV} (hf : X_run f x1 x2 x3 I V I_now V_now I_crd V_crd = some out) (hx : p.tables.exec = Jvm.exec) (hb : c.code = cX9_run) (hml : c.maxLocals = 7) (hown : s.vm.findClass RX9 = some m.cls) (hts : ∀ w ∈ wsX9_run, w.before args s = true) (in_X9 : ∀ w ∈ u_ws RX9 TX9 9, w ∈ wsX9_run) (in_X3 : ∀ w ∈ u_ws RX3 TX3 11, w ∈ wsX9_run) (in_X1 : ∀ w ∈ u_ws RX1 TX1 4, w ∈ wsX9_run) (g_19 : (Cond.fieldLink RX9 19 "DaysLent" "now" "LDaysLent$Ledger;").before args s = true) (w_has_117 : CallW rm_X_run s args RX9 RX3 117 yX3_has cX3_has 2 (some .boolean) wsX3_has rm_Led_has 0 0 1) (k_218 : (Cond.constantLong RX9 218 (-1)).before args s = true) (k_220 : (Cond.constantLong RX9 220 (-2)).before args s = true) (g_68 : (Cond.fieldLink RX9 68 "DaysLent" "creditors" "LDaysLent$Creditors;").before args s = true) (w_gather_222 : CallW rm_X_run s args RX9 RX1 222 yX1_gather cX1_gather 6 none wsX1_gather rm_Crd_gather 0 0 3) (g_121 : (Cond.fieldLink RX9 121 "DaysLent$Ledger" "mornings" "[I").before args s = true) (w_waysWithin_225 : CallW rm_X_run s args RX9 RX1 225 yX1_waysWithin cX1_waysWithin 4 (some .int) wsX1_waysWithin rm_Crd_waysWithin 0 0 1) (g_228 : (Cond.fieldLink RX9 228 "DaysLent$Creditors" "allWays" "I").before args s = true) (w_commonDivisor_231 : CallB rm_X_run s args RX9 231 yX9_commonDivisor cX9_commonDivisor 6 (some .int) wsX9_commonDivisor rm_X_commonDivisor 0 0 2 ∧ (Cond.static yX9_commonDivisor).before args s = true) (hA : ∀ q : Nat, s.heap.size ≤ q → A q) (hP : va_P D vwCl (List.flatten [(w_X cs o hX I V), (w_Led cs (hX 1) h_now I_now V_now), (w_Crd cs (hX 8) h_crd I_crd V_crd)]) s.heap) (hD : va_D A (List.flatten [(w_X cs o hX I V), (w_Led cs (hX 1) h_now I_now V_now), (w_Crd cs (hX 8) h_crd I_crd V_crd)])) (hK : va_K D vwCl (tyA cs) s) (hN : yN s) (hret : ∀ (v : Int64) (Icrd9 : FI) (Vcrd9 : FV) (H : Heap) (locs : List Loc) (pc : Nat) (ls : Array Slot), some (v, Icrd9, Vcrd9) = some out → va_P D vwCl (List.flatten [(w_X cs o hX I V), (w_Led cs (hX 1) h_now I_now V_now), (w_Crd cs (hX 8) h_crd Icrd9 Vcrd9)]) H → va_D A (List.flatten [(w_X cs o hX I V), (w_Led cs (hX 1) h_now I_now V_now), (w_Crd cs (hX 8) h_crd Icrd9 Vcrd9)]) → va_S A s.heap H locs → decode cX9_run pc = .ok (.lreturn, 1) → W p l e rm_X_run s m args below meth c H locs 0 0 Q (F0 m pc ls [.long v])) : ∀ ls : Array Slot, lv_has ls 7 [(0, .ref o), (1, .int x1), (2, .int x2), (3, .int x3)] → W p l e rm_X_run s m args below meth c s.heap [] 0 0 Q (F0 m 0 ls []) := by
  intro ls hl
  have hS : va_S A s.heap s.heap [] := va_S.rf
  unfold X_run at hf
  refine lv_aload_n hx hb dX9_run_0 rfl (lv_at hl 0 rfl) ?_
  refine va_get (D := D) (ci := 9) (v := .ref (hX 1)) (C := RX9) (T := TX9) (N := 9) hx hb hts in_X9 hown hK hP 0 rfl rfl 1 (by decide) g_19 (fun _ h9 => h9) rfl dX9_run_1 ?_
  refine lv_iload_n hx hb dX9_run_4 rfl (lv_at hl 1 rfl) ?_
  have hPc := subB (bs := [(w_X cs o hX I V), (w_Led cs (hX 1) h_now I_now V_now), (w_Crd cs (hX 8) h_crd I_crd V_crd)]) (ca := [(w_Led cs (hX 1) h_now I_now V_now)]) (ra := [(w_X cs o hX I V), (w_Crd cs (hX 8) h_crd I_crd V_crd)]) [1, 0, 2] (by decide) rfl rfl hP
  obtain ⟨zr1, qr1, hf⟩ := bd1 hf
  refine vp_callSi (va_Run.run (va_runV (As := [.int x1]) (rest := []) ⟨hx, hb, hml, hown, hts⟩ (c_Led_has l D cs (hX 1) h_now I_now V_now x1 f zr1 qr1) w_has_117 ⟨yR_moved, va_recv hK hPc (ci := 3) (q0 := 0) rfl rfl, fun U hU hW => ⟨rfl, by rw [hU]; exact hPc, va_K.moved hW.alike hK, yN_warm hW hN⟩⟩ rfl rfl hl.1 rfl (lv_room (Nat.le_of_ble_eq_true rfl)) dX9_run_5 ⟨Nat.zero_le _, Nat.zero_le _⟩)) (fun r1 er1 => ?_)
  rw [er1]
  refine lv_if_ne (tgt := 15) hx hb dX9_run_8 (by decide) (fun c8 => ?_) (fun c8 => ?_)
  · replace hf := im c8 hf
    refine lv_iload_n hx hb dX9_run_15 rfl (lv_at hl 2 rfl) ?_
    refine lv_if_lt (tgt := 25) hx hb dX9_run_16 (by decide) (fun c16 => ?_) (fun c16 => ?_)
    · replace hf := ip c16 hf
      refine lv_ldc2 (v := (-2)) hx hb hown k_220 dX9_run_25 ?_
      exact hret (-2) I_crd V_crd _ _ 28 _ hf hP hD hS dX9_run_28
    · replace hf := im c16 hf
      refine lv_iload_n hx hb dX9_run_19 rfl (lv_at hl 2 rfl) ?_
      refine lv_bipush (v := 10) hx hb dX9_run_20 (by decide) ?_
      refine lv_icmp_le (tgt := 29) hx hb dX9_run_22 (by decide) (fun c22 => ?_) (fun c22 => ?_)
      · replace hf := ip c22 hf
        refine lv_aload_n hx hb dX9_run_29 rfl (lv_at hl 0 rfl) ?_
        refine va_get (D := D) (ci := 9) (v := .ref (hX 8)) (C := RX9) (T := TX9) (N := 9) hx hb hts in_X9 hown hK hP 0 rfl rfl 8 (by decide) g_68 (fun _ h9 => h9) rfl dX9_run_30 ?_
        refine lv_aload_n hx hb dX9_run_33 rfl (lv_at hl 0 rfl) ?_
        refine va_get (D := D) (ci := 9) (v := .ref (hX 1)) (C := RX9) (T := TX9) (N := 9) hx hb hts in_X9 hown hK hP 0 rfl rfl 1 (by decide) g_19 (fun _ h9 => h9) rfl dX9_run_34 ?_
        refine lv_iload_n hx hb dX9_run_37 rfl (lv_at hl 1 rfl) ?_
        refine lv_iload_n hx hb dX9_run_38 rfl (lv_at hl 2 rfl) ?_
        have hPc := subB (bs := [(w_X cs o hX I V), (w_Led cs (hX 1) h_now I_now V_now), (w_Crd cs (hX 8) h_crd I_crd V_crd)]) (ca := [(w_Crd cs (hX 8) h_crd I_crd V_crd), (w_Led cs (hX 1) h_now I_now V_now)]) (ra := [(w_X cs o hX I V)]) [2, 1, 0] (by decide) rfl rfl hP
        obtain ⟨I3, V4, qr2, hf⟩ := bd2 hf
        have hDc := subD (bs := [(w_X cs o hX I V), (w_Led cs (hX 1) h_now I_now V_now), (w_Crd cs (hX 8) h_crd I_crd V_crd)]) (ca := [(w_Crd cs (hX 8) h_crd I_crd V_crd), (w_Led cs (hX 1) h_now I_now V_now)]) (ra := [(w_X cs o hX I V)]) [2, 1, 0] (by decide) rfl rfl hD
        have hFc := xfree hDc hS hA
        refine va_callv (va_runV (As := [.ref (hX 1), .int x1, .int x2]) (rest := []) ⟨hx, hb, hml, hown, hts⟩ (c_Crd_gather l D cs (hX 8) h_crd (hX 1) h_now _ I_crd V_crd I_now V_now x1 x2 f _ qr2) w_gather_222 ⟨yP_moved, va_recv hK hPc (ci := 1) (q0 := 0) rfl rfl, fun U hU hW => ⟨rfl, by rw [hU], by rw [hU]; exact hPc, va_K.moved hW.alike hK, yN_warm hW hN, hDc.weaken (fun _ _ _ _ => trivial)⟩⟩ rfl rfl hl.1 rfl (lv_room (Nat.le_of_ble_eq_true rfl)) dX9_run_39 ⟨Nat.zero_le _, Nat.zero_le _⟩) hS (fun q _ h9 => hFc q h9) hFc (fun u t H1 locs ht hvm hw hB hz1 hk1 hS => ?_)
        rw [hw] at hB
        obtain ⟨hP1, hK1, hD1⟩ := hB
        rw [ht] at hP1
        obtain ⟨hP, hD⟩ := joinB (bs := [(w_X cs o hX I V), (w_Led cs (hX 1) h_now I_now V_now), (w_Crd cs (hX 8) h_crd I_crd V_crd)]) (ca := [(w_Crd cs (hX 8) h_crd I_crd V_crd), (w_Led cs (hX 1) h_now I_now V_now)]) (ra := [(w_X cs o hX I V)]) [2, 1, 0] (by decide) rfl rfl hP hD hk1 hFc (cb := [(w_Crd cs (hX 8) h_crd I3 V4), (w_Led cs (hX 1) h_now I_now V_now)]) hP1 hD1 (be := [(w_X cs o hX I V), (w_Led cs (hX 1) h_now I_now V_now), (w_Crd cs (hX 8) h_crd I3 V4)]) [2, 1, 0] (by decide) rfl rfl
        refine lv_aload_n hx hb dX9_run_42 rfl (lv_at hl 0 rfl) ?_
        refine va_get (D := D) (ci := 9) (v := .ref (hX 8)) (C := RX9) (T := TX9) (N := 9) hx hb hts in_X9 hown hK hP 0 rfl rfl 8 (by decide) g_68 (fun _ h9 => h9) rfl dX9_run_43 ?_
        refine lv_aload_n hx hb dX9_run_46 rfl (lv_at hl 0 rfl) ?_
        refine va_get (D := D) (ci := 9) (v := .ref (hX 1)) (C := RX9) (T := TX9) (N := 9) hx hb hts in_X9 hown hK hP 0 rfl rfl 1 (by decide) g_19 (fun _ h9 => h9) rfl dX9_run_47 ?_
        refine va_get (D := D) (ci := 3) (v := .ref (h_now 5)) (C := RX3) (T := TX3) (N := 11) hx hb hts in_X3 hown hK hP 1 rfl rfl 5 (by decide) g_121 (fun _ h9 => h9) rfl dX9_run_50 ?_
        refine lv_iload_n hx hb dX9_run_53 rfl (lv_at hl 1 rfl) ?_
        obtain ⟨c54, hf⟩ := gd hf
        refine va_iald (f := (V_now 5)) hx hb hK hP 2 0 rfl rfl c54 dX9_run_54 ?_
        have hPc := subB (bs := [(w_X cs o hX I V), (w_Led cs (hX 1) h_now I_now V_now), (w_Crd cs (hX 8) h_crd I3 V4)]) (ca := [(w_Crd cs (hX 8) h_crd I3 V4)]) (ra := [(w_X cs o hX I V), (w_Led cs (hX 1) h_now I_now V_now)]) [2, 0, 1] (by decide) rfl rfl hP
        obtain ⟨zr5, qr5, hf⟩ := bd1 hf
        refine vp_callSi (va_Run.run (va_runV (As := [.int ((V_now 5) x1.toNatClampNeg)]) (rest := []) ⟨hx, hb, hml, hown, hts⟩ (c_Crd_waysWithin l D cs (hX 8) h_crd I3 V4 ((V_now 5) x1.toNatClampNeg) f zr5 qr5) w_waysWithin_225 ⟨yR_moved, va_recv hK hPc (ci := 1) (q0 := 0) rfl rfl, fun U hU hW => ⟨rfl, by rw [hU]; exact hPc, va_K.moved hW.alike hK, yN_warm hW hN⟩⟩ rfl rfl hl.1 rfl (lv_room (Nat.le_of_ble_eq_true rfl)) dX9_run_55 ⟨Nat.zero_le _, Nat.zero_le _⟩)) (fun r5 er5 => ?_)
        rw [er5]
        refine lv_istore (lv' := [(4, .int zr5), (0, .ref o), (1, .int x1), (2, .int x2), (3, .int x3)]) hx hb dX9_run_58 hl (by decide) rfl (fun ls hl => ?_)
        refine lv_aload_n hx hb dX9_run_60 rfl (lv_at hl 1 rfl) ?_
        refine va_get (D := D) (ci := 9) (v := .ref (hX 8)) (C := RX9) (T := TX9) (N := 9) hx hb hts in_X9 hown hK hP 0 rfl rfl 8 (by decide) g_68 (fun _ h9 => h9) rfl dX9_run_61 ?_
        refine va_get (D := D) (ci := 1) (v := .int (I3 3)) (C := RX1) (T := TX1) (N := 4) hx hb hts in_X1 hown hK hP 8 rfl rfl 3 (by decide) g_228 (fun _ h9 => h9) rfl dX9_run_64 ?_
        refine lv_istore (lv' := [(5, .int (I3 3)), (4, .int zr5), (0, .ref o), (1, .int x1), (2, .int x2), (3, .int x3)]) hx hb dX9_run_67 hl (by decide) rfl (fun ls hl => ?_)
        refine lv_iload hx hb dX9_run_69 (lv_at hl 1 rfl) ?_
        refine lv_iload hx hb dX9_run_71 (lv_at hl 0 rfl) ?_
        obtain ⟨zr6, qr6, hf⟩ := bd1 hf
        refine vp_callSi (va_Run.run (va_runS (As := [.int zr5, .int (I3 3)]) (rest := []) ⟨hx, hb, hml, hown, hts⟩ (c_X_commonDivisor l zr5 (I3 3) f zr6 qr6) w_commonDivisor_231 ⟨fun a U g mk q => q, fun U hU hW => ⟨rfl, trivial⟩⟩ rfl rfl hl.1 rfl (lv_room (Nat.le_of_ble_eq_true rfl)) dX9_run_73 ⟨Nat.zero_le _, Nat.zero_le _⟩)) (fun r6 er6 => ?_)
        rw [er6]
        refine lv_istore (lv' := [(6, .int zr6), (5, .int (I3 3)), (4, .int zr5), (0, .ref o), (1, .int x1), (2, .int x2), (3, .int x3)]) hx hb dX9_run_76 hl (by decide) rfl (fun ls hl => ?_)
        refine lv_iload hx hb dX9_run_78 (lv_at hl 0 rfl) ?_
        refine lv_iconst (v := 1) hx hb dX9_run_80 (by decide) ?_
        refine lv_icmp_ge (tgt := 98) hx hb dX9_run_81 (by decide) (fun c81 => ?_) (fun c81 => ?_)
        · replace hf := ip c81 hf
          refine lv_iload_n hx hb dX9_run_98 rfl (lv_at hl 6 rfl) ?_
          refine lv_if_eq (tgt := 111) hx hb dX9_run_99 (by decide) (fun c99 => ?_) (fun c99 => ?_)
          · replace hf := ip c99 hf
            refine lv_iload hx hb dX9_run_111 (lv_at hl 1 rfl) ?_
            refine lv_iload hx hb dX9_run_113 (lv_at hl 0 rfl) ?_
            obtain ⟨c115, hf⟩ := gd hf
            refine lv_idiv hx hb dX9_run_115 c115 ?_
            refine lv_i2l (v := ((I3 3) / zr6).toInt64) hx hb dX9_run_116 rfl ?_
            exact hret (((I3 3) / zr6).toInt64) I3 V4 _ _ 117 _ hf hP hD hS dX9_run_117
          · replace hf := im c99 hf
            refine lv_iload hx hb dX9_run_102 (lv_at hl 2 rfl) ?_
            refine lv_iload hx hb dX9_run_104 (lv_at hl 0 rfl) ?_
            obtain ⟨c106, hf⟩ := gd hf
            refine lv_idiv hx hb dX9_run_106 c106 ?_
            refine lv_i2l (v := (zr5 / zr6).toInt64) hx hb dX9_run_107 rfl ?_
            refine lv_goto (tgt := 117) hx hb dX9_run_108 (by decide) ?_
            exact hret ((zr5 / zr6).toInt64) I3 V4 _ _ 117 _ hf hP hD hS dX9_run_117
        · replace hf := im c81 hf
          refine lv_iload_n hx hb dX9_run_84 rfl (lv_at hl 6 rfl) ?_
          refine lv_if_eq (tgt := 94) hx hb dX9_run_85 (by decide) (fun c85 => ?_) (fun c85 => ?_)
          · replace hf := ip c85 hf
            refine lv_iload hx hb dX9_run_94 (lv_at hl 1 rfl) ?_
            refine lv_i2l (v := (I3 3).toInt64) hx hb dX9_run_96 rfl ?_
            exact hret ((I3 3).toInt64) I3 V4 _ _ 97 _ hf hP hD hS dX9_run_97
          · replace hf := im c85 hf
            refine lv_iload hx hb dX9_run_88 (lv_at hl 2 rfl) ?_
            refine lv_i2l (v := zr5.toInt64) hx hb dX9_run_90 rfl ?_
            refine lv_goto (tgt := 97) hx hb dX9_run_91 (by decide) ?_
            exact hret (zr5.toInt64) I3 V4 _ _ 97 _ hf hP hD hS dX9_run_97
      · replace hf := im c22 hf
        refine lv_ldc2 (v := (-2)) hx hb hown k_220 dX9_run_25 ?_
        exact hret (-2) I_crd V_crd _ _ 28 _ hf hP hD hS dX9_run_28
  · replace hf := ip c8 hf
    refine lv_ldc2 (v := (-1)) hx hb hown k_218 dX9_run_11 ?_
    exact hret (-1) I_crd V_crd _ _ 14 _ hf hP hD hS dX9_run_14
set_option maxHeartbeats 4000000 in
set_option maxRecDepth 100000 in
theorem c_X_run (l : Launch) (D : va_G) (cs : Nat → ClassId) (o : Nat) (hX : Nat → Nat) (h_now : Nat → Nat) (h_crd : Nat → Nat) (sz : Nat) (I : FI) (V : FV) (I_now : FI) (V_now : FV) (I_crd : FI) (V_crd : FV) (x1 : Int32) (x2 : Int32) (x3 : Int32) (f : Nat) (out : Int64 × FI × FV) (hf : X_run f x1 x2 x3 I V I_now V_now I_crd V_crd = some out) : Met l yX9_run wsX9_run rm_X_run (va_Pc [.ref o, .int x1, .int x2, .int x3] (yP D cs (List.flatten [(w_X cs o hX I V), (w_Led cs (hX 1) h_now I_now V_now), (w_Crd cs (hX 8) h_crd I_crd V_crd)]) sz)) (va_Ql (fun r u => (r, u) = out) (fun (u : FI × FV) t => xA D cs (va_A (List.flatten [(w_X cs o hX I V), (w_Led cs (hX 1) h_now I_now V_now), (w_Crd cs (hX 8) h_crd I_crd V_crd)]) sz) (List.flatten [(w_X cs o hX I V), (w_Led cs (hX 1) h_now I_now V_now), (w_Crd cs (hX 8) h_crd u.1 u.2)]) t) (va_A (List.flatten [(w_X cs o hX I V), (w_Led cs (hX 1) h_now I_now V_now), (w_Crd cs (hX 8) h_crd I_crd V_crd)]) sz)) 0 0 (va_A (List.flatten [(w_X cs o hX I V), (w_Led cs (hX 1) h_now I_now V_now), (w_Crd cs (hX 8) h_crd I_crd V_crd)]) sz) := by
  refine Met.ofW (cc := cX9_run) (maxL := 7) (ret := (some .long)) (by decide) rfl ?_
  intro p e s m args below meth c s₁ B hml hv
  obtain ⟨ha, hsz, hP, hK, hN, hD0⟩ := hv
  have hx := B.exec
  have hb := B.bytes
  have hr := B.returns
  have hts := atoms_spec (ws := wsX9_run) B.pre
  have hown : s.vm.findClass RX9 = some m.cls := findClass_of_methodNamed B.named
  have hlocks := B.notSynchronized
  have in_X9 : ∀ w ∈ u_ws RX9 TX9 9, w ∈ wsX9_run := fun w h => List.mem_cons_of_mem _ (List.mem_append_left _ (List.mem_append_left _ (List.mem_append_right _ h)))
  have in_X3 : ∀ w ∈ u_ws RX3 TX3 11, w ∈ wsX9_run := fun w h => List.mem_cons_of_mem _ (List.mem_append_left _ (List.mem_append_right _ h))
  have in_X1 : ∀ w ∈ u_ws RX1 TX1 4, w ∈ wsX9_run := fun w h => List.mem_cons_of_mem _ (List.mem_append_right _ h)
  have g_19 := hts (Cond.fieldLink RX9 19 "DaysLent" "now" "LDaysLent$Ledger;") (by decide +kernel)
  have w_has_117 := cwV (R := rm_X_run) (s := s) (args := args) (rm := rm_Led_has) (mc := 0) (ms := 0) 1 hts gX9_run_X3_has rfl rfl rfl (by decide +kernel) ⟨Nat.le_of_ble_eq_true rfl, Nat.le_of_ble_eq_true rfl⟩
  have k_218 := hts (Cond.constantLong RX9 218 (-1)) (by decide +kernel)
  have k_220 := hts (Cond.constantLong RX9 220 (-2)) (by decide +kernel)
  have g_68 := hts (Cond.fieldLink RX9 68 "DaysLent" "creditors" "LDaysLent$Creditors;") (by decide +kernel)
  have w_gather_222 := cwV (R := rm_X_run) (s := s) (args := args) (rm := rm_Crd_gather) (mc := 0) (ms := 0) 3 hts gX9_run_X1_gather rfl rfl rfl (by decide +kernel) ⟨Nat.le_of_ble_eq_true rfl, Nat.le_of_ble_eq_true rfl⟩
  have g_121 := hts (Cond.fieldLink RX9 121 "DaysLent$Ledger" "mornings" "[I") (by decide +kernel)
  have w_waysWithin_225 := cwV (R := rm_X_run) (s := s) (args := args) (rm := rm_Crd_waysWithin) (mc := 0) (ms := 0) 1 hts gX9_run_X1_waysWithin rfl rfl rfl (by decide +kernel) ⟨Nat.le_of_ble_eq_true rfl, Nat.le_of_ble_eq_true rfl⟩
  have g_228 := hts (Cond.fieldLink RX9 228 "DaysLent$Creditors" "allWays" "I") (by decide +kernel)
  have w_commonDivisor_231 := va_cwS (R := rm_X_run) (s := s) (args := args) (rm := rm_X_commonDivisor) (mc := 0) (ms := 0) 2 hts gX9_run_X9_commonDivisor rfl rfl rfl (by decide +kernel) ⟨Nat.le_of_ble_eq_true rfl, Nat.le_of_ble_eq_true rfl⟩
  subst hsz
  have hD := hD0.self (sz := s.heap.size)
  generalize hAe : va_A (List.flatten [(w_X cs o hX I V), (w_Led cs (hX 1) h_now I_now V_now), (w_Crd cs (hX 8) h_crd I_crd V_crd)]) s.heap.size = A at hD ⊢
  have hA : ∀ q : Nat, s.heap.size ≤ q → A q := fun q h => by rw [← hAe]; exact Or.inr h
  have hl := lv_entry ([.ref o, .int x1, .int x2, .int x3]) (n := 7) (Nat.le_of_ble_eq_true rfl)
  rw [show entryFrame m args 7 = entryFrame m ([.ref o, .int x1, .int x2, .int x3] : List Value).toArray 7 from by rw [ha], lg_entry_eq]
  generalize (lg_sl ([.ref o, .int x1, .int x2, .int x3]) ++ List.replicate (7 - (lg_sl ([.ref o, .int x1, .int x2, .int x3])).length) Slot.unset).toArray = ls at hl ⊢
  generalize hQ : MQ below (va_Ql (fun r u => (r, u) = out) (fun (u : FI × FV) t => xA D cs A (List.flatten [(w_X cs o hX I V), (w_Led cs (hX 1) h_now I_now V_now), (w_Crd cs (hX 8) h_crd u.1 u.2)]) t) A) args s 0 0 A = Q
  have hret : ∀ (v : Int64) (Icrd9 : FI) (Vcrd9 : FV) (H : Heap) (locs : List Loc) (pc : Nat) (ls : Array Slot), some (v, Icrd9, Vcrd9) = some out → va_P D vwCl (List.flatten [(w_X cs o hX I V), (w_Led cs (hX 1) h_now I_now V_now), (w_Crd cs (hX 8) h_crd Icrd9 Vcrd9)]) H → va_D A (List.flatten [(w_X cs o hX I V), (w_Led cs (hX 1) h_now I_now V_now), (w_Crd cs (hX 8) h_crd Icrd9 Vcrd9)]) → va_S A s.heap H locs → decode cX9_run pc = .ok (.lreturn, 1) → W p l e rm_X_run s m args below meth c H locs 0 0 Q (F0 m pc ls [.long v]) := by
    intro v Icrd9 Vcrd9 H locs pc ls hf hP hD hS hd
    rw [← hQ]
    exact W.lret (v := v) hx hb hr (fun t ht hW => ⟨⟨v, (Icrd9, Vcrd9), rfl, Option.some.inj hf, by show va_P D vwCl (List.flatten [(w_X cs o hX I V), (w_Led cs (hX 1) h_now I_now V_now), (w_Crd cs (hX 8) h_crd Icrd9 Vcrd9)]) t.heap; rw [ht]; exact hP, va_K.moved hW.alike hK, hD⟩, hS.F ht⟩) hS.2.2 hd
  exact v_X_run hf hx hb hml hown hts in_X9 in_X3 in_X1 g_19 w_has_117 k_218 k_220 g_68 w_gather_222 g_121 w_waysWithin_225 g_228 w_commonDivisor_231 hA hP hD hK hN hret ls hl
def X_enough (f : Nat) (x1 : Int32) (x2 : Int32) (x3 : Int32) (I : FI) (V : FV) (I_now : FI) (V_now : FV) (I_crd : FI) (V_crd : FV) : Option (Int32 × FI × FV) := ob1 (Led_has f x1 I_now V_now) (fun zr1 => (if zr1 = 0 then some ((-1), I_crd, V_crd) else (if x2 < 0 then some ((-2), I_crd, V_crd) else (if 10 < x2 then some ((-2), I_crd, V_crd) else (if x3 < 0 then some ((-2), I_crd, V_crd) else (if x3 ≤ 100 then ob2 (Crd_gather f x1 x2 I_crd V_crd I_now V_now) (fun I3 V4 => ob1 (Crd_leastEnough f x3 I3 V4) (fun zr5 => some (zr5, I3, V4))) else some ((-2), I_crd, V_crd)))))))
abbrev rm_X_enough : Room := { frames := 2, cells := 0, slots := 0, locals := 50 }
set_option maxHeartbeats 4000000 in
set_option maxRecDepth 100000 in
theorem v_X_enough {l : Launch} {p : Program} {e : Env} {s : State} {m : MethodId} {args : Array Value} {below : List Frame} {meth : Method} {c : Code} {Q : State → Prop} {D : va_G} {cs : Nat → ClassId} {o : Nat} {hX : Nat → Nat} {h_now : Nat → Nat} {h_crd : Nat → Nat} {A : Nat → Prop} {I : FI} {V : FV} {I_now : FI} {V_now : FV} {I_crd : FI} {V_crd : FV} {x1 : Int32} {x2 : Int32} {x3 : Int32} {f : Nat} {out : Int32 × FI × FV} (hf : X_enough f x1 x2 x3 I V I_now V_now I_crd V_crd = some out) (hx : p.tables.exec = Jvm.exec) (hb : c.code = cX9_enough) (hml : c.maxLocals = 4) (hown : s.vm.findClass RX9 = some m.cls) (hts : ∀ w ∈ wsX9_enough, w.before args s = true) (in_X9 : ∀ w ∈ u_ws RX9 TX9 9, w ∈ wsX9_enough) (in_X3 : ∀ w ∈ u_ws RX3 TX3 11, w ∈ wsX9_enough) (in_X1 : ∀ w ∈ u_ws RX1 TX1 4, w ∈ wsX9_enough) (g_19 : (Cond.fieldLink RX9 19 "DaysLent" "now" "LDaysLent$Ledger;").before args s = true) (w_has_117 : CallW rm_X_enough s args RX9 RX3 117 yX3_has cX3_has 2 (some .boolean) wsX3_has rm_Led_has 0 0 1) (g_68 : (Cond.fieldLink RX9 68 "DaysLent" "creditors" "LDaysLent$Creditors;").before args s = true) (w_gather_222 : CallW rm_X_enough s args RX9 RX1 222 yX1_gather cX1_gather 6 none wsX1_gather rm_Crd_gather 0 0 3) (w_leastEnough_234 : CallW rm_X_enough s args RX9 RX1 234 yX1_leastEnough cX1_leastEnough 4 (some .int) wsX1_leastEnough rm_Crd_leastEnough 0 0 1) (hA : ∀ q : Nat, s.heap.size ≤ q → A q) (hP : va_P D vwCl (List.flatten [(w_X cs o hX I V), (w_Led cs (hX 1) h_now I_now V_now), (w_Crd cs (hX 8) h_crd I_crd V_crd)]) s.heap) (hD : va_D A (List.flatten [(w_X cs o hX I V), (w_Led cs (hX 1) h_now I_now V_now), (w_Crd cs (hX 8) h_crd I_crd V_crd)])) (hK : va_K D vwCl (tyA cs) s) (hN : yN s) (hret : ∀ (v : Int32) (Icrd9 : FI) (Vcrd9 : FV) (H : Heap) (locs : List Loc) (pc : Nat) (ls : Array Slot), some (v, Icrd9, Vcrd9) = some out → va_P D vwCl (List.flatten [(w_X cs o hX I V), (w_Led cs (hX 1) h_now I_now V_now), (w_Crd cs (hX 8) h_crd Icrd9 Vcrd9)]) H → va_D A (List.flatten [(w_X cs o hX I V), (w_Led cs (hX 1) h_now I_now V_now), (w_Crd cs (hX 8) h_crd Icrd9 Vcrd9)]) → va_S A s.heap H locs → decode cX9_enough pc = .ok (.ireturn, 1) → W p l e rm_X_enough s m args below meth c H locs 0 0 Q (F0 m pc ls [.int v])) : ∀ ls : Array Slot, lv_has ls 4 [(0, .ref o), (1, .int x1), (2, .int x2), (3, .int x3)] → W p l e rm_X_enough s m args below meth c s.heap [] 0 0 Q (F0 m 0 ls []) := by
  intro ls hl
  have hS : va_S A s.heap s.heap [] := va_S.rf
  unfold X_enough at hf
  refine lv_aload_n hx hb dX9_enough_0 rfl (lv_at hl 0 rfl) ?_
  refine va_get (D := D) (ci := 9) (v := .ref (hX 1)) (C := RX9) (T := TX9) (N := 9) hx hb hts in_X9 hown hK hP 0 rfl rfl 1 (by decide) g_19 (fun _ h9 => h9) rfl dX9_enough_1 ?_
  refine lv_iload_n hx hb dX9_enough_4 rfl (lv_at hl 1 rfl) ?_
  have hPc := subB (bs := [(w_X cs o hX I V), (w_Led cs (hX 1) h_now I_now V_now), (w_Crd cs (hX 8) h_crd I_crd V_crd)]) (ca := [(w_Led cs (hX 1) h_now I_now V_now)]) (ra := [(w_X cs o hX I V), (w_Crd cs (hX 8) h_crd I_crd V_crd)]) [1, 0, 2] (by decide) rfl rfl hP
  obtain ⟨zr1, qr1, hf⟩ := bd1 hf
  refine vp_callSi (va_Run.run (va_runV (As := [.int x1]) (rest := []) ⟨hx, hb, hml, hown, hts⟩ (c_Led_has l D cs (hX 1) h_now I_now V_now x1 f zr1 qr1) w_has_117 ⟨yR_moved, va_recv hK hPc (ci := 3) (q0 := 0) rfl rfl, fun U hU hW => ⟨rfl, by rw [hU]; exact hPc, va_K.moved hW.alike hK, yN_warm hW hN⟩⟩ rfl rfl hl.1 rfl (lv_room (Nat.le_of_ble_eq_true rfl)) dX9_enough_5 ⟨Nat.zero_le _, Nat.zero_le _⟩)) (fun r1 er1 => ?_)
  rw [er1]
  refine lv_if_ne (tgt := 13) hx hb dX9_enough_8 (by decide) (fun c8 => ?_) (fun c8 => ?_)
  · replace hf := im c8 hf
    refine lv_iload_n hx hb dX9_enough_13 rfl (lv_at hl 2 rfl) ?_
    refine lv_if_lt (tgt := 33) hx hb dX9_enough_14 (by decide) (fun c14 => ?_) (fun c14 => ?_)
    · replace hf := ip c14 hf
      refine lv_bipush (v := (-2)) hx hb dX9_enough_33 (by decide) ?_
      exact hret (-2) I_crd V_crd _ _ 35 _ hf hP hD hS dX9_enough_35
    · replace hf := im c14 hf
      refine lv_iload_n hx hb dX9_enough_17 rfl (lv_at hl 2 rfl) ?_
      refine lv_bipush (v := 10) hx hb dX9_enough_18 (by decide) ?_
      refine lv_icmp_gt (tgt := 33) hx hb dX9_enough_20 (by decide) (fun c20 => ?_) (fun c20 => ?_)
      · replace hf := ip c20 hf
        refine lv_bipush (v := (-2)) hx hb dX9_enough_33 (by decide) ?_
        exact hret (-2) I_crd V_crd _ _ 35 _ hf hP hD hS dX9_enough_35
      · replace hf := im c20 hf
        refine lv_iload_n hx hb dX9_enough_23 rfl (lv_at hl 3 rfl) ?_
        refine lv_if_lt (tgt := 33) hx hb dX9_enough_24 (by decide) (fun c24 => ?_) (fun c24 => ?_)
        · replace hf := ip c24 hf
          refine lv_bipush (v := (-2)) hx hb dX9_enough_33 (by decide) ?_
          exact hret (-2) I_crd V_crd _ _ 35 _ hf hP hD hS dX9_enough_35
        · replace hf := im c24 hf
          refine lv_iload_n hx hb dX9_enough_27 rfl (lv_at hl 3 rfl) ?_
          refine lv_bipush (v := 100) hx hb dX9_enough_28 (by decide) ?_
          refine lv_icmp_le (tgt := 36) hx hb dX9_enough_30 (by decide) (fun c30 => ?_) (fun c30 => ?_)
          · replace hf := ip c30 hf
            refine lv_aload_n hx hb dX9_enough_36 rfl (lv_at hl 0 rfl) ?_
            refine va_get (D := D) (ci := 9) (v := .ref (hX 8)) (C := RX9) (T := TX9) (N := 9) hx hb hts in_X9 hown hK hP 0 rfl rfl 8 (by decide) g_68 (fun _ h9 => h9) rfl dX9_enough_37 ?_
            refine lv_aload_n hx hb dX9_enough_40 rfl (lv_at hl 0 rfl) ?_
            refine va_get (D := D) (ci := 9) (v := .ref (hX 1)) (C := RX9) (T := TX9) (N := 9) hx hb hts in_X9 hown hK hP 0 rfl rfl 1 (by decide) g_19 (fun _ h9 => h9) rfl dX9_enough_41 ?_
            refine lv_iload_n hx hb dX9_enough_44 rfl (lv_at hl 1 rfl) ?_
            refine lv_iload_n hx hb dX9_enough_45 rfl (lv_at hl 2 rfl) ?_
            have hPc := subB (bs := [(w_X cs o hX I V), (w_Led cs (hX 1) h_now I_now V_now), (w_Crd cs (hX 8) h_crd I_crd V_crd)]) (ca := [(w_Crd cs (hX 8) h_crd I_crd V_crd), (w_Led cs (hX 1) h_now I_now V_now)]) (ra := [(w_X cs o hX I V)]) [2, 1, 0] (by decide) rfl rfl hP
            obtain ⟨I3, V4, qr2, hf⟩ := bd2 hf
            have hDc := subD (bs := [(w_X cs o hX I V), (w_Led cs (hX 1) h_now I_now V_now), (w_Crd cs (hX 8) h_crd I_crd V_crd)]) (ca := [(w_Crd cs (hX 8) h_crd I_crd V_crd), (w_Led cs (hX 1) h_now I_now V_now)]) (ra := [(w_X cs o hX I V)]) [2, 1, 0] (by decide) rfl rfl hD
            have hFc := xfree hDc hS hA
            refine va_callv (va_runV (As := [.ref (hX 1), .int x1, .int x2]) (rest := []) ⟨hx, hb, hml, hown, hts⟩ (c_Crd_gather l D cs (hX 8) h_crd (hX 1) h_now _ I_crd V_crd I_now V_now x1 x2 f _ qr2) w_gather_222 ⟨yP_moved, va_recv hK hPc (ci := 1) (q0 := 0) rfl rfl, fun U hU hW => ⟨rfl, by rw [hU], by rw [hU]; exact hPc, va_K.moved hW.alike hK, yN_warm hW hN, hDc.weaken (fun _ _ _ _ => trivial)⟩⟩ rfl rfl hl.1 rfl (lv_room (Nat.le_of_ble_eq_true rfl)) dX9_enough_46 ⟨Nat.zero_le _, Nat.zero_le _⟩) hS (fun q _ h9 => hFc q h9) hFc (fun u t H1 locs ht hvm hw hB hz1 hk1 hS => ?_)
            rw [hw] at hB
            obtain ⟨hP1, hK1, hD1⟩ := hB
            rw [ht] at hP1
            obtain ⟨hP, hD⟩ := joinB (bs := [(w_X cs o hX I V), (w_Led cs (hX 1) h_now I_now V_now), (w_Crd cs (hX 8) h_crd I_crd V_crd)]) (ca := [(w_Crd cs (hX 8) h_crd I_crd V_crd), (w_Led cs (hX 1) h_now I_now V_now)]) (ra := [(w_X cs o hX I V)]) [2, 1, 0] (by decide) rfl rfl hP hD hk1 hFc (cb := [(w_Crd cs (hX 8) h_crd I3 V4), (w_Led cs (hX 1) h_now I_now V_now)]) hP1 hD1 (be := [(w_X cs o hX I V), (w_Led cs (hX 1) h_now I_now V_now), (w_Crd cs (hX 8) h_crd I3 V4)]) [2, 1, 0] (by decide) rfl rfl
            refine lv_aload_n hx hb dX9_enough_49 rfl (lv_at hl 0 rfl) ?_
            refine va_get (D := D) (ci := 9) (v := .ref (hX 8)) (C := RX9) (T := TX9) (N := 9) hx hb hts in_X9 hown hK hP 0 rfl rfl 8 (by decide) g_68 (fun _ h9 => h9) rfl dX9_enough_50 ?_
            refine lv_iload_n hx hb dX9_enough_53 rfl (lv_at hl 3 rfl) ?_
            have hPc := subB (bs := [(w_X cs o hX I V), (w_Led cs (hX 1) h_now I_now V_now), (w_Crd cs (hX 8) h_crd I3 V4)]) (ca := [(w_Crd cs (hX 8) h_crd I3 V4)]) (ra := [(w_X cs o hX I V), (w_Led cs (hX 1) h_now I_now V_now)]) [2, 0, 1] (by decide) rfl rfl hP
            obtain ⟨zr5, qr5, hf⟩ := bd1 hf
            refine vp_callSi (va_Run.run (va_runV (As := [.int x3]) (rest := []) ⟨hx, hb, hml, hown, hts⟩ (c_Crd_leastEnough l D cs (hX 8) h_crd I3 V4 x3 f zr5 qr5) w_leastEnough_234 ⟨yR_moved, va_recv hK hPc (ci := 1) (q0 := 0) rfl rfl, fun U hU hW => ⟨rfl, by rw [hU]; exact hPc, va_K.moved hW.alike hK, yN_warm hW hN⟩⟩ rfl rfl hl.1 rfl (lv_room (Nat.le_of_ble_eq_true rfl)) dX9_enough_54 ⟨Nat.zero_le _, Nat.zero_le _⟩)) (fun r5 er5 => ?_)
            rw [er5]
            exact hret zr5 I3 V4 _ _ 57 _ hf hP hD hS dX9_enough_57
          · replace hf := im c30 hf
            refine lv_bipush (v := (-2)) hx hb dX9_enough_33 (by decide) ?_
            exact hret (-2) I_crd V_crd _ _ 35 _ hf hP hD hS dX9_enough_35
  · replace hf := ip c8 hf
    refine lv_iconst (v := (-1)) hx hb dX9_enough_11 (by decide) ?_
    exact hret (-1) I_crd V_crd _ _ 12 _ hf hP hD hS dX9_enough_12
set_option maxHeartbeats 4000000 in
set_option maxRecDepth 100000 in
theorem c_X_enough (l : Launch) (D : va_G) (cs : Nat → ClassId) (o : Nat) (hX : Nat → Nat) (h_now : Nat → Nat) (h_crd : Nat → Nat) (sz : Nat) (I : FI) (V : FV) (I_now : FI) (V_now : FV) (I_crd : FI) (V_crd : FV) (x1 : Int32) (x2 : Int32) (x3 : Int32) (f : Nat) (out : Int32 × FI × FV) (hf : X_enough f x1 x2 x3 I V I_now V_now I_crd V_crd = some out) : Met l yX9_enough wsX9_enough rm_X_enough (va_Pc [.ref o, .int x1, .int x2, .int x3] (yP D cs (List.flatten [(w_X cs o hX I V), (w_Led cs (hX 1) h_now I_now V_now), (w_Crd cs (hX 8) h_crd I_crd V_crd)]) sz)) (va_Qi (fun r u => (r, u) = out) (fun (u : FI × FV) t => xA D cs (va_A (List.flatten [(w_X cs o hX I V), (w_Led cs (hX 1) h_now I_now V_now), (w_Crd cs (hX 8) h_crd I_crd V_crd)]) sz) (List.flatten [(w_X cs o hX I V), (w_Led cs (hX 1) h_now I_now V_now), (w_Crd cs (hX 8) h_crd u.1 u.2)]) t) (va_A (List.flatten [(w_X cs o hX I V), (w_Led cs (hX 1) h_now I_now V_now), (w_Crd cs (hX 8) h_crd I_crd V_crd)]) sz)) 0 0 (va_A (List.flatten [(w_X cs o hX I V), (w_Led cs (hX 1) h_now I_now V_now), (w_Crd cs (hX 8) h_crd I_crd V_crd)]) sz) := by
  refine Met.ofW (cc := cX9_enough) (maxL := 4) (ret := (some .int)) (by decide) rfl ?_
  intro p e s m args below meth c s₁ B hml hv
  obtain ⟨ha, hsz, hP, hK, hN, hD0⟩ := hv
  have hx := B.exec
  have hb := B.bytes
  have hr := B.returns
  have hts := atoms_spec (ws := wsX9_enough) B.pre
  have hown : s.vm.findClass RX9 = some m.cls := findClass_of_methodNamed B.named
  have hlocks := B.notSynchronized
  have in_X9 : ∀ w ∈ u_ws RX9 TX9 9, w ∈ wsX9_enough := fun w h => List.mem_cons_of_mem _ (List.mem_append_left _ (List.mem_append_left _ (List.mem_append_right _ h)))
  have in_X3 : ∀ w ∈ u_ws RX3 TX3 11, w ∈ wsX9_enough := fun w h => List.mem_cons_of_mem _ (List.mem_append_left _ (List.mem_append_right _ h))
  have in_X1 : ∀ w ∈ u_ws RX1 TX1 4, w ∈ wsX9_enough := fun w h => List.mem_cons_of_mem _ (List.mem_append_right _ h)
  have g_19 := hts (Cond.fieldLink RX9 19 "DaysLent" "now" "LDaysLent$Ledger;") (by decide +kernel)
  have w_has_117 := cwV (R := rm_X_enough) (s := s) (args := args) (rm := rm_Led_has) (mc := 0) (ms := 0) 1 hts gX9_enough_X3_has rfl rfl rfl (by decide +kernel) ⟨Nat.le_of_ble_eq_true rfl, Nat.le_of_ble_eq_true rfl⟩
  have g_68 := hts (Cond.fieldLink RX9 68 "DaysLent" "creditors" "LDaysLent$Creditors;") (by decide +kernel)
  have w_gather_222 := cwV (R := rm_X_enough) (s := s) (args := args) (rm := rm_Crd_gather) (mc := 0) (ms := 0) 3 hts gX9_enough_X1_gather rfl rfl rfl (by decide +kernel) ⟨Nat.le_of_ble_eq_true rfl, Nat.le_of_ble_eq_true rfl⟩
  have w_leastEnough_234 := cwV (R := rm_X_enough) (s := s) (args := args) (rm := rm_Crd_leastEnough) (mc := 0) (ms := 0) 1 hts gX9_enough_X1_leastEnough rfl rfl rfl (by decide +kernel) ⟨Nat.le_of_ble_eq_true rfl, Nat.le_of_ble_eq_true rfl⟩
  subst hsz
  have hD := hD0.self (sz := s.heap.size)
  generalize hAe : va_A (List.flatten [(w_X cs o hX I V), (w_Led cs (hX 1) h_now I_now V_now), (w_Crd cs (hX 8) h_crd I_crd V_crd)]) s.heap.size = A at hD ⊢
  have hA : ∀ q : Nat, s.heap.size ≤ q → A q := fun q h => by rw [← hAe]; exact Or.inr h
  have hl := lv_entry ([.ref o, .int x1, .int x2, .int x3]) (n := 4) (Nat.le_of_ble_eq_true rfl)
  rw [show entryFrame m args 4 = entryFrame m ([.ref o, .int x1, .int x2, .int x3] : List Value).toArray 4 from by rw [ha], lg_entry_eq]
  generalize (lg_sl ([.ref o, .int x1, .int x2, .int x3]) ++ List.replicate (4 - (lg_sl ([.ref o, .int x1, .int x2, .int x3])).length) Slot.unset).toArray = ls at hl ⊢
  generalize hQ : MQ below (va_Qi (fun r u => (r, u) = out) (fun (u : FI × FV) t => xA D cs A (List.flatten [(w_X cs o hX I V), (w_Led cs (hX 1) h_now I_now V_now), (w_Crd cs (hX 8) h_crd u.1 u.2)]) t) A) args s 0 0 A = Q
  have hret : ∀ (v : Int32) (Icrd9 : FI) (Vcrd9 : FV) (H : Heap) (locs : List Loc) (pc : Nat) (ls : Array Slot), some (v, Icrd9, Vcrd9) = some out → va_P D vwCl (List.flatten [(w_X cs o hX I V), (w_Led cs (hX 1) h_now I_now V_now), (w_Crd cs (hX 8) h_crd Icrd9 Vcrd9)]) H → va_D A (List.flatten [(w_X cs o hX I V), (w_Led cs (hX 1) h_now I_now V_now), (w_Crd cs (hX 8) h_crd Icrd9 Vcrd9)]) → va_S A s.heap H locs → decode cX9_enough pc = .ok (.ireturn, 1) → W p l e rm_X_enough s m args below meth c H locs 0 0 Q (F0 m pc ls [.int v]) := by
    intro v Icrd9 Vcrd9 H locs pc ls hf hP hD hS hd
    rw [← hQ]
    exact W.iret (v := v) hx hb hr (fun t ht hW => ⟨⟨v, (Icrd9, Vcrd9), rfl, Option.some.inj hf, by show va_P D vwCl (List.flatten [(w_X cs o hX I V), (w_Led cs (hX 1) h_now I_now V_now), (w_Crd cs (hX 8) h_crd Icrd9 Vcrd9)]) t.heap; rw [ht]; exact hP, va_K.moved hW.alike hK, hD⟩, hS.F ht⟩) hS.2.2 hd
  exact v_X_enough hf hx hb hml hown hts in_X9 in_X3 in_X1 g_19 w_has_117 g_68 w_gather_222 w_leastEnough_234 hA hP hD hK hN hret ls hl
def X_day (f : Nat) (x1 : Int32) (x2 : Int32) (x3 : Int32) (I : FI) (V : FV) (I_now : FI) (V_now : FV) (I_day : FI) (V_day : FV) : Option (Int32 × FI × FV) := ob1 (Led_has f x1 I_now V_now) (fun zr1 => (if zr1 = 0 then some ((-1), I_day, V_day) else (if x2 < 0 then some ((-2), I_day, V_day) else (if x2 ≤ 99 then ob3 (Day_append f x1 x2 x3 I_day V_day) (fun zr2 I3 V4 => (if zr2 = 0 then some ((-4), I3, V4) else some ((I3 3), I3, V4))) else some ((-2), I_day, V_day)))))
abbrev rm_X_day : Room := { frames := 1, cells := 0, slots := 0, locals := 23 }
set_option maxHeartbeats 4000000 in
set_option maxRecDepth 100000 in
theorem v_X_day {l : Launch} {p : Program} {e : Env} {s : State} {m : MethodId} {args : Array Value} {below : List Frame} {meth : Method} {c : Code} {Q : State → Prop} {D : va_G} {cs : Nat → ClassId} {o : Nat} {hX : Nat → Nat} {h_now : Nat → Nat} {h_day : Nat → Nat} {A : Nat → Prop} {I : FI} {V : FV} {I_now : FI} {V_now : FV} {I_day : FI} {V_day : FV} {x1 : Int32} {x2 : Int32} {x3 : Int32} {f : Nat} {out : Int32 × FI × FV} (hf : X_day f x1 x2 x3 I V I_now V_now I_day V_day = some out) (hx : p.tables.exec = Jvm.exec) (hb : c.code = cX9_day) (hml : c.maxLocals = 4) (hown : s.vm.findClass RX9 = some m.cls) (hts : ∀ w ∈ wsX9_day, w.before args s = true) (in_X9 : ∀ w ∈ u_ws RX9 TX9 9, w ∈ wsX9_day) (in_X3 : ∀ w ∈ u_ws RX3 TX3 11, w ∈ wsX9_day) (in_X2 : ∀ w ∈ u_ws RX2 TX2 4, w ∈ wsX9_day) (g_19 : (Cond.fieldLink RX9 19 "DaysLent" "now" "LDaysLent$Ledger;").before args s = true) (w_has_117 : CallW rm_X_day s args RX9 RX3 117 yX3_has cX3_has 2 (some .boolean) wsX3_has rm_Led_has 0 0 1) (g_40 : (Cond.fieldLink RX9 40 "DaysLent" "days" "LDaysLent$DayBook;").before args s = true) (w_append_237 : CallW rm_X_day s args RX9 RX2 237 yX2_append cX2_append 4 (some .boolean) wsX2_append rm_Day_append 0 0 3) (g_116 : (Cond.fieldLink RX9 116 "DaysLent$DayBook" "count" "I").before args s = true) (hA : ∀ q : Nat, s.heap.size ≤ q → A q) (hP : va_P D vwCl (List.flatten [(w_X cs o hX I V), (w_Led cs (hX 1) h_now I_now V_now), (w_Day cs (hX 4) h_day I_day V_day)]) s.heap) (hD : va_D A (List.flatten [(w_X cs o hX I V), (w_Led cs (hX 1) h_now I_now V_now), (w_Day cs (hX 4) h_day I_day V_day)])) (hK : va_K D vwCl (tyA cs) s) (hN : yN s) (hret : ∀ (v : Int32) (Iday9 : FI) (Vday9 : FV) (H : Heap) (locs : List Loc) (pc : Nat) (ls : Array Slot), some (v, Iday9, Vday9) = some out → va_P D vwCl (List.flatten [(w_X cs o hX I V), (w_Led cs (hX 1) h_now I_now V_now), (w_Day cs (hX 4) h_day Iday9 Vday9)]) H → va_D A (List.flatten [(w_X cs o hX I V), (w_Led cs (hX 1) h_now I_now V_now), (w_Day cs (hX 4) h_day Iday9 Vday9)]) → va_S A s.heap H locs → decode cX9_day pc = .ok (.ireturn, 1) → W p l e rm_X_day s m args below meth c H locs 0 0 Q (F0 m pc ls [.int v])) : ∀ ls : Array Slot, lv_has ls 4 [(0, .ref o), (1, .int x1), (2, .int x2), (3, .int x3)] → W p l e rm_X_day s m args below meth c s.heap [] 0 0 Q (F0 m 0 ls []) := by
  intro ls hl
  have hS : va_S A s.heap s.heap [] := va_S.rf
  unfold X_day at hf
  refine lv_aload_n hx hb dX9_day_0 rfl (lv_at hl 0 rfl) ?_
  refine va_get (D := D) (ci := 9) (v := .ref (hX 1)) (C := RX9) (T := TX9) (N := 9) hx hb hts in_X9 hown hK hP 0 rfl rfl 1 (by decide) g_19 (fun _ h9 => h9) rfl dX9_day_1 ?_
  refine lv_iload_n hx hb dX9_day_4 rfl (lv_at hl 1 rfl) ?_
  have hPc := subB (bs := [(w_X cs o hX I V), (w_Led cs (hX 1) h_now I_now V_now), (w_Day cs (hX 4) h_day I_day V_day)]) (ca := [(w_Led cs (hX 1) h_now I_now V_now)]) (ra := [(w_X cs o hX I V), (w_Day cs (hX 4) h_day I_day V_day)]) [1, 0, 2] (by decide) rfl rfl hP
  obtain ⟨zr1, qr1, hf⟩ := bd1 hf
  refine vp_callSi (va_Run.run (va_runV (As := [.int x1]) (rest := []) ⟨hx, hb, hml, hown, hts⟩ (c_Led_has l D cs (hX 1) h_now I_now V_now x1 f zr1 qr1) w_has_117 ⟨yR_moved, va_recv hK hPc (ci := 3) (q0 := 0) rfl rfl, fun U hU hW => ⟨rfl, by rw [hU]; exact hPc, va_K.moved hW.alike hK, yN_warm hW hN⟩⟩ rfl rfl hl.1 rfl (lv_room (Nat.le_of_ble_eq_true rfl)) dX9_day_5 ⟨Nat.zero_le _, Nat.zero_le _⟩)) (fun r1 er1 => ?_)
  rw [er1]
  refine lv_if_ne (tgt := 13) hx hb dX9_day_8 (by decide) (fun c8 => ?_) (fun c8 => ?_)
  · replace hf := im c8 hf
    refine lv_iload_n hx hb dX9_day_13 rfl (lv_at hl 2 rfl) ?_
    refine lv_if_lt (tgt := 23) hx hb dX9_day_14 (by decide) (fun c14 => ?_) (fun c14 => ?_)
    · replace hf := ip c14 hf
      refine lv_bipush (v := (-2)) hx hb dX9_day_23 (by decide) ?_
      exact hret (-2) I_day V_day _ _ 25 _ hf hP hD hS dX9_day_25
    · replace hf := im c14 hf
      refine lv_iload_n hx hb dX9_day_17 rfl (lv_at hl 2 rfl) ?_
      refine lv_bipush (v := 99) hx hb dX9_day_18 (by decide) ?_
      refine lv_icmp_le (tgt := 26) hx hb dX9_day_20 (by decide) (fun c20 => ?_) (fun c20 => ?_)
      · replace hf := ip c20 hf
        refine lv_aload_n hx hb dX9_day_26 rfl (lv_at hl 0 rfl) ?_
        refine va_get (D := D) (ci := 9) (v := .ref (hX 4)) (C := RX9) (T := TX9) (N := 9) hx hb hts in_X9 hown hK hP 0 rfl rfl 4 (by decide) g_40 (fun _ h9 => h9) rfl dX9_day_27 ?_
        refine lv_iload_n hx hb dX9_day_30 rfl (lv_at hl 1 rfl) ?_
        refine lv_iload_n hx hb dX9_day_31 rfl (lv_at hl 2 rfl) ?_
        refine lv_iload_n hx hb dX9_day_32 rfl (lv_at hl 3 rfl) ?_
        have hPc := subB (bs := [(w_X cs o hX I V), (w_Led cs (hX 1) h_now I_now V_now), (w_Day cs (hX 4) h_day I_day V_day)]) (ca := [(w_Day cs (hX 4) h_day I_day V_day)]) (ra := [(w_X cs o hX I V), (w_Led cs (hX 1) h_now I_now V_now)]) [2, 0, 1] (by decide) rfl rfl hP
        obtain ⟨zr2, I3, V4, qr2, hf⟩ := bd3 hf
        have hDc := subD (bs := [(w_X cs o hX I V), (w_Led cs (hX 1) h_now I_now V_now), (w_Day cs (hX 4) h_day I_day V_day)]) (ca := [(w_Day cs (hX 4) h_day I_day V_day)]) (ra := [(w_X cs o hX I V), (w_Led cs (hX 1) h_now I_now V_now)]) [2, 0, 1] (by decide) rfl rfl hD
        have hFc := xfree hDc hS hA
        refine va_calli (va_runV (As := [.int x1, .int x2, .int x3]) (rest := []) ⟨hx, hb, hml, hown, hts⟩ (c_Day_append l D cs (hX 4) h_day _ I_day V_day x1 x2 x3 f _ qr2) w_append_237 ⟨yP_moved, va_recv hK hPc (ci := 2) (q0 := 0) rfl rfl, fun U hU hW => ⟨rfl, by rw [hU], by rw [hU]; exact hPc, va_K.moved hW.alike hK, yN_warm hW hN, hDc.weaken (fun _ _ _ _ => trivial)⟩⟩ rfl rfl hl.1 rfl (lv_room (Nat.le_of_ble_eq_true rfl)) dX9_day_33 ⟨Nat.zero_le _, Nat.zero_le _⟩) hS (fun q _ h9 => hFc q h9) hFc (fun r2 u t H1 locs ht hvm hw hB hz1 hk1 hS => ?_)
        have er2 := congrArg Prod.fst hw
        have eu := congrArg Prod.snd hw
        dsimp only at er2 eu
        rw [er2]
        rw [eu] at hB
        obtain ⟨hP1, hK1, hD1⟩ := hB
        rw [ht] at hP1
        obtain ⟨hP, hD⟩ := joinB (bs := [(w_X cs o hX I V), (w_Led cs (hX 1) h_now I_now V_now), (w_Day cs (hX 4) h_day I_day V_day)]) (ca := [(w_Day cs (hX 4) h_day I_day V_day)]) (ra := [(w_X cs o hX I V), (w_Led cs (hX 1) h_now I_now V_now)]) [2, 0, 1] (by decide) rfl rfl hP hD hk1 hFc (cb := [(w_Day cs (hX 4) h_day I3 V4)]) hP1 hD1 (be := [(w_X cs o hX I V), (w_Led cs (hX 1) h_now I_now V_now), (w_Day cs (hX 4) h_day I3 V4)]) [1, 2, 0] (by decide) rfl rfl
        refine lv_if_eq (tgt := 49) hx hb dX9_day_36 (by decide) (fun c36 => ?_) (fun c36 => ?_)
        · replace hf := ip c36 hf
          refine lv_bipush (v := (-4)) hx hb dX9_day_49 (by decide) ?_
          exact hret (-4) I3 V4 _ _ 51 _ hf hP hD hS dX9_day_51
        · replace hf := im c36 hf
          refine lv_aload_n hx hb dX9_day_39 rfl (lv_at hl 0 rfl) ?_
          refine va_get (D := D) (ci := 9) (v := .ref (hX 4)) (C := RX9) (T := TX9) (N := 9) hx hb hts in_X9 hown hK hP 0 rfl rfl 4 (by decide) g_40 (fun _ h9 => h9) rfl dX9_day_40 ?_
          refine va_get (D := D) (ci := 2) (v := .int (I3 3)) (C := RX2) (T := TX2) (N := 4) hx hb hts in_X2 hown hK hP 8 rfl rfl 3 (by decide) g_116 (fun _ h9 => h9) rfl dX9_day_43 ?_
          refine lv_goto (tgt := 51) hx hb dX9_day_46 (by decide) ?_
          exact hret (I3 3) I3 V4 _ _ 51 _ hf hP hD hS dX9_day_51
      · replace hf := im c20 hf
        refine lv_bipush (v := (-2)) hx hb dX9_day_23 (by decide) ?_
        exact hret (-2) I_day V_day _ _ 25 _ hf hP hD hS dX9_day_25
  · replace hf := ip c8 hf
    refine lv_iconst (v := (-1)) hx hb dX9_day_11 (by decide) ?_
    exact hret (-1) I_day V_day _ _ 12 _ hf hP hD hS dX9_day_12
set_option maxHeartbeats 4000000 in
set_option maxRecDepth 100000 in
theorem c_X_day (l : Launch) (D : va_G) (cs : Nat → ClassId) (o : Nat) (hX : Nat → Nat) (h_now : Nat → Nat) (h_day : Nat → Nat) (sz : Nat) (I : FI) (V : FV) (I_now : FI) (V_now : FV) (I_day : FI) (V_day : FV) (x1 : Int32) (x2 : Int32) (x3 : Int32) (f : Nat) (out : Int32 × FI × FV) (hf : X_day f x1 x2 x3 I V I_now V_now I_day V_day = some out) : Met l yX9_day wsX9_day rm_X_day (va_Pc [.ref o, .int x1, .int x2, .int x3] (yP D cs (List.flatten [(w_X cs o hX I V), (w_Led cs (hX 1) h_now I_now V_now), (w_Day cs (hX 4) h_day I_day V_day)]) sz)) (va_Qi (fun r u => (r, u) = out) (fun (u : FI × FV) t => xA D cs (va_A (List.flatten [(w_X cs o hX I V), (w_Led cs (hX 1) h_now I_now V_now), (w_Day cs (hX 4) h_day I_day V_day)]) sz) (List.flatten [(w_X cs o hX I V), (w_Led cs (hX 1) h_now I_now V_now), (w_Day cs (hX 4) h_day u.1 u.2)]) t) (va_A (List.flatten [(w_X cs o hX I V), (w_Led cs (hX 1) h_now I_now V_now), (w_Day cs (hX 4) h_day I_day V_day)]) sz)) 0 0 (va_A (List.flatten [(w_X cs o hX I V), (w_Led cs (hX 1) h_now I_now V_now), (w_Day cs (hX 4) h_day I_day V_day)]) sz) := by
  refine Met.ofW (cc := cX9_day) (maxL := 4) (ret := (some .int)) (by decide) rfl ?_
  intro p e s m args below meth c s₁ B hml hv
  obtain ⟨ha, hsz, hP, hK, hN, hD0⟩ := hv
  have hx := B.exec
  have hb := B.bytes
  have hr := B.returns
  have hts := atoms_spec (ws := wsX9_day) B.pre
  have hown : s.vm.findClass RX9 = some m.cls := findClass_of_methodNamed B.named
  have hlocks := B.notSynchronized
  have in_X9 : ∀ w ∈ u_ws RX9 TX9 9, w ∈ wsX9_day := fun w h => List.mem_cons_of_mem _ (List.mem_append_left _ (List.mem_append_left _ (List.mem_append_right _ h)))
  have in_X3 : ∀ w ∈ u_ws RX3 TX3 11, w ∈ wsX9_day := fun w h => List.mem_cons_of_mem _ (List.mem_append_right _ h)
  have in_X2 : ∀ w ∈ u_ws RX2 TX2 4, w ∈ wsX9_day := fun w h => List.mem_cons_of_mem _ (List.mem_append_left _ (List.mem_append_right _ h))
  have g_19 := hts (Cond.fieldLink RX9 19 "DaysLent" "now" "LDaysLent$Ledger;") (by decide +kernel)
  have w_has_117 := cwV (R := rm_X_day) (s := s) (args := args) (rm := rm_Led_has) (mc := 0) (ms := 0) 1 hts gX9_day_X3_has rfl rfl rfl (by decide +kernel) ⟨Nat.le_of_ble_eq_true rfl, Nat.le_of_ble_eq_true rfl⟩
  have g_40 := hts (Cond.fieldLink RX9 40 "DaysLent" "days" "LDaysLent$DayBook;") (by decide +kernel)
  have w_append_237 := cwV (R := rm_X_day) (s := s) (args := args) (rm := rm_Day_append) (mc := 0) (ms := 0) 3 hts gX9_day_X2_append rfl rfl rfl (by decide +kernel) ⟨Nat.le_of_ble_eq_true rfl, Nat.le_of_ble_eq_true rfl⟩
  have g_116 := hts (Cond.fieldLink RX9 116 "DaysLent$DayBook" "count" "I") (by decide +kernel)
  subst hsz
  have hD := hD0.self (sz := s.heap.size)
  generalize hAe : va_A (List.flatten [(w_X cs o hX I V), (w_Led cs (hX 1) h_now I_now V_now), (w_Day cs (hX 4) h_day I_day V_day)]) s.heap.size = A at hD ⊢
  have hA : ∀ q : Nat, s.heap.size ≤ q → A q := fun q h => by rw [← hAe]; exact Or.inr h
  have hl := lv_entry ([.ref o, .int x1, .int x2, .int x3]) (n := 4) (Nat.le_of_ble_eq_true rfl)
  rw [show entryFrame m args 4 = entryFrame m ([.ref o, .int x1, .int x2, .int x3] : List Value).toArray 4 from by rw [ha], lg_entry_eq]
  generalize (lg_sl ([.ref o, .int x1, .int x2, .int x3]) ++ List.replicate (4 - (lg_sl ([.ref o, .int x1, .int x2, .int x3])).length) Slot.unset).toArray = ls at hl ⊢
  generalize hQ : MQ below (va_Qi (fun r u => (r, u) = out) (fun (u : FI × FV) t => xA D cs A (List.flatten [(w_X cs o hX I V), (w_Led cs (hX 1) h_now I_now V_now), (w_Day cs (hX 4) h_day u.1 u.2)]) t) A) args s 0 0 A = Q
  have hret : ∀ (v : Int32) (Iday9 : FI) (Vday9 : FV) (H : Heap) (locs : List Loc) (pc : Nat) (ls : Array Slot), some (v, Iday9, Vday9) = some out → va_P D vwCl (List.flatten [(w_X cs o hX I V), (w_Led cs (hX 1) h_now I_now V_now), (w_Day cs (hX 4) h_day Iday9 Vday9)]) H → va_D A (List.flatten [(w_X cs o hX I V), (w_Led cs (hX 1) h_now I_now V_now), (w_Day cs (hX 4) h_day Iday9 Vday9)]) → va_S A s.heap H locs → decode cX9_day pc = .ok (.ireturn, 1) → W p l e rm_X_day s m args below meth c H locs 0 0 Q (F0 m pc ls [.int v]) := by
    intro v Iday9 Vday9 H locs pc ls hf hP hD hS hd
    rw [← hQ]
    exact W.iret (v := v) hx hb hr (fun t ht hW => ⟨⟨v, (Iday9, Vday9), rfl, Option.some.inj hf, by show va_P D vwCl (List.flatten [(w_X cs o hX I V), (w_Led cs (hX 1) h_now I_now V_now), (w_Day cs (hX 4) h_day Iday9 Vday9)]) t.heap; rw [ht]; exact hP, va_K.moved hW.alike hK, hD⟩, hS.F ht⟩) hS.2.2 hd
  exact v_X_day hf hx hb hml hown hts in_X9 in_X3 in_X2 g_19 w_has_117 g_40 w_append_237 g_116 hA hP hD hK hN hret ls hl
def X_forget (f : Nat) (I : FI) (V : FV) (I_day : FI) (V_day : FV) : Option (Int32 × FI) := nm (va_up I_day 3 0) (fun I1 => some ((I_day 3), I1))
abbrev rm_X_forget : Room := { frames := 0, cells := 0, slots := 0, locals := 0 }
set_option maxHeartbeats 4000000 in
set_option maxRecDepth 100000 in
theorem v_X_forget {l : Launch} {p : Program} {e : Env} {s : State} {m : MethodId} {args : Array Value} {below : List Frame} {meth : Method} {c : Code} {Q : State → Prop} {D : va_G} {cs : Nat → ClassId} {o : Nat} {hX : Nat → Nat} {h_day : Nat → Nat} {A : Nat → Prop} {I : FI} {V : FV} {I_day : FI} {V_day : FV} {f : Nat} {out : Int32 × FI} (hf : X_forget f I V I_day V_day = some out) (hx : p.tables.exec = Jvm.exec) (hb : c.code = cX9_forget) (hml : c.maxLocals = 2) (hown : s.vm.findClass RX9 = some m.cls) (hts : ∀ w ∈ wsX9_forget, w.before args s = true) (in_X9 : ∀ w ∈ u_ws RX9 TX9 9, w ∈ wsX9_forget) (in_X2 : ∀ w ∈ u_ws RX2 TX2 4, w ∈ wsX9_forget) (g_40 : (Cond.fieldLink RX9 40 "DaysLent" "days" "LDaysLent$DayBook;").before args s = true) (g_116 : (Cond.fieldLink RX9 116 "DaysLent$DayBook" "count" "I").before args s = true) (hA : ∀ q : Nat, s.heap.size ≤ q → A q) (hP : va_P D vwCl (List.flatten [(w_X cs o hX I V), (w_Day cs (hX 4) h_day I_day V_day)]) s.heap) (hD : va_D A (List.flatten [(w_X cs o hX I V), (w_Day cs (hX 4) h_day I_day V_day)])) (hK : va_K D vwCl (tyA cs) s) (hN : yN s) (hret : ∀ (v : Int32) (Iday9 : FI) (H : Heap) (locs : List Loc) (pc : Nat) (ls : Array Slot), some (v, Iday9) = some out → va_P D vwCl (List.flatten [(w_X cs o hX I V), (w_Day cs (hX 4) h_day Iday9 V_day)]) H → va_D A (List.flatten [(w_X cs o hX I V), (w_Day cs (hX 4) h_day Iday9 V_day)]) → va_S A s.heap H locs → decode cX9_forget pc = .ok (.ireturn, 1) → W p l e rm_X_forget s m args below meth c H locs 0 0 Q (F0 m pc ls [.int v])) : ∀ ls : Array Slot, lv_has ls 2 [(0, .ref o)] → W p l e rm_X_forget s m args below meth c s.heap [] 0 0 Q (F0 m 0 ls []) := by
  intro ls hl
  have hS : va_S A s.heap s.heap [] := va_S.rf
  unfold X_forget at hf
  refine lv_aload_n hx hb dX9_forget_0 rfl (lv_at hl 0 rfl) ?_
  refine va_get (D := D) (ci := 9) (v := .ref (hX 4)) (C := RX9) (T := TX9) (N := 9) hx hb hts in_X9 hown hK hP 0 rfl rfl 4 (by decide) g_40 (fun _ h9 => h9) rfl dX9_forget_1 ?_
  refine va_get (D := D) (ci := 2) (v := .int (I_day 3)) (C := RX2) (T := TX2) (N := 4) hx hb hts in_X2 hown hK hP 1 rfl rfl 3 (by decide) g_116 (fun _ h9 => h9) rfl dX9_forget_4 ?_
  refine lv_istore_n (lv' := [(1, .int (I_day 3)), (0, .ref o)]) hx hb dX9_forget_7 rfl hl (by decide) rfl (fun ls hl => ?_)
  refine lv_aload_n hx hb dX9_forget_8 rfl (lv_at hl 1 rfl) ?_
  refine va_get (D := D) (ci := 9) (v := .ref (hX 4)) (C := RX9) (T := TX9) (N := 9) hx hb hts in_X9 hown hK hP 0 rfl rfl 4 (by decide) g_40 (fun _ h9 => h9) rfl dX9_forget_9 ?_
  refine lv_iconst (v := 0) hx hb dX9_forget_12 (by decide) ?_
  refine va_put (D := D) (ci := 2) (v := .int 0) (ty := .int) (C := RX2) (T := TX2) (N := 4) hx hb hts in_X2 tyX2 tyX2_ok nmX2 hown hK hP hD hS 1 rfl rfl 3 (by decide) g_116 (fun _ h9 => h9) rfl (by decide +kernel) rfl rfl (Nat.le_of_ble_eq_true rfl) dX9_forget_13 (fun H locs hP hD hS => ?_)
  obtain ⟨I1, eI1, hf⟩ := nme hf
  have hP : va_P D vwCl (List.flatten [(w_X cs o hX I V), (w_Day cs (hX 4) h_day I1 V_day)]) H := by rw [eI1]; exact hP
  have hD : va_D A (List.flatten [(w_X cs o hX I V), (w_Day cs (hX 4) h_day I1 V_day)]) := by rw [eI1]; exact hD
  refine lv_iload_n hx hb dX9_forget_16 rfl (lv_at hl 0 rfl) ?_
  exact hret (I_day 3) I1 _ _ 17 _ hf hP hD hS dX9_forget_17
set_option maxHeartbeats 4000000 in
set_option maxRecDepth 100000 in
theorem c_X_forget (l : Launch) (D : va_G) (cs : Nat → ClassId) (o : Nat) (hX : Nat → Nat) (h_day : Nat → Nat) (sz : Nat) (I : FI) (V : FV) (I_day : FI) (V_day : FV) (f : Nat) (out : Int32 × FI) (hf : X_forget f I V I_day V_day = some out) : Met l yX9_forget wsX9_forget rm_X_forget (va_Pc [.ref o] (yP D cs (List.flatten [(w_X cs o hX I V), (w_Day cs (hX 4) h_day I_day V_day)]) sz)) (va_Qi (fun r u => (r, u) = out) (fun (u : FI) t => xA D cs (va_A (List.flatten [(w_X cs o hX I V), (w_Day cs (hX 4) h_day I_day V_day)]) sz) (List.flatten [(w_X cs o hX I V), (w_Day cs (hX 4) h_day u V_day)]) t) (va_A (List.flatten [(w_X cs o hX I V), (w_Day cs (hX 4) h_day I_day V_day)]) sz)) 0 0 (va_A (List.flatten [(w_X cs o hX I V), (w_Day cs (hX 4) h_day I_day V_day)]) sz) := by
  refine Met.ofW (cc := cX9_forget) (maxL := 2) (ret := (some .int)) (by decide) rfl ?_
  intro p e s m args below meth c s₁ B hml hv
  obtain ⟨ha, hsz, hP, hK, hN, hD0⟩ := hv
  have hx := B.exec
  have hb := B.bytes
  have hr := B.returns
  have hts := atoms_spec (ws := wsX9_forget) B.pre
  have hown : s.vm.findClass RX9 = some m.cls := findClass_of_methodNamed B.named
  have hlocks := B.notSynchronized
  have in_X9 : ∀ w ∈ u_ws RX9 TX9 9, w ∈ wsX9_forget := fun w h => List.mem_cons_of_mem _ (List.mem_append_left _ (List.mem_append_right _ h))
  have in_X2 : ∀ w ∈ u_ws RX2 TX2 4, w ∈ wsX9_forget := fun w h => List.mem_cons_of_mem _ (List.mem_append_right _ h)
  have g_40 := hts (Cond.fieldLink RX9 40 "DaysLent" "days" "LDaysLent$DayBook;") (by decide +kernel)
  have g_116 := hts (Cond.fieldLink RX9 116 "DaysLent$DayBook" "count" "I") (by decide +kernel)
  subst hsz
  have hD := hD0.self (sz := s.heap.size)
  generalize hAe : va_A (List.flatten [(w_X cs o hX I V), (w_Day cs (hX 4) h_day I_day V_day)]) s.heap.size = A at hD ⊢
  have hA : ∀ q : Nat, s.heap.size ≤ q → A q := fun q h => by rw [← hAe]; exact Or.inr h
  have hl := lv_entry ([.ref o]) (n := 2) (Nat.le_of_ble_eq_true rfl)
  rw [show entryFrame m args 2 = entryFrame m ([.ref o] : List Value).toArray 2 from by rw [ha], lg_entry_eq]
  generalize (lg_sl ([.ref o]) ++ List.replicate (2 - (lg_sl ([.ref o])).length) Slot.unset).toArray = ls at hl ⊢
  generalize hQ : MQ below (va_Qi (fun r u => (r, u) = out) (fun (u : FI) t => xA D cs A (List.flatten [(w_X cs o hX I V), (w_Day cs (hX 4) h_day u V_day)]) t) A) args s 0 0 A = Q
  have hret : ∀ (v : Int32) (Iday9 : FI) (H : Heap) (locs : List Loc) (pc : Nat) (ls : Array Slot), some (v, Iday9) = some out → va_P D vwCl (List.flatten [(w_X cs o hX I V), (w_Day cs (hX 4) h_day Iday9 V_day)]) H → va_D A (List.flatten [(w_X cs o hX I V), (w_Day cs (hX 4) h_day Iday9 V_day)]) → va_S A s.heap H locs → decode cX9_forget pc = .ok (.ireturn, 1) → W p l e rm_X_forget s m args below meth c H locs 0 0 Q (F0 m pc ls [.int v]) := by
    intro v Iday9 H locs pc ls hf hP hD hS hd
    rw [← hQ]
    exact W.iret (v := v) hx hb hr (fun t ht hW => ⟨⟨v, Iday9, rfl, Option.some.inj hf, by show va_P D vwCl (List.flatten [(w_X cs o hX I V), (w_Day cs (hX 4) h_day Iday9 V_day)]) t.heap; rw [ht]; exact hP, va_K.moved hW.alike hK, hD⟩, hS.F ht⟩) hS.2.2 hd
  exact v_X_forget hf hx hb hml hown hts in_X9 in_X2 g_40 g_116 hA hP hD hK hN hret ls hl
def X_cheats (f : Nat) (I : FI) (V : FV) (I_day : FI) (V_day : FV) (I_now : FI) (V_now : FV) : Option (Int32) := ob1 (Day_caught f I_day V_day) (fun zr1 => ob1 (Led_allPeople f I_now V_now) (fun zr2 => some (zr1 &&& zr2)))
abbrev rm_X_cheats : Room := { frames := 2, cells := 0, slots := 0, locals := 44 }
set_option maxHeartbeats 4000000 in
set_option maxRecDepth 100000 in
theorem v_X_cheats {l : Launch} {p : Program} {e : Env} {s : State} {m : MethodId} {args : Array Value} {below : List Frame} {meth : Method} {c : Code} {Q : State → Prop} {D : va_G} {cs : Nat → ClassId} {o : Nat} {hX : Nat → Nat} {h_day : Nat → Nat} {h_now : Nat → Nat} {I : FI} {V : FV} {I_day : FI} {V_day : FV} {I_now : FI} {V_now : FV} {f : Nat} {out : Int32} (hf : X_cheats f I V I_day V_day I_now V_now = some out) (hx : p.tables.exec = Jvm.exec) (hb : c.code = cX9_cheats) (hml : c.maxLocals = 1) (hown : s.vm.findClass RX9 = some m.cls) (hts : ∀ w ∈ wsX9_cheats, w.before args s = true) (in_X9 : ∀ w ∈ u_ws RX9 TX9 9, w ∈ wsX9_cheats) (in_X2 : ∀ w ∈ u_ws RX2 TX2 4, w ∈ wsX9_cheats) (in_X3 : ∀ w ∈ u_ws RX3 TX3 11, w ∈ wsX9_cheats) (g_40 : (Cond.fieldLink RX9 40 "DaysLent" "days" "LDaysLent$DayBook;").before args s = true) (w_caught_240 : CallW rm_X_cheats s args RX9 RX2 240 yX2_caught cX2_caught 3 (some .int) wsX2_caught rm_Day_caught 0 0 0) (g_19 : (Cond.fieldLink RX9 19 "DaysLent" "now" "LDaysLent$Ledger;").before args s = true) (w_allPeople_243 : CallW rm_X_cheats s args RX9 RX3 243 yX3_allPeople cX3_allPeople 1 (some .int) wsX3_allPeople rm_Led_allPeople 0 0 0) (hP : va_P D vwCl (List.flatten [(w_X cs o hX I V), (w_Day cs (hX 4) h_day I_day V_day), (w_Led cs (hX 1) h_now I_now V_now)]) s.heap) (hK : va_K D vwCl (tyA cs) s) (hN : yN s) (hret : ∀ (v : Int32) (pc : Nat) (ls : Array Slot), some v = some out → decode cX9_cheats pc = .ok (.ireturn, 1) → W p l e rm_X_cheats s m args below meth c s.heap [] 0 0 Q (F0 m pc ls [.int v])) : ∀ ls : Array Slot, lv_has ls 1 [(0, .ref o)] → W p l e rm_X_cheats s m args below meth c s.heap [] 0 0 Q (F0 m 0 ls []) := by
  intro ls hl
  unfold X_cheats at hf
  refine lv_aload_n hx hb dX9_cheats_0 rfl (lv_at hl 0 rfl) ?_
  refine va_get (D := D) (ci := 9) (v := .ref (hX 4)) (C := RX9) (T := TX9) (N := 9) hx hb hts in_X9 hown hK hP 0 rfl rfl 4 (by decide) g_40 (fun _ h9 => h9) rfl dX9_cheats_1 ?_
  have hPc := subB (bs := [(w_X cs o hX I V), (w_Day cs (hX 4) h_day I_day V_day), (w_Led cs (hX 1) h_now I_now V_now)]) (ca := [(w_Day cs (hX 4) h_day I_day V_day)]) (ra := [(w_X cs o hX I V), (w_Led cs (hX 1) h_now I_now V_now)]) [1, 0, 2] (by decide) rfl rfl hP
  obtain ⟨zr1, qr1, hf⟩ := bd1 hf
  refine vp_callSi (va_Run.run (va_runV (As := []) (rest := []) ⟨hx, hb, hml, hown, hts⟩ (c_Day_caught l D cs (hX 4) h_day I_day V_day f zr1 qr1) w_caught_240 ⟨yR_moved, va_recv hK hPc (ci := 2) (q0 := 0) rfl rfl, fun U hU hW => ⟨rfl, by rw [hU]; exact hPc, va_K.moved hW.alike hK, yN_warm hW hN⟩⟩ rfl rfl hl.1 rfl (lv_room (Nat.le_of_ble_eq_true rfl)) dX9_cheats_4 ⟨Nat.zero_le _, Nat.zero_le _⟩)) (fun r1 er1 => ?_)
  rw [er1]
  refine lv_aload_n hx hb dX9_cheats_7 rfl (lv_at hl 0 rfl) ?_
  refine va_get (D := D) (ci := 9) (v := .ref (hX 1)) (C := RX9) (T := TX9) (N := 9) hx hb hts in_X9 hown hK hP 0 rfl rfl 1 (by decide) g_19 (fun _ h9 => h9) rfl dX9_cheats_8 ?_
  have hPc := subB (bs := [(w_X cs o hX I V), (w_Day cs (hX 4) h_day I_day V_day), (w_Led cs (hX 1) h_now I_now V_now)]) (ca := [(w_Led cs (hX 1) h_now I_now V_now)]) (ra := [(w_X cs o hX I V), (w_Day cs (hX 4) h_day I_day V_day)]) [2, 0, 1] (by decide) rfl rfl hP
  obtain ⟨zr2, qr2, hf⟩ := bd1 hf
  refine vp_callSi (va_Run.run (va_runV (As := []) (rest := [.int zr1]) ⟨hx, hb, hml, hown, hts⟩ (c_Led_allPeople l D cs (hX 1) h_now I_now V_now f zr2 qr2) w_allPeople_243 ⟨yR_moved, va_recv hK hPc (ci := 3) (q0 := 0) rfl rfl, fun U hU hW => ⟨rfl, by rw [hU]; exact hPc, va_K.moved hW.alike hK, yN_warm hW hN⟩⟩ rfl rfl hl.1 rfl (lv_room (Nat.le_of_ble_eq_true rfl)) dX9_cheats_11 ⟨Nat.zero_le _, Nat.zero_le _⟩)) (fun r2 er2 => ?_)
  rw [er2]
  refine lv_iand hx hb dX9_cheats_14 ?_
  exact hret (zr1 &&& zr2) 15 _ hf dX9_cheats_15
set_option maxHeartbeats 4000000 in
set_option maxRecDepth 100000 in
theorem c_X_cheats (l : Launch) (D : va_G) (cs : Nat → ClassId) (o : Nat) (hX : Nat → Nat) (h_day : Nat → Nat) (h_now : Nat → Nat) (I : FI) (V : FV) (I_day : FI) (V_day : FV) (I_now : FI) (V_now : FV) (f : Nat) (out : Int32) (hf : X_cheats f I V I_day V_day I_now V_now = some out) : Met l yX9_cheats wsX9_cheats rm_X_cheats (va_Pc [.ref o] (yR D cs (List.flatten [(w_X cs o hX I V), (w_Day cs (hX 4) h_day I_day V_day), (w_Led cs (hX 1) h_now I_now V_now)]))) (vp_Si (fun r => r = out)) 0 0 (fun _ => False) := by
  refine Met.ofW (cc := cX9_cheats) (maxL := 1) (ret := (some .int)) (by decide) rfl ?_
  intro p e s m args below meth c s₁ B hml hv
  obtain ⟨ha, hP, hK, hN⟩ := hv
  have hx := B.exec
  have hb := B.bytes
  have hr := B.returns
  have hts := atoms_spec (ws := wsX9_cheats) B.pre
  have hown : s.vm.findClass RX9 = some m.cls := findClass_of_methodNamed B.named
  have hlocks := B.notSynchronized
  have in_X9 : ∀ w ∈ u_ws RX9 TX9 9, w ∈ wsX9_cheats := fun w h => List.mem_cons_of_mem _ (List.mem_append_left _ (List.mem_append_left _ (List.mem_append_right _ h)))
  have in_X2 : ∀ w ∈ u_ws RX2 TX2 4, w ∈ wsX9_cheats := fun w h => List.mem_cons_of_mem _ (List.mem_append_left _ (List.mem_append_right _ h))
  have in_X3 : ∀ w ∈ u_ws RX3 TX3 11, w ∈ wsX9_cheats := fun w h => List.mem_cons_of_mem _ (List.mem_append_right _ h)
  have g_40 := hts (Cond.fieldLink RX9 40 "DaysLent" "days" "LDaysLent$DayBook;") (by decide +kernel)
  have w_caught_240 := cwV (R := rm_X_cheats) (s := s) (args := args) (rm := rm_Day_caught) (mc := 0) (ms := 0) 0 hts gX9_cheats_X2_caught rfl rfl rfl (by decide +kernel) ⟨Nat.le_of_ble_eq_true rfl, Nat.le_of_ble_eq_true rfl⟩
  have g_19 := hts (Cond.fieldLink RX9 19 "DaysLent" "now" "LDaysLent$Ledger;") (by decide +kernel)
  have w_allPeople_243 := cwV (R := rm_X_cheats) (s := s) (args := args) (rm := rm_Led_allPeople) (mc := 0) (ms := 0) 0 hts gX9_cheats_X3_allPeople rfl rfl rfl (by decide +kernel) ⟨Nat.le_of_ble_eq_true rfl, Nat.le_of_ble_eq_true rfl⟩
  have hl := lv_entry ([.ref o]) (n := 1) (Nat.le_of_ble_eq_true rfl)
  rw [show entryFrame m args 1 = entryFrame m ([.ref o] : List Value).toArray 1 from by rw [ha], lg_entry_eq]
  generalize (lg_sl ([.ref o]) ++ List.replicate (1 - (lg_sl ([.ref o])).length) Slot.unset).toArray = ls at hl ⊢
  generalize hQ : MQ below (vp_Si (fun r => r = out)) args s 0 0 (fun _ => False) = Q
  have hret : ∀ (v : Int32) (pc : Nat) (ls : Array Slot), some v = some out → decode cX9_cheats pc = .ok (.ireturn, 1) → W p l e rm_X_cheats s m args below meth c s.heap [] 0 0 Q (F0 m pc ls [.int v]) := by
    intro v pc ls hf hd
    rw [← hQ]
    exact W.iret (v := v) hx hb hr (fun t ht hW => ⟨v, rfl, Option.some.inj hf, ht⟩) (fun q h => by cases h) hd
  exact v_X_cheats hf hx hb hml hown hts in_X9 in_X2 in_X3 g_40 w_caught_240 g_19 w_allPeople_243 hP hK hN hret ls hl
def X_keep (f : Nat) (x1 : Int32) (I : FI) (V : FV) (I_slt : FI) (V_slt : FV) (I_now : FI) (V_now : FV) (LsI : Nat → FI) (LsV : Nat → FV) : Option (Int32 × FV × (Nat → FI) × (Nat → FV)) := (if x1 < 0 then some ((-1), V_slt, LsI, LsV) else (if x1 < 2 then ob3 (Slt_put f x1 I_slt V_slt LsI LsV I_now V_now) (fun V2 I3 V4 => some ((I_now 1), V2, I3, V4)) else some ((-1), V_slt, LsI, LsV)))
abbrev rm_X_keep : Room := { frames := 3, cells := 0, slots := 0, locals := 70 }
set_option maxHeartbeats 4000000 in
set_option maxRecDepth 100000 in
theorem v_X_keep {l : Launch} {p : Program} {e : Env} {s : State} {m : MethodId} {args : Array Value} {below : List Frame} {meth : Method} {c : Code} {Q : State → Prop} {D : va_G} {cs : Nat → ClassId} {o : Nat} {hX : Nat → Nat} {h_slt : Nat → Nat} {lsa : Nat → Nat} {h_now : Nat → Nat} {lsh : Nat → Nat → Nat} {A : Nat → Prop} {I : FI} {V : FV} {I_slt : FI} {V_slt : FV} {I_now : FI} {V_now : FV} {LsI : Nat → FI} {LsV : Nat → FV} {x1 : Int32} {f : Nat} {out : Int32 × FV × (Nat → FI) × (Nat → FV)} (hf : X_keep f x1 I V I_slt V_slt I_now V_now LsI LsV = some out) (hx : p.tables.exec = Jvm.exec) (hb : c.code = cX9_keep) (hml : c.maxLocals = 2) (hown : s.vm.findClass RX9 = some m.cls) (hts : ∀ w ∈ wsX9_keep, w.before args s = true) (in_X9 : ∀ w ∈ u_ws RX9 TX9 9, w ∈ wsX9_keep) (in_X7 : ∀ w ∈ u_ws RX7 TX7 2, w ∈ wsX9_keep) (in_X3 : ∀ w ∈ u_ws RX3 TX3 11, w ∈ wsX9_keep) (g_33 : (Cond.fieldLink RX9 33 "DaysLent" "slots" "LDaysLent$Slots;").before args s = true) (g_19 : (Cond.fieldLink RX9 19 "DaysLent" "now" "LDaysLent$Ledger;").before args s = true) (w_put_246 : CallW rm_X_keep s args RX9 RX7 246 yX7_put cX7_put 3 none wsX7_put rm_Slt_put 0 0 2) (g_95 : (Cond.fieldLink RX9 95 "DaysLent$Ledger" "debts" "I").before args s = true) (hA : ∀ q : Nat, s.heap.size ≤ q → A q) (hP : va_P D vwCl (List.flatten [(w_X cs o hX I V), (w_Slt cs (hX 3) h_slt lsa I_slt V_slt), (w_Led cs (hX 1) h_now I_now V_now), (w_Pool cs lsa lsh LsI LsV 2)]) s.heap) (hD : va_D A (List.flatten [(w_X cs o hX I V), (w_Slt cs (hX 3) h_slt lsa I_slt V_slt), (w_Led cs (hX 1) h_now I_now V_now), (w_Pool cs lsa lsh LsI LsV 2)])) (hK : va_K D vwCl (tyA cs) s) (hN : yN s) (hret : ∀ (v : Int32) (Vslt9 : FV) (Ips9 : Nat → FI) (Vps9 : Nat → FV) (H : Heap) (locs : List Loc) (pc : Nat) (ls : Array Slot), some (v, Vslt9, Ips9, Vps9) = some out → va_P D vwCl (List.flatten [(w_X cs o hX I V), (w_Slt cs (hX 3) h_slt lsa I_slt Vslt9), (w_Led cs (hX 1) h_now I_now V_now), (w_Pool cs lsa lsh Ips9 Vps9 2)]) H → va_D A (List.flatten [(w_X cs o hX I V), (w_Slt cs (hX 3) h_slt lsa I_slt Vslt9), (w_Led cs (hX 1) h_now I_now V_now), (w_Pool cs lsa lsh Ips9 Vps9 2)]) → va_S A s.heap H locs → decode cX9_keep pc = .ok (.ireturn, 1) → W p l e rm_X_keep s m args below meth c H locs 0 0 Q (F0 m pc ls [.int v])) : ∀ ls : Array Slot, lv_has ls 2 [(0, .ref o), (1, .int x1)] → W p l e rm_X_keep s m args below meth c s.heap [] 0 0 Q (F0 m 0 ls []) := by
  intro ls hl
  have hS : va_S A s.heap s.heap [] := va_S.rf
  unfold X_keep at hf
  refine lv_iload_n hx hb dX9_keep_0 rfl (lv_at hl 1 rfl) ?_
  refine lv_if_lt (tgt := 9) hx hb dX9_keep_1 (by decide) (fun c1 => ?_) (fun c1 => ?_)
  · replace hf := ip c1 hf
    refine lv_iconst (v := (-1)) hx hb dX9_keep_9 (by decide) ?_
    exact hret (-1) V_slt LsI LsV _ _ 10 _ hf hP hD hS dX9_keep_10
  · replace hf := im c1 hf
    refine lv_iload_n hx hb dX9_keep_4 rfl (lv_at hl 1 rfl) ?_
    refine lv_iconst (v := 2) hx hb dX9_keep_5 (by decide) ?_
    refine lv_icmp_lt (tgt := 11) hx hb dX9_keep_6 (by decide) (fun c6 => ?_) (fun c6 => ?_)
    · replace hf := ip c6 hf
      refine lv_aload_n hx hb dX9_keep_11 rfl (lv_at hl 0 rfl) ?_
      refine va_get (D := D) (ci := 9) (v := .ref (hX 3)) (C := RX9) (T := TX9) (N := 9) hx hb hts in_X9 hown hK hP 0 rfl rfl 3 (by decide) g_33 (fun _ h9 => h9) rfl dX9_keep_12 ?_
      refine lv_iload_n hx hb dX9_keep_15 rfl (lv_at hl 1 rfl) ?_
      refine lv_aload_n hx hb dX9_keep_16 rfl (lv_at hl 0 rfl) ?_
      refine va_get (D := D) (ci := 9) (v := .ref (hX 1)) (C := RX9) (T := TX9) (N := 9) hx hb hts in_X9 hown hK hP 0 rfl rfl 1 (by decide) g_19 (fun _ h9 => h9) rfl dX9_keep_17 ?_
      have hPc := subB (bs := [(w_X cs o hX I V), (w_Slt cs (hX 3) h_slt lsa I_slt V_slt), (w_Led cs (hX 1) h_now I_now V_now), (w_Pool cs lsa lsh LsI LsV 2)]) (ca := [(w_Slt cs (hX 3) h_slt lsa I_slt V_slt), (w_Pool cs lsa lsh LsI LsV 2), (w_Led cs (hX 1) h_now I_now V_now)]) (ra := [(w_X cs o hX I V)]) [1, 3, 2, 0] (by decide) rfl rfl hP
      obtain ⟨V2, I3, V4, qr1, hf⟩ := bd3 hf
      have hDc := subD (bs := [(w_X cs o hX I V), (w_Slt cs (hX 3) h_slt lsa I_slt V_slt), (w_Led cs (hX 1) h_now I_now V_now), (w_Pool cs lsa lsh LsI LsV 2)]) (ca := [(w_Slt cs (hX 3) h_slt lsa I_slt V_slt), (w_Pool cs lsa lsh LsI LsV 2), (w_Led cs (hX 1) h_now I_now V_now)]) (ra := [(w_X cs o hX I V)]) [1, 3, 2, 0] (by decide) rfl rfl hD
      have hFc := xfree hDc hS hA
      refine va_callv (va_runV (As := [.int x1, .ref (hX 1)]) (rest := []) ⟨hx, hb, hml, hown, hts⟩ (c_Slt_put l D cs (hX 3) h_slt lsa lsh (hX 1) h_now _ I_slt V_slt LsI LsV I_now V_now x1 f _ qr1) w_put_246 ⟨yP_moved, va_recv hK hPc (ci := 7) (q0 := 0) rfl rfl, fun U hU hW => ⟨rfl, by rw [hU], by rw [hU]; exact hPc, va_K.moved hW.alike hK, yN_warm hW hN, hDc.weaken (fun _ _ _ _ => trivial)⟩⟩ rfl rfl hl.1 rfl (lv_room (Nat.le_of_ble_eq_true rfl)) dX9_keep_20 ⟨Nat.zero_le _, Nat.zero_le _⟩) hS (fun q _ h9 => hFc q h9) hFc (fun u t H1 locs ht hvm hw hB hz1 hk1 hS => ?_)
      rw [hw] at hB
      obtain ⟨hP1, hK1, hD1⟩ := hB
      rw [ht] at hP1
      obtain ⟨hP, hD⟩ := joinB (bs := [(w_X cs o hX I V), (w_Slt cs (hX 3) h_slt lsa I_slt V_slt), (w_Led cs (hX 1) h_now I_now V_now), (w_Pool cs lsa lsh LsI LsV 2)]) (ca := [(w_Slt cs (hX 3) h_slt lsa I_slt V_slt), (w_Pool cs lsa lsh LsI LsV 2), (w_Led cs (hX 1) h_now I_now V_now)]) (ra := [(w_X cs o hX I V)]) [1, 3, 2, 0] (by decide) rfl rfl hP hD hk1 hFc (cb := [(w_Slt cs (hX 3) h_slt lsa I_slt V2), (w_Pool cs lsa lsh I3 V4 2), (w_Led cs (hX 1) h_now I_now V_now)]) hP1 hD1 (be := [(w_X cs o hX I V), (w_Slt cs (hX 3) h_slt lsa I_slt V2), (w_Led cs (hX 1) h_now I_now V_now), (w_Pool cs lsa lsh I3 V4 2)]) [3, 0, 2, 1] (by decide) rfl rfl
      refine lv_aload_n hx hb dX9_keep_23 rfl (lv_at hl 0 rfl) ?_
      refine va_get (D := D) (ci := 9) (v := .ref (hX 1)) (C := RX9) (T := TX9) (N := 9) hx hb hts in_X9 hown hK hP 0 rfl rfl 1 (by decide) g_19 (fun _ h9 => h9) rfl dX9_keep_24 ?_
      refine va_get (D := D) (ci := 3) (v := .int (I_now 1)) (C := RX3) (T := TX3) (N := 11) hx hb hts in_X3 hown hK hP 4 rfl rfl 1 (by decide) g_95 (fun _ h9 => h9) rfl dX9_keep_27 ?_
      exact hret (I_now 1) V2 I3 V4 _ _ 30 _ hf hP hD hS dX9_keep_30
    · replace hf := im c6 hf
      refine lv_iconst (v := (-1)) hx hb dX9_keep_9 (by decide) ?_
      exact hret (-1) V_slt LsI LsV _ _ 10 _ hf hP hD hS dX9_keep_10
set_option maxHeartbeats 4000000 in
set_option maxRecDepth 100000 in
theorem c_X_keep (l : Launch) (D : va_G) (cs : Nat → ClassId) (o : Nat) (hX : Nat → Nat) (h_slt : Nat → Nat) (lsa : Nat → Nat) (h_now : Nat → Nat) (lsh : Nat → Nat → Nat) (sz : Nat) (I : FI) (V : FV) (I_slt : FI) (V_slt : FV) (I_now : FI) (V_now : FV) (LsI : Nat → FI) (LsV : Nat → FV) (x1 : Int32) (f : Nat) (out : Int32 × FV × (Nat → FI) × (Nat → FV)) (hf : X_keep f x1 I V I_slt V_slt I_now V_now LsI LsV = some out) : Met l yX9_keep wsX9_keep rm_X_keep (va_Pc [.ref o, .int x1] (yP D cs (List.flatten [(w_X cs o hX I V), (w_Slt cs (hX 3) h_slt lsa I_slt V_slt), (w_Led cs (hX 1) h_now I_now V_now), (w_Pool cs lsa lsh LsI LsV 2)]) sz)) (va_Qi (fun r u => (r, u) = out) (fun (u : FV × (Nat → FI) × (Nat → FV)) t => xA D cs (va_A (List.flatten [(w_X cs o hX I V), (w_Slt cs (hX 3) h_slt lsa I_slt V_slt), (w_Led cs (hX 1) h_now I_now V_now), (w_Pool cs lsa lsh LsI LsV 2)]) sz) (List.flatten [(w_X cs o hX I V), (w_Slt cs (hX 3) h_slt lsa I_slt u.1), (w_Led cs (hX 1) h_now I_now V_now), (w_Pool cs lsa lsh u.2.1 u.2.2 2)]) t) (va_A (List.flatten [(w_X cs o hX I V), (w_Slt cs (hX 3) h_slt lsa I_slt V_slt), (w_Led cs (hX 1) h_now I_now V_now), (w_Pool cs lsa lsh LsI LsV 2)]) sz)) 0 0 (va_A (List.flatten [(w_X cs o hX I V), (w_Slt cs (hX 3) h_slt lsa I_slt V_slt), (w_Led cs (hX 1) h_now I_now V_now), (w_Pool cs lsa lsh LsI LsV 2)]) sz) := by
  refine Met.ofW (cc := cX9_keep) (maxL := 2) (ret := (some .int)) (by decide) rfl ?_
  intro p e s m args below meth c s₁ B hml hv
  obtain ⟨ha, hsz, hP, hK, hN, hD0⟩ := hv
  have hx := B.exec
  have hb := B.bytes
  have hr := B.returns
  have hts := atoms_spec (ws := wsX9_keep) B.pre
  have hown : s.vm.findClass RX9 = some m.cls := findClass_of_methodNamed B.named
  have hlocks := B.notSynchronized
  have in_X9 : ∀ w ∈ u_ws RX9 TX9 9, w ∈ wsX9_keep := fun w h => List.mem_cons_of_mem _ (List.mem_append_left _ (List.mem_append_left _ (List.mem_append_right _ h)))
  have in_X7 : ∀ w ∈ u_ws RX7 TX7 2, w ∈ wsX9_keep := fun w h => List.mem_cons_of_mem _ (List.mem_append_right _ h)
  have in_X3 : ∀ w ∈ u_ws RX3 TX3 11, w ∈ wsX9_keep := fun w h => List.mem_cons_of_mem _ (List.mem_append_left _ (List.mem_append_right _ h))
  have g_33 := hts (Cond.fieldLink RX9 33 "DaysLent" "slots" "LDaysLent$Slots;") (by decide +kernel)
  have g_19 := hts (Cond.fieldLink RX9 19 "DaysLent" "now" "LDaysLent$Ledger;") (by decide +kernel)
  have w_put_246 := cwV (R := rm_X_keep) (s := s) (args := args) (rm := rm_Slt_put) (mc := 0) (ms := 0) 2 hts gX9_keep_X7_put rfl rfl rfl (by decide +kernel) ⟨Nat.le_of_ble_eq_true rfl, Nat.le_of_ble_eq_true rfl⟩
  have g_95 := hts (Cond.fieldLink RX9 95 "DaysLent$Ledger" "debts" "I") (by decide +kernel)
  subst hsz
  have hD := hD0.self (sz := s.heap.size)
  generalize hAe : va_A (List.flatten [(w_X cs o hX I V), (w_Slt cs (hX 3) h_slt lsa I_slt V_slt), (w_Led cs (hX 1) h_now I_now V_now), (w_Pool cs lsa lsh LsI LsV 2)]) s.heap.size = A at hD ⊢
  have hA : ∀ q : Nat, s.heap.size ≤ q → A q := fun q h => by rw [← hAe]; exact Or.inr h
  have hl := lv_entry ([.ref o, .int x1]) (n := 2) (Nat.le_of_ble_eq_true rfl)
  rw [show entryFrame m args 2 = entryFrame m ([.ref o, .int x1] : List Value).toArray 2 from by rw [ha], lg_entry_eq]
  generalize (lg_sl ([.ref o, .int x1]) ++ List.replicate (2 - (lg_sl ([.ref o, .int x1])).length) Slot.unset).toArray = ls at hl ⊢
  generalize hQ : MQ below (va_Qi (fun r u => (r, u) = out) (fun (u : FV × (Nat → FI) × (Nat → FV)) t => xA D cs A (List.flatten [(w_X cs o hX I V), (w_Slt cs (hX 3) h_slt lsa I_slt u.1), (w_Led cs (hX 1) h_now I_now V_now), (w_Pool cs lsa lsh u.2.1 u.2.2 2)]) t) A) args s 0 0 A = Q
  have hret : ∀ (v : Int32) (Vslt9 : FV) (Ips9 : Nat → FI) (Vps9 : Nat → FV) (H : Heap) (locs : List Loc) (pc : Nat) (ls : Array Slot), some (v, Vslt9, Ips9, Vps9) = some out → va_P D vwCl (List.flatten [(w_X cs o hX I V), (w_Slt cs (hX 3) h_slt lsa I_slt Vslt9), (w_Led cs (hX 1) h_now I_now V_now), (w_Pool cs lsa lsh Ips9 Vps9 2)]) H → va_D A (List.flatten [(w_X cs o hX I V), (w_Slt cs (hX 3) h_slt lsa I_slt Vslt9), (w_Led cs (hX 1) h_now I_now V_now), (w_Pool cs lsa lsh Ips9 Vps9 2)]) → va_S A s.heap H locs → decode cX9_keep pc = .ok (.ireturn, 1) → W p l e rm_X_keep s m args below meth c H locs 0 0 Q (F0 m pc ls [.int v]) := by
    intro v Vslt9 Ips9 Vps9 H locs pc ls hf hP hD hS hd
    rw [← hQ]
    exact W.iret (v := v) hx hb hr (fun t ht hW => ⟨⟨v, (Vslt9, Ips9, Vps9), rfl, Option.some.inj hf, by show va_P D vwCl (List.flatten [(w_X cs o hX I V), (w_Slt cs (hX 3) h_slt lsa I_slt Vslt9), (w_Led cs (hX 1) h_now I_now V_now), (w_Pool cs lsa lsh Ips9 Vps9 2)]) t.heap; rw [ht]; exact hP, va_K.moved hW.alike hK, hD⟩, hS.F ht⟩) hS.2.2 hd
  exact v_X_keep hf hx hb hml hown hts in_X9 in_X7 in_X3 g_33 g_19 w_put_246 g_95 hA hP hD hK hN hret ls hl
def X_again (f : Nat) (x1 : Int32) (I : FI) (V : FV) (I_slt : FI) (V_slt : FV) (I_now : FI) (V_now : FV) (LsI : Nat → FI) (LsV : Nat → FV) (I_act : FI) (V_act : FV) : Option (Int32 × FI × FV × FI) := (if x1 < 0 then some ((-1), I_now, V_now, I_act) else (if x1 < 2 then if x1 < 0 ∨ 2 ≤ x1.toNatClampNeg then none else ((if ((V_slt 1) x1.toNatClampNeg) = 0 then some ((-3), I_now, V_now, I_act) else if x1 < 0 ∨ 2 ≤ x1.toNatClampNeg then none else (ob2 (Led_copyFrom f I_now V_now (LsI x1.toNatClampNeg) (LsV x1.toNatClampNeg)) (fun I2 V3 => ob1 (Act_clear f I_act V_act) (fun I5 => some ((I2 1), I2, V3, I5)))))) else some ((-1), I_now, V_now, I_act)))
abbrev rm_X_again : Room := { frames := 2, cells := 0, slots := 0, locals := 48 }
set_option maxHeartbeats 4000000 in
set_option maxRecDepth 100000 in
theorem v_X_again {l : Launch} {p : Program} {e : Env} {s : State} {m : MethodId} {args : Array Value} {below : List Frame} {meth : Method} {c : Code} {Q : State → Prop} {D : va_G} {cs : Nat → ClassId} {o : Nat} {hX : Nat → Nat} {h_slt : Nat → Nat} {lsa : Nat → Nat} {h_now : Nat → Nat} {lsh : Nat → Nat → Nat} {h_act : Nat → Nat} {laa : Nat → Nat} {A : Nat → Prop} {I : FI} {V : FV} {I_slt : FI} {V_slt : FV} {I_now : FI} {V_now : FV} {LsI : Nat → FI} {LsV : Nat → FV} {I_act : FI} {V_act : FV} {x1 : Int32} {f : Nat} {out : Int32 × FI × FV × FI} (hf : X_again f x1 I V I_slt V_slt I_now V_now LsI LsV I_act V_act = some out) (hx : p.tables.exec = Jvm.exec) (hb : c.code = cX9_again) (hml : c.maxLocals = 2) (hown : s.vm.findClass RX9 = some m.cls) (hts : ∀ w ∈ wsX9_again, w.before args s = true) (in_X9 : ∀ w ∈ u_ws RX9 TX9 9, w ∈ wsX9_again) (in_X7 : ∀ w ∈ u_ws RX7 TX7 2, w ∈ wsX9_again) (in_X3 : ∀ w ∈ u_ws RX3 TX3 11, w ∈ wsX9_again) (in_X0 : ∀ w ∈ u_ws RX0 TX0 3, w ∈ wsX9_again) (g_33 : (Cond.fieldLink RX9 33 "DaysLent" "slots" "LDaysLent$Slots;").before args s = true) (g_250 : (Cond.fieldLink RX9 250 "DaysLent$Slots" "used" "[Z").before args s = true) (g_19 : (Cond.fieldLink RX9 19 "DaysLent" "now" "LDaysLent$Ledger;").before args s = true) (g_254 : (Cond.fieldLink RX9 254 "DaysLent$Slots" "kept" "[LDaysLent$Ledger;").before args s = true) (w_copyFrom_258 : CallW rm_X_again s args RX9 RX3 258 yX3_copyFrom cX3_copyFrom 2 none wsX3_copyFrom rm_Led_copyFrom 0 0 1) (g_26 : (Cond.fieldLink RX9 26 "DaysLent" "acts" "LDaysLent$Acts;").before args s = true) (w_clear_88 : CallW rm_X_again s args RX9 RX0 88 yX0_clear cX0_clear 1 none wsX0_clear rm_Act_clear 0 0 0) (g_95 : (Cond.fieldLink RX9 95 "DaysLent$Ledger" "debts" "I").before args s = true) (hA : ∀ q : Nat, s.heap.size ≤ q → A q) (hP : va_P D vwCl (List.flatten [(w_X cs o hX I V), (w_Slt cs (hX 3) h_slt lsa I_slt V_slt), (w_Led cs (hX 1) h_now I_now V_now), (w_Pool cs lsa lsh LsI LsV 2), (w_Act cs (hX 2) h_act laa I_act V_act)]) s.heap) (hD : va_D A (List.flatten [(w_X cs o hX I V), (w_Slt cs (hX 3) h_slt lsa I_slt V_slt), (w_Led cs (hX 1) h_now I_now V_now), (w_Pool cs lsa lsh LsI LsV 2), (w_Act cs (hX 2) h_act laa I_act V_act)])) (hK : va_K D vwCl (tyA cs) s) (hN : yN s) (hret : ∀ (v : Int32) (Inow9 : FI) (Vnow9 : FV) (Iact9 : FI) (H : Heap) (locs : List Loc) (pc : Nat) (ls : Array Slot), some (v, Inow9, Vnow9, Iact9) = some out → va_P D vwCl (List.flatten [(w_X cs o hX I V), (w_Slt cs (hX 3) h_slt lsa I_slt V_slt), (w_Led cs (hX 1) h_now Inow9 Vnow9), (w_Pool cs lsa lsh LsI LsV 2), (w_Act cs (hX 2) h_act laa Iact9 V_act)]) H → va_D A (List.flatten [(w_X cs o hX I V), (w_Slt cs (hX 3) h_slt lsa I_slt V_slt), (w_Led cs (hX 1) h_now Inow9 Vnow9), (w_Pool cs lsa lsh LsI LsV 2), (w_Act cs (hX 2) h_act laa Iact9 V_act)]) → va_S A s.heap H locs → decode cX9_again pc = .ok (.ireturn, 1) → W p l e rm_X_again s m args below meth c H locs 0 0 Q (F0 m pc ls [.int v])) : ∀ ls : Array Slot, lv_has ls 2 [(0, .ref o), (1, .int x1)] → W p l e rm_X_again s m args below meth c s.heap [] 0 0 Q (F0 m 0 ls []) := by
  intro ls hl
  have hS : va_S A s.heap s.heap [] := va_S.rf
  unfold X_again at hf
  refine lv_iload_n hx hb dX9_again_0 rfl (lv_at hl 1 rfl) ?_
  refine lv_if_lt (tgt := 9) hx hb dX9_again_1 (by decide) (fun c1 => ?_) (fun c1 => ?_)
  · replace hf := ip c1 hf
    refine lv_iconst (v := (-1)) hx hb dX9_again_9 (by decide) ?_
    exact hret (-1) I_now V_now I_act _ _ 10 _ hf hP hD hS dX9_again_10
  · replace hf := im c1 hf
    refine lv_iload_n hx hb dX9_again_4 rfl (lv_at hl 1 rfl) ?_
    refine lv_iconst (v := 2) hx hb dX9_again_5 (by decide) ?_
    refine lv_icmp_lt (tgt := 11) hx hb dX9_again_6 (by decide) (fun c6 => ?_) (fun c6 => ?_)
    · replace hf := ip c6 hf
      refine lv_aload_n hx hb dX9_again_11 rfl (lv_at hl 0 rfl) ?_
      refine va_get (D := D) (ci := 9) (v := .ref (hX 3)) (C := RX9) (T := TX9) (N := 9) hx hb hts in_X9 hown hK hP 0 rfl rfl 3 (by decide) g_33 (fun _ h9 => h9) rfl dX9_again_12 ?_
      refine va_get (D := D) (ci := 7) (v := .ref (h_slt 1)) (C := RX7) (T := TX7) (N := 2) hx hb hts in_X7 hown hK hP 1 rfl rfl 1 (by decide) g_250 (fun _ h9 => h9) rfl dX9_again_15 ?_
      refine lv_iload_n hx hb dX9_again_18 rfl (lv_at hl 1 rfl) ?_
      obtain ⟨c19, hf⟩ := gd hf
      refine va_zald (f := (V_slt 1)) hx hb hK hP 3 1 rfl rfl c19 dX9_again_19 ?_
      refine lv_if_ne (tgt := 26) hx hb dX9_again_20 (by decide) (fun c20 => ?_) (fun c20 => ?_)
      · replace hf := im c20 hf
        refine lv_aload_n hx hb dX9_again_26 rfl (lv_at hl 0 rfl) ?_
        refine va_get (D := D) (ci := 9) (v := .ref (hX 1)) (C := RX9) (T := TX9) (N := 9) hx hb hts in_X9 hown hK hP 0 rfl rfl 1 (by decide) g_19 (fun _ h9 => h9) rfl dX9_again_27 ?_
        refine lv_aload_n hx hb dX9_again_30 rfl (lv_at hl 0 rfl) ?_
        refine va_get (D := D) (ci := 9) (v := .ref (hX 3)) (C := RX9) (T := TX9) (N := 9) hx hb hts in_X9 hown hK hP 0 rfl rfl 3 (by decide) g_33 (fun _ h9 => h9) rfl dX9_again_31 ?_
        refine va_get (D := D) (ci := 7) (v := .ref (h_slt 0)) (C := RX7) (T := TX7) (N := 2) hx hb hts in_X7 hown hK hP 1 rfl rfl 0 (by decide) g_254 (fun _ h9 => h9) rfl dX9_again_34 ?_
        refine lv_iload_n hx hb dX9_again_37 rfl (lv_at hl 1 rfl) ?_
        obtain ⟨c38, hf⟩ := gd hf
        refine va_aldq (f := fun i => if i < 2 then some (lsa i) else none) hx hb hK hP 2 3 rfl rfl c38 dX9_again_38 ?_
        refine W.eq (g2 := F0 m 39 ls [.ref (lsa x1.toNatClampNeg), .ref (hX 1)]) (by show F0 m _ ls (va_rf (if x1.toNatClampNeg < 2 then some (lsa x1.toNatClampNeg) else none) :: _) = _; rw [if_pos (Nat.not_le.mp (fun q => c38 (Or.inr q)))]; rfl) ?_
        have hlt : x1.toNatClampNeg < 2 := Nat.not_le.mp (fun q => c38 (Or.inr q))
        have hpp := pool_out (A := [(w_X cs o hX I V), (w_Slt cs (hX 3) h_slt lsa I_slt V_slt), (w_Led cs (hX 1) h_now I_now V_now)]) (B := [(w_Act cs (hX 2) h_act laa I_act V_act)]) (cs := cs) (la := lsa) (lh := lsh) (LI := LsI) (LV := LsV) (n := 2) (i := x1.toNatClampNeg) hlt
        have hPp := pPerm hpp hP
        have hDp := dPerm hpp hD
        have hPc := subB (bs := [(w_X cs o hX I V), (w_Slt cs (hX 3) h_slt lsa I_slt V_slt), (w_Led cs (hX 1) h_now I_now V_now), (w_Led cs (lsa x1.toNatClampNeg) (lsh x1.toNatClampNeg) (LsI x1.toNatClampNeg) (LsV x1.toNatClampNeg)), (w_PoolX cs lsa lsh LsI LsV 2 x1.toNatClampNeg), (w_Act cs (hX 2) h_act laa I_act V_act)]) (ca := [(w_Led cs (hX 1) h_now I_now V_now), (w_Led cs (lsa x1.toNatClampNeg) (lsh x1.toNatClampNeg) (LsI x1.toNatClampNeg) (LsV x1.toNatClampNeg))]) (ra := [(w_X cs o hX I V), (w_Slt cs (hX 3) h_slt lsa I_slt V_slt), (w_PoolX cs lsa lsh LsI LsV 2 x1.toNatClampNeg), (w_Act cs (hX 2) h_act laa I_act V_act)]) [2, 3, 0, 1, 4, 5] (by decide) rfl rfl hPp
        obtain ⟨I2, V3, qr1, hf⟩ := bd2 hf
        have hDc := subD (bs := [(w_X cs o hX I V), (w_Slt cs (hX 3) h_slt lsa I_slt V_slt), (w_Led cs (hX 1) h_now I_now V_now), (w_Led cs (lsa x1.toNatClampNeg) (lsh x1.toNatClampNeg) (LsI x1.toNatClampNeg) (LsV x1.toNatClampNeg)), (w_PoolX cs lsa lsh LsI LsV 2 x1.toNatClampNeg), (w_Act cs (hX 2) h_act laa I_act V_act)]) (ca := [(w_Led cs (hX 1) h_now I_now V_now), (w_Led cs (lsa x1.toNatClampNeg) (lsh x1.toNatClampNeg) (LsI x1.toNatClampNeg) (LsV x1.toNatClampNeg))]) (ra := [(w_X cs o hX I V), (w_Slt cs (hX 3) h_slt lsa I_slt V_slt), (w_PoolX cs lsa lsh LsI LsV 2 x1.toNatClampNeg), (w_Act cs (hX 2) h_act laa I_act V_act)]) [2, 3, 0, 1, 4, 5] (by decide) rfl rfl hDp
        have hFc := xfree hDc hS hA
        refine va_callv (va_runV (As := [.ref (lsa x1.toNatClampNeg)]) (rest := []) ⟨hx, hb, hml, hown, hts⟩ (c_Led_copyFrom l D cs (hX 1) h_now (lsa x1.toNatClampNeg) (lsh x1.toNatClampNeg) _ I_now V_now (LsI x1.toNatClampNeg) (LsV x1.toNatClampNeg) f _ qr1) w_copyFrom_258 ⟨yP_moved, va_recv hK hPc (ci := 3) (q0 := 0) rfl rfl, fun U hU hW => ⟨rfl, by rw [hU], by rw [hU]; exact hPc, va_K.moved hW.alike hK, yN_warm hW hN, hDc.weaken (fun _ _ _ _ => trivial)⟩⟩ rfl rfl hl.1 rfl (lv_room (Nat.le_of_ble_eq_true rfl)) dX9_again_39 ⟨Nat.zero_le _, Nat.zero_le _⟩) hS (fun q _ h9 => hFc q h9) hFc (fun u t H1 locs ht hvm hw hB hz1 hk1 hS => ?_)
        rw [hw] at hB
        obtain ⟨hP1, hK1, hD1⟩ := hB
        rw [ht] at hP1
        obtain ⟨hP, hD⟩ := joinB (bs := [(w_X cs o hX I V), (w_Slt cs (hX 3) h_slt lsa I_slt V_slt), (w_Led cs (hX 1) h_now I_now V_now), (w_Led cs (lsa x1.toNatClampNeg) (lsh x1.toNatClampNeg) (LsI x1.toNatClampNeg) (LsV x1.toNatClampNeg)), (w_PoolX cs lsa lsh LsI LsV 2 x1.toNatClampNeg), (w_Act cs (hX 2) h_act laa I_act V_act)]) (ca := [(w_Led cs (hX 1) h_now I_now V_now), (w_Led cs (lsa x1.toNatClampNeg) (lsh x1.toNatClampNeg) (LsI x1.toNatClampNeg) (LsV x1.toNatClampNeg))]) (ra := [(w_X cs o hX I V), (w_Slt cs (hX 3) h_slt lsa I_slt V_slt), (w_PoolX cs lsa lsh LsI LsV 2 x1.toNatClampNeg), (w_Act cs (hX 2) h_act laa I_act V_act)]) [2, 3, 0, 1, 4, 5] (by decide) rfl rfl hPp hDp hk1 hFc (cb := [(w_Led cs (hX 1) h_now I2 V3), (w_Led cs (lsa x1.toNatClampNeg) (lsh x1.toNatClampNeg) (LsI x1.toNatClampNeg) (LsV x1.toNatClampNeg))]) hP1 hD1 (be := [(w_X cs o hX I V), (w_Slt cs (hX 3) h_slt lsa I_slt V_slt), (w_Led cs (hX 1) h_now I2 V3), (w_Led cs (lsa x1.toNatClampNeg) (lsh x1.toNatClampNeg) (LsI x1.toNatClampNeg) (LsV x1.toNatClampNeg)), (w_PoolX cs lsa lsh LsI LsV 2 x1.toNatClampNeg), (w_Act cs (hX 2) h_act laa I_act V_act)]) [2, 3, 0, 1, 4, 5] (by decide) rfl rfl
        have hpb := (pool_out (A := [(w_X cs o hX I V), (w_Slt cs (hX 3) h_slt lsa I_slt V_slt), (w_Led cs (hX 1) h_now I2 V3)]) (B := [(w_Act cs (hX 2) h_act laa I_act V_act)]) (cs := cs) (la := lsa) (lh := lsh) (LI := LsI) (LV := LsV) (n := 2) (i := x1.toNatClampNeg) hlt).symm
        have hP : va_P D vwCl (List.flatten [(w_X cs o hX I V), (w_Slt cs (hX 3) h_slt lsa I_slt V_slt), (w_Led cs (hX 1) h_now I2 V3), (w_Pool cs lsa lsh LsI LsV 2), (w_Act cs (hX 2) h_act laa I_act V_act)]) H1 := pPerm hpb hP
        have hD : va_D A (List.flatten [(w_X cs o hX I V), (w_Slt cs (hX 3) h_slt lsa I_slt V_slt), (w_Led cs (hX 1) h_now I2 V3), (w_Pool cs lsa lsh LsI LsV 2), (w_Act cs (hX 2) h_act laa I_act V_act)]) := dPerm hpb hD
        refine lv_aload_n hx hb dX9_again_42 rfl (lv_at hl 0 rfl) ?_
        refine va_get (D := D) (ci := 9) (v := .ref (hX 2)) (C := RX9) (T := TX9) (N := 9) hx hb hts in_X9 hown hK hP 0 rfl rfl 2 (by decide) g_26 (fun _ h9 => h9) rfl dX9_again_43 ?_
        have hPc := subB (bs := [(w_X cs o hX I V), (w_Slt cs (hX 3) h_slt lsa I_slt V_slt), (w_Led cs (hX 1) h_now I2 V3), (w_Pool cs lsa lsh LsI LsV 2), (w_Act cs (hX 2) h_act laa I_act V_act)]) (ca := [(w_Act cs (hX 2) h_act laa I_act V_act)]) (ra := [(w_X cs o hX I V), (w_Slt cs (hX 3) h_slt lsa I_slt V_slt), (w_Led cs (hX 1) h_now I2 V3), (w_Pool cs lsa lsh LsI LsV 2)]) [4, 0, 1, 2, 3] (by decide) rfl rfl hP
        obtain ⟨I5, qr4, hf⟩ := bd1 hf
        have hDc := subD (bs := [(w_X cs o hX I V), (w_Slt cs (hX 3) h_slt lsa I_slt V_slt), (w_Led cs (hX 1) h_now I2 V3), (w_Pool cs lsa lsh LsI LsV 2), (w_Act cs (hX 2) h_act laa I_act V_act)]) (ca := [(w_Act cs (hX 2) h_act laa I_act V_act)]) (ra := [(w_X cs o hX I V), (w_Slt cs (hX 3) h_slt lsa I_slt V_slt), (w_Led cs (hX 1) h_now I2 V3), (w_Pool cs lsa lsh LsI LsV 2)]) [4, 0, 1, 2, 3] (by decide) rfl rfl hD
        have hFc := xfree hDc hS hA
        refine va_callv (va_runV (As := []) (rest := []) ⟨hx, hb, hml, hown, hts⟩ (c_Act_clear l D cs (hX 2) h_act laa _ I_act V_act f _ qr4) w_clear_88 ⟨yP_moved, va_recv hK hPc (ci := 0) (q0 := 0) rfl rfl, fun U hU hW => ⟨rfl, by rw [hU], by rw [hU]; exact hPc, va_K.moved hW.alike hK, yN_warm hW hN, hDc.weaken (fun _ _ _ _ => trivial)⟩⟩ rfl rfl hl.1 rfl (lv_room (Nat.le_of_ble_eq_true rfl)) dX9_again_46 ⟨Nat.zero_le _, Nat.zero_le _⟩) hS (fun q _ h9 => hFc q h9) hFc (fun u t H1 locs ht hvm hw hB hz1 hk1 hS => ?_)
        rw [hw] at hB
        obtain ⟨hP1, hK1, hD1⟩ := hB
        rw [ht] at hP1
        obtain ⟨hP, hD⟩ := joinB (bs := [(w_X cs o hX I V), (w_Slt cs (hX 3) h_slt lsa I_slt V_slt), (w_Led cs (hX 1) h_now I2 V3), (w_Pool cs lsa lsh LsI LsV 2), (w_Act cs (hX 2) h_act laa I_act V_act)]) (ca := [(w_Act cs (hX 2) h_act laa I_act V_act)]) (ra := [(w_X cs o hX I V), (w_Slt cs (hX 3) h_slt lsa I_slt V_slt), (w_Led cs (hX 1) h_now I2 V3), (w_Pool cs lsa lsh LsI LsV 2)]) [4, 0, 1, 2, 3] (by decide) rfl rfl hP hD hk1 hFc (cb := [(w_Act cs (hX 2) h_act laa I5 V_act)]) hP1 hD1 (be := [(w_X cs o hX I V), (w_Slt cs (hX 3) h_slt lsa I_slt V_slt), (w_Led cs (hX 1) h_now I2 V3), (w_Pool cs lsa lsh LsI LsV 2), (w_Act cs (hX 2) h_act laa I5 V_act)]) [1, 2, 3, 4, 0] (by decide) rfl rfl
        refine lv_aload_n hx hb dX9_again_49 rfl (lv_at hl 0 rfl) ?_
        refine va_get (D := D) (ci := 9) (v := .ref (hX 1)) (C := RX9) (T := TX9) (N := 9) hx hb hts in_X9 hown hK hP 0 rfl rfl 1 (by decide) g_19 (fun _ h9 => h9) rfl dX9_again_50 ?_
        refine va_get (D := D) (ci := 3) (v := .int (I2 1)) (C := RX3) (T := TX3) (N := 11) hx hb hts in_X3 hown hK hP 4 rfl rfl 1 (by decide) g_95 (fun _ h9 => h9) rfl dX9_again_53 ?_
        exact hret (I2 1) I2 V3 I5 _ _ 56 _ hf hP hD hS dX9_again_56
      · replace hf := ip c20 hf
        refine lv_bipush (v := (-3)) hx hb dX9_again_23 (by decide) ?_
        exact hret (-3) I_now V_now I_act _ _ 25 _ hf hP hD hS dX9_again_25
    · replace hf := im c6 hf
      refine lv_iconst (v := (-1)) hx hb dX9_again_9 (by decide) ?_
      exact hret (-1) I_now V_now I_act _ _ 10 _ hf hP hD hS dX9_again_10
set_option maxHeartbeats 4000000 in
set_option maxRecDepth 100000 in
theorem c_X_again (l : Launch) (D : va_G) (cs : Nat → ClassId) (o : Nat) (hX : Nat → Nat) (h_slt : Nat → Nat) (lsa : Nat → Nat) (h_now : Nat → Nat) (lsh : Nat → Nat → Nat) (h_act : Nat → Nat) (laa : Nat → Nat) (sz : Nat) (I : FI) (V : FV) (I_slt : FI) (V_slt : FV) (I_now : FI) (V_now : FV) (LsI : Nat → FI) (LsV : Nat → FV) (I_act : FI) (V_act : FV) (x1 : Int32) (f : Nat) (out : Int32 × FI × FV × FI) (hf : X_again f x1 I V I_slt V_slt I_now V_now LsI LsV I_act V_act = some out) : Met l yX9_again wsX9_again rm_X_again (va_Pc [.ref o, .int x1] (yP D cs (List.flatten [(w_X cs o hX I V), (w_Slt cs (hX 3) h_slt lsa I_slt V_slt), (w_Led cs (hX 1) h_now I_now V_now), (w_Pool cs lsa lsh LsI LsV 2), (w_Act cs (hX 2) h_act laa I_act V_act)]) sz)) (va_Qi (fun r u => (r, u) = out) (fun (u : FI × FV × FI) t => xA D cs (va_A (List.flatten [(w_X cs o hX I V), (w_Slt cs (hX 3) h_slt lsa I_slt V_slt), (w_Led cs (hX 1) h_now I_now V_now), (w_Pool cs lsa lsh LsI LsV 2), (w_Act cs (hX 2) h_act laa I_act V_act)]) sz) (List.flatten [(w_X cs o hX I V), (w_Slt cs (hX 3) h_slt lsa I_slt V_slt), (w_Led cs (hX 1) h_now u.1 u.2.1), (w_Pool cs lsa lsh LsI LsV 2), (w_Act cs (hX 2) h_act laa u.2.2 V_act)]) t) (va_A (List.flatten [(w_X cs o hX I V), (w_Slt cs (hX 3) h_slt lsa I_slt V_slt), (w_Led cs (hX 1) h_now I_now V_now), (w_Pool cs lsa lsh LsI LsV 2), (w_Act cs (hX 2) h_act laa I_act V_act)]) sz)) 0 0 (va_A (List.flatten [(w_X cs o hX I V), (w_Slt cs (hX 3) h_slt lsa I_slt V_slt), (w_Led cs (hX 1) h_now I_now V_now), (w_Pool cs lsa lsh LsI LsV 2), (w_Act cs (hX 2) h_act laa I_act V_act)]) sz) := by
  refine Met.ofW (cc := cX9_again) (maxL := 2) (ret := (some .int)) (by decide) rfl ?_
  intro p e s m args below meth c s₁ B hml hv
  obtain ⟨ha, hsz, hP, hK, hN, hD0⟩ := hv
  have hx := B.exec
  have hb := B.bytes
  have hr := B.returns
  have hts := atoms_spec (ws := wsX9_again) B.pre
  have hown : s.vm.findClass RX9 = some m.cls := findClass_of_methodNamed B.named
  have hlocks := B.notSynchronized
  have in_X9 : ∀ w ∈ u_ws RX9 TX9 9, w ∈ wsX9_again := fun w h => List.mem_cons_of_mem _ (List.mem_append_left _ (List.mem_append_left _ (List.mem_append_left _ (List.mem_append_right _ h))))
  have in_X7 : ∀ w ∈ u_ws RX7 TX7 2, w ∈ wsX9_again := fun w h => List.mem_cons_of_mem _ (List.mem_append_left _ (List.mem_append_left _ (List.mem_append_right _ h)))
  have in_X3 : ∀ w ∈ u_ws RX3 TX3 11, w ∈ wsX9_again := fun w h => List.mem_cons_of_mem _ (List.mem_append_left _ (List.mem_append_right _ h))
  have in_X0 : ∀ w ∈ u_ws RX0 TX0 3, w ∈ wsX9_again := fun w h => List.mem_cons_of_mem _ (List.mem_append_right _ h)
  have g_33 := hts (Cond.fieldLink RX9 33 "DaysLent" "slots" "LDaysLent$Slots;") (by decide +kernel)
  have g_250 := hts (Cond.fieldLink RX9 250 "DaysLent$Slots" "used" "[Z") (by decide +kernel)
  have g_19 := hts (Cond.fieldLink RX9 19 "DaysLent" "now" "LDaysLent$Ledger;") (by decide +kernel)
  have g_254 := hts (Cond.fieldLink RX9 254 "DaysLent$Slots" "kept" "[LDaysLent$Ledger;") (by decide +kernel)
  have w_copyFrom_258 := cwV (R := rm_X_again) (s := s) (args := args) (rm := rm_Led_copyFrom) (mc := 0) (ms := 0) 1 hts gX9_again_X3_copyFrom rfl rfl rfl (by decide +kernel) ⟨Nat.le_of_ble_eq_true rfl, Nat.le_of_ble_eq_true rfl⟩
  have g_26 := hts (Cond.fieldLink RX9 26 "DaysLent" "acts" "LDaysLent$Acts;") (by decide +kernel)
  have w_clear_88 := cwV (R := rm_X_again) (s := s) (args := args) (rm := rm_Act_clear) (mc := 0) (ms := 0) 0 hts gX9_again_X0_clear rfl rfl rfl (by decide +kernel) ⟨Nat.le_of_ble_eq_true rfl, Nat.le_of_ble_eq_true rfl⟩
  have g_95 := hts (Cond.fieldLink RX9 95 "DaysLent$Ledger" "debts" "I") (by decide +kernel)
  subst hsz
  have hD := hD0.self (sz := s.heap.size)
  generalize hAe : va_A (List.flatten [(w_X cs o hX I V), (w_Slt cs (hX 3) h_slt lsa I_slt V_slt), (w_Led cs (hX 1) h_now I_now V_now), (w_Pool cs lsa lsh LsI LsV 2), (w_Act cs (hX 2) h_act laa I_act V_act)]) s.heap.size = A at hD ⊢
  have hA : ∀ q : Nat, s.heap.size ≤ q → A q := fun q h => by rw [← hAe]; exact Or.inr h
  have hl := lv_entry ([.ref o, .int x1]) (n := 2) (Nat.le_of_ble_eq_true rfl)
  rw [show entryFrame m args 2 = entryFrame m ([.ref o, .int x1] : List Value).toArray 2 from by rw [ha], lg_entry_eq]
  generalize (lg_sl ([.ref o, .int x1]) ++ List.replicate (2 - (lg_sl ([.ref o, .int x1])).length) Slot.unset).toArray = ls at hl ⊢
  generalize hQ : MQ below (va_Qi (fun r u => (r, u) = out) (fun (u : FI × FV × FI) t => xA D cs A (List.flatten [(w_X cs o hX I V), (w_Slt cs (hX 3) h_slt lsa I_slt V_slt), (w_Led cs (hX 1) h_now u.1 u.2.1), (w_Pool cs lsa lsh LsI LsV 2), (w_Act cs (hX 2) h_act laa u.2.2 V_act)]) t) A) args s 0 0 A = Q
  have hret : ∀ (v : Int32) (Inow9 : FI) (Vnow9 : FV) (Iact9 : FI) (H : Heap) (locs : List Loc) (pc : Nat) (ls : Array Slot), some (v, Inow9, Vnow9, Iact9) = some out → va_P D vwCl (List.flatten [(w_X cs o hX I V), (w_Slt cs (hX 3) h_slt lsa I_slt V_slt), (w_Led cs (hX 1) h_now Inow9 Vnow9), (w_Pool cs lsa lsh LsI LsV 2), (w_Act cs (hX 2) h_act laa Iact9 V_act)]) H → va_D A (List.flatten [(w_X cs o hX I V), (w_Slt cs (hX 3) h_slt lsa I_slt V_slt), (w_Led cs (hX 1) h_now Inow9 Vnow9), (w_Pool cs lsa lsh LsI LsV 2), (w_Act cs (hX 2) h_act laa Iact9 V_act)]) → va_S A s.heap H locs → decode cX9_again pc = .ok (.ireturn, 1) → W p l e rm_X_again s m args below meth c H locs 0 0 Q (F0 m pc ls [.int v]) := by
    intro v Inow9 Vnow9 Iact9 H locs pc ls hf hP hD hS hd
    rw [← hQ]
    exact W.iret (v := v) hx hb hr (fun t ht hW => ⟨⟨v, (Inow9, Vnow9, Iact9), rfl, Option.some.inj hf, by show va_P D vwCl (List.flatten [(w_X cs o hX I V), (w_Slt cs (hX 3) h_slt lsa I_slt V_slt), (w_Led cs (hX 1) h_now Inow9 Vnow9), (w_Pool cs lsa lsh LsI LsV 2), (w_Act cs (hX 2) h_act laa Iact9 V_act)]) t.heap; rw [ht]; exact hP, va_K.moved hW.alike hK, hD⟩, hS.F ht⟩) hS.2.2 hd
  exact v_X_again hf hx hb hml hown hts in_X9 in_X7 in_X3 in_X0 g_33 g_250 g_19 g_254 w_copyFrom_258 g_26 w_clear_88 g_95 hA hP hD hK hN hret ls hl
