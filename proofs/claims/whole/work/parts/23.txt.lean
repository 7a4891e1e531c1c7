def Txt_append_L18 {ρ : Type} (f : Nat) (x2 : Int64) (k_18 : FI → FV → Option ρ) : Nat → Int32 → FI → FV → Option ρ
  | 0, _, _, _ => none
  | n_18 + 1, x4_18, Itxt_18, Vtxt_18 => (if x4_18 < 0 then (k_18 Itxt_18 Vtxt_18) else if (Itxt_18 1) < 0 ∨ 80 ≤ (Itxt_18 1).toNatClampNeg then none else (nm (va_up Vtxt_18 0 (upd (Vtxt_18 0) (Itxt_18 1).toNatClampNeg (vp_nar .byte ((((x2.toUInt64 >>> ((8 * x4_18).toInt64.toUInt64 &&& Int64.toUInt64 63)).toInt64).toInt32).toInt8.toInt32)))) (fun V1 => nm (va_up Itxt_18 1 ((Itxt_18 1) + 1)) (fun I2 => (Txt_append_L18 f x2 k_18 n_18 (x4_18 + (-1)) I2 V1)))))
def Txt_append (f : Nat) (x1 : Int32) (x2 : Int64) (I_txt : FI) (V_txt : FV) : Option (Int32 × FI × FV) := (if ((I_txt 1) + x1) ≤ 80 then (Txt_append_L18 f x2 (fun (Itxt_18 : FI) (Vtxt_18 : FV) => some (1, Itxt_18, Vtxt_18)) f (x1 - 1) I_txt V_txt) else some (0, I_txt, V_txt))
abbrev rm_Txt_append : Room := { frames := 0, cells := 0, slots := 0, locals := 0 }
set_option maxHeartbeats 4000000 in
set_option maxRecDepth 100000 in
theorem v_Txt_append {l : Launch} {p : Program} {e : Env} {s : State} {m : MethodId} {args : Array Value} {below : List Frame} {meth : Method} {c : Code} {Q : State → Prop} {D : va_G} {cs : Nat → ClassId} {o_txt : Nat} {h_txt : Nat → Nat} {A : Nat → Prop} {I_txt : FI} {V_txt : FV} {x1 : Int32} {x2 : Int64} {f : Nat} {out : Int32 × FI × FV} (hf : Txt_append f x1 x2 I_txt V_txt = some out) (hx : p.tables.exec = Jvm.exec) (hb : c.code = cX8_append) (hml : c.maxLocals = 5) (hown : s.vm.findClass RX8 = some m.cls) (hts : ∀ w ∈ wsX8_append, w.before args s = true) (in_X8 : ∀ w ∈ u_ws RX8 TX8 2, w ∈ wsX8_append) (g_15 : (Cond.fieldLink RX8 15 "DaysLent$Text" "length" "I").before args s = true) (g_9 : (Cond.fieldLink RX8 9 "DaysLent$Text" "bytes" "[B").before args s = true) (hA : ∀ q : Nat, s.heap.size ≤ q → A q) (hP : va_P D vwCl (List.flatten [(w_Txt cs o_txt h_txt I_txt V_txt)]) s.heap) (hD : va_D A (List.flatten [(w_Txt cs o_txt h_txt I_txt V_txt)])) (hK : va_K D vwCl (tyA cs) s) (hN : yN s) (hret : ∀ (v : Int32) (Itxt9 : FI) (Vtxt9 : FV) (H : Heap) (locs : List Loc) (pc : Nat) (ls : Array Slot), narrow .boolean (.int v) = .int v → some (v, Itxt9, Vtxt9) = some out → va_P D vwCl (List.flatten [(w_Txt cs o_txt h_txt Itxt9 Vtxt9)]) H → va_D A (List.flatten [(w_Txt cs o_txt h_txt Itxt9 Vtxt9)]) → va_S A s.heap H locs → decode cX8_append pc = .ok (.ireturn, 1) → W p l e rm_Txt_append s m args below meth c H locs 0 0 Q (F0 m pc ls [.int v])) : ∀ ls : Array Slot, lv_has ls 5 [(0, .ref o_txt), (1, .int x1), (2, .long x2)] → W p l e rm_Txt_append s m args below meth c s.heap [] 0 0 Q (F0 m 0 ls []) := by
  intro ls hl
  have hS : va_S A s.heap s.heap [] := va_S.rf
  unfold Txt_append at hf
  refine lv_aload_n hx hb dX8_append_0 rfl (lv_at hl 0 rfl) ?_
  refine va_get (D := D) (ci := 8) (v := .int (I_txt 1)) (C := RX8) (T := TX8) (N := 2) hx hb hts in_X8 hown hK hP 0 rfl rfl 1 (by decide) g_15 (fun _ h9 => h9) rfl dX8_append_1 ?_
  refine lv_iload_n hx hb dX8_append_4 rfl (lv_at hl 1 rfl) ?_
  refine lv_iadd hx hb dX8_append_5 ?_
  refine lv_bipush (v := 80) hx hb dX8_append_6 (by decide) ?_
  refine lv_icmp_le (tgt := 13) hx hb dX8_append_8 (by decide) (fun c8 => ?_) (fun c8 => ?_)
  · replace hf := ip c8 hf
    refine lv_iload_n hx hb dX8_append_13 rfl (lv_at hl 1 rfl) ?_
    refine lv_iconst (v := 1) hx hb dX8_append_14 (by decide) ?_
    refine lv_isub hx hb dX8_append_15 ?_
    refine lv_istore (lv' := [(4, .int (x1 - 1)), (0, .ref o_txt), (1, .int x1), (2, .long x2)]) hx hb dX8_append_16 hl (by decide) rfl (fun ls hl => ?_)
    have L18 : ∀ (k_18 : FI → FV → Option (Int32 × FI × FV)) (hk_18 : ∀ (Itxt_18 : FI) (Vtxt_18 : FV), k_18 Itxt_18 Vtxt_18 = some out → ∀ (H : Heap) (locs : List Loc), va_P D vwCl (List.flatten [(w_Txt cs o_txt h_txt Itxt_18 Vtxt_18)]) H → va_D A (List.flatten [(w_Txt cs o_txt h_txt Itxt_18 Vtxt_18)]) → va_S A s.heap H locs → ∀ ls : Array Slot, lv_has ls 5 [] → W p l e rm_Txt_append s m args below meth c H locs 0 0 Q (F0 m 57 ls [])), ∀ (n_18 : Nat) (x4_18 : Int32) (Itxt_18 : FI) (Vtxt_18 : FV), Txt_append_L18 f x2 k_18 n_18 x4_18 Itxt_18 Vtxt_18 = some out → ∀ (H : Heap) (locs : List Loc), va_P D vwCl (List.flatten [(w_Txt cs o_txt h_txt Itxt_18 Vtxt_18)]) H → va_D A (List.flatten [(w_Txt cs o_txt h_txt Itxt_18 Vtxt_18)]) → va_S A s.heap H locs → ∀ ls : Array Slot, lv_has ls 5 [(0, .ref o_txt), (2, .long x2), (4, .int x4_18)] → W p l e rm_Txt_append s m args below meth c H locs 0 0 Q (F0 m 18 ls []) := by
      intro k_18 hk_18 n_18
      induction n_18 with
      | zero => intro x4_18 Itxt_18 Vtxt_18 hf; rw [Txt_append_L18] at hf; cases hf
      | succ n_18 ih_18 =>
        intro x4_18 Itxt_18 Vtxt_18 hf H locs hP hD hS ls hl
        rw [Txt_append_L18] at hf
        refine lv_iload hx hb dX8_append_18 (lv_at hl 2 rfl) ?_
        refine lv_if_lt (tgt := 57) hx hb dX8_append_20 (by decide) (fun c20 => ?_) (fun c20 => ?_)
        · replace hf := ip c20 hf
          exact hk_18 Itxt_18 Vtxt_18 hf _ _ hP hD hS _ (lv_sub hl [] rfl)
        · replace hf := im c20 hf
          refine lv_aload_n hx hb dX8_append_23 rfl (lv_at hl 0 rfl) ?_
          refine va_get (D := D) (ci := 8) (v := .ref (h_txt 0)) (C := RX8) (T := TX8) (N := 2) hx hb hts in_X8 hown hK hP 0 rfl rfl 0 (by decide) g_9 (fun _ h9 => h9) rfl dX8_append_24 ?_
          refine lv_aload_n hx hb dX8_append_27 rfl (lv_at hl 0 rfl) ?_
          refine va_get (D := D) (ci := 8) (v := .int (Itxt_18 1)) (C := RX8) (T := TX8) (N := 2) hx hb hts in_X8 hown hK hP 0 rfl rfl 1 (by decide) g_15 (fun _ h9 => h9) rfl dX8_append_28 ?_
          refine lv_lload_n hx hb dX8_append_31 rfl (lv_at hl 1 rfl) ?_
          refine lv_bipush (v := 8) hx hb dX8_append_32 (by decide) ?_
          refine lv_iload hx hb dX8_append_34 (lv_at hl 2 rfl) ?_
          refine lv_imul hx hb dX8_append_36 ?_
          refine lv_lushr (v := (x2.toUInt64 >>> ((8 * x4_18).toInt64.toUInt64 &&& Int64.toUInt64 63)).toInt64) hx hb dX8_append_37 rfl ?_
          refine lv_l2i (v := ((x2.toUInt64 >>> ((8 * x4_18).toInt64.toUInt64 &&& Int64.toUInt64 63)).toInt64).toInt32) hx hb dX8_append_38 rfl ?_
          refine lv_i2b (v := (((x2.toUInt64 >>> ((8 * x4_18).toInt64.toUInt64 &&& Int64.toUInt64 63)).toInt64).toInt32).toInt8.toInt32) hx hb dX8_append_39 rfl ?_
          obtain ⟨c40, hf⟩ := gd hf
          refine va_bast (f := (Vtxt_18 0)) hx hb hK hP hD hS 1 2 rfl rfl c40 dX8_append_40 (fun H locs hP hD hS => ?_)
          obtain ⟨V1, eV1, hf⟩ := nme hf
          have hP : va_P D vwCl (List.flatten [(w_Txt cs o_txt h_txt Itxt_18 V1)]) H := by rw [eV1]; exact hP
          have hD : va_D A (List.flatten [(w_Txt cs o_txt h_txt Itxt_18 V1)]) := by rw [eV1]; exact hD
          refine lv_aload_n hx hb dX8_append_41 rfl (lv_at hl 0 rfl) ?_
          refine lv_dup hx hb dX8_append_42 rfl ?_
          refine va_get (D := D) (ci := 8) (v := .int (Itxt_18 1)) (C := RX8) (T := TX8) (N := 2) hx hb hts in_X8 hown hK hP 0 rfl rfl 1 (by decide) g_15 (fun _ h9 => h9) rfl dX8_append_43 ?_
          refine lv_iconst (v := 1) hx hb dX8_append_46 (by decide) ?_
          refine lv_iadd hx hb dX8_append_47 ?_
          refine va_put (D := D) (ci := 8) (v := .int ((Itxt_18 1) + 1)) (ty := .int) (C := RX8) (T := TX8) (N := 2) hx hb hts in_X8 tyX8 tyX8_ok nmX8 hown hK hP hD hS 0 rfl rfl 1 (by decide) g_15 (fun _ h9 => h9) rfl (by decide +kernel) rfl rfl (Nat.le_of_ble_eq_true rfl) dX8_append_48 (fun H locs hP hD hS => ?_)
          obtain ⟨I2, eI2, hf⟩ := nme hf
          have hP : va_P D vwCl (List.flatten [(w_Txt cs o_txt h_txt I2 V1)]) H := by rw [eI2]; exact hP
          have hD : va_D A (List.flatten [(w_Txt cs o_txt h_txt I2 V1)]) := by rw [eI2]; exact hD
          refine lv_iinc (v := (x4_18 + (-1))) (lv' := [(4, .int (x4_18 + (-1))), (0, .ref o_txt), (2, .long x2)]) hx hb dX8_append_51 hl (k := 2) rfl (by rfl) (by decide) rfl (fun ls hl => ?_)
          refine lv_goto (tgt := 18) hx hb dX8_append_54 (by decide) ?_
          exact ih_18 (x4_18 + (-1)) I2 V1 hf _ _ hP hD hS _ (lv_sub hl [1, 2, 0] rfl)
    refine L18 _ (fun Itxt_18 Vtxt_18 hf H locs hP hD hS ls hl => ?_) f (x1 - 1) I_txt V_txt hf _ _ hP hD hS _ (lv_sub hl [1, 3, 0] rfl)
    refine lv_iconst (v := 1) hx hb dX8_append_57 (by decide) ?_
    exact hret 1 Itxt_18 Vtxt_18 _ _ 58 _ rfl hf hP hD hS dX8_append_58
  · replace hf := im c8 hf
    refine lv_iconst (v := 0) hx hb dX8_append_11 (by decide) ?_
    exact hret 0 I_txt V_txt _ _ 12 _ rfl hf hP hD hS dX8_append_12
set_option maxHeartbeats 4000000 in
set_option maxRecDepth 100000 in
theorem c_Txt_append (l : Launch) (D : va_G) (cs : Nat → ClassId) (o_txt : Nat) (h_txt : Nat → Nat) (sz : Nat) (I_txt : FI) (V_txt : FV) (x1 : Int32) (x2 : Int64) (f : Nat) (out : Int32 × FI × FV) (hf : Txt_append f x1 x2 I_txt V_txt = some out) : Met l yX8_append wsX8_append rm_Txt_append (va_Pc [.ref o_txt, .int x1, .long x2] (yP D cs (List.flatten [(w_Txt cs o_txt h_txt I_txt V_txt)]) sz)) (va_Qi (fun r u => (r, u) = out) (fun (u : FI × FV) t => xA D cs (va_A (List.flatten [(w_Txt cs o_txt h_txt I_txt V_txt)]) sz) (List.flatten [(w_Txt cs o_txt h_txt u.1 u.2)]) t) (va_A (List.flatten [(w_Txt cs o_txt h_txt I_txt V_txt)]) sz)) 0 0 (va_A (List.flatten [(w_Txt cs o_txt h_txt I_txt V_txt)]) sz) := by
  refine Met.ofW (cc := cX8_append) (maxL := 5) (ret := (some .boolean)) (by decide) rfl ?_
  intro p e s m args below meth c s₁ B hml hv
  obtain ⟨ha, hsz, hP, hK, hN, hD0⟩ := hv
  have hx := B.exec
  have hb := B.bytes
  have hr := B.returns
  have hts := atoms_spec (ws := wsX8_append) B.pre
  have hown : s.vm.findClass RX8 = some m.cls := findClass_of_methodNamed B.named
  have hlocks := B.notSynchronized
  have in_X8 : ∀ w ∈ u_ws RX8 TX8 2, w ∈ wsX8_append := fun w h => List.mem_cons_of_mem _ (List.mem_append_right _ h)
  have g_15 := hts (Cond.fieldLink RX8 15 "DaysLent$Text" "length" "I") (by decide +kernel)
  have g_9 := hts (Cond.fieldLink RX8 9 "DaysLent$Text" "bytes" "[B") (by decide +kernel)
  subst hsz
  have hD := hD0.self (sz := s.heap.size)
  generalize hAe : va_A (List.flatten [(w_Txt cs o_txt h_txt I_txt V_txt)]) s.heap.size = A at hD ⊢
  have hA : ∀ q : Nat, s.heap.size ≤ q → A q := fun q h => by rw [← hAe]; exact Or.inr h
  have hl := lv_entry ([.ref o_txt, .int x1, .long x2]) (n := 5) (Nat.le_of_ble_eq_true rfl)
  rw [show entryFrame m args 5 = entryFrame m ([.ref o_txt, .int x1, .long x2] : List Value).toArray 5 from by rw [ha], lg_entry_eq]
  generalize (lg_sl ([.ref o_txt, .int x1, .long x2]) ++ List.replicate (5 - (lg_sl ([.ref o_txt, .int x1, .long x2])).length) Slot.unset).toArray = ls at hl ⊢
  generalize hQ : MQ below (va_Qi (fun r u => (r, u) = out) (fun (u : FI × FV) t => xA D cs A (List.flatten [(w_Txt cs o_txt h_txt u.1 u.2)]) t) A) args s 0 0 A = Q
  have hret : ∀ (v : Int32) (Itxt9 : FI) (Vtxt9 : FV) (H : Heap) (locs : List Loc) (pc : Nat) (ls : Array Slot), narrow .boolean (.int v) = .int v → some (v, Itxt9, Vtxt9) = some out → va_P D vwCl (List.flatten [(w_Txt cs o_txt h_txt Itxt9 Vtxt9)]) H → va_D A (List.flatten [(w_Txt cs o_txt h_txt Itxt9 Vtxt9)]) → va_S A s.heap H locs → decode cX8_append pc = .ok (.ireturn, 1) → W p l e rm_Txt_append s m args below meth c H locs 0 0 Q (F0 m pc ls [.int v]) := by
    intro v Itxt9 Vtxt9 H locs pc ls hz hf hP hD hS hd
    rw [← hQ]
    exact W.zret (v := v) hx hb hr hz (fun t ht hW => ⟨⟨v, (Itxt9, Vtxt9), rfl, Option.some.inj hf, by show va_P D vwCl (List.flatten [(w_Txt cs o_txt h_txt Itxt9 Vtxt9)]) t.heap; rw [ht]; exact hP, va_K.moved hW.alike hK, hD⟩, hS.F ht⟩) hS.2.2 hd
  exact v_Txt_append hf hx hb hml hown hts in_X8 g_15 g_9 hA hP hD hK hN hret ls hl
def Txt_bytesOfPart (f : Nat) (x1 : Int32) (I_txt : FI) (V_txt : FV) : Option (Int32) := if x1 < 0 ∨ 80 ≤ x1.toNatClampNeg then none else ((if ((V_txt 0) x1.toNatClampNeg) = 80 then some 4 else some 6))
abbrev rm_Txt_bytesOfPart : Room := { frames := 0, cells := 0, slots := 0, locals := 0 }
set_option maxHeartbeats 4000000 in
set_option maxRecDepth 100000 in
theorem v_Txt_bytesOfPart {l : Launch} {p : Program} {e : Env} {s : State} {m : MethodId} {args : Array Value} {below : List Frame} {meth : Method} {c : Code} {Q : State → Prop} {D : va_G} {cs : Nat → ClassId} {o_txt : Nat} {h_txt : Nat → Nat} {I_txt : FI} {V_txt : FV} {x1 : Int32} {f : Nat} {out : Int32} (hf : Txt_bytesOfPart f x1 I_txt V_txt = some out) (hx : p.tables.exec = Jvm.exec) (hb : c.code = cX8_bytesOfPart) (hml : c.maxLocals = 2) (hown : s.vm.findClass RX8 = some m.cls) (hts : ∀ w ∈ wsX8_bytesOfPart, w.before args s = true) (in_X8 : ∀ w ∈ u_ws RX8 TX8 2, w ∈ wsX8_bytesOfPart) (g_9 : (Cond.fieldLink RX8 9 "DaysLent$Text" "bytes" "[B").before args s = true) (hP : va_P D vwCl (List.flatten [(w_Txt cs o_txt h_txt I_txt V_txt)]) s.heap) (hK : va_K D vwCl (tyA cs) s) (hN : yN s) (hret : ∀ (v : Int32) (pc : Nat) (ls : Array Slot), some v = some out → decode cX8_bytesOfPart pc = .ok (.ireturn, 1) → W p l e rm_Txt_bytesOfPart s m args below meth c s.heap [] 0 0 Q (F0 m pc ls [.int v])) : ∀ ls : Array Slot, lv_has ls 2 [(0, .ref o_txt), (1, .int x1)] → W p l e rm_Txt_bytesOfPart s m args below meth c s.heap [] 0 0 Q (F0 m 0 ls []) := by
  intro ls hl
  unfold Txt_bytesOfPart at hf
  refine lv_aload_n hx hb dX8_bytesOfPart_0 rfl (lv_at hl 0 rfl) ?_
  refine va_get (D := D) (ci := 8) (v := .ref (h_txt 0)) (C := RX8) (T := TX8) (N := 2) hx hb hts in_X8 hown hK hP 0 rfl rfl 0 (by decide) g_9 (fun _ h9 => h9) rfl dX8_bytesOfPart_1 ?_
  refine lv_iload_n hx hb dX8_bytesOfPart_4 rfl (lv_at hl 1 rfl) ?_
  obtain ⟨c5, hf⟩ := gd hf
  refine va_bald (f := (V_txt 0)) hx hb hK hP 1 2 rfl rfl c5 dX8_bytesOfPart_5 ?_
  refine lv_bipush (v := 80) hx hb dX8_bytesOfPart_6 (by decide) ?_
  refine lv_icmp_ne (tgt := 15) hx hb dX8_bytesOfPart_8 (by decide) (fun c8 => ?_) (fun c8 => ?_)
  · replace hf := im c8 hf
    refine lv_bipush (v := 6) hx hb dX8_bytesOfPart_15 (by decide) ?_
    exact hret 6 17 _ hf dX8_bytesOfPart_17
  · replace hf := ip c8 hf
    refine lv_iconst (v := 4) hx hb dX8_bytesOfPart_11 (by decide) ?_
    refine lv_goto (tgt := 17) hx hb dX8_bytesOfPart_12 (by decide) ?_
    exact hret 4 17 _ hf dX8_bytesOfPart_17
set_option maxHeartbeats 4000000 in
set_option maxRecDepth 100000 in
theorem c_Txt_bytesOfPart (l : Launch) (D : va_G) (cs : Nat → ClassId) (o_txt : Nat) (h_txt : Nat → Nat) (I_txt : FI) (V_txt : FV) (x1 : Int32) (f : Nat) (out : Int32) (hf : Txt_bytesOfPart f x1 I_txt V_txt = some out) : Met l yX8_bytesOfPart wsX8_bytesOfPart rm_Txt_bytesOfPart (va_Pc [.ref o_txt, .int x1] (yR D cs (List.flatten [(w_Txt cs o_txt h_txt I_txt V_txt)]))) (vp_Si (fun r => r = out)) 0 0 (fun _ => False) := by
  refine Met.ofW (cc := cX8_bytesOfPart) (maxL := 2) (ret := (some .int)) (by decide) rfl ?_
  intro p e s m args below meth c s₁ B hml hv
  obtain ⟨ha, hP, hK, hN⟩ := hv
  have hx := B.exec
  have hb := B.bytes
  have hr := B.returns
  have hts := atoms_spec (ws := wsX8_bytesOfPart) B.pre
  have hown : s.vm.findClass RX8 = some m.cls := findClass_of_methodNamed B.named
  have hlocks := B.notSynchronized
  have in_X8 : ∀ w ∈ u_ws RX8 TX8 2, w ∈ wsX8_bytesOfPart := fun w h => List.mem_cons_of_mem _ (List.mem_append_right _ h)
  have g_9 := hts (Cond.fieldLink RX8 9 "DaysLent$Text" "bytes" "[B") (by decide +kernel)
  have hl := lv_entry ([.ref o_txt, .int x1]) (n := 2) (Nat.le_of_ble_eq_true rfl)
  rw [show entryFrame m args 2 = entryFrame m ([.ref o_txt, .int x1] : List Value).toArray 2 from by rw [ha], lg_entry_eq]
  generalize (lg_sl ([.ref o_txt, .int x1]) ++ List.replicate (2 - (lg_sl ([.ref o_txt, .int x1])).length) Slot.unset).toArray = ls at hl ⊢
  generalize hQ : MQ below (vp_Si (fun r => r = out)) args s 0 0 (fun _ => False) = Q
  have hret : ∀ (v : Int32) (pc : Nat) (ls : Array Slot), some v = some out → decode cX8_bytesOfPart pc = .ok (.ireturn, 1) → W p l e rm_Txt_bytesOfPart s m args below meth c s.heap [] 0 0 Q (F0 m pc ls [.int v]) := by
    intro v pc ls hf hd
    rw [← hQ]
    exact W.iret (v := v) hx hb hr (fun t ht hW => ⟨v, rfl, Option.some.inj hf, ht⟩) (fun q h => by cases h) hd
  exact v_Txt_bytesOfPart hf hx hb hml hown hts in_X8 g_9 hP hK hN hret ls hl
def Txt_mayBegin (f : Nat) (x0 : Int32) (x1 : Int32) (x2 : Int32) : Option (Int32) := (if x0 = 80 then (if 6 ≤ x1 then some 0 else some 1) else (if x0 = 68 then (if x1 < 2 then some 0 else (if 8 ≤ x2 then some 0 else some 1)) else some 0))
abbrev rm_Txt_mayBegin : Room := { frames := 0, cells := 0, slots := 0, locals := 0 }
set_option maxHeartbeats 4000000 in
set_option maxRecDepth 100000 in
theorem v_Txt_mayBegin {l : Launch} {p : Program} {e : Env} {s : State} {m : MethodId} {args : Array Value} {below : List Frame} {meth : Method} {c : Code} {Q : State → Prop} {x0 : Int32} {x1 : Int32} {x2 : Int32} {f : Nat} {out : Int32} (hf : Txt_mayBegin f x0 x1 x2 = some out) (hx : p.tables.exec = Jvm.exec) (hb : c.code = cX8_mayBegin) (hml : c.maxLocals = 3) (hown : s.vm.findClass RX8 = some m.cls) (hts : ∀ w ∈ wsX8_mayBegin, w.before args s = true) (hret : ∀ (v : Int32) (pc : Nat) (ls : Array Slot), narrow .boolean (.int v) = .int v → some v = some out → decode cX8_mayBegin pc = .ok (.ireturn, 1) → W p l e rm_Txt_mayBegin s m args below meth c s.heap [] 0 0 Q (F0 m pc ls [.int v])) : ∀ ls : Array Slot, lv_has ls 3 [(0, .int x0), (1, .int x1), (2, .int x2)] → W p l e rm_Txt_mayBegin s m args below meth c s.heap [] 0 0 Q (F0 m 0 ls []) := by
  intro ls hl
  unfold Txt_mayBegin at hf
  refine lv_iload_n hx hb dX8_mayBegin_0 rfl (lv_at hl 0 rfl) ?_
  refine lv_bipush (v := 80) hx hb dX8_mayBegin_1 (by decide) ?_
  refine lv_icmp_ne (tgt := 18) hx hb dX8_mayBegin_3 (by decide) (fun c3 => ?_) (fun c3 => ?_)
  · replace hf := im c3 hf
    refine lv_iload_n hx hb dX8_mayBegin_18 rfl (lv_at hl 0 rfl) ?_
    refine lv_bipush (v := 68) hx hb dX8_mayBegin_19 (by decide) ?_
    refine lv_icmp_ne (tgt := 39) hx hb dX8_mayBegin_21 (by decide) (fun c21 => ?_) (fun c21 => ?_)
    · replace hf := im c21 hf
      refine lv_iconst (v := 0) hx hb dX8_mayBegin_39 (by decide) ?_
      exact hret 0 40 _ rfl hf dX8_mayBegin_40
    · replace hf := ip c21 hf
      refine lv_iload_n hx hb dX8_mayBegin_24 rfl (lv_at hl 1 rfl) ?_
      refine lv_iconst (v := 2) hx hb dX8_mayBegin_25 (by decide) ?_
      refine lv_icmp_lt (tgt := 39) hx hb dX8_mayBegin_26 (by decide) (fun c26 => ?_) (fun c26 => ?_)
      · replace hf := ip c26 hf
        refine lv_iconst (v := 0) hx hb dX8_mayBegin_39 (by decide) ?_
        exact hret 0 40 _ rfl hf dX8_mayBegin_40
      · replace hf := im c26 hf
        refine lv_iload_n hx hb dX8_mayBegin_29 rfl (lv_at hl 2 rfl) ?_
        refine lv_bipush (v := 8) hx hb dX8_mayBegin_30 (by decide) ?_
        refine lv_icmp_ge (tgt := 39) hx hb dX8_mayBegin_32 (by decide) (fun c32 => ?_) (fun c32 => ?_)
        · replace hf := ip c32 hf
          refine lv_iconst (v := 0) hx hb dX8_mayBegin_39 (by decide) ?_
          exact hret 0 40 _ rfl hf dX8_mayBegin_40
        · replace hf := im c32 hf
          refine lv_iconst (v := 1) hx hb dX8_mayBegin_35 (by decide) ?_
          refine lv_goto (tgt := 40) hx hb dX8_mayBegin_36 (by decide) ?_
          exact hret 1 40 _ rfl hf dX8_mayBegin_40
  · replace hf := ip c3 hf
    refine lv_iload_n hx hb dX8_mayBegin_6 rfl (lv_at hl 1 rfl) ?_
    refine lv_bipush (v := 6) hx hb dX8_mayBegin_7 (by decide) ?_
    refine lv_icmp_ge (tgt := 16) hx hb dX8_mayBegin_9 (by decide) (fun c9 => ?_) (fun c9 => ?_)
    · replace hf := ip c9 hf
      refine lv_iconst (v := 0) hx hb dX8_mayBegin_16 (by decide) ?_
      exact hret 0 17 _ rfl hf dX8_mayBegin_17
    · replace hf := im c9 hf
      refine lv_iconst (v := 1) hx hb dX8_mayBegin_12 (by decide) ?_
      refine lv_goto (tgt := 17) hx hb dX8_mayBegin_13 (by decide) ?_
      exact hret 1 17 _ rfl hf dX8_mayBegin_17
set_option maxHeartbeats 4000000 in
set_option maxRecDepth 100000 in
theorem c_Txt_mayBegin (l : Launch) (x0 : Int32) (x1 : Int32) (x2 : Int32) (f : Nat) (out : Int32) (hf : Txt_mayBegin f x0 x1 x2 = some out) : Met l yX8_mayBegin wsX8_mayBegin rm_Txt_mayBegin (va_Pc [.int x0, .int x1, .int x2] (fun _ => True)) (vp_Si (fun r => r = out)) 0 0 (fun _ => False) := by
  refine Met.ofW (cc := cX8_mayBegin) (maxL := 3) (ret := (some .boolean)) (by decide) rfl ?_
  intro p e s m args below meth c s₁ B hml hv
  obtain ⟨ha, -⟩ := hv
  have hx := B.exec
  have hb := B.bytes
  have hr := B.returns
  have hts := atoms_spec (ws := wsX8_mayBegin) B.pre
  have hown : s.vm.findClass RX8 = some m.cls := findClass_of_methodNamed B.named
  have hlocks := B.notSynchronized
  have hl := lv_entry ([.int x0, .int x1, .int x2]) (n := 3) (Nat.le_of_ble_eq_true rfl)
  rw [show entryFrame m args 3 = entryFrame m ([.int x0, .int x1, .int x2] : List Value).toArray 3 from by rw [ha], lg_entry_eq]
  generalize (lg_sl ([.int x0, .int x1, .int x2]) ++ List.replicate (3 - (lg_sl ([.int x0, .int x1, .int x2])).length) Slot.unset).toArray = ls at hl ⊢
  generalize hQ : MQ below (vp_Si (fun r => r = out)) args s 0 0 (fun _ => False) = Q
  have hret : ∀ (v : Int32) (pc : Nat) (ls : Array Slot), narrow .boolean (.int v) = .int v → some v = some out → decode cX8_mayBegin pc = .ok (.ireturn, 1) → W p l e rm_Txt_mayBegin s m args below meth c s.heap [] 0 0 Q (F0 m pc ls [.int v]) := by
    intro v pc ls hz hf hd
    rw [← hQ]
    exact W.zret (v := v) hx hb hr hz (fun t ht hW => ⟨v, rfl, Option.some.inj hf, ht⟩) (fun q h => by cases h) hd
  exact v_Txt_mayBegin hf hx hb hml hown hts hret ls hl
def Txt_digitAt (f : Nat) (x1 : Int32) (I_txt : FI) (V_txt : FV) : Option (Int32) := (if x1 < 0 then some (-1) else (if x1 < (I_txt 1) then if x1 < 0 ∨ 80 ≤ x1.toNatClampNeg then none else (nm ((V_txt 0) x1.toNatClampNeg) (fun y1 => (if y1 < 48 then some (-1) else (if 57 < y1 then some (-1) else some (y1 - 48))))) else some (-1)))
abbrev rm_Txt_digitAt : Room := { frames := 0, cells := 0, slots := 0, locals := 0 }
set_option maxHeartbeats 4000000 in
set_option maxRecDepth 100000 in
theorem v_Txt_digitAt {l : Launch} {p : Program} {e : Env} {s : State} {m : MethodId} {args : Array Value} {below : List Frame} {meth : Method} {c : Code} {Q : State → Prop} {D : va_G} {cs : Nat → ClassId} {o_txt : Nat} {h_txt : Nat → Nat} {I_txt : FI} {V_txt : FV} {x1 : Int32} {f : Nat} {out : Int32} (hf : Txt_digitAt f x1 I_txt V_txt = some out) (hx : p.tables.exec = Jvm.exec) (hb : c.code = cX8_digitAt) (hml : c.maxLocals = 3) (hown : s.vm.findClass RX8 = some m.cls) (hts : ∀ w ∈ wsX8_digitAt, w.before args s = true) (in_X8 : ∀ w ∈ u_ws RX8 TX8 2, w ∈ wsX8_digitAt) (g_15 : (Cond.fieldLink RX8 15 "DaysLent$Text" "length" "I").before args s = true) (g_9 : (Cond.fieldLink RX8 9 "DaysLent$Text" "bytes" "[B").before args s = true) (hP : va_P D vwCl (List.flatten [(w_Txt cs o_txt h_txt I_txt V_txt)]) s.heap) (hK : va_K D vwCl (tyA cs) s) (hN : yN s) (hret : ∀ (v : Int32) (pc : Nat) (ls : Array Slot), some v = some out → decode cX8_digitAt pc = .ok (.ireturn, 1) → W p l e rm_Txt_digitAt s m args below meth c s.heap [] 0 0 Q (F0 m pc ls [.int v])) : ∀ ls : Array Slot, lv_has ls 3 [(0, .ref o_txt), (1, .int x1)] → W p l e rm_Txt_digitAt s m args below meth c s.heap [] 0 0 Q (F0 m 0 ls []) := by
  intro ls hl
  unfold Txt_digitAt at hf
  refine lv_iload_n hx hb dX8_digitAt_0 rfl (lv_at hl 1 rfl) ?_
  refine lv_if_lt (tgt := 12) hx hb dX8_digitAt_1 (by decide) (fun c1 => ?_) (fun c1 => ?_)
  · replace hf := ip c1 hf
    refine lv_iconst (v := (-1)) hx hb dX8_digitAt_12 (by decide) ?_
    exact hret (-1) 13 _ hf dX8_digitAt_13
  · replace hf := im c1 hf
    refine lv_iload_n hx hb dX8_digitAt_4 rfl (lv_at hl 1 rfl) ?_
    refine lv_aload_n hx hb dX8_digitAt_5 rfl (lv_at hl 0 rfl) ?_
    refine va_get (D := D) (ci := 8) (v := .int (I_txt 1)) (C := RX8) (T := TX8) (N := 2) hx hb hts in_X8 hown hK hP 0 rfl rfl 1 (by decide) g_15 (fun _ h9 => h9) rfl dX8_digitAt_6 ?_
    refine lv_icmp_lt (tgt := 14) hx hb dX8_digitAt_9 (by decide) (fun c9 => ?_) (fun c9 => ?_)
    · replace hf := ip c9 hf
      refine lv_aload_n hx hb dX8_digitAt_14 rfl (lv_at hl 0 rfl) ?_
      refine va_get (D := D) (ci := 8) (v := .ref (h_txt 0)) (C := RX8) (T := TX8) (N := 2) hx hb hts in_X8 hown hK hP 0 rfl rfl 0 (by decide) g_9 (fun _ h9 => h9) rfl dX8_digitAt_15 ?_
      refine lv_iload_n hx hb dX8_digitAt_18 rfl (lv_at hl 1 rfl) ?_
      obtain ⟨c19, hf⟩ := gd hf
      refine va_bald (f := (V_txt 0)) hx hb hK hP 1 2 rfl rfl c19 dX8_digitAt_19 ?_
      refine lv_topi (fun y1 ey1 => ?_)
      replace hf := nmd hf ey1
      refine lv_istore_n (lv' := [(2, .int y1), (0, .ref o_txt), (1, .int x1)]) hx hb dX8_digitAt_20 rfl hl (by decide) rfl (fun ls hl => ?_)
      refine lv_iload_n hx hb dX8_digitAt_21 rfl (lv_at hl 0 rfl) ?_
      refine lv_bipush (v := 48) hx hb dX8_digitAt_22 (by decide) ?_
      refine lv_icmp_lt (tgt := 40) hx hb dX8_digitAt_24 (by decide) (fun c24 => ?_) (fun c24 => ?_)
      · replace hf := ip c24 hf
        refine lv_iconst (v := (-1)) hx hb dX8_digitAt_40 (by decide) ?_
        exact hret (-1) 41 _ hf dX8_digitAt_41
      · replace hf := im c24 hf
        refine lv_iload_n hx hb dX8_digitAt_27 rfl (lv_at hl 0 rfl) ?_
        refine lv_bipush (v := 57) hx hb dX8_digitAt_28 (by decide) ?_
        refine lv_icmp_gt (tgt := 40) hx hb dX8_digitAt_30 (by decide) (fun c30 => ?_) (fun c30 => ?_)
        · replace hf := ip c30 hf
          refine lv_iconst (v := (-1)) hx hb dX8_digitAt_40 (by decide) ?_
          exact hret (-1) 41 _ hf dX8_digitAt_41
        · replace hf := im c30 hf
          refine lv_iload_n hx hb dX8_digitAt_33 rfl (lv_at hl 0 rfl) ?_
          refine lv_bipush (v := 48) hx hb dX8_digitAt_34 (by decide) ?_
          refine lv_isub hx hb dX8_digitAt_36 ?_
          refine lv_goto (tgt := 41) hx hb dX8_digitAt_37 (by decide) ?_
          exact hret (y1 - 48) 41 _ hf dX8_digitAt_41
    · replace hf := im c9 hf
      refine lv_iconst (v := (-1)) hx hb dX8_digitAt_12 (by decide) ?_
      exact hret (-1) 13 _ hf dX8_digitAt_13
set_option maxHeartbeats 4000000 in
set_option maxRecDepth 100000 in
theorem c_Txt_digitAt (l : Launch) (D : va_G) (cs : Nat → ClassId) (o_txt : Nat) (h_txt : Nat → Nat) (I_txt : FI) (V_txt : FV) (x1 : Int32) (f : Nat) (out : Int32) (hf : Txt_digitAt f x1 I_txt V_txt = some out) : Met l yX8_digitAt wsX8_digitAt rm_Txt_digitAt (va_Pc [.ref o_txt, .int x1] (yR D cs (List.flatten [(w_Txt cs o_txt h_txt I_txt V_txt)]))) (vp_Si (fun r => r = out)) 0 0 (fun _ => False) := by
  refine Met.ofW (cc := cX8_digitAt) (maxL := 3) (ret := (some .int)) (by decide) rfl ?_
  intro p e s m args below meth c s₁ B hml hv
  obtain ⟨ha, hP, hK, hN⟩ := hv
  have hx := B.exec
  have hb := B.bytes
  have hr := B.returns
  have hts := atoms_spec (ws := wsX8_digitAt) B.pre
  have hown : s.vm.findClass RX8 = some m.cls := findClass_of_methodNamed B.named
  have hlocks := B.notSynchronized
  have in_X8 : ∀ w ∈ u_ws RX8 TX8 2, w ∈ wsX8_digitAt := fun w h => List.mem_cons_of_mem _ (List.mem_append_right _ h)
  have g_15 := hts (Cond.fieldLink RX8 15 "DaysLent$Text" "length" "I") (by decide +kernel)
  have g_9 := hts (Cond.fieldLink RX8 9 "DaysLent$Text" "bytes" "[B") (by decide +kernel)
  have hl := lv_entry ([.ref o_txt, .int x1]) (n := 3) (Nat.le_of_ble_eq_true rfl)
  rw [show entryFrame m args 3 = entryFrame m ([.ref o_txt, .int x1] : List Value).toArray 3 from by rw [ha], lg_entry_eq]
  generalize (lg_sl ([.ref o_txt, .int x1]) ++ List.replicate (3 - (lg_sl ([.ref o_txt, .int x1])).length) Slot.unset).toArray = ls at hl ⊢
  generalize hQ : MQ below (vp_Si (fun r => r = out)) args s 0 0 (fun _ => False) = Q
  have hret : ∀ (v : Int32) (pc : Nat) (ls : Array Slot), some v = some out → decode cX8_digitAt pc = .ok (.ireturn, 1) → W p l e rm_Txt_digitAt s m args below meth c s.heap [] 0 0 Q (F0 m pc ls [.int v]) := by
    intro v pc ls hf hd
    rw [← hQ]
    exact W.iret (v := v) hx hb hr (fun t ht hW => ⟨v, rfl, Option.some.inj hf, ht⟩) (fun q h => by cases h) hd
  exact v_Txt_digitAt hf hx hb hml hown hts in_X8 g_15 g_9 hP hK hN hret ls hl
def Txt_mayStandInDebt (f : Nat) (x1 : Int32) (x2 : Int32) (x3 : Int32) (x4 : Int32) (I_txt : FI) (V_txt : FV) : Option (Int32) := (if x2 = 1 then (if x4 ≤ x3 then some 0 else some 1) else if x2 = 2 then (if x4 ≤ x3 then some 0 else ob1 (Txt_digitAt f (x1 - 1) I_txt V_txt) (fun zr1 => (if x3 = zr1 then some 0 else some 1))) else if x2 = 3 then some 1 else if x2 = 4 then (nm (fun (u_83 : Unit) => some 1) (fun j83 => (if x3 = 0 then ob1 (Txt_digitAt f (x1 - 1) I_txt V_txt) (fun zr2 => (if zr2 = 0 then some 0 else (j83 ()))) else (j83 ())))) else (if x3 = 0 then some 0 else some 1))
abbrev rm_Txt_mayStandInDebt : Room := { frames := 1, cells := 0, slots := 0, locals := 22 }
set_option maxHeartbeats 4000000 in
set_option maxRecDepth 100000 in
theorem v_Txt_mayStandInDebt {l : Launch} {p : Program} {e : Env} {s : State} {m : MethodId} {args : Array Value} {below : List Frame} {meth : Method} {c : Code} {Q : State → Prop} {D : va_G} {cs : Nat → ClassId} {o_txt : Nat} {h_txt : Nat → Nat} {I_txt : FI} {V_txt : FV} {x1 : Int32} {x2 : Int32} {x3 : Int32} {x4 : Int32} {f : Nat} {out : Int32} (hf : Txt_mayStandInDebt f x1 x2 x3 x4 I_txt V_txt = some out) (hx : p.tables.exec = Jvm.exec) (hb : c.code = cX8_mayStandInDebt) (hml : c.maxLocals = 5) (hown : s.vm.findClass RX8 = some m.cls) (hts : ∀ w ∈ wsX8_mayStandInDebt, w.before args s = true) (in_X8 : ∀ w ∈ u_ws RX8 TX8 2, w ∈ wsX8_mayStandInDebt) (w_digitAt_31 : CallW rm_Txt_mayStandInDebt s args RX8 RX8 31 yX8_digitAt cX8_digitAt 3 (some .int) wsX8_digitAt rm_Txt_digitAt 0 0 1) (hP : va_P D vwCl (List.flatten [(w_Txt cs o_txt h_txt I_txt V_txt)]) s.heap) (hK : va_K D vwCl (tyA cs) s) (hN : yN s) (hret : ∀ (v : Int32) (pc : Nat) (ls : Array Slot), narrow .boolean (.int v) = .int v → some v = some out → decode cX8_mayStandInDebt pc = .ok (.ireturn, 1) → W p l e rm_Txt_mayStandInDebt s m args below meth c s.heap [] 0 0 Q (F0 m pc ls [.int v])) : ∀ ls : Array Slot, lv_has ls 5 [(0, .ref o_txt), (1, .int x1), (2, .int x2), (3, .int x3), (4, .int x4)] → W p l e rm_Txt_mayStandInDebt s m args below meth c s.heap [] 0 0 Q (F0 m 0 ls []) := by
  intro ls hl
  unfold Txt_mayStandInDebt at hf
  refine lv_iload_n hx hb dX8_mayStandInDebt_0 rfl (lv_at hl 2 rfl) ?_
  by_cases c1_1 : x2 = 1
  · replace hf := ip c1_1 hf
    refine lv_tableIn (tgt := 32) hx hb dX8_mayStandInDebt_1 (by rw [c1_1]; decide) (by rw [c1_1]; decide) (by rw [c1_1]; rfl) (by decide) ?_
    refine lv_iload_n hx hb dX8_mayStandInDebt_32 rfl (lv_at hl 3 rfl) ?_
    refine lv_iload hx hb dX8_mayStandInDebt_33 (lv_at hl 4 rfl) ?_
    refine lv_icmp_ge (tgt := 42) hx hb dX8_mayStandInDebt_35 (by decide) (fun c35 => ?_) (fun c35 => ?_)
    · replace hf := ip c35 hf
      refine lv_iconst (v := 0) hx hb dX8_mayStandInDebt_42 (by decide) ?_
      exact hret 0 43 _ rfl hf dX8_mayStandInDebt_43
    · replace hf := im c35 hf
      refine lv_iconst (v := 1) hx hb dX8_mayStandInDebt_38 (by decide) ?_
      refine lv_goto (tgt := 43) hx hb dX8_mayStandInDebt_39 (by decide) ?_
      exact hret 1 43 _ rfl hf dX8_mayStandInDebt_43
  replace hf := im c1_1 hf
  by_cases c1_2 : x2 = 2
  · replace hf := ip c1_2 hf
    refine lv_tableIn (tgt := 44) hx hb dX8_mayStandInDebt_1 (by rw [c1_2]; decide) (by rw [c1_2]; decide) (by rw [c1_2]; rfl) (by decide) ?_
    refine lv_iload_n hx hb dX8_mayStandInDebt_44 rfl (lv_at hl 3 rfl) ?_
    refine lv_iload hx hb dX8_mayStandInDebt_45 (lv_at hl 4 rfl) ?_
    refine lv_icmp_ge (tgt := 65) hx hb dX8_mayStandInDebt_47 (by decide) (fun c47 => ?_) (fun c47 => ?_)
    · replace hf := ip c47 hf
      refine lv_iconst (v := 0) hx hb dX8_mayStandInDebt_65 (by decide) ?_
      exact hret 0 66 _ rfl hf dX8_mayStandInDebt_66
    · replace hf := im c47 hf
      refine lv_iload_n hx hb dX8_mayStandInDebt_50 rfl (lv_at hl 3 rfl) ?_
      refine lv_aload_n hx hb dX8_mayStandInDebt_51 rfl (lv_at hl 0 rfl) ?_
      refine lv_iload_n hx hb dX8_mayStandInDebt_52 rfl (lv_at hl 1 rfl) ?_
      refine lv_iconst (v := 1) hx hb dX8_mayStandInDebt_53 (by decide) ?_
      refine lv_isub hx hb dX8_mayStandInDebt_54 ?_
      obtain ⟨zr1, qr1, hf⟩ := bd1 hf
      refine vp_callSi (va_Run.run (va_runV (As := [.int (x1 - 1)]) (rest := [.int x3]) ⟨hx, hb, hml, hown, hts⟩ (c_Txt_digitAt l D cs o_txt h_txt I_txt V_txt (x1 - 1) f zr1 qr1) w_digitAt_31 ⟨yR_moved, va_recv hK hP (ci := 8) (q0 := 0) rfl rfl, fun U hU hW => ⟨rfl, by rw [hU]; exact hP, va_K.moved hW.alike hK, yN_warm hW hN⟩⟩ rfl rfl hl.1 rfl (lv_room (Nat.le_of_ble_eq_true rfl)) dX8_mayStandInDebt_55 ⟨Nat.zero_le _, Nat.zero_le _⟩)) (fun r1 er1 => ?_)
      rw [er1]
      refine lv_icmp_eq (tgt := 65) hx hb dX8_mayStandInDebt_58 (by decide) (fun c58 => ?_) (fun c58 => ?_)
      · replace hf := ip c58 hf
        refine lv_iconst (v := 0) hx hb dX8_mayStandInDebt_65 (by decide) ?_
        exact hret 0 66 _ rfl hf dX8_mayStandInDebt_66
      · replace hf := im c58 hf
        refine lv_iconst (v := 1) hx hb dX8_mayStandInDebt_61 (by decide) ?_
        refine lv_goto (tgt := 66) hx hb dX8_mayStandInDebt_62 (by decide) ?_
        exact hret 1 66 _ rfl hf dX8_mayStandInDebt_66
  replace hf := im c1_2 hf
  by_cases c1_3 : x2 = 3
  · replace hf := ip c1_3 hf
    refine lv_tableIn (tgt := 67) hx hb dX8_mayStandInDebt_1 (by rw [c1_3]; decide) (by rw [c1_3]; decide) (by rw [c1_3]; rfl) (by decide) ?_
    refine lv_iconst (v := 1) hx hb dX8_mayStandInDebt_67 (by decide) ?_
    exact hret 1 68 _ rfl hf dX8_mayStandInDebt_68
  replace hf := im c1_3 hf
  by_cases c1_4 : x2 = 4
  · replace hf := ip c1_4 hf
    refine lv_tableIn (tgt := 69) hx hb dX8_mayStandInDebt_1 (by rw [c1_4]; decide) (by rw [c1_4]; decide) (by rw [c1_4]; rfl) (by decide) ?_
    refine lv_iload_n hx hb dX8_mayStandInDebt_69 rfl (lv_at hl 3 rfl) ?_
    obtain ⟨j83, ej83, hf⟩ := nme hf
    have J83 : ∀ (u_83 : Unit), j83 u_83 = some out → ∀ ls : Array Slot, lv_has ls 5 [] → W p l e rm_Txt_mayStandInDebt s m args below meth c s.heap [] 0 0 Q (F0 m 83 ls []) := by
      intro u_83 hf ls hl
      rw [ej83] at hf
      refine lv_iconst (v := 1) hx hb dX8_mayStandInDebt_83 (by decide) ?_
      refine lv_goto (tgt := 88) hx hb dX8_mayStandInDebt_84 (by decide) ?_
      exact hret 1 88 _ rfl hf dX8_mayStandInDebt_88
    refine lv_if_ne (tgt := 83) hx hb dX8_mayStandInDebt_70 (by decide) (fun c70 => ?_) (fun c70 => ?_)
    · replace hf := im c70 hf
      exact J83 () hf _ (lv_sub hl [] rfl)
    · replace hf := ip c70 hf
      refine lv_aload_n hx hb dX8_mayStandInDebt_73 rfl (lv_at hl 0 rfl) ?_
      refine lv_iload_n hx hb dX8_mayStandInDebt_74 rfl (lv_at hl 1 rfl) ?_
      refine lv_iconst (v := 1) hx hb dX8_mayStandInDebt_75 (by decide) ?_
      refine lv_isub hx hb dX8_mayStandInDebt_76 ?_
      obtain ⟨zr2, qr2, hf⟩ := bd1 hf
      refine vp_callSi (va_Run.run (va_runV (As := [.int (x1 - 1)]) (rest := []) ⟨hx, hb, hml, hown, hts⟩ (c_Txt_digitAt l D cs o_txt h_txt I_txt V_txt (x1 - 1) f zr2 qr2) w_digitAt_31 ⟨yR_moved, va_recv hK hP (ci := 8) (q0 := 0) rfl rfl, fun U hU hW => ⟨rfl, by rw [hU]; exact hP, va_K.moved hW.alike hK, yN_warm hW hN⟩⟩ rfl rfl hl.1 rfl (lv_room (Nat.le_of_ble_eq_true rfl)) dX8_mayStandInDebt_77 ⟨Nat.zero_le _, Nat.zero_le _⟩)) (fun r2 er2 => ?_)
      rw [er2]
      refine lv_if_eq (tgt := 87) hx hb dX8_mayStandInDebt_80 (by decide) (fun c80 => ?_) (fun c80 => ?_)
      · replace hf := ip c80 hf
        refine lv_iconst (v := 0) hx hb dX8_mayStandInDebt_87 (by decide) ?_
        exact hret 0 88 _ rfl hf dX8_mayStandInDebt_88
      · replace hf := im c80 hf
        exact J83 () hf _ (lv_sub hl [] rfl)
  replace hf := im c1_4 hf
  refine lv_tableOut (tgt := 89) hx hb dX8_mayStandInDebt_1 (by have nc1_1 := lv_neT (a := 1) c1_1 rfl; have nc1_2 := lv_neT (a := 2) c1_2 rfl; have nc1_3 := lv_neT (a := 3) c1_3 rfl; have nc1_4 := lv_neT (a := 4) c1_4 rfl; omega) (by decide) ?_
  refine lv_iload_n hx hb dX8_mayStandInDebt_89 rfl (lv_at hl 3 rfl) ?_
  refine lv_if_eq (tgt := 97) hx hb dX8_mayStandInDebt_90 (by decide) (fun c90 => ?_) (fun c90 => ?_)
  · replace hf := ip c90 hf
    refine lv_iconst (v := 0) hx hb dX8_mayStandInDebt_97 (by decide) ?_
    exact hret 0 98 _ rfl hf dX8_mayStandInDebt_98
  · replace hf := im c90 hf
    refine lv_iconst (v := 1) hx hb dX8_mayStandInDebt_93 (by decide) ?_
    refine lv_goto (tgt := 98) hx hb dX8_mayStandInDebt_94 (by decide) ?_
    exact hret 1 98 _ rfl hf dX8_mayStandInDebt_98
set_option maxHeartbeats 4000000 in
set_option maxRecDepth 100000 in
theorem c_Txt_mayStandInDebt (l : Launch) (D : va_G) (cs : Nat → ClassId) (o_txt : Nat) (h_txt : Nat → Nat) (I_txt : FI) (V_txt : FV) (x1 : Int32) (x2 : Int32) (x3 : Int32) (x4 : Int32) (f : Nat) (out : Int32) (hf : Txt_mayStandInDebt f x1 x2 x3 x4 I_txt V_txt = some out) : Met l yX8_mayStandInDebt wsX8_mayStandInDebt rm_Txt_mayStandInDebt (va_Pc [.ref o_txt, .int x1, .int x2, .int x3, .int x4] (yR D cs (List.flatten [(w_Txt cs o_txt h_txt I_txt V_txt)]))) (vp_Si (fun r => r = out)) 0 0 (fun _ => False) := by
  refine Met.ofW (cc := cX8_mayStandInDebt) (maxL := 5) (ret := (some .boolean)) (by decide) rfl ?_
  intro p e s m args below meth c s₁ B hml hv
  obtain ⟨ha, hP, hK, hN⟩ := hv
  have hx := B.exec
  have hb := B.bytes
  have hr := B.returns
  have hts := atoms_spec (ws := wsX8_mayStandInDebt) B.pre
  have hown : s.vm.findClass RX8 = some m.cls := findClass_of_methodNamed B.named
  have hlocks := B.notSynchronized
  have in_X8 : ∀ w ∈ u_ws RX8 TX8 2, w ∈ wsX8_mayStandInDebt := fun w h => List.mem_cons_of_mem _ (List.mem_append_right _ h)
  have w_digitAt_31 := cwV (R := rm_Txt_mayStandInDebt) (s := s) (args := args) (rm := rm_Txt_digitAt) (mc := 0) (ms := 0) 1 hts gX8_mayStandInDebt_X8_digitAt rfl rfl rfl (by decide +kernel) ⟨Nat.le_of_ble_eq_true rfl, Nat.le_of_ble_eq_true rfl⟩
  have hl := lv_entry ([.ref o_txt, .int x1, .int x2, .int x3, .int x4]) (n := 5) (Nat.le_of_ble_eq_true rfl)
  rw [show entryFrame m args 5 = entryFrame m ([.ref o_txt, .int x1, .int x2, .int x3, .int x4] : List Value).toArray 5 from by rw [ha], lg_entry_eq]
  generalize (lg_sl ([.ref o_txt, .int x1, .int x2, .int x3, .int x4]) ++ List.replicate (5 - (lg_sl ([.ref o_txt, .int x1, .int x2, .int x3, .int x4])).length) Slot.unset).toArray = ls at hl ⊢
  generalize hQ : MQ below (vp_Si (fun r => r = out)) args s 0 0 (fun _ => False) = Q
  have hret : ∀ (v : Int32) (pc : Nat) (ls : Array Slot), narrow .boolean (.int v) = .int v → some v = some out → decode cX8_mayStandInDebt pc = .ok (.ireturn, 1) → W p l e rm_Txt_mayStandInDebt s m args below meth c s.heap [] 0 0 Q (F0 m pc ls [.int v]) := by
    intro v pc ls hz hf hd
    rw [← hQ]
    exact W.zret (v := v) hx hb hr hz (fun t ht hW => ⟨v, rfl, Option.some.inj hf, ht⟩) (fun q h => by cases h) hd
  exact v_Txt_mayStandInDebt hf hx hb hml hown hts in_X8 w_digitAt_31 hP hK hN hret ls hl
def Txt_mayStand (f : Nat) (x1 : Int32) (x2 : Int32) (x3 : Int32) (x4 : Int32) (I_txt : FI) (V_txt : FV) : Option (Int32) := (if x2 = x1 then if x2 < 0 ∨ 80 ≤ x2.toNatClampNeg then none else (ob1 (Txt_mayBegin f ((V_txt 0) x2.toNatClampNeg) x3 x4) (fun zr3 => if zr3 &&& 1 = zr3 then some zr3 else none)) else ob1 (Txt_digitAt f x2 I_txt V_txt) (fun zr1 => (if 0 ≤ zr1 then if x1 < 0 ∨ 80 ≤ x1.toNatClampNeg then none else ((nm (fun (u_57 : Unit) => some 1) (fun j57 => (if ((V_txt 0) x1.toNatClampNeg) = 80 then (j57 ()) else ob1 (Txt_mayStandInDebt f x2 (x2 - x1) zr1 x3 I_txt V_txt) (fun zr2 => (if zr2 = 0 then some 0 else (j57 ()))))))) else some 0)))
abbrev rm_Txt_mayStand : Room := { frames := 2, cells := 0, slots := 0, locals := 46 }
set_option maxHeartbeats 4000000 in
set_option maxRecDepth 100000 in
theorem v_Txt_mayStand {l : Launch} {p : Program} {e : Env} {s : State} {m : MethodId} {args : Array Value} {below : List Frame} {meth : Method} {c : Code} {Q : State → Prop} {D : va_G} {cs : Nat → ClassId} {o_txt : Nat} {h_txt : Nat → Nat} {I_txt : FI} {V_txt : FV} {x1 : Int32} {x2 : Int32} {x3 : Int32} {x4 : Int32} {f : Nat} {out : Int32} (hf : Txt_mayStand f x1 x2 x3 x4 I_txt V_txt = some out) (hx : p.tables.exec = Jvm.exec) (hb : c.code = cX8_mayStand) (hml : c.maxLocals = 6) (hown : s.vm.findClass RX8 = some m.cls) (hts : ∀ w ∈ wsX8_mayStand, w.before args s = true) (in_X8 : ∀ w ∈ u_ws RX8 TX8 2, w ∈ wsX8_mayStand) (g_9 : (Cond.fieldLink RX8 9 "DaysLent$Text" "bytes" "[B").before args s = true) (w_mayBegin_27 : CallB rm_Txt_mayStand s args RX8 27 yX8_mayBegin cX8_mayBegin 3 (some .boolean) wsX8_mayBegin rm_Txt_mayBegin 0 0 3 ∧ (Cond.static yX8_mayBegin).before args s = true) (w_digitAt_31 : CallW rm_Txt_mayStand s args RX8 RX8 31 yX8_digitAt cX8_digitAt 3 (some .int) wsX8_digitAt rm_Txt_digitAt 0 0 1) (w_mayStandInDebt_34 : CallW rm_Txt_mayStand s args RX8 RX8 34 yX8_mayStandInDebt cX8_mayStandInDebt 5 (some .boolean) wsX8_mayStandInDebt rm_Txt_mayStandInDebt 0 0 4) (hP : va_P D vwCl (List.flatten [(w_Txt cs o_txt h_txt I_txt V_txt)]) s.heap) (hK : va_K D vwCl (tyA cs) s) (hN : yN s) (hret : ∀ (v : Int32) (pc : Nat) (ls : Array Slot), narrow .boolean (.int v) = .int v → some v = some out → decode cX8_mayStand pc = .ok (.ireturn, 1) → W p l e rm_Txt_mayStand s m args below meth c s.heap [] 0 0 Q (F0 m pc ls [.int v])) : ∀ ls : Array Slot, lv_has ls 6 [(0, .ref o_txt), (1, .int x1), (2, .int x2), (3, .int x3), (4, .int x4)] → W p l e rm_Txt_mayStand s m args below meth c s.heap [] 0 0 Q (F0 m 0 ls []) := by
  intro ls hl
  unfold Txt_mayStand at hf
  refine lv_iload_n hx hb dX8_mayStand_0 rfl (lv_at hl 2 rfl) ?_
  refine lv_iload_n hx hb dX8_mayStand_1 rfl (lv_at hl 1 rfl) ?_
  refine lv_icmp_ne (tgt := 18) hx hb dX8_mayStand_2 (by decide) (fun c2 => ?_) (fun c2 => ?_)
  · replace hf := im c2 hf
    refine lv_aload_n hx hb dX8_mayStand_18 rfl (lv_at hl 0 rfl) ?_
    refine lv_iload_n hx hb dX8_mayStand_19 rfl (lv_at hl 2 rfl) ?_
    obtain ⟨zr1, qr1, hf⟩ := bd1 hf
    refine vp_callSi (va_Run.run (va_runV (As := [.int x2]) (rest := []) ⟨hx, hb, hml, hown, hts⟩ (c_Txt_digitAt l D cs o_txt h_txt I_txt V_txt x2 f zr1 qr1) w_digitAt_31 ⟨yR_moved, va_recv hK hP (ci := 8) (q0 := 0) rfl rfl, fun U hU hW => ⟨rfl, by rw [hU]; exact hP, va_K.moved hW.alike hK, yN_warm hW hN⟩⟩ rfl rfl hl.1 rfl (lv_room (Nat.le_of_ble_eq_true rfl)) dX8_mayStand_20 ⟨Nat.zero_le _, Nat.zero_le _⟩)) (fun r1 er1 => ?_)
    rw [er1]
    refine lv_istore (lv' := [(5, .int zr1), (0, .ref o_txt), (1, .int x1), (2, .int x2), (3, .int x3), (4, .int x4)]) hx hb dX8_mayStand_23 hl (by decide) rfl (fun ls hl => ?_)
    refine lv_iload hx hb dX8_mayStand_25 (lv_at hl 0 rfl) ?_
    refine lv_if_ge (tgt := 32) hx hb dX8_mayStand_27 (by decide) (fun c27 => ?_) (fun c27 => ?_)
    · replace hf := ip c27 hf
      refine lv_aload_n hx hb dX8_mayStand_32 rfl (lv_at hl 1 rfl) ?_
      refine va_get (D := D) (ci := 8) (v := .ref (h_txt 0)) (C := RX8) (T := TX8) (N := 2) hx hb hts in_X8 hown hK hP 0 rfl rfl 0 (by decide) g_9 (fun _ h9 => h9) rfl dX8_mayStand_33 ?_
      refine lv_iload_n hx hb dX8_mayStand_36 rfl (lv_at hl 2 rfl) ?_
      obtain ⟨c37, hf⟩ := gd hf
      refine va_bald (f := (V_txt 0)) hx hb hK hP 1 2 rfl rfl c37 dX8_mayStand_37 ?_
      refine lv_bipush (v := 80) hx hb dX8_mayStand_38 (by decide) ?_
      obtain ⟨j57, ej57, hf⟩ := nme hf
      have J57 : ∀ (u_57 : Unit), j57 u_57 = some out → ∀ ls : Array Slot, lv_has ls 6 [] → W p l e rm_Txt_mayStand s m args below meth c s.heap [] 0 0 Q (F0 m 57 ls []) := by
        intro u_57 hf ls hl
        rw [ej57] at hf
        refine lv_iconst (v := 1) hx hb dX8_mayStand_57 (by decide) ?_
        refine lv_goto (tgt := 62) hx hb dX8_mayStand_58 (by decide) ?_
        exact hret 1 62 _ rfl hf dX8_mayStand_62
      refine lv_icmp_eq (tgt := 57) hx hb dX8_mayStand_40 (by decide) (fun c40 => ?_) (fun c40 => ?_)
      · replace hf := ip c40 hf
        exact J57 () hf _ (lv_sub hl [] rfl)
      · replace hf := im c40 hf
        refine lv_aload_n hx hb dX8_mayStand_43 rfl (lv_at hl 1 rfl) ?_
        refine lv_iload_n hx hb dX8_mayStand_44 rfl (lv_at hl 3 rfl) ?_
        refine lv_iload_n hx hb dX8_mayStand_45 rfl (lv_at hl 3 rfl) ?_
        refine lv_iload_n hx hb dX8_mayStand_46 rfl (lv_at hl 2 rfl) ?_
        refine lv_isub hx hb dX8_mayStand_47 ?_
        refine lv_iload hx hb dX8_mayStand_48 (lv_at hl 0 rfl) ?_
        refine lv_iload_n hx hb dX8_mayStand_50 rfl (lv_at hl 4 rfl) ?_
        obtain ⟨zr2, qr2, hf⟩ := bd1 hf
        refine vp_callSi (va_Run.run (va_runV (As := [.int x2, .int (x2 - x1), .int zr1, .int x3]) (rest := []) ⟨hx, hb, hml, hown, hts⟩ (c_Txt_mayStandInDebt l D cs o_txt h_txt I_txt V_txt x2 (x2 - x1) zr1 x3 f zr2 qr2) w_mayStandInDebt_34 ⟨yR_moved, va_recv hK hP (ci := 8) (q0 := 0) rfl rfl, fun U hU hW => ⟨rfl, by rw [hU]; exact hP, va_K.moved hW.alike hK, yN_warm hW hN⟩⟩ rfl rfl hl.1 rfl (lv_room (Nat.le_of_ble_eq_true rfl)) dX8_mayStand_51 ⟨Nat.zero_le _, Nat.zero_le _⟩)) (fun r2 er2 => ?_)
        rw [er2]
        refine lv_if_eq (tgt := 61) hx hb dX8_mayStand_54 (by decide) (fun c54 => ?_) (fun c54 => ?_)
        · replace hf := ip c54 hf
          refine lv_iconst (v := 0) hx hb dX8_mayStand_61 (by decide) ?_
          exact hret 0 62 _ rfl hf dX8_mayStand_62
        · replace hf := im c54 hf
          exact J57 () hf _ (lv_sub hl [] rfl)
    · replace hf := im c27 hf
      refine lv_iconst (v := 0) hx hb dX8_mayStand_30 (by decide) ?_
      exact hret 0 31 _ rfl hf dX8_mayStand_31
  · replace hf := ip c2 hf
    refine lv_aload_n hx hb dX8_mayStand_5 rfl (lv_at hl 0 rfl) ?_
    refine va_get (D := D) (ci := 8) (v := .ref (h_txt 0)) (C := RX8) (T := TX8) (N := 2) hx hb hts in_X8 hown hK hP 0 rfl rfl 0 (by decide) g_9 (fun _ h9 => h9) rfl dX8_mayStand_6 ?_
    refine lv_iload_n hx hb dX8_mayStand_9 rfl (lv_at hl 2 rfl) ?_
    obtain ⟨c10, hf⟩ := gd hf
    refine va_bald (f := (V_txt 0)) hx hb hK hP 1 2 rfl rfl c10 dX8_mayStand_10 ?_
    refine lv_iload_n hx hb dX8_mayStand_11 rfl (lv_at hl 3 rfl) ?_
    refine lv_iload hx hb dX8_mayStand_12 (lv_at hl 4 rfl) ?_
    obtain ⟨zr3, qr3, hf⟩ := bd1 hf
    refine vp_callSi (va_Run.run (va_runS (As := [.int ((V_txt 0) x2.toNatClampNeg), .int x3, .int x4]) (rest := []) ⟨hx, hb, hml, hown, hts⟩ (c_Txt_mayBegin l ((V_txt 0) x2.toNatClampNeg) x3 x4 f zr3 qr3) w_mayBegin_27 ⟨fun a U g mk q => q, fun U hU hW => ⟨rfl, trivial⟩⟩ rfl rfl hl.1 rfl (lv_room (Nat.le_of_ble_eq_true rfl)) dX8_mayStand_14 ⟨Nat.zero_le _, Nat.zero_le _⟩)) (fun r3 er3 => ?_)
    rw [er3]
    obtain ⟨c17, hf⟩ := gp hf
    exact hret zr3 17 _ (by show Value.int (zr3 &&& 1) = .int zr3; rw [c17]) hf dX8_mayStand_17
set_option maxHeartbeats 4000000 in
set_option maxRecDepth 100000 in
theorem c_Txt_mayStand (l : Launch) (D : va_G) (cs : Nat → ClassId) (o_txt : Nat) (h_txt : Nat → Nat) (I_txt : FI) (V_txt : FV) (x1 : Int32) (x2 : Int32) (x3 : Int32) (x4 : Int32) (f : Nat) (out : Int32) (hf : Txt_mayStand f x1 x2 x3 x4 I_txt V_txt = some out) : Met l yX8_mayStand wsX8_mayStand rm_Txt_mayStand (va_Pc [.ref o_txt, .int x1, .int x2, .int x3, .int x4] (yR D cs (List.flatten [(w_Txt cs o_txt h_txt I_txt V_txt)]))) (vp_Si (fun r => r = out)) 0 0 (fun _ => False) := by
  refine Met.ofW (cc := cX8_mayStand) (maxL := 6) (ret := (some .boolean)) (by decide) rfl ?_
  intro p e s m args below meth c s₁ B hml hv
  obtain ⟨ha, hP, hK, hN⟩ := hv
  have hx := B.exec
  have hb := B.bytes
  have hr := B.returns
  have hts := atoms_spec (ws := wsX8_mayStand) B.pre
  have hown : s.vm.findClass RX8 = some m.cls := findClass_of_methodNamed B.named
  have hlocks := B.notSynchronized
  have in_X8 : ∀ w ∈ u_ws RX8 TX8 2, w ∈ wsX8_mayStand := fun w h => List.mem_cons_of_mem _ (List.mem_append_right _ h)
  have g_9 := hts (Cond.fieldLink RX8 9 "DaysLent$Text" "bytes" "[B") (by decide +kernel)
  have w_mayBegin_27 := va_cwS (R := rm_Txt_mayStand) (s := s) (args := args) (rm := rm_Txt_mayBegin) (mc := 0) (ms := 0) 3 hts gX8_mayStand_X8_mayBegin rfl rfl rfl (by decide +kernel) ⟨Nat.le_of_ble_eq_true rfl, Nat.le_of_ble_eq_true rfl⟩
  have w_digitAt_31 := cwV (R := rm_Txt_mayStand) (s := s) (args := args) (rm := rm_Txt_digitAt) (mc := 0) (ms := 0) 1 hts gX8_mayStand_X8_digitAt rfl rfl rfl (by decide +kernel) ⟨Nat.le_of_ble_eq_true rfl, Nat.le_of_ble_eq_true rfl⟩
  have w_mayStandInDebt_34 := cwV (R := rm_Txt_mayStand) (s := s) (args := args) (rm := rm_Txt_mayStandInDebt) (mc := 0) (ms := 0) 4 hts gX8_mayStand_X8_mayStandInDebt rfl rfl rfl (by decide +kernel) ⟨Nat.le_of_ble_eq_true rfl, Nat.le_of_ble_eq_true rfl⟩
  have hl := lv_entry ([.ref o_txt, .int x1, .int x2, .int x3, .int x4]) (n := 6) (Nat.le_of_ble_eq_true rfl)
  rw [show entryFrame m args 6 = entryFrame m ([.ref o_txt, .int x1, .int x2, .int x3, .int x4] : List Value).toArray 6 from by rw [ha], lg_entry_eq]
  generalize (lg_sl ([.ref o_txt, .int x1, .int x2, .int x3, .int x4]) ++ List.replicate (6 - (lg_sl ([.ref o_txt, .int x1, .int x2, .int x3, .int x4])).length) Slot.unset).toArray = ls at hl ⊢
  generalize hQ : MQ below (vp_Si (fun r => r = out)) args s 0 0 (fun _ => False) = Q
  have hret : ∀ (v : Int32) (pc : Nat) (ls : Array Slot), narrow .boolean (.int v) = .int v → some v = some out → decode cX8_mayStand pc = .ok (.ireturn, 1) → W p l e rm_Txt_mayStand s m args below meth c s.heap [] 0 0 Q (F0 m pc ls [.int v]) := by
    intro v pc ls hz hf hd
    rw [← hQ]
    exact W.zret (v := v) hx hb hr hz (fun t ht hW => ⟨v, rfl, Option.some.inj hf, ht⟩) (fun q h => by cases h) hd
  exact v_Txt_mayStand hf hx hb hml hown hts in_X8 g_9 w_mayBegin_27 w_digitAt_31 w_mayStandInDebt_34 hP hK hN hret ls hl
def Txt_firstFault_L9 (f : Nat) (I_txt : FI) (V_txt : FV) (k_9 : Int32 → Option (Int32)) : Nat → Int32 → Int32 → Int32 → Int32 → Option (Int32)
  | 0, _, _, _, _ => none
  | n_9 + 1, x1_9, x2_9, x3_9, x4_9 => (if (I_txt 1) ≤ x4_9 then (k_9 x3_9) else ob1 (Txt_mayStand f x3_9 x4_9 x1_9 x2_9 I_txt V_txt) (fun zr1 => (if zr1 = 0 then some x4_9 else ob1 (Txt_bytesOfPart f x3_9 I_txt V_txt) (fun zr2 => (nm (fun (x1_74 : Int32) (x2_74 : Int32) (x3_74 : Int32) => (Txt_firstFault_L9 f I_txt V_txt k_9 n_9 x1_74 x2_74 x3_74 (x4_9 + 1))) (fun j74 => (if ((x4_9 + 1) - x3_9) = zr2 then if x3_9 < 0 ∨ 80 ≤ x3_9.toNatClampNeg then none else ((nm (fun (x1_71 : Int32) (x2_71 : Int32) => (j74 x1_71 x2_71 (x4_9 + 1))) (fun j71 => (if ((V_txt 0) x3_9.toNatClampNeg) = 80 then (j71 (x1_9 + 1) x2_9) else (j71 x1_9 (x2_9 + 1)))))) else (j74 x1_9 x2_9 x3_9))))))))
def Txt_firstFault (f : Nat) (I_txt : FI) (V_txt : FV) : Option (Int32) := (Txt_firstFault_L9 f I_txt V_txt (fun (x3_9 : Int32) => (if x3_9 = (I_txt 1) then some (-9) else some (I_txt 1))) f 0 0 0 0)
abbrev rm_Txt_firstFault : Room := { frames := 3, cells := 0, slots := 0, locals := 71 }
set_option maxHeartbeats 4000000 in
set_option maxRecDepth 100000 in
theorem v_Txt_firstFault {l : Launch} {p : Program} {e : Env} {s : State} {m : MethodId} {args : Array Value} {below : List Frame} {meth : Method} {c : Code} {Q : State → Prop} {D : va_G} {cs : Nat → ClassId} {o_txt : Nat} {h_txt : Nat → Nat} {I_txt : FI} {V_txt : FV} {f : Nat} {out : Int32} (hf : Txt_firstFault f I_txt V_txt = some out) (hx : p.tables.exec = Jvm.exec) (hb : c.code = cX8_firstFault) (hml : c.maxLocals = 6) (hown : s.vm.findClass RX8 = some m.cls) (hts : ∀ w ∈ wsX8_firstFault, w.before args s = true) (in_X8 : ∀ w ∈ u_ws RX8 TX8 2, w ∈ wsX8_firstFault) (g_15 : (Cond.fieldLink RX8 15 "DaysLent$Text" "length" "I").before args s = true) (w_mayStand_19 : CallW rm_Txt_firstFault s args RX8 RX8 19 yX8_mayStand cX8_mayStand 6 (some .boolean) wsX8_mayStand rm_Txt_mayStand 0 0 4) (w_bytesOfPart_23 : CallW rm_Txt_firstFault s args RX8 RX8 23 yX8_bytesOfPart cX8_bytesOfPart 2 (some .int) wsX8_bytesOfPart rm_Txt_bytesOfPart 0 0 1) (g_9 : (Cond.fieldLink RX8 9 "DaysLent$Text" "bytes" "[B").before args s = true) (hP : va_P D vwCl (List.flatten [(w_Txt cs o_txt h_txt I_txt V_txt)]) s.heap) (hK : va_K D vwCl (tyA cs) s) (hN : yN s) (hret : ∀ (v : Int32) (pc : Nat) (ls : Array Slot), some v = some out → decode cX8_firstFault pc = .ok (.ireturn, 1) → W p l e rm_Txt_firstFault s m args below meth c s.heap [] 0 0 Q (F0 m pc ls [.int v])) : ∀ ls : Array Slot, lv_has ls 6 [(0, .ref o_txt)] → W p l e rm_Txt_firstFault s m args below meth c s.heap [] 0 0 Q (F0 m 0 ls []) := by
  intro ls hl
  unfold Txt_firstFault at hf
  refine lv_iconst (v := 0) hx hb dX8_firstFault_0 (by decide) ?_
  refine lv_istore_n (lv' := [(1, .int 0), (0, .ref o_txt)]) hx hb dX8_firstFault_1 rfl hl (by decide) rfl (fun ls hl => ?_)
  refine lv_iconst (v := 0) hx hb dX8_firstFault_2 (by decide) ?_
  refine lv_istore_n (lv' := [(2, .int 0), (1, .int 0), (0, .ref o_txt)]) hx hb dX8_firstFault_3 rfl hl (by decide) rfl (fun ls hl => ?_)
  refine lv_iconst (v := 0) hx hb dX8_firstFault_4 (by decide) ?_
  refine lv_istore_n (lv' := [(3, .int 0), (2, .int 0), (1, .int 0), (0, .ref o_txt)]) hx hb dX8_firstFault_5 rfl hl (by decide) rfl (fun ls hl => ?_)
  refine lv_iconst (v := 0) hx hb dX8_firstFault_6 (by decide) ?_
  refine lv_istore (lv' := [(4, .int 0), (3, .int 0), (2, .int 0), (1, .int 0), (0, .ref o_txt)]) hx hb dX8_firstFault_7 hl (by decide) rfl (fun ls hl => ?_)
  have L9 : ∀ (k_9 : Int32 → Option (Int32)) (hk_9 : ∀ (x3_9 : Int32), k_9 x3_9 = some out → ∀ ls : Array Slot, lv_has ls 6 [(0, .ref o_txt), (3, .int x3_9)] → W p l e rm_Txt_firstFault s m args below meth c s.heap [] 0 0 Q (F0 m 80 ls [])), ∀ (n_9 : Nat) (x1_9 : Int32) (x2_9 : Int32) (x3_9 : Int32) (x4_9 : Int32), Txt_firstFault_L9 f I_txt V_txt k_9 n_9 x1_9 x2_9 x3_9 x4_9 = some out → ∀ ls : Array Slot, lv_has ls 6 [(0, .ref o_txt), (1, .int x1_9), (2, .int x2_9), (3, .int x3_9), (4, .int x4_9)] → W p l e rm_Txt_firstFault s m args below meth c s.heap [] 0 0 Q (F0 m 9 ls []) := by
    intro k_9 hk_9 n_9
    induction n_9 with
    | zero => intro x1_9 x2_9 x3_9 x4_9 hf; rw [Txt_firstFault_L9] at hf; cases hf
    | succ n_9 ih_9 =>
      intro x1_9 x2_9 x3_9 x4_9 hf ls hl
      rw [Txt_firstFault_L9] at hf
      refine lv_iload hx hb dX8_firstFault_9 (lv_at hl 4 rfl) ?_
      refine lv_aload_n hx hb dX8_firstFault_11 rfl (lv_at hl 0 rfl) ?_
      refine va_get (D := D) (ci := 8) (v := .int (I_txt 1)) (C := RX8) (T := TX8) (N := 2) hx hb hts in_X8 hown hK hP 0 rfl rfl 1 (by decide) g_15 (fun _ h9 => h9) rfl dX8_firstFault_12 ?_
      refine lv_icmp_ge (tgt := 80) hx hb dX8_firstFault_15 (by decide) (fun c15 => ?_) (fun c15 => ?_)
      · replace hf := ip c15 hf
        exact hk_9 x3_9 hf _ (lv_sub hl [0, 3] rfl)
      · replace hf := im c15 hf
        refine lv_aload_n hx hb dX8_firstFault_18 rfl (lv_at hl 0 rfl) ?_
        refine lv_iload_n hx hb dX8_firstFault_19 rfl (lv_at hl 3 rfl) ?_
        refine lv_iload hx hb dX8_firstFault_20 (lv_at hl 4 rfl) ?_
        refine lv_iload_n hx hb dX8_firstFault_22 rfl (lv_at hl 1 rfl) ?_
        refine lv_iload_n hx hb dX8_firstFault_23 rfl (lv_at hl 2 rfl) ?_
        obtain ⟨zr1, qr1, hf⟩ := bd1 hf
        refine vp_callSi (va_Run.run (va_runV (As := [.int x3_9, .int x4_9, .int x1_9, .int x2_9]) (rest := []) ⟨hx, hb, hml, hown, hts⟩ (c_Txt_mayStand l D cs o_txt h_txt I_txt V_txt x3_9 x4_9 x1_9 x2_9 f zr1 qr1) w_mayStand_19 ⟨yR_moved, va_recv hK hP (ci := 8) (q0 := 0) rfl rfl, fun U hU hW => ⟨rfl, by rw [hU]; exact hP, va_K.moved hW.alike hK, yN_warm hW hN⟩⟩ rfl rfl hl.1 rfl (lv_room (Nat.le_of_ble_eq_true rfl)) dX8_firstFault_24 ⟨Nat.zero_le _, Nat.zero_le _⟩)) (fun r1 er1 => ?_)
        rw [er1]
        refine lv_if_ne (tgt := 33) hx hb dX8_firstFault_27 (by decide) (fun c27 => ?_) (fun c27 => ?_)
        · replace hf := im c27 hf
          refine lv_iload hx hb dX8_firstFault_33 (lv_at hl 4 rfl) ?_
          refine lv_iconst (v := 1) hx hb dX8_firstFault_35 (by decide) ?_
          refine lv_iadd hx hb dX8_firstFault_36 ?_
          refine lv_istore (lv' := [(5, .int (x4_9 + 1)), (0, .ref o_txt), (1, .int x1_9), (2, .int x2_9), (3, .int x3_9), (4, .int x4_9)]) hx hb dX8_firstFault_37 hl (by decide) rfl (fun ls hl => ?_)
          refine lv_iload hx hb dX8_firstFault_39 (lv_at hl 0 rfl) ?_
          refine lv_iload_n hx hb dX8_firstFault_41 rfl (lv_at hl 4 rfl) ?_
          refine lv_isub hx hb dX8_firstFault_42 ?_
          refine lv_aload_n hx hb dX8_firstFault_43 rfl (lv_at hl 1 rfl) ?_
          refine lv_iload_n hx hb dX8_firstFault_44 rfl (lv_at hl 4 rfl) ?_
          obtain ⟨zr2, qr2, hf⟩ := bd1 hf
          refine vp_callSi (va_Run.run (va_runV (As := [.int x3_9]) (rest := [.int ((x4_9 + 1) - x3_9)]) ⟨hx, hb, hml, hown, hts⟩ (c_Txt_bytesOfPart l D cs o_txt h_txt I_txt V_txt x3_9 f zr2 qr2) w_bytesOfPart_23 ⟨yR_moved, va_recv hK hP (ci := 8) (q0 := 0) rfl rfl, fun U hU hW => ⟨rfl, by rw [hU]; exact hP, va_K.moved hW.alike hK, yN_warm hW hN⟩⟩ rfl rfl hl.1 rfl (lv_room (Nat.le_of_ble_eq_true rfl)) dX8_firstFault_45 ⟨Nat.zero_le _, Nat.zero_le _⟩)) (fun r2 er2 => ?_)
          rw [er2]
          obtain ⟨j74, ej74, hf⟩ := nme hf
          have J74 : ∀ (x1_74 : Int32) (x2_74 : Int32) (x3_74 : Int32), j74 x1_74 x2_74 x3_74 = some out → ∀ ls : Array Slot, lv_has ls 6 [(0, .ref o_txt), (1, .int x1_74), (2, .int x2_74), (3, .int x3_74), (4, .int x4_9)] → W p l e rm_Txt_firstFault s m args below meth c s.heap [] 0 0 Q (F0 m 74 ls []) := by
            intro x1_74 x2_74 x3_74 hf ls hl
            rw [ej74] at hf
            refine lv_iinc (v := (x4_9 + 1)) (lv' := [(4, .int (x4_9 + 1)), (0, .ref o_txt), (1, .int x1_74), (2, .int x2_74), (3, .int x3_74)]) hx hb dX8_firstFault_74 hl (k := 4) rfl (by rfl) (by decide) rfl (fun ls hl => ?_)
            refine lv_goto (tgt := 9) hx hb dX8_firstFault_77 (by decide) ?_
            exact ih_9 x1_74 x2_74 x3_74 (x4_9 + 1) hf _ (lv_sub hl [1, 2, 3, 4, 0] rfl)
          refine lv_icmp_ne (tgt := 74) hx hb dX8_firstFault_48 (by decide) (fun c48 => ?_) (fun c48 => ?_)
          · replace hf := im c48 hf
            exact J74 x1_9 x2_9 x3_9 hf _ (lv_sub hl [1, 2, 3, 4, 5] rfl)
          · replace hf := ip c48 hf
            refine lv_aload_n hx hb dX8_firstFault_51 rfl (lv_at hl 1 rfl) ?_
            refine va_get (D := D) (ci := 8) (v := .ref (h_txt 0)) (C := RX8) (T := TX8) (N := 2) hx hb hts in_X8 hown hK hP 0 rfl rfl 0 (by decide) g_9 (fun _ h9 => h9) rfl dX8_firstFault_52 ?_
            refine lv_iload_n hx hb dX8_firstFault_55 rfl (lv_at hl 4 rfl) ?_
            obtain ⟨c56, hf⟩ := gd hf
            refine va_bald (f := (V_txt 0)) hx hb hK hP 1 2 rfl rfl c56 dX8_firstFault_56 ?_
            refine lv_bipush (v := 80) hx hb dX8_firstFault_57 (by decide) ?_
            obtain ⟨j71, ej71, hf⟩ := nme hf
            have J71 : ∀ (x1_71 : Int32) (x2_71 : Int32), j71 x1_71 x2_71 = some out → ∀ ls : Array Slot, lv_has ls 6 [(0, .ref o_txt), (1, .int x1_71), (2, .int x2_71), (4, .int x4_9), (5, .int (x4_9 + 1))] → W p l e rm_Txt_firstFault s m args below meth c s.heap [] 0 0 Q (F0 m 71 ls []) := by
              intro x1_71 x2_71 hf ls hl
              rw [ej71] at hf
              refine lv_iload hx hb dX8_firstFault_71 (lv_at hl 4 rfl) ?_
              refine lv_istore_n (lv' := [(3, .int (x4_9 + 1)), (0, .ref o_txt), (1, .int x1_71), (2, .int x2_71), (4, .int x4_9), (5, .int (x4_9 + 1))]) hx hb dX8_firstFault_73 rfl hl (by decide) rfl (fun ls hl => ?_)
              exact J74 x1_71 x2_71 (x4_9 + 1) hf _ (lv_sub hl [1, 2, 3, 0, 4] rfl)
            refine lv_icmp_ne (tgt := 68) hx hb dX8_firstFault_59 (by decide) (fun c59 => ?_) (fun c59 => ?_)
            · replace hf := im c59 hf
              refine lv_iinc (v := (x2_9 + 1)) (lv' := [(2, .int (x2_9 + 1)), (5, .int (x4_9 + 1)), (0, .ref o_txt), (1, .int x1_9), (3, .int x3_9), (4, .int x4_9)]) hx hb dX8_firstFault_68 hl (k := 3) rfl (by rfl) (by decide) rfl (fun ls hl => ?_)
              exact J71 x1_9 (x2_9 + 1) hf _ (lv_sub hl [2, 3, 0, 5, 1] rfl)
            · replace hf := ip c59 hf
              refine lv_iinc (v := (x1_9 + 1)) (lv' := [(1, .int (x1_9 + 1)), (5, .int (x4_9 + 1)), (0, .ref o_txt), (2, .int x2_9), (3, .int x3_9), (4, .int x4_9)]) hx hb dX8_firstFault_62 hl (k := 2) rfl (by rfl) (by decide) rfl (fun ls hl => ?_)
              refine lv_goto (tgt := 71) hx hb dX8_firstFault_65 (by decide) ?_
              exact J71 (x1_9 + 1) x2_9 hf _ (lv_sub hl [2, 0, 3, 5, 1] rfl)
        · replace hf := ip c27 hf
          refine lv_iload hx hb dX8_firstFault_30 (lv_at hl 4 rfl) ?_
          exact hret x4_9 32 _ hf dX8_firstFault_32
  refine L9 _ (fun x3_9 hf ls hl => ?_) f 0 0 0 0 hf _ (lv_sub hl [4, 3, 2, 1, 0] rfl)
  refine lv_iload_n hx hb dX8_firstFault_80 rfl (lv_at hl 1 rfl) ?_
  refine lv_aload_n hx hb dX8_firstFault_81 rfl (lv_at hl 0 rfl) ?_
  refine va_get (D := D) (ci := 8) (v := .int (I_txt 1)) (C := RX8) (T := TX8) (N := 2) hx hb hts in_X8 hown hK hP 0 rfl rfl 1 (by decide) g_15 (fun _ h9 => h9) rfl dX8_firstFault_82 ?_
  refine lv_icmp_ne (tgt := 93) hx hb dX8_firstFault_85 (by decide) (fun c85 => ?_) (fun c85 => ?_)
  · replace hf := im c85 hf
    refine lv_aload_n hx hb dX8_firstFault_93 rfl (lv_at hl 0 rfl) ?_
    refine va_get (D := D) (ci := 8) (v := .int (I_txt 1)) (C := RX8) (T := TX8) (N := 2) hx hb hts in_X8 hown hK hP 0 rfl rfl 1 (by decide) g_15 (fun _ h9 => h9) rfl dX8_firstFault_94 ?_
    exact hret (I_txt 1) 97 _ hf dX8_firstFault_97
  · replace hf := ip c85 hf
    refine lv_bipush (v := (-9)) hx hb dX8_firstFault_88 (by decide) ?_
    refine lv_goto (tgt := 97) hx hb dX8_firstFault_90 (by decide) ?_
    exact hret (-9) 97 _ hf dX8_firstFault_97
set_option maxHeartbeats 4000000 in
set_option maxRecDepth 100000 in
theorem c_Txt_firstFault (l : Launch) (D : va_G) (cs : Nat → ClassId) (o_txt : Nat) (h_txt : Nat → Nat) (I_txt : FI) (V_txt : FV) (f : Nat) (out : Int32) (hf : Txt_firstFault f I_txt V_txt = some out) : Met l yX8_firstFault wsX8_firstFault rm_Txt_firstFault (va_Pc [.ref o_txt] (yR D cs (List.flatten [(w_Txt cs o_txt h_txt I_txt V_txt)]))) (vp_Si (fun r => r = out)) 0 0 (fun _ => False) := by
  refine Met.ofW (cc := cX8_firstFault) (maxL := 6) (ret := (some .int)) (by decide) rfl ?_
  intro p e s m args below meth c s₁ B hml hv
  obtain ⟨ha, hP, hK, hN⟩ := hv
  have hx := B.exec
  have hb := B.bytes
  have hr := B.returns
  have hts := atoms_spec (ws := wsX8_firstFault) B.pre
  have hown : s.vm.findClass RX8 = some m.cls := findClass_of_methodNamed B.named
  have hlocks := B.notSynchronized
  have in_X8 : ∀ w ∈ u_ws RX8 TX8 2, w ∈ wsX8_firstFault := fun w h => List.mem_cons_of_mem _ (List.mem_append_right _ h)
  have g_15 := hts (Cond.fieldLink RX8 15 "DaysLent$Text" "length" "I") (by decide +kernel)
  have w_mayStand_19 := cwV (R := rm_Txt_firstFault) (s := s) (args := args) (rm := rm_Txt_mayStand) (mc := 0) (ms := 0) 4 hts gX8_firstFault_X8_mayStand rfl rfl rfl (by decide +kernel) ⟨Nat.le_of_ble_eq_true rfl, Nat.le_of_ble_eq_true rfl⟩
  have w_bytesOfPart_23 := cwV (R := rm_Txt_firstFault) (s := s) (args := args) (rm := rm_Txt_bytesOfPart) (mc := 0) (ms := 0) 1 hts gX8_firstFault_X8_bytesOfPart rfl rfl rfl (by decide +kernel) ⟨Nat.le_of_ble_eq_true rfl, Nat.le_of_ble_eq_true rfl⟩
  have g_9 := hts (Cond.fieldLink RX8 9 "DaysLent$Text" "bytes" "[B") (by decide +kernel)
  have hl := lv_entry ([.ref o_txt]) (n := 6) (Nat.le_of_ble_eq_true rfl)
  rw [show entryFrame m args 6 = entryFrame m ([.ref o_txt] : List Value).toArray 6 from by rw [ha], lg_entry_eq]
  generalize (lg_sl ([.ref o_txt]) ++ List.replicate (6 - (lg_sl ([.ref o_txt])).length) Slot.unset).toArray = ls at hl ⊢
  generalize hQ : MQ below (vp_Si (fun r => r = out)) args s 0 0 (fun _ => False) = Q
  have hret : ∀ (v : Int32) (pc : Nat) (ls : Array Slot), some v = some out → decode cX8_firstFault pc = .ok (.ireturn, 1) → W p l e rm_Txt_firstFault s m args below meth c s.heap [] 0 0 Q (F0 m pc ls [.int v]) := by
    intro v pc ls hf hd
    rw [← hQ]
    exact W.iret (v := v) hx hb hr (fun t ht hW => ⟨v, rfl, Option.some.inj hf, ht⟩) (fun q h => by cases h) hd
  exact v_Txt_firstFault hf hx hb hml hown hts in_X8 g_15 w_mayStand_19 w_bytesOfPart_23 g_9 hP hK hN hret ls hl
def Txt_twoDigitsAt (f : Nat) (x1 : Int32) (I_txt : FI) (V_txt : FV) : Option (Int32) := ob1 (Txt_digitAt f x1 I_txt V_txt) (fun zr1 => ob1 (Txt_digitAt f (x1 + 1) I_txt V_txt) (fun zr2 => some ((10 * zr1) + zr2)))
abbrev rm_Txt_twoDigitsAt : Room := { frames := 1, cells := 0, slots := 0, locals := 22 }
set_option maxHeartbeats 4000000 in
set_option maxRecDepth 100000 in
theorem v_Txt_twoDigitsAt {l : Launch} {p : Program} {e : Env} {s : State} {m : MethodId} {args : Array Value} {below : List Frame} {meth : Method} {c : Code} {Q : State → Prop} {D : va_G} {cs : Nat → ClassId} {o_txt : Nat} {h_txt : Nat → Nat} {I_txt : FI} {V_txt : FV} {x1 : Int32} {f : Nat} {out : Int32} (hf : Txt_twoDigitsAt f x1 I_txt V_txt = some out) (hx : p.tables.exec = Jvm.exec) (hb : c.code = cX8_twoDigitsAt) (hml : c.maxLocals = 2) (hown : s.vm.findClass RX8 = some m.cls) (hts : ∀ w ∈ wsX8_twoDigitsAt, w.before args s = true) (in_X8 : ∀ w ∈ u_ws RX8 TX8 2, w ∈ wsX8_twoDigitsAt) (w_digitAt_31 : CallW rm_Txt_twoDigitsAt s args RX8 RX8 31 yX8_digitAt cX8_digitAt 3 (some .int) wsX8_digitAt rm_Txt_digitAt 0 0 1) (hP : va_P D vwCl (List.flatten [(w_Txt cs o_txt h_txt I_txt V_txt)]) s.heap) (hK : va_K D vwCl (tyA cs) s) (hN : yN s) (hret : ∀ (v : Int32) (pc : Nat) (ls : Array Slot), some v = some out → decode cX8_twoDigitsAt pc = .ok (.ireturn, 1) → W p l e rm_Txt_twoDigitsAt s m args below meth c s.heap [] 0 0 Q (F0 m pc ls [.int v])) : ∀ ls : Array Slot, lv_has ls 2 [(0, .ref o_txt), (1, .int x1)] → W p l e rm_Txt_twoDigitsAt s m args below meth c s.heap [] 0 0 Q (F0 m 0 ls []) := by
  intro ls hl
  unfold Txt_twoDigitsAt at hf
  refine lv_bipush (v := 10) hx hb dX8_twoDigitsAt_0 (by decide) ?_
  refine lv_aload_n hx hb dX8_twoDigitsAt_2 rfl (lv_at hl 0 rfl) ?_
  refine lv_iload_n hx hb dX8_twoDigitsAt_3 rfl (lv_at hl 1 rfl) ?_
  obtain ⟨zr1, qr1, hf⟩ := bd1 hf
  refine vp_callSi (va_Run.run (va_runV (As := [.int x1]) (rest := [.int 10]) ⟨hx, hb, hml, hown, hts⟩ (c_Txt_digitAt l D cs o_txt h_txt I_txt V_txt x1 f zr1 qr1) w_digitAt_31 ⟨yR_moved, va_recv hK hP (ci := 8) (q0 := 0) rfl rfl, fun U hU hW => ⟨rfl, by rw [hU]; exact hP, va_K.moved hW.alike hK, yN_warm hW hN⟩⟩ rfl rfl hl.1 rfl (lv_room (Nat.le_of_ble_eq_true rfl)) dX8_twoDigitsAt_4 ⟨Nat.zero_le _, Nat.zero_le _⟩)) (fun r1 er1 => ?_)
  rw [er1]
  refine lv_imul hx hb dX8_twoDigitsAt_7 ?_
  refine lv_aload_n hx hb dX8_twoDigitsAt_8 rfl (lv_at hl 0 rfl) ?_
  refine lv_iload_n hx hb dX8_twoDigitsAt_9 rfl (lv_at hl 1 rfl) ?_
  refine lv_iconst (v := 1) hx hb dX8_twoDigitsAt_10 (by decide) ?_
  refine lv_iadd hx hb dX8_twoDigitsAt_11 ?_
  obtain ⟨zr2, qr2, hf⟩ := bd1 hf
  refine vp_callSi (va_Run.run (va_runV (As := [.int (x1 + 1)]) (rest := [.int (10 * zr1)]) ⟨hx, hb, hml, hown, hts⟩ (c_Txt_digitAt l D cs o_txt h_txt I_txt V_txt (x1 + 1) f zr2 qr2) w_digitAt_31 ⟨yR_moved, va_recv hK hP (ci := 8) (q0 := 0) rfl rfl, fun U hU hW => ⟨rfl, by rw [hU]; exact hP, va_K.moved hW.alike hK, yN_warm hW hN⟩⟩ rfl rfl hl.1 rfl (lv_room (Nat.le_of_ble_eq_true rfl)) dX8_twoDigitsAt_12 ⟨Nat.zero_le _, Nat.zero_le _⟩)) (fun r2 er2 => ?_)
  rw [er2]
  refine lv_iadd hx hb dX8_twoDigitsAt_15 ?_
  exact hret ((10 * zr1) + zr2) 16 _ hf dX8_twoDigitsAt_16
set_option maxHeartbeats 4000000 in
set_option maxRecDepth 100000 in
theorem c_Txt_twoDigitsAt (l : Launch) (D : va_G) (cs : Nat → ClassId) (o_txt : Nat) (h_txt : Nat → Nat) (I_txt : FI) (V_txt : FV) (x1 : Int32) (f : Nat) (out : Int32) (hf : Txt_twoDigitsAt f x1 I_txt V_txt = some out) : Met l yX8_twoDigitsAt wsX8_twoDigitsAt rm_Txt_twoDigitsAt (va_Pc [.ref o_txt, .int x1] (yR D cs (List.flatten [(w_Txt cs o_txt h_txt I_txt V_txt)]))) (vp_Si (fun r => r = out)) 0 0 (fun _ => False) := by
  refine Met.ofW (cc := cX8_twoDigitsAt) (maxL := 2) (ret := (some .int)) (by decide) rfl ?_
  intro p e s m args below meth c s₁ B hml hv
  obtain ⟨ha, hP, hK, hN⟩ := hv
  have hx := B.exec
  have hb := B.bytes
  have hr := B.returns
  have hts := atoms_spec (ws := wsX8_twoDigitsAt) B.pre
  have hown : s.vm.findClass RX8 = some m.cls := findClass_of_methodNamed B.named
  have hlocks := B.notSynchronized
  have in_X8 : ∀ w ∈ u_ws RX8 TX8 2, w ∈ wsX8_twoDigitsAt := fun w h => List.mem_cons_of_mem _ (List.mem_append_right _ h)
  have w_digitAt_31 := cwV (R := rm_Txt_twoDigitsAt) (s := s) (args := args) (rm := rm_Txt_digitAt) (mc := 0) (ms := 0) 1 hts gX8_twoDigitsAt_X8_digitAt rfl rfl rfl (by decide +kernel) ⟨Nat.le_of_ble_eq_true rfl, Nat.le_of_ble_eq_true rfl⟩
  have hl := lv_entry ([.ref o_txt, .int x1]) (n := 2) (Nat.le_of_ble_eq_true rfl)
  rw [show entryFrame m args 2 = entryFrame m ([.ref o_txt, .int x1] : List Value).toArray 2 from by rw [ha], lg_entry_eq]
  generalize (lg_sl ([.ref o_txt, .int x1]) ++ List.replicate (2 - (lg_sl ([.ref o_txt, .int x1])).length) Slot.unset).toArray = ls at hl ⊢
  generalize hQ : MQ below (vp_Si (fun r => r = out)) args s 0 0 (fun _ => False) = Q
  have hret : ∀ (v : Int32) (pc : Nat) (ls : Array Slot), some v = some out → decode cX8_twoDigitsAt pc = .ok (.ireturn, 1) → W p l e rm_Txt_twoDigitsAt s m args below meth c s.heap [] 0 0 Q (F0 m pc ls [.int v]) := by
    intro v pc ls hf hd
    rw [← hQ]
    exact W.iret (v := v) hx hb hr (fun t ht hW => ⟨v, rfl, Option.some.inj hf, ht⟩) (fun q h => by cases h) hd
  exact v_Txt_twoDigitsAt hf hx hb hml hown hts in_X8 w_digitAt_31 hP hK hN hret ls hl
def Txt_tellTo_L8 {ρ : Type} (f : Nat) (I_txt : FI) (V_txt : FV) (k_8 : FI → FV → Option ρ) : Nat → Int32 → Int32 → FI → FV → Option ρ
  | 0, _, _, _, _ => none
  | n_8 + 1, x2_8, x3_8, Ig_8, Vg_8 => (if 14 ≤ x3_8 then (k_8 Ig_8 Vg_8) else (if (I_txt 1) ≤ x2_8 then (k_8 Ig_8 Vg_8) else if x2_8 < 0 ∨ 80 ≤ x2_8.toNatClampNeg then none else ((nm (fun (Ig_86 : FI) (Vg_86 : FV) => ob1 (Txt_bytesOfPart f x2_8 I_txt V_txt) (fun zr3 => (Txt_tellTo_L8 f I_txt V_txt k_8 n_8 (x2_8 + zr3) (x3_8 + 1) Ig_86 Vg_86))) (fun j86 => (if ((V_txt 0) x2_8.toNatClampNeg) = 80 then ob1 (Txt_twoDigitsAt f (x2_8 + 1) I_txt V_txt) (fun zr11 => ob1 (Txt_digitAt f (x2_8 + 3) I_txt V_txt) (fun zr12 => ob2 (Led_addPerson f zr11 zr12 Ig_8 Vg_8) (fun I14 V15 => (j86 I14 V15)))) else ob1 (Txt_digitAt f (x2_8 + 1) I_txt V_txt) (fun zr4 => ob1 (Txt_digitAt f (x2_8 + 2) I_txt V_txt) (fun zr5 => ob1 (Txt_twoDigitsAt f (x2_8 + 3) I_txt V_txt) (fun zr6 => ob1 (Txt_digitAt f (x2_8 + 5) I_txt V_txt) (fun zr7 => ob2 (Led_addDebt f zr4 zr5 zr6 zr7 Ig_8 Vg_8) (fun I9 V10 => (j86 I9 V10))))))))))))
def Txt_tellTo (f : Nat) (I_txt : FI) (V_txt : FV) (I_g : FI) (V_g : FV) : Option (FI × FV) := ob1 (Led_clear f I_g V_g) (fun I2 => (Txt_tellTo_L8 f I_txt V_txt (fun (Ig_8 : FI) (Vg_8 : FV) => some (Ig_8, Vg_8)) f 0 0 I2 V_g))
abbrev rm_Txt_tellTo : Room := { frames := 2, cells := 0, slots := 0, locals := 45 }
set_option maxHeartbeats 4000000 in
set_option maxRecDepth 100000 in
theorem v_Txt_tellTo {l : Launch} {p : Program} {e : Env} {s : State} {m : MethodId} {args : Array Value} {below : List Frame} {meth : Method} {c : Code} {Q : State → Prop} {D : va_G} {cs : Nat → ClassId} {o_txt : Nat} {h_txt : Nat → Nat} {o_g : Nat} {h_g : Nat → Nat} {A : Nat → Prop} {I_txt : FI} {V_txt : FV} {I_g : FI} {V_g : FV} {f : Nat} {out : FI × FV} (hf : Txt_tellTo f I_txt V_txt I_g V_g = some out) (hx : p.tables.exec = Jvm.exec) (hb : c.code = cX8_tellTo) (hml : c.maxLocals = 4) (hown : s.vm.findClass RX8 = some m.cls) (hts : ∀ w ∈ wsX8_tellTo, w.before args s = true) (in_X8 : ∀ w ∈ u_ws RX8 TX8 2, w ∈ wsX8_tellTo) (in_X3 : ∀ w ∈ u_ws RX3 TX3 11, w ∈ wsX8_tellTo) (w_clear_37 : CallW rm_Txt_tellTo s args RX8 RX3 37 yX3_clear cX3_clear 1 none wsX3_clear rm_Led_clear 0 0 0) (g_15 : (Cond.fieldLink RX8 15 "DaysLent$Text" "length" "I").before args s = true) (g_9 : (Cond.fieldLink RX8 9 "DaysLent$Text" "bytes" "[B").before args s = true) (w_twoDigitsAt_42 : CallW rm_Txt_tellTo s args RX8 RX8 42 yX8_twoDigitsAt cX8_twoDigitsAt 2 (some .int) wsX8_twoDigitsAt rm_Txt_twoDigitsAt 0 0 1) (w_digitAt_31 : CallW rm_Txt_tellTo s args RX8 RX8 31 yX8_digitAt cX8_digitAt 3 (some .int) wsX8_digitAt rm_Txt_digitAt 0 0 1) (w_addPerson_45 : CallW rm_Txt_tellTo s args RX8 RX3 45 yX3_addPerson cX3_addPerson 3 none wsX3_addPerson rm_Led_addPerson 0 0 2) (w_addDebt_49 : CallW rm_Txt_tellTo s args RX8 RX3 49 yX3_addDebt cX3_addDebt 5 none wsX3_addDebt rm_Led_addDebt 0 0 4) (w_bytesOfPart_23 : CallW rm_Txt_tellTo s args RX8 RX8 23 yX8_bytesOfPart cX8_bytesOfPart 2 (some .int) wsX8_bytesOfPart rm_Txt_bytesOfPart 0 0 1) (hA : ∀ q : Nat, s.heap.size ≤ q → A q) (hP : va_P D vwCl (List.flatten [(w_Txt cs o_txt h_txt I_txt V_txt), (w_Led cs o_g h_g I_g V_g)]) s.heap) (hD : va_D A (List.flatten [(w_Txt cs o_txt h_txt I_txt V_txt), (w_Led cs o_g h_g I_g V_g)])) (hK : va_K D vwCl (tyA cs) s) (hN : yN s) (hret : ∀ (Ig9 : FI) (Vg9 : FV) (H : Heap) (locs : List Loc) (pc : Nat) (ls : Array Slot), some (Ig9, Vg9) = some out → va_P D vwCl (List.flatten [(w_Txt cs o_txt h_txt I_txt V_txt), (w_Led cs o_g h_g Ig9 Vg9)]) H → va_D A (List.flatten [(w_Txt cs o_txt h_txt I_txt V_txt), (w_Led cs o_g h_g Ig9 Vg9)]) → va_S A s.heap H locs → decode cX8_tellTo pc = .ok (.return_, 1) → W p l e rm_Txt_tellTo s m args below meth c H locs 0 0 Q (F0 m pc ls [])) : ∀ ls : Array Slot, lv_has ls 4 [(0, .ref o_txt), (1, .ref o_g)] → W p l e rm_Txt_tellTo s m args below meth c s.heap [] 0 0 Q (F0 m 0 ls []) := by
  intro ls hl
  have hS : va_S A s.heap s.heap [] := va_S.rf
  unfold Txt_tellTo at hf
  refine lv_aload_n hx hb dX8_tellTo_0 rfl (lv_at hl 1 rfl) ?_
  have hPc := subB (bs := [(w_Txt cs o_txt h_txt I_txt V_txt), (w_Led cs o_g h_g I_g V_g)]) (ca := [(w_Led cs o_g h_g I_g V_g)]) (ra := [(w_Txt cs o_txt h_txt I_txt V_txt)]) [1, 0] (by decide) rfl rfl hP
  obtain ⟨I2, qr1, hf⟩ := bd1 hf
  have hDc := subD (bs := [(w_Txt cs o_txt h_txt I_txt V_txt), (w_Led cs o_g h_g I_g V_g)]) (ca := [(w_Led cs o_g h_g I_g V_g)]) (ra := [(w_Txt cs o_txt h_txt I_txt V_txt)]) [1, 0] (by decide) rfl rfl hD
  have hFc := xfree hDc hS hA
  refine va_callv (va_runV (As := []) (rest := []) ⟨hx, hb, hml, hown, hts⟩ (c_Led_clear l D cs o_g h_g _ I_g V_g f _ qr1) w_clear_37 ⟨yP_moved, va_recv hK hPc (ci := 3) (q0 := 0) rfl rfl, fun U hU hW => ⟨rfl, by rw [hU], by rw [hU]; exact hPc, va_K.moved hW.alike hK, yN_warm hW hN, hDc.weaken (fun _ _ _ _ => trivial)⟩⟩ rfl rfl hl.1 rfl (lv_room (Nat.le_of_ble_eq_true rfl)) dX8_tellTo_1 ⟨Nat.zero_le _, Nat.zero_le _⟩) hS (fun q _ h9 => hFc q h9) hFc (fun u t H1 locs ht hvm hw hB hz1 hk1 hS => ?_)
  rw [hw] at hB
  obtain ⟨hP1, hK1, hD1⟩ := hB
  rw [ht] at hP1
  obtain ⟨hP, hD⟩ := joinB (bs := [(w_Txt cs o_txt h_txt I_txt V_txt), (w_Led cs o_g h_g I_g V_g)]) (ca := [(w_Led cs o_g h_g I_g V_g)]) (ra := [(w_Txt cs o_txt h_txt I_txt V_txt)]) [1, 0] (by decide) rfl rfl hP hD hk1 hFc (cb := [(w_Led cs o_g h_g I2 V_g)]) hP1 hD1 (be := [(w_Txt cs o_txt h_txt I_txt V_txt), (w_Led cs o_g h_g I2 V_g)]) [1, 0] (by decide) rfl rfl
  refine lv_iconst (v := 0) hx hb dX8_tellTo_4 (by decide) ?_
  refine lv_istore_n (lv' := [(2, .int 0), (0, .ref o_txt), (1, .ref o_g)]) hx hb dX8_tellTo_5 rfl hl (by decide) rfl (fun ls hl => ?_)
  refine lv_iconst (v := 0) hx hb dX8_tellTo_6 (by decide) ?_
  refine lv_istore_n (lv' := [(3, .int 0), (2, .int 0), (0, .ref o_txt), (1, .ref o_g)]) hx hb dX8_tellTo_7 rfl hl (by decide) rfl (fun ls hl => ?_)
  have L8 : ∀ (k_8 : FI → FV → Option (FI × FV)) (hk_8 : ∀ (Ig_8 : FI) (Vg_8 : FV), k_8 Ig_8 Vg_8 = some out → ∀ (H : Heap) (locs : List Loc), va_P D vwCl (List.flatten [(w_Txt cs o_txt h_txt I_txt V_txt), (w_Led cs o_g h_g Ig_8 Vg_8)]) H → va_D A (List.flatten [(w_Txt cs o_txt h_txt I_txt V_txt), (w_Led cs o_g h_g Ig_8 Vg_8)]) → va_S A s.heap H locs → ∀ ls : Array Slot, lv_has ls 4 [] → W p l e rm_Txt_tellTo s m args below meth c H locs 0 0 Q (F0 m 100 ls [])), ∀ (n_8 : Nat) (x2_8 : Int32) (x3_8 : Int32) (Ig_8 : FI) (Vg_8 : FV), Txt_tellTo_L8 f I_txt V_txt k_8 n_8 x2_8 x3_8 Ig_8 Vg_8 = some out → ∀ (H : Heap) (locs : List Loc), va_P D vwCl (List.flatten [(w_Txt cs o_txt h_txt I_txt V_txt), (w_Led cs o_g h_g Ig_8 Vg_8)]) H → va_D A (List.flatten [(w_Txt cs o_txt h_txt I_txt V_txt), (w_Led cs o_g h_g Ig_8 Vg_8)]) → va_S A s.heap H locs → ∀ ls : Array Slot, lv_has ls 4 [(0, .ref o_txt), (1, .ref o_g), (2, .int x2_8), (3, .int x3_8)] → W p l e rm_Txt_tellTo s m args below meth c H locs 0 0 Q (F0 m 8 ls []) := by
    intro k_8 hk_8 n_8
    induction n_8 with
    | zero => intro x2_8 x3_8 Ig_8 Vg_8 hf; rw [Txt_tellTo_L8] at hf; cases hf
    | succ n_8 ih_8 =>
      intro x2_8 x3_8 Ig_8 Vg_8 hf H locs hP hD hS ls hl
      rw [Txt_tellTo_L8] at hf
      refine lv_iload_n hx hb dX8_tellTo_8 rfl (lv_at hl 3 rfl) ?_
      refine lv_bipush (v := 14) hx hb dX8_tellTo_9 (by decide) ?_
      refine lv_icmp_ge (tgt := 100) hx hb dX8_tellTo_11 (by decide) (fun c11 => ?_) (fun c11 => ?_)
      · replace hf := ip c11 hf
        exact hk_8 Ig_8 Vg_8 hf _ _ hP hD hS _ (lv_sub hl [] rfl)
      · replace hf := im c11 hf
        refine lv_iload_n hx hb dX8_tellTo_14 rfl (lv_at hl 2 rfl) ?_
        refine lv_aload_n hx hb dX8_tellTo_15 rfl (lv_at hl 0 rfl) ?_
        refine va_get (D := D) (ci := 8) (v := .int (I_txt 1)) (C := RX8) (T := TX8) (N := 2) hx hb hts in_X8 hown hK hP 0 rfl rfl 1 (by decide) g_15 (fun _ h9 => h9) rfl dX8_tellTo_16 ?_
        refine lv_icmp_ge (tgt := 100) hx hb dX8_tellTo_19 (by decide) (fun c19 => ?_) (fun c19 => ?_)
        · replace hf := ip c19 hf
          exact hk_8 Ig_8 Vg_8 hf _ _ hP hD hS _ (lv_sub hl [] rfl)
        · replace hf := im c19 hf
          refine lv_aload_n hx hb dX8_tellTo_22 rfl (lv_at hl 0 rfl) ?_
          refine va_get (D := D) (ci := 8) (v := .ref (h_txt 0)) (C := RX8) (T := TX8) (N := 2) hx hb hts in_X8 hown hK hP 0 rfl rfl 0 (by decide) g_9 (fun _ h9 => h9) rfl dX8_tellTo_23 ?_
          refine lv_iload_n hx hb dX8_tellTo_26 rfl (lv_at hl 2 rfl) ?_
          obtain ⟨c27, hf⟩ := gd hf
          refine va_bald (f := (V_txt 0)) hx hb hK hP 1 2 rfl rfl c27 dX8_tellTo_27 ?_
          refine lv_bipush (v := 80) hx hb dX8_tellTo_28 (by decide) ?_
          obtain ⟨j86, ej86, hf⟩ := nme hf
          have J86 : ∀ (Ig_86 : FI) (Vg_86 : FV), j86 Ig_86 Vg_86 = some out → ∀ (H : Heap) (locs : List Loc), va_P D vwCl (List.flatten [(w_Txt cs o_txt h_txt I_txt V_txt), (w_Led cs o_g h_g Ig_86 Vg_86)]) H → va_D A (List.flatten [(w_Txt cs o_txt h_txt I_txt V_txt), (w_Led cs o_g h_g Ig_86 Vg_86)]) → va_S A s.heap H locs → ∀ ls : Array Slot, lv_has ls 4 [(0, .ref o_txt), (1, .ref o_g), (2, .int x2_8), (3, .int x3_8)] → W p l e rm_Txt_tellTo s m args below meth c H locs 0 0 Q (F0 m 86 ls []) := by
            intro Ig_86 Vg_86 hf H locs hP hD hS ls hl
            rw [ej86] at hf
            refine lv_iload_n hx hb dX8_tellTo_86 rfl (lv_at hl 2 rfl) ?_
            refine lv_aload_n hx hb dX8_tellTo_87 rfl (lv_at hl 0 rfl) ?_
            refine lv_iload_n hx hb dX8_tellTo_88 rfl (lv_at hl 2 rfl) ?_
            have hPc := subB (bs := [(w_Txt cs o_txt h_txt I_txt V_txt), (w_Led cs o_g h_g Ig_86 Vg_86)]) (ca := [(w_Txt cs o_txt h_txt I_txt V_txt)]) (ra := [(w_Led cs o_g h_g Ig_86 Vg_86)]) [0, 1] (by decide) rfl rfl hP
            obtain ⟨zr3, qr3, hf⟩ := bd1 hf
            refine vp_callSi (va_Run.run (va_runV (As := [.int x2_8]) (rest := [.int x2_8]) ⟨hx, hb, hml, hown, hts⟩ (c_Txt_bytesOfPart l D cs o_txt h_txt I_txt V_txt x2_8 f zr3 qr3) w_bytesOfPart_23 ⟨yR_moved, va_recv hK hPc (ci := 8) (q0 := 0) rfl rfl, fun U hU hW => ⟨rfl, by rw [hU]; exact hPc, va_K.moved hW.alike hK, yN_warm hW hN⟩⟩ rfl rfl hl.1 rfl (lv_room (Nat.le_of_ble_eq_true rfl)) dX8_tellTo_89 ⟨Nat.zero_le _, Nat.zero_le _⟩)) (fun r3 er3 => ?_)
            rw [er3]
            refine lv_iadd hx hb dX8_tellTo_92 ?_
            refine lv_istore_n (lv' := [(2, .int (x2_8 + zr3)), (0, .ref o_txt), (1, .ref o_g), (3, .int x3_8)]) hx hb dX8_tellTo_93 rfl hl (by decide) rfl (fun ls hl => ?_)
            refine lv_iinc (v := (x3_8 + 1)) (lv' := [(3, .int (x3_8 + 1)), (2, .int (x2_8 + zr3)), (0, .ref o_txt), (1, .ref o_g)]) hx hb dX8_tellTo_94 hl (k := 3) rfl (by rfl) (by decide) rfl (fun ls hl => ?_)
            refine lv_goto (tgt := 8) hx hb dX8_tellTo_97 (by decide) ?_
            exact ih_8 (x2_8 + zr3) (x3_8 + 1) Ig_86 Vg_86 hf _ _ hP hD hS _ (lv_sub hl [2, 3, 1, 0] rfl)
          refine lv_icmp_ne (tgt := 54) hx hb dX8_tellTo_30 (by decide) (fun c30 => ?_) (fun c30 => ?_)
          · replace hf := im c30 hf
            refine lv_aload_n hx hb dX8_tellTo_54 rfl (lv_at hl 1 rfl) ?_
            refine lv_aload_n hx hb dX8_tellTo_55 rfl (lv_at hl 0 rfl) ?_
            refine lv_iload_n hx hb dX8_tellTo_56 rfl (lv_at hl 2 rfl) ?_
            refine lv_iconst (v := 1) hx hb dX8_tellTo_57 (by decide) ?_
            refine lv_iadd hx hb dX8_tellTo_58 ?_
            have hPc := subB (bs := [(w_Txt cs o_txt h_txt I_txt V_txt), (w_Led cs o_g h_g Ig_8 Vg_8)]) (ca := [(w_Txt cs o_txt h_txt I_txt V_txt)]) (ra := [(w_Led cs o_g h_g Ig_8 Vg_8)]) [0, 1] (by decide) rfl rfl hP
            obtain ⟨zr4, qr4, hf⟩ := bd1 hf
            refine vp_callSi (va_Run.run (va_runV (As := [.int (x2_8 + 1)]) (rest := [.ref o_g]) ⟨hx, hb, hml, hown, hts⟩ (c_Txt_digitAt l D cs o_txt h_txt I_txt V_txt (x2_8 + 1) f zr4 qr4) w_digitAt_31 ⟨yR_moved, va_recv hK hPc (ci := 8) (q0 := 0) rfl rfl, fun U hU hW => ⟨rfl, by rw [hU]; exact hPc, va_K.moved hW.alike hK, yN_warm hW hN⟩⟩ rfl rfl hl.1 rfl (lv_room (Nat.le_of_ble_eq_true rfl)) dX8_tellTo_59 ⟨Nat.zero_le _, Nat.zero_le _⟩)) (fun r4 er4 => ?_)
            rw [er4]
            refine lv_aload_n hx hb dX8_tellTo_62 rfl (lv_at hl 0 rfl) ?_
            refine lv_iload_n hx hb dX8_tellTo_63 rfl (lv_at hl 2 rfl) ?_
            refine lv_iconst (v := 2) hx hb dX8_tellTo_64 (by decide) ?_
            refine lv_iadd hx hb dX8_tellTo_65 ?_
            have hPc := subB (bs := [(w_Txt cs o_txt h_txt I_txt V_txt), (w_Led cs o_g h_g Ig_8 Vg_8)]) (ca := [(w_Txt cs o_txt h_txt I_txt V_txt)]) (ra := [(w_Led cs o_g h_g Ig_8 Vg_8)]) [0, 1] (by decide) rfl rfl hP
            obtain ⟨zr5, qr5, hf⟩ := bd1 hf
            refine vp_callSi (va_Run.run (va_runV (As := [.int (x2_8 + 2)]) (rest := [.int zr4, .ref o_g]) ⟨hx, hb, hml, hown, hts⟩ (c_Txt_digitAt l D cs o_txt h_txt I_txt V_txt (x2_8 + 2) f zr5 qr5) w_digitAt_31 ⟨yR_moved, va_recv hK hPc (ci := 8) (q0 := 0) rfl rfl, fun U hU hW => ⟨rfl, by rw [hU]; exact hPc, va_K.moved hW.alike hK, yN_warm hW hN⟩⟩ rfl rfl hl.1 rfl (lv_room (Nat.le_of_ble_eq_true rfl)) dX8_tellTo_66 ⟨Nat.zero_le _, Nat.zero_le _⟩)) (fun r5 er5 => ?_)
            rw [er5]
            refine lv_aload_n hx hb dX8_tellTo_69 rfl (lv_at hl 0 rfl) ?_
            refine lv_iload_n hx hb dX8_tellTo_70 rfl (lv_at hl 2 rfl) ?_
            refine lv_iconst (v := 3) hx hb dX8_tellTo_71 (by decide) ?_
            refine lv_iadd hx hb dX8_tellTo_72 ?_
            have hPc := subB (bs := [(w_Txt cs o_txt h_txt I_txt V_txt), (w_Led cs o_g h_g Ig_8 Vg_8)]) (ca := [(w_Txt cs o_txt h_txt I_txt V_txt)]) (ra := [(w_Led cs o_g h_g Ig_8 Vg_8)]) [0, 1] (by decide) rfl rfl hP
            obtain ⟨zr6, qr6, hf⟩ := bd1 hf
            refine vp_callSi (va_Run.run (va_runV (As := [.int (x2_8 + 3)]) (rest := [.int zr5, .int zr4, .ref o_g]) ⟨hx, hb, hml, hown, hts⟩ (c_Txt_twoDigitsAt l D cs o_txt h_txt I_txt V_txt (x2_8 + 3) f zr6 qr6) w_twoDigitsAt_42 ⟨yR_moved, va_recv hK hPc (ci := 8) (q0 := 0) rfl rfl, fun U hU hW => ⟨rfl, by rw [hU]; exact hPc, va_K.moved hW.alike hK, yN_warm hW hN⟩⟩ rfl rfl hl.1 rfl (lv_room (Nat.le_of_ble_eq_true rfl)) dX8_tellTo_73 ⟨Nat.zero_le _, Nat.zero_le _⟩)) (fun r6 er6 => ?_)
            rw [er6]
            refine lv_aload_n hx hb dX8_tellTo_76 rfl (lv_at hl 0 rfl) ?_
            refine lv_iload_n hx hb dX8_tellTo_77 rfl (lv_at hl 2 rfl) ?_
            refine lv_iconst (v := 5) hx hb dX8_tellTo_78 (by decide) ?_
            refine lv_iadd hx hb dX8_tellTo_79 ?_
            have hPc := subB (bs := [(w_Txt cs o_txt h_txt I_txt V_txt), (w_Led cs o_g h_g Ig_8 Vg_8)]) (ca := [(w_Txt cs o_txt h_txt I_txt V_txt)]) (ra := [(w_Led cs o_g h_g Ig_8 Vg_8)]) [0, 1] (by decide) rfl rfl hP
            obtain ⟨zr7, qr7, hf⟩ := bd1 hf
            refine vp_callSi (va_Run.run (va_runV (As := [.int (x2_8 + 5)]) (rest := [.int zr6, .int zr5, .int zr4, .ref o_g]) ⟨hx, hb, hml, hown, hts⟩ (c_Txt_digitAt l D cs o_txt h_txt I_txt V_txt (x2_8 + 5) f zr7 qr7) w_digitAt_31 ⟨yR_moved, va_recv hK hPc (ci := 8) (q0 := 0) rfl rfl, fun U hU hW => ⟨rfl, by rw [hU]; exact hPc, va_K.moved hW.alike hK, yN_warm hW hN⟩⟩ rfl rfl hl.1 rfl (lv_room (Nat.le_of_ble_eq_true rfl)) dX8_tellTo_80 ⟨Nat.zero_le _, Nat.zero_le _⟩)) (fun r7 er7 => ?_)
            rw [er7]
            have hPc := subB (bs := [(w_Txt cs o_txt h_txt I_txt V_txt), (w_Led cs o_g h_g Ig_8 Vg_8)]) (ca := [(w_Led cs o_g h_g Ig_8 Vg_8)]) (ra := [(w_Txt cs o_txt h_txt I_txt V_txt)]) [1, 0] (by decide) rfl rfl hP
            obtain ⟨I9, V10, qr8, hf⟩ := bd2 hf
            have hDc := subD (bs := [(w_Txt cs o_txt h_txt I_txt V_txt), (w_Led cs o_g h_g Ig_8 Vg_8)]) (ca := [(w_Led cs o_g h_g Ig_8 Vg_8)]) (ra := [(w_Txt cs o_txt h_txt I_txt V_txt)]) [1, 0] (by decide) rfl rfl hD
            have hFc := xfree hDc hS hA
            refine va_callv (va_runV (As := [.int zr4, .int zr5, .int zr6, .int zr7]) (rest := []) ⟨hx, hb, hml, hown, hts⟩ (c_Led_addDebt l D cs o_g h_g _ Ig_8 Vg_8 zr4 zr5 zr6 zr7 f _ qr8) w_addDebt_49 ⟨yP_moved, va_recv hK hPc (ci := 3) (q0 := 0) rfl rfl, fun U hU hW => ⟨rfl, by rw [hU], by rw [hU]; exact hPc, va_K.moved hW.alike hK, yN_warm hW hN, hDc.weaken (fun _ _ _ _ => trivial)⟩⟩ rfl rfl hl.1 rfl (lv_room (Nat.le_of_ble_eq_true rfl)) dX8_tellTo_83 ⟨Nat.zero_le _, Nat.zero_le _⟩) hS (fun q _ h9 => hFc q h9) hFc (fun u t H1 locs ht hvm hw hB hz1 hk1 hS => ?_)
            rw [hw] at hB
            obtain ⟨hP1, hK1, hD1⟩ := hB
            rw [ht] at hP1
            obtain ⟨hP, hD⟩ := joinB (bs := [(w_Txt cs o_txt h_txt I_txt V_txt), (w_Led cs o_g h_g Ig_8 Vg_8)]) (ca := [(w_Led cs o_g h_g Ig_8 Vg_8)]) (ra := [(w_Txt cs o_txt h_txt I_txt V_txt)]) [1, 0] (by decide) rfl rfl hP hD hk1 hFc (cb := [(w_Led cs o_g h_g I9 V10)]) hP1 hD1 (be := [(w_Txt cs o_txt h_txt I_txt V_txt), (w_Led cs o_g h_g I9 V10)]) [1, 0] (by decide) rfl rfl
            exact J86 I9 V10 hf _ _ hP hD hS _ (lv_sub hl [0, 1, 2, 3] rfl)
          · replace hf := ip c30 hf
            refine lv_aload_n hx hb dX8_tellTo_33 rfl (lv_at hl 1 rfl) ?_
            refine lv_aload_n hx hb dX8_tellTo_34 rfl (lv_at hl 0 rfl) ?_
            refine lv_iload_n hx hb dX8_tellTo_35 rfl (lv_at hl 2 rfl) ?_
            refine lv_iconst (v := 1) hx hb dX8_tellTo_36 (by decide) ?_
            refine lv_iadd hx hb dX8_tellTo_37 ?_
            have hPc := subB (bs := [(w_Txt cs o_txt h_txt I_txt V_txt), (w_Led cs o_g h_g Ig_8 Vg_8)]) (ca := [(w_Txt cs o_txt h_txt I_txt V_txt)]) (ra := [(w_Led cs o_g h_g Ig_8 Vg_8)]) [0, 1] (by decide) rfl rfl hP
            obtain ⟨zr11, qr11, hf⟩ := bd1 hf
            refine vp_callSi (va_Run.run (va_runV (As := [.int (x2_8 + 1)]) (rest := [.ref o_g]) ⟨hx, hb, hml, hown, hts⟩ (c_Txt_twoDigitsAt l D cs o_txt h_txt I_txt V_txt (x2_8 + 1) f zr11 qr11) w_twoDigitsAt_42 ⟨yR_moved, va_recv hK hPc (ci := 8) (q0 := 0) rfl rfl, fun U hU hW => ⟨rfl, by rw [hU]; exact hPc, va_K.moved hW.alike hK, yN_warm hW hN⟩⟩ rfl rfl hl.1 rfl (lv_room (Nat.le_of_ble_eq_true rfl)) dX8_tellTo_38 ⟨Nat.zero_le _, Nat.zero_le _⟩)) (fun r11 er11 => ?_)
            rw [er11]
            refine lv_aload_n hx hb dX8_tellTo_41 rfl (lv_at hl 0 rfl) ?_
            refine lv_iload_n hx hb dX8_tellTo_42 rfl (lv_at hl 2 rfl) ?_
            refine lv_iconst (v := 3) hx hb dX8_tellTo_43 (by decide) ?_
            refine lv_iadd hx hb dX8_tellTo_44 ?_
            have hPc := subB (bs := [(w_Txt cs o_txt h_txt I_txt V_txt), (w_Led cs o_g h_g Ig_8 Vg_8)]) (ca := [(w_Txt cs o_txt h_txt I_txt V_txt)]) (ra := [(w_Led cs o_g h_g Ig_8 Vg_8)]) [0, 1] (by decide) rfl rfl hP
            obtain ⟨zr12, qr12, hf⟩ := bd1 hf
            refine vp_callSi (va_Run.run (va_runV (As := [.int (x2_8 + 3)]) (rest := [.int zr11, .ref o_g]) ⟨hx, hb, hml, hown, hts⟩ (c_Txt_digitAt l D cs o_txt h_txt I_txt V_txt (x2_8 + 3) f zr12 qr12) w_digitAt_31 ⟨yR_moved, va_recv hK hPc (ci := 8) (q0 := 0) rfl rfl, fun U hU hW => ⟨rfl, by rw [hU]; exact hPc, va_K.moved hW.alike hK, yN_warm hW hN⟩⟩ rfl rfl hl.1 rfl (lv_room (Nat.le_of_ble_eq_true rfl)) dX8_tellTo_45 ⟨Nat.zero_le _, Nat.zero_le _⟩)) (fun r12 er12 => ?_)
            rw [er12]
            have hPc := subB (bs := [(w_Txt cs o_txt h_txt I_txt V_txt), (w_Led cs o_g h_g Ig_8 Vg_8)]) (ca := [(w_Led cs o_g h_g Ig_8 Vg_8)]) (ra := [(w_Txt cs o_txt h_txt I_txt V_txt)]) [1, 0] (by decide) rfl rfl hP
            obtain ⟨I14, V15, qr13, hf⟩ := bd2 hf
            have hDc := subD (bs := [(w_Txt cs o_txt h_txt I_txt V_txt), (w_Led cs o_g h_g Ig_8 Vg_8)]) (ca := [(w_Led cs o_g h_g Ig_8 Vg_8)]) (ra := [(w_Txt cs o_txt h_txt I_txt V_txt)]) [1, 0] (by decide) rfl rfl hD
            have hFc := xfree hDc hS hA
            refine va_callv (va_runV (As := [.int zr11, .int zr12]) (rest := []) ⟨hx, hb, hml, hown, hts⟩ (c_Led_addPerson l D cs o_g h_g _ Ig_8 Vg_8 zr11 zr12 f _ qr13) w_addPerson_45 ⟨yP_moved, va_recv hK hPc (ci := 3) (q0 := 0) rfl rfl, fun U hU hW => ⟨rfl, by rw [hU], by rw [hU]; exact hPc, va_K.moved hW.alike hK, yN_warm hW hN, hDc.weaken (fun _ _ _ _ => trivial)⟩⟩ rfl rfl hl.1 rfl (lv_room (Nat.le_of_ble_eq_true rfl)) dX8_tellTo_48 ⟨Nat.zero_le _, Nat.zero_le _⟩) hS (fun q _ h9 => hFc q h9) hFc (fun u t H1 locs ht hvm hw hB hz1 hk1 hS => ?_)
            rw [hw] at hB
            obtain ⟨hP1, hK1, hD1⟩ := hB
            rw [ht] at hP1
            obtain ⟨hP, hD⟩ := joinB (bs := [(w_Txt cs o_txt h_txt I_txt V_txt), (w_Led cs o_g h_g Ig_8 Vg_8)]) (ca := [(w_Led cs o_g h_g Ig_8 Vg_8)]) (ra := [(w_Txt cs o_txt h_txt I_txt V_txt)]) [1, 0] (by decide) rfl rfl hP hD hk1 hFc (cb := [(w_Led cs o_g h_g I14 V15)]) hP1 hD1 (be := [(w_Txt cs o_txt h_txt I_txt V_txt), (w_Led cs o_g h_g I14 V15)]) [1, 0] (by decide) rfl rfl
            refine lv_goto (tgt := 86) hx hb dX8_tellTo_51 (by decide) ?_
            exact J86 I14 V15 hf _ _ hP hD hS _ (lv_sub hl [0, 1, 2, 3] rfl)
  refine L8 _ (fun Ig_8 Vg_8 hf H locs hP hD hS ls hl => ?_) f 0 0 I2 V_g hf _ _ hP hD hS _ (lv_sub hl [2, 3, 1, 0] rfl)
  exact hret Ig_8 Vg_8 _ _ 100 _ hf hP hD hS dX8_tellTo_100
set_option maxHeartbeats 4000000 in
set_option maxRecDepth 100000 in
theorem c_Txt_tellTo (l : Launch) (D : va_G) (cs : Nat → ClassId) (o_txt : Nat) (h_txt : Nat → Nat) (o_g : Nat) (h_g : Nat → Nat) (sz : Nat) (I_txt : FI) (V_txt : FV) (I_g : FI) (V_g : FV) (f : Nat) (out : FI × FV) (hf : Txt_tellTo f I_txt V_txt I_g V_g = some out) : Met l yX8_tellTo wsX8_tellTo rm_Txt_tellTo (va_Pc [.ref o_txt, .ref o_g] (yP D cs (List.flatten [(w_Txt cs o_txt h_txt I_txt V_txt), (w_Led cs o_g h_g I_g V_g)]) sz)) (va_Qv (fun u => u = out) (fun (u : FI × FV) t => xA D cs (va_A (List.flatten [(w_Txt cs o_txt h_txt I_txt V_txt), (w_Led cs o_g h_g I_g V_g)]) sz) (List.flatten [(w_Txt cs o_txt h_txt I_txt V_txt), (w_Led cs o_g h_g u.1 u.2)]) t) (va_A (List.flatten [(w_Txt cs o_txt h_txt I_txt V_txt), (w_Led cs o_g h_g I_g V_g)]) sz)) 0 0 (va_A (List.flatten [(w_Txt cs o_txt h_txt I_txt V_txt), (w_Led cs o_g h_g I_g V_g)]) sz) := by
  refine Met.ofW (cc := cX8_tellTo) (maxL := 4) (ret := none) (by decide) rfl ?_
  intro p e s m args below meth c s₁ B hml hv
  obtain ⟨ha, hsz, hP, hK, hN, hD0⟩ := hv
  have hx := B.exec
  have hb := B.bytes
  have hr := B.returns
  have hts := atoms_spec (ws := wsX8_tellTo) B.pre
  have hown : s.vm.findClass RX8 = some m.cls := findClass_of_methodNamed B.named
  have hlocks := B.notSynchronized
  have in_X8 : ∀ w ∈ u_ws RX8 TX8 2, w ∈ wsX8_tellTo := fun w h => List.mem_cons_of_mem _ (List.mem_append_left _ (List.mem_append_right _ h))
  have in_X3 : ∀ w ∈ u_ws RX3 TX3 11, w ∈ wsX8_tellTo := fun w h => List.mem_cons_of_mem _ (List.mem_append_right _ h)
  have w_clear_37 := cwV (R := rm_Txt_tellTo) (s := s) (args := args) (rm := rm_Led_clear) (mc := 0) (ms := 0) 0 hts gX8_tellTo_X3_clear rfl rfl rfl (by decide +kernel) ⟨Nat.le_of_ble_eq_true rfl, Nat.le_of_ble_eq_true rfl⟩
  have g_15 := hts (Cond.fieldLink RX8 15 "DaysLent$Text" "length" "I") (by decide +kernel)
  have g_9 := hts (Cond.fieldLink RX8 9 "DaysLent$Text" "bytes" "[B") (by decide +kernel)
  have w_twoDigitsAt_42 := cwV (R := rm_Txt_tellTo) (s := s) (args := args) (rm := rm_Txt_twoDigitsAt) (mc := 0) (ms := 0) 1 hts gX8_tellTo_X8_twoDigitsAt rfl rfl rfl (by decide +kernel) ⟨Nat.le_of_ble_eq_true rfl, Nat.le_of_ble_eq_true rfl⟩
  have w_digitAt_31 := cwV (R := rm_Txt_tellTo) (s := s) (args := args) (rm := rm_Txt_digitAt) (mc := 0) (ms := 0) 1 hts gX8_tellTo_X8_digitAt rfl rfl rfl (by decide +kernel) ⟨Nat.le_of_ble_eq_true rfl, Nat.le_of_ble_eq_true rfl⟩
  have w_addPerson_45 := cwV (R := rm_Txt_tellTo) (s := s) (args := args) (rm := rm_Led_addPerson) (mc := 0) (ms := 0) 2 hts gX8_tellTo_X3_addPerson rfl rfl rfl (by decide +kernel) ⟨Nat.le_of_ble_eq_true rfl, Nat.le_of_ble_eq_true rfl⟩
  have w_addDebt_49 := cwV (R := rm_Txt_tellTo) (s := s) (args := args) (rm := rm_Led_addDebt) (mc := 0) (ms := 0) 4 hts gX8_tellTo_X3_addDebt rfl rfl rfl (by decide +kernel) ⟨Nat.le_of_ble_eq_true rfl, Nat.le_of_ble_eq_true rfl⟩
  have w_bytesOfPart_23 := cwV (R := rm_Txt_tellTo) (s := s) (args := args) (rm := rm_Txt_bytesOfPart) (mc := 0) (ms := 0) 1 hts gX8_tellTo_X8_bytesOfPart rfl rfl rfl (by decide +kernel) ⟨Nat.le_of_ble_eq_true rfl, Nat.le_of_ble_eq_true rfl⟩
  subst hsz
  have hD := hD0.self (sz := s.heap.size)
  generalize hAe : va_A (List.flatten [(w_Txt cs o_txt h_txt I_txt V_txt), (w_Led cs o_g h_g I_g V_g)]) s.heap.size = A at hD ⊢
  have hA : ∀ q : Nat, s.heap.size ≤ q → A q := fun q h => by rw [← hAe]; exact Or.inr h
  have hl := lv_entry ([.ref o_txt, .ref o_g]) (n := 4) (Nat.le_of_ble_eq_true rfl)
  rw [show entryFrame m args 4 = entryFrame m ([.ref o_txt, .ref o_g] : List Value).toArray 4 from by rw [ha], lg_entry_eq]
  generalize (lg_sl ([.ref o_txt, .ref o_g]) ++ List.replicate (4 - (lg_sl ([.ref o_txt, .ref o_g])).length) Slot.unset).toArray = ls at hl ⊢
  generalize hQ : MQ below (va_Qv (fun u => u = out) (fun (u : FI × FV) t => xA D cs A (List.flatten [(w_Txt cs o_txt h_txt I_txt V_txt), (w_Led cs o_g h_g u.1 u.2)]) t) A) args s 0 0 A = Q
  have hret : ∀ (Ig9 : FI) (Vg9 : FV) (H : Heap) (locs : List Loc) (pc : Nat) (ls : Array Slot), some (Ig9, Vg9) = some out → va_P D vwCl (List.flatten [(w_Txt cs o_txt h_txt I_txt V_txt), (w_Led cs o_g h_g Ig9 Vg9)]) H → va_D A (List.flatten [(w_Txt cs o_txt h_txt I_txt V_txt), (w_Led cs o_g h_g Ig9 Vg9)]) → va_S A s.heap H locs → decode cX8_tellTo pc = .ok (.return_, 1) → W p l e rm_Txt_tellTo s m args below meth c H locs 0 0 Q (F0 m pc ls []) := by
    intro Ig9 Vg9 H locs pc ls hf hP hD hS hd
    rw [← hQ]
    exact W.vret hx hb hr (fun t ht hW => ⟨⟨(Ig9, Vg9), rfl, Option.some.inj hf, by show va_P D vwCl (List.flatten [(w_Txt cs o_txt h_txt I_txt V_txt), (w_Led cs o_g h_g Ig9 Vg9)]) t.heap; rw [ht]; exact hP, va_K.moved hW.alike hK, hD⟩, hS.F ht⟩) hS.2.2 hd
  exact v_Txt_tellTo hf hx hb hml hown hts in_X8 in_X3 w_clear_37 g_15 g_9 w_twoDigitsAt_42 w_digitAt_31 w_addPerson_45 w_addDebt_49 w_bytesOfPart_23 hA hP hD hK hN hret ls hl
def Day_append (f : Nat) (x1 : Int32) (x2 : Int32) (x3 : Int32) (I_day : FI) (V_day : FV) : Option (Int32 × FI × FV) := (if (I_day 3) < 12 then if (I_day 3) < 0 ∨ 12 ≤ (I_day 3).toNatClampNeg then none else (nm (va_up V_day 0 (upd (V_day 0) (I_day 3).toNatClampNeg x1)) (fun V1 => if (I_day 3) < 0 ∨ 12 ≤ (I_day 3).toNatClampNeg then none else (nm (va_up V1 1 (upd (V1 1) (I_day 3).toNatClampNeg x2)) (fun V2 => if (I_day 3) < 0 ∨ 12 ≤ (I_day 3).toNatClampNeg then none else (nm (va_up V2 2 (upd (V2 2) (I_day 3).toNatClampNeg (vp_nar .boolean x3))) (fun V3 => nm (va_up I_day 3 ((I_day 3) + 1)) (fun I4 => some (1, I4, V3)))))))) else some (0, I_day, V_day))
abbrev rm_Day_append : Room := { frames := 0, cells := 0, slots := 0, locals := 0 }
set_option maxHeartbeats 4000000 in
set_option maxRecDepth 100000 in
theorem v_Day_append {l : Launch} {p : Program} {e : Env} {s : State} {m : MethodId} {args : Array Value} {below : List Frame} {meth : Method} {c : Code} {Q : State → Prop} {D : va_G} {cs : Nat → ClassId} {o_day : Nat} {h_day : Nat → Nat} {A : Nat → Prop} {I_day : FI} {V_day : FV} {x1 : Int32} {x2 : Int32} {x3 : Int32} {f : Nat} {out : Int32 × FI × FV} (hf : Day_append f x1 x2 x3 I_day V_day = some out) (hx : p.tables.exec = Jvm.exec) (hb : c.code = cX2_append) (hml : c.maxLocals = 4) (hown : s.vm.findClass RX2 = some m.cls) (hts : ∀ w ∈ wsX2_append, w.before args s = true) (in_X2 : ∀ w ∈ u_ws RX2 TX2 4, w ∈ wsX2_append) (g_22 : (Cond.fieldLink RX2 22 "DaysLent$DayBook" "count" "I").before args s = true) (g_9 : (Cond.fieldLink RX2 9 "DaysLent$DayBook" "who" "[I").before args s = true) (g_15 : (Cond.fieldLink RX2 15 "DaysLent$DayBook" "when" "[I").before args s = true) (g_18 : (Cond.fieldLink RX2 18 "DaysLent$DayBook" "atWork" "[Z").before args s = true) (hA : ∀ q : Nat, s.heap.size ≤ q → A q) (hP : va_P D vwCl (List.flatten [(w_Day cs o_day h_day I_day V_day)]) s.heap) (hD : va_D A (List.flatten [(w_Day cs o_day h_day I_day V_day)])) (hK : va_K D vwCl (tyA cs) s) (hN : yN s) (hret : ∀ (v : Int32) (Iday9 : FI) (Vday9 : FV) (H : Heap) (locs : List Loc) (pc : Nat) (ls : Array Slot), narrow .boolean (.int v) = .int v → some (v, Iday9, Vday9) = some out → va_P D vwCl (List.flatten [(w_Day cs o_day h_day Iday9 Vday9)]) H → va_D A (List.flatten [(w_Day cs o_day h_day Iday9 Vday9)]) → va_S A s.heap H locs → decode cX2_append pc = .ok (.ireturn, 1) → W p l e rm_Day_append s m args below meth c H locs 0 0 Q (F0 m pc ls [.int v])) : ∀ ls : Array Slot, lv_has ls 4 [(0, .ref o_day), (1, .int x1), (2, .int x2), (3, .int x3)] → W p l e rm_Day_append s m args below meth c s.heap [] 0 0 Q (F0 m 0 ls []) := by
  intro ls hl
  have hS : va_S A s.heap s.heap [] := va_S.rf
  unfold Day_append at hf
  refine lv_aload_n hx hb dX2_append_0 rfl (lv_at hl 0 rfl) ?_
  refine va_get (D := D) (ci := 2) (v := .int (I_day 3)) (C := RX2) (T := TX2) (N := 4) hx hb hts in_X2 hown hK hP 0 rfl rfl 3 (by decide) g_22 (fun _ h9 => h9) rfl dX2_append_1 ?_
  refine lv_bipush (v := 12) hx hb dX2_append_4 (by decide) ?_
  refine lv_icmp_lt (tgt := 11) hx hb dX2_append_6 (by decide) (fun c6 => ?_) (fun c6 => ?_)
  · replace hf := ip c6 hf
    refine lv_aload_n hx hb dX2_append_11 rfl (lv_at hl 0 rfl) ?_
    refine va_get (D := D) (ci := 2) (v := .ref (h_day 0)) (C := RX2) (T := TX2) (N := 4) hx hb hts in_X2 hown hK hP 0 rfl rfl 0 (by decide) g_9 (fun _ h9 => h9) rfl dX2_append_12 ?_
    refine lv_aload_n hx hb dX2_append_15 rfl (lv_at hl 0 rfl) ?_
    refine va_get (D := D) (ci := 2) (v := .int (I_day 3)) (C := RX2) (T := TX2) (N := 4) hx hb hts in_X2 hown hK hP 0 rfl rfl 3 (by decide) g_22 (fun _ h9 => h9) rfl dX2_append_16 ?_
    refine lv_iload_n hx hb dX2_append_19 rfl (lv_at hl 1 rfl) ?_
    obtain ⟨c20, hf⟩ := gd hf
    refine va_iast (f := (V_day 0)) hx hb hK hP hD hS 1 0 rfl rfl c20 dX2_append_20 (fun H locs hP hD hS => ?_)
    obtain ⟨V1, eV1, hf⟩ := nme hf
    have hP : va_P D vwCl (List.flatten [(w_Day cs o_day h_day I_day V1)]) H := by rw [eV1]; exact hP
    have hD : va_D A (List.flatten [(w_Day cs o_day h_day I_day V1)]) := by rw [eV1]; exact hD
    refine lv_aload_n hx hb dX2_append_21 rfl (lv_at hl 0 rfl) ?_
    refine va_get (D := D) (ci := 2) (v := .ref (h_day 1)) (C := RX2) (T := TX2) (N := 4) hx hb hts in_X2 hown hK hP 0 rfl rfl 1 (by decide) g_15 (fun _ h9 => h9) rfl dX2_append_22 ?_
    refine lv_aload_n hx hb dX2_append_25 rfl (lv_at hl 0 rfl) ?_
    refine va_get (D := D) (ci := 2) (v := .int (I_day 3)) (C := RX2) (T := TX2) (N := 4) hx hb hts in_X2 hown hK hP 0 rfl rfl 3 (by decide) g_22 (fun _ h9 => h9) rfl dX2_append_26 ?_
    refine lv_iload_n hx hb dX2_append_29 rfl (lv_at hl 2 rfl) ?_
    obtain ⟨c30, hf⟩ := gd hf
    refine va_iast (f := (V1 1)) hx hb hK hP hD hS 2 0 rfl rfl c30 dX2_append_30 (fun H locs hP hD hS => ?_)
    obtain ⟨V2, eV2, hf⟩ := nme hf
    have hP : va_P D vwCl (List.flatten [(w_Day cs o_day h_day I_day V2)]) H := by rw [eV2]; exact hP
    have hD : va_D A (List.flatten [(w_Day cs o_day h_day I_day V2)]) := by rw [eV2]; exact hD
    refine lv_aload_n hx hb dX2_append_31 rfl (lv_at hl 0 rfl) ?_
    refine va_get (D := D) (ci := 2) (v := .ref (h_day 2)) (C := RX2) (T := TX2) (N := 4) hx hb hts in_X2 hown hK hP 0 rfl rfl 2 (by decide) g_18 (fun _ h9 => h9) rfl dX2_append_32 ?_
    refine lv_aload_n hx hb dX2_append_35 rfl (lv_at hl 0 rfl) ?_
    refine va_get (D := D) (ci := 2) (v := .int (I_day 3)) (C := RX2) (T := TX2) (N := 4) hx hb hts in_X2 hown hK hP 0 rfl rfl 3 (by decide) g_22 (fun _ h9 => h9) rfl dX2_append_36 ?_
    refine lv_iload_n hx hb dX2_append_39 rfl (lv_at hl 3 rfl) ?_
    obtain ⟨c40, hf⟩ := gd hf
    refine va_zast (f := (V2 2)) hx hb hK hP hD hS 3 1 rfl rfl c40 dX2_append_40 (fun H locs hP hD hS => ?_)
    obtain ⟨V3, eV3, hf⟩ := nme hf
    have hP : va_P D vwCl (List.flatten [(w_Day cs o_day h_day I_day V3)]) H := by rw [eV3]; exact hP
    have hD : va_D A (List.flatten [(w_Day cs o_day h_day I_day V3)]) := by rw [eV3]; exact hD
    refine lv_aload_n hx hb dX2_append_41 rfl (lv_at hl 0 rfl) ?_
    refine lv_dup hx hb dX2_append_42 rfl ?_
    refine va_get (D := D) (ci := 2) (v := .int (I_day 3)) (C := RX2) (T := TX2) (N := 4) hx hb hts in_X2 hown hK hP 0 rfl rfl 3 (by decide) g_22 (fun _ h9 => h9) rfl dX2_append_43 ?_
    refine lv_iconst (v := 1) hx hb dX2_append_46 (by decide) ?_
    refine lv_iadd hx hb dX2_append_47 ?_
    refine va_put (D := D) (ci := 2) (v := .int ((I_day 3) + 1)) (ty := .int) (C := RX2) (T := TX2) (N := 4) hx hb hts in_X2 tyX2 tyX2_ok nmX2 hown hK hP hD hS 0 rfl rfl 3 (by decide) g_22 (fun _ h9 => h9) rfl (by decide +kernel) rfl rfl (Nat.le_of_ble_eq_true rfl) dX2_append_48 (fun H locs hP hD hS => ?_)
    obtain ⟨I4, eI4, hf⟩ := nme hf
    have hP : va_P D vwCl (List.flatten [(w_Day cs o_day h_day I4 V3)]) H := by rw [eI4]; exact hP
    have hD : va_D A (List.flatten [(w_Day cs o_day h_day I4 V3)]) := by rw [eI4]; exact hD
    refine lv_iconst (v := 1) hx hb dX2_append_51 (by decide) ?_
    exact hret 1 I4 V3 _ _ 52 _ rfl hf hP hD hS dX2_append_52
  · replace hf := im c6 hf
    refine lv_iconst (v := 0) hx hb dX2_append_9 (by decide) ?_
    exact hret 0 I_day V_day _ _ 10 _ rfl hf hP hD hS dX2_append_10
set_option maxHeartbeats 4000000 in
set_option maxRecDepth 100000 in
theorem c_Day_append (l : Launch) (D : va_G) (cs : Nat → ClassId) (o_day : Nat) (h_day : Nat → Nat) (sz : Nat) (I_day : FI) (V_day : FV) (x1 : Int32) (x2 : Int32) (x3 : Int32) (f : Nat) (out : Int32 × FI × FV) (hf : Day_append f x1 x2 x3 I_day V_day = some out) : Met l yX2_append wsX2_append rm_Day_append (va_Pc [.ref o_day, .int x1, .int x2, .int x3] (yP D cs (List.flatten [(w_Day cs o_day h_day I_day V_day)]) sz)) (va_Qi (fun r u => (r, u) = out) (fun (u : FI × FV) t => xA D cs (va_A (List.flatten [(w_Day cs o_day h_day I_day V_day)]) sz) (List.flatten [(w_Day cs o_day h_day u.1 u.2)]) t) (va_A (List.flatten [(w_Day cs o_day h_day I_day V_day)]) sz)) 0 0 (va_A (List.flatten [(w_Day cs o_day h_day I_day V_day)]) sz) := by
  refine Met.ofW (cc := cX2_append) (maxL := 4) (ret := (some .boolean)) (by decide) rfl ?_
  intro p e s m args below meth c s₁ B hml hv
  obtain ⟨ha, hsz, hP, hK, hN, hD0⟩ := hv
  have hx := B.exec
  have hb := B.bytes
  have hr := B.returns
  have hts := atoms_spec (ws := wsX2_append) B.pre
  have hown : s.vm.findClass RX2 = some m.cls := findClass_of_methodNamed B.named
  have hlocks := B.notSynchronized
  have in_X2 : ∀ w ∈ u_ws RX2 TX2 4, w ∈ wsX2_append := fun w h => List.mem_cons_of_mem _ (List.mem_append_right _ h)
  have g_22 := hts (Cond.fieldLink RX2 22 "DaysLent$DayBook" "count" "I") (by decide +kernel)
  have g_9 := hts (Cond.fieldLink RX2 9 "DaysLent$DayBook" "who" "[I") (by decide +kernel)
  have g_15 := hts (Cond.fieldLink RX2 15 "DaysLent$DayBook" "when" "[I") (by decide +kernel)
  have g_18 := hts (Cond.fieldLink RX2 18 "DaysLent$DayBook" "atWork" "[Z") (by decide +kernel)
  subst hsz
  have hD := hD0.self (sz := s.heap.size)
  generalize hAe : va_A (List.flatten [(w_Day cs o_day h_day I_day V_day)]) s.heap.size = A at hD ⊢
  have hA : ∀ q : Nat, s.heap.size ≤ q → A q := fun q h => by rw [← hAe]; exact Or.inr h
  have hl := lv_entry ([.ref o_day, .int x1, .int x2, .int x3]) (n := 4) (Nat.le_of_ble_eq_true rfl)
  rw [show entryFrame m args 4 = entryFrame m ([.ref o_day, .int x1, .int x2, .int x3] : List Value).toArray 4 from by rw [ha], lg_entry_eq]
  generalize (lg_sl ([.ref o_day, .int x1, .int x2, .int x3]) ++ List.replicate (4 - (lg_sl ([.ref o_day, .int x1, .int x2, .int x3])).length) Slot.unset).toArray = ls at hl ⊢
  generalize hQ : MQ below (va_Qi (fun r u => (r, u) = out) (fun (u : FI × FV) t => xA D cs A (List.flatten [(w_Day cs o_day h_day u.1 u.2)]) t) A) args s 0 0 A = Q
  have hret : ∀ (v : Int32) (Iday9 : FI) (Vday9 : FV) (H : Heap) (locs : List Loc) (pc : Nat) (ls : Array Slot), narrow .boolean (.int v) = .int v → some (v, Iday9, Vday9) = some out → va_P D vwCl (List.flatten [(w_Day cs o_day h_day Iday9 Vday9)]) H → va_D A (List.flatten [(w_Day cs o_day h_day Iday9 Vday9)]) → va_S A s.heap H locs → decode cX2_append pc = .ok (.ireturn, 1) → W p l e rm_Day_append s m args below meth c H locs 0 0 Q (F0 m pc ls [.int v]) := by
    intro v Iday9 Vday9 H locs pc ls hz hf hP hD hS hd
    rw [← hQ]
    exact W.zret (v := v) hx hb hr hz (fun t ht hW => ⟨⟨v, (Iday9, Vday9), rfl, Option.some.inj hf, by show va_P D vwCl (List.flatten [(w_Day cs o_day h_day Iday9 Vday9)]) t.heap; rw [ht]; exact hP, va_K.moved hW.alike hK, hD⟩, hS.F ht⟩) hS.2.2 hd
  exact v_Day_append hf hx hb hml hown hts in_X2 g_22 g_9 g_15 g_18 hA hP hD hK hN hret ls hl
def Day_isToldAgain_L2 (f : Nat) (I_day : FI) (x1 : Int32) (V_day : FV) (k_2 : Unit → Option (Int32)) : Nat → Int32 → Option (Int32)
  | 0, _ => none
  | n_2 + 1, x2_2 => (if (I_day 3) ≤ x2_2 then (k_2 ()) else (nm (fun (u_47 : Unit) => (Day_isToldAgain_L2 f I_day x1 V_day k_2 n_2 (x2_2 + 1))) (fun j47 => (if x2_2 = x1 then (j47 ()) else if x2_2 < 0 ∨ 12 ≤ x2_2.toNatClampNeg then none else (if x1 < 0 ∨ 12 ≤ x1.toNatClampNeg then none else ((if ((V_day 0) x2_2.toNatClampNeg) = ((V_day 0) x1.toNatClampNeg) then if x2_2 < 0 ∨ 12 ≤ x2_2.toNatClampNeg then none else (if x1 < 0 ∨ 12 ≤ x1.toNatClampNeg then none else ((if ((V_day 1) x2_2.toNatClampNeg) = ((V_day 1) x1.toNatClampNeg) then some 1 else (j47 ())))) else (j47 ()))))))))
def Day_isToldAgain (f : Nat) (x1 : Int32) (I_day : FI) (V_day : FV) : Option (Int32) := (Day_isToldAgain_L2 f I_day x1 V_day (fun (u_2 : Unit) => some 0) f 0)
abbrev rm_Day_isToldAgain : Room := { frames := 0, cells := 0, slots := 0, locals := 0 }
set_option maxHeartbeats 4000000 in
set_option maxRecDepth 100000 in
theorem v_Day_isToldAgain {l : Launch} {p : Program} {e : Env} {s : State} {m : MethodId} {args : Array Value} {below : List Frame} {meth : Method} {c : Code} {Q : State → Prop} {D : va_G} {cs : Nat → ClassId} {o_day : Nat} {h_day : Nat → Nat} {I_day : FI} {V_day : FV} {x1 : Int32} {f : Nat} {out : Int32} (hf : Day_isToldAgain f x1 I_day V_day = some out) (hx : p.tables.exec = Jvm.exec) (hb : c.code = cX2_isToldAgain) (hml : c.maxLocals = 3) (hown : s.vm.findClass RX2 = some m.cls) (hts : ∀ w ∈ wsX2_isToldAgain, w.before args s = true) (in_X2 : ∀ w ∈ u_ws RX2 TX2 4, w ∈ wsX2_isToldAgain) (g_22 : (Cond.fieldLink RX2 22 "DaysLent$DayBook" "count" "I").before args s = true) (g_9 : (Cond.fieldLink RX2 9 "DaysLent$DayBook" "who" "[I").before args s = true) (g_15 : (Cond.fieldLink RX2 15 "DaysLent$DayBook" "when" "[I").before args s = true) (hP : va_P D vwCl (List.flatten [(w_Day cs o_day h_day I_day V_day)]) s.heap) (hK : va_K D vwCl (tyA cs) s) (hN : yN s) (hret : ∀ (v : Int32) (pc : Nat) (ls : Array Slot), narrow .boolean (.int v) = .int v → some v = some out → decode cX2_isToldAgain pc = .ok (.ireturn, 1) → W p l e rm_Day_isToldAgain s m args below meth c s.heap [] 0 0 Q (F0 m pc ls [.int v])) : ∀ ls : Array Slot, lv_has ls 3 [(0, .ref o_day), (1, .int x1)] → W p l e rm_Day_isToldAgain s m args below meth c s.heap [] 0 0 Q (F0 m 0 ls []) := by
  intro ls hl
  unfold Day_isToldAgain at hf
  refine lv_iconst (v := 0) hx hb dX2_isToldAgain_0 (by decide) ?_
  refine lv_istore_n (lv' := [(2, .int 0), (0, .ref o_day), (1, .int x1)]) hx hb dX2_isToldAgain_1 rfl hl (by decide) rfl (fun ls hl => ?_)
  have L2 : ∀ (k_2 : Unit → Option (Int32)) (hk_2 : ∀ (u_2 : Unit), k_2 u_2 = some out → ∀ ls : Array Slot, lv_has ls 3 [] → W p l e rm_Day_isToldAgain s m args below meth c s.heap [] 0 0 Q (F0 m 53 ls [])), ∀ (n_2 : Nat) (x2_2 : Int32), Day_isToldAgain_L2 f I_day x1 V_day k_2 n_2 x2_2 = some out → ∀ ls : Array Slot, lv_has ls 3 [(0, .ref o_day), (1, .int x1), (2, .int x2_2)] → W p l e rm_Day_isToldAgain s m args below meth c s.heap [] 0 0 Q (F0 m 2 ls []) := by
    intro k_2 hk_2 n_2
    induction n_2 with
    | zero => intro x2_2 hf; rw [Day_isToldAgain_L2] at hf; cases hf
    | succ n_2 ih_2 =>
      intro x2_2 hf ls hl
      rw [Day_isToldAgain_L2] at hf
      refine lv_iload_n hx hb dX2_isToldAgain_2 rfl (lv_at hl 2 rfl) ?_
      refine lv_aload_n hx hb dX2_isToldAgain_3 rfl (lv_at hl 0 rfl) ?_
      refine va_get (D := D) (ci := 2) (v := .int (I_day 3)) (C := RX2) (T := TX2) (N := 4) hx hb hts in_X2 hown hK hP 0 rfl rfl 3 (by decide) g_22 (fun _ h9 => h9) rfl dX2_isToldAgain_4 ?_
      refine lv_icmp_ge (tgt := 53) hx hb dX2_isToldAgain_7 (by decide) (fun c7 => ?_) (fun c7 => ?_)
      · replace hf := ip c7 hf
        exact hk_2 () hf _ (lv_sub hl [] rfl)
      · replace hf := im c7 hf
        refine lv_iload_n hx hb dX2_isToldAgain_10 rfl (lv_at hl 2 rfl) ?_
        refine lv_iload_n hx hb dX2_isToldAgain_11 rfl (lv_at hl 1 rfl) ?_
        obtain ⟨j47, ej47, hf⟩ := nme hf
        have J47 : ∀ (u_47 : Unit), j47 u_47 = some out → ∀ ls : Array Slot, lv_has ls 3 [(0, .ref o_day), (1, .int x1), (2, .int x2_2)] → W p l e rm_Day_isToldAgain s m args below meth c s.heap [] 0 0 Q (F0 m 47 ls []) := by
          intro u_47 hf ls hl
          rw [ej47] at hf
          refine lv_iinc (v := (x2_2 + 1)) (lv' := [(2, .int (x2_2 + 1)), (0, .ref o_day), (1, .int x1)]) hx hb dX2_isToldAgain_47 hl (k := 2) rfl (by rfl) (by decide) rfl (fun ls hl => ?_)
          refine lv_goto (tgt := 2) hx hb dX2_isToldAgain_50 (by decide) ?_
          exact ih_2 (x2_2 + 1) hf _ (lv_sub hl [1, 2, 0] rfl)
        refine lv_icmp_eq (tgt := 47) hx hb dX2_isToldAgain_12 (by decide) (fun c12 => ?_) (fun c12 => ?_)
        · replace hf := ip c12 hf
          exact J47 () hf _ (lv_sub hl [0, 1, 2] rfl)
        · replace hf := im c12 hf
          refine lv_aload_n hx hb dX2_isToldAgain_15 rfl (lv_at hl 0 rfl) ?_
          refine va_get (D := D) (ci := 2) (v := .ref (h_day 0)) (C := RX2) (T := TX2) (N := 4) hx hb hts in_X2 hown hK hP 0 rfl rfl 0 (by decide) g_9 (fun _ h9 => h9) rfl dX2_isToldAgain_16 ?_
          refine lv_iload_n hx hb dX2_isToldAgain_19 rfl (lv_at hl 2 rfl) ?_
          obtain ⟨c20, hf⟩ := gd hf
          refine va_iald (f := (V_day 0)) hx hb hK hP 1 0 rfl rfl c20 dX2_isToldAgain_20 ?_
          refine lv_aload_n hx hb dX2_isToldAgain_21 rfl (lv_at hl 0 rfl) ?_
          refine va_get (D := D) (ci := 2) (v := .ref (h_day 0)) (C := RX2) (T := TX2) (N := 4) hx hb hts in_X2 hown hK hP 0 rfl rfl 0 (by decide) g_9 (fun _ h9 => h9) rfl dX2_isToldAgain_22 ?_
          refine lv_iload_n hx hb dX2_isToldAgain_25 rfl (lv_at hl 1 rfl) ?_
          obtain ⟨c26, hf⟩ := gd hf
          refine va_iald (f := (V_day 0)) hx hb hK hP 1 0 rfl rfl c26 dX2_isToldAgain_26 ?_
          refine lv_icmp_ne (tgt := 47) hx hb dX2_isToldAgain_27 (by decide) (fun c27 => ?_) (fun c27 => ?_)
          · replace hf := im c27 hf
            exact J47 () hf _ (lv_sub hl [0, 1, 2] rfl)
          · replace hf := ip c27 hf
            refine lv_aload_n hx hb dX2_isToldAgain_30 rfl (lv_at hl 0 rfl) ?_
            refine va_get (D := D) (ci := 2) (v := .ref (h_day 1)) (C := RX2) (T := TX2) (N := 4) hx hb hts in_X2 hown hK hP 0 rfl rfl 1 (by decide) g_15 (fun _ h9 => h9) rfl dX2_isToldAgain_31 ?_
            refine lv_iload_n hx hb dX2_isToldAgain_34 rfl (lv_at hl 2 rfl) ?_
            obtain ⟨c35, hf⟩ := gd hf
            refine va_iald (f := (V_day 1)) hx hb hK hP 2 0 rfl rfl c35 dX2_isToldAgain_35 ?_
            refine lv_aload_n hx hb dX2_isToldAgain_36 rfl (lv_at hl 0 rfl) ?_
            refine va_get (D := D) (ci := 2) (v := .ref (h_day 1)) (C := RX2) (T := TX2) (N := 4) hx hb hts in_X2 hown hK hP 0 rfl rfl 1 (by decide) g_15 (fun _ h9 => h9) rfl dX2_isToldAgain_37 ?_
            refine lv_iload_n hx hb dX2_isToldAgain_40 rfl (lv_at hl 1 rfl) ?_
            obtain ⟨c41, hf⟩ := gd hf
            refine va_iald (f := (V_day 1)) hx hb hK hP 2 0 rfl rfl c41 dX2_isToldAgain_41 ?_
            refine lv_icmp_ne (tgt := 47) hx hb dX2_isToldAgain_42 (by decide) (fun c42 => ?_) (fun c42 => ?_)
            · replace hf := im c42 hf
              exact J47 () hf _ (lv_sub hl [0, 1, 2] rfl)
            · replace hf := ip c42 hf
              refine lv_iconst (v := 1) hx hb dX2_isToldAgain_45 (by decide) ?_
              exact hret 1 46 _ rfl hf dX2_isToldAgain_46
  refine L2 _ (fun u_2 hf ls hl => ?_) f 0 hf _ (lv_sub hl [1, 2, 0] rfl)
  refine lv_iconst (v := 0) hx hb dX2_isToldAgain_53 (by decide) ?_
  exact hret 0 54 _ rfl hf dX2_isToldAgain_54
set_option maxHeartbeats 4000000 in
set_option maxRecDepth 100000 in
theorem c_Day_isToldAgain (l : Launch) (D : va_G) (cs : Nat → ClassId) (o_day : Nat) (h_day : Nat → Nat) (I_day : FI) (V_day : FV) (x1 : Int32) (f : Nat) (out : Int32) (hf : Day_isToldAgain f x1 I_day V_day = some out) : Met l yX2_isToldAgain wsX2_isToldAgain rm_Day_isToldAgain (va_Pc [.ref o_day, .int x1] (yR D cs (List.flatten [(w_Day cs o_day h_day I_day V_day)]))) (vp_Si (fun r => r = out)) 0 0 (fun _ => False) := by
  refine Met.ofW (cc := cX2_isToldAgain) (maxL := 3) (ret := (some .boolean)) (by decide) rfl ?_
  intro p e s m args below meth c s₁ B hml hv
  obtain ⟨ha, hP, hK, hN⟩ := hv
  have hx := B.exec
  have hb := B.bytes
  have hr := B.returns
  have hts := atoms_spec (ws := wsX2_isToldAgain) B.pre
  have hown : s.vm.findClass RX2 = some m.cls := findClass_of_methodNamed B.named
  have hlocks := B.notSynchronized
  have in_X2 : ∀ w ∈ u_ws RX2 TX2 4, w ∈ wsX2_isToldAgain := fun w h => List.mem_cons_of_mem _ (List.mem_append_right _ h)
  have g_22 := hts (Cond.fieldLink RX2 22 "DaysLent$DayBook" "count" "I") (by decide +kernel)
  have g_9 := hts (Cond.fieldLink RX2 9 "DaysLent$DayBook" "who" "[I") (by decide +kernel)
  have g_15 := hts (Cond.fieldLink RX2 15 "DaysLent$DayBook" "when" "[I") (by decide +kernel)
  have hl := lv_entry ([.ref o_day, .int x1]) (n := 3) (Nat.le_of_ble_eq_true rfl)
  rw [show entryFrame m args 3 = entryFrame m ([.ref o_day, .int x1] : List Value).toArray 3 from by rw [ha], lg_entry_eq]
  generalize (lg_sl ([.ref o_day, .int x1]) ++ List.replicate (3 - (lg_sl ([.ref o_day, .int x1])).length) Slot.unset).toArray = ls at hl ⊢
  generalize hQ : MQ below (vp_Si (fun r => r = out)) args s 0 0 (fun _ => False) = Q
  have hret : ∀ (v : Int32) (pc : Nat) (ls : Array Slot), narrow .boolean (.int v) = .int v → some v = some out → decode cX2_isToldAgain pc = .ok (.ireturn, 1) → W p l e rm_Day_isToldAgain s m args below meth c s.heap [] 0 0 Q (F0 m pc ls [.int v]) := by
    intro v pc ls hz hf hd
    rw [← hQ]
    exact W.zret (v := v) hx hb hr hz (fun t ht hW => ⟨v, rfl, Option.some.inj hf, ht⟩) (fun q h => by cases h) hd
  exact v_Day_isToldAgain hf hx hb hml hown hts in_X2 g_22 g_9 g_15 hP hK hN hret ls hl
def Day_caught_L4 {ρ : Type} (f : Nat) (I_day : FI) (V_day : FV) (k_4 : Int32 → Option ρ) : Nat → Int32 → Int32 → Option ρ
  | 0, _, _ => none
  | n_4 + 1, x1_4, x2_4 => (if (I_day 3) ≤ x2_4 then (k_4 x1_4) else if x2_4 < 0 ∨ 12 ≤ x2_4.toNatClampNeg then none else ((nm (fun (x1_40 : Int32) => (Day_caught_L4 f I_day V_day k_4 n_4 x1_40 (x2_4 + 1))) (fun j40 => (if ((V_day 2) x2_4.toNatClampNeg) = 0 then ob1 (Day_isToldAgain f x2_4 I_day V_day) (fun zr1 => (if zr1 = 0 then (j40 x1_4) else if x2_4 < 0 ∨ 12 ≤ x2_4.toNatClampNeg then none else (nm (x1_4 ||| (1 <<< (((V_day 0) x2_4.toNatClampNeg) &&& 31))) (fun y2 => (j40 y2))))) else (j40 x1_4))))))
def Day_caught (f : Nat) (I_day : FI) (V_day : FV) : Option (Int32) := (Day_caught_L4 f I_day V_day (fun (x1_4 : Int32) => some x1_4) f 0 0)
abbrev rm_Day_caught : Room := { frames := 1, cells := 0, slots := 0, locals := 22 }
set_option maxHeartbeats 4000000 in
set_option maxRecDepth 100000 in
theorem v_Day_caught {l : Launch} {p : Program} {e : Env} {s : State} {m : MethodId} {args : Array Value} {below : List Frame} {meth : Method} {c : Code} {Q : State → Prop} {D : va_G} {cs : Nat → ClassId} {o_day : Nat} {h_day : Nat → Nat} {I_day : FI} {V_day : FV} {f : Nat} {out : Int32} (hf : Day_caught f I_day V_day = some out) (hx : p.tables.exec = Jvm.exec) (hb : c.code = cX2_caught) (hml : c.maxLocals = 3) (hown : s.vm.findClass RX2 = some m.cls) (hts : ∀ w ∈ wsX2_caught, w.before args s = true) (in_X2 : ∀ w ∈ u_ws RX2 TX2 4, w ∈ wsX2_caught) (g_22 : (Cond.fieldLink RX2 22 "DaysLent$DayBook" "count" "I").before args s = true) (g_18 : (Cond.fieldLink RX2 18 "DaysLent$DayBook" "atWork" "[Z").before args s = true) (w_isToldAgain_26 : CallW rm_Day_caught s args RX2 RX2 26 yX2_isToldAgain cX2_isToldAgain 3 (some .boolean) wsX2_isToldAgain rm_Day_isToldAgain 0 0 1) (g_9 : (Cond.fieldLink RX2 9 "DaysLent$DayBook" "who" "[I").before args s = true) (hP : va_P D vwCl (List.flatten [(w_Day cs o_day h_day I_day V_day)]) s.heap) (hK : va_K D vwCl (tyA cs) s) (hN : yN s) (hret : ∀ (v : Int32) (pc : Nat) (ls : Array Slot), some v = some out → decode cX2_caught pc = .ok (.ireturn, 1) → W p l e rm_Day_caught s m args below meth c s.heap [] 0 0 Q (F0 m pc ls [.int v])) : ∀ ls : Array Slot, lv_has ls 3 [(0, .ref o_day)] → W p l e rm_Day_caught s m args below meth c s.heap [] 0 0 Q (F0 m 0 ls []) := by
  intro ls hl
  unfold Day_caught at hf
  refine lv_iconst (v := 0) hx hb dX2_caught_0 (by decide) ?_
  refine lv_istore_n (lv' := [(1, .int 0), (0, .ref o_day)]) hx hb dX2_caught_1 rfl hl (by decide) rfl (fun ls hl => ?_)
  refine lv_iconst (v := 0) hx hb dX2_caught_2 (by decide) ?_
  refine lv_istore_n (lv' := [(2, .int 0), (1, .int 0), (0, .ref o_day)]) hx hb dX2_caught_3 rfl hl (by decide) rfl (fun ls hl => ?_)
  have L4 : ∀ (k_4 : Int32 → Option (Int32)) (hk_4 : ∀ (x1_4 : Int32), k_4 x1_4 = some out → ∀ ls : Array Slot, lv_has ls 3 [(1, .int x1_4)] → W p l e rm_Day_caught s m args below meth c s.heap [] 0 0 Q (F0 m 46 ls [])), ∀ (n_4 : Nat) (x1_4 : Int32) (x2_4 : Int32), Day_caught_L4 f I_day V_day k_4 n_4 x1_4 x2_4 = some out → ∀ ls : Array Slot, lv_has ls 3 [(0, .ref o_day), (1, .int x1_4), (2, .int x2_4)] → W p l e rm_Day_caught s m args below meth c s.heap [] 0 0 Q (F0 m 4 ls []) := by
    intro k_4 hk_4 n_4
    induction n_4 with
    | zero => intro x1_4 x2_4 hf; rw [Day_caught_L4] at hf; cases hf
    | succ n_4 ih_4 =>
      intro x1_4 x2_4 hf ls hl
      rw [Day_caught_L4] at hf
      refine lv_iload_n hx hb dX2_caught_4 rfl (lv_at hl 2 rfl) ?_
      refine lv_aload_n hx hb dX2_caught_5 rfl (lv_at hl 0 rfl) ?_
      refine va_get (D := D) (ci := 2) (v := .int (I_day 3)) (C := RX2) (T := TX2) (N := 4) hx hb hts in_X2 hown hK hP 0 rfl rfl 3 (by decide) g_22 (fun _ h9 => h9) rfl dX2_caught_6 ?_
      refine lv_icmp_ge (tgt := 46) hx hb dX2_caught_9 (by decide) (fun c9 => ?_) (fun c9 => ?_)
      · replace hf := ip c9 hf
        exact hk_4 x1_4 hf _ (lv_sub hl [1] rfl)
      · replace hf := im c9 hf
        refine lv_aload_n hx hb dX2_caught_12 rfl (lv_at hl 0 rfl) ?_
        refine va_get (D := D) (ci := 2) (v := .ref (h_day 2)) (C := RX2) (T := TX2) (N := 4) hx hb hts in_X2 hown hK hP 0 rfl rfl 2 (by decide) g_18 (fun _ h9 => h9) rfl dX2_caught_13 ?_
        refine lv_iload_n hx hb dX2_caught_16 rfl (lv_at hl 2 rfl) ?_
        obtain ⟨c17, hf⟩ := gd hf
        refine va_zald (f := (V_day 2)) hx hb hK hP 3 1 rfl rfl c17 dX2_caught_17 ?_
        obtain ⟨j40, ej40, hf⟩ := nme hf
        have J40 : ∀ (x1_40 : Int32), j40 x1_40 = some out → ∀ ls : Array Slot, lv_has ls 3 [(0, .ref o_day), (1, .int x1_40), (2, .int x2_4)] → W p l e rm_Day_caught s m args below meth c s.heap [] 0 0 Q (F0 m 40 ls []) := by
          intro x1_40 hf ls hl
          rw [ej40] at hf
          refine lv_iinc (v := (x2_4 + 1)) (lv' := [(2, .int (x2_4 + 1)), (0, .ref o_day), (1, .int x1_40)]) hx hb dX2_caught_40 hl (k := 2) rfl (by rfl) (by decide) rfl (fun ls hl => ?_)
          refine lv_goto (tgt := 4) hx hb dX2_caught_43 (by decide) ?_
          exact ih_4 x1_40 (x2_4 + 1) hf _ (lv_sub hl [1, 2, 0] rfl)
        refine lv_if_ne (tgt := 40) hx hb dX2_caught_18 (by decide) (fun c18 => ?_) (fun c18 => ?_)
        · replace hf := im c18 hf
          exact J40 x1_4 hf _ (lv_sub hl [0, 1, 2] rfl)
        · replace hf := ip c18 hf
          refine lv_aload_n hx hb dX2_caught_21 rfl (lv_at hl 0 rfl) ?_
          refine lv_iload_n hx hb dX2_caught_22 rfl (lv_at hl 2 rfl) ?_
          obtain ⟨zr1, qr1, hf⟩ := bd1 hf
          refine vp_callSi (va_Run.run (va_runV (As := [.int x2_4]) (rest := []) ⟨hx, hb, hml, hown, hts⟩ (c_Day_isToldAgain l D cs o_day h_day I_day V_day x2_4 f zr1 qr1) w_isToldAgain_26 ⟨yR_moved, va_recv hK hP (ci := 2) (q0 := 0) rfl rfl, fun U hU hW => ⟨rfl, by rw [hU]; exact hP, va_K.moved hW.alike hK, yN_warm hW hN⟩⟩ rfl rfl hl.1 rfl (lv_room (Nat.le_of_ble_eq_true rfl)) dX2_caught_23 ⟨Nat.zero_le _, Nat.zero_le _⟩)) (fun r1 er1 => ?_)
          rw [er1]
          refine lv_if_eq (tgt := 40) hx hb dX2_caught_26 (by decide) (fun c26 => ?_) (fun c26 => ?_)
          · replace hf := ip c26 hf
            exact J40 x1_4 hf _ (lv_sub hl [0, 1, 2] rfl)
          · replace hf := im c26 hf
            refine lv_iload_n hx hb dX2_caught_29 rfl (lv_at hl 1 rfl) ?_
            refine lv_iconst (v := 1) hx hb dX2_caught_30 (by decide) ?_
            refine lv_aload_n hx hb dX2_caught_31 rfl (lv_at hl 0 rfl) ?_
            refine va_get (D := D) (ci := 2) (v := .ref (h_day 0)) (C := RX2) (T := TX2) (N := 4) hx hb hts in_X2 hown hK hP 0 rfl rfl 0 (by decide) g_9 (fun _ h9 => h9) rfl dX2_caught_32 ?_
            refine lv_iload_n hx hb dX2_caught_35 rfl (lv_at hl 2 rfl) ?_
            obtain ⟨c36, hf⟩ := gd hf
            refine va_iald (f := (V_day 0)) hx hb hK hP 1 0 rfl rfl c36 dX2_caught_36 ?_
            refine lv_ishl hx hb dX2_caught_37 ?_
            refine lv_ior hx hb dX2_caught_38 ?_
            refine lv_topi (fun y2 ey2 => ?_)
            replace hf := nmd hf ey2
            refine lv_istore_n (lv' := [(1, .int y2), (0, .ref o_day), (2, .int x2_4)]) hx hb dX2_caught_39 rfl hl (by decide) rfl (fun ls hl => ?_)
            exact J40 y2 hf _ (lv_sub hl [1, 0, 2] rfl)
  refine L4 _ (fun x1_4 hf ls hl => ?_) f 0 0 hf _ (lv_sub hl [2, 1, 0] rfl)
  refine lv_iload_n hx hb dX2_caught_46 rfl (lv_at hl 0 rfl) ?_
  exact hret x1_4 47 _ hf dX2_caught_47
set_option maxHeartbeats 4000000 in
set_option maxRecDepth 100000 in
theorem c_Day_caught (l : Launch) (D : va_G) (cs : Nat → ClassId) (o_day : Nat) (h_day : Nat → Nat) (I_day : FI) (V_day : FV) (f : Nat) (out : Int32) (hf : Day_caught f I_day V_day = some out) : Met l yX2_caught wsX2_caught rm_Day_caught (va_Pc [.ref o_day] (yR D cs (List.flatten [(w_Day cs o_day h_day I_day V_day)]))) (vp_Si (fun r => r = out)) 0 0 (fun _ => False) := by
  refine Met.ofW (cc := cX2_caught) (maxL := 3) (ret := (some .int)) (by decide) rfl ?_
  intro p e s m args below meth c s₁ B hml hv
  obtain ⟨ha, hP, hK, hN⟩ := hv
  have hx := B.exec
  have hb := B.bytes
  have hr := B.returns
  have hts := atoms_spec (ws := wsX2_caught) B.pre
  have hown : s.vm.findClass RX2 = some m.cls := findClass_of_methodNamed B.named
  have hlocks := B.notSynchronized
  have in_X2 : ∀ w ∈ u_ws RX2 TX2 4, w ∈ wsX2_caught := fun w h => List.mem_cons_of_mem _ (List.mem_append_right _ h)
  have g_22 := hts (Cond.fieldLink RX2 22 "DaysLent$DayBook" "count" "I") (by decide +kernel)
  have g_18 := hts (Cond.fieldLink RX2 18 "DaysLent$DayBook" "atWork" "[Z") (by decide +kernel)
  have w_isToldAgain_26 := cwV (R := rm_Day_caught) (s := s) (args := args) (rm := rm_Day_isToldAgain) (mc := 0) (ms := 0) 1 hts gX2_caught_X2_isToldAgain rfl rfl rfl (by decide +kernel) ⟨Nat.le_of_ble_eq_true rfl, Nat.le_of_ble_eq_true rfl⟩
  have g_9 := hts (Cond.fieldLink RX2 9 "DaysLent$DayBook" "who" "[I") (by decide +kernel)
  have hl := lv_entry ([.ref o_day]) (n := 3) (Nat.le_of_ble_eq_true rfl)
  rw [show entryFrame m args 3 = entryFrame m ([.ref o_day] : List Value).toArray 3 from by rw [ha], lg_entry_eq]
  generalize (lg_sl ([.ref o_day]) ++ List.replicate (3 - (lg_sl ([.ref o_day])).length) Slot.unset).toArray = ls at hl ⊢
  generalize hQ : MQ below (vp_Si (fun r => r = out)) args s 0 0 (fun _ => False) = Q
  have hret : ∀ (v : Int32) (pc : Nat) (ls : Array Slot), some v = some out → decode cX2_caught pc = .ok (.ireturn, 1) → W p l e rm_Day_caught s m args below meth c s.heap [] 0 0 Q (F0 m pc ls [.int v]) := by
    intro v pc ls hf hd
    rw [← hQ]
    exact W.iret (v := v) hx hb hr (fun t ht hW => ⟨v, rfl, Option.some.inj hf, ht⟩) (fun q h => by cases h) hd
  exact v_Day_caught hf hx hb hml hown hts in_X2 g_22 g_18 w_isToldAgain_26 g_9 hP hK hN hret ls hl
