def Set_sumUp_L5 {ρ : Type} (f : Nat) (I_g : FI) (x2 : Int32) (V_g : FV) (k_5 : Int32 → FV → Option ρ) : Nat → Int32 → Int32 → FV → Option ρ
  | 0, _, _, _ => none
  | n_5 + 1, x3_5, x4_5, Vset_5 => (if (I_g 0) ≤ x4_5 then (k_5 x3_5 Vset_5) else ob1 (X_isIn f x2 x4_5) (fun zr1 => (nm (fun (x3_82 : Int32) (Vset_82 : FV) => (Set_sumUp_L5 f I_g x2 V_g k_5 n_5 x3_82 (x4_5 + 1) Vset_82)) (fun j82 => (if zr1 = 0 then (j82 x3_5 Vset_5) else nm (x2 &&& ((1 <<< (x4_5 &&& 31)) ^^^ (-1))) (fun y2 => if y2 < 0 ∨ 64 ≤ y2.toNatClampNeg then none else (nm (if x3_5 < ((Vset_5 1) y2.toNatClampNeg) then ((Vset_5 1) y2.toNatClampNeg) else x3_5) (fun y3 => (nm (fun (t2_81 : Int32) => if x2 < 0 ∨ 64 ≤ x2.toNatClampNeg then none else (nm (va_up Vset_5 0 (upd (Vset_5 0) x2.toNatClampNeg t2_81)) (fun V4 => (j82 y3 V4)))) (fun j81 => (if y2 = 0 then ob1 (Led_netOf f x4_5 I_g V_g) (fun zr5 => (j81 zr5)) else if y2 < 0 ∨ 64 ≤ y2.toNatClampNeg then none else (if (1 <<< (x4_5 &&& 31)) < 0 ∨ 64 ≤ (1 <<< (x4_5 &&& 31)).toNatClampNeg then none else ((j81 (((Vset_5 0) y2.toNatClampNeg) + ((Vset_5 0) (1 <<< (x4_5 &&& 31)).toNatClampNeg))))))))))))))))
def Set_sumUp (f : Nat) (x2 : Int32) (I_set : FI) (V_set : FV) (I_g : FI) (V_g : FV) : Option (FV) := (Set_sumUp_L5 f I_g x2 V_g (fun (x3_5 : Int32) (Vset_5 : FV) => if x2 < 0 ∨ 64 ≤ x2.toNatClampNeg then none else ((if ((Vset_5 0) x2.toNatClampNeg) = 0 then if x2 < 0 ∨ 64 ≤ x2.toNatClampNeg then none else (nm (va_up Vset_5 1 (upd (Vset_5 1) x2.toNatClampNeg (x3_5 + 1))) (fun V7 => some V7)) else if x2 < 0 ∨ 64 ≤ x2.toNatClampNeg then none else (nm (va_up Vset_5 1 (upd (Vset_5 1) x2.toNatClampNeg x3_5)) (fun V6 => some V6))))) f 0 0 V_set)
abbrev rm_Set_sumUp : Room := { frames := 2, cells := 0, slots := 0, locals := 44 }
set_option maxHeartbeats 4000000 in
set_option maxRecDepth 100000 in
theorem v_Set_sumUp {l : Launch} {p : Program} {e : Env} {s : State} {m : MethodId} {args : Array Value} {below : List Frame} {meth : Method} {c : Code} {Q : State → Prop} {D : va_G} {cs : Nat → ClassId} {o_set : Nat} {h_set : Nat → Nat} {o_g : Nat} {h_g : Nat → Nat} {A : Nat → Prop} {I_set : FI} {V_set : FV} {I_g : FI} {V_g : FV} {x2 : Int32} {f : Nat} {out : FV} (hf : Set_sumUp f x2 I_set V_set I_g V_g = some out) (hx : p.tables.exec = Jvm.exec) (hb : c.code = cX6_sumUp) (hml : c.maxLocals = 6) (hown : s.vm.findClass RX6 = some m.cls) (hts : ∀ w ∈ wsX6_sumUp, w.before args s = true) (in_X6 : ∀ w ∈ u_ws RX6 TX6 2, w ∈ wsX6_sumUp) (in_X3 : ∀ w ∈ u_ws RX3 TX3 11, w ∈ wsX6_sumUp) (g_28 : (Cond.fieldLink RX6 28 "DaysLent$Ledger" "people" "I").before args s = true) (w_isIn_32 : va_CN rm_Set_sumUp s args RX6 32 yX9_isIn "DaysLent" cX9_isIn 2 (some .boolean) wsX9_isIn rm_X_isIn 0 0 2 ∧ (Cond.static yX9_isIn).before args s = true ∧ True) (g_15 : (Cond.fieldLink RX6 15 "DaysLent$Settlement" "groups" "[I").before args s = true) (ml_36 : (Cond.methodLink RX6 36 Lib.Math.max.name).before args s = true) (ms_36 : (Cond.static Lib.Math.max.name).before args s = true) (mi_36 : (Cond.initialized "java/lang/Math").before args s = true) (mc_36 : (Cond.code Lib.Math.max.name Lib.Math.max.code 2 (some .int)).before args s = true) (g_9 : (Cond.fieldLink RX6 9 "DaysLent$Settlement" "sums" "[I").before args s = true) (w_netOf_42 : CallW rm_Set_sumUp s args RX6 RX3 42 yX3_netOf cX3_netOf 2 (some .int) wsX3_netOf rm_Led_netOf 0 0 1) (hA : ∀ q : Nat, s.heap.size ≤ q → A q) (hP : va_P D vwCl (List.flatten [(w_Set cs o_set h_set I_set V_set), (w_Led cs o_g h_g I_g V_g)]) s.heap) (hD : va_D A (List.flatten [(w_Set cs o_set h_set I_set V_set), (w_Led cs o_g h_g I_g V_g)])) (hK : va_K D vwCl (tyA cs) s) (hN : yN s) (hret : ∀ (Vset9 : FV) (H : Heap) (locs : List Loc) (pc : Nat) (ls : Array Slot), some Vset9 = some out → va_P D vwCl (List.flatten [(w_Set cs o_set h_set I_set Vset9), (w_Led cs o_g h_g I_g V_g)]) H → va_D A (List.flatten [(w_Set cs o_set h_set I_set Vset9), (w_Led cs o_g h_g I_g V_g)]) → va_S A s.heap H locs → decode cX6_sumUp pc = .ok (.return_, 1) → W p l e rm_Set_sumUp s m args below meth c H locs 0 0 Q (F0 m pc ls [])) : ∀ ls : Array Slot, lv_has ls 6 [(0, .ref o_set), (1, .ref o_g), (2, .int x2)] → W p l e rm_Set_sumUp s m args below meth c s.heap [] 0 0 Q (F0 m 0 ls []) := by
  intro ls hl
  have hS : va_S A s.heap s.heap [] := va_S.rf
  unfold Set_sumUp at hf
  refine lv_iconst (v := 0) hx hb dX6_sumUp_0 (by decide) ?_
  refine lv_istore_n (lv' := [(3, .int 0), (0, .ref o_set), (1, .ref o_g), (2, .int x2)]) hx hb dX6_sumUp_1 rfl hl (by decide) rfl (fun ls hl => ?_)
  refine lv_iconst (v := 0) hx hb dX6_sumUp_2 (by decide) ?_
  refine lv_istore (lv' := [(4, .int 0), (3, .int 0), (0, .ref o_set), (1, .ref o_g), (2, .int x2)]) hx hb dX6_sumUp_3 hl (by decide) rfl (fun ls hl => ?_)
  have L5 : ∀ (k_5 : Int32 → FV → Option (FV)) (hk_5 : ∀ (x3_5 : Int32) (Vset_5 : FV), k_5 x3_5 Vset_5 = some out → ∀ (H : Heap) (locs : List Loc), va_P D vwCl (List.flatten [(w_Set cs o_set h_set I_set Vset_5), (w_Led cs o_g h_g I_g V_g)]) H → va_D A (List.flatten [(w_Set cs o_set h_set I_set Vset_5), (w_Led cs o_g h_g I_g V_g)]) → va_S A s.heap H locs → ∀ ls : Array Slot, lv_has ls 6 [(0, .ref o_set), (2, .int x2), (3, .int x3_5)] → W p l e rm_Set_sumUp s m args below meth c H locs 0 0 Q (F0 m 88 ls [])), ∀ (n_5 : Nat) (x3_5 : Int32) (x4_5 : Int32) (Vset_5 : FV), Set_sumUp_L5 f I_g x2 V_g k_5 n_5 x3_5 x4_5 Vset_5 = some out → ∀ (H : Heap) (locs : List Loc), va_P D vwCl (List.flatten [(w_Set cs o_set h_set I_set Vset_5), (w_Led cs o_g h_g I_g V_g)]) H → va_D A (List.flatten [(w_Set cs o_set h_set I_set Vset_5), (w_Led cs o_g h_g I_g V_g)]) → va_S A s.heap H locs → ∀ ls : Array Slot, lv_has ls 6 [(0, .ref o_set), (1, .ref o_g), (2, .int x2), (3, .int x3_5), (4, .int x4_5)] → W p l e rm_Set_sumUp s m args below meth c H locs 0 0 Q (F0 m 5 ls []) := by
    intro k_5 hk_5 n_5
    induction n_5 with
    | zero => intro x3_5 x4_5 Vset_5 hf; rw [Set_sumUp_L5] at hf; cases hf
    | succ n_5 ih_5 =>
      intro x3_5 x4_5 Vset_5 hf H locs hP hD hS ls hl
      rw [Set_sumUp_L5] at hf
      refine lv_iload hx hb dX6_sumUp_5 (lv_at hl 4 rfl) ?_
      refine lv_aload_n hx hb dX6_sumUp_7 rfl (lv_at hl 1 rfl) ?_
      refine va_get (D := D) (ci := 3) (v := .int (I_g 0)) (C := RX3) (T := TX3) (N := 11) hx hb hts in_X3 hown hK hP 3 rfl rfl 0 (by decide) g_28 (fun _ h9 => h9) rfl dX6_sumUp_8 ?_
      refine lv_icmp_ge (tgt := 88) hx hb dX6_sumUp_11 (by decide) (fun c11 => ?_) (fun c11 => ?_)
      · replace hf := ip c11 hf
        exact hk_5 x3_5 Vset_5 hf _ _ hP hD hS _ (lv_sub hl [0, 2, 3] rfl)
      · replace hf := im c11 hf
        refine lv_iload_n hx hb dX6_sumUp_14 rfl (lv_at hl 2 rfl) ?_
        refine lv_iload hx hb dX6_sumUp_15 (lv_at hl 4 rfl) ?_
        obtain ⟨zr1, qr1, hf⟩ := bd1 hf
        refine vp_callSi (va_Run.run (va_runSN (As := [.int x2, .int x4_5]) (rest := []) ⟨hx, hb, hml, hown, hts⟩ (c_X_isIn l x2 x4_5 f zr1 qr1) w_isIn_32 ⟨fun a U g mk q => q, fun U hU hW => ⟨rfl, trivial⟩⟩ rfl rfl hl.1 rfl (lv_room (Nat.le_of_ble_eq_true rfl)) dX6_sumUp_17 ⟨Nat.zero_le _, Nat.zero_le _⟩)) (fun r1 er1 => ?_)
        rw [er1]
        obtain ⟨j82, ej82, hf⟩ := nme hf
        have J82 : ∀ (x3_82 : Int32) (Vset_82 : FV), j82 x3_82 Vset_82 = some out → ∀ (H : Heap) (locs : List Loc), va_P D vwCl (List.flatten [(w_Set cs o_set h_set I_set Vset_82), (w_Led cs o_g h_g I_g V_g)]) H → va_D A (List.flatten [(w_Set cs o_set h_set I_set Vset_82), (w_Led cs o_g h_g I_g V_g)]) → va_S A s.heap H locs → ∀ ls : Array Slot, lv_has ls 6 [(0, .ref o_set), (1, .ref o_g), (2, .int x2), (3, .int x3_82), (4, .int x4_5)] → W p l e rm_Set_sumUp s m args below meth c H locs 0 0 Q (F0 m 82 ls []) := by
          intro x3_82 Vset_82 hf H locs hP hD hS ls hl
          rw [ej82] at hf
          refine lv_iinc (v := (x4_5 + 1)) (lv' := [(4, .int (x4_5 + 1)), (0, .ref o_set), (1, .ref o_g), (2, .int x2), (3, .int x3_82)]) hx hb dX6_sumUp_82 hl (k := 4) rfl (by rfl) (by decide) rfl (fun ls hl => ?_)
          refine lv_goto (tgt := 5) hx hb dX6_sumUp_85 (by decide) ?_
          exact ih_5 x3_82 (x4_5 + 1) Vset_82 hf _ _ hP hD hS _ (lv_sub hl [1, 2, 3, 4, 0] rfl)
        refine lv_if_eq (tgt := 82) hx hb dX6_sumUp_20 (by decide) (fun c20 => ?_) (fun c20 => ?_)
        · replace hf := ip c20 hf
          exact J82 x3_5 Vset_5 hf _ _ hP hD hS _ (lv_sub hl [0, 1, 2, 3, 4] rfl)
        · replace hf := im c20 hf
          refine lv_iload_n hx hb dX6_sumUp_23 rfl (lv_at hl 2 rfl) ?_
          refine lv_iconst (v := 1) hx hb dX6_sumUp_24 (by decide) ?_
          refine lv_iload hx hb dX6_sumUp_25 (lv_at hl 4 rfl) ?_
          refine lv_ishl hx hb dX6_sumUp_27 ?_
          refine lv_iconst (v := (-1)) hx hb dX6_sumUp_28 (by decide) ?_
          refine lv_ixor hx hb dX6_sumUp_29 ?_
          refine lv_iand hx hb dX6_sumUp_30 ?_
          refine lv_topi (fun y2 ey2 => ?_)
          replace hf := nmd hf ey2
          refine lv_istore (lv' := [(5, .int y2), (0, .ref o_set), (1, .ref o_g), (2, .int x2), (3, .int x3_5), (4, .int x4_5)]) hx hb dX6_sumUp_31 hl (by decide) rfl (fun ls hl => ?_)
          refine lv_iload_n hx hb dX6_sumUp_33 rfl (lv_at hl 4 rfl) ?_
          refine lv_aload_n hx hb dX6_sumUp_34 rfl (lv_at hl 1 rfl) ?_
          refine va_get (D := D) (ci := 6) (v := .ref (h_set 1)) (C := RX6) (T := TX6) (N := 2) hx hb hts in_X6 hown hK hP 0 rfl rfl 1 (by decide) g_15 (fun _ h9 => h9) rfl dX6_sumUp_35 ?_
          refine lv_iload hx hb dX6_sumUp_38 (lv_at hl 0 rfl) ?_
          obtain ⟨c40, hf⟩ := gd hf
          refine va_iald (f := (Vset_5 1)) hx hb hK hP 2 0 rfl rfl c40 dX6_sumUp_40 ?_
          refine va_mmax (x := x3_5) (y := ((Vset_5 1) y2.toNatClampNeg)) hx hb (hml.trans hl.1.symm) hown ml_36 ms_36 mi_36 mc_36 (Nat.le_of_ble_eq_true rfl) (Nat.le_of_ble_eq_true rfl) (Nat.zero_le _) (Nat.zero_le _) dX6_sumUp_41 ?_
          refine lv_topi (fun y3 ey3 => ?_)
          replace hf := nmd hf ey3
          refine lv_istore_n (lv' := [(3, .int y3), (5, .int y2), (0, .ref o_set), (1, .ref o_g), (2, .int x2), (4, .int x4_5)]) hx hb dX6_sumUp_44 rfl hl (by decide) rfl (fun ls hl => ?_)
          refine lv_aload_n hx hb dX6_sumUp_45 rfl (lv_at hl 2 rfl) ?_
          refine va_get (D := D) (ci := 6) (v := .ref (h_set 0)) (C := RX6) (T := TX6) (N := 2) hx hb hts in_X6 hown hK hP 0 rfl rfl 0 (by decide) g_9 (fun _ h9 => h9) rfl dX6_sumUp_46 ?_
          refine lv_iload_n hx hb dX6_sumUp_49 rfl (lv_at hl 4 rfl) ?_
          refine lv_iload hx hb dX6_sumUp_50 (lv_at hl 1 rfl) ?_
          obtain ⟨j81, ej81, hf⟩ := nme hf
          have J81 : ∀ (t2_81 : Int32), j81 t2_81 = some out → ∀ (H : Heap) (locs : List Loc), va_P D vwCl (List.flatten [(w_Set cs o_set h_set I_set Vset_5), (w_Led cs o_g h_g I_g V_g)]) H → va_D A (List.flatten [(w_Set cs o_set h_set I_set Vset_5), (w_Led cs o_g h_g I_g V_g)]) → va_S A s.heap H locs → ∀ ls : Array Slot, lv_has ls 6 [(0, .ref o_set), (1, .ref o_g), (2, .int x2), (3, .int y3), (4, .int x4_5)] → W p l e rm_Set_sumUp s m args below meth c H locs 0 0 Q (F0 m 81 ls [.int t2_81, .int x2, .ref (h_set 0)]) := by
            intro t2_81 hf H locs hP hD hS ls hl
            rw [ej81] at hf
            obtain ⟨c81, hf⟩ := gd hf
            refine va_iast (f := (Vset_5 0)) hx hb hK hP hD hS 1 0 rfl rfl c81 dX6_sumUp_81 (fun H locs hP hD hS => ?_)
            obtain ⟨V4, eV4, hf⟩ := nme hf
            have hP : va_P D vwCl (List.flatten [(w_Set cs o_set h_set I_set V4), (w_Led cs o_g h_g I_g V_g)]) H := by rw [eV4]; exact hP
            have hD : va_D A (List.flatten [(w_Set cs o_set h_set I_set V4), (w_Led cs o_g h_g I_g V_g)]) := by rw [eV4]; exact hD
            exact J82 y3 V4 hf _ _ hP hD hS _ (lv_sub hl [0, 1, 2, 3, 4] rfl)
          refine lv_if_ne (tgt := 64) hx hb dX6_sumUp_52 (by decide) (fun c52 => ?_) (fun c52 => ?_)
          · replace hf := im c52 hf
            refine lv_aload_n hx hb dX6_sumUp_64 rfl (lv_at hl 2 rfl) ?_
            refine va_get (D := D) (ci := 6) (v := .ref (h_set 0)) (C := RX6) (T := TX6) (N := 2) hx hb hts in_X6 hown hK hP 0 rfl rfl 0 (by decide) g_9 (fun _ h9 => h9) rfl dX6_sumUp_65 ?_
            refine lv_iload hx hb dX6_sumUp_68 (lv_at hl 1 rfl) ?_
            obtain ⟨c70, hf⟩ := gd hf
            refine va_iald (f := (Vset_5 0)) hx hb hK hP 1 0 rfl rfl c70 dX6_sumUp_70 ?_
            refine lv_aload_n hx hb dX6_sumUp_71 rfl (lv_at hl 2 rfl) ?_
            refine va_get (D := D) (ci := 6) (v := .ref (h_set 0)) (C := RX6) (T := TX6) (N := 2) hx hb hts in_X6 hown hK hP 0 rfl rfl 0 (by decide) g_9 (fun _ h9 => h9) rfl dX6_sumUp_72 ?_
            refine lv_iconst (v := 1) hx hb dX6_sumUp_75 (by decide) ?_
            refine lv_iload hx hb dX6_sumUp_76 (lv_at hl 5 rfl) ?_
            refine lv_ishl hx hb dX6_sumUp_78 ?_
            obtain ⟨c79, hf⟩ := gd hf
            refine va_iald (f := (Vset_5 0)) hx hb hK hP 1 0 rfl rfl c79 dX6_sumUp_79 ?_
            refine lv_iadd hx hb dX6_sumUp_80 ?_
            exact J81 (((Vset_5 0) y2.toNatClampNeg) + ((Vset_5 0) (1 <<< (x4_5 &&& 31)).toNatClampNeg)) hf _ _ hP hD hS _ (lv_sub hl [2, 3, 4, 0, 5] rfl)
          · replace hf := ip c52 hf
            refine lv_aload_n hx hb dX6_sumUp_55 rfl (lv_at hl 3 rfl) ?_
            refine lv_iload hx hb dX6_sumUp_56 (lv_at hl 5 rfl) ?_
            have hPc := subB (bs := [(w_Set cs o_set h_set I_set Vset_5), (w_Led cs o_g h_g I_g V_g)]) (ca := [(w_Led cs o_g h_g I_g V_g)]) (ra := [(w_Set cs o_set h_set I_set Vset_5)]) [1, 0] (by decide) rfl rfl hP
            obtain ⟨zr5, qr5, hf⟩ := bd1 hf
            refine vp_callSi (va_Run.run (va_runV (As := [.int x4_5]) (rest := [.int x2, .ref (h_set 0)]) ⟨hx, hb, hml, hown, hts⟩ (c_Led_netOf l D cs o_g h_g I_g V_g x4_5 f zr5 qr5) w_netOf_42 ⟨yR_moved, va_recv hK hPc (ci := 3) (q0 := 0) rfl rfl, fun U hU hW => ⟨rfl, by rw [hU]; exact hPc, va_K.moved hW.alike hK, yN_warm hW hN⟩⟩ rfl rfl hl.1 rfl (lv_room (Nat.le_of_ble_eq_true rfl)) dX6_sumUp_58 ⟨Nat.zero_le _, Nat.zero_le _⟩)) (fun r5 er5 => ?_)
            rw [er5]
            refine lv_goto (tgt := 81) hx hb dX6_sumUp_61 (by decide) ?_
            exact J81 zr5 hf _ _ hP hD hS _ (lv_sub hl [2, 3, 4, 0, 5] rfl)
  refine L5 _ (fun x3_5 Vset_5 hf H locs hP hD hS ls hl => ?_) f 0 0 V_set hf _ _ hP hD hS _ (lv_sub hl [2, 3, 4, 1, 0] rfl)
  refine lv_aload_n hx hb dX6_sumUp_88 rfl (lv_at hl 0 rfl) ?_
  refine va_get (D := D) (ci := 6) (v := .ref (h_set 1)) (C := RX6) (T := TX6) (N := 2) hx hb hts in_X6 hown hK hP 0 rfl rfl 1 (by decide) g_15 (fun _ h9 => h9) rfl dX6_sumUp_89 ?_
  refine lv_iload_n hx hb dX6_sumUp_92 rfl (lv_at hl 1 rfl) ?_
  refine lv_aload_n hx hb dX6_sumUp_93 rfl (lv_at hl 0 rfl) ?_
  refine va_get (D := D) (ci := 6) (v := .ref (h_set 0)) (C := RX6) (T := TX6) (N := 2) hx hb hts in_X6 hown hK hP 0 rfl rfl 0 (by decide) g_9 (fun _ h9 => h9) rfl dX6_sumUp_94 ?_
  refine lv_iload_n hx hb dX6_sumUp_97 rfl (lv_at hl 1 rfl) ?_
  obtain ⟨c98, hf⟩ := gd hf
  refine va_iald (f := (Vset_5 0)) hx hb hK hP 1 0 rfl rfl c98 dX6_sumUp_98 ?_
  refine lv_if_ne (tgt := 108) hx hb dX6_sumUp_99 (by decide) (fun c99 => ?_) (fun c99 => ?_)
  · replace hf := im c99 hf
    refine lv_iload_n hx hb dX6_sumUp_108 rfl (lv_at hl 2 rfl) ?_
    obtain ⟨c109, hf⟩ := gd hf
    refine va_iast (f := (Vset_5 1)) hx hb hK hP hD hS 2 0 rfl rfl c109 dX6_sumUp_109 (fun H locs hP hD hS => ?_)
    obtain ⟨V6, eV6, hf⟩ := nme hf
    have hP : va_P D vwCl (List.flatten [(w_Set cs o_set h_set I_set V6), (w_Led cs o_g h_g I_g V_g)]) H := by rw [eV6]; exact hP
    have hD : va_D A (List.flatten [(w_Set cs o_set h_set I_set V6), (w_Led cs o_g h_g I_g V_g)]) := by rw [eV6]; exact hD
    exact hret V6 _ _ 110 _ hf hP hD hS dX6_sumUp_110
  · replace hf := ip c99 hf
    refine lv_iload_n hx hb dX6_sumUp_102 rfl (lv_at hl 2 rfl) ?_
    refine lv_iconst (v := 1) hx hb dX6_sumUp_103 (by decide) ?_
    refine lv_iadd hx hb dX6_sumUp_104 ?_
    refine lv_goto (tgt := 109) hx hb dX6_sumUp_105 (by decide) ?_
    obtain ⟨c109, hf⟩ := gd hf
    refine va_iast (f := (Vset_5 1)) hx hb hK hP hD hS 2 0 rfl rfl c109 dX6_sumUp_109 (fun H locs hP hD hS => ?_)
    obtain ⟨V7, eV7, hf⟩ := nme hf
    have hP : va_P D vwCl (List.flatten [(w_Set cs o_set h_set I_set V7), (w_Led cs o_g h_g I_g V_g)]) H := by rw [eV7]; exact hP
    have hD : va_D A (List.flatten [(w_Set cs o_set h_set I_set V7), (w_Led cs o_g h_g I_g V_g)]) := by rw [eV7]; exact hD
    exact hret V7 _ _ 110 _ hf hP hD hS dX6_sumUp_110
set_option maxHeartbeats 4000000 in
set_option maxRecDepth 100000 in
theorem c_Set_sumUp (l : Launch) (D : va_G) (cs : Nat → ClassId) (o_set : Nat) (h_set : Nat → Nat) (o_g : Nat) (h_g : Nat → Nat) (sz : Nat) (I_set : FI) (V_set : FV) (I_g : FI) (V_g : FV) (x2 : Int32) (f : Nat) (out : FV) (hf : Set_sumUp f x2 I_set V_set I_g V_g = some out) : Met l yX6_sumUp wsX6_sumUp rm_Set_sumUp (va_Pc [.ref o_set, .ref o_g, .int x2] (yP D cs (List.flatten [(w_Set cs o_set h_set I_set V_set), (w_Led cs o_g h_g I_g V_g)]) sz)) (va_Qv (fun u => u = out) (fun (u : FV) t => xA D cs (va_A (List.flatten [(w_Set cs o_set h_set I_set V_set), (w_Led cs o_g h_g I_g V_g)]) sz) (List.flatten [(w_Set cs o_set h_set I_set u), (w_Led cs o_g h_g I_g V_g)]) t) (va_A (List.flatten [(w_Set cs o_set h_set I_set V_set), (w_Led cs o_g h_g I_g V_g)]) sz)) 0 0 (va_A (List.flatten [(w_Set cs o_set h_set I_set V_set), (w_Led cs o_g h_g I_g V_g)]) sz) := by
  refine Met.ofW (cc := cX6_sumUp) (maxL := 6) (ret := none) (by decide) rfl ?_
  intro p e s m args below meth c s₁ B hml hv
  obtain ⟨ha, hsz, hP, hK, hN, hD0⟩ := hv
  have hx := B.exec
  have hb := B.bytes
  have hr := B.returns
  have hts := atoms_spec (ws := wsX6_sumUp) B.pre
  have hown : s.vm.findClass RX6 = some m.cls := findClass_of_methodNamed B.named
  have hlocks := B.notSynchronized
  have in_X6 : ∀ w ∈ u_ws RX6 TX6 2, w ∈ wsX6_sumUp := fun w h => List.mem_cons_of_mem _ (List.mem_append_right _ h)
  have in_X3 : ∀ w ∈ u_ws RX3 TX3 11, w ∈ wsX6_sumUp := fun w h => List.mem_cons_of_mem _ (List.mem_append_left _ (List.mem_append_right _ h))
  have g_28 := hts (Cond.fieldLink RX6 28 "DaysLent$Ledger" "people" "I") (by decide +kernel)
  have w_isIn_32 : va_CN rm_Set_sumUp s args RX6 32 yX9_isIn "DaysLent" cX9_isIn 2 (some .boolean) wsX9_isIn rm_X_isIn 0 0 2 ∧ (Cond.static yX9_isIn).before args s = true ∧ True := ⟨va_cnB (R := rm_Set_sumUp) (s := s) (args := args) (rm := rm_X_isIn) (mc := 0) (ms := 0) 2 hts gX6_sumUp_X9_isIn_n32 rfl rfl rfl hN.2.2.2 (hts (.initialized RX9) (by decide +kernel)) (by decide +kernel) ⟨Nat.le_of_ble_eq_true rfl, Nat.le_of_ble_eq_true rfl⟩, hts (.static yX9_isIn) (by decide +kernel), trivial⟩
  have g_15 := hts (Cond.fieldLink RX6 15 "DaysLent$Settlement" "groups" "[I") (by decide +kernel)
  have ml_36 := hts (Cond.methodLink RX6 36 Lib.Math.max.name) (by decide +kernel)
  have ms_36 := hts (Cond.static Lib.Math.max.name) (by decide +kernel)
  have mi_36 := hts (Cond.initialized "java/lang/Math") (by decide +kernel)
  have mc_36 := hts (Cond.code Lib.Math.max.name Lib.Math.max.code 2 (some .int)) (by decide +kernel)
  have g_9 := hts (Cond.fieldLink RX6 9 "DaysLent$Settlement" "sums" "[I") (by decide +kernel)
  have w_netOf_42 := cwV (R := rm_Set_sumUp) (s := s) (args := args) (rm := rm_Led_netOf) (mc := 0) (ms := 0) 1 hts gX6_sumUp_X3_netOf rfl rfl rfl (by decide +kernel) ⟨Nat.le_of_ble_eq_true rfl, Nat.le_of_ble_eq_true rfl⟩
  subst hsz
  have hD := hD0.self (sz := s.heap.size)
  generalize hAe : va_A (List.flatten [(w_Set cs o_set h_set I_set V_set), (w_Led cs o_g h_g I_g V_g)]) s.heap.size = A at hD ⊢
  have hA : ∀ q : Nat, s.heap.size ≤ q → A q := fun q h => by rw [← hAe]; exact Or.inr h
  have hl := lv_entry ([.ref o_set, .ref o_g, .int x2]) (n := 6) (Nat.le_of_ble_eq_true rfl)
  rw [show entryFrame m args 6 = entryFrame m ([.ref o_set, .ref o_g, .int x2] : List Value).toArray 6 from by rw [ha], lg_entry_eq]
  generalize (lg_sl ([.ref o_set, .ref o_g, .int x2]) ++ List.replicate (6 - (lg_sl ([.ref o_set, .ref o_g, .int x2])).length) Slot.unset).toArray = ls at hl ⊢
  generalize hQ : MQ below (va_Qv (fun u => u = out) (fun (u : FV) t => xA D cs A (List.flatten [(w_Set cs o_set h_set I_set u), (w_Led cs o_g h_g I_g V_g)]) t) A) args s 0 0 A = Q
  have hret : ∀ (Vset9 : FV) (H : Heap) (locs : List Loc) (pc : Nat) (ls : Array Slot), some Vset9 = some out → va_P D vwCl (List.flatten [(w_Set cs o_set h_set I_set Vset9), (w_Led cs o_g h_g I_g V_g)]) H → va_D A (List.flatten [(w_Set cs o_set h_set I_set Vset9), (w_Led cs o_g h_g I_g V_g)]) → va_S A s.heap H locs → decode cX6_sumUp pc = .ok (.return_, 1) → W p l e rm_Set_sumUp s m args below meth c H locs 0 0 Q (F0 m pc ls []) := by
    intro Vset9 H locs pc ls hf hP hD hS hd
    rw [← hQ]
    exact W.vret hx hb hr (fun t ht hW => ⟨⟨Vset9, rfl, Option.some.inj hf, by show va_P D vwCl (List.flatten [(w_Set cs o_set h_set I_set Vset9), (w_Led cs o_g h_g I_g V_g)]) t.heap; rw [ht]; exact hP, va_K.moved hW.alike hK, hD⟩, hS.F ht⟩) hS.2.2 hd
  exact v_Set_sumUp hf hx hb hml hown hts in_X6 in_X3 g_28 w_isIn_32 g_15 ml_36 ms_36 mi_36 mc_36 g_9 w_netOf_42 hA hP hD hK hN hret ls hl
def Set_fewestPayments_L7 {ρ : Type} (f : Nat) (zr1 : Int32) (I_set : FI) (I_g : FI) (V_g : FV) (k_7 : FV → Option ρ) : Nat → Int32 → FV → Option ρ
  | 0, _, _ => none
  | n_7 + 1, x3_7, Vset_7 => (if zr1 < x3_7 then (k_7 Vset_7) else (if 64 ≤ x3_7 then (k_7 Vset_7) else ob1 (Set_sumUp f x3_7 I_set Vset_7 I_g V_g) (fun V3 => (Set_fewestPayments_L7 f zr1 I_set I_g V_g k_7 n_7 (x3_7 + 1) V3))))
def Set_fewestPayments (f : Nat) (I_set : FI) (V_set : FV) (I_g : FI) (V_g : FV) : Option (Int32 × FV) := ob1 (Led_allPeople f I_g V_g) (fun zr1 => (Set_fewestPayments_L7 f zr1 I_set I_g V_g (fun (Vset_7 : FV) => if zr1 < 0 ∨ 64 ≤ zr1.toNatClampNeg then none else (some (((I_g 0) - ((Vset_7 1) zr1.toNatClampNeg)), Vset_7))) f 1 V_set))
abbrev rm_Set_fewestPayments : Room := { frames := 3, cells := 0, slots := 0, locals := 69 }
set_option maxHeartbeats 4000000 in
set_option maxRecDepth 100000 in
theorem v_Set_fewestPayments {l : Launch} {p : Program} {e : Env} {s : State} {m : MethodId} {args : Array Value} {below : List Frame} {meth : Method} {c : Code} {Q : State → Prop} {D : va_G} {cs : Nat → ClassId} {o_set : Nat} {h_set : Nat → Nat} {o_g : Nat} {h_g : Nat → Nat} {A : Nat → Prop} {I_set : FI} {V_set : FV} {I_g : FI} {V_g : FV} {f : Nat} {out : Int32 × FV} (hf : Set_fewestPayments f I_set V_set I_g V_g = some out) (hx : p.tables.exec = Jvm.exec) (hb : c.code = cX6_fewestPayments) (hml : c.maxLocals = 4) (hown : s.vm.findClass RX6 = some m.cls) (hts : ∀ w ∈ wsX6_fewestPayments, w.before args s = true) (in_X6 : ∀ w ∈ u_ws RX6 TX6 2, w ∈ wsX6_fewestPayments) (in_X3 : ∀ w ∈ u_ws RX3 TX3 11, w ∈ wsX6_fewestPayments) (w_allPeople_18 : CallW rm_Set_fewestPayments s args RX6 RX3 18 yX3_allPeople cX3_allPeople 1 (some .int) wsX3_allPeople rm_Led_allPeople 0 0 0) (w_sumUp_24 : CallW rm_Set_fewestPayments s args RX6 RX6 24 yX6_sumUp cX6_sumUp 6 none wsX6_sumUp rm_Set_sumUp 0 0 2) (g_28 : (Cond.fieldLink RX6 28 "DaysLent$Ledger" "people" "I").before args s = true) (g_15 : (Cond.fieldLink RX6 15 "DaysLent$Settlement" "groups" "[I").before args s = true) (hA : ∀ q : Nat, s.heap.size ≤ q → A q) (hP : va_P D vwCl (List.flatten [(w_Set cs o_set h_set I_set V_set), (w_Led cs o_g h_g I_g V_g)]) s.heap) (hD : va_D A (List.flatten [(w_Set cs o_set h_set I_set V_set), (w_Led cs o_g h_g I_g V_g)])) (hK : va_K D vwCl (tyA cs) s) (hN : yN s) (hret : ∀ (v : Int32) (Vset9 : FV) (H : Heap) (locs : List Loc) (pc : Nat) (ls : Array Slot), some (v, Vset9) = some out → va_P D vwCl (List.flatten [(w_Set cs o_set h_set I_set Vset9), (w_Led cs o_g h_g I_g V_g)]) H → va_D A (List.flatten [(w_Set cs o_set h_set I_set Vset9), (w_Led cs o_g h_g I_g V_g)]) → va_S A s.heap H locs → decode cX6_fewestPayments pc = .ok (.ireturn, 1) → W p l e rm_Set_fewestPayments s m args below meth c H locs 0 0 Q (F0 m pc ls [.int v])) : ∀ ls : Array Slot, lv_has ls 4 [(0, .ref o_set), (1, .ref o_g)] → W p l e rm_Set_fewestPayments s m args below meth c s.heap [] 0 0 Q (F0 m 0 ls []) := by
  intro ls hl
  have hS : va_S A s.heap s.heap [] := va_S.rf
  unfold Set_fewestPayments at hf
  refine lv_aload_n hx hb dX6_fewestPayments_0 rfl (lv_at hl 1 rfl) ?_
  have hPc := subB (bs := [(w_Set cs o_set h_set I_set V_set), (w_Led cs o_g h_g I_g V_g)]) (ca := [(w_Led cs o_g h_g I_g V_g)]) (ra := [(w_Set cs o_set h_set I_set V_set)]) [1, 0] (by decide) rfl rfl hP
  obtain ⟨zr1, qr1, hf⟩ := bd1 hf
  refine vp_callSi (va_Run.run (va_runV (As := []) (rest := []) ⟨hx, hb, hml, hown, hts⟩ (c_Led_allPeople l D cs o_g h_g I_g V_g f zr1 qr1) w_allPeople_18 ⟨yR_moved, va_recv hK hPc (ci := 3) (q0 := 0) rfl rfl, fun U hU hW => ⟨rfl, by rw [hU]; exact hPc, va_K.moved hW.alike hK, yN_warm hW hN⟩⟩ rfl rfl hl.1 rfl (lv_room (Nat.le_of_ble_eq_true rfl)) dX6_fewestPayments_1 ⟨Nat.zero_le _, Nat.zero_le _⟩)) (fun r1 er1 => ?_)
  rw [er1]
  refine lv_istore_n (lv' := [(2, .int zr1), (0, .ref o_set), (1, .ref o_g)]) hx hb dX6_fewestPayments_4 rfl hl (by decide) rfl (fun ls hl => ?_)
  refine lv_iconst (v := 1) hx hb dX6_fewestPayments_5 (by decide) ?_
  refine lv_istore_n (lv' := [(3, .int 1), (2, .int zr1), (0, .ref o_set), (1, .ref o_g)]) hx hb dX6_fewestPayments_6 rfl hl (by decide) rfl (fun ls hl => ?_)
  have L7 : ∀ (k_7 : FV → Option (Int32 × FV)) (hk_7 : ∀ (Vset_7 : FV), k_7 Vset_7 = some out → ∀ (H : Heap) (locs : List Loc), va_P D vwCl (List.flatten [(w_Set cs o_set h_set I_set Vset_7), (w_Led cs o_g h_g I_g V_g)]) H → va_D A (List.flatten [(w_Set cs o_set h_set I_set Vset_7), (w_Led cs o_g h_g I_g V_g)]) → va_S A s.heap H locs → ∀ ls : Array Slot, lv_has ls 4 [(0, .ref o_set), (1, .ref o_g), (2, .int zr1)] → W p l e rm_Set_fewestPayments s m args below meth c H locs 0 0 Q (F0 m 30 ls [])), ∀ (n_7 : Nat) (x3_7 : Int32) (Vset_7 : FV), Set_fewestPayments_L7 f zr1 I_set I_g V_g k_7 n_7 x3_7 Vset_7 = some out → ∀ (H : Heap) (locs : List Loc), va_P D vwCl (List.flatten [(w_Set cs o_set h_set I_set Vset_7), (w_Led cs o_g h_g I_g V_g)]) H → va_D A (List.flatten [(w_Set cs o_set h_set I_set Vset_7), (w_Led cs o_g h_g I_g V_g)]) → va_S A s.heap H locs → ∀ ls : Array Slot, lv_has ls 4 [(0, .ref o_set), (1, .ref o_g), (2, .int zr1), (3, .int x3_7)] → W p l e rm_Set_fewestPayments s m args below meth c H locs 0 0 Q (F0 m 7 ls []) := by
    intro k_7 hk_7 n_7
    induction n_7 with
    | zero => intro x3_7 Vset_7 hf; rw [Set_fewestPayments_L7] at hf; cases hf
    | succ n_7 ih_7 =>
      intro x3_7 Vset_7 hf H locs hP hD hS ls hl
      rw [Set_fewestPayments_L7] at hf
      refine lv_iload_n hx hb dX6_fewestPayments_7 rfl (lv_at hl 3 rfl) ?_
      refine lv_iload_n hx hb dX6_fewestPayments_8 rfl (lv_at hl 2 rfl) ?_
      refine lv_icmp_gt (tgt := 30) hx hb dX6_fewestPayments_9 (by decide) (fun c9 => ?_) (fun c9 => ?_)
      · replace hf := ip c9 hf
        exact hk_7 Vset_7 hf _ _ hP hD hS _ (lv_sub hl [0, 1, 2] rfl)
      · replace hf := im c9 hf
        refine lv_iload_n hx hb dX6_fewestPayments_12 rfl (lv_at hl 3 rfl) ?_
        refine lv_bipush (v := 64) hx hb dX6_fewestPayments_13 (by decide) ?_
        refine lv_icmp_ge (tgt := 30) hx hb dX6_fewestPayments_15 (by decide) (fun c15 => ?_) (fun c15 => ?_)
        · replace hf := ip c15 hf
          exact hk_7 Vset_7 hf _ _ hP hD hS _ (lv_sub hl [0, 1, 2] rfl)
        · replace hf := im c15 hf
          refine lv_aload_n hx hb dX6_fewestPayments_18 rfl (lv_at hl 0 rfl) ?_
          refine lv_aload_n hx hb dX6_fewestPayments_19 rfl (lv_at hl 1 rfl) ?_
          refine lv_iload_n hx hb dX6_fewestPayments_20 rfl (lv_at hl 3 rfl) ?_
          obtain ⟨V3, qr2, hf⟩ := bd1 hf
          have hFc := xfree hD hS hA
          refine va_callv (va_runV (As := [.ref o_g, .int x3_7]) (rest := []) ⟨hx, hb, hml, hown, hts⟩ (c_Set_sumUp l D cs o_set h_set o_g h_g _ I_set Vset_7 I_g V_g x3_7 f _ qr2) w_sumUp_24 ⟨yP_moved, va_recv hK hP (ci := 6) (q0 := 0) rfl rfl, fun U hU hW => ⟨rfl, by rw [hU], by rw [hU]; exact hP, va_K.moved hW.alike hK, yN_warm hW hN, hD.weaken (fun _ _ _ _ => trivial)⟩⟩ rfl rfl hl.1 rfl (lv_room (Nat.le_of_ble_eq_true rfl)) dX6_fewestPayments_21 ⟨Nat.zero_le _, Nat.zero_le _⟩) hS (fun q _ h9 => hFc q h9) hFc (fun u t H1 locs ht hvm hw hB hz1 hk1 hS => ?_)
          rw [hw] at hB
          obtain ⟨hP1, hK1, hD1⟩ := hB
          have hP : va_P D vwCl (List.flatten [(w_Set cs o_set h_set I_set V3), (w_Led cs o_g h_g I_g V_g)]) H1 := by rw [← ht]; exact hP1
          have hD : va_D A (List.flatten [(w_Set cs o_set h_set I_set V3), (w_Led cs o_g h_g I_g V_g)]) := hD1.weaken (fun _ q _ h9 => hFc q.1 h9)
          refine lv_iinc (v := (x3_7 + 1)) (lv' := [(3, .int (x3_7 + 1)), (0, .ref o_set), (1, .ref o_g), (2, .int zr1)]) hx hb dX6_fewestPayments_24 hl (k := 3) rfl (by rfl) (by decide) rfl (fun ls hl => ?_)
          refine lv_goto (tgt := 7) hx hb dX6_fewestPayments_27 (by decide) ?_
          exact ih_7 (x3_7 + 1) V3 hf _ _ hP hD hS _ (lv_sub hl [1, 2, 3, 0] rfl)
  refine L7 _ (fun Vset_7 hf H locs hP hD hS ls hl => ?_) f 1 V_set hf _ _ hP hD hS _ (lv_sub hl [2, 3, 1, 0] rfl)
  refine lv_aload_n hx hb dX6_fewestPayments_30 rfl (lv_at hl 1 rfl) ?_
  refine va_get (D := D) (ci := 3) (v := .int (I_g 0)) (C := RX3) (T := TX3) (N := 11) hx hb hts in_X3 hown hK hP 3 rfl rfl 0 (by decide) g_28 (fun _ h9 => h9) rfl dX6_fewestPayments_31 ?_
  refine lv_aload_n hx hb dX6_fewestPayments_34 rfl (lv_at hl 0 rfl) ?_
  refine va_get (D := D) (ci := 6) (v := .ref (h_set 1)) (C := RX6) (T := TX6) (N := 2) hx hb hts in_X6 hown hK hP 0 rfl rfl 1 (by decide) g_15 (fun _ h9 => h9) rfl dX6_fewestPayments_35 ?_
  refine lv_iload_n hx hb dX6_fewestPayments_38 rfl (lv_at hl 2 rfl) ?_
  obtain ⟨c39, hf⟩ := gd hf
  refine va_iald (f := (Vset_7 1)) hx hb hK hP 2 0 rfl rfl c39 dX6_fewestPayments_39 ?_
  refine lv_isub hx hb dX6_fewestPayments_40 ?_
  exact hret ((I_g 0) - ((Vset_7 1) zr1.toNatClampNeg)) Vset_7 _ _ 41 _ hf hP hD hS dX6_fewestPayments_41
set_option maxHeartbeats 4000000 in
set_option maxRecDepth 100000 in
theorem c_Set_fewestPayments (l : Launch) (D : va_G) (cs : Nat → ClassId) (o_set : Nat) (h_set : Nat → Nat) (o_g : Nat) (h_g : Nat → Nat) (sz : Nat) (I_set : FI) (V_set : FV) (I_g : FI) (V_g : FV) (f : Nat) (out : Int32 × FV) (hf : Set_fewestPayments f I_set V_set I_g V_g = some out) : Met l yX6_fewestPayments wsX6_fewestPayments rm_Set_fewestPayments (va_Pc [.ref o_set, .ref o_g] (yP D cs (List.flatten [(w_Set cs o_set h_set I_set V_set), (w_Led cs o_g h_g I_g V_g)]) sz)) (va_Qi (fun r u => (r, u) = out) (fun (u : FV) t => xA D cs (va_A (List.flatten [(w_Set cs o_set h_set I_set V_set), (w_Led cs o_g h_g I_g V_g)]) sz) (List.flatten [(w_Set cs o_set h_set I_set u), (w_Led cs o_g h_g I_g V_g)]) t) (va_A (List.flatten [(w_Set cs o_set h_set I_set V_set), (w_Led cs o_g h_g I_g V_g)]) sz)) 0 0 (va_A (List.flatten [(w_Set cs o_set h_set I_set V_set), (w_Led cs o_g h_g I_g V_g)]) sz) := by
  refine Met.ofW (cc := cX6_fewestPayments) (maxL := 4) (ret := (some .int)) (by decide) rfl ?_
  intro p e s m args below meth c s₁ B hml hv
  obtain ⟨ha, hsz, hP, hK, hN, hD0⟩ := hv
  have hx := B.exec
  have hb := B.bytes
  have hr := B.returns
  have hts := atoms_spec (ws := wsX6_fewestPayments) B.pre
  have hown : s.vm.findClass RX6 = some m.cls := findClass_of_methodNamed B.named
  have hlocks := B.notSynchronized
  have in_X6 : ∀ w ∈ u_ws RX6 TX6 2, w ∈ wsX6_fewestPayments := fun w h => List.mem_cons_of_mem _ (List.mem_append_right _ h)
  have in_X3 : ∀ w ∈ u_ws RX3 TX3 11, w ∈ wsX6_fewestPayments := fun w h => List.mem_cons_of_mem _ (List.mem_append_left _ (List.mem_append_right _ h))
  have w_allPeople_18 := cwV (R := rm_Set_fewestPayments) (s := s) (args := args) (rm := rm_Led_allPeople) (mc := 0) (ms := 0) 0 hts gX6_fewestPayments_X3_allPeople rfl rfl rfl (by decide +kernel) ⟨Nat.le_of_ble_eq_true rfl, Nat.le_of_ble_eq_true rfl⟩
  have w_sumUp_24 := cwV (R := rm_Set_fewestPayments) (s := s) (args := args) (rm := rm_Set_sumUp) (mc := 0) (ms := 0) 2 hts gX6_fewestPayments_X6_sumUp rfl rfl rfl (by decide +kernel) ⟨Nat.le_of_ble_eq_true rfl, Nat.le_of_ble_eq_true rfl⟩
  have g_28 := hts (Cond.fieldLink RX6 28 "DaysLent$Ledger" "people" "I") (by decide +kernel)
  have g_15 := hts (Cond.fieldLink RX6 15 "DaysLent$Settlement" "groups" "[I") (by decide +kernel)
  subst hsz
  have hD := hD0.self (sz := s.heap.size)
  generalize hAe : va_A (List.flatten [(w_Set cs o_set h_set I_set V_set), (w_Led cs o_g h_g I_g V_g)]) s.heap.size = A at hD ⊢
  have hA : ∀ q : Nat, s.heap.size ≤ q → A q := fun q h => by rw [← hAe]; exact Or.inr h
  have hl := lv_entry ([.ref o_set, .ref o_g]) (n := 4) (Nat.le_of_ble_eq_true rfl)
  rw [show entryFrame m args 4 = entryFrame m ([.ref o_set, .ref o_g] : List Value).toArray 4 from by rw [ha], lg_entry_eq]
  generalize (lg_sl ([.ref o_set, .ref o_g]) ++ List.replicate (4 - (lg_sl ([.ref o_set, .ref o_g])).length) Slot.unset).toArray = ls at hl ⊢
  generalize hQ : MQ below (va_Qi (fun r u => (r, u) = out) (fun (u : FV) t => xA D cs A (List.flatten [(w_Set cs o_set h_set I_set u), (w_Led cs o_g h_g I_g V_g)]) t) A) args s 0 0 A = Q
  have hret : ∀ (v : Int32) (Vset9 : FV) (H : Heap) (locs : List Loc) (pc : Nat) (ls : Array Slot), some (v, Vset9) = some out → va_P D vwCl (List.flatten [(w_Set cs o_set h_set I_set Vset9), (w_Led cs o_g h_g I_g V_g)]) H → va_D A (List.flatten [(w_Set cs o_set h_set I_set Vset9), (w_Led cs o_g h_g I_g V_g)]) → va_S A s.heap H locs → decode cX6_fewestPayments pc = .ok (.ireturn, 1) → W p l e rm_Set_fewestPayments s m args below meth c H locs 0 0 Q (F0 m pc ls [.int v]) := by
    intro v Vset9 H locs pc ls hf hP hD hS hd
    rw [← hQ]
    exact W.iret (v := v) hx hb hr (fun t ht hW => ⟨⟨v, Vset9, rfl, Option.some.inj hf, by show va_P D vwCl (List.flatten [(w_Set cs o_set h_set I_set Vset9), (w_Led cs o_g h_g I_g V_g)]) t.heap; rw [ht]; exact hP, va_K.moved hW.alike hK, hD⟩, hS.F ht⟩) hS.2.2 hd
  exact v_Set_fewestPayments hf hx hb hml hown hts in_X6 in_X3 w_allPeople_18 w_sumUp_24 g_28 g_15 hA hP hD hK hN hret ls hl
def Set_paidTo_L6 {ρ : Type} (f : Nat) (I_g : FI) (V_g : FV) (x2 : Int32) (x3 : Int32) (k_6 : Int32 → Option ρ) : Nat → Int32 → Int32 → Option ρ
  | 0, _, _ => none
  | n_6 + 1, x4_6, x5_6 => (if (I_g 1) ≤ x5_6 then (k_6 x4_6) else if x5_6 < 0 ∨ 12 ≤ x5_6.toNatClampNeg then none else ((nm (fun (x4_52 : Int32) => (Set_paidTo_L6 f I_g V_g x2 x3 k_6 n_6 x4_52 (x5_6 + 1))) (fun j52 => (if ((V_g 7) x5_6.toNatClampNeg) = x2 then if x5_6 < 0 ∨ 12 ≤ x5_6.toNatClampNeg then none else (ob1 (X_isIn f x3 ((V_g 8) x5_6.toNatClampNeg)) (fun zr1 => (if zr1 = 0 then (j52 x4_6) else if x5_6 < 0 ∨ 12 ≤ x5_6.toNatClampNeg then none else (nm (x4_6 + ((V_g 9) x5_6.toNatClampNeg)) (fun y2 => (j52 y2)))))) else (j52 x4_6))))))
def Set_paidTo (f : Nat) (x2 : Int32) (x3 : Int32) (I_set : FI) (V_set : FV) (I_g : FI) (V_g : FV) : Option (Int32) := (Set_paidTo_L6 f I_g V_g x2 x3 (fun (x4_6 : Int32) => some x4_6) f 0 0)
abbrev rm_Set_paidTo : Room := { frames := 1, cells := 0, slots := 0, locals := 21 }
set_option maxHeartbeats 4000000 in
set_option maxRecDepth 100000 in
theorem v_Set_paidTo {l : Launch} {p : Program} {e : Env} {s : State} {m : MethodId} {args : Array Value} {below : List Frame} {meth : Method} {c : Code} {Q : State → Prop} {D : va_G} {cs : Nat → ClassId} {o_set : Nat} {h_set : Nat → Nat} {o_g : Nat} {h_g : Nat → Nat} {I_set : FI} {V_set : FV} {I_g : FI} {V_g : FV} {x2 : Int32} {x3 : Int32} {f : Nat} {out : Int32} (hf : Set_paidTo f x2 x3 I_set V_set I_g V_g = some out) (hx : p.tables.exec = Jvm.exec) (hb : c.code = cX6_paidTo) (hml : c.maxLocals = 6) (hown : s.vm.findClass RX6 = some m.cls) (hts : ∀ w ∈ wsX6_paidTo, w.before args s = true) (in_X3 : ∀ w ∈ u_ws RX3 TX3 11, w ∈ wsX6_paidTo) (g_60 : (Cond.fieldLink RX6 60 "DaysLent$Ledger" "debts" "I").before args s = true) (g_63 : (Cond.fieldLink RX6 63 "DaysLent$Ledger" "creditor" "[I").before args s = true) (g_66 : (Cond.fieldLink RX6 66 "DaysLent$Ledger" "debtor" "[I").before args s = true) (w_isIn_32 : va_CN rm_Set_paidTo s args RX6 32 yX9_isIn "DaysLent" cX9_isIn 2 (some .boolean) wsX9_isIn rm_X_isIn 0 0 2 ∧ (Cond.static yX9_isIn).before args s = true ∧ True) (g_69 : (Cond.fieldLink RX6 69 "DaysLent$Ledger" "amount" "[I").before args s = true) (hP : va_P D vwCl (List.flatten [(w_Set cs o_set h_set I_set V_set), (w_Led cs o_g h_g I_g V_g)]) s.heap) (hK : va_K D vwCl (tyA cs) s) (hN : yN s) (hret : ∀ (v : Int32) (pc : Nat) (ls : Array Slot), some v = some out → decode cX6_paidTo pc = .ok (.ireturn, 1) → W p l e rm_Set_paidTo s m args below meth c s.heap [] 0 0 Q (F0 m pc ls [.int v])) : ∀ ls : Array Slot, lv_has ls 6 [(0, .ref o_set), (1, .ref o_g), (2, .int x2), (3, .int x3)] → W p l e rm_Set_paidTo s m args below meth c s.heap [] 0 0 Q (F0 m 0 ls []) := by
  intro ls hl
  unfold Set_paidTo at hf
  refine lv_iconst (v := 0) hx hb dX6_paidTo_0 (by decide) ?_
  refine lv_istore (lv' := [(4, .int 0), (0, .ref o_set), (1, .ref o_g), (2, .int x2), (3, .int x3)]) hx hb dX6_paidTo_1 hl (by decide) rfl (fun ls hl => ?_)
  refine lv_iconst (v := 0) hx hb dX6_paidTo_3 (by decide) ?_
  refine lv_istore (lv' := [(5, .int 0), (4, .int 0), (0, .ref o_set), (1, .ref o_g), (2, .int x2), (3, .int x3)]) hx hb dX6_paidTo_4 hl (by decide) rfl (fun ls hl => ?_)
  have L6 : ∀ (k_6 : Int32 → Option (Int32)) (hk_6 : ∀ (x4_6 : Int32), k_6 x4_6 = some out → ∀ ls : Array Slot, lv_has ls 6 [(4, .int x4_6)] → W p l e rm_Set_paidTo s m args below meth c s.heap [] 0 0 Q (F0 m 58 ls [])), ∀ (n_6 : Nat) (x4_6 : Int32) (x5_6 : Int32), Set_paidTo_L6 f I_g V_g x2 x3 k_6 n_6 x4_6 x5_6 = some out → ∀ ls : Array Slot, lv_has ls 6 [(1, .ref o_g), (2, .int x2), (3, .int x3), (4, .int x4_6), (5, .int x5_6)] → W p l e rm_Set_paidTo s m args below meth c s.heap [] 0 0 Q (F0 m 6 ls []) := by
    intro k_6 hk_6 n_6
    induction n_6 with
    | zero => intro x4_6 x5_6 hf; rw [Set_paidTo_L6] at hf; cases hf
    | succ n_6 ih_6 =>
      intro x4_6 x5_6 hf ls hl
      rw [Set_paidTo_L6] at hf
      refine lv_iload hx hb dX6_paidTo_6 (lv_at hl 4 rfl) ?_
      refine lv_aload_n hx hb dX6_paidTo_8 rfl (lv_at hl 0 rfl) ?_
      refine va_get (D := D) (ci := 3) (v := .int (I_g 1)) (C := RX3) (T := TX3) (N := 11) hx hb hts in_X3 hown hK hP 3 rfl rfl 1 (by decide) g_60 (fun _ h9 => h9) rfl dX6_paidTo_9 ?_
      refine lv_icmp_ge (tgt := 58) hx hb dX6_paidTo_12 (by decide) (fun c12 => ?_) (fun c12 => ?_)
      · replace hf := ip c12 hf
        exact hk_6 x4_6 hf _ (lv_sub hl [3] rfl)
      · replace hf := im c12 hf
        refine lv_aload_n hx hb dX6_paidTo_15 rfl (lv_at hl 0 rfl) ?_
        refine va_get (D := D) (ci := 3) (v := .ref (h_g 7)) (C := RX3) (T := TX3) (N := 11) hx hb hts in_X3 hown hK hP 3 rfl rfl 7 (by decide) g_63 (fun _ h9 => h9) rfl dX6_paidTo_16 ?_
        refine lv_iload hx hb dX6_paidTo_19 (lv_at hl 4 rfl) ?_
        obtain ⟨c21, hf⟩ := gd hf
        refine va_iald (f := (V_g 7)) hx hb hK hP 6 0 rfl rfl c21 dX6_paidTo_21 ?_
        refine lv_iload_n hx hb dX6_paidTo_22 rfl (lv_at hl 1 rfl) ?_
        obtain ⟨j52, ej52, hf⟩ := nme hf
        have J52 : ∀ (x4_52 : Int32), j52 x4_52 = some out → ∀ ls : Array Slot, lv_has ls 6 [(1, .ref o_g), (2, .int x2), (3, .int x3), (4, .int x4_52), (5, .int x5_6)] → W p l e rm_Set_paidTo s m args below meth c s.heap [] 0 0 Q (F0 m 52 ls []) := by
          intro x4_52 hf ls hl
          rw [ej52] at hf
          refine lv_iinc (v := (x5_6 + 1)) (lv' := [(5, .int (x5_6 + 1)), (1, .ref o_g), (2, .int x2), (3, .int x3), (4, .int x4_52)]) hx hb dX6_paidTo_52 hl (k := 4) rfl (by rfl) (by decide) rfl (fun ls hl => ?_)
          refine lv_goto (tgt := 6) hx hb dX6_paidTo_55 (by decide) ?_
          exact ih_6 x4_52 (x5_6 + 1) hf _ (lv_sub hl [1, 2, 3, 4, 0] rfl)
        refine lv_icmp_ne (tgt := 52) hx hb dX6_paidTo_23 (by decide) (fun c23 => ?_) (fun c23 => ?_)
        · replace hf := im c23 hf
          exact J52 x4_6 hf _ (lv_sub hl [0, 1, 2, 3, 4] rfl)
        · replace hf := ip c23 hf
          refine lv_iload_n hx hb dX6_paidTo_26 rfl (lv_at hl 2 rfl) ?_
          refine lv_aload_n hx hb dX6_paidTo_27 rfl (lv_at hl 0 rfl) ?_
          refine va_get (D := D) (ci := 3) (v := .ref (h_g 8)) (C := RX3) (T := TX3) (N := 11) hx hb hts in_X3 hown hK hP 3 rfl rfl 8 (by decide) g_66 (fun _ h9 => h9) rfl dX6_paidTo_28 ?_
          refine lv_iload hx hb dX6_paidTo_31 (lv_at hl 4 rfl) ?_
          obtain ⟨c33, hf⟩ := gd hf
          refine va_iald (f := (V_g 8)) hx hb hK hP 7 0 rfl rfl c33 dX6_paidTo_33 ?_
          obtain ⟨zr1, qr1, hf⟩ := bd1 hf
          refine vp_callSi (va_Run.run (va_runSN (As := [.int x3, .int ((V_g 8) x5_6.toNatClampNeg)]) (rest := []) ⟨hx, hb, hml, hown, hts⟩ (c_X_isIn l x3 ((V_g 8) x5_6.toNatClampNeg) f zr1 qr1) w_isIn_32 ⟨fun a U g mk q => q, fun U hU hW => ⟨rfl, trivial⟩⟩ rfl rfl hl.1 rfl (lv_room (Nat.le_of_ble_eq_true rfl)) dX6_paidTo_34 ⟨Nat.zero_le _, Nat.zero_le _⟩)) (fun r1 er1 => ?_)
          rw [er1]
          refine lv_if_eq (tgt := 52) hx hb dX6_paidTo_37 (by decide) (fun c37 => ?_) (fun c37 => ?_)
          · replace hf := ip c37 hf
            exact J52 x4_6 hf _ (lv_sub hl [0, 1, 2, 3, 4] rfl)
          · replace hf := im c37 hf
            refine lv_iload hx hb dX6_paidTo_40 (lv_at hl 3 rfl) ?_
            refine lv_aload_n hx hb dX6_paidTo_42 rfl (lv_at hl 0 rfl) ?_
            refine va_get (D := D) (ci := 3) (v := .ref (h_g 9)) (C := RX3) (T := TX3) (N := 11) hx hb hts in_X3 hown hK hP 3 rfl rfl 9 (by decide) g_69 (fun _ h9 => h9) rfl dX6_paidTo_43 ?_
            refine lv_iload hx hb dX6_paidTo_46 (lv_at hl 4 rfl) ?_
            obtain ⟨c48, hf⟩ := gd hf
            refine va_iald (f := (V_g 9)) hx hb hK hP 8 0 rfl rfl c48 dX6_paidTo_48 ?_
            refine lv_iadd hx hb dX6_paidTo_49 ?_
            refine lv_topi (fun y2 ey2 => ?_)
            replace hf := nmd hf ey2
            refine lv_istore (lv' := [(4, .int y2), (1, .ref o_g), (2, .int x2), (3, .int x3), (5, .int x5_6)]) hx hb dX6_paidTo_50 hl (by decide) rfl (fun ls hl => ?_)
            exact J52 y2 hf _ (lv_sub hl [1, 2, 3, 0, 4] rfl)
  refine L6 _ (fun x4_6 hf ls hl => ?_) f 0 0 hf _ (lv_sub hl [3, 4, 5, 1, 0] rfl)
  refine lv_iload hx hb dX6_paidTo_58 (lv_at hl 0 rfl) ?_
  exact hret x4_6 60 _ hf dX6_paidTo_60
set_option maxHeartbeats 4000000 in
set_option maxRecDepth 100000 in
theorem c_Set_paidTo (l : Launch) (D : va_G) (cs : Nat → ClassId) (o_set : Nat) (h_set : Nat → Nat) (o_g : Nat) (h_g : Nat → Nat) (I_set : FI) (V_set : FV) (I_g : FI) (V_g : FV) (x2 : Int32) (x3 : Int32) (f : Nat) (out : Int32) (hf : Set_paidTo f x2 x3 I_set V_set I_g V_g = some out) : Met l yX6_paidTo wsX6_paidTo rm_Set_paidTo (va_Pc [.ref o_set, .ref o_g, .int x2, .int x3] (yR D cs (List.flatten [(w_Set cs o_set h_set I_set V_set), (w_Led cs o_g h_g I_g V_g)]))) (vp_Si (fun r => r = out)) 0 0 (fun _ => False) := by
  refine Met.ofW (cc := cX6_paidTo) (maxL := 6) (ret := (some .int)) (by decide) rfl ?_
  intro p e s m args below meth c s₁ B hml hv
  obtain ⟨ha, hP, hK, hN⟩ := hv
  have hx := B.exec
  have hb := B.bytes
  have hr := B.returns
  have hts := atoms_spec (ws := wsX6_paidTo) B.pre
  have hown : s.vm.findClass RX6 = some m.cls := findClass_of_methodNamed B.named
  have hlocks := B.notSynchronized
  have in_X3 : ∀ w ∈ u_ws RX3 TX3 11, w ∈ wsX6_paidTo := fun w h => List.mem_cons_of_mem _ (List.mem_append_right _ h)
  have g_60 := hts (Cond.fieldLink RX6 60 "DaysLent$Ledger" "debts" "I") (by decide +kernel)
  have g_63 := hts (Cond.fieldLink RX6 63 "DaysLent$Ledger" "creditor" "[I") (by decide +kernel)
  have g_66 := hts (Cond.fieldLink RX6 66 "DaysLent$Ledger" "debtor" "[I") (by decide +kernel)
  have w_isIn_32 : va_CN rm_Set_paidTo s args RX6 32 yX9_isIn "DaysLent" cX9_isIn 2 (some .boolean) wsX9_isIn rm_X_isIn 0 0 2 ∧ (Cond.static yX9_isIn).before args s = true ∧ True := ⟨va_cnB (R := rm_Set_paidTo) (s := s) (args := args) (rm := rm_X_isIn) (mc := 0) (ms := 0) 2 hts gX6_paidTo_X9_isIn_n32 rfl rfl rfl hN.2.2.2 (hts (.initialized RX9) (by decide +kernel)) (by decide +kernel) ⟨Nat.le_of_ble_eq_true rfl, Nat.le_of_ble_eq_true rfl⟩, hts (.static yX9_isIn) (by decide +kernel), trivial⟩
  have g_69 := hts (Cond.fieldLink RX6 69 "DaysLent$Ledger" "amount" "[I") (by decide +kernel)
  have hl := lv_entry ([.ref o_set, .ref o_g, .int x2, .int x3]) (n := 6) (Nat.le_of_ble_eq_true rfl)
  rw [show entryFrame m args 6 = entryFrame m ([.ref o_set, .ref o_g, .int x2, .int x3] : List Value).toArray 6 from by rw [ha], lg_entry_eq]
  generalize (lg_sl ([.ref o_set, .ref o_g, .int x2, .int x3]) ++ List.replicate (6 - (lg_sl ([.ref o_set, .ref o_g, .int x2, .int x3])).length) Slot.unset).toArray = ls at hl ⊢
  generalize hQ : MQ below (vp_Si (fun r => r = out)) args s 0 0 (fun _ => False) = Q
  have hret : ∀ (v : Int32) (pc : Nat) (ls : Array Slot), some v = some out → decode cX6_paidTo pc = .ok (.ireturn, 1) → W p l e rm_Set_paidTo s m args below meth c s.heap [] 0 0 Q (F0 m pc ls [.int v]) := by
    intro v pc ls hf hd
    rw [← hQ]
    exact W.iret (v := v) hx hb hr (fun t ht hW => ⟨v, rfl, Option.some.inj hf, ht⟩) (fun q h => by cases h) hd
  exact v_Set_paidTo hf hx hb hml hown hts in_X3 g_60 g_63 g_66 w_isIn_32 g_69 hP hK hN hret ls hl
def Set_thoseThatCan_L5 {ρ : Type} (f : Nat) (I_g : FI) (x2 : Int32) (I_set : FI) (V_set : FV) (V_g : FV) (k_5 : Int32 → Option ρ) : Nat → Int32 → Int32 → Option ρ
  | 0, _, _ => none
  | n_5 + 1, x3_5, x4_5 => (if (I_g 0) ≤ x4_5 then (k_5 x3_5) else ob1 (X_isIn f x2 x4_5) (fun zr1 => (nm (fun (x3_55 : Int32) => (Set_thoseThatCan_L5 f I_g x2 I_set V_set V_g k_5 n_5 x3_55 (x4_5 + 1))) (fun j55 => (if zr1 = 0 then (j55 x3_5) else if x4_5 < 0 ∨ 6 ≤ x4_5.toNatClampNeg then none else (ob1 (Set_paidTo f x4_5 x2 I_set V_set I_g V_g) (fun zr2 => ob1 (Led_owedBy f x4_5 I_g V_g) (fun zr3 => (if (((V_g 5) x4_5.toNatClampNeg) + zr2) < zr3 then (j55 x3_5) else nm (x3_5 ||| (1 <<< (x4_5 &&& 31))) (fun y4 => (j55 y4)))))))))))
def Set_thoseThatCan (f : Nat) (x2 : Int32) (I_set : FI) (V_set : FV) (I_g : FI) (V_g : FV) : Option (Int32) := (Set_thoseThatCan_L5 f I_g x2 I_set V_set V_g (fun (x3_5 : Int32) => some x3_5) f 0 0)
abbrev rm_Set_thoseThatCan : Room := { frames := 2, cells := 0, slots := 0, locals := 46 }
set_option maxHeartbeats 4000000 in
set_option maxRecDepth 100000 in
theorem v_Set_thoseThatCan {l : Launch} {p : Program} {e : Env} {s : State} {m : MethodId} {args : Array Value} {below : List Frame} {meth : Method} {c : Code} {Q : State → Prop} {D : va_G} {cs : Nat → ClassId} {o_set : Nat} {h_set : Nat → Nat} {o_g : Nat} {h_g : Nat → Nat} {I_set : FI} {V_set : FV} {I_g : FI} {V_g : FV} {x2 : Int32} {f : Nat} {out : Int32} (hf : Set_thoseThatCan f x2 I_set V_set I_g V_g = some out) (hx : p.tables.exec = Jvm.exec) (hb : c.code = cX6_thoseThatCan) (hml : c.maxLocals = 5) (hown : s.vm.findClass RX6 = some m.cls) (hts : ∀ w ∈ wsX6_thoseThatCan, w.before args s = true) (in_X3 : ∀ w ∈ u_ws RX3 TX3 11, w ∈ wsX6_thoseThatCan) (g_28 : (Cond.fieldLink RX6 28 "DaysLent$Ledger" "people" "I").before args s = true) (w_isIn_32 : va_CN rm_Set_thoseThatCan s args RX6 32 yX9_isIn "DaysLent" cX9_isIn 2 (some .boolean) wsX9_isIn rm_X_isIn 0 0 2 ∧ (Cond.static yX9_isIn).before args s = true ∧ True) (g_50 : (Cond.fieldLink RX6 50 "DaysLent$Ledger" "mornings" "[I").before args s = true) (w_paidTo_53 : CallW rm_Set_thoseThatCan s args RX6 RX6 53 yX6_paidTo cX6_paidTo 6 (some .int) wsX6_paidTo rm_Set_paidTo 0 0 3) (w_owedBy_57 : CallW rm_Set_thoseThatCan s args RX6 RX3 57 yX3_owedBy cX3_owedBy 4 (some .int) wsX3_owedBy rm_Led_owedBy 0 0 1) (hP : va_P D vwCl (List.flatten [(w_Set cs o_set h_set I_set V_set), (w_Led cs o_g h_g I_g V_g)]) s.heap) (hK : va_K D vwCl (tyA cs) s) (hN : yN s) (hret : ∀ (v : Int32) (pc : Nat) (ls : Array Slot), some v = some out → decode cX6_thoseThatCan pc = .ok (.ireturn, 1) → W p l e rm_Set_thoseThatCan s m args below meth c s.heap [] 0 0 Q (F0 m pc ls [.int v])) : ∀ ls : Array Slot, lv_has ls 5 [(0, .ref o_set), (1, .ref o_g), (2, .int x2)] → W p l e rm_Set_thoseThatCan s m args below meth c s.heap [] 0 0 Q (F0 m 0 ls []) := by
  intro ls hl
  unfold Set_thoseThatCan at hf
  refine lv_iconst (v := 0) hx hb dX6_thoseThatCan_0 (by decide) ?_
  refine lv_istore_n (lv' := [(3, .int 0), (0, .ref o_set), (1, .ref o_g), (2, .int x2)]) hx hb dX6_thoseThatCan_1 rfl hl (by decide) rfl (fun ls hl => ?_)
  refine lv_iconst (v := 0) hx hb dX6_thoseThatCan_2 (by decide) ?_
  refine lv_istore (lv' := [(4, .int 0), (3, .int 0), (0, .ref o_set), (1, .ref o_g), (2, .int x2)]) hx hb dX6_thoseThatCan_3 hl (by decide) rfl (fun ls hl => ?_)
  have L5 : ∀ (k_5 : Int32 → Option (Int32)) (hk_5 : ∀ (x3_5 : Int32), k_5 x3_5 = some out → ∀ ls : Array Slot, lv_has ls 5 [(3, .int x3_5)] → W p l e rm_Set_thoseThatCan s m args below meth c s.heap [] 0 0 Q (F0 m 61 ls [])), ∀ (n_5 : Nat) (x3_5 : Int32) (x4_5 : Int32), Set_thoseThatCan_L5 f I_g x2 I_set V_set V_g k_5 n_5 x3_5 x4_5 = some out → ∀ ls : Array Slot, lv_has ls 5 [(0, .ref o_set), (1, .ref o_g), (2, .int x2), (3, .int x3_5), (4, .int x4_5)] → W p l e rm_Set_thoseThatCan s m args below meth c s.heap [] 0 0 Q (F0 m 5 ls []) := by
    intro k_5 hk_5 n_5
    induction n_5 with
    | zero => intro x3_5 x4_5 hf; rw [Set_thoseThatCan_L5] at hf; cases hf
    | succ n_5 ih_5 =>
      intro x3_5 x4_5 hf ls hl
      rw [Set_thoseThatCan_L5] at hf
      refine lv_iload hx hb dX6_thoseThatCan_5 (lv_at hl 4 rfl) ?_
      refine lv_aload_n hx hb dX6_thoseThatCan_7 rfl (lv_at hl 1 rfl) ?_
      refine va_get (D := D) (ci := 3) (v := .int (I_g 0)) (C := RX3) (T := TX3) (N := 11) hx hb hts in_X3 hown hK hP 3 rfl rfl 0 (by decide) g_28 (fun _ h9 => h9) rfl dX6_thoseThatCan_8 ?_
      refine lv_icmp_ge (tgt := 61) hx hb dX6_thoseThatCan_11 (by decide) (fun c11 => ?_) (fun c11 => ?_)
      · replace hf := ip c11 hf
        exact hk_5 x3_5 hf _ (lv_sub hl [3] rfl)
      · replace hf := im c11 hf
        refine lv_iload_n hx hb dX6_thoseThatCan_14 rfl (lv_at hl 2 rfl) ?_
        refine lv_iload hx hb dX6_thoseThatCan_15 (lv_at hl 4 rfl) ?_
        obtain ⟨zr1, qr1, hf⟩ := bd1 hf
        refine vp_callSi (va_Run.run (va_runSN (As := [.int x2, .int x4_5]) (rest := []) ⟨hx, hb, hml, hown, hts⟩ (c_X_isIn l x2 x4_5 f zr1 qr1) w_isIn_32 ⟨fun a U g mk q => q, fun U hU hW => ⟨rfl, trivial⟩⟩ rfl rfl hl.1 rfl (lv_room (Nat.le_of_ble_eq_true rfl)) dX6_thoseThatCan_17 ⟨Nat.zero_le _, Nat.zero_le _⟩)) (fun r1 er1 => ?_)
        rw [er1]
        obtain ⟨j55, ej55, hf⟩ := nme hf
        have J55 : ∀ (x3_55 : Int32), j55 x3_55 = some out → ∀ ls : Array Slot, lv_has ls 5 [(0, .ref o_set), (1, .ref o_g), (2, .int x2), (3, .int x3_55), (4, .int x4_5)] → W p l e rm_Set_thoseThatCan s m args below meth c s.heap [] 0 0 Q (F0 m 55 ls []) := by
          intro x3_55 hf ls hl
          rw [ej55] at hf
          refine lv_iinc (v := (x4_5 + 1)) (lv' := [(4, .int (x4_5 + 1)), (0, .ref o_set), (1, .ref o_g), (2, .int x2), (3, .int x3_55)]) hx hb dX6_thoseThatCan_55 hl (k := 4) rfl (by rfl) (by decide) rfl (fun ls hl => ?_)
          refine lv_goto (tgt := 5) hx hb dX6_thoseThatCan_58 (by decide) ?_
          exact ih_5 x3_55 (x4_5 + 1) hf _ (lv_sub hl [1, 2, 3, 4, 0] rfl)
        refine lv_if_eq (tgt := 55) hx hb dX6_thoseThatCan_20 (by decide) (fun c20 => ?_) (fun c20 => ?_)
        · replace hf := ip c20 hf
          exact J55 x3_5 hf _ (lv_sub hl [0, 1, 2, 3, 4] rfl)
        · replace hf := im c20 hf
          refine lv_aload_n hx hb dX6_thoseThatCan_23 rfl (lv_at hl 1 rfl) ?_
          refine va_get (D := D) (ci := 3) (v := .ref (h_g 5)) (C := RX3) (T := TX3) (N := 11) hx hb hts in_X3 hown hK hP 3 rfl rfl 5 (by decide) g_50 (fun _ h9 => h9) rfl dX6_thoseThatCan_24 ?_
          refine lv_iload hx hb dX6_thoseThatCan_27 (lv_at hl 4 rfl) ?_
          obtain ⟨c29, hf⟩ := gd hf
          refine va_iald (f := (V_g 5)) hx hb hK hP 4 0 rfl rfl c29 dX6_thoseThatCan_29 ?_
          refine lv_aload_n hx hb dX6_thoseThatCan_30 rfl (lv_at hl 0 rfl) ?_
          refine lv_aload_n hx hb dX6_thoseThatCan_31 rfl (lv_at hl 1 rfl) ?_
          refine lv_iload hx hb dX6_thoseThatCan_32 (lv_at hl 4 rfl) ?_
          refine lv_iload_n hx hb dX6_thoseThatCan_34 rfl (lv_at hl 2 rfl) ?_
          obtain ⟨zr2, qr2, hf⟩ := bd1 hf
          refine vp_callSi (va_Run.run (va_runV (As := [.ref o_g, .int x4_5, .int x2]) (rest := [.int ((V_g 5) x4_5.toNatClampNeg)]) ⟨hx, hb, hml, hown, hts⟩ (c_Set_paidTo l D cs o_set h_set o_g h_g I_set V_set I_g V_g x4_5 x2 f zr2 qr2) w_paidTo_53 ⟨yR_moved, va_recv hK hP (ci := 6) (q0 := 0) rfl rfl, fun U hU hW => ⟨rfl, by rw [hU]; exact hP, va_K.moved hW.alike hK, yN_warm hW hN⟩⟩ rfl rfl hl.1 rfl (lv_room (Nat.le_of_ble_eq_true rfl)) dX6_thoseThatCan_35 ⟨Nat.zero_le _, Nat.zero_le _⟩)) (fun r2 er2 => ?_)
          rw [er2]
          refine lv_iadd hx hb dX6_thoseThatCan_38 ?_
          refine lv_aload_n hx hb dX6_thoseThatCan_39 rfl (lv_at hl 1 rfl) ?_
          refine lv_iload hx hb dX6_thoseThatCan_40 (lv_at hl 4 rfl) ?_
          have hPc := subB (bs := [(w_Set cs o_set h_set I_set V_set), (w_Led cs o_g h_g I_g V_g)]) (ca := [(w_Led cs o_g h_g I_g V_g)]) (ra := [(w_Set cs o_set h_set I_set V_set)]) [1, 0] (by decide) rfl rfl hP
          obtain ⟨zr3, qr3, hf⟩ := bd1 hf
          refine vp_callSi (va_Run.run (va_runV (As := [.int x4_5]) (rest := [.int (((V_g 5) x4_5.toNatClampNeg) + zr2)]) ⟨hx, hb, hml, hown, hts⟩ (c_Led_owedBy l D cs o_g h_g I_g V_g x4_5 f zr3 qr3) w_owedBy_57 ⟨yR_moved, va_recv hK hPc (ci := 3) (q0 := 0) rfl rfl, fun U hU hW => ⟨rfl, by rw [hU]; exact hPc, va_K.moved hW.alike hK, yN_warm hW hN⟩⟩ rfl rfl hl.1 rfl (lv_room (Nat.le_of_ble_eq_true rfl)) dX6_thoseThatCan_42 ⟨Nat.zero_le _, Nat.zero_le _⟩)) (fun r3 er3 => ?_)
          rw [er3]
          refine lv_icmp_lt (tgt := 55) hx hb dX6_thoseThatCan_45 (by decide) (fun c45 => ?_) (fun c45 => ?_)
          · replace hf := ip c45 hf
            exact J55 x3_5 hf _ (lv_sub hl [0, 1, 2, 3, 4] rfl)
          · replace hf := im c45 hf
            refine lv_iload_n hx hb dX6_thoseThatCan_48 rfl (lv_at hl 3 rfl) ?_
            refine lv_iconst (v := 1) hx hb dX6_thoseThatCan_49 (by decide) ?_
            refine lv_iload hx hb dX6_thoseThatCan_50 (lv_at hl 4 rfl) ?_
            refine lv_ishl hx hb dX6_thoseThatCan_52 ?_
            refine lv_ior hx hb dX6_thoseThatCan_53 ?_
            refine lv_topi (fun y4 ey4 => ?_)
            replace hf := nmd hf ey4
            refine lv_istore_n (lv' := [(3, .int y4), (0, .ref o_set), (1, .ref o_g), (2, .int x2), (4, .int x4_5)]) hx hb dX6_thoseThatCan_54 rfl hl (by decide) rfl (fun ls hl => ?_)
            exact J55 y4 hf _ (lv_sub hl [1, 2, 3, 0, 4] rfl)
  refine L5 _ (fun x3_5 hf ls hl => ?_) f 0 0 hf _ (lv_sub hl [2, 3, 4, 1, 0] rfl)
  refine lv_iload_n hx hb dX6_thoseThatCan_61 rfl (lv_at hl 0 rfl) ?_
  exact hret x3_5 62 _ hf dX6_thoseThatCan_62
set_option maxHeartbeats 4000000 in
set_option maxRecDepth 100000 in
theorem c_Set_thoseThatCan (l : Launch) (D : va_G) (cs : Nat → ClassId) (o_set : Nat) (h_set : Nat → Nat) (o_g : Nat) (h_g : Nat → Nat) (I_set : FI) (V_set : FV) (I_g : FI) (V_g : FV) (x2 : Int32) (f : Nat) (out : Int32) (hf : Set_thoseThatCan f x2 I_set V_set I_g V_g = some out) : Met l yX6_thoseThatCan wsX6_thoseThatCan rm_Set_thoseThatCan (va_Pc [.ref o_set, .ref o_g, .int x2] (yR D cs (List.flatten [(w_Set cs o_set h_set I_set V_set), (w_Led cs o_g h_g I_g V_g)]))) (vp_Si (fun r => r = out)) 0 0 (fun _ => False) := by
  refine Met.ofW (cc := cX6_thoseThatCan) (maxL := 5) (ret := (some .int)) (by decide) rfl ?_
  intro p e s m args below meth c s₁ B hml hv
  obtain ⟨ha, hP, hK, hN⟩ := hv
  have hx := B.exec
  have hb := B.bytes
  have hr := B.returns
  have hts := atoms_spec (ws := wsX6_thoseThatCan) B.pre
  have hown : s.vm.findClass RX6 = some m.cls := findClass_of_methodNamed B.named
  have hlocks := B.notSynchronized
  have in_X3 : ∀ w ∈ u_ws RX3 TX3 11, w ∈ wsX6_thoseThatCan := fun w h => List.mem_cons_of_mem _ (List.mem_append_right _ h)
  have g_28 := hts (Cond.fieldLink RX6 28 "DaysLent$Ledger" "people" "I") (by decide +kernel)
  have w_isIn_32 : va_CN rm_Set_thoseThatCan s args RX6 32 yX9_isIn "DaysLent" cX9_isIn 2 (some .boolean) wsX9_isIn rm_X_isIn 0 0 2 ∧ (Cond.static yX9_isIn).before args s = true ∧ True := ⟨va_cnB (R := rm_Set_thoseThatCan) (s := s) (args := args) (rm := rm_X_isIn) (mc := 0) (ms := 0) 2 hts gX6_thoseThatCan_X9_isIn_n32 rfl rfl rfl hN.2.2.2 (hts (.initialized RX9) (by decide +kernel)) (by decide +kernel) ⟨Nat.le_of_ble_eq_true rfl, Nat.le_of_ble_eq_true rfl⟩, hts (.static yX9_isIn) (by decide +kernel), trivial⟩
  have g_50 := hts (Cond.fieldLink RX6 50 "DaysLent$Ledger" "mornings" "[I") (by decide +kernel)
  have w_paidTo_53 := cwV (R := rm_Set_thoseThatCan) (s := s) (args := args) (rm := rm_Set_paidTo) (mc := 0) (ms := 0) 3 hts gX6_thoseThatCan_X6_paidTo rfl rfl rfl (by decide +kernel) ⟨Nat.le_of_ble_eq_true rfl, Nat.le_of_ble_eq_true rfl⟩
  have w_owedBy_57 := cwV (R := rm_Set_thoseThatCan) (s := s) (args := args) (rm := rm_Led_owedBy) (mc := 0) (ms := 0) 1 hts gX6_thoseThatCan_X3_owedBy rfl rfl rfl (by decide +kernel) ⟨Nat.le_of_ble_eq_true rfl, Nat.le_of_ble_eq_true rfl⟩
  have hl := lv_entry ([.ref o_set, .ref o_g, .int x2]) (n := 5) (Nat.le_of_ble_eq_true rfl)
  rw [show entryFrame m args 5 = entryFrame m ([.ref o_set, .ref o_g, .int x2] : List Value).toArray 5 from by rw [ha], lg_entry_eq]
  generalize (lg_sl ([.ref o_set, .ref o_g, .int x2]) ++ List.replicate (5 - (lg_sl ([.ref o_set, .ref o_g, .int x2])).length) Slot.unset).toArray = ls at hl ⊢
  generalize hQ : MQ below (vp_Si (fun r => r = out)) args s 0 0 (fun _ => False) = Q
  have hret : ∀ (v : Int32) (pc : Nat) (ls : Array Slot), some v = some out → decode cX6_thoseThatCan pc = .ok (.ireturn, 1) → W p l e rm_Set_thoseThatCan s m args below meth c s.heap [] 0 0 Q (F0 m pc ls [.int v]) := by
    intro v pc ls hf hd
    rw [← hQ]
    exact W.iret (v := v) hx hb hr (fun t ht hW => ⟨v, rfl, Option.some.inj hf, ht⟩) (fun q h => by cases h) hd
  exact v_Set_thoseThatCan hf hx hb hml hown hts in_X3 g_28 w_isIn_32 g_50 w_paidTo_53 w_owedBy_57 hP hK hN hret ls hl
def Set_fallen_L12 {ρ : Type} (f : Nat) (I_set : FI) (V_set : FV) (I_g : FI) (V_g : FV) (k_12 : Int32 → Option ρ) : Nat → Int32 → Int32 → Option ρ
  | 0, _, _ => none
  | n_12 + 1, x3_12, x4_12 => (if 6 ≤ x4_12 then (k_12 x3_12) else ob1 (Set_thoseThatCan f x3_12 I_set V_set I_g V_g) (fun zr3 => (Set_fallen_L12 f I_set V_set I_g V_g k_12 n_12 zr3 (x4_12 + 1))))
def Set_fallen (f : Nat) (x2 : Int32) (I_set : FI) (V_set : FV) (I_g : FI) (V_g : FV) : Option (Int32) := ob1 (Led_allPeople f I_g V_g) (fun zr1 => nm (zr1 &&& (x2 ^^^ (-1))) (fun y2 => (Set_fallen_L12 f I_set V_set I_g V_g (fun (x3_12 : Int32) => ob1 (Led_allPeople f I_g V_g) (fun zr4 => some (zr4 &&& (x3_12 ^^^ (-1))))) f y2 0)))
abbrev rm_Set_fallen : Room := { frames := 3, cells := 0, slots := 0, locals := 70 }
set_option maxHeartbeats 4000000 in
set_option maxRecDepth 100000 in
theorem v_Set_fallen {l : Launch} {p : Program} {e : Env} {s : State} {m : MethodId} {args : Array Value} {below : List Frame} {meth : Method} {c : Code} {Q : State → Prop} {D : va_G} {cs : Nat → ClassId} {o_set : Nat} {h_set : Nat → Nat} {o_g : Nat} {h_g : Nat → Nat} {I_set : FI} {V_set : FV} {I_g : FI} {V_g : FV} {x2 : Int32} {f : Nat} {out : Int32} (hf : Set_fallen f x2 I_set V_set I_g V_g = some out) (hx : p.tables.exec = Jvm.exec) (hb : c.code = cX6_fallen) (hml : c.maxLocals = 5) (hown : s.vm.findClass RX6 = some m.cls) (hts : ∀ w ∈ wsX6_fallen, w.before args s = true) (in_X3 : ∀ w ∈ u_ws RX3 TX3 11, w ∈ wsX6_fallen) (w_allPeople_18 : CallW rm_Set_fallen s args RX6 RX3 18 yX3_allPeople cX3_allPeople 1 (some .int) wsX3_allPeople rm_Led_allPeople 0 0 0) (w_thoseThatCan_46 : CallW rm_Set_fallen s args RX6 RX6 46 yX6_thoseThatCan cX6_thoseThatCan 5 (some .int) wsX6_thoseThatCan rm_Set_thoseThatCan 0 0 2) (hP : va_P D vwCl (List.flatten [(w_Set cs o_set h_set I_set V_set), (w_Led cs o_g h_g I_g V_g)]) s.heap) (hK : va_K D vwCl (tyA cs) s) (hN : yN s) (hret : ∀ (v : Int32) (pc : Nat) (ls : Array Slot), some v = some out → decode cX6_fallen pc = .ok (.ireturn, 1) → W p l e rm_Set_fallen s m args below meth c s.heap [] 0 0 Q (F0 m pc ls [.int v])) : ∀ ls : Array Slot, lv_has ls 5 [(0, .ref o_set), (1, .ref o_g), (2, .int x2)] → W p l e rm_Set_fallen s m args below meth c s.heap [] 0 0 Q (F0 m 0 ls []) := by
  intro ls hl
  unfold Set_fallen at hf
  refine lv_aload_n hx hb dX6_fallen_0 rfl (lv_at hl 1 rfl) ?_
  have hPc := subB (bs := [(w_Set cs o_set h_set I_set V_set), (w_Led cs o_g h_g I_g V_g)]) (ca := [(w_Led cs o_g h_g I_g V_g)]) (ra := [(w_Set cs o_set h_set I_set V_set)]) [1, 0] (by decide) rfl rfl hP
  obtain ⟨zr1, qr1, hf⟩ := bd1 hf
  refine vp_callSi (va_Run.run (va_runV (As := []) (rest := []) ⟨hx, hb, hml, hown, hts⟩ (c_Led_allPeople l D cs o_g h_g I_g V_g f zr1 qr1) w_allPeople_18 ⟨yR_moved, va_recv hK hPc (ci := 3) (q0 := 0) rfl rfl, fun U hU hW => ⟨rfl, by rw [hU]; exact hPc, va_K.moved hW.alike hK, yN_warm hW hN⟩⟩ rfl rfl hl.1 rfl (lv_room (Nat.le_of_ble_eq_true rfl)) dX6_fallen_1 ⟨Nat.zero_le _, Nat.zero_le _⟩)) (fun r1 er1 => ?_)
  rw [er1]
  refine lv_iload_n hx hb dX6_fallen_4 rfl (lv_at hl 2 rfl) ?_
  refine lv_iconst (v := (-1)) hx hb dX6_fallen_5 (by decide) ?_
  refine lv_ixor hx hb dX6_fallen_6 ?_
  refine lv_iand hx hb dX6_fallen_7 ?_
  refine lv_topi (fun y2 ey2 => ?_)
  replace hf := nmd hf ey2
  refine lv_istore_n (lv' := [(3, .int y2), (0, .ref o_set), (1, .ref o_g), (2, .int x2)]) hx hb dX6_fallen_8 rfl hl (by decide) rfl (fun ls hl => ?_)
  refine lv_iconst (v := 0) hx hb dX6_fallen_9 (by decide) ?_
  refine lv_istore (lv' := [(4, .int 0), (3, .int y2), (0, .ref o_set), (1, .ref o_g), (2, .int x2)]) hx hb dX6_fallen_10 hl (by decide) rfl (fun ls hl => ?_)
  have L12 : ∀ (k_12 : Int32 → Option (Int32)) (hk_12 : ∀ (x3_12 : Int32), k_12 x3_12 = some out → ∀ ls : Array Slot, lv_has ls 5 [(1, .ref o_g), (3, .int x3_12)] → W p l e rm_Set_fallen s m args below meth c s.heap [] 0 0 Q (F0 m 32 ls [])), ∀ (n_12 : Nat) (x3_12 : Int32) (x4_12 : Int32), Set_fallen_L12 f I_set V_set I_g V_g k_12 n_12 x3_12 x4_12 = some out → ∀ ls : Array Slot, lv_has ls 5 [(0, .ref o_set), (1, .ref o_g), (3, .int x3_12), (4, .int x4_12)] → W p l e rm_Set_fallen s m args below meth c s.heap [] 0 0 Q (F0 m 12 ls []) := by
    intro k_12 hk_12 n_12
    induction n_12 with
    | zero => intro x3_12 x4_12 hf; rw [Set_fallen_L12] at hf; cases hf
    | succ n_12 ih_12 =>
      intro x3_12 x4_12 hf ls hl
      rw [Set_fallen_L12] at hf
      refine lv_iload hx hb dX6_fallen_12 (lv_at hl 3 rfl) ?_
      refine lv_bipush (v := 6) hx hb dX6_fallen_14 (by decide) ?_
      refine lv_icmp_ge (tgt := 32) hx hb dX6_fallen_16 (by decide) (fun c16 => ?_) (fun c16 => ?_)
      · replace hf := ip c16 hf
        exact hk_12 x3_12 hf _ (lv_sub hl [1, 2] rfl)
      · replace hf := im c16 hf
        refine lv_aload_n hx hb dX6_fallen_19 rfl (lv_at hl 0 rfl) ?_
        refine lv_aload_n hx hb dX6_fallen_20 rfl (lv_at hl 1 rfl) ?_
        refine lv_iload_n hx hb dX6_fallen_21 rfl (lv_at hl 2 rfl) ?_
        obtain ⟨zr3, qr3, hf⟩ := bd1 hf
        refine vp_callSi (va_Run.run (va_runV (As := [.ref o_g, .int x3_12]) (rest := []) ⟨hx, hb, hml, hown, hts⟩ (c_Set_thoseThatCan l D cs o_set h_set o_g h_g I_set V_set I_g V_g x3_12 f zr3 qr3) w_thoseThatCan_46 ⟨yR_moved, va_recv hK hP (ci := 6) (q0 := 0) rfl rfl, fun U hU hW => ⟨rfl, by rw [hU]; exact hP, va_K.moved hW.alike hK, yN_warm hW hN⟩⟩ rfl rfl hl.1 rfl (lv_room (Nat.le_of_ble_eq_true rfl)) dX6_fallen_22 ⟨Nat.zero_le _, Nat.zero_le _⟩)) (fun r3 er3 => ?_)
        rw [er3]
        refine lv_istore_n (lv' := [(3, .int zr3), (0, .ref o_set), (1, .ref o_g), (4, .int x4_12)]) hx hb dX6_fallen_25 rfl hl (by decide) rfl (fun ls hl => ?_)
        refine lv_iinc (v := (x4_12 + 1)) (lv' := [(4, .int (x4_12 + 1)), (3, .int zr3), (0, .ref o_set), (1, .ref o_g)]) hx hb dX6_fallen_26 hl (k := 3) rfl (by rfl) (by decide) rfl (fun ls hl => ?_)
        refine lv_goto (tgt := 12) hx hb dX6_fallen_29 (by decide) ?_
        exact ih_12 zr3 (x4_12 + 1) hf _ (lv_sub hl [2, 3, 1, 0] rfl)
  refine L12 _ (fun x3_12 hf ls hl => ?_) f y2 0 hf _ (lv_sub hl [2, 3, 1, 0] rfl)
  refine lv_aload_n hx hb dX6_fallen_32 rfl (lv_at hl 0 rfl) ?_
  have hPc := subB (bs := [(w_Set cs o_set h_set I_set V_set), (w_Led cs o_g h_g I_g V_g)]) (ca := [(w_Led cs o_g h_g I_g V_g)]) (ra := [(w_Set cs o_set h_set I_set V_set)]) [1, 0] (by decide) rfl rfl hP
  obtain ⟨zr4, qr4, hf⟩ := bd1 hf
  refine vp_callSi (va_Run.run (va_runV (As := []) (rest := []) ⟨hx, hb, hml, hown, hts⟩ (c_Led_allPeople l D cs o_g h_g I_g V_g f zr4 qr4) w_allPeople_18 ⟨yR_moved, va_recv hK hPc (ci := 3) (q0 := 0) rfl rfl, fun U hU hW => ⟨rfl, by rw [hU]; exact hPc, va_K.moved hW.alike hK, yN_warm hW hN⟩⟩ rfl rfl hl.1 rfl (lv_room (Nat.le_of_ble_eq_true rfl)) dX6_fallen_33 ⟨Nat.zero_le _, Nat.zero_le _⟩)) (fun r4 er4 => ?_)
  rw [er4]
  refine lv_iload_n hx hb dX6_fallen_36 rfl (lv_at hl 1 rfl) ?_
  refine lv_iconst (v := (-1)) hx hb dX6_fallen_37 (by decide) ?_
  refine lv_ixor hx hb dX6_fallen_38 ?_
  refine lv_iand hx hb dX6_fallen_39 ?_
  exact hret (zr4 &&& (x3_12 ^^^ (-1))) 40 _ hf dX6_fallen_40
set_option maxHeartbeats 4000000 in
set_option maxRecDepth 100000 in
theorem c_Set_fallen (l : Launch) (D : va_G) (cs : Nat → ClassId) (o_set : Nat) (h_set : Nat → Nat) (o_g : Nat) (h_g : Nat → Nat) (I_set : FI) (V_set : FV) (I_g : FI) (V_g : FV) (x2 : Int32) (f : Nat) (out : Int32) (hf : Set_fallen f x2 I_set V_set I_g V_g = some out) : Met l yX6_fallen wsX6_fallen rm_Set_fallen (va_Pc [.ref o_set, .ref o_g, .int x2] (yR D cs (List.flatten [(w_Set cs o_set h_set I_set V_set), (w_Led cs o_g h_g I_g V_g)]))) (vp_Si (fun r => r = out)) 0 0 (fun _ => False) := by
  refine Met.ofW (cc := cX6_fallen) (maxL := 5) (ret := (some .int)) (by decide) rfl ?_
  intro p e s m args below meth c s₁ B hml hv
  obtain ⟨ha, hP, hK, hN⟩ := hv
  have hx := B.exec
  have hb := B.bytes
  have hr := B.returns
  have hts := atoms_spec (ws := wsX6_fallen) B.pre
  have hown : s.vm.findClass RX6 = some m.cls := findClass_of_methodNamed B.named
  have hlocks := B.notSynchronized
  have in_X3 : ∀ w ∈ u_ws RX3 TX3 11, w ∈ wsX6_fallen := fun w h => List.mem_cons_of_mem _ (List.mem_append_right _ h)
  have w_allPeople_18 := cwV (R := rm_Set_fallen) (s := s) (args := args) (rm := rm_Led_allPeople) (mc := 0) (ms := 0) 0 hts gX6_fallen_X3_allPeople rfl rfl rfl (by decide +kernel) ⟨Nat.le_of_ble_eq_true rfl, Nat.le_of_ble_eq_true rfl⟩
  have w_thoseThatCan_46 := cwV (R := rm_Set_fallen) (s := s) (args := args) (rm := rm_Set_thoseThatCan) (mc := 0) (ms := 0) 2 hts gX6_fallen_X6_thoseThatCan rfl rfl rfl (by decide +kernel) ⟨Nat.le_of_ble_eq_true rfl, Nat.le_of_ble_eq_true rfl⟩
  have hl := lv_entry ([.ref o_set, .ref o_g, .int x2]) (n := 5) (Nat.le_of_ble_eq_true rfl)
  rw [show entryFrame m args 5 = entryFrame m ([.ref o_set, .ref o_g, .int x2] : List Value).toArray 5 from by rw [ha], lg_entry_eq]
  generalize (lg_sl ([.ref o_set, .ref o_g, .int x2]) ++ List.replicate (5 - (lg_sl ([.ref o_set, .ref o_g, .int x2])).length) Slot.unset).toArray = ls at hl ⊢
  generalize hQ : MQ below (vp_Si (fun r => r = out)) args s 0 0 (fun _ => False) = Q
  have hret : ∀ (v : Int32) (pc : Nat) (ls : Array Slot), some v = some out → decode cX6_fallen pc = .ok (.ireturn, 1) → W p l e rm_Set_fallen s m args below meth c s.heap [] 0 0 Q (F0 m pc ls [.int v]) := by
    intro v pc ls hf hd
    rw [← hQ]
    exact W.iret (v := v) hx hb hr (fun t ht hW => ⟨v, rfl, Option.some.inj hf, ht⟩) (fun q h => by cases h) hd
  exact v_Set_fallen hf hx hb hml hown hts in_X3 w_allPeople_18 w_thoseThatCan_46 hP hK hN hret ls hl
def Rng_measure_L2 {ρ : Type} (f : Nat) (x2 : Int32) (k_2 : FV → Option ρ) : Nat → Int32 → FV → Option ρ
  | 0, _, _ => none
  | n_2 + 1, x3_2, Vrng_2 => (if 6 ≤ x3_2 then (k_2 Vrng_2) else (nm (fun (t2_25 : Int32) => if x3_2 < 0 ∨ 6 ≤ x3_2.toNatClampNeg then none else (nm (va_up Vrng_2 0 (upd (Vrng_2 0) x3_2.toNatClampNeg t2_25)) (fun V1 => (Rng_measure_L2 f x2 k_2 n_2 (x3_2 + 1) V1)))) (fun j25 => (if x3_2 = x2 then (j25 0) else (j25 1000)))))
def Rng_measure_L43 {ρ : Type} (f : Nat) (I_g : FI) (V_g : FV) (k_43 : FV → Option ρ) : Nat → Int32 → FV → Option ρ
  | 0, _, _ => none
  | n_43 + 1, x4_43, Vrng_43 => (if (I_g 1) ≤ x4_43 then (k_43 Vrng_43) else if x4_43 < 0 ∨ 12 ≤ x4_43.toNatClampNeg then none else (nm ((V_g 8) x4_43.toNatClampNeg) (fun y2 => if y2 < 0 ∨ 6 ≤ y2.toNatClampNeg then none else (if x4_43 < 0 ∨ 12 ≤ x4_43.toNatClampNeg then none else (if ((V_g 7) x4_43.toNatClampNeg) < 0 ∨ 6 ≤ ((V_g 7) x4_43.toNatClampNeg).toNatClampNeg then none else (if y2 < 0 ∨ 6 ≤ y2.toNatClampNeg then none else (nm (va_up Vrng_43 0 (upd (Vrng_43 0) y2.toNatClampNeg (if (((Vrng_43 0) ((V_g 7) x4_43.toNatClampNeg).toNatClampNeg) + 1) < ((Vrng_43 0) y2.toNatClampNeg) then (((Vrng_43 0) ((V_g 7) x4_43.toNatClampNeg).toNatClampNeg) + 1) else ((Vrng_43 0) y2.toNatClampNeg)))) (fun V3 => (Rng_measure_L43 f I_g V_g k_43 n_43 (x4_43 + 1) V3)))))))))
def Rng_measure_L34 {ρ : Type} (f : Nat) (I_g : FI) (V_g : FV) (k_34 : FV → Option ρ) : Nat → Int32 → FV → Option ρ
  | 0, _, _ => none
  | n_34 + 1, x3_34, Vrng_34 => (if 6 ≤ x3_34 then (k_34 Vrng_34) else (Rng_measure_L43 f I_g V_g (fun (Vrng_43 : FV) => (Rng_measure_L34 f I_g V_g k_34 n_34 (x3_34 + 1) Vrng_43)) f 0 Vrng_34))
def Rng_measure (f : Nat) (x2 : Int32) (I_rng : FI) (V_rng : FV) (I_g : FI) (V_g : FV) : Option (FV) := (Rng_measure_L2 f x2 (fun (Vrng_2 : FV) => (Rng_measure_L34 f I_g V_g (fun (Vrng_34 : FV) => some Vrng_34) f 1 Vrng_2)) f 0 V_rng)
abbrev rm_Rng_measure : Room := { frames := 1, cells := 0, slots := 0, locals := 21 }
set_option maxHeartbeats 4000000 in
set_option maxRecDepth 100000 in
theorem v_Rng_measure {l : Launch} {p : Program} {e : Env} {s : State} {m : MethodId} {args : Array Value} {below : List Frame} {meth : Method} {c : Code} {Q : State → Prop} {D : va_G} {cs : Nat → ClassId} {o_rng : Nat} {h_rng : Nat → Nat} {o_g : Nat} {h_g : Nat → Nat} {A : Nat → Prop} {I_rng : FI} {V_rng : FV} {I_g : FI} {V_g : FV} {x2 : Int32} {f : Nat} {out : FV} (hf : Rng_measure f x2 I_rng V_rng I_g V_g = some out) (hx : p.tables.exec = Jvm.exec) (hb : c.code = cX5_measure) (hml : c.maxLocals = 6) (hown : s.vm.findClass RX5 = some m.cls) (hts : ∀ w ∈ wsX5_measure, w.before args s = true) (in_X5 : ∀ w ∈ u_ws RX5 TX5 1, w ∈ wsX5_measure) (in_X3 : ∀ w ∈ u_ws RX3 TX3 11, w ∈ wsX5_measure) (g_9 : (Cond.fieldLink RX5 9 "DaysLent$Rings" "steps" "[I").before args s = true) (g_19 : (Cond.fieldLink RX5 19 "DaysLent$Ledger" "debts" "I").before args s = true) (g_25 : (Cond.fieldLink RX5 25 "DaysLent$Ledger" "debtor" "[I").before args s = true) (g_28 : (Cond.fieldLink RX5 28 "DaysLent$Ledger" "creditor" "[I").before args s = true) (ml_31 : (Cond.methodLink RX5 31 Lib.Math.min.name).before args s = true) (ms_31 : (Cond.static Lib.Math.min.name).before args s = true) (mi_31 : (Cond.initialized "java/lang/Math").before args s = true) (mc_31 : (Cond.code Lib.Math.min.name Lib.Math.min.code 2 (some .int)).before args s = true) (hA : ∀ q : Nat, s.heap.size ≤ q → A q) (hP : va_P D vwCl (List.flatten [(w_Rng cs o_rng h_rng I_rng V_rng), (w_Led cs o_g h_g I_g V_g)]) s.heap) (hD : va_D A (List.flatten [(w_Rng cs o_rng h_rng I_rng V_rng), (w_Led cs o_g h_g I_g V_g)])) (hK : va_K D vwCl (tyA cs) s) (hN : yN s) (hret : ∀ (Vrng9 : FV) (H : Heap) (locs : List Loc) (pc : Nat) (ls : Array Slot), some Vrng9 = some out → va_P D vwCl (List.flatten [(w_Rng cs o_rng h_rng I_rng Vrng9), (w_Led cs o_g h_g I_g V_g)]) H → va_D A (List.flatten [(w_Rng cs o_rng h_rng I_rng Vrng9), (w_Led cs o_g h_g I_g V_g)]) → va_S A s.heap H locs → decode cX5_measure pc = .ok (.return_, 1) → W p l e rm_Rng_measure s m args below meth c H locs 0 0 Q (F0 m pc ls [])) : ∀ ls : Array Slot, lv_has ls 6 [(0, .ref o_rng), (1, .ref o_g), (2, .int x2)] → W p l e rm_Rng_measure s m args below meth c s.heap [] 0 0 Q (F0 m 0 ls []) := by
  intro ls hl
  have hS : va_S A s.heap s.heap [] := va_S.rf
  unfold Rng_measure at hf
  refine lv_iconst (v := 0) hx hb dX5_measure_0 (by decide) ?_
  refine lv_istore_n (lv' := [(3, .int 0), (0, .ref o_rng), (1, .ref o_g), (2, .int x2)]) hx hb dX5_measure_1 rfl hl (by decide) rfl (fun ls hl => ?_)
  have L2 : ∀ (k_2 : FV → Option (FV)) (hk_2 : ∀ (Vrng_2 : FV), k_2 Vrng_2 = some out → ∀ (H : Heap) (locs : List Loc), va_P D vwCl (List.flatten [(w_Rng cs o_rng h_rng I_rng Vrng_2), (w_Led cs o_g h_g I_g V_g)]) H → va_D A (List.flatten [(w_Rng cs o_rng h_rng I_rng Vrng_2), (w_Led cs o_g h_g I_g V_g)]) → va_S A s.heap H locs → ∀ ls : Array Slot, lv_has ls 6 [(0, .ref o_rng), (1, .ref o_g)] → W p l e rm_Rng_measure s m args below meth c H locs 0 0 Q (F0 m 32 ls [])), ∀ (n_2 : Nat) (x3_2 : Int32) (Vrng_2 : FV), Rng_measure_L2 f x2 k_2 n_2 x3_2 Vrng_2 = some out → ∀ (H : Heap) (locs : List Loc), va_P D vwCl (List.flatten [(w_Rng cs o_rng h_rng I_rng Vrng_2), (w_Led cs o_g h_g I_g V_g)]) H → va_D A (List.flatten [(w_Rng cs o_rng h_rng I_rng Vrng_2), (w_Led cs o_g h_g I_g V_g)]) → va_S A s.heap H locs → ∀ ls : Array Slot, lv_has ls 6 [(0, .ref o_rng), (1, .ref o_g), (2, .int x2), (3, .int x3_2)] → W p l e rm_Rng_measure s m args below meth c H locs 0 0 Q (F0 m 2 ls []) := by
    intro k_2 hk_2 n_2
    induction n_2 with
    | zero => intro x3_2 Vrng_2 hf; rw [Rng_measure_L2] at hf; cases hf
    | succ n_2 ih_2 =>
      intro x3_2 Vrng_2 hf H locs hP hD hS ls hl
      rw [Rng_measure_L2] at hf
      refine lv_iload_n hx hb dX5_measure_2 rfl (lv_at hl 3 rfl) ?_
      refine lv_bipush (v := 6) hx hb dX5_measure_3 (by decide) ?_
      refine lv_icmp_ge (tgt := 32) hx hb dX5_measure_5 (by decide) (fun c5 => ?_) (fun c5 => ?_)
      · replace hf := ip c5 hf
        exact hk_2 Vrng_2 hf _ _ hP hD hS _ (lv_sub hl [0, 1] rfl)
      · replace hf := im c5 hf
        refine lv_aload_n hx hb dX5_measure_8 rfl (lv_at hl 0 rfl) ?_
        refine va_get (D := D) (ci := 5) (v := .ref (h_rng 0)) (C := RX5) (T := TX5) (N := 1) hx hb hts in_X5 hown hK hP 0 rfl rfl 0 (by decide) g_9 (fun _ h9 => h9) rfl dX5_measure_9 ?_
        refine lv_iload_n hx hb dX5_measure_12 rfl (lv_at hl 3 rfl) ?_
        refine lv_iload_n hx hb dX5_measure_13 rfl (lv_at hl 3 rfl) ?_
        refine lv_iload_n hx hb dX5_measure_14 rfl (lv_at hl 2 rfl) ?_
        obtain ⟨j25, ej25, hf⟩ := nme hf
        have J25 : ∀ (t2_25 : Int32), j25 t2_25 = some out → ∀ (H : Heap) (locs : List Loc), va_P D vwCl (List.flatten [(w_Rng cs o_rng h_rng I_rng Vrng_2), (w_Led cs o_g h_g I_g V_g)]) H → va_D A (List.flatten [(w_Rng cs o_rng h_rng I_rng Vrng_2), (w_Led cs o_g h_g I_g V_g)]) → va_S A s.heap H locs → ∀ ls : Array Slot, lv_has ls 6 [(0, .ref o_rng), (1, .ref o_g), (2, .int x2), (3, .int x3_2)] → W p l e rm_Rng_measure s m args below meth c H locs 0 0 Q (F0 m 25 ls [.int t2_25, .int x3_2, .ref (h_rng 0)]) := by
          intro t2_25 hf H locs hP hD hS ls hl
          rw [ej25] at hf
          obtain ⟨c25, hf⟩ := gd hf
          refine va_iast (f := (Vrng_2 0)) hx hb hK hP hD hS 1 0 rfl rfl c25 dX5_measure_25 (fun H locs hP hD hS => ?_)
          obtain ⟨V1, eV1, hf⟩ := nme hf
          have hP : va_P D vwCl (List.flatten [(w_Rng cs o_rng h_rng I_rng V1), (w_Led cs o_g h_g I_g V_g)]) H := by rw [eV1]; exact hP
          have hD : va_D A (List.flatten [(w_Rng cs o_rng h_rng I_rng V1), (w_Led cs o_g h_g I_g V_g)]) := by rw [eV1]; exact hD
          refine lv_iinc (v := (x3_2 + 1)) (lv' := [(3, .int (x3_2 + 1)), (0, .ref o_rng), (1, .ref o_g), (2, .int x2)]) hx hb dX5_measure_26 hl (k := 3) rfl (by rfl) (by decide) rfl (fun ls hl => ?_)
          refine lv_goto (tgt := 2) hx hb dX5_measure_29 (by decide) ?_
          exact ih_2 (x3_2 + 1) V1 hf _ _ hP hD hS _ (lv_sub hl [1, 2, 3, 0] rfl)
        refine lv_icmp_ne (tgt := 22) hx hb dX5_measure_15 (by decide) (fun c15 => ?_) (fun c15 => ?_)
        · replace hf := im c15 hf
          refine lv_sipush (v := 1000) hx hb dX5_measure_22 (by decide) ?_
          exact J25 1000 hf _ _ hP hD hS _ (lv_sub hl [0, 1, 2, 3] rfl)
        · replace hf := ip c15 hf
          refine lv_iconst (v := 0) hx hb dX5_measure_18 (by decide) ?_
          refine lv_goto (tgt := 25) hx hb dX5_measure_19 (by decide) ?_
          exact J25 0 hf _ _ hP hD hS _ (lv_sub hl [0, 1, 2, 3] rfl)
  refine L2 _ (fun Vrng_2 hf H locs hP hD hS ls hl => ?_) f 0 V_rng hf _ _ hP hD hS _ (lv_sub hl [1, 2, 3, 0] rfl)
  refine lv_iconst (v := 1) hx hb dX5_measure_32 (by decide) ?_
  refine lv_istore_n (lv' := [(3, .int 1), (0, .ref o_rng), (1, .ref o_g)]) hx hb dX5_measure_33 rfl hl (by decide) rfl (fun ls hl => ?_)
  have L34 : ∀ (k_34 : FV → Option (FV)) (hk_34 : ∀ (Vrng_34 : FV), k_34 Vrng_34 = some out → ∀ (H : Heap) (locs : List Loc), va_P D vwCl (List.flatten [(w_Rng cs o_rng h_rng I_rng Vrng_34), (w_Led cs o_g h_g I_g V_g)]) H → va_D A (List.flatten [(w_Rng cs o_rng h_rng I_rng Vrng_34), (w_Led cs o_g h_g I_g V_g)]) → va_S A s.heap H locs → ∀ ls : Array Slot, lv_has ls 6 [] → W p l e rm_Rng_measure s m args below meth c H locs 0 0 Q (F0 m 104 ls [])), ∀ (n_34 : Nat) (x3_34 : Int32) (Vrng_34 : FV), Rng_measure_L34 f I_g V_g k_34 n_34 x3_34 Vrng_34 = some out → ∀ (H : Heap) (locs : List Loc), va_P D vwCl (List.flatten [(w_Rng cs o_rng h_rng I_rng Vrng_34), (w_Led cs o_g h_g I_g V_g)]) H → va_D A (List.flatten [(w_Rng cs o_rng h_rng I_rng Vrng_34), (w_Led cs o_g h_g I_g V_g)]) → va_S A s.heap H locs → ∀ ls : Array Slot, lv_has ls 6 [(0, .ref o_rng), (1, .ref o_g), (3, .int x3_34)] → W p l e rm_Rng_measure s m args below meth c H locs 0 0 Q (F0 m 34 ls []) := by
    intro k_34 hk_34 n_34
    induction n_34 with
    | zero => intro x3_34 Vrng_34 hf; rw [Rng_measure_L34] at hf; cases hf
    | succ n_34 ih_34 =>
      intro x3_34 Vrng_34 hf H locs hP hD hS ls hl
      rw [Rng_measure_L34] at hf
      refine lv_iload_n hx hb dX5_measure_34 rfl (lv_at hl 2 rfl) ?_
      refine lv_bipush (v := 6) hx hb dX5_measure_35 (by decide) ?_
      refine lv_icmp_ge (tgt := 104) hx hb dX5_measure_37 (by decide) (fun c37 => ?_) (fun c37 => ?_)
      · replace hf := ip c37 hf
        exact hk_34 Vrng_34 hf _ _ hP hD hS _ (lv_sub hl [] rfl)
      · replace hf := im c37 hf
        refine lv_iconst (v := 0) hx hb dX5_measure_40 (by decide) ?_
        refine lv_istore (lv' := [(4, .int 0), (0, .ref o_rng), (1, .ref o_g), (3, .int x3_34)]) hx hb dX5_measure_41 hl (by decide) rfl (fun ls hl => ?_)
        have L43 : ∀ (k_43 : FV → Option (FV)) (hk_43 : ∀ (Vrng_43 : FV), k_43 Vrng_43 = some out → ∀ (H : Heap) (locs : List Loc), va_P D vwCl (List.flatten [(w_Rng cs o_rng h_rng I_rng Vrng_43), (w_Led cs o_g h_g I_g V_g)]) H → va_D A (List.flatten [(w_Rng cs o_rng h_rng I_rng Vrng_43), (w_Led cs o_g h_g I_g V_g)]) → va_S A s.heap H locs → ∀ ls : Array Slot, lv_has ls 6 [(0, .ref o_rng), (1, .ref o_g), (3, .int x3_34)] → W p l e rm_Rng_measure s m args below meth c H locs 0 0 Q (F0 m 98 ls [])), ∀ (n_43 : Nat) (x4_43 : Int32) (Vrng_43 : FV), Rng_measure_L43 f I_g V_g k_43 n_43 x4_43 Vrng_43 = some out → ∀ (H : Heap) (locs : List Loc), va_P D vwCl (List.flatten [(w_Rng cs o_rng h_rng I_rng Vrng_43), (w_Led cs o_g h_g I_g V_g)]) H → va_D A (List.flatten [(w_Rng cs o_rng h_rng I_rng Vrng_43), (w_Led cs o_g h_g I_g V_g)]) → va_S A s.heap H locs → ∀ ls : Array Slot, lv_has ls 6 [(0, .ref o_rng), (1, .ref o_g), (3, .int x3_34), (4, .int x4_43)] → W p l e rm_Rng_measure s m args below meth c H locs 0 0 Q (F0 m 43 ls []) := by
          intro k_43 hk_43 n_43
          induction n_43 with
          | zero => intro x4_43 Vrng_43 hf; rw [Rng_measure_L43] at hf; cases hf
          | succ n_43 ih_43 =>
            intro x4_43 Vrng_43 hf H locs hP hD hS ls hl
            rw [Rng_measure_L43] at hf
            refine lv_iload hx hb dX5_measure_43 (lv_at hl 3 rfl) ?_
            refine lv_aload_n hx hb dX5_measure_45 rfl (lv_at hl 1 rfl) ?_
            refine va_get (D := D) (ci := 3) (v := .int (I_g 1)) (C := RX3) (T := TX3) (N := 11) hx hb hts in_X3 hown hK hP 2 rfl rfl 1 (by decide) g_19 (fun _ h9 => h9) rfl dX5_measure_46 ?_
            refine lv_icmp_ge (tgt := 98) hx hb dX5_measure_49 (by decide) (fun c49 => ?_) (fun c49 => ?_)
            · replace hf := ip c49 hf
              exact hk_43 Vrng_43 hf _ _ hP hD hS _ (lv_sub hl [0, 1, 2] rfl)
            · replace hf := im c49 hf
              refine lv_aload_n hx hb dX5_measure_52 rfl (lv_at hl 1 rfl) ?_
              refine va_get (D := D) (ci := 3) (v := .ref (h_g 8)) (C := RX3) (T := TX3) (N := 11) hx hb hts in_X3 hown hK hP 2 rfl rfl 8 (by decide) g_25 (fun _ h9 => h9) rfl dX5_measure_53 ?_
              refine lv_iload hx hb dX5_measure_56 (lv_at hl 3 rfl) ?_
              obtain ⟨c58, hf⟩ := gd hf
              refine va_iald (f := (V_g 8)) hx hb hK hP 6 0 rfl rfl c58 dX5_measure_58 ?_
              refine lv_topi (fun y2 ey2 => ?_)
              replace hf := nmd hf ey2
              refine lv_istore (lv' := [(5, .int y2), (0, .ref o_rng), (1, .ref o_g), (3, .int x3_34), (4, .int x4_43)]) hx hb dX5_measure_59 hl (by decide) rfl (fun ls hl => ?_)
              refine lv_aload_n hx hb dX5_measure_61 rfl (lv_at hl 1 rfl) ?_
              refine va_get (D := D) (ci := 5) (v := .ref (h_rng 0)) (C := RX5) (T := TX5) (N := 1) hx hb hts in_X5 hown hK hP 0 rfl rfl 0 (by decide) g_9 (fun _ h9 => h9) rfl dX5_measure_62 ?_
              refine lv_iload hx hb dX5_measure_65 (lv_at hl 0 rfl) ?_
              refine lv_aload_n hx hb dX5_measure_67 rfl (lv_at hl 1 rfl) ?_
              refine va_get (D := D) (ci := 5) (v := .ref (h_rng 0)) (C := RX5) (T := TX5) (N := 1) hx hb hts in_X5 hown hK hP 0 rfl rfl 0 (by decide) g_9 (fun _ h9 => h9) rfl dX5_measure_68 ?_
              refine lv_iload hx hb dX5_measure_71 (lv_at hl 0 rfl) ?_
              obtain ⟨c73, hf⟩ := gd hf
              refine va_iald (f := (Vrng_43 0)) hx hb hK hP 1 0 rfl rfl c73 dX5_measure_73 ?_
              refine lv_aload_n hx hb dX5_measure_74 rfl (lv_at hl 1 rfl) ?_
              refine va_get (D := D) (ci := 5) (v := .ref (h_rng 0)) (C := RX5) (T := TX5) (N := 1) hx hb hts in_X5 hown hK hP 0 rfl rfl 0 (by decide) g_9 (fun _ h9 => h9) rfl dX5_measure_75 ?_
              refine lv_aload_n hx hb dX5_measure_78 rfl (lv_at hl 2 rfl) ?_
              refine va_get (D := D) (ci := 3) (v := .ref (h_g 7)) (C := RX3) (T := TX3) (N := 11) hx hb hts in_X3 hown hK hP 2 rfl rfl 7 (by decide) g_28 (fun _ h9 => h9) rfl dX5_measure_79 ?_
              refine lv_iload hx hb dX5_measure_82 (lv_at hl 4 rfl) ?_
              obtain ⟨c84, hf⟩ := gd hf
              refine va_iald (f := (V_g 7)) hx hb hK hP 5 0 rfl rfl c84 dX5_measure_84 ?_
              obtain ⟨c85, hf⟩ := gd hf
              refine va_iald (f := (Vrng_43 0)) hx hb hK hP 1 0 rfl rfl c85 dX5_measure_85 ?_
              refine lv_iconst (v := 1) hx hb dX5_measure_86 (by decide) ?_
              refine lv_iadd hx hb dX5_measure_87 ?_
              refine va_mmin (x := ((Vrng_43 0) y2.toNatClampNeg)) (y := (((Vrng_43 0) ((V_g 7) x4_43.toNatClampNeg).toNatClampNeg) + 1)) hx hb (hml.trans hl.1.symm) hown ml_31 ms_31 mi_31 mc_31 (Nat.le_of_ble_eq_true rfl) (Nat.le_of_ble_eq_true rfl) (Nat.zero_le _) (Nat.zero_le _) dX5_measure_88 ?_
              obtain ⟨c91, hf⟩ := gd hf
              refine va_iast (f := (Vrng_43 0)) hx hb hK hP hD hS 1 0 rfl rfl c91 dX5_measure_91 (fun H locs hP hD hS => ?_)
              obtain ⟨V3, eV3, hf⟩ := nme hf
              have hP : va_P D vwCl (List.flatten [(w_Rng cs o_rng h_rng I_rng V3), (w_Led cs o_g h_g I_g V_g)]) H := by rw [eV3]; exact hP
              have hD : va_D A (List.flatten [(w_Rng cs o_rng h_rng I_rng V3), (w_Led cs o_g h_g I_g V_g)]) := by rw [eV3]; exact hD
              refine lv_iinc (v := (x4_43 + 1)) (lv' := [(4, .int (x4_43 + 1)), (5, .int y2), (0, .ref o_rng), (1, .ref o_g), (3, .int x3_34)]) hx hb dX5_measure_92 hl (k := 4) rfl (by rfl) (by decide) rfl (fun ls hl => ?_)
              refine lv_goto (tgt := 43) hx hb dX5_measure_95 (by decide) ?_
              exact ih_43 (x4_43 + 1) V3 hf _ _ hP hD hS _ (lv_sub hl [2, 3, 4, 0] rfl)
        refine L43 _ (fun Vrng_43 hf H locs hP hD hS ls hl => ?_) f 0 Vrng_34 hf _ _ hP hD hS _ (lv_sub hl [1, 2, 3, 0] rfl)
        refine lv_iinc (v := (x3_34 + 1)) (lv' := [(3, .int (x3_34 + 1)), (0, .ref o_rng), (1, .ref o_g)]) hx hb dX5_measure_98 hl (k := 2) rfl (by rfl) (by decide) rfl (fun ls hl => ?_)
        refine lv_goto (tgt := 34) hx hb dX5_measure_101 (by decide) ?_
        exact ih_34 (x3_34 + 1) Vrng_43 hf _ _ hP hD hS _ (lv_sub hl [1, 2, 0] rfl)
  refine L34 _ (fun Vrng_34 hf H locs hP hD hS ls hl => ?_) f 1 Vrng_2 hf _ _ hP hD hS _ (lv_sub hl [1, 2, 0] rfl)
  exact hret Vrng_34 _ _ 104 _ hf hP hD hS dX5_measure_104
set_option maxHeartbeats 4000000 in
set_option maxRecDepth 100000 in
theorem c_Rng_measure (l : Launch) (D : va_G) (cs : Nat → ClassId) (o_rng : Nat) (h_rng : Nat → Nat) (o_g : Nat) (h_g : Nat → Nat) (sz : Nat) (I_rng : FI) (V_rng : FV) (I_g : FI) (V_g : FV) (x2 : Int32) (f : Nat) (out : FV) (hf : Rng_measure f x2 I_rng V_rng I_g V_g = some out) : Met l yX5_measure wsX5_measure rm_Rng_measure (va_Pc [.ref o_rng, .ref o_g, .int x2] (yP D cs (List.flatten [(w_Rng cs o_rng h_rng I_rng V_rng), (w_Led cs o_g h_g I_g V_g)]) sz)) (va_Qv (fun u => u = out) (fun (u : FV) t => xA D cs (va_A (List.flatten [(w_Rng cs o_rng h_rng I_rng V_rng), (w_Led cs o_g h_g I_g V_g)]) sz) (List.flatten [(w_Rng cs o_rng h_rng I_rng u), (w_Led cs o_g h_g I_g V_g)]) t) (va_A (List.flatten [(w_Rng cs o_rng h_rng I_rng V_rng), (w_Led cs o_g h_g I_g V_g)]) sz)) 0 0 (va_A (List.flatten [(w_Rng cs o_rng h_rng I_rng V_rng), (w_Led cs o_g h_g I_g V_g)]) sz) := by
  refine Met.ofW (cc := cX5_measure) (maxL := 6) (ret := none) (by decide) rfl ?_
  intro p e s m args below meth c s₁ B hml hv
  obtain ⟨ha, hsz, hP, hK, hN, hD0⟩ := hv
  have hx := B.exec
  have hb := B.bytes
  have hr := B.returns
  have hts := atoms_spec (ws := wsX5_measure) B.pre
  have hown : s.vm.findClass RX5 = some m.cls := findClass_of_methodNamed B.named
  have hlocks := B.notSynchronized
  have in_X5 : ∀ w ∈ u_ws RX5 TX5 1, w ∈ wsX5_measure := fun w h => List.mem_cons_of_mem _ (List.mem_append_left _ (List.mem_append_right _ h))
  have in_X3 : ∀ w ∈ u_ws RX3 TX3 11, w ∈ wsX5_measure := fun w h => List.mem_cons_of_mem _ (List.mem_append_right _ h)
  have g_9 := hts (Cond.fieldLink RX5 9 "DaysLent$Rings" "steps" "[I") (by decide +kernel)
  have g_19 := hts (Cond.fieldLink RX5 19 "DaysLent$Ledger" "debts" "I") (by decide +kernel)
  have g_25 := hts (Cond.fieldLink RX5 25 "DaysLent$Ledger" "debtor" "[I") (by decide +kernel)
  have g_28 := hts (Cond.fieldLink RX5 28 "DaysLent$Ledger" "creditor" "[I") (by decide +kernel)
  have ml_31 := hts (Cond.methodLink RX5 31 Lib.Math.min.name) (by decide +kernel)
  have ms_31 := hts (Cond.static Lib.Math.min.name) (by decide +kernel)
  have mi_31 := hts (Cond.initialized "java/lang/Math") (by decide +kernel)
  have mc_31 := hts (Cond.code Lib.Math.min.name Lib.Math.min.code 2 (some .int)) (by decide +kernel)
  subst hsz
  have hD := hD0.self (sz := s.heap.size)
  generalize hAe : va_A (List.flatten [(w_Rng cs o_rng h_rng I_rng V_rng), (w_Led cs o_g h_g I_g V_g)]) s.heap.size = A at hD ⊢
  have hA : ∀ q : Nat, s.heap.size ≤ q → A q := fun q h => by rw [← hAe]; exact Or.inr h
  have hl := lv_entry ([.ref o_rng, .ref o_g, .int x2]) (n := 6) (Nat.le_of_ble_eq_true rfl)
  rw [show entryFrame m args 6 = entryFrame m ([.ref o_rng, .ref o_g, .int x2] : List Value).toArray 6 from by rw [ha], lg_entry_eq]
  generalize (lg_sl ([.ref o_rng, .ref o_g, .int x2]) ++ List.replicate (6 - (lg_sl ([.ref o_rng, .ref o_g, .int x2])).length) Slot.unset).toArray = ls at hl ⊢
  generalize hQ : MQ below (va_Qv (fun u => u = out) (fun (u : FV) t => xA D cs A (List.flatten [(w_Rng cs o_rng h_rng I_rng u), (w_Led cs o_g h_g I_g V_g)]) t) A) args s 0 0 A = Q
  have hret : ∀ (Vrng9 : FV) (H : Heap) (locs : List Loc) (pc : Nat) (ls : Array Slot), some Vrng9 = some out → va_P D vwCl (List.flatten [(w_Rng cs o_rng h_rng I_rng Vrng9), (w_Led cs o_g h_g I_g V_g)]) H → va_D A (List.flatten [(w_Rng cs o_rng h_rng I_rng Vrng9), (w_Led cs o_g h_g I_g V_g)]) → va_S A s.heap H locs → decode cX5_measure pc = .ok (.return_, 1) → W p l e rm_Rng_measure s m args below meth c H locs 0 0 Q (F0 m pc ls []) := by
    intro Vrng9 H locs pc ls hf hP hD hS hd
    rw [← hQ]
    exact W.vret hx hb hr (fun t ht hW => ⟨⟨Vrng9, rfl, Option.some.inj hf, by show va_P D vwCl (List.flatten [(w_Rng cs o_rng h_rng I_rng Vrng9), (w_Led cs o_g h_g I_g V_g)]) t.heap; rw [ht]; exact hP, va_K.moved hW.alike hK, hD⟩, hS.F ht⟩) hS.2.2 hd
  exact v_Rng_measure hf hx hb hml hown hts in_X5 in_X3 g_9 g_19 g_25 g_28 ml_31 ms_31 mi_31 mc_31 hA hP hD hK hN hret ls hl
def Rng_fewestDebts_L13 {ρ : Type} (f : Nat) (I_g : FI) (V_g : FV) (x2 : Int32) (V2 : FV) (k_13 : Int32 → Option ρ) : Nat → Int32 → Int32 → Option ρ
  | 0, _, _ => none
  | n_13 + 1, x3_13, x4_13 => (if (I_g 1) ≤ x4_13 then (k_13 x3_13) else if x4_13 < 0 ∨ 12 ≤ x4_13.toNatClampNeg then none else ((nm (fun (x3_52 : Int32) => (Rng_fewestDebts_L13 f I_g V_g x2 V2 k_13 n_13 x3_52 (x4_13 + 1))) (fun j52 => (if ((V_g 8) x4_13.toNatClampNeg) = x2 then if x4_13 < 0 ∨ 12 ≤ x4_13.toNatClampNeg then none else (if ((V_g 7) x4_13.toNatClampNeg) < 0 ∨ 6 ≤ ((V_g 7) x4_13.toNatClampNeg).toNatClampNeg then none else (nm (if (((V2 0) ((V_g 7) x4_13.toNatClampNeg).toNatClampNeg) + 1) < x3_13 then (((V2 0) ((V_g 7) x4_13.toNatClampNeg).toNatClampNeg) + 1) else x3_13) (fun y3 => (j52 y3)))) else (j52 x3_13))))))
def Rng_fewestDebts (f : Nat) (x2 : Int32) (I_rng : FI) (V_rng : FV) (I_g : FI) (V_g : FV) : Option (Int32 × FV) := ob1 (Rng_measure f x2 I_rng V_rng I_g V_g) (fun V2 => (Rng_fewestDebts_L13 f I_g V_g x2 V2 (fun (x3_13 : Int32) => (if 1000 ≤ x3_13 then some ((-9), V2) else some (x3_13, V2))) f 1000 0))
abbrev rm_Rng_fewestDebts : Room := { frames := 2, cells := 0, slots := 0, locals := 46 }
set_option maxHeartbeats 4000000 in
set_option maxRecDepth 100000 in
theorem v_Rng_fewestDebts {l : Launch} {p : Program} {e : Env} {s : State} {m : MethodId} {args : Array Value} {below : List Frame} {meth : Method} {c : Code} {Q : State → Prop} {D : va_G} {cs : Nat → ClassId} {o_rng : Nat} {h_rng : Nat → Nat} {o_g : Nat} {h_g : Nat → Nat} {A : Nat → Prop} {I_rng : FI} {V_rng : FV} {I_g : FI} {V_g : FV} {x2 : Int32} {f : Nat} {out : Int32 × FV} (hf : Rng_fewestDebts f x2 I_rng V_rng I_g V_g = some out) (hx : p.tables.exec = Jvm.exec) (hb : c.code = cX5_fewestDebts) (hml : c.maxLocals = 5) (hown : s.vm.findClass RX5 = some m.cls) (hts : ∀ w ∈ wsX5_fewestDebts, w.before args s = true) (in_X5 : ∀ w ∈ u_ws RX5 TX5 1, w ∈ wsX5_fewestDebts) (in_X3 : ∀ w ∈ u_ws RX3 TX3 11, w ∈ wsX5_fewestDebts) (w_measure_15 : CallW rm_Rng_fewestDebts s args RX5 RX5 15 yX5_measure cX5_measure 6 none wsX5_measure rm_Rng_measure 0 0 2) (g_19 : (Cond.fieldLink RX5 19 "DaysLent$Ledger" "debts" "I").before args s = true) (g_25 : (Cond.fieldLink RX5 25 "DaysLent$Ledger" "debtor" "[I").before args s = true) (g_9 : (Cond.fieldLink RX5 9 "DaysLent$Rings" "steps" "[I").before args s = true) (g_28 : (Cond.fieldLink RX5 28 "DaysLent$Ledger" "creditor" "[I").before args s = true) (ml_31 : (Cond.methodLink RX5 31 Lib.Math.min.name).before args s = true) (ms_31 : (Cond.static Lib.Math.min.name).before args s = true) (mi_31 : (Cond.initialized "java/lang/Math").before args s = true) (mc_31 : (Cond.code Lib.Math.min.name Lib.Math.min.code 2 (some .int)).before args s = true) (hA : ∀ q : Nat, s.heap.size ≤ q → A q) (hP : va_P D vwCl (List.flatten [(w_Rng cs o_rng h_rng I_rng V_rng), (w_Led cs o_g h_g I_g V_g)]) s.heap) (hD : va_D A (List.flatten [(w_Rng cs o_rng h_rng I_rng V_rng), (w_Led cs o_g h_g I_g V_g)])) (hK : va_K D vwCl (tyA cs) s) (hN : yN s) (hret : ∀ (v : Int32) (Vrng9 : FV) (H : Heap) (locs : List Loc) (pc : Nat) (ls : Array Slot), some (v, Vrng9) = some out → va_P D vwCl (List.flatten [(w_Rng cs o_rng h_rng I_rng Vrng9), (w_Led cs o_g h_g I_g V_g)]) H → va_D A (List.flatten [(w_Rng cs o_rng h_rng I_rng Vrng9), (w_Led cs o_g h_g I_g V_g)]) → va_S A s.heap H locs → decode cX5_fewestDebts pc = .ok (.ireturn, 1) → W p l e rm_Rng_fewestDebts s m args below meth c H locs 0 0 Q (F0 m pc ls [.int v])) : ∀ ls : Array Slot, lv_has ls 5 [(0, .ref o_rng), (1, .ref o_g), (2, .int x2)] → W p l e rm_Rng_fewestDebts s m args below meth c s.heap [] 0 0 Q (F0 m 0 ls []) := by
  intro ls hl
  have hS : va_S A s.heap s.heap [] := va_S.rf
  unfold Rng_fewestDebts at hf
  refine lv_aload_n hx hb dX5_fewestDebts_0 rfl (lv_at hl 0 rfl) ?_
  refine lv_aload_n hx hb dX5_fewestDebts_1 rfl (lv_at hl 1 rfl) ?_
  refine lv_iload_n hx hb dX5_fewestDebts_2 rfl (lv_at hl 2 rfl) ?_
  obtain ⟨V2, qr1, hf⟩ := bd1 hf
  have hFc := xfree hD hS hA
  refine va_callv (va_runV (As := [.ref o_g, .int x2]) (rest := []) ⟨hx, hb, hml, hown, hts⟩ (c_Rng_measure l D cs o_rng h_rng o_g h_g _ I_rng V_rng I_g V_g x2 f _ qr1) w_measure_15 ⟨yP_moved, va_recv hK hP (ci := 5) (q0 := 0) rfl rfl, fun U hU hW => ⟨rfl, by rw [hU], by rw [hU]; exact hP, va_K.moved hW.alike hK, yN_warm hW hN, hD.weaken (fun _ _ _ _ => trivial)⟩⟩ rfl rfl hl.1 rfl (lv_room (Nat.le_of_ble_eq_true rfl)) dX5_fewestDebts_3 ⟨Nat.zero_le _, Nat.zero_le _⟩) hS (fun q _ h9 => hFc q h9) hFc (fun u t H1 locs ht hvm hw hB hz1 hk1 hS => ?_)
  rw [hw] at hB
  obtain ⟨hP1, hK1, hD1⟩ := hB
  have hP : va_P D vwCl (List.flatten [(w_Rng cs o_rng h_rng I_rng V2), (w_Led cs o_g h_g I_g V_g)]) H1 := by rw [← ht]; exact hP1
  have hD : va_D A (List.flatten [(w_Rng cs o_rng h_rng I_rng V2), (w_Led cs o_g h_g I_g V_g)]) := hD1.weaken (fun _ q _ h9 => hFc q.1 h9)
  refine lv_sipush (v := 1000) hx hb dX5_fewestDebts_6 (by decide) ?_
  refine lv_istore_n (lv' := [(3, .int 1000), (0, .ref o_rng), (1, .ref o_g), (2, .int x2)]) hx hb dX5_fewestDebts_9 rfl hl (by decide) rfl (fun ls hl => ?_)
  refine lv_iconst (v := 0) hx hb dX5_fewestDebts_10 (by decide) ?_
  refine lv_istore (lv' := [(4, .int 0), (3, .int 1000), (0, .ref o_rng), (1, .ref o_g), (2, .int x2)]) hx hb dX5_fewestDebts_11 hl (by decide) rfl (fun ls hl => ?_)
  have L13 : ∀ (k_13 : Int32 → Option (Int32 × FV)) (hk_13 : ∀ (x3_13 : Int32), k_13 x3_13 = some out → ∀ (H : Heap) (locs : List Loc), va_P D vwCl (List.flatten [(w_Rng cs o_rng h_rng I_rng V2), (w_Led cs o_g h_g I_g V_g)]) H → va_D A (List.flatten [(w_Rng cs o_rng h_rng I_rng V2), (w_Led cs o_g h_g I_g V_g)]) → va_S A s.heap H locs → ∀ ls : Array Slot, lv_has ls 5 [(3, .int x3_13)] → W p l e rm_Rng_fewestDebts s m args below meth c H locs 0 0 Q (F0 m 58 ls [])), ∀ (n_13 : Nat) (x3_13 : Int32) (x4_13 : Int32), Rng_fewestDebts_L13 f I_g V_g x2 V2 k_13 n_13 x3_13 x4_13 = some out → ∀ (H : Heap) (locs : List Loc), va_P D vwCl (List.flatten [(w_Rng cs o_rng h_rng I_rng V2), (w_Led cs o_g h_g I_g V_g)]) H → va_D A (List.flatten [(w_Rng cs o_rng h_rng I_rng V2), (w_Led cs o_g h_g I_g V_g)]) → va_S A s.heap H locs → ∀ ls : Array Slot, lv_has ls 5 [(0, .ref o_rng), (1, .ref o_g), (2, .int x2), (3, .int x3_13), (4, .int x4_13)] → W p l e rm_Rng_fewestDebts s m args below meth c H locs 0 0 Q (F0 m 13 ls []) := by
    intro k_13 hk_13 n_13
    induction n_13 with
    | zero => intro x3_13 x4_13 hf; rw [Rng_fewestDebts_L13] at hf; cases hf
    | succ n_13 ih_13 =>
      intro x3_13 x4_13 hf H locs hP hD hS ls hl
      rw [Rng_fewestDebts_L13] at hf
      refine lv_iload hx hb dX5_fewestDebts_13 (lv_at hl 4 rfl) ?_
      refine lv_aload_n hx hb dX5_fewestDebts_15 rfl (lv_at hl 1 rfl) ?_
      refine va_get (D := D) (ci := 3) (v := .int (I_g 1)) (C := RX3) (T := TX3) (N := 11) hx hb hts in_X3 hown hK hP 2 rfl rfl 1 (by decide) g_19 (fun _ h9 => h9) rfl dX5_fewestDebts_16 ?_
      refine lv_icmp_ge (tgt := 58) hx hb dX5_fewestDebts_19 (by decide) (fun c19 => ?_) (fun c19 => ?_)
      · replace hf := ip c19 hf
        exact hk_13 x3_13 hf _ _ hP hD hS _ (lv_sub hl [3] rfl)
      · replace hf := im c19 hf
        refine lv_aload_n hx hb dX5_fewestDebts_22 rfl (lv_at hl 1 rfl) ?_
        refine va_get (D := D) (ci := 3) (v := .ref (h_g 8)) (C := RX3) (T := TX3) (N := 11) hx hb hts in_X3 hown hK hP 2 rfl rfl 8 (by decide) g_25 (fun _ h9 => h9) rfl dX5_fewestDebts_23 ?_
        refine lv_iload hx hb dX5_fewestDebts_26 (lv_at hl 4 rfl) ?_
        obtain ⟨c28, hf⟩ := gd hf
        refine va_iald (f := (V_g 8)) hx hb hK hP 6 0 rfl rfl c28 dX5_fewestDebts_28 ?_
        refine lv_iload_n hx hb dX5_fewestDebts_29 rfl (lv_at hl 2 rfl) ?_
        obtain ⟨j52, ej52, hf⟩ := nme hf
        have J52 : ∀ (x3_52 : Int32), j52 x3_52 = some out → ∀ (H : Heap) (locs : List Loc), va_P D vwCl (List.flatten [(w_Rng cs o_rng h_rng I_rng V2), (w_Led cs o_g h_g I_g V_g)]) H → va_D A (List.flatten [(w_Rng cs o_rng h_rng I_rng V2), (w_Led cs o_g h_g I_g V_g)]) → va_S A s.heap H locs → ∀ ls : Array Slot, lv_has ls 5 [(0, .ref o_rng), (1, .ref o_g), (2, .int x2), (3, .int x3_52), (4, .int x4_13)] → W p l e rm_Rng_fewestDebts s m args below meth c H locs 0 0 Q (F0 m 52 ls []) := by
          intro x3_52 hf H locs hP hD hS ls hl
          rw [ej52] at hf
          refine lv_iinc (v := (x4_13 + 1)) (lv' := [(4, .int (x4_13 + 1)), (0, .ref o_rng), (1, .ref o_g), (2, .int x2), (3, .int x3_52)]) hx hb dX5_fewestDebts_52 hl (k := 4) rfl (by rfl) (by decide) rfl (fun ls hl => ?_)
          refine lv_goto (tgt := 13) hx hb dX5_fewestDebts_55 (by decide) ?_
          exact ih_13 x3_52 (x4_13 + 1) hf _ _ hP hD hS _ (lv_sub hl [1, 2, 3, 4, 0] rfl)
        refine lv_icmp_ne (tgt := 52) hx hb dX5_fewestDebts_30 (by decide) (fun c30 => ?_) (fun c30 => ?_)
        · replace hf := im c30 hf
          exact J52 x3_13 hf _ _ hP hD hS _ (lv_sub hl [0, 1, 2, 3, 4] rfl)
        · replace hf := ip c30 hf
          refine lv_iload_n hx hb dX5_fewestDebts_33 rfl (lv_at hl 3 rfl) ?_
          refine lv_aload_n hx hb dX5_fewestDebts_34 rfl (lv_at hl 0 rfl) ?_
          refine va_get (D := D) (ci := 5) (v := .ref (h_rng 0)) (C := RX5) (T := TX5) (N := 1) hx hb hts in_X5 hown hK hP 0 rfl rfl 0 (by decide) g_9 (fun _ h9 => h9) rfl dX5_fewestDebts_35 ?_
          refine lv_aload_n hx hb dX5_fewestDebts_38 rfl (lv_at hl 1 rfl) ?_
          refine va_get (D := D) (ci := 3) (v := .ref (h_g 7)) (C := RX3) (T := TX3) (N := 11) hx hb hts in_X3 hown hK hP 2 rfl rfl 7 (by decide) g_28 (fun _ h9 => h9) rfl dX5_fewestDebts_39 ?_
          refine lv_iload hx hb dX5_fewestDebts_42 (lv_at hl 4 rfl) ?_
          obtain ⟨c44, hf⟩ := gd hf
          refine va_iald (f := (V_g 7)) hx hb hK hP 5 0 rfl rfl c44 dX5_fewestDebts_44 ?_
          obtain ⟨c45, hf⟩ := gd hf
          refine va_iald (f := (V2 0)) hx hb hK hP 1 0 rfl rfl c45 dX5_fewestDebts_45 ?_
          refine lv_iconst (v := 1) hx hb dX5_fewestDebts_46 (by decide) ?_
          refine lv_iadd hx hb dX5_fewestDebts_47 ?_
          refine va_mmin (x := x3_13) (y := (((V2 0) ((V_g 7) x4_13.toNatClampNeg).toNatClampNeg) + 1)) hx hb (hml.trans hl.1.symm) hown ml_31 ms_31 mi_31 mc_31 (Nat.le_of_ble_eq_true rfl) (Nat.le_of_ble_eq_true rfl) (Nat.zero_le _) (Nat.zero_le _) dX5_fewestDebts_48 ?_
          refine lv_topi (fun y3 ey3 => ?_)
          replace hf := nmd hf ey3
          refine lv_istore_n (lv' := [(3, .int y3), (0, .ref o_rng), (1, .ref o_g), (2, .int x2), (4, .int x4_13)]) hx hb dX5_fewestDebts_51 rfl hl (by decide) rfl (fun ls hl => ?_)
          exact J52 y3 hf _ _ hP hD hS _ (lv_sub hl [1, 2, 3, 0, 4] rfl)
  refine L13 _ (fun x3_13 hf H locs hP hD hS ls hl => ?_) f 1000 0 hf _ _ hP hD hS _ (lv_sub hl [2, 3, 4, 1, 0] rfl)
  refine lv_iload_n hx hb dX5_fewestDebts_58 rfl (lv_at hl 0 rfl) ?_
  refine lv_sipush (v := 1000) hx hb dX5_fewestDebts_59 (by decide) ?_
  refine lv_icmp_ge (tgt := 69) hx hb dX5_fewestDebts_62 (by decide) (fun c62 => ?_) (fun c62 => ?_)
  · replace hf := ip c62 hf
    refine lv_bipush (v := (-9)) hx hb dX5_fewestDebts_69 (by decide) ?_
    exact hret (-9) V2 _ _ 71 _ hf hP hD hS dX5_fewestDebts_71
  · replace hf := im c62 hf
    refine lv_iload_n hx hb dX5_fewestDebts_65 rfl (lv_at hl 0 rfl) ?_
    refine lv_goto (tgt := 71) hx hb dX5_fewestDebts_66 (by decide) ?_
    exact hret x3_13 V2 _ _ 71 _ hf hP hD hS dX5_fewestDebts_71
set_option maxHeartbeats 4000000 in
set_option maxRecDepth 100000 in
theorem c_Rng_fewestDebts (l : Launch) (D : va_G) (cs : Nat → ClassId) (o_rng : Nat) (h_rng : Nat → Nat) (o_g : Nat) (h_g : Nat → Nat) (sz : Nat) (I_rng : FI) (V_rng : FV) (I_g : FI) (V_g : FV) (x2 : Int32) (f : Nat) (out : Int32 × FV) (hf : Rng_fewestDebts f x2 I_rng V_rng I_g V_g = some out) : Met l yX5_fewestDebts wsX5_fewestDebts rm_Rng_fewestDebts (va_Pc [.ref o_rng, .ref o_g, .int x2] (yP D cs (List.flatten [(w_Rng cs o_rng h_rng I_rng V_rng), (w_Led cs o_g h_g I_g V_g)]) sz)) (va_Qi (fun r u => (r, u) = out) (fun (u : FV) t => xA D cs (va_A (List.flatten [(w_Rng cs o_rng h_rng I_rng V_rng), (w_Led cs o_g h_g I_g V_g)]) sz) (List.flatten [(w_Rng cs o_rng h_rng I_rng u), (w_Led cs o_g h_g I_g V_g)]) t) (va_A (List.flatten [(w_Rng cs o_rng h_rng I_rng V_rng), (w_Led cs o_g h_g I_g V_g)]) sz)) 0 0 (va_A (List.flatten [(w_Rng cs o_rng h_rng I_rng V_rng), (w_Led cs o_g h_g I_g V_g)]) sz) := by
  refine Met.ofW (cc := cX5_fewestDebts) (maxL := 5) (ret := (some .int)) (by decide) rfl ?_
  intro p e s m args below meth c s₁ B hml hv
  obtain ⟨ha, hsz, hP, hK, hN, hD0⟩ := hv
  have hx := B.exec
  have hb := B.bytes
  have hr := B.returns
  have hts := atoms_spec (ws := wsX5_fewestDebts) B.pre
  have hown : s.vm.findClass RX5 = some m.cls := findClass_of_methodNamed B.named
  have hlocks := B.notSynchronized
  have in_X5 : ∀ w ∈ u_ws RX5 TX5 1, w ∈ wsX5_fewestDebts := fun w h => List.mem_cons_of_mem _ (List.mem_append_right _ h)
  have in_X3 : ∀ w ∈ u_ws RX3 TX3 11, w ∈ wsX5_fewestDebts := fun w h => List.mem_cons_of_mem _ (List.mem_append_left _ (List.mem_append_right _ h))
  have w_measure_15 := cwV (R := rm_Rng_fewestDebts) (s := s) (args := args) (rm := rm_Rng_measure) (mc := 0) (ms := 0) 2 hts gX5_fewestDebts_X5_measure rfl rfl rfl (by decide +kernel) ⟨Nat.le_of_ble_eq_true rfl, Nat.le_of_ble_eq_true rfl⟩
  have g_19 := hts (Cond.fieldLink RX5 19 "DaysLent$Ledger" "debts" "I") (by decide +kernel)
  have g_25 := hts (Cond.fieldLink RX5 25 "DaysLent$Ledger" "debtor" "[I") (by decide +kernel)
  have g_9 := hts (Cond.fieldLink RX5 9 "DaysLent$Rings" "steps" "[I") (by decide +kernel)
  have g_28 := hts (Cond.fieldLink RX5 28 "DaysLent$Ledger" "creditor" "[I") (by decide +kernel)
  have ml_31 := hts (Cond.methodLink RX5 31 Lib.Math.min.name) (by decide +kernel)
  have ms_31 := hts (Cond.static Lib.Math.min.name) (by decide +kernel)
  have mi_31 := hts (Cond.initialized "java/lang/Math") (by decide +kernel)
  have mc_31 := hts (Cond.code Lib.Math.min.name Lib.Math.min.code 2 (some .int)) (by decide +kernel)
  subst hsz
  have hD := hD0.self (sz := s.heap.size)
  generalize hAe : va_A (List.flatten [(w_Rng cs o_rng h_rng I_rng V_rng), (w_Led cs o_g h_g I_g V_g)]) s.heap.size = A at hD ⊢
  have hA : ∀ q : Nat, s.heap.size ≤ q → A q := fun q h => by rw [← hAe]; exact Or.inr h
  have hl := lv_entry ([.ref o_rng, .ref o_g, .int x2]) (n := 5) (Nat.le_of_ble_eq_true rfl)
  rw [show entryFrame m args 5 = entryFrame m ([.ref o_rng, .ref o_g, .int x2] : List Value).toArray 5 from by rw [ha], lg_entry_eq]
  generalize (lg_sl ([.ref o_rng, .ref o_g, .int x2]) ++ List.replicate (5 - (lg_sl ([.ref o_rng, .ref o_g, .int x2])).length) Slot.unset).toArray = ls at hl ⊢
  generalize hQ : MQ below (va_Qi (fun r u => (r, u) = out) (fun (u : FV) t => xA D cs A (List.flatten [(w_Rng cs o_rng h_rng I_rng u), (w_Led cs o_g h_g I_g V_g)]) t) A) args s 0 0 A = Q
  have hret : ∀ (v : Int32) (Vrng9 : FV) (H : Heap) (locs : List Loc) (pc : Nat) (ls : Array Slot), some (v, Vrng9) = some out → va_P D vwCl (List.flatten [(w_Rng cs o_rng h_rng I_rng Vrng9), (w_Led cs o_g h_g I_g V_g)]) H → va_D A (List.flatten [(w_Rng cs o_rng h_rng I_rng Vrng9), (w_Led cs o_g h_g I_g V_g)]) → va_S A s.heap H locs → decode cX5_fewestDebts pc = .ok (.ireturn, 1) → W p l e rm_Rng_fewestDebts s m args below meth c H locs 0 0 Q (F0 m pc ls [.int v]) := by
    intro v Vrng9 H locs pc ls hf hP hD hS hd
    rw [← hQ]
    exact W.iret (v := v) hx hb hr (fun t ht hW => ⟨⟨v, Vrng9, rfl, Option.some.inj hf, by show va_P D vwCl (List.flatten [(w_Rng cs o_rng h_rng I_rng Vrng9), (w_Led cs o_g h_g I_g V_g)]) t.heap; rw [ht]; exact hP, va_K.moved hW.alike hK, hD⟩, hS.F ht⟩) hS.2.2 hd
  exact v_Rng_fewestDebts hf hx hb hml hown hts in_X5 in_X3 w_measure_15 g_19 g_25 g_9 g_28 ml_31 ms_31 mi_31 mc_31 hA hP hD hK hN hret ls hl
def Rng_firstDebt_L3 (f : Nat) (I_g : FI) (V_g : FV) (x2 : Int32) (V_rng : FV) (x3 : Int32) (k_3 : Unit → Option (Int32)) : Nat → Int32 → Option (Int32)
  | 0, _ => none
  | n_3 + 1, x4_3 => (if (I_g 1) ≤ x4_3 then (k_3 ()) else if x4_3 < 0 ∨ 12 ≤ x4_3.toNatClampNeg then none else ((nm (fun (u_42 : Unit) => (Rng_firstDebt_L3 f I_g V_g x2 V_rng x3 k_3 n_3 (x4_3 + 1))) (fun j42 => (if ((V_g 8) x4_3.toNatClampNeg) = x2 then if x4_3 < 0 ∨ 12 ≤ x4_3.toNatClampNeg then none else (if ((V_g 7) x4_3.toNatClampNeg) < 0 ∨ 6 ≤ ((V_g 7) x4_3.toNatClampNeg).toNatClampNeg then none else ((if ((V_rng 0) ((V_g 7) x4_3.toNatClampNeg).toNatClampNeg) = x3 then some x4_3 else (j42 ())))) else (j42 ()))))))
def Rng_firstDebt (f : Nat) (x2 : Int32) (x3 : Int32) (I_rng : FI) (V_rng : FV) (I_g : FI) (V_g : FV) : Option (Int32) := (Rng_firstDebt_L3 f I_g V_g x2 V_rng x3 (fun (u_3 : Unit) => some (-9)) f 0)
abbrev rm_Rng_firstDebt : Room := { frames := 0, cells := 0, slots := 0, locals := 0 }
set_option maxHeartbeats 4000000 in
set_option maxRecDepth 100000 in
theorem v_Rng_firstDebt {l : Launch} {p : Program} {e : Env} {s : State} {m : MethodId} {args : Array Value} {below : List Frame} {meth : Method} {c : Code} {Q : State → Prop} {D : va_G} {cs : Nat → ClassId} {o_rng : Nat} {h_rng : Nat → Nat} {o_g : Nat} {h_g : Nat → Nat} {I_rng : FI} {V_rng : FV} {I_g : FI} {V_g : FV} {x2 : Int32} {x3 : Int32} {f : Nat} {out : Int32} (hf : Rng_firstDebt f x2 x3 I_rng V_rng I_g V_g = some out) (hx : p.tables.exec = Jvm.exec) (hb : c.code = cX5_firstDebt) (hml : c.maxLocals = 5) (hown : s.vm.findClass RX5 = some m.cls) (hts : ∀ w ∈ wsX5_firstDebt, w.before args s = true) (in_X5 : ∀ w ∈ u_ws RX5 TX5 1, w ∈ wsX5_firstDebt) (in_X3 : ∀ w ∈ u_ws RX3 TX3 11, w ∈ wsX5_firstDebt) (g_19 : (Cond.fieldLink RX5 19 "DaysLent$Ledger" "debts" "I").before args s = true) (g_25 : (Cond.fieldLink RX5 25 "DaysLent$Ledger" "debtor" "[I").before args s = true) (g_9 : (Cond.fieldLink RX5 9 "DaysLent$Rings" "steps" "[I").before args s = true) (g_28 : (Cond.fieldLink RX5 28 "DaysLent$Ledger" "creditor" "[I").before args s = true) (hP : va_P D vwCl (List.flatten [(w_Rng cs o_rng h_rng I_rng V_rng), (w_Led cs o_g h_g I_g V_g)]) s.heap) (hK : va_K D vwCl (tyA cs) s) (hN : yN s) (hret : ∀ (v : Int32) (pc : Nat) (ls : Array Slot), some v = some out → decode cX5_firstDebt pc = .ok (.ireturn, 1) → W p l e rm_Rng_firstDebt s m args below meth c s.heap [] 0 0 Q (F0 m pc ls [.int v])) : ∀ ls : Array Slot, lv_has ls 5 [(0, .ref o_rng), (1, .ref o_g), (2, .int x2), (3, .int x3)] → W p l e rm_Rng_firstDebt s m args below meth c s.heap [] 0 0 Q (F0 m 0 ls []) := by
  intro ls hl
  unfold Rng_firstDebt at hf
  refine lv_iconst (v := 0) hx hb dX5_firstDebt_0 (by decide) ?_
  refine lv_istore (lv' := [(4, .int 0), (0, .ref o_rng), (1, .ref o_g), (2, .int x2), (3, .int x3)]) hx hb dX5_firstDebt_1 hl (by decide) rfl (fun ls hl => ?_)
  have L3 : ∀ (k_3 : Unit → Option (Int32)) (hk_3 : ∀ (u_3 : Unit), k_3 u_3 = some out → ∀ ls : Array Slot, lv_has ls 5 [] → W p l e rm_Rng_firstDebt s m args below meth c s.heap [] 0 0 Q (F0 m 48 ls [])), ∀ (n_3 : Nat) (x4_3 : Int32), Rng_firstDebt_L3 f I_g V_g x2 V_rng x3 k_3 n_3 x4_3 = some out → ∀ ls : Array Slot, lv_has ls 5 [(0, .ref o_rng), (1, .ref o_g), (2, .int x2), (3, .int x3), (4, .int x4_3)] → W p l e rm_Rng_firstDebt s m args below meth c s.heap [] 0 0 Q (F0 m 3 ls []) := by
    intro k_3 hk_3 n_3
    induction n_3 with
    | zero => intro x4_3 hf; rw [Rng_firstDebt_L3] at hf; cases hf
    | succ n_3 ih_3 =>
      intro x4_3 hf ls hl
      rw [Rng_firstDebt_L3] at hf
      refine lv_iload hx hb dX5_firstDebt_3 (lv_at hl 4 rfl) ?_
      refine lv_aload_n hx hb dX5_firstDebt_5 rfl (lv_at hl 1 rfl) ?_
      refine va_get (D := D) (ci := 3) (v := .int (I_g 1)) (C := RX3) (T := TX3) (N := 11) hx hb hts in_X3 hown hK hP 2 rfl rfl 1 (by decide) g_19 (fun _ h9 => h9) rfl dX5_firstDebt_6 ?_
      refine lv_icmp_ge (tgt := 48) hx hb dX5_firstDebt_9 (by decide) (fun c9 => ?_) (fun c9 => ?_)
      · replace hf := ip c9 hf
        exact hk_3 () hf _ (lv_sub hl [] rfl)
      · replace hf := im c9 hf
        refine lv_aload_n hx hb dX5_firstDebt_12 rfl (lv_at hl 1 rfl) ?_
        refine va_get (D := D) (ci := 3) (v := .ref (h_g 8)) (C := RX3) (T := TX3) (N := 11) hx hb hts in_X3 hown hK hP 2 rfl rfl 8 (by decide) g_25 (fun _ h9 => h9) rfl dX5_firstDebt_13 ?_
        refine lv_iload hx hb dX5_firstDebt_16 (lv_at hl 4 rfl) ?_
        obtain ⟨c18, hf⟩ := gd hf
        refine va_iald (f := (V_g 8)) hx hb hK hP 6 0 rfl rfl c18 dX5_firstDebt_18 ?_
        refine lv_iload_n hx hb dX5_firstDebt_19 rfl (lv_at hl 2 rfl) ?_
        obtain ⟨j42, ej42, hf⟩ := nme hf
        have J42 : ∀ (u_42 : Unit), j42 u_42 = some out → ∀ ls : Array Slot, lv_has ls 5 [(0, .ref o_rng), (1, .ref o_g), (2, .int x2), (3, .int x3), (4, .int x4_3)] → W p l e rm_Rng_firstDebt s m args below meth c s.heap [] 0 0 Q (F0 m 42 ls []) := by
          intro u_42 hf ls hl
          rw [ej42] at hf
          refine lv_iinc (v := (x4_3 + 1)) (lv' := [(4, .int (x4_3 + 1)), (0, .ref o_rng), (1, .ref o_g), (2, .int x2), (3, .int x3)]) hx hb dX5_firstDebt_42 hl (k := 4) rfl (by rfl) (by decide) rfl (fun ls hl => ?_)
          refine lv_goto (tgt := 3) hx hb dX5_firstDebt_45 (by decide) ?_
          exact ih_3 (x4_3 + 1) hf _ (lv_sub hl [1, 2, 3, 4, 0] rfl)
        refine lv_icmp_ne (tgt := 42) hx hb dX5_firstDebt_20 (by decide) (fun c20 => ?_) (fun c20 => ?_)
        · replace hf := im c20 hf
          exact J42 () hf _ (lv_sub hl [0, 1, 2, 3, 4] rfl)
        · replace hf := ip c20 hf
          refine lv_aload_n hx hb dX5_firstDebt_23 rfl (lv_at hl 0 rfl) ?_
          refine va_get (D := D) (ci := 5) (v := .ref (h_rng 0)) (C := RX5) (T := TX5) (N := 1) hx hb hts in_X5 hown hK hP 0 rfl rfl 0 (by decide) g_9 (fun _ h9 => h9) rfl dX5_firstDebt_24 ?_
          refine lv_aload_n hx hb dX5_firstDebt_27 rfl (lv_at hl 1 rfl) ?_
          refine va_get (D := D) (ci := 3) (v := .ref (h_g 7)) (C := RX3) (T := TX3) (N := 11) hx hb hts in_X3 hown hK hP 2 rfl rfl 7 (by decide) g_28 (fun _ h9 => h9) rfl dX5_firstDebt_28 ?_
          refine lv_iload hx hb dX5_firstDebt_31 (lv_at hl 4 rfl) ?_
          obtain ⟨c33, hf⟩ := gd hf
          refine va_iald (f := (V_g 7)) hx hb hK hP 5 0 rfl rfl c33 dX5_firstDebt_33 ?_
          obtain ⟨c34, hf⟩ := gd hf
          refine va_iald (f := (V_rng 0)) hx hb hK hP 1 0 rfl rfl c34 dX5_firstDebt_34 ?_
          refine lv_iload_n hx hb dX5_firstDebt_35 rfl (lv_at hl 3 rfl) ?_
          refine lv_icmp_ne (tgt := 42) hx hb dX5_firstDebt_36 (by decide) (fun c36 => ?_) (fun c36 => ?_)
          · replace hf := im c36 hf
            exact J42 () hf _ (lv_sub hl [0, 1, 2, 3, 4] rfl)
          · replace hf := ip c36 hf
            refine lv_iload hx hb dX5_firstDebt_39 (lv_at hl 4 rfl) ?_
            exact hret x4_3 41 _ hf dX5_firstDebt_41
  refine L3 _ (fun u_3 hf ls hl => ?_) f 0 hf _ (lv_sub hl [1, 2, 3, 4, 0] rfl)
  refine lv_bipush (v := (-9)) hx hb dX5_firstDebt_48 (by decide) ?_
  exact hret (-9) 50 _ hf dX5_firstDebt_50
set_option maxHeartbeats 4000000 in
set_option maxRecDepth 100000 in
theorem c_Rng_firstDebt (l : Launch) (D : va_G) (cs : Nat → ClassId) (o_rng : Nat) (h_rng : Nat → Nat) (o_g : Nat) (h_g : Nat → Nat) (I_rng : FI) (V_rng : FV) (I_g : FI) (V_g : FV) (x2 : Int32) (x3 : Int32) (f : Nat) (out : Int32) (hf : Rng_firstDebt f x2 x3 I_rng V_rng I_g V_g = some out) : Met l yX5_firstDebt wsX5_firstDebt rm_Rng_firstDebt (va_Pc [.ref o_rng, .ref o_g, .int x2, .int x3] (yR D cs (List.flatten [(w_Rng cs o_rng h_rng I_rng V_rng), (w_Led cs o_g h_g I_g V_g)]))) (vp_Si (fun r => r = out)) 0 0 (fun _ => False) := by
  refine Met.ofW (cc := cX5_firstDebt) (maxL := 5) (ret := (some .int)) (by decide) rfl ?_
  intro p e s m args below meth c s₁ B hml hv
  obtain ⟨ha, hP, hK, hN⟩ := hv
  have hx := B.exec
  have hb := B.bytes
  have hr := B.returns
  have hts := atoms_spec (ws := wsX5_firstDebt) B.pre
  have hown : s.vm.findClass RX5 = some m.cls := findClass_of_methodNamed B.named
  have hlocks := B.notSynchronized
  have in_X5 : ∀ w ∈ u_ws RX5 TX5 1, w ∈ wsX5_firstDebt := fun w h => List.mem_cons_of_mem _ (List.mem_append_right _ h)
  have in_X3 : ∀ w ∈ u_ws RX3 TX3 11, w ∈ wsX5_firstDebt := fun w h => List.mem_cons_of_mem _ (List.mem_append_left _ (List.mem_append_right _ h))
  have g_19 := hts (Cond.fieldLink RX5 19 "DaysLent$Ledger" "debts" "I") (by decide +kernel)
  have g_25 := hts (Cond.fieldLink RX5 25 "DaysLent$Ledger" "debtor" "[I") (by decide +kernel)
  have g_9 := hts (Cond.fieldLink RX5 9 "DaysLent$Rings" "steps" "[I") (by decide +kernel)
  have g_28 := hts (Cond.fieldLink RX5 28 "DaysLent$Ledger" "creditor" "[I") (by decide +kernel)
  have hl := lv_entry ([.ref o_rng, .ref o_g, .int x2, .int x3]) (n := 5) (Nat.le_of_ble_eq_true rfl)
  rw [show entryFrame m args 5 = entryFrame m ([.ref o_rng, .ref o_g, .int x2, .int x3] : List Value).toArray 5 from by rw [ha], lg_entry_eq]
  generalize (lg_sl ([.ref o_rng, .ref o_g, .int x2, .int x3]) ++ List.replicate (5 - (lg_sl ([.ref o_rng, .ref o_g, .int x2, .int x3])).length) Slot.unset).toArray = ls at hl ⊢
  generalize hQ : MQ below (vp_Si (fun r => r = out)) args s 0 0 (fun _ => False) = Q
  have hret : ∀ (v : Int32) (pc : Nat) (ls : Array Slot), some v = some out → decode cX5_firstDebt pc = .ok (.ireturn, 1) → W p l e rm_Rng_firstDebt s m args below meth c s.heap [] 0 0 Q (F0 m pc ls [.int v]) := by
    intro v pc ls hf hd
    rw [← hQ]
    exact W.iret (v := v) hx hb hr (fun t ht hW => ⟨v, rfl, Option.some.inj hf, ht⟩) (fun q h => by cases h) hd
  exact v_Rng_firstDebt hf hx hb hml hown hts in_X5 in_X3 g_19 g_25 g_9 g_28 hP hK hN hret ls hl
def Rng_leastAmount_L27 (f : Nat) (I_rng : FI) (V2 : FV) (I_g : FI) (V_g : FV) (k_27 : Int32 → Option (Int32 × FV)) : Nat → Int32 → Int32 → Int32 → Int32 → Option (Int32 × FV)
  | 0, _, _, _, _ => none
  | n_27 + 1, x3_27, x4_27, x5_27, x6_27 => (if 6 ≤ x6_27 then (k_27 x5_27) else (if x3_27 ≤ 0 then (k_27 x5_27) else ob1 (Rng_firstDebt f x4_27 (x3_27 + (-1)) I_rng V2 I_g V_g) (fun zr3 => (if zr3 = (-9) then some ((-9), V2) else if zr3 < 0 ∨ 12 ≤ zr3.toNatClampNeg then none else (nm (if ((V_g 9) zr3.toNatClampNeg) < x5_27 then ((V_g 9) zr3.toNatClampNeg) else x5_27) (fun y4 => if zr3 < 0 ∨ 12 ≤ zr3.toNatClampNeg then none else (nm ((V_g 7) zr3.toNatClampNeg) (fun y5 => (Rng_leastAmount_L27 f I_rng V2 I_g V_g k_27 n_27 (x3_27 + (-1)) y5 y4 (x6_27 + 1))))))))))
def Rng_leastAmount (f : Nat) (x2 : Int32) (I_rng : FI) (V_rng : FV) (I_g : FI) (V_g : FV) : Option (Int32 × FV) := ob2 (Rng_fewestDebts f x2 I_rng V_rng I_g V_g) (fun zr1 V2 => (if zr1 = (-9) then some ((-9), V2) else (Rng_leastAmount_L27 f I_rng V2 I_g V_g (fun (x5_27 : Int32) => some (x5_27, V2)) f zr1 x2 1000 0)))
abbrev rm_Rng_leastAmount : Room := { frames := 3, cells := 0, slots := 0, locals := 70 }
set_option maxHeartbeats 4000000 in
set_option maxRecDepth 100000 in
theorem v_Rng_leastAmount {l : Launch} {p : Program} {e : Env} {s : State} {m : MethodId} {args : Array Value} {below : List Frame} {meth : Method} {c : Code} {Q : State → Prop} {D : va_G} {cs : Nat → ClassId} {o_rng : Nat} {h_rng : Nat → Nat} {o_g : Nat} {h_g : Nat → Nat} {A : Nat → Prop} {I_rng : FI} {V_rng : FV} {I_g : FI} {V_g : FV} {x2 : Int32} {f : Nat} {out : Int32 × FV} (hf : Rng_leastAmount f x2 I_rng V_rng I_g V_g = some out) (hx : p.tables.exec = Jvm.exec) (hb : c.code = cX5_leastAmount) (hml : c.maxLocals = 8) (hown : s.vm.findClass RX5 = some m.cls) (hts : ∀ w ∈ wsX5_leastAmount, w.before args s = true) (in_X5 : ∀ w ∈ u_ws RX5 TX5 1, w ∈ wsX5_leastAmount) (in_X3 : ∀ w ∈ u_ws RX3 TX3 11, w ∈ wsX5_leastAmount) (w_fewestDebts_37 : CallW rm_Rng_leastAmount s args RX5 RX5 37 yX5_fewestDebts cX5_fewestDebts 5 (some .int) wsX5_fewestDebts rm_Rng_fewestDebts 0 0 2) (w_firstDebt_41 : CallW rm_Rng_leastAmount s args RX5 RX5 41 yX5_firstDebt cX5_firstDebt 5 (some .int) wsX5_firstDebt rm_Rng_firstDebt 0 0 3) (g_45 : (Cond.fieldLink RX5 45 "DaysLent$Ledger" "amount" "[I").before args s = true) (ml_31 : (Cond.methodLink RX5 31 Lib.Math.min.name).before args s = true) (ms_31 : (Cond.static Lib.Math.min.name).before args s = true) (mi_31 : (Cond.initialized "java/lang/Math").before args s = true) (mc_31 : (Cond.code Lib.Math.min.name Lib.Math.min.code 2 (some .int)).before args s = true) (g_28 : (Cond.fieldLink RX5 28 "DaysLent$Ledger" "creditor" "[I").before args s = true) (hA : ∀ q : Nat, s.heap.size ≤ q → A q) (hP : va_P D vwCl (List.flatten [(w_Rng cs o_rng h_rng I_rng V_rng), (w_Led cs o_g h_g I_g V_g)]) s.heap) (hD : va_D A (List.flatten [(w_Rng cs o_rng h_rng I_rng V_rng), (w_Led cs o_g h_g I_g V_g)])) (hK : va_K D vwCl (tyA cs) s) (hN : yN s) (hret : ∀ (v : Int32) (Vrng9 : FV) (H : Heap) (locs : List Loc) (pc : Nat) (ls : Array Slot), some (v, Vrng9) = some out → va_P D vwCl (List.flatten [(w_Rng cs o_rng h_rng I_rng Vrng9), (w_Led cs o_g h_g I_g V_g)]) H → va_D A (List.flatten [(w_Rng cs o_rng h_rng I_rng Vrng9), (w_Led cs o_g h_g I_g V_g)]) → va_S A s.heap H locs → decode cX5_leastAmount pc = .ok (.ireturn, 1) → W p l e rm_Rng_leastAmount s m args below meth c H locs 0 0 Q (F0 m pc ls [.int v])) : ∀ ls : Array Slot, lv_has ls 8 [(0, .ref o_rng), (1, .ref o_g), (2, .int x2)] → W p l e rm_Rng_leastAmount s m args below meth c s.heap [] 0 0 Q (F0 m 0 ls []) := by
  intro ls hl
  have hS : va_S A s.heap s.heap [] := va_S.rf
  unfold Rng_leastAmount at hf
  refine lv_aload_n hx hb dX5_leastAmount_0 rfl (lv_at hl 0 rfl) ?_
  refine lv_aload_n hx hb dX5_leastAmount_1 rfl (lv_at hl 1 rfl) ?_
  refine lv_iload_n hx hb dX5_leastAmount_2 rfl (lv_at hl 2 rfl) ?_
  obtain ⟨zr1, V2, qr1, hf⟩ := bd2 hf
  have hFc := xfree hD hS hA
  refine va_calli (va_runV (As := [.ref o_g, .int x2]) (rest := []) ⟨hx, hb, hml, hown, hts⟩ (c_Rng_fewestDebts l D cs o_rng h_rng o_g h_g _ I_rng V_rng I_g V_g x2 f _ qr1) w_fewestDebts_37 ⟨yP_moved, va_recv hK hP (ci := 5) (q0 := 0) rfl rfl, fun U hU hW => ⟨rfl, by rw [hU], by rw [hU]; exact hP, va_K.moved hW.alike hK, yN_warm hW hN, hD.weaken (fun _ _ _ _ => trivial)⟩⟩ rfl rfl hl.1 rfl (lv_room (Nat.le_of_ble_eq_true rfl)) dX5_leastAmount_3 ⟨Nat.zero_le _, Nat.zero_le _⟩) hS (fun q _ h9 => hFc q h9) hFc (fun r1 u t H1 locs ht hvm hw hB hz1 hk1 hS => ?_)
  have er1 := congrArg Prod.fst hw
  have eu := congrArg Prod.snd hw
  dsimp only at er1 eu
  rw [er1]
  rw [eu] at hB
  obtain ⟨hP1, hK1, hD1⟩ := hB
  have hP : va_P D vwCl (List.flatten [(w_Rng cs o_rng h_rng I_rng V2), (w_Led cs o_g h_g I_g V_g)]) H1 := by rw [← ht]; exact hP1
  have hD : va_D A (List.flatten [(w_Rng cs o_rng h_rng I_rng V2), (w_Led cs o_g h_g I_g V_g)]) := hD1.weaken (fun _ q _ h9 => hFc q.1 h9)
  refine lv_istore_n (lv' := [(3, .int zr1), (0, .ref o_rng), (1, .ref o_g), (2, .int x2)]) hx hb dX5_leastAmount_6 rfl hl (by decide) rfl (fun ls hl => ?_)
  refine lv_iload_n hx hb dX5_leastAmount_7 rfl (lv_at hl 0 rfl) ?_
  refine lv_bipush (v := (-9)) hx hb dX5_leastAmount_8 (by decide) ?_
  refine lv_icmp_ne (tgt := 16) hx hb dX5_leastAmount_10 (by decide) (fun c10 => ?_) (fun c10 => ?_)
  · replace hf := im c10 hf
    refine lv_iload_n hx hb dX5_leastAmount_16 rfl (lv_at hl 3 rfl) ?_
    refine lv_istore (lv' := [(4, .int x2), (3, .int zr1), (0, .ref o_rng), (1, .ref o_g), (2, .int x2)]) hx hb dX5_leastAmount_17 hl (by decide) rfl (fun ls hl => ?_)
    refine lv_sipush (v := 1000) hx hb dX5_leastAmount_19 (by decide) ?_
    refine lv_istore (lv' := [(5, .int 1000), (4, .int x2), (3, .int zr1), (0, .ref o_rng), (1, .ref o_g), (2, .int x2)]) hx hb dX5_leastAmount_22 hl (by decide) rfl (fun ls hl => ?_)
    refine lv_iconst (v := 0) hx hb dX5_leastAmount_24 (by decide) ?_
    refine lv_istore (lv' := [(6, .int 0), (5, .int 1000), (4, .int x2), (3, .int zr1), (0, .ref o_rng), (1, .ref o_g), (2, .int x2)]) hx hb dX5_leastAmount_25 hl (by decide) rfl (fun ls hl => ?_)
    have L27 : ∀ (k_27 : Int32 → Option (Int32 × FV)) (hk_27 : ∀ (x5_27 : Int32), k_27 x5_27 = some out → ∀ (H : Heap) (locs : List Loc), va_P D vwCl (List.flatten [(w_Rng cs o_rng h_rng I_rng V2), (w_Led cs o_g h_g I_g V_g)]) H → va_D A (List.flatten [(w_Rng cs o_rng h_rng I_rng V2), (w_Led cs o_g h_g I_g V_g)]) → va_S A s.heap H locs → ∀ ls : Array Slot, lv_has ls 8 [(5, .int x5_27)] → W p l e rm_Rng_leastAmount s m args below meth c H locs 0 0 Q (F0 m 90 ls [])), ∀ (n_27 : Nat) (x3_27 : Int32) (x4_27 : Int32) (x5_27 : Int32) (x6_27 : Int32), Rng_leastAmount_L27 f I_rng V2 I_g V_g k_27 n_27 x3_27 x4_27 x5_27 x6_27 = some out → ∀ (H : Heap) (locs : List Loc), va_P D vwCl (List.flatten [(w_Rng cs o_rng h_rng I_rng V2), (w_Led cs o_g h_g I_g V_g)]) H → va_D A (List.flatten [(w_Rng cs o_rng h_rng I_rng V2), (w_Led cs o_g h_g I_g V_g)]) → va_S A s.heap H locs → ∀ ls : Array Slot, lv_has ls 8 [(0, .ref o_rng), (1, .ref o_g), (3, .int x3_27), (4, .int x4_27), (5, .int x5_27), (6, .int x6_27)] → W p l e rm_Rng_leastAmount s m args below meth c H locs 0 0 Q (F0 m 27 ls []) := by
      intro k_27 hk_27 n_27
      induction n_27 with
      | zero => intro x3_27 x4_27 x5_27 x6_27 hf; rw [Rng_leastAmount_L27] at hf; cases hf
      | succ n_27 ih_27 =>
        intro x3_27 x4_27 x5_27 x6_27 hf H locs hP hD hS ls hl
        rw [Rng_leastAmount_L27] at hf
        refine lv_iload hx hb dX5_leastAmount_27 (lv_at hl 5 rfl) ?_
        refine lv_bipush (v := 6) hx hb dX5_leastAmount_29 (by decide) ?_
        refine lv_icmp_ge (tgt := 90) hx hb dX5_leastAmount_31 (by decide) (fun c31 => ?_) (fun c31 => ?_)
        · replace hf := ip c31 hf
          exact hk_27 x5_27 hf _ _ hP hD hS _ (lv_sub hl [4] rfl)
        · replace hf := im c31 hf
          refine lv_iload_n hx hb dX5_leastAmount_34 rfl (lv_at hl 2 rfl) ?_
          refine lv_if_le (tgt := 90) hx hb dX5_leastAmount_35 (by decide) (fun c35 => ?_) (fun c35 => ?_)
          · replace hf := ip c35 hf
            exact hk_27 x5_27 hf _ _ hP hD hS _ (lv_sub hl [4] rfl)
          · replace hf := im c35 hf
            refine lv_iinc (v := (x3_27 + (-1))) (lv' := [(3, .int (x3_27 + (-1))), (0, .ref o_rng), (1, .ref o_g), (4, .int x4_27), (5, .int x5_27), (6, .int x6_27)]) hx hb dX5_leastAmount_38 hl (k := 2) rfl (by rfl) (by decide) rfl (fun ls hl => ?_)
            refine lv_aload_n hx hb dX5_leastAmount_41 rfl (lv_at hl 1 rfl) ?_
            refine lv_aload_n hx hb dX5_leastAmount_42 rfl (lv_at hl 2 rfl) ?_
            refine lv_iload hx hb dX5_leastAmount_43 (lv_at hl 3 rfl) ?_
            refine lv_iload_n hx hb dX5_leastAmount_45 rfl (lv_at hl 0 rfl) ?_
            obtain ⟨zr3, qr3, hf⟩ := bd1 hf
            refine vp_callSi (va_Run.run (va_runV (As := [.ref o_g, .int x4_27, .int (x3_27 + (-1))]) (rest := []) ⟨hx, hb, hml, hown, hts⟩ (c_Rng_firstDebt l D cs o_rng h_rng o_g h_g I_rng V2 I_g V_g x4_27 (x3_27 + (-1)) f zr3 qr3) w_firstDebt_41 ⟨yR_moved, va_recv hK hP (ci := 5) (q0 := 0) rfl rfl, fun U hU hW => ⟨rfl, by rw [hU]; exact hP, va_K.moved hW.alike hK, yN_warm hW hN⟩⟩ rfl rfl hl.1 rfl (lv_room (Nat.le_of_ble_eq_true rfl)) dX5_leastAmount_46 ⟨Nat.zero_le _, Nat.zero_le _⟩)) (fun r3 er3 => ?_)
            rw [er3]
            refine lv_istore (lv' := [(7, .int zr3), (3, .int (x3_27 + (-1))), (0, .ref o_rng), (1, .ref o_g), (4, .int x4_27), (5, .int x5_27), (6, .int x6_27)]) hx hb dX5_leastAmount_49 hl (by decide) rfl (fun ls hl => ?_)
            refine lv_iload hx hb dX5_leastAmount_51 (lv_at hl 0 rfl) ?_
            refine lv_bipush (v := (-9)) hx hb dX5_leastAmount_53 (by decide) ?_
            refine lv_icmp_ne (tgt := 61) hx hb dX5_leastAmount_55 (by decide) (fun c55 => ?_) (fun c55 => ?_)
            · replace hf := im c55 hf
              refine lv_iload hx hb dX5_leastAmount_61 (lv_at hl 5 rfl) ?_
              refine lv_aload_n hx hb dX5_leastAmount_63 rfl (lv_at hl 3 rfl) ?_
              refine va_get (D := D) (ci := 3) (v := .ref (h_g 9)) (C := RX3) (T := TX3) (N := 11) hx hb hts in_X3 hown hK hP 2 rfl rfl 9 (by decide) g_45 (fun _ h9 => h9) rfl dX5_leastAmount_64 ?_
              refine lv_iload hx hb dX5_leastAmount_67 (lv_at hl 0 rfl) ?_
              obtain ⟨c69, hf⟩ := gd hf
              refine va_iald (f := (V_g 9)) hx hb hK hP 7 0 rfl rfl c69 dX5_leastAmount_69 ?_
              refine va_mmin (x := x5_27) (y := ((V_g 9) zr3.toNatClampNeg)) hx hb (hml.trans hl.1.symm) hown ml_31 ms_31 mi_31 mc_31 (Nat.le_of_ble_eq_true rfl) (Nat.le_of_ble_eq_true rfl) (Nat.zero_le _) (Nat.zero_le _) dX5_leastAmount_70 ?_
              refine lv_topi (fun y4 ey4 => ?_)
              replace hf := nmd hf ey4
              refine lv_istore (lv' := [(5, .int y4), (7, .int zr3), (3, .int (x3_27 + (-1))), (0, .ref o_rng), (1, .ref o_g), (4, .int x4_27), (6, .int x6_27)]) hx hb dX5_leastAmount_73 hl (by decide) rfl (fun ls hl => ?_)
              refine lv_aload_n hx hb dX5_leastAmount_75 rfl (lv_at hl 4 rfl) ?_
              refine va_get (D := D) (ci := 3) (v := .ref (h_g 7)) (C := RX3) (T := TX3) (N := 11) hx hb hts in_X3 hown hK hP 2 rfl rfl 7 (by decide) g_28 (fun _ h9 => h9) rfl dX5_leastAmount_76 ?_
              refine lv_iload hx hb dX5_leastAmount_79 (lv_at hl 1 rfl) ?_
              obtain ⟨c81, hf⟩ := gd hf
              refine va_iald (f := (V_g 7)) hx hb hK hP 5 0 rfl rfl c81 dX5_leastAmount_81 ?_
              refine lv_topi (fun y5 ey5 => ?_)
              replace hf := nmd hf ey5
              refine lv_istore (lv' := [(4, .int y5), (5, .int y4), (7, .int zr3), (3, .int (x3_27 + (-1))), (0, .ref o_rng), (1, .ref o_g), (6, .int x6_27)]) hx hb dX5_leastAmount_82 hl (by decide) rfl (fun ls hl => ?_)
              refine lv_iinc (v := (x6_27 + 1)) (lv' := [(6, .int (x6_27 + 1)), (4, .int y5), (5, .int y4), (7, .int zr3), (3, .int (x3_27 + (-1))), (0, .ref o_rng), (1, .ref o_g)]) hx hb dX5_leastAmount_84 hl (k := 6) rfl (by rfl) (by decide) rfl (fun ls hl => ?_)
              refine lv_goto (tgt := 27) hx hb dX5_leastAmount_87 (by decide) ?_
              exact ih_27 (x3_27 + (-1)) y5 y4 (x6_27 + 1) hf _ _ hP hD hS _ (lv_sub hl [5, 6, 4, 1, 2, 0] rfl)
            · replace hf := ip c55 hf
              refine lv_bipush (v := (-9)) hx hb dX5_leastAmount_58 (by decide) ?_
              exact hret (-9) V2 _ _ 60 _ hf hP hD hS dX5_leastAmount_60
    refine L27 _ (fun x5_27 hf H locs hP hD hS ls hl => ?_) f zr1 x2 1000 0 hf _ _ hP hD hS _ (lv_sub hl [4, 5, 3, 2, 1, 0] rfl)
    refine lv_iload hx hb dX5_leastAmount_90 (lv_at hl 0 rfl) ?_
    exact hret x5_27 V2 _ _ 92 _ hf hP hD hS dX5_leastAmount_92
  · replace hf := ip c10 hf
    refine lv_bipush (v := (-9)) hx hb dX5_leastAmount_13 (by decide) ?_
    exact hret (-9) V2 _ _ 15 _ hf hP hD hS dX5_leastAmount_15
set_option maxHeartbeats 4000000 in
set_option maxRecDepth 100000 in
theorem c_Rng_leastAmount (l : Launch) (D : va_G) (cs : Nat → ClassId) (o_rng : Nat) (h_rng : Nat → Nat) (o_g : Nat) (h_g : Nat → Nat) (sz : Nat) (I_rng : FI) (V_rng : FV) (I_g : FI) (V_g : FV) (x2 : Int32) (f : Nat) (out : Int32 × FV) (hf : Rng_leastAmount f x2 I_rng V_rng I_g V_g = some out) : Met l yX5_leastAmount wsX5_leastAmount rm_Rng_leastAmount (va_Pc [.ref o_rng, .ref o_g, .int x2] (yP D cs (List.flatten [(w_Rng cs o_rng h_rng I_rng V_rng), (w_Led cs o_g h_g I_g V_g)]) sz)) (va_Qi (fun r u => (r, u) = out) (fun (u : FV) t => xA D cs (va_A (List.flatten [(w_Rng cs o_rng h_rng I_rng V_rng), (w_Led cs o_g h_g I_g V_g)]) sz) (List.flatten [(w_Rng cs o_rng h_rng I_rng u), (w_Led cs o_g h_g I_g V_g)]) t) (va_A (List.flatten [(w_Rng cs o_rng h_rng I_rng V_rng), (w_Led cs o_g h_g I_g V_g)]) sz)) 0 0 (va_A (List.flatten [(w_Rng cs o_rng h_rng I_rng V_rng), (w_Led cs o_g h_g I_g V_g)]) sz) := by
  refine Met.ofW (cc := cX5_leastAmount) (maxL := 8) (ret := (some .int)) (by decide) rfl ?_
  intro p e s m args below meth c s₁ B hml hv
  obtain ⟨ha, hsz, hP, hK, hN, hD0⟩ := hv
  have hx := B.exec
  have hb := B.bytes
  have hr := B.returns
  have hts := atoms_spec (ws := wsX5_leastAmount) B.pre
  have hown : s.vm.findClass RX5 = some m.cls := findClass_of_methodNamed B.named
  have hlocks := B.notSynchronized
  have in_X5 : ∀ w ∈ u_ws RX5 TX5 1, w ∈ wsX5_leastAmount := fun w h => List.mem_cons_of_mem _ (List.mem_append_right _ h)
  have in_X3 : ∀ w ∈ u_ws RX3 TX3 11, w ∈ wsX5_leastAmount := fun w h => List.mem_cons_of_mem _ (List.mem_append_left _ (List.mem_append_right _ h))
  have w_fewestDebts_37 := cwV (R := rm_Rng_leastAmount) (s := s) (args := args) (rm := rm_Rng_fewestDebts) (mc := 0) (ms := 0) 2 hts gX5_leastAmount_X5_fewestDebts rfl rfl rfl (by decide +kernel) ⟨Nat.le_of_ble_eq_true rfl, Nat.le_of_ble_eq_true rfl⟩
  have w_firstDebt_41 := cwV (R := rm_Rng_leastAmount) (s := s) (args := args) (rm := rm_Rng_firstDebt) (mc := 0) (ms := 0) 3 hts gX5_leastAmount_X5_firstDebt rfl rfl rfl (by decide +kernel) ⟨Nat.le_of_ble_eq_true rfl, Nat.le_of_ble_eq_true rfl⟩
  have g_45 := hts (Cond.fieldLink RX5 45 "DaysLent$Ledger" "amount" "[I") (by decide +kernel)
  have ml_31 := hts (Cond.methodLink RX5 31 Lib.Math.min.name) (by decide +kernel)
  have ms_31 := hts (Cond.static Lib.Math.min.name) (by decide +kernel)
  have mi_31 := hts (Cond.initialized "java/lang/Math") (by decide +kernel)
  have mc_31 := hts (Cond.code Lib.Math.min.name Lib.Math.min.code 2 (some .int)) (by decide +kernel)
  have g_28 := hts (Cond.fieldLink RX5 28 "DaysLent$Ledger" "creditor" "[I") (by decide +kernel)
  subst hsz
  have hD := hD0.self (sz := s.heap.size)
  generalize hAe : va_A (List.flatten [(w_Rng cs o_rng h_rng I_rng V_rng), (w_Led cs o_g h_g I_g V_g)]) s.heap.size = A at hD ⊢
  have hA : ∀ q : Nat, s.heap.size ≤ q → A q := fun q h => by rw [← hAe]; exact Or.inr h
  have hl := lv_entry ([.ref o_rng, .ref o_g, .int x2]) (n := 8) (Nat.le_of_ble_eq_true rfl)
  rw [show entryFrame m args 8 = entryFrame m ([.ref o_rng, .ref o_g, .int x2] : List Value).toArray 8 from by rw [ha], lg_entry_eq]
  generalize (lg_sl ([.ref o_rng, .ref o_g, .int x2]) ++ List.replicate (8 - (lg_sl ([.ref o_rng, .ref o_g, .int x2])).length) Slot.unset).toArray = ls at hl ⊢
  generalize hQ : MQ below (va_Qi (fun r u => (r, u) = out) (fun (u : FV) t => xA D cs A (List.flatten [(w_Rng cs o_rng h_rng I_rng u), (w_Led cs o_g h_g I_g V_g)]) t) A) args s 0 0 A = Q
  have hret : ∀ (v : Int32) (Vrng9 : FV) (H : Heap) (locs : List Loc) (pc : Nat) (ls : Array Slot), some (v, Vrng9) = some out → va_P D vwCl (List.flatten [(w_Rng cs o_rng h_rng I_rng Vrng9), (w_Led cs o_g h_g I_g V_g)]) H → va_D A (List.flatten [(w_Rng cs o_rng h_rng I_rng Vrng9), (w_Led cs o_g h_g I_g V_g)]) → va_S A s.heap H locs → decode cX5_leastAmount pc = .ok (.ireturn, 1) → W p l e rm_Rng_leastAmount s m args below meth c H locs 0 0 Q (F0 m pc ls [.int v]) := by
    intro v Vrng9 H locs pc ls hf hP hD hS hd
    rw [← hQ]
    exact W.iret (v := v) hx hb hr (fun t ht hW => ⟨⟨v, Vrng9, rfl, Option.some.inj hf, by show va_P D vwCl (List.flatten [(w_Rng cs o_rng h_rng I_rng Vrng9), (w_Led cs o_g h_g I_g V_g)]) t.heap; rw [ht]; exact hP, va_K.moved hW.alike hK, hD⟩, hS.F ht⟩) hS.2.2 hd
  exact v_Rng_leastAmount hf hx hb hml hown hts in_X5 in_X3 w_fewestDebts_37 w_firstDebt_41 g_45 ml_31 ms_31 mi_31 mc_31 g_28 hA hP hD hK hN hret ls hl
