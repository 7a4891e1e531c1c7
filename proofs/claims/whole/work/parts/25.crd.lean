def Crd_spread_L26 {ρ : Type} (f : Nat) (x1 : Int32) (y1 : Int32) (t0_14 : Int32) (x2 : Int32) (k_26 : FV → Option ρ) : Nat → Int32 → FV → Option ρ
  | 0, _, _ => none
  | n_26 + 1, x5_26, Vcrd_26 => (if x1 ≤ x5_26 then (k_26 Vcrd_26) else if x5_26 < 0 ∨ 64 ≤ x5_26.toNatClampNeg then none else (if (x5_26 ||| x1) < 0 ∨ 64 ≤ (x5_26 ||| x1).toNatClampNeg then none else (nm (va_up Vcrd_26 0 (upd (Vcrd_26 0) (x5_26 ||| x1).toNatClampNeg (((Vcrd_26 0) x5_26.toNatClampNeg) + y1))) (fun V2 => (nm (fun (t2_76 : Int32) => if (x5_26 ||| x1) < 0 ∨ 64 ≤ (x5_26 ||| x1).toNatClampNeg then none else (nm (va_up V2 1 (upd (V2 1) (x5_26 ||| x1).toNatClampNeg t2_76)) (fun V3 => (nm (fun (t2_109 : Int32) => if x5_26 < 0 ∨ 64 ≤ x5_26.toNatClampNeg then none else (nm (va_up V3 1 (upd (V3 1) x5_26.toNatClampNeg t2_109)) (fun V4 => (Crd_spread_L26 f x1 y1 t0_14 x2 k_26 n_26 (x5_26 + 1) V4)))) (fun j109 => (if t0_14 = 0 then if x5_26 < 0 ∨ 64 ≤ x5_26.toNatClampNeg then none else ((j109 ((V3 1) x5_26.toNatClampNeg))) else if x5_26 < 0 ∨ 64 ≤ x5_26.toNatClampNeg then none else ((j109 (((V3 1) x5_26.toNatClampNeg) * (10 - x2)))))))))) (fun j76 => (if t0_14 = 0 then (j76 0) else if x5_26 < 0 ∨ 64 ≤ x5_26.toNatClampNeg then none else ((j76 (((V2 1) x5_26.toNatClampNeg) * x2))))))))))
def Crd_spread (f : Nat) (x1 : Int32) (x2 : Int32) (I_crd : FI) (V_crd : FV) : Option (FI × FV) := (nm (fun (t0_14 : Int32) => if x1 < 0 ∨ 64 ≤ x1.toNatClampNeg then none else (nm ((V_crd 0) x1.toNatClampNeg) (fun y1 => (Crd_spread_L26 f x1 y1 t0_14 x2 (fun (Vcrd_26 : FV) => (if t0_14 = 0 then nm (va_up I_crd 3 (I_crd 3)) (fun I5 => some (I5, Vcrd_26)) else nm (va_up I_crd 3 ((I_crd 3) * 10)) (fun I6 => some (I6, Vcrd_26)))) f 0 V_crd)))) (fun j14 => (if ((I_crd 2) &&& x1) = 0 then (j14 0) else (j14 1))))
abbrev rm_Crd_spread : Room := { frames := 0, cells := 0, slots := 0, locals := 0 }
set_option maxHeartbeats 4000000 in
set_option maxRecDepth 100000 in
theorem v_Crd_spread {l : Launch} {p : Program} {e : Env} {s : State} {m : MethodId} {args : Array Value} {below : List Frame} {meth : Method} {c : Code} {Q : State → Prop} {D : va_G} {cs : Nat → ClassId} {o_crd : Nat} {h_crd : Nat → Nat} {A : Nat → Prop} {I_crd : FI} {V_crd : FV} {x1 : Int32} {x2 : Int32} {f : Nat} {out : FI × FV} (hf : Crd_spread f x1 x2 I_crd V_crd = some out) (hx : p.tables.exec = Jvm.exec) (hb : c.code = cX1_spread) (hml : c.maxLocals = 6) (hown : s.vm.findClass RX1 = some m.cls) (hts : ∀ w ∈ wsX1_spread, w.before args s = true) (in_X1 : ∀ w ∈ u_ws RX1 TX1 4, w ∈ wsX1_spread) (g_18 : (Cond.fieldLink RX1 18 "DaysLent$Creditors" "all" "I").before args s = true) (g_9 : (Cond.fieldLink RX1 9 "DaysLent$Creditors" "asked" "[I").before args s = true) (g_15 : (Cond.fieldLink RX1 15 "DaysLent$Creditors" "ways" "[I").before args s = true) (g_22 : (Cond.fieldLink RX1 22 "DaysLent$Creditors" "allWays" "I").before args s = true) (hA : ∀ q : Nat, s.heap.size ≤ q → A q) (hP : va_P D vwCl (List.flatten [(w_Crd cs o_crd h_crd I_crd V_crd)]) s.heap) (hD : va_D A (List.flatten [(w_Crd cs o_crd h_crd I_crd V_crd)])) (hK : va_K D vwCl (tyA cs) s) (hN : yN s) (hret : ∀ (Icrd9 : FI) (Vcrd9 : FV) (H : Heap) (locs : List Loc) (pc : Nat) (ls : Array Slot), some (Icrd9, Vcrd9) = some out → va_P D vwCl (List.flatten [(w_Crd cs o_crd h_crd Icrd9 Vcrd9)]) H → va_D A (List.flatten [(w_Crd cs o_crd h_crd Icrd9 Vcrd9)]) → va_S A s.heap H locs → decode cX1_spread pc = .ok (.return_, 1) → W p l e rm_Crd_spread s m args below meth c H locs 0 0 Q (F0 m pc ls [])) : ∀ ls : Array Slot, lv_has ls 6 [(0, .ref o_crd), (1, .int x1), (2, .int x2)] → W p l e rm_Crd_spread s m args below meth c s.heap [] 0 0 Q (F0 m 0 ls []) := by
  intro ls hl
  have hS : va_S A s.heap s.heap [] := va_S.rf
  unfold Crd_spread at hf
  refine lv_aload_n hx hb dX1_spread_0 rfl (lv_at hl 0 rfl) ?_
  refine va_get (D := D) (ci := 1) (v := .int (I_crd 2)) (C := RX1) (T := TX1) (N := 4) hx hb hts in_X1 hown hK hP 0 rfl rfl 2 (by decide) g_18 (fun _ h9 => h9) rfl dX1_spread_1 ?_
  refine lv_iload_n hx hb dX1_spread_4 rfl (lv_at hl 1 rfl) ?_
  refine lv_iand hx hb dX1_spread_5 ?_
  obtain ⟨j14, ej14, hf⟩ := nme hf
  have J14 : ∀ (t0_14 : Int32), j14 t0_14 = some out → ∀ (H : Heap) (locs : List Loc), va_P D vwCl (List.flatten [(w_Crd cs o_crd h_crd I_crd V_crd)]) H → va_D A (List.flatten [(w_Crd cs o_crd h_crd I_crd V_crd)]) → va_S A s.heap H locs → ∀ ls : Array Slot, lv_has ls 6 [(0, .ref o_crd), (1, .int x1), (2, .int x2)] → W p l e rm_Crd_spread s m args below meth c H locs 0 0 Q (F0 m 14 ls [.int t0_14]) := by
    intro t0_14 hf H locs hP hD hS ls hl
    rw [ej14] at hf
    refine lv_istore_n (lv' := [(3, .int t0_14), (0, .ref o_crd), (1, .int x1), (2, .int x2)]) hx hb dX1_spread_14 rfl hl (by decide) rfl (fun ls hl => ?_)
    refine lv_aload_n hx hb dX1_spread_15 rfl (lv_at hl 1 rfl) ?_
    refine va_get (D := D) (ci := 1) (v := .ref (h_crd 0)) (C := RX1) (T := TX1) (N := 4) hx hb hts in_X1 hown hK hP 0 rfl rfl 0 (by decide) g_9 (fun _ h9 => h9) rfl dX1_spread_16 ?_
    refine lv_iload_n hx hb dX1_spread_19 rfl (lv_at hl 2 rfl) ?_
    obtain ⟨c20, hf⟩ := gd hf
    refine va_iald (f := (V_crd 0)) hx hb hK hP 1 0 rfl rfl c20 dX1_spread_20 ?_
    refine lv_topi (fun y1 ey1 => ?_)
    replace hf := nmd hf ey1
    refine lv_istore (lv' := [(4, .int y1), (3, .int t0_14), (0, .ref o_crd), (1, .int x1), (2, .int x2)]) hx hb dX1_spread_21 hl (by decide) rfl (fun ls hl => ?_)
    refine lv_iconst (v := 0) hx hb dX1_spread_23 (by decide) ?_
    refine lv_istore (lv' := [(5, .int 0), (4, .int y1), (3, .int t0_14), (0, .ref o_crd), (1, .int x1), (2, .int x2)]) hx hb dX1_spread_24 hl (by decide) rfl (fun ls hl => ?_)
    have L26 : ∀ (k_26 : FV → Option (FI × FV)) (hk_26 : ∀ (Vcrd_26 : FV), k_26 Vcrd_26 = some out → ∀ (H : Heap) (locs : List Loc), va_P D vwCl (List.flatten [(w_Crd cs o_crd h_crd I_crd Vcrd_26)]) H → va_D A (List.flatten [(w_Crd cs o_crd h_crd I_crd Vcrd_26)]) → va_S A s.heap H locs → ∀ ls : Array Slot, lv_has ls 6 [(0, .ref o_crd), (3, .int t0_14)] → W p l e rm_Crd_spread s m args below meth c H locs 0 0 Q (F0 m 116 ls [])), ∀ (n_26 : Nat) (x5_26 : Int32) (Vcrd_26 : FV), Crd_spread_L26 f x1 y1 t0_14 x2 k_26 n_26 x5_26 Vcrd_26 = some out → ∀ (H : Heap) (locs : List Loc), va_P D vwCl (List.flatten [(w_Crd cs o_crd h_crd I_crd Vcrd_26)]) H → va_D A (List.flatten [(w_Crd cs o_crd h_crd I_crd Vcrd_26)]) → va_S A s.heap H locs → ∀ ls : Array Slot, lv_has ls 6 [(0, .ref o_crd), (1, .int x1), (2, .int x2), (3, .int t0_14), (4, .int y1), (5, .int x5_26)] → W p l e rm_Crd_spread s m args below meth c H locs 0 0 Q (F0 m 26 ls []) := by
      intro k_26 hk_26 n_26
      induction n_26 with
      | zero => intro x5_26 Vcrd_26 hf; rw [Crd_spread_L26] at hf; cases hf
      | succ n_26 ih_26 =>
        intro x5_26 Vcrd_26 hf H locs hP hD hS ls hl
        rw [Crd_spread_L26] at hf
        refine lv_iload hx hb dX1_spread_26 (lv_at hl 5 rfl) ?_
        refine lv_iload_n hx hb dX1_spread_28 rfl (lv_at hl 1 rfl) ?_
        refine lv_icmp_ge (tgt := 116) hx hb dX1_spread_29 (by decide) (fun c29 => ?_) (fun c29 => ?_)
        · replace hf := ip c29 hf
          exact hk_26 Vcrd_26 hf _ _ hP hD hS _ (lv_sub hl [0, 3] rfl)
        · replace hf := im c29 hf
          refine lv_aload_n hx hb dX1_spread_32 rfl (lv_at hl 0 rfl) ?_
          refine va_get (D := D) (ci := 1) (v := .ref (h_crd 0)) (C := RX1) (T := TX1) (N := 4) hx hb hts in_X1 hown hK hP 0 rfl rfl 0 (by decide) g_9 (fun _ h9 => h9) rfl dX1_spread_33 ?_
          refine lv_iload hx hb dX1_spread_36 (lv_at hl 5 rfl) ?_
          refine lv_iload_n hx hb dX1_spread_38 rfl (lv_at hl 1 rfl) ?_
          refine lv_ior hx hb dX1_spread_39 ?_
          refine lv_aload_n hx hb dX1_spread_40 rfl (lv_at hl 0 rfl) ?_
          refine va_get (D := D) (ci := 1) (v := .ref (h_crd 0)) (C := RX1) (T := TX1) (N := 4) hx hb hts in_X1 hown hK hP 0 rfl rfl 0 (by decide) g_9 (fun _ h9 => h9) rfl dX1_spread_41 ?_
          refine lv_iload hx hb dX1_spread_44 (lv_at hl 5 rfl) ?_
          obtain ⟨c46, hf⟩ := gd hf
          refine va_iald (f := (Vcrd_26 0)) hx hb hK hP 1 0 rfl rfl c46 dX1_spread_46 ?_
          refine lv_iload hx hb dX1_spread_47 (lv_at hl 4 rfl) ?_
          refine lv_iadd hx hb dX1_spread_49 ?_
          obtain ⟨c50, hf⟩ := gd hf
          refine va_iast (f := (Vcrd_26 0)) hx hb hK hP hD hS 1 0 rfl rfl c50 dX1_spread_50 (fun H locs hP hD hS => ?_)
          obtain ⟨V2, eV2, hf⟩ := nme hf
          have hP : va_P D vwCl (List.flatten [(w_Crd cs o_crd h_crd I_crd V2)]) H := by rw [eV2]; exact hP
          have hD : va_D A (List.flatten [(w_Crd cs o_crd h_crd I_crd V2)]) := by rw [eV2]; exact hD
          refine lv_aload_n hx hb dX1_spread_51 rfl (lv_at hl 0 rfl) ?_
          refine va_get (D := D) (ci := 1) (v := .ref (h_crd 1)) (C := RX1) (T := TX1) (N := 4) hx hb hts in_X1 hown hK hP 0 rfl rfl 1 (by decide) g_15 (fun _ h9 => h9) rfl dX1_spread_52 ?_
          refine lv_iload hx hb dX1_spread_55 (lv_at hl 5 rfl) ?_
          refine lv_iload_n hx hb dX1_spread_57 rfl (lv_at hl 1 rfl) ?_
          refine lv_ior hx hb dX1_spread_58 ?_
          refine lv_iload_n hx hb dX1_spread_59 rfl (lv_at hl 3 rfl) ?_
          obtain ⟨j76, ej76, hf⟩ := nme hf
          have J76 : ∀ (t2_76 : Int32), j76 t2_76 = some out → ∀ (H : Heap) (locs : List Loc), va_P D vwCl (List.flatten [(w_Crd cs o_crd h_crd I_crd V2)]) H → va_D A (List.flatten [(w_Crd cs o_crd h_crd I_crd V2)]) → va_S A s.heap H locs → ∀ ls : Array Slot, lv_has ls 6 [(0, .ref o_crd), (1, .int x1), (2, .int x2), (3, .int t0_14), (4, .int y1), (5, .int x5_26)] → W p l e rm_Crd_spread s m args below meth c H locs 0 0 Q (F0 m 76 ls [.int t2_76, .int (x5_26 ||| x1), .ref (h_crd 1)]) := by
            intro t2_76 hf H locs hP hD hS ls hl
            rw [ej76] at hf
            obtain ⟨c76, hf⟩ := gd hf
            refine va_iast (f := (V2 1)) hx hb hK hP hD hS 2 0 rfl rfl c76 dX1_spread_76 (fun H locs hP hD hS => ?_)
            obtain ⟨V3, eV3, hf⟩ := nme hf
            have hP : va_P D vwCl (List.flatten [(w_Crd cs o_crd h_crd I_crd V3)]) H := by rw [eV3]; exact hP
            have hD : va_D A (List.flatten [(w_Crd cs o_crd h_crd I_crd V3)]) := by rw [eV3]; exact hD
            refine lv_aload_n hx hb dX1_spread_77 rfl (lv_at hl 0 rfl) ?_
            refine va_get (D := D) (ci := 1) (v := .ref (h_crd 1)) (C := RX1) (T := TX1) (N := 4) hx hb hts in_X1 hown hK hP 0 rfl rfl 1 (by decide) g_15 (fun _ h9 => h9) rfl dX1_spread_78 ?_
            refine lv_iload hx hb dX1_spread_81 (lv_at hl 5 rfl) ?_
            refine lv_iload_n hx hb dX1_spread_83 rfl (lv_at hl 3 rfl) ?_
            obtain ⟨j109, ej109, hf⟩ := nme hf
            have J109 : ∀ (t2_109 : Int32), j109 t2_109 = some out → ∀ (H : Heap) (locs : List Loc), va_P D vwCl (List.flatten [(w_Crd cs o_crd h_crd I_crd V3)]) H → va_D A (List.flatten [(w_Crd cs o_crd h_crd I_crd V3)]) → va_S A s.heap H locs → ∀ ls : Array Slot, lv_has ls 6 [(0, .ref o_crd), (1, .int x1), (2, .int x2), (3, .int t0_14), (4, .int y1), (5, .int x5_26)] → W p l e rm_Crd_spread s m args below meth c H locs 0 0 Q (F0 m 109 ls [.int t2_109, .int x5_26, .ref (h_crd 1)]) := by
              intro t2_109 hf H locs hP hD hS ls hl
              rw [ej109] at hf
              obtain ⟨c109, hf⟩ := gd hf
              refine va_iast (f := (V3 1)) hx hb hK hP hD hS 2 0 rfl rfl c109 dX1_spread_109 (fun H locs hP hD hS => ?_)
              obtain ⟨V4, eV4, hf⟩ := nme hf
              have hP : va_P D vwCl (List.flatten [(w_Crd cs o_crd h_crd I_crd V4)]) H := by rw [eV4]; exact hP
              have hD : va_D A (List.flatten [(w_Crd cs o_crd h_crd I_crd V4)]) := by rw [eV4]; exact hD
              refine lv_iinc (v := (x5_26 + 1)) (lv' := [(5, .int (x5_26 + 1)), (0, .ref o_crd), (1, .int x1), (2, .int x2), (3, .int t0_14), (4, .int y1)]) hx hb dX1_spread_110 hl (k := 5) rfl (by rfl) (by decide) rfl (fun ls hl => ?_)
              refine lv_goto (tgt := 26) hx hb dX1_spread_113 (by decide) ?_
              exact ih_26 (x5_26 + 1) V4 hf _ _ hP hD hS _ (lv_sub hl [1, 2, 3, 4, 5, 0] rfl)
            refine lv_if_eq (tgt := 102) hx hb dX1_spread_84 (by decide) (fun c84 => ?_) (fun c84 => ?_)
            · replace hf := ip c84 hf
              refine lv_aload_n hx hb dX1_spread_102 rfl (lv_at hl 0 rfl) ?_
              refine va_get (D := D) (ci := 1) (v := .ref (h_crd 1)) (C := RX1) (T := TX1) (N := 4) hx hb hts in_X1 hown hK hP 0 rfl rfl 1 (by decide) g_15 (fun _ h9 => h9) rfl dX1_spread_103 ?_
              refine lv_iload hx hb dX1_spread_106 (lv_at hl 5 rfl) ?_
              obtain ⟨c108, hf⟩ := gd hf
              refine va_iald (f := (V3 1)) hx hb hK hP 2 0 rfl rfl c108 dX1_spread_108 ?_
              exact J109 ((V3 1) x5_26.toNatClampNeg) hf _ _ hP hD hS _ (lv_sub hl [0, 1, 2, 3, 4, 5] rfl)
            · replace hf := im c84 hf
              refine lv_aload_n hx hb dX1_spread_87 rfl (lv_at hl 0 rfl) ?_
              refine va_get (D := D) (ci := 1) (v := .ref (h_crd 1)) (C := RX1) (T := TX1) (N := 4) hx hb hts in_X1 hown hK hP 0 rfl rfl 1 (by decide) g_15 (fun _ h9 => h9) rfl dX1_spread_88 ?_
              refine lv_iload hx hb dX1_spread_91 (lv_at hl 5 rfl) ?_
              obtain ⟨c93, hf⟩ := gd hf
              refine va_iald (f := (V3 1)) hx hb hK hP 2 0 rfl rfl c93 dX1_spread_93 ?_
              refine lv_bipush (v := 10) hx hb dX1_spread_94 (by decide) ?_
              refine lv_iload_n hx hb dX1_spread_96 rfl (lv_at hl 2 rfl) ?_
              refine lv_isub hx hb dX1_spread_97 ?_
              refine lv_imul hx hb dX1_spread_98 ?_
              refine lv_goto (tgt := 109) hx hb dX1_spread_99 (by decide) ?_
              exact J109 (((V3 1) x5_26.toNatClampNeg) * (10 - x2)) hf _ _ hP hD hS _ (lv_sub hl [0, 1, 2, 3, 4, 5] rfl)
          refine lv_if_eq (tgt := 75) hx hb dX1_spread_60 (by decide) (fun c60 => ?_) (fun c60 => ?_)
          · replace hf := ip c60 hf
            refine lv_iconst (v := 0) hx hb dX1_spread_75 (by decide) ?_
            exact J76 0 hf _ _ hP hD hS _ (lv_sub hl [0, 1, 2, 3, 4, 5] rfl)
          · replace hf := im c60 hf
            refine lv_aload_n hx hb dX1_spread_63 rfl (lv_at hl 0 rfl) ?_
            refine va_get (D := D) (ci := 1) (v := .ref (h_crd 1)) (C := RX1) (T := TX1) (N := 4) hx hb hts in_X1 hown hK hP 0 rfl rfl 1 (by decide) g_15 (fun _ h9 => h9) rfl dX1_spread_64 ?_
            refine lv_iload hx hb dX1_spread_67 (lv_at hl 5 rfl) ?_
            obtain ⟨c69, hf⟩ := gd hf
            refine va_iald (f := (V2 1)) hx hb hK hP 2 0 rfl rfl c69 dX1_spread_69 ?_
            refine lv_iload_n hx hb dX1_spread_70 rfl (lv_at hl 2 rfl) ?_
            refine lv_imul hx hb dX1_spread_71 ?_
            refine lv_goto (tgt := 76) hx hb dX1_spread_72 (by decide) ?_
            exact J76 (((V2 1) x5_26.toNatClampNeg) * x2) hf _ _ hP hD hS _ (lv_sub hl [0, 1, 2, 3, 4, 5] rfl)
    refine L26 _ (fun Vcrd_26 hf H locs hP hD hS ls hl => ?_) f 0 V_crd hf _ _ hP hD hS _ (lv_sub hl [3, 4, 5, 2, 1, 0] rfl)
    refine lv_aload_n hx hb dX1_spread_116 rfl (lv_at hl 0 rfl) ?_
    refine lv_iload_n hx hb dX1_spread_117 rfl (lv_at hl 1 rfl) ?_
    refine lv_if_eq (tgt := 131) hx hb dX1_spread_118 (by decide) (fun c118 => ?_) (fun c118 => ?_)
    · replace hf := ip c118 hf
      refine lv_aload_n hx hb dX1_spread_131 rfl (lv_at hl 0 rfl) ?_
      refine va_get (D := D) (ci := 1) (v := .int (I_crd 3)) (C := RX1) (T := TX1) (N := 4) hx hb hts in_X1 hown hK hP 0 rfl rfl 3 (by decide) g_22 (fun _ h9 => h9) rfl dX1_spread_132 ?_
      refine va_put (D := D) (ci := 1) (v := .int (I_crd 3)) (ty := .int) (C := RX1) (T := TX1) (N := 4) hx hb hts in_X1 tyX1 tyX1_ok nmX1 hown hK hP hD hS 0 rfl rfl 3 (by decide) g_22 (fun _ h9 => h9) rfl (by decide +kernel) rfl rfl (Nat.le_of_ble_eq_true rfl) dX1_spread_135 (fun H locs hP hD hS => ?_)
      obtain ⟨I5, eI5, hf⟩ := nme hf
      have hP : va_P D vwCl (List.flatten [(w_Crd cs o_crd h_crd I5 Vcrd_26)]) H := by rw [eI5]; exact hP
      have hD : va_D A (List.flatten [(w_Crd cs o_crd h_crd I5 Vcrd_26)]) := by rw [eI5]; exact hD
      exact hret I5 Vcrd_26 _ _ 138 _ hf hP hD hS dX1_spread_138
    · replace hf := im c118 hf
      refine lv_aload_n hx hb dX1_spread_121 rfl (lv_at hl 0 rfl) ?_
      refine va_get (D := D) (ci := 1) (v := .int (I_crd 3)) (C := RX1) (T := TX1) (N := 4) hx hb hts in_X1 hown hK hP 0 rfl rfl 3 (by decide) g_22 (fun _ h9 => h9) rfl dX1_spread_122 ?_
      refine lv_bipush (v := 10) hx hb dX1_spread_125 (by decide) ?_
      refine lv_imul hx hb dX1_spread_127 ?_
      refine lv_goto (tgt := 135) hx hb dX1_spread_128 (by decide) ?_
      refine va_put (D := D) (ci := 1) (v := .int ((I_crd 3) * 10)) (ty := .int) (C := RX1) (T := TX1) (N := 4) hx hb hts in_X1 tyX1 tyX1_ok nmX1 hown hK hP hD hS 0 rfl rfl 3 (by decide) g_22 (fun _ h9 => h9) rfl (by decide +kernel) rfl rfl (Nat.le_of_ble_eq_true rfl) dX1_spread_135 (fun H locs hP hD hS => ?_)
      obtain ⟨I6, eI6, hf⟩ := nme hf
      have hP : va_P D vwCl (List.flatten [(w_Crd cs o_crd h_crd I6 Vcrd_26)]) H := by rw [eI6]; exact hP
      have hD : va_D A (List.flatten [(w_Crd cs o_crd h_crd I6 Vcrd_26)]) := by rw [eI6]; exact hD
      exact hret I6 Vcrd_26 _ _ 138 _ hf hP hD hS dX1_spread_138
  refine lv_if_eq (tgt := 13) hx hb dX1_spread_6 (by decide) (fun c6 => ?_) (fun c6 => ?_)
  · replace hf := ip c6 hf
    refine lv_iconst (v := 0) hx hb dX1_spread_13 (by decide) ?_
    exact J14 0 hf _ _ hP hD hS _ (lv_sub hl [0, 1, 2] rfl)
  · replace hf := im c6 hf
    refine lv_iconst (v := 1) hx hb dX1_spread_9 (by decide) ?_
    refine lv_goto (tgt := 14) hx hb dX1_spread_10 (by decide) ?_
    exact J14 1 hf _ _ hP hD hS _ (lv_sub hl [0, 1, 2] rfl)
set_option maxHeartbeats 4000000 in
set_option maxRecDepth 100000 in
theorem c_Crd_spread (l : Launch) (D : va_G) (cs : Nat → ClassId) (o_crd : Nat) (h_crd : Nat → Nat) (sz : Nat) (I_crd : FI) (V_crd : FV) (x1 : Int32) (x2 : Int32) (f : Nat) (out : FI × FV) (hf : Crd_spread f x1 x2 I_crd V_crd = some out) : Met l yX1_spread wsX1_spread rm_Crd_spread (va_Pc [.ref o_crd, .int x1, .int x2] (yP D cs (List.flatten [(w_Crd cs o_crd h_crd I_crd V_crd)]) sz)) (va_Qv (fun u => u = out) (fun (u : FI × FV) t => xA D cs (va_A (List.flatten [(w_Crd cs o_crd h_crd I_crd V_crd)]) sz) (List.flatten [(w_Crd cs o_crd h_crd u.1 u.2)]) t) (va_A (List.flatten [(w_Crd cs o_crd h_crd I_crd V_crd)]) sz)) 0 0 (va_A (List.flatten [(w_Crd cs o_crd h_crd I_crd V_crd)]) sz) := by
  refine Met.ofW (cc := cX1_spread) (maxL := 6) (ret := none) (by decide) rfl ?_
  intro p e s m args below meth c s₁ B hml hv
  obtain ⟨ha, hsz, hP, hK, hN, hD0⟩ := hv
  have hx := B.exec
  have hb := B.bytes
  have hr := B.returns
  have hts := atoms_spec (ws := wsX1_spread) B.pre
  have hown : s.vm.findClass RX1 = some m.cls := findClass_of_methodNamed B.named
  have hlocks := B.notSynchronized
  have in_X1 : ∀ w ∈ u_ws RX1 TX1 4, w ∈ wsX1_spread := fun w h => List.mem_cons_of_mem _ (List.mem_append_right _ h)
  have g_18 := hts (Cond.fieldLink RX1 18 "DaysLent$Creditors" "all" "I") (by decide +kernel)
  have g_9 := hts (Cond.fieldLink RX1 9 "DaysLent$Creditors" "asked" "[I") (by decide +kernel)
  have g_15 := hts (Cond.fieldLink RX1 15 "DaysLent$Creditors" "ways" "[I") (by decide +kernel)
  have g_22 := hts (Cond.fieldLink RX1 22 "DaysLent$Creditors" "allWays" "I") (by decide +kernel)
  subst hsz
  have hD := hD0.self (sz := s.heap.size)
  generalize hAe : va_A (List.flatten [(w_Crd cs o_crd h_crd I_crd V_crd)]) s.heap.size = A at hD ⊢
  have hA : ∀ q : Nat, s.heap.size ≤ q → A q := fun q h => by rw [← hAe]; exact Or.inr h
  have hl := lv_entry ([.ref o_crd, .int x1, .int x2]) (n := 6) (Nat.le_of_ble_eq_true rfl)
  rw [show entryFrame m args 6 = entryFrame m ([.ref o_crd, .int x1, .int x2] : List Value).toArray 6 from by rw [ha], lg_entry_eq]
  generalize (lg_sl ([.ref o_crd, .int x1, .int x2]) ++ List.replicate (6 - (lg_sl ([.ref o_crd, .int x1, .int x2])).length) Slot.unset).toArray = ls at hl ⊢
  generalize hQ : MQ below (va_Qv (fun u => u = out) (fun (u : FI × FV) t => xA D cs A (List.flatten [(w_Crd cs o_crd h_crd u.1 u.2)]) t) A) args s 0 0 A = Q
  have hret : ∀ (Icrd9 : FI) (Vcrd9 : FV) (H : Heap) (locs : List Loc) (pc : Nat) (ls : Array Slot), some (Icrd9, Vcrd9) = some out → va_P D vwCl (List.flatten [(w_Crd cs o_crd h_crd Icrd9 Vcrd9)]) H → va_D A (List.flatten [(w_Crd cs o_crd h_crd Icrd9 Vcrd9)]) → va_S A s.heap H locs → decode cX1_spread pc = .ok (.return_, 1) → W p l e rm_Crd_spread s m args below meth c H locs 0 0 Q (F0 m pc ls []) := by
    intro Icrd9 Vcrd9 H locs pc ls hf hP hD hS hd
    rw [← hQ]
    exact W.vret hx hb hr (fun t ht hW => ⟨⟨(Icrd9, Vcrd9), rfl, Option.some.inj hf, by show va_P D vwCl (List.flatten [(w_Crd cs o_crd h_crd Icrd9 Vcrd9)]) t.heap; rw [ht]; exact hP, va_K.moved hW.alike hK, hD⟩, hS.F ht⟩) hS.2.2 hd
  exact v_Crd_spread hf hx hb hml hown hts in_X1 g_18 g_9 g_15 g_22 hA hP hD hK hN hret ls hl
def Crd_waysWithin_L4 {ρ : Type} (f : Nat) (I_crd : FI) (x1 : Int32) (V_crd : FV) (k_4 : Int32 → Option ρ) : Nat → Int32 → Int32 → Option ρ
  | 0, _, _ => none
  | n_4 + 1, x2_4, x3_4 => (if (I_crd 2) < x3_4 then (k_4 x2_4) else if x3_4 < 0 ∨ 64 ≤ x3_4.toNatClampNeg then none else ((nm (fun (x2_31 : Int32) => (Crd_waysWithin_L4 f I_crd x1 V_crd k_4 n_4 x2_31 (x3_4 + 1))) (fun j31 => (if x1 < ((V_crd 0) x3_4.toNatClampNeg) then (j31 x2_4) else if x3_4 < 0 ∨ 64 ≤ x3_4.toNatClampNeg then none else (nm (x2_4 + ((V_crd 1) x3_4.toNatClampNeg)) (fun y1 => (j31 y1))))))))
def Crd_waysWithin (f : Nat) (x1 : Int32) (I_crd : FI) (V_crd : FV) : Option (Int32) := (Crd_waysWithin_L4 f I_crd x1 V_crd (fun (x2_4 : Int32) => some x2_4) f 0 0)
abbrev rm_Crd_waysWithin : Room := { frames := 0, cells := 0, slots := 0, locals := 0 }
set_option maxHeartbeats 4000000 in
set_option maxRecDepth 100000 in
theorem v_Crd_waysWithin {l : Launch} {p : Program} {e : Env} {s : State} {m : MethodId} {args : Array Value} {below : List Frame} {meth : Method} {c : Code} {Q : State → Prop} {D : va_G} {cs : Nat → ClassId} {o_crd : Nat} {h_crd : Nat → Nat} {I_crd : FI} {V_crd : FV} {x1 : Int32} {f : Nat} {out : Int32} (hf : Crd_waysWithin f x1 I_crd V_crd = some out) (hx : p.tables.exec = Jvm.exec) (hb : c.code = cX1_waysWithin) (hml : c.maxLocals = 4) (hown : s.vm.findClass RX1 = some m.cls) (hts : ∀ w ∈ wsX1_waysWithin, w.before args s = true) (in_X1 : ∀ w ∈ u_ws RX1 TX1 4, w ∈ wsX1_waysWithin) (g_18 : (Cond.fieldLink RX1 18 "DaysLent$Creditors" "all" "I").before args s = true) (g_9 : (Cond.fieldLink RX1 9 "DaysLent$Creditors" "asked" "[I").before args s = true) (g_15 : (Cond.fieldLink RX1 15 "DaysLent$Creditors" "ways" "[I").before args s = true) (hP : va_P D vwCl (List.flatten [(w_Crd cs o_crd h_crd I_crd V_crd)]) s.heap) (hK : va_K D vwCl (tyA cs) s) (hN : yN s) (hret : ∀ (v : Int32) (pc : Nat) (ls : Array Slot), some v = some out → decode cX1_waysWithin pc = .ok (.ireturn, 1) → W p l e rm_Crd_waysWithin s m args below meth c s.heap [] 0 0 Q (F0 m pc ls [.int v])) : ∀ ls : Array Slot, lv_has ls 4 [(0, .ref o_crd), (1, .int x1)] → W p l e rm_Crd_waysWithin s m args below meth c s.heap [] 0 0 Q (F0 m 0 ls []) := by
  intro ls hl
  unfold Crd_waysWithin at hf
  refine lv_iconst (v := 0) hx hb dX1_waysWithin_0 (by decide) ?_
  refine lv_istore_n (lv' := [(2, .int 0), (0, .ref o_crd), (1, .int x1)]) hx hb dX1_waysWithin_1 rfl hl (by decide) rfl (fun ls hl => ?_)
  refine lv_iconst (v := 0) hx hb dX1_waysWithin_2 (by decide) ?_
  refine lv_istore_n (lv' := [(3, .int 0), (2, .int 0), (0, .ref o_crd), (1, .int x1)]) hx hb dX1_waysWithin_3 rfl hl (by decide) rfl (fun ls hl => ?_)
  have L4 : ∀ (k_4 : Int32 → Option (Int32)) (hk_4 : ∀ (x2_4 : Int32), k_4 x2_4 = some out → ∀ ls : Array Slot, lv_has ls 4 [(2, .int x2_4)] → W p l e rm_Crd_waysWithin s m args below meth c s.heap [] 0 0 Q (F0 m 37 ls [])), ∀ (n_4 : Nat) (x2_4 : Int32) (x3_4 : Int32), Crd_waysWithin_L4 f I_crd x1 V_crd k_4 n_4 x2_4 x3_4 = some out → ∀ ls : Array Slot, lv_has ls 4 [(0, .ref o_crd), (1, .int x1), (2, .int x2_4), (3, .int x3_4)] → W p l e rm_Crd_waysWithin s m args below meth c s.heap [] 0 0 Q (F0 m 4 ls []) := by
    intro k_4 hk_4 n_4
    induction n_4 with
    | zero => intro x2_4 x3_4 hf; rw [Crd_waysWithin_L4] at hf; cases hf
    | succ n_4 ih_4 =>
      intro x2_4 x3_4 hf ls hl
      rw [Crd_waysWithin_L4] at hf
      refine lv_iload_n hx hb dX1_waysWithin_4 rfl (lv_at hl 3 rfl) ?_
      refine lv_aload_n hx hb dX1_waysWithin_5 rfl (lv_at hl 0 rfl) ?_
      refine va_get (D := D) (ci := 1) (v := .int (I_crd 2)) (C := RX1) (T := TX1) (N := 4) hx hb hts in_X1 hown hK hP 0 rfl rfl 2 (by decide) g_18 (fun _ h9 => h9) rfl dX1_waysWithin_6 ?_
      refine lv_icmp_gt (tgt := 37) hx hb dX1_waysWithin_9 (by decide) (fun c9 => ?_) (fun c9 => ?_)
      · replace hf := ip c9 hf
        exact hk_4 x2_4 hf _ (lv_sub hl [2] rfl)
      · replace hf := im c9 hf
        refine lv_aload_n hx hb dX1_waysWithin_12 rfl (lv_at hl 0 rfl) ?_
        refine va_get (D := D) (ci := 1) (v := .ref (h_crd 0)) (C := RX1) (T := TX1) (N := 4) hx hb hts in_X1 hown hK hP 0 rfl rfl 0 (by decide) g_9 (fun _ h9 => h9) rfl dX1_waysWithin_13 ?_
        refine lv_iload_n hx hb dX1_waysWithin_16 rfl (lv_at hl 3 rfl) ?_
        obtain ⟨c17, hf⟩ := gd hf
        refine va_iald (f := (V_crd 0)) hx hb hK hP 1 0 rfl rfl c17 dX1_waysWithin_17 ?_
        refine lv_iload_n hx hb dX1_waysWithin_18 rfl (lv_at hl 1 rfl) ?_
        obtain ⟨j31, ej31, hf⟩ := nme hf
        have J31 : ∀ (x2_31 : Int32), j31 x2_31 = some out → ∀ ls : Array Slot, lv_has ls 4 [(0, .ref o_crd), (1, .int x1), (2, .int x2_31), (3, .int x3_4)] → W p l e rm_Crd_waysWithin s m args below meth c s.heap [] 0 0 Q (F0 m 31 ls []) := by
          intro x2_31 hf ls hl
          rw [ej31] at hf
          refine lv_iinc (v := (x3_4 + 1)) (lv' := [(3, .int (x3_4 + 1)), (0, .ref o_crd), (1, .int x1), (2, .int x2_31)]) hx hb dX1_waysWithin_31 hl (k := 3) rfl (by rfl) (by decide) rfl (fun ls hl => ?_)
          refine lv_goto (tgt := 4) hx hb dX1_waysWithin_34 (by decide) ?_
          exact ih_4 x2_31 (x3_4 + 1) hf _ (lv_sub hl [1, 2, 3, 0] rfl)
        refine lv_icmp_gt (tgt := 31) hx hb dX1_waysWithin_19 (by decide) (fun c19 => ?_) (fun c19 => ?_)
        · replace hf := ip c19 hf
          exact J31 x2_4 hf _ (lv_sub hl [0, 1, 2, 3] rfl)
        · replace hf := im c19 hf
          refine lv_iload_n hx hb dX1_waysWithin_22 rfl (lv_at hl 2 rfl) ?_
          refine lv_aload_n hx hb dX1_waysWithin_23 rfl (lv_at hl 0 rfl) ?_
          refine va_get (D := D) (ci := 1) (v := .ref (h_crd 1)) (C := RX1) (T := TX1) (N := 4) hx hb hts in_X1 hown hK hP 0 rfl rfl 1 (by decide) g_15 (fun _ h9 => h9) rfl dX1_waysWithin_24 ?_
          refine lv_iload_n hx hb dX1_waysWithin_27 rfl (lv_at hl 3 rfl) ?_
          obtain ⟨c28, hf⟩ := gd hf
          refine va_iald (f := (V_crd 1)) hx hb hK hP 2 0 rfl rfl c28 dX1_waysWithin_28 ?_
          refine lv_iadd hx hb dX1_waysWithin_29 ?_
          refine lv_topi (fun y1 ey1 => ?_)
          replace hf := nmd hf ey1
          refine lv_istore_n (lv' := [(2, .int y1), (0, .ref o_crd), (1, .int x1), (3, .int x3_4)]) hx hb dX1_waysWithin_30 rfl hl (by decide) rfl (fun ls hl => ?_)
          exact J31 y1 hf _ (lv_sub hl [1, 2, 0, 3] rfl)
  refine L4 _ (fun x2_4 hf ls hl => ?_) f 0 0 hf _ (lv_sub hl [2, 3, 1, 0] rfl)
  refine lv_iload_n hx hb dX1_waysWithin_37 rfl (lv_at hl 0 rfl) ?_
  exact hret x2_4 38 _ hf dX1_waysWithin_38
set_option maxHeartbeats 4000000 in
set_option maxRecDepth 100000 in
theorem c_Crd_waysWithin (l : Launch) (D : va_G) (cs : Nat → ClassId) (o_crd : Nat) (h_crd : Nat → Nat) (I_crd : FI) (V_crd : FV) (x1 : Int32) (f : Nat) (out : Int32) (hf : Crd_waysWithin f x1 I_crd V_crd = some out) : Met l yX1_waysWithin wsX1_waysWithin rm_Crd_waysWithin (va_Pc [.ref o_crd, .int x1] (yR D cs (List.flatten [(w_Crd cs o_crd h_crd I_crd V_crd)]))) (vp_Si (fun r => r = out)) 0 0 (fun _ => False) := by
  refine Met.ofW (cc := cX1_waysWithin) (maxL := 4) (ret := (some .int)) (by decide) rfl ?_
  intro p e s m args below meth c s₁ B hml hv
  obtain ⟨ha, hP, hK, hN⟩ := hv
  have hx := B.exec
  have hb := B.bytes
  have hr := B.returns
  have hts := atoms_spec (ws := wsX1_waysWithin) B.pre
  have hown : s.vm.findClass RX1 = some m.cls := findClass_of_methodNamed B.named
  have hlocks := B.notSynchronized
  have in_X1 : ∀ w ∈ u_ws RX1 TX1 4, w ∈ wsX1_waysWithin := fun w h => List.mem_cons_of_mem _ (List.mem_append_right _ h)
  have g_18 := hts (Cond.fieldLink RX1 18 "DaysLent$Creditors" "all" "I") (by decide +kernel)
  have g_9 := hts (Cond.fieldLink RX1 9 "DaysLent$Creditors" "asked" "[I") (by decide +kernel)
  have g_15 := hts (Cond.fieldLink RX1 15 "DaysLent$Creditors" "ways" "[I") (by decide +kernel)
  have hl := lv_entry ([.ref o_crd, .int x1]) (n := 4) (Nat.le_of_ble_eq_true rfl)
  rw [show entryFrame m args 4 = entryFrame m ([.ref o_crd, .int x1] : List Value).toArray 4 from by rw [ha], lg_entry_eq]
  generalize (lg_sl ([.ref o_crd, .int x1]) ++ List.replicate (4 - (lg_sl ([.ref o_crd, .int x1])).length) Slot.unset).toArray = ls at hl ⊢
  generalize hQ : MQ below (vp_Si (fun r => r = out)) args s 0 0 (fun _ => False) = Q
  have hret : ∀ (v : Int32) (pc : Nat) (ls : Array Slot), some v = some out → decode cX1_waysWithin pc = .ok (.ireturn, 1) → W p l e rm_Crd_waysWithin s m args below meth c s.heap [] 0 0 Q (F0 m pc ls [.int v]) := by
    intro v pc ls hf hd
    rw [← hQ]
    exact W.iret (v := v) hx hb hr (fun t ht hW => ⟨v, rfl, Option.some.inj hf, ht⟩) (fun q h => by cases h) hd
  exact v_Crd_waysWithin hf hx hb hml hown hts in_X1 g_18 g_9 g_15 hP hK hN hret ls hl
def Crd_leastEnough_L12 {ρ : Type} (f : Nat) (I_crd : FI) (V_crd : FV) (x1 : Int32) (k_12 : Int32 → Option ρ) : Nat → Int32 → Int32 → Option ρ
  | 0, _, _ => none
  | n_12 + 1, x2_12, x3_12 => (if (I_crd 2) ≤ x3_12 then (k_12 x2_12) else if x3_12 < 0 ∨ 64 ≤ x3_12.toNatClampNeg then none else ((nm (fun (x2_59 : Int32) => (Crd_leastEnough_L12 f I_crd V_crd x1 k_12 n_12 x2_59 (x3_12 + 1))) (fun j59 => (if x2_12 ≤ ((V_crd 0) x3_12.toNatClampNeg) then (j59 x2_12) else if x3_12 < 0 ∨ 64 ≤ x3_12.toNatClampNeg then none else (ob1 (Crd_waysWithin f ((V_crd 0) x3_12.toNatClampNeg) I_crd V_crd) (fun zr2 => (if (zr2 * 100) < (x1 * (I_crd 3)) then (j59 x2_12) else if x3_12 < 0 ∨ 64 ≤ x3_12.toNatClampNeg then none else (nm ((V_crd 0) x3_12.toNatClampNeg) (fun y3 => (j59 y3)))))))))))
def Crd_leastEnough (f : Nat) (x1 : Int32) (I_crd : FI) (V_crd : FV) : Option (Int32) := if (I_crd 2) < 0 ∨ 64 ≤ (I_crd 2).toNatClampNeg then none else (nm ((V_crd 0) (I_crd 2).toNatClampNeg) (fun y1 => (Crd_leastEnough_L12 f I_crd V_crd x1 (fun (x2_12 : Int32) => some x2_12) f y1 0)))
abbrev rm_Crd_leastEnough : Room := { frames := 1, cells := 0, slots := 0, locals := 23 }
set_option maxHeartbeats 4000000 in
set_option maxRecDepth 100000 in
theorem v_Crd_leastEnough {l : Launch} {p : Program} {e : Env} {s : State} {m : MethodId} {args : Array Value} {below : List Frame} {meth : Method} {c : Code} {Q : State → Prop} {D : va_G} {cs : Nat → ClassId} {o_crd : Nat} {h_crd : Nat → Nat} {I_crd : FI} {V_crd : FV} {x1 : Int32} {f : Nat} {out : Int32} (hf : Crd_leastEnough f x1 I_crd V_crd = some out) (hx : p.tables.exec = Jvm.exec) (hb : c.code = cX1_leastEnough) (hml : c.maxLocals = 4) (hown : s.vm.findClass RX1 = some m.cls) (hts : ∀ w ∈ wsX1_leastEnough, w.before args s = true) (in_X1 : ∀ w ∈ u_ws RX1 TX1 4, w ∈ wsX1_leastEnough) (g_9 : (Cond.fieldLink RX1 9 "DaysLent$Creditors" "asked" "[I").before args s = true) (g_18 : (Cond.fieldLink RX1 18 "DaysLent$Creditors" "all" "I").before args s = true) (w_waysWithin_46 : CallW rm_Crd_leastEnough s args RX1 RX1 46 yX1_waysWithin cX1_waysWithin 4 (some .int) wsX1_waysWithin rm_Crd_waysWithin 0 0 1) (g_22 : (Cond.fieldLink RX1 22 "DaysLent$Creditors" "allWays" "I").before args s = true) (hP : va_P D vwCl (List.flatten [(w_Crd cs o_crd h_crd I_crd V_crd)]) s.heap) (hK : va_K D vwCl (tyA cs) s) (hN : yN s) (hret : ∀ (v : Int32) (pc : Nat) (ls : Array Slot), some v = some out → decode cX1_leastEnough pc = .ok (.ireturn, 1) → W p l e rm_Crd_leastEnough s m args below meth c s.heap [] 0 0 Q (F0 m pc ls [.int v])) : ∀ ls : Array Slot, lv_has ls 4 [(0, .ref o_crd), (1, .int x1)] → W p l e rm_Crd_leastEnough s m args below meth c s.heap [] 0 0 Q (F0 m 0 ls []) := by
  intro ls hl
  unfold Crd_leastEnough at hf
  refine lv_aload_n hx hb dX1_leastEnough_0 rfl (lv_at hl 0 rfl) ?_
  refine va_get (D := D) (ci := 1) (v := .ref (h_crd 0)) (C := RX1) (T := TX1) (N := 4) hx hb hts in_X1 hown hK hP 0 rfl rfl 0 (by decide) g_9 (fun _ h9 => h9) rfl dX1_leastEnough_1 ?_
  refine lv_aload_n hx hb dX1_leastEnough_4 rfl (lv_at hl 0 rfl) ?_
  refine va_get (D := D) (ci := 1) (v := .int (I_crd 2)) (C := RX1) (T := TX1) (N := 4) hx hb hts in_X1 hown hK hP 0 rfl rfl 2 (by decide) g_18 (fun _ h9 => h9) rfl dX1_leastEnough_5 ?_
  obtain ⟨c8, hf⟩ := gd hf
  refine va_iald (f := (V_crd 0)) hx hb hK hP 1 0 rfl rfl c8 dX1_leastEnough_8 ?_
  refine lv_topi (fun y1 ey1 => ?_)
  replace hf := nmd hf ey1
  refine lv_istore_n (lv' := [(2, .int y1), (0, .ref o_crd), (1, .int x1)]) hx hb dX1_leastEnough_9 rfl hl (by decide) rfl (fun ls hl => ?_)
  refine lv_iconst (v := 0) hx hb dX1_leastEnough_10 (by decide) ?_
  refine lv_istore_n (lv' := [(3, .int 0), (2, .int y1), (0, .ref o_crd), (1, .int x1)]) hx hb dX1_leastEnough_11 rfl hl (by decide) rfl (fun ls hl => ?_)
  have L12 : ∀ (k_12 : Int32 → Option (Int32)) (hk_12 : ∀ (x2_12 : Int32), k_12 x2_12 = some out → ∀ ls : Array Slot, lv_has ls 4 [(2, .int x2_12)] → W p l e rm_Crd_leastEnough s m args below meth c s.heap [] 0 0 Q (F0 m 65 ls [])), ∀ (n_12 : Nat) (x2_12 : Int32) (x3_12 : Int32), Crd_leastEnough_L12 f I_crd V_crd x1 k_12 n_12 x2_12 x3_12 = some out → ∀ ls : Array Slot, lv_has ls 4 [(0, .ref o_crd), (1, .int x1), (2, .int x2_12), (3, .int x3_12)] → W p l e rm_Crd_leastEnough s m args below meth c s.heap [] 0 0 Q (F0 m 12 ls []) := by
    intro k_12 hk_12 n_12
    induction n_12 with
    | zero => intro x2_12 x3_12 hf; rw [Crd_leastEnough_L12] at hf; cases hf
    | succ n_12 ih_12 =>
      intro x2_12 x3_12 hf ls hl
      rw [Crd_leastEnough_L12] at hf
      refine lv_iload_n hx hb dX1_leastEnough_12 rfl (lv_at hl 3 rfl) ?_
      refine lv_aload_n hx hb dX1_leastEnough_13 rfl (lv_at hl 0 rfl) ?_
      refine va_get (D := D) (ci := 1) (v := .int (I_crd 2)) (C := RX1) (T := TX1) (N := 4) hx hb hts in_X1 hown hK hP 0 rfl rfl 2 (by decide) g_18 (fun _ h9 => h9) rfl dX1_leastEnough_14 ?_
      refine lv_icmp_ge (tgt := 65) hx hb dX1_leastEnough_17 (by decide) (fun c17 => ?_) (fun c17 => ?_)
      · replace hf := ip c17 hf
        exact hk_12 x2_12 hf _ (lv_sub hl [2] rfl)
      · replace hf := im c17 hf
        refine lv_aload_n hx hb dX1_leastEnough_20 rfl (lv_at hl 0 rfl) ?_
        refine va_get (D := D) (ci := 1) (v := .ref (h_crd 0)) (C := RX1) (T := TX1) (N := 4) hx hb hts in_X1 hown hK hP 0 rfl rfl 0 (by decide) g_9 (fun _ h9 => h9) rfl dX1_leastEnough_21 ?_
        refine lv_iload_n hx hb dX1_leastEnough_24 rfl (lv_at hl 3 rfl) ?_
        obtain ⟨c25, hf⟩ := gd hf
        refine va_iald (f := (V_crd 0)) hx hb hK hP 1 0 rfl rfl c25 dX1_leastEnough_25 ?_
        refine lv_iload_n hx hb dX1_leastEnough_26 rfl (lv_at hl 2 rfl) ?_
        obtain ⟨j59, ej59, hf⟩ := nme hf
        have J59 : ∀ (x2_59 : Int32), j59 x2_59 = some out → ∀ ls : Array Slot, lv_has ls 4 [(0, .ref o_crd), (1, .int x1), (2, .int x2_59), (3, .int x3_12)] → W p l e rm_Crd_leastEnough s m args below meth c s.heap [] 0 0 Q (F0 m 59 ls []) := by
          intro x2_59 hf ls hl
          rw [ej59] at hf
          refine lv_iinc (v := (x3_12 + 1)) (lv' := [(3, .int (x3_12 + 1)), (0, .ref o_crd), (1, .int x1), (2, .int x2_59)]) hx hb dX1_leastEnough_59 hl (k := 3) rfl (by rfl) (by decide) rfl (fun ls hl => ?_)
          refine lv_goto (tgt := 12) hx hb dX1_leastEnough_62 (by decide) ?_
          exact ih_12 x2_59 (x3_12 + 1) hf _ (lv_sub hl [1, 2, 3, 0] rfl)
        refine lv_icmp_ge (tgt := 59) hx hb dX1_leastEnough_27 (by decide) (fun c27 => ?_) (fun c27 => ?_)
        · replace hf := ip c27 hf
          exact J59 x2_12 hf _ (lv_sub hl [0, 1, 2, 3] rfl)
        · replace hf := im c27 hf
          refine lv_aload_n hx hb dX1_leastEnough_30 rfl (lv_at hl 0 rfl) ?_
          refine lv_aload_n hx hb dX1_leastEnough_31 rfl (lv_at hl 0 rfl) ?_
          refine va_get (D := D) (ci := 1) (v := .ref (h_crd 0)) (C := RX1) (T := TX1) (N := 4) hx hb hts in_X1 hown hK hP 0 rfl rfl 0 (by decide) g_9 (fun _ h9 => h9) rfl dX1_leastEnough_32 ?_
          refine lv_iload_n hx hb dX1_leastEnough_35 rfl (lv_at hl 3 rfl) ?_
          obtain ⟨c36, hf⟩ := gd hf
          refine va_iald (f := (V_crd 0)) hx hb hK hP 1 0 rfl rfl c36 dX1_leastEnough_36 ?_
          obtain ⟨zr2, qr2, hf⟩ := bd1 hf
          refine vp_callSi (va_Run.run (va_runV (As := [.int ((V_crd 0) x3_12.toNatClampNeg)]) (rest := []) ⟨hx, hb, hml, hown, hts⟩ (c_Crd_waysWithin l D cs o_crd h_crd I_crd V_crd ((V_crd 0) x3_12.toNatClampNeg) f zr2 qr2) w_waysWithin_46 ⟨yR_moved, va_recv hK hP (ci := 1) (q0 := 0) rfl rfl, fun U hU hW => ⟨rfl, by rw [hU]; exact hP, va_K.moved hW.alike hK, yN_warm hW hN⟩⟩ rfl rfl hl.1 rfl (lv_room (Nat.le_of_ble_eq_true rfl)) dX1_leastEnough_37 ⟨Nat.zero_le _, Nat.zero_le _⟩)) (fun r2 er2 => ?_)
          rw [er2]
          refine lv_bipush (v := 100) hx hb dX1_leastEnough_40 (by decide) ?_
          refine lv_imul hx hb dX1_leastEnough_42 ?_
          refine lv_iload_n hx hb dX1_leastEnough_43 rfl (lv_at hl 1 rfl) ?_
          refine lv_aload_n hx hb dX1_leastEnough_44 rfl (lv_at hl 0 rfl) ?_
          refine va_get (D := D) (ci := 1) (v := .int (I_crd 3)) (C := RX1) (T := TX1) (N := 4) hx hb hts in_X1 hown hK hP 0 rfl rfl 3 (by decide) g_22 (fun _ h9 => h9) rfl dX1_leastEnough_45 ?_
          refine lv_imul hx hb dX1_leastEnough_48 ?_
          refine lv_icmp_lt (tgt := 59) hx hb dX1_leastEnough_49 (by decide) (fun c49 => ?_) (fun c49 => ?_)
          · replace hf := ip c49 hf
            exact J59 x2_12 hf _ (lv_sub hl [0, 1, 2, 3] rfl)
          · replace hf := im c49 hf
            refine lv_aload_n hx hb dX1_leastEnough_52 rfl (lv_at hl 0 rfl) ?_
            refine va_get (D := D) (ci := 1) (v := .ref (h_crd 0)) (C := RX1) (T := TX1) (N := 4) hx hb hts in_X1 hown hK hP 0 rfl rfl 0 (by decide) g_9 (fun _ h9 => h9) rfl dX1_leastEnough_53 ?_
            refine lv_iload_n hx hb dX1_leastEnough_56 rfl (lv_at hl 3 rfl) ?_
            obtain ⟨c57, hf⟩ := gd hf
            refine va_iald (f := (V_crd 0)) hx hb hK hP 1 0 rfl rfl c57 dX1_leastEnough_57 ?_
            refine lv_topi (fun y3 ey3 => ?_)
            replace hf := nmd hf ey3
            refine lv_istore_n (lv' := [(2, .int y3), (0, .ref o_crd), (1, .int x1), (3, .int x3_12)]) hx hb dX1_leastEnough_58 rfl hl (by decide) rfl (fun ls hl => ?_)
            exact J59 y3 hf _ (lv_sub hl [1, 2, 0, 3] rfl)
  refine L12 _ (fun x2_12 hf ls hl => ?_) f y1 0 hf _ (lv_sub hl [2, 3, 1, 0] rfl)
  refine lv_iload_n hx hb dX1_leastEnough_65 rfl (lv_at hl 0 rfl) ?_
  exact hret x2_12 66 _ hf dX1_leastEnough_66
set_option maxHeartbeats 4000000 in
set_option maxRecDepth 100000 in
theorem c_Crd_leastEnough (l : Launch) (D : va_G) (cs : Nat → ClassId) (o_crd : Nat) (h_crd : Nat → Nat) (I_crd : FI) (V_crd : FV) (x1 : Int32) (f : Nat) (out : Int32) (hf : Crd_leastEnough f x1 I_crd V_crd = some out) : Met l yX1_leastEnough wsX1_leastEnough rm_Crd_leastEnough (va_Pc [.ref o_crd, .int x1] (yR D cs (List.flatten [(w_Crd cs o_crd h_crd I_crd V_crd)]))) (vp_Si (fun r => r = out)) 0 0 (fun _ => False) := by
  refine Met.ofW (cc := cX1_leastEnough) (maxL := 4) (ret := (some .int)) (by decide) rfl ?_
  intro p e s m args below meth c s₁ B hml hv
  obtain ⟨ha, hP, hK, hN⟩ := hv
  have hx := B.exec
  have hb := B.bytes
  have hr := B.returns
  have hts := atoms_spec (ws := wsX1_leastEnough) B.pre
  have hown : s.vm.findClass RX1 = some m.cls := findClass_of_methodNamed B.named
  have hlocks := B.notSynchronized
  have in_X1 : ∀ w ∈ u_ws RX1 TX1 4, w ∈ wsX1_leastEnough := fun w h => List.mem_cons_of_mem _ (List.mem_append_right _ h)
  have g_9 := hts (Cond.fieldLink RX1 9 "DaysLent$Creditors" "asked" "[I") (by decide +kernel)
  have g_18 := hts (Cond.fieldLink RX1 18 "DaysLent$Creditors" "all" "I") (by decide +kernel)
  have w_waysWithin_46 := cwV (R := rm_Crd_leastEnough) (s := s) (args := args) (rm := rm_Crd_waysWithin) (mc := 0) (ms := 0) 1 hts gX1_leastEnough_X1_waysWithin rfl rfl rfl (by decide +kernel) ⟨Nat.le_of_ble_eq_true rfl, Nat.le_of_ble_eq_true rfl⟩
  have g_22 := hts (Cond.fieldLink RX1 22 "DaysLent$Creditors" "allWays" "I") (by decide +kernel)
  have hl := lv_entry ([.ref o_crd, .int x1]) (n := 4) (Nat.le_of_ble_eq_true rfl)
  rw [show entryFrame m args 4 = entryFrame m ([.ref o_crd, .int x1] : List Value).toArray 4 from by rw [ha], lg_entry_eq]
  generalize (lg_sl ([.ref o_crd, .int x1]) ++ List.replicate (4 - (lg_sl ([.ref o_crd, .int x1])).length) Slot.unset).toArray = ls at hl ⊢
  generalize hQ : MQ below (vp_Si (fun r => r = out)) args s 0 0 (fun _ => False) = Q
  have hret : ∀ (v : Int32) (pc : Nat) (ls : Array Slot), some v = some out → decode cX1_leastEnough pc = .ok (.ireturn, 1) → W p l e rm_Crd_leastEnough s m args below meth c s.heap [] 0 0 Q (F0 m pc ls [.int v]) := by
    intro v pc ls hf hd
    rw [← hQ]
    exact W.iret (v := v) hx hb hr (fun t ht hW => ⟨v, rfl, Option.some.inj hf, ht⟩) (fun q h => by cases h) hd
  exact v_Crd_leastEnough hf hx hb hml hown hts in_X1 g_9 g_18 w_waysWithin_46 g_22 hP hK hN hret ls hl
def Crd_gather_L8 {ρ : Type} (f : Nat) (k_8 : FV → Option ρ) : Nat → Int32 → FV → Option ρ
  | 0, _, _ => none
  | n_8 + 1, x4_8, Vcrd_8 => (if 64 ≤ x4_8 then (k_8 Vcrd_8) else if x4_8 < 0 ∨ 64 ≤ x4_8.toNatClampNeg then none else (nm (va_up Vcrd_8 0 (upd (Vcrd_8 0) x4_8.toNatClampNeg 0)) (fun V2 => (Crd_gather_L8 f k_8 n_8 (x4_8 + 1) V2))))
def Crd_gather_L32 {ρ : Type} (f : Nat) (I_g : FI) (V_g : FV) (x2 : Int32) (k_32 : FI → FV → Option ρ) : Nat → Int32 → FI → FV → Option ρ
  | 0, _, _, _ => none
  | n_32 + 1, x4_32, Icrd_32, Vcrd_32 => (if (I_g 1) ≤ x4_32 then (k_32 Icrd_32 Vcrd_32) else if x4_32 < 0 ∨ 12 ≤ x4_32.toNatClampNeg then none else ((nm (fun (Icrd_91 : FI) (Vcrd_91 : FV) => (Crd_gather_L32 f I_g V_g x2 k_32 n_32 (x4_32 + 1) Icrd_91 Vcrd_91)) (fun j91 => (if ((V_g 8) x4_32.toNatClampNeg) = x2 then if x4_32 < 0 ∨ 12 ≤ x4_32.toNatClampNeg then none else (nm (1 <<< (((V_g 7) x4_32.toNatClampNeg) &&& 31)) (fun y3 => if y3 < 0 ∨ 64 ≤ y3.toNatClampNeg then none else (if x4_32 < 0 ∨ 12 ≤ x4_32.toNatClampNeg then none else (if y3 < 0 ∨ 64 ≤ y3.toNatClampNeg then none else (nm (va_up Vcrd_32 0 (upd (Vcrd_32 0) y3.toNatClampNeg (((Vcrd_32 0) y3.toNatClampNeg) + ((V_g 9) x4_32.toNatClampNeg)))) (fun V4 => nm (va_up Icrd_32 2 ((Icrd_32 2) ||| y3)) (fun I5 => (j91 I5 V4)))))))) else (j91 Icrd_32 Vcrd_32))))))
def Crd_gather_L112 {ρ : Type} (f : Nat) (I_g : FI) (x3 : Int32) (k_112 : FI → FV → Option ρ) : Nat → Int32 → FI → FV → Option ρ
  | 0, _, _, _ => none
  | n_112 + 1, x4_112, Icrd_112, Vcrd_112 => (if (I_g 0) ≤ x4_112 then (k_112 Icrd_112 Vcrd_112) else ob2 (Crd_spread f (1 <<< (x4_112 &&& 31)) x3 Icrd_112 Vcrd_112) (fun I9 V10 => (Crd_gather_L112 f I_g x3 k_112 n_112 (x4_112 + 1) I9 V10)))
def Crd_gather (f : Nat) (x2 : Int32) (x3 : Int32) (I_crd : FI) (V_crd : FV) (I_g : FI) (V_g : FV) : Option (FI × FV) := nm (va_up I_crd 2 0) (fun I1 => (Crd_gather_L8 f (fun (Vcrd_8 : FV) => (Crd_gather_L32 f I_g V_g x2 (fun (Icrd_32 : FI) (Vcrd_32 : FV) => nm (va_up Icrd_32 3 1) (fun I6 => nm (va_up Vcrd_32 1 (upd (Vcrd_32 1) (0 : Int32).toNatClampNeg 1)) (fun V7 => (Crd_gather_L112 f I_g x3 (fun (Icrd_112 : FI) (Vcrd_112 : FV) => some (Icrd_112, Vcrd_112)) f 0 I6 V7)))) f 0 I1 Vcrd_8)) f 0 V_crd))
abbrev rm_Crd_gather : Room := { frames := 1, cells := 0, slots := 0, locals := 25 }
set_option maxHeartbeats 4000000 in
set_option maxRecDepth 100000 in
theorem v_Crd_gather {l : Launch} {p : Program} {e : Env} {s : State} {m : MethodId} {args : Array Value} {below : List Frame} {meth : Method} {c : Code} {Q : State → Prop} {D : va_G} {cs : Nat → ClassId} {o_crd : Nat} {h_crd : Nat → Nat} {o_g : Nat} {h_g : Nat → Nat} {A : Nat → Prop} {I_crd : FI} {V_crd : FV} {I_g : FI} {V_g : FV} {x2 : Int32} {x3 : Int32} {f : Nat} {out : FI × FV} (hf : Crd_gather f x2 x3 I_crd V_crd I_g V_g = some out) (hx : p.tables.exec = Jvm.exec) (hb : c.code = cX1_gather) (hml : c.maxLocals = 6) (hown : s.vm.findClass RX1 = some m.cls) (hts : ∀ w ∈ wsX1_gather, w.before args s = true) (in_X1 : ∀ w ∈ u_ws RX1 TX1 4, w ∈ wsX1_gather) (in_X3 : ∀ w ∈ u_ws RX3 TX3 11, w ∈ wsX1_gather) (g_18 : (Cond.fieldLink RX1 18 "DaysLent$Creditors" "all" "I").before args s = true) (g_9 : (Cond.fieldLink RX1 9 "DaysLent$Creditors" "asked" "[I").before args s = true) (g_25 : (Cond.fieldLink RX1 25 "DaysLent$Ledger" "debts" "I").before args s = true) (g_30 : (Cond.fieldLink RX1 30 "DaysLent$Ledger" "debtor" "[I").before args s = true) (g_33 : (Cond.fieldLink RX1 33 "DaysLent$Ledger" "creditor" "[I").before args s = true) (g_36 : (Cond.fieldLink RX1 36 "DaysLent$Ledger" "amount" "[I").before args s = true) (g_22 : (Cond.fieldLink RX1 22 "DaysLent$Creditors" "allWays" "I").before args s = true) (g_15 : (Cond.fieldLink RX1 15 "DaysLent$Creditors" "ways" "[I").before args s = true) (g_39 : (Cond.fieldLink RX1 39 "DaysLent$Ledger" "people" "I").before args s = true) (w_spread_42 : CallW rm_Crd_gather s args RX1 RX1 42 yX1_spread cX1_spread 6 none wsX1_spread rm_Crd_spread 0 0 2) (hA : ∀ q : Nat, s.heap.size ≤ q → A q) (hP : va_P D vwCl (List.flatten [(w_Crd cs o_crd h_crd I_crd V_crd), (w_Led cs o_g h_g I_g V_g)]) s.heap) (hD : va_D A (List.flatten [(w_Crd cs o_crd h_crd I_crd V_crd), (w_Led cs o_g h_g I_g V_g)])) (hK : va_K D vwCl (tyA cs) s) (hN : yN s) (hret : ∀ (Icrd9 : FI) (Vcrd9 : FV) (H : Heap) (locs : List Loc) (pc : Nat) (ls : Array Slot), some (Icrd9, Vcrd9) = some out → va_P D vwCl (List.flatten [(w_Crd cs o_crd h_crd Icrd9 Vcrd9), (w_Led cs o_g h_g I_g V_g)]) H → va_D A (List.flatten [(w_Crd cs o_crd h_crd Icrd9 Vcrd9), (w_Led cs o_g h_g I_g V_g)]) → va_S A s.heap H locs → decode cX1_gather pc = .ok (.return_, 1) → W p l e rm_Crd_gather s m args below meth c H locs 0 0 Q (F0 m pc ls [])) : ∀ ls : Array Slot, lv_has ls 6 [(0, .ref o_crd), (1, .ref o_g), (2, .int x2), (3, .int x3)] → W p l e rm_Crd_gather s m args below meth c s.heap [] 0 0 Q (F0 m 0 ls []) := by
  intro ls hl
  have hS : va_S A s.heap s.heap [] := va_S.rf
  unfold Crd_gather at hf
  refine lv_aload_n hx hb dX1_gather_0 rfl (lv_at hl 0 rfl) ?_
  refine lv_iconst (v := 0) hx hb dX1_gather_1 (by decide) ?_
  refine va_put (D := D) (ci := 1) (v := .int 0) (ty := .int) (C := RX1) (T := TX1) (N := 4) hx hb hts in_X1 tyX1 tyX1_ok nmX1 hown hK hP hD hS 0 rfl rfl 2 (by decide) g_18 (fun _ h9 => h9) rfl (by decide +kernel) rfl rfl (Nat.le_of_ble_eq_true rfl) dX1_gather_2 (fun H locs hP hD hS => ?_)
  obtain ⟨I1, eI1, hf⟩ := nme hf
  have hP : va_P D vwCl (List.flatten [(w_Crd cs o_crd h_crd I1 V_crd), (w_Led cs o_g h_g I_g V_g)]) H := by rw [eI1]; exact hP
  have hD : va_D A (List.flatten [(w_Crd cs o_crd h_crd I1 V_crd), (w_Led cs o_g h_g I_g V_g)]) := by rw [eI1]; exact hD
  refine lv_iconst (v := 0) hx hb dX1_gather_5 (by decide) ?_
  refine lv_istore (lv' := [(4, .int 0), (0, .ref o_crd), (1, .ref o_g), (2, .int x2), (3, .int x3)]) hx hb dX1_gather_6 hl (by decide) rfl (fun ls hl => ?_)
  have L8 : ∀ (k_8 : FV → Option (FI × FV)) (hk_8 : ∀ (Vcrd_8 : FV), k_8 Vcrd_8 = some out → ∀ (H : Heap) (locs : List Loc), va_P D vwCl (List.flatten [(w_Crd cs o_crd h_crd I1 Vcrd_8), (w_Led cs o_g h_g I_g V_g)]) H → va_D A (List.flatten [(w_Crd cs o_crd h_crd I1 Vcrd_8), (w_Led cs o_g h_g I_g V_g)]) → va_S A s.heap H locs → ∀ ls : Array Slot, lv_has ls 6 [(0, .ref o_crd), (1, .ref o_g), (2, .int x2), (3, .int x3)] → W p l e rm_Crd_gather s m args below meth c H locs 0 0 Q (F0 m 29 ls [])), ∀ (n_8 : Nat) (x4_8 : Int32) (Vcrd_8 : FV), Crd_gather_L8 f k_8 n_8 x4_8 Vcrd_8 = some out → ∀ (H : Heap) (locs : List Loc), va_P D vwCl (List.flatten [(w_Crd cs o_crd h_crd I1 Vcrd_8), (w_Led cs o_g h_g I_g V_g)]) H → va_D A (List.flatten [(w_Crd cs o_crd h_crd I1 Vcrd_8), (w_Led cs o_g h_g I_g V_g)]) → va_S A s.heap H locs → ∀ ls : Array Slot, lv_has ls 6 [(0, .ref o_crd), (1, .ref o_g), (2, .int x2), (3, .int x3), (4, .int x4_8)] → W p l e rm_Crd_gather s m args below meth c H locs 0 0 Q (F0 m 8 ls []) := by
    intro k_8 hk_8 n_8
    induction n_8 with
    | zero => intro x4_8 Vcrd_8 hf; rw [Crd_gather_L8] at hf; cases hf
    | succ n_8 ih_8 =>
      intro x4_8 Vcrd_8 hf H locs hP hD hS ls hl
      rw [Crd_gather_L8] at hf
      refine lv_iload hx hb dX1_gather_8 (lv_at hl 4 rfl) ?_
      refine lv_bipush (v := 64) hx hb dX1_gather_10 (by decide) ?_
      refine lv_icmp_ge (tgt := 29) hx hb dX1_gather_12 (by decide) (fun c12 => ?_) (fun c12 => ?_)
      · replace hf := ip c12 hf
        exact hk_8 Vcrd_8 hf _ _ hP hD hS _ (lv_sub hl [0, 1, 2, 3] rfl)
      · replace hf := im c12 hf
        refine lv_aload_n hx hb dX1_gather_15 rfl (lv_at hl 0 rfl) ?_
        refine va_get (D := D) (ci := 1) (v := .ref (h_crd 0)) (C := RX1) (T := TX1) (N := 4) hx hb hts in_X1 hown hK hP 0 rfl rfl 0 (by decide) g_9 (fun _ h9 => h9) rfl dX1_gather_16 ?_
        refine lv_iload hx hb dX1_gather_19 (lv_at hl 4 rfl) ?_
        refine lv_iconst (v := 0) hx hb dX1_gather_21 (by decide) ?_
        obtain ⟨c22, hf⟩ := gd hf
        refine va_iast (f := (Vcrd_8 0)) hx hb hK hP hD hS 1 0 rfl rfl c22 dX1_gather_22 (fun H locs hP hD hS => ?_)
        obtain ⟨V2, eV2, hf⟩ := nme hf
        have hP : va_P D vwCl (List.flatten [(w_Crd cs o_crd h_crd I1 V2), (w_Led cs o_g h_g I_g V_g)]) H := by rw [eV2]; exact hP
        have hD : va_D A (List.flatten [(w_Crd cs o_crd h_crd I1 V2), (w_Led cs o_g h_g I_g V_g)]) := by rw [eV2]; exact hD
        refine lv_iinc (v := (x4_8 + 1)) (lv' := [(4, .int (x4_8 + 1)), (0, .ref o_crd), (1, .ref o_g), (2, .int x2), (3, .int x3)]) hx hb dX1_gather_23 hl (k := 4) rfl (by rfl) (by decide) rfl (fun ls hl => ?_)
        refine lv_goto (tgt := 8) hx hb dX1_gather_26 (by decide) ?_
        exact ih_8 (x4_8 + 1) V2 hf _ _ hP hD hS _ (lv_sub hl [1, 2, 3, 4, 0] rfl)
  refine L8 _ (fun Vcrd_8 hf H locs hP hD hS ls hl => ?_) f 0 V_crd hf _ _ hP hD hS _ (lv_sub hl [1, 2, 3, 4, 0] rfl)
  refine lv_iconst (v := 0) hx hb dX1_gather_29 (by decide) ?_
  refine lv_istore (lv' := [(4, .int 0), (0, .ref o_crd), (1, .ref o_g), (2, .int x2), (3, .int x3)]) hx hb dX1_gather_30 hl (by decide) rfl (fun ls hl => ?_)
  have L32 : ∀ (k_32 : FI → FV → Option (FI × FV)) (hk_32 : ∀ (Icrd_32 : FI) (Vcrd_32 : FV), k_32 Icrd_32 Vcrd_32 = some out → ∀ (H : Heap) (locs : List Loc), va_P D vwCl (List.flatten [(w_Crd cs o_crd h_crd Icrd_32 Vcrd_32), (w_Led cs o_g h_g I_g V_g)]) H → va_D A (List.flatten [(w_Crd cs o_crd h_crd Icrd_32 Vcrd_32), (w_Led cs o_g h_g I_g V_g)]) → va_S A s.heap H locs → ∀ ls : Array Slot, lv_has ls 6 [(0, .ref o_crd), (1, .ref o_g), (3, .int x3)] → W p l e rm_Crd_gather s m args below meth c H locs 0 0 Q (F0 m 97 ls [])), ∀ (n_32 : Nat) (x4_32 : Int32) (Icrd_32 : FI) (Vcrd_32 : FV), Crd_gather_L32 f I_g V_g x2 k_32 n_32 x4_32 Icrd_32 Vcrd_32 = some out → ∀ (H : Heap) (locs : List Loc), va_P D vwCl (List.flatten [(w_Crd cs o_crd h_crd Icrd_32 Vcrd_32), (w_Led cs o_g h_g I_g V_g)]) H → va_D A (List.flatten [(w_Crd cs o_crd h_crd Icrd_32 Vcrd_32), (w_Led cs o_g h_g I_g V_g)]) → va_S A s.heap H locs → ∀ ls : Array Slot, lv_has ls 6 [(0, .ref o_crd), (1, .ref o_g), (2, .int x2), (3, .int x3), (4, .int x4_32)] → W p l e rm_Crd_gather s m args below meth c H locs 0 0 Q (F0 m 32 ls []) := by
    intro k_32 hk_32 n_32
    induction n_32 with
    | zero => intro x4_32 Icrd_32 Vcrd_32 hf; rw [Crd_gather_L32] at hf; cases hf
    | succ n_32 ih_32 =>
      intro x4_32 Icrd_32 Vcrd_32 hf H locs hP hD hS ls hl
      rw [Crd_gather_L32] at hf
      refine lv_iload hx hb dX1_gather_32 (lv_at hl 4 rfl) ?_
      refine lv_aload_n hx hb dX1_gather_34 rfl (lv_at hl 1 rfl) ?_
      refine va_get (D := D) (ci := 3) (v := .int (I_g 1)) (C := RX3) (T := TX3) (N := 11) hx hb hts in_X3 hown hK hP 3 rfl rfl 1 (by decide) g_25 (fun _ h9 => h9) rfl dX1_gather_35 ?_
      refine lv_icmp_ge (tgt := 97) hx hb dX1_gather_38 (by decide) (fun c38 => ?_) (fun c38 => ?_)
      · replace hf := ip c38 hf
        exact hk_32 Icrd_32 Vcrd_32 hf _ _ hP hD hS _ (lv_sub hl [0, 1, 3] rfl)
      · replace hf := im c38 hf
        refine lv_aload_n hx hb dX1_gather_41 rfl (lv_at hl 1 rfl) ?_
        refine va_get (D := D) (ci := 3) (v := .ref (h_g 8)) (C := RX3) (T := TX3) (N := 11) hx hb hts in_X3 hown hK hP 3 rfl rfl 8 (by decide) g_30 (fun _ h9 => h9) rfl dX1_gather_42 ?_
        refine lv_iload hx hb dX1_gather_45 (lv_at hl 4 rfl) ?_
        obtain ⟨c47, hf⟩ := gd hf
        refine va_iald (f := (V_g 8)) hx hb hK hP 7 0 rfl rfl c47 dX1_gather_47 ?_
        refine lv_iload_n hx hb dX1_gather_48 rfl (lv_at hl 2 rfl) ?_
        obtain ⟨j91, ej91, hf⟩ := nme hf
        have J91 : ∀ (Icrd_91 : FI) (Vcrd_91 : FV), j91 Icrd_91 Vcrd_91 = some out → ∀ (H : Heap) (locs : List Loc), va_P D vwCl (List.flatten [(w_Crd cs o_crd h_crd Icrd_91 Vcrd_91), (w_Led cs o_g h_g I_g V_g)]) H → va_D A (List.flatten [(w_Crd cs o_crd h_crd Icrd_91 Vcrd_91), (w_Led cs o_g h_g I_g V_g)]) → va_S A s.heap H locs → ∀ ls : Array Slot, lv_has ls 6 [(0, .ref o_crd), (1, .ref o_g), (2, .int x2), (3, .int x3), (4, .int x4_32)] → W p l e rm_Crd_gather s m args below meth c H locs 0 0 Q (F0 m 91 ls []) := by
          intro Icrd_91 Vcrd_91 hf H locs hP hD hS ls hl
          rw [ej91] at hf
          refine lv_iinc (v := (x4_32 + 1)) (lv' := [(4, .int (x4_32 + 1)), (0, .ref o_crd), (1, .ref o_g), (2, .int x2), (3, .int x3)]) hx hb dX1_gather_91 hl (k := 4) rfl (by rfl) (by decide) rfl (fun ls hl => ?_)
          refine lv_goto (tgt := 32) hx hb dX1_gather_94 (by decide) ?_
          exact ih_32 (x4_32 + 1) Icrd_91 Vcrd_91 hf _ _ hP hD hS _ (lv_sub hl [1, 2, 3, 4, 0] rfl)
        refine lv_icmp_ne (tgt := 91) hx hb dX1_gather_49 (by decide) (fun c49 => ?_) (fun c49 => ?_)
        · replace hf := im c49 hf
          exact J91 Icrd_32 Vcrd_32 hf _ _ hP hD hS _ (lv_sub hl [0, 1, 2, 3, 4] rfl)
        · replace hf := ip c49 hf
          refine lv_iconst (v := 1) hx hb dX1_gather_52 (by decide) ?_
          refine lv_aload_n hx hb dX1_gather_53 rfl (lv_at hl 1 rfl) ?_
          refine va_get (D := D) (ci := 3) (v := .ref (h_g 7)) (C := RX3) (T := TX3) (N := 11) hx hb hts in_X3 hown hK hP 3 rfl rfl 7 (by decide) g_33 (fun _ h9 => h9) rfl dX1_gather_54 ?_
          refine lv_iload hx hb dX1_gather_57 (lv_at hl 4 rfl) ?_
          obtain ⟨c59, hf⟩ := gd hf
          refine va_iald (f := (V_g 7)) hx hb hK hP 6 0 rfl rfl c59 dX1_gather_59 ?_
          refine lv_ishl hx hb dX1_gather_60 ?_
          refine lv_topi (fun y3 ey3 => ?_)
          replace hf := nmd hf ey3
          refine lv_istore (lv' := [(5, .int y3), (0, .ref o_crd), (1, .ref o_g), (2, .int x2), (3, .int x3), (4, .int x4_32)]) hx hb dX1_gather_61 hl (by decide) rfl (fun ls hl => ?_)
          refine lv_aload_n hx hb dX1_gather_63 rfl (lv_at hl 1 rfl) ?_
          refine va_get (D := D) (ci := 1) (v := .ref (h_crd 0)) (C := RX1) (T := TX1) (N := 4) hx hb hts in_X1 hown hK hP 0 rfl rfl 0 (by decide) g_9 (fun _ h9 => h9) rfl dX1_gather_64 ?_
          refine lv_iload hx hb dX1_gather_67 (lv_at hl 0 rfl) ?_
          refine lv_dup2_11 hx hb dX1_gather_69 rfl rfl ?_
          obtain ⟨c70, hf⟩ := gd hf
          refine va_iald (f := (Vcrd_32 0)) hx hb hK hP 1 0 rfl rfl c70 dX1_gather_70 ?_
          refine lv_aload_n hx hb dX1_gather_71 rfl (lv_at hl 2 rfl) ?_
          refine va_get (D := D) (ci := 3) (v := .ref (h_g 9)) (C := RX3) (T := TX3) (N := 11) hx hb hts in_X3 hown hK hP 3 rfl rfl 9 (by decide) g_36 (fun _ h9 => h9) rfl dX1_gather_72 ?_
          refine lv_iload hx hb dX1_gather_75 (lv_at hl 5 rfl) ?_
          obtain ⟨c77, hf⟩ := gd hf
          refine va_iald (f := (V_g 9)) hx hb hK hP 8 0 rfl rfl c77 dX1_gather_77 ?_
          refine lv_iadd hx hb dX1_gather_78 ?_
          obtain ⟨c79, hf⟩ := gd hf
          refine va_iast (f := (Vcrd_32 0)) hx hb hK hP hD hS 1 0 rfl rfl c79 dX1_gather_79 (fun H locs hP hD hS => ?_)
          obtain ⟨V4, eV4, hf⟩ := nme hf
          have hP : va_P D vwCl (List.flatten [(w_Crd cs o_crd h_crd Icrd_32 V4), (w_Led cs o_g h_g I_g V_g)]) H := by rw [eV4]; exact hP
          have hD : va_D A (List.flatten [(w_Crd cs o_crd h_crd Icrd_32 V4), (w_Led cs o_g h_g I_g V_g)]) := by rw [eV4]; exact hD
          refine lv_aload_n hx hb dX1_gather_80 rfl (lv_at hl 1 rfl) ?_
          refine lv_dup hx hb dX1_gather_81 rfl ?_
          refine va_get (D := D) (ci := 1) (v := .int (Icrd_32 2)) (C := RX1) (T := TX1) (N := 4) hx hb hts in_X1 hown hK hP 0 rfl rfl 2 (by decide) g_18 (fun _ h9 => h9) rfl dX1_gather_82 ?_
          refine lv_iload hx hb dX1_gather_85 (lv_at hl 0 rfl) ?_
          refine lv_ior hx hb dX1_gather_87 ?_
          refine va_put (D := D) (ci := 1) (v := .int ((Icrd_32 2) ||| y3)) (ty := .int) (C := RX1) (T := TX1) (N := 4) hx hb hts in_X1 tyX1 tyX1_ok nmX1 hown hK hP hD hS 0 rfl rfl 2 (by decide) g_18 (fun _ h9 => h9) rfl (by decide +kernel) rfl rfl (Nat.le_of_ble_eq_true rfl) dX1_gather_88 (fun H locs hP hD hS => ?_)
          obtain ⟨I5, eI5, hf⟩ := nme hf
          have hP : va_P D vwCl (List.flatten [(w_Crd cs o_crd h_crd I5 V4), (w_Led cs o_g h_g I_g V_g)]) H := by rw [eI5]; exact hP
          have hD : va_D A (List.flatten [(w_Crd cs o_crd h_crd I5 V4), (w_Led cs o_g h_g I_g V_g)]) := by rw [eI5]; exact hD
          exact J91 I5 V4 hf _ _ hP hD hS _ (lv_sub hl [1, 2, 3, 4, 5] rfl)
  refine L32 _ (fun Icrd_32 Vcrd_32 hf H locs hP hD hS ls hl => ?_) f 0 I1 Vcrd_8 hf _ _ hP hD hS _ (lv_sub hl [1, 2, 3, 4, 0] rfl)
  refine lv_aload_n hx hb dX1_gather_97 rfl (lv_at hl 0 rfl) ?_
  refine lv_iconst (v := 1) hx hb dX1_gather_98 (by decide) ?_
  refine va_put (D := D) (ci := 1) (v := .int 1) (ty := .int) (C := RX1) (T := TX1) (N := 4) hx hb hts in_X1 tyX1 tyX1_ok nmX1 hown hK hP hD hS 0 rfl rfl 3 (by decide) g_22 (fun _ h9 => h9) rfl (by decide +kernel) rfl rfl (Nat.le_of_ble_eq_true rfl) dX1_gather_99 (fun H locs hP hD hS => ?_)
  obtain ⟨I6, eI6, hf⟩ := nme hf
  have hP : va_P D vwCl (List.flatten [(w_Crd cs o_crd h_crd I6 Vcrd_32), (w_Led cs o_g h_g I_g V_g)]) H := by rw [eI6]; exact hP
  have hD : va_D A (List.flatten [(w_Crd cs o_crd h_crd I6 Vcrd_32), (w_Led cs o_g h_g I_g V_g)]) := by rw [eI6]; exact hD
  refine lv_aload_n hx hb dX1_gather_102 rfl (lv_at hl 0 rfl) ?_
  refine va_get (D := D) (ci := 1) (v := .ref (h_crd 1)) (C := RX1) (T := TX1) (N := 4) hx hb hts in_X1 hown hK hP 0 rfl rfl 1 (by decide) g_15 (fun _ h9 => h9) rfl dX1_gather_103 ?_
  refine lv_iconst (v := 0) hx hb dX1_gather_106 (by decide) ?_
  refine lv_iconst (v := 1) hx hb dX1_gather_107 (by decide) ?_
  refine va_iast (f := (Vcrd_32 1)) hx hb hK hP hD hS 2 0 rfl rfl (by unfold vp_in; decide) dX1_gather_108 (fun H locs hP hD hS => ?_)
  obtain ⟨V7, eV7, hf⟩ := nme hf
  have hP : va_P D vwCl (List.flatten [(w_Crd cs o_crd h_crd I6 V7), (w_Led cs o_g h_g I_g V_g)]) H := by rw [eV7]; exact hP
  have hD : va_D A (List.flatten [(w_Crd cs o_crd h_crd I6 V7), (w_Led cs o_g h_g I_g V_g)]) := by rw [eV7]; exact hD
  refine lv_iconst (v := 0) hx hb dX1_gather_109 (by decide) ?_
  refine lv_istore (lv' := [(4, .int 0), (0, .ref o_crd), (1, .ref o_g), (3, .int x3)]) hx hb dX1_gather_110 hl (by decide) rfl (fun ls hl => ?_)
  have L112 : ∀ (k_112 : FI → FV → Option (FI × FV)) (hk_112 : ∀ (Icrd_112 : FI) (Vcrd_112 : FV), k_112 Icrd_112 Vcrd_112 = some out → ∀ (H : Heap) (locs : List Loc), va_P D vwCl (List.flatten [(w_Crd cs o_crd h_crd Icrd_112 Vcrd_112), (w_Led cs o_g h_g I_g V_g)]) H → va_D A (List.flatten [(w_Crd cs o_crd h_crd Icrd_112 Vcrd_112), (w_Led cs o_g h_g I_g V_g)]) → va_S A s.heap H locs → ∀ ls : Array Slot, lv_has ls 6 [] → W p l e rm_Crd_gather s m args below meth c H locs 0 0 Q (F0 m 136 ls [])), ∀ (n_112 : Nat) (x4_112 : Int32) (Icrd_112 : FI) (Vcrd_112 : FV), Crd_gather_L112 f I_g x3 k_112 n_112 x4_112 Icrd_112 Vcrd_112 = some out → ∀ (H : Heap) (locs : List Loc), va_P D vwCl (List.flatten [(w_Crd cs o_crd h_crd Icrd_112 Vcrd_112), (w_Led cs o_g h_g I_g V_g)]) H → va_D A (List.flatten [(w_Crd cs o_crd h_crd Icrd_112 Vcrd_112), (w_Led cs o_g h_g I_g V_g)]) → va_S A s.heap H locs → ∀ ls : Array Slot, lv_has ls 6 [(0, .ref o_crd), (1, .ref o_g), (3, .int x3), (4, .int x4_112)] → W p l e rm_Crd_gather s m args below meth c H locs 0 0 Q (F0 m 112 ls []) := by
    intro k_112 hk_112 n_112
    induction n_112 with
    | zero => intro x4_112 Icrd_112 Vcrd_112 hf; rw [Crd_gather_L112] at hf; cases hf
    | succ n_112 ih_112 =>
      intro x4_112 Icrd_112 Vcrd_112 hf H locs hP hD hS ls hl
      rw [Crd_gather_L112] at hf
      refine lv_iload hx hb dX1_gather_112 (lv_at hl 3 rfl) ?_
      refine lv_aload_n hx hb dX1_gather_114 rfl (lv_at hl 1 rfl) ?_
      refine va_get (D := D) (ci := 3) (v := .int (I_g 0)) (C := RX3) (T := TX3) (N := 11) hx hb hts in_X3 hown hK hP 3 rfl rfl 0 (by decide) g_39 (fun _ h9 => h9) rfl dX1_gather_115 ?_
      refine lv_icmp_ge (tgt := 136) hx hb dX1_gather_118 (by decide) (fun c118 => ?_) (fun c118 => ?_)
      · replace hf := ip c118 hf
        exact hk_112 Icrd_112 Vcrd_112 hf _ _ hP hD hS _ (lv_sub hl [] rfl)
      · replace hf := im c118 hf
        refine lv_aload_n hx hb dX1_gather_121 rfl (lv_at hl 0 rfl) ?_
        refine lv_iconst (v := 1) hx hb dX1_gather_122 (by decide) ?_
        refine lv_iload hx hb dX1_gather_123 (lv_at hl 3 rfl) ?_
        refine lv_ishl hx hb dX1_gather_125 ?_
        refine lv_iload_n hx hb dX1_gather_126 rfl (lv_at hl 2 rfl) ?_
        have hPc := subB (bs := [(w_Crd cs o_crd h_crd Icrd_112 Vcrd_112), (w_Led cs o_g h_g I_g V_g)]) (ca := [(w_Crd cs o_crd h_crd Icrd_112 Vcrd_112)]) (ra := [(w_Led cs o_g h_g I_g V_g)]) [0, 1] (by decide) rfl rfl hP
        obtain ⟨I9, V10, qr8, hf⟩ := bd2 hf
        have hDc := subD (bs := [(w_Crd cs o_crd h_crd Icrd_112 Vcrd_112), (w_Led cs o_g h_g I_g V_g)]) (ca := [(w_Crd cs o_crd h_crd Icrd_112 Vcrd_112)]) (ra := [(w_Led cs o_g h_g I_g V_g)]) [0, 1] (by decide) rfl rfl hD
        have hFc := xfree hDc hS hA
        refine va_callv (va_runV (As := [.int (1 <<< (x4_112 &&& 31)), .int x3]) (rest := []) ⟨hx, hb, hml, hown, hts⟩ (c_Crd_spread l D cs o_crd h_crd _ Icrd_112 Vcrd_112 (1 <<< (x4_112 &&& 31)) x3 f _ qr8) w_spread_42 ⟨yP_moved, va_recv hK hPc (ci := 1) (q0 := 0) rfl rfl, fun U hU hW => ⟨rfl, by rw [hU], by rw [hU]; exact hPc, va_K.moved hW.alike hK, yN_warm hW hN, hDc.weaken (fun _ _ _ _ => trivial)⟩⟩ rfl rfl hl.1 rfl (lv_room (Nat.le_of_ble_eq_true rfl)) dX1_gather_127 ⟨Nat.zero_le _, Nat.zero_le _⟩) hS (fun q _ h9 => hFc q h9) hFc (fun u t H1 locs ht hvm hw hB hz1 hk1 hS => ?_)
        rw [hw] at hB
        obtain ⟨hP1, hK1, hD1⟩ := hB
        rw [ht] at hP1
        obtain ⟨hP, hD⟩ := joinB (bs := [(w_Crd cs o_crd h_crd Icrd_112 Vcrd_112), (w_Led cs o_g h_g I_g V_g)]) (ca := [(w_Crd cs o_crd h_crd Icrd_112 Vcrd_112)]) (ra := [(w_Led cs o_g h_g I_g V_g)]) [0, 1] (by decide) rfl rfl hP hD hk1 hFc (cb := [(w_Crd cs o_crd h_crd I9 V10)]) hP1 hD1 (be := [(w_Crd cs o_crd h_crd I9 V10), (w_Led cs o_g h_g I_g V_g)]) [0, 1] (by decide) rfl rfl
        refine lv_iinc (v := (x4_112 + 1)) (lv' := [(4, .int (x4_112 + 1)), (0, .ref o_crd), (1, .ref o_g), (3, .int x3)]) hx hb dX1_gather_130 hl (k := 3) rfl (by rfl) (by decide) rfl (fun ls hl => ?_)
        refine lv_goto (tgt := 112) hx hb dX1_gather_133 (by decide) ?_
        exact ih_112 (x4_112 + 1) I9 V10 hf _ _ hP hD hS _ (lv_sub hl [1, 2, 3, 0] rfl)
  refine L112 _ (fun Icrd_112 Vcrd_112 hf H locs hP hD hS ls hl => ?_) f 0 I6 V7 hf _ _ hP hD hS _ (lv_sub hl [1, 2, 3, 0] rfl)
  exact hret Icrd_112 Vcrd_112 _ _ 136 _ hf hP hD hS dX1_gather_136
set_option maxHeartbeats 4000000 in
set_option maxRecDepth 100000 in
theorem c_Crd_gather (l : Launch) (D : va_G) (cs : Nat → ClassId) (o_crd : Nat) (h_crd : Nat → Nat) (o_g : Nat) (h_g : Nat → Nat) (sz : Nat) (I_crd : FI) (V_crd : FV) (I_g : FI) (V_g : FV) (x2 : Int32) (x3 : Int32) (f : Nat) (out : FI × FV) (hf : Crd_gather f x2 x3 I_crd V_crd I_g V_g = some out) : Met l yX1_gather wsX1_gather rm_Crd_gather (va_Pc [.ref o_crd, .ref o_g, .int x2, .int x3] (yP D cs (List.flatten [(w_Crd cs o_crd h_crd I_crd V_crd), (w_Led cs o_g h_g I_g V_g)]) sz)) (va_Qv (fun u => u = out) (fun (u : FI × FV) t => xA D cs (va_A (List.flatten [(w_Crd cs o_crd h_crd I_crd V_crd), (w_Led cs o_g h_g I_g V_g)]) sz) (List.flatten [(w_Crd cs o_crd h_crd u.1 u.2), (w_Led cs o_g h_g I_g V_g)]) t) (va_A (List.flatten [(w_Crd cs o_crd h_crd I_crd V_crd), (w_Led cs o_g h_g I_g V_g)]) sz)) 0 0 (va_A (List.flatten [(w_Crd cs o_crd h_crd I_crd V_crd), (w_Led cs o_g h_g I_g V_g)]) sz) := by
  refine Met.ofW (cc := cX1_gather) (maxL := 6) (ret := none) (by decide) rfl ?_
  intro p e s m args below meth c s₁ B hml hv
  obtain ⟨ha, hsz, hP, hK, hN, hD0⟩ := hv
  have hx := B.exec
  have hb := B.bytes
  have hr := B.returns
  have hts := atoms_spec (ws := wsX1_gather) B.pre
  have hown : s.vm.findClass RX1 = some m.cls := findClass_of_methodNamed B.named
  have hlocks := B.notSynchronized
  have in_X1 : ∀ w ∈ u_ws RX1 TX1 4, w ∈ wsX1_gather := fun w h => List.mem_cons_of_mem _ (List.mem_append_left _ (List.mem_append_right _ h))
  have in_X3 : ∀ w ∈ u_ws RX3 TX3 11, w ∈ wsX1_gather := fun w h => List.mem_cons_of_mem _ (List.mem_append_right _ h)
  have g_18 := hts (Cond.fieldLink RX1 18 "DaysLent$Creditors" "all" "I") (by decide +kernel)
  have g_9 := hts (Cond.fieldLink RX1 9 "DaysLent$Creditors" "asked" "[I") (by decide +kernel)
  have g_25 := hts (Cond.fieldLink RX1 25 "DaysLent$Ledger" "debts" "I") (by decide +kernel)
  have g_30 := hts (Cond.fieldLink RX1 30 "DaysLent$Ledger" "debtor" "[I") (by decide +kernel)
  have g_33 := hts (Cond.fieldLink RX1 33 "DaysLent$Ledger" "creditor" "[I") (by decide +kernel)
  have g_36 := hts (Cond.fieldLink RX1 36 "DaysLent$Ledger" "amount" "[I") (by decide +kernel)
  have g_22 := hts (Cond.fieldLink RX1 22 "DaysLent$Creditors" "allWays" "I") (by decide +kernel)
  have g_15 := hts (Cond.fieldLink RX1 15 "DaysLent$Creditors" "ways" "[I") (by decide +kernel)
  have g_39 := hts (Cond.fieldLink RX1 39 "DaysLent$Ledger" "people" "I") (by decide +kernel)
  have w_spread_42 := cwV (R := rm_Crd_gather) (s := s) (args := args) (rm := rm_Crd_spread) (mc := 0) (ms := 0) 2 hts gX1_gather_X1_spread rfl rfl rfl (by decide +kernel) ⟨Nat.le_of_ble_eq_true rfl, Nat.le_of_ble_eq_true rfl⟩
  subst hsz
  have hD := hD0.self (sz := s.heap.size)
  generalize hAe : va_A (List.flatten [(w_Crd cs o_crd h_crd I_crd V_crd), (w_Led cs o_g h_g I_g V_g)]) s.heap.size = A at hD ⊢
  have hA : ∀ q : Nat, s.heap.size ≤ q → A q := fun q h => by rw [← hAe]; exact Or.inr h
  have hl := lv_entry ([.ref o_crd, .ref o_g, .int x2, .int x3]) (n := 6) (Nat.le_of_ble_eq_true rfl)
  rw [show entryFrame m args 6 = entryFrame m ([.ref o_crd, .ref o_g, .int x2, .int x3] : List Value).toArray 6 from by rw [ha], lg_entry_eq]
  generalize (lg_sl ([.ref o_crd, .ref o_g, .int x2, .int x3]) ++ List.replicate (6 - (lg_sl ([.ref o_crd, .ref o_g, .int x2, .int x3])).length) Slot.unset).toArray = ls at hl ⊢
  generalize hQ : MQ below (va_Qv (fun u => u = out) (fun (u : FI × FV) t => xA D cs A (List.flatten [(w_Crd cs o_crd h_crd u.1 u.2), (w_Led cs o_g h_g I_g V_g)]) t) A) args s 0 0 A = Q
  have hret : ∀ (Icrd9 : FI) (Vcrd9 : FV) (H : Heap) (locs : List Loc) (pc : Nat) (ls : Array Slot), some (Icrd9, Vcrd9) = some out → va_P D vwCl (List.flatten [(w_Crd cs o_crd h_crd Icrd9 Vcrd9), (w_Led cs o_g h_g I_g V_g)]) H → va_D A (List.flatten [(w_Crd cs o_crd h_crd Icrd9 Vcrd9), (w_Led cs o_g h_g I_g V_g)]) → va_S A s.heap H locs → decode cX1_gather pc = .ok (.return_, 1) → W p l e rm_Crd_gather s m args below meth c H locs 0 0 Q (F0 m pc ls []) := by
    intro Icrd9 Vcrd9 H locs pc ls hf hP hD hS hd
    rw [← hQ]
    exact W.vret hx hb hr (fun t ht hW => ⟨⟨(Icrd9, Vcrd9), rfl, Option.some.inj hf, by show va_P D vwCl (List.flatten [(w_Crd cs o_crd h_crd Icrd9 Vcrd9), (w_Led cs o_g h_g I_g V_g)]) t.heap; rw [ht]; exact hP, va_K.moved hW.alike hK, hD⟩, hS.F ht⟩) hS.2.2 hd
  exact v_Crd_gather hf hx hb hml hown hts in_X1 in_X3 g_18 g_9 g_25 g_30 g_33 g_36 g_22 g_15 g_39 w_spread_42 hA hP hD hK hN hret ls hl
def Lnd_leastWith_L7 {ρ : Type} (f : Nat) (x3 : Int32) (x1 : Int32) (V_lnd : FV) (x2 : Int32) (k_7 : Int32 → Option ρ) : Nat → Int32 → Int32 → Option ρ
  | 0, _, _ => none
  | n_7 + 1, x4_7, x5_7 => (if x3 < x5_7 then (k_7 x4_7) else if x1 < 0 ∨ 6 ≤ x1.toNatClampNeg then none else ((if ((V_lnd 1) x1.toNatClampNeg) < x5_7 then (k_7 x4_7) else ob1 (X_askedFor f x5_7 x2) (fun zr1 => if (x1 + 1) < 0 ∨ 7 ≤ (x1 + 1).toNatClampNeg then none else (if (x3 - x5_7) < 0 ∨ 100 ≤ (x3 - x5_7).toNatClampNeg then none else (nm (if (zr1 + (V_lnd (10 + (x1 + 1).toNatClampNeg) (x3 - x5_7).toNatClampNeg)) < x4_7 then (zr1 + (V_lnd (10 + (x1 + 1).toNatClampNeg) (x3 - x5_7).toNatClampNeg)) else x4_7) (fun y2 => (Lnd_leastWith_L7 f x3 x1 V_lnd x2 k_7 n_7 y2 (x5_7 + 1)))))))))
def Lnd_leastWith (f : Nat) (x1 : Int32) (x2 : Int32) (x3 : Int32) (I_lnd : FI) (V_lnd : FV) : Option (Int32) := (Lnd_leastWith_L7 f x3 x1 V_lnd x2 (fun (x4_7 : Int32) => some x4_7) f 1000000 0)
abbrev rm_Lnd_leastWith : Room := { frames := 1, cells := 0, slots := 0, locals := 21 }
set_option maxHeartbeats 4000000 in
set_option maxRecDepth 100000 in
theorem v_Lnd_leastWith {l : Launch} {p : Program} {e : Env} {s : State} {m : MethodId} {args : Array Value} {below : List Frame} {meth : Method} {c : Code} {Q : State → Prop} {D : va_G} {cs : Nat → ClassId} {o_lnd : Nat} {h_lnd : Nat → Nat} {I_lnd : FI} {V_lnd : FV} {x1 : Int32} {x2 : Int32} {x3 : Int32} {f : Nat} {out : Int32} (hf : Lnd_leastWith f x1 x2 x3 I_lnd V_lnd = some out) (hx : p.tables.exec = Jvm.exec) (hb : c.code = cX4_leastWith) (hml : c.maxLocals = 6) (hown : s.vm.findClass RX4 = some m.cls) (hts : ∀ w ∈ wsX4_leastWith, w.before args s = true) (in_X4 : ∀ w ∈ u_ws RX4 TX4 2, w ∈ wsX4_leastWith) (k_26 : (Cond.constant RX4 26 (1000000)).before args s = true) (g_16 : (Cond.fieldLink RX4 16 "DaysLent$Lenders" "limit" "[I").before args s = true) (w_askedFor_41 : va_CN rm_Lnd_leastWith s args RX4 41 yX9_askedFor "DaysLent" cX9_askedFor 2 (some .int) wsX9_askedFor rm_X_askedFor 0 0 2 ∧ (Cond.static yX9_askedFor).before args s = true ∧ True) (g_13 : (Cond.fieldLink RX4 13 "DaysLent$Lenders" "least" "[[I").before args s = true) (ml_45 : (Cond.methodLink RX4 45 Lib.Math.min.name).before args s = true) (ms_45 : (Cond.static Lib.Math.min.name).before args s = true) (mi_45 : (Cond.initialized "java/lang/Math").before args s = true) (mc_45 : (Cond.code Lib.Math.min.name Lib.Math.min.code 2 (some .int)).before args s = true) (hP : va_P D vwCl (List.flatten [(w_Lnd cs o_lnd h_lnd I_lnd V_lnd)]) s.heap) (hK : va_K D vwCl (tyA cs) s) (hN : yN s) (hret : ∀ (v : Int32) (pc : Nat) (ls : Array Slot), some v = some out → decode cX4_leastWith pc = .ok (.ireturn, 1) → W p l e rm_Lnd_leastWith s m args below meth c s.heap [] 0 0 Q (F0 m pc ls [.int v])) : ∀ ls : Array Slot, lv_has ls 6 [(0, .ref o_lnd), (1, .int x1), (2, .int x2), (3, .int x3)] → W p l e rm_Lnd_leastWith s m args below meth c s.heap [] 0 0 Q (F0 m 0 ls []) := by
  intro ls hl
  unfold Lnd_leastWith at hf
  refine lv_ldc (v := 1000000) hx hb hown k_26 dX4_leastWith_0 ?_
  refine lv_istore (lv' := [(4, .int 1000000), (0, .ref o_lnd), (1, .int x1), (2, .int x2), (3, .int x3)]) hx hb dX4_leastWith_2 hl (by decide) rfl (fun ls hl => ?_)
  refine lv_iconst (v := 0) hx hb dX4_leastWith_4 (by decide) ?_
  refine lv_istore (lv' := [(5, .int 0), (4, .int 1000000), (0, .ref o_lnd), (1, .int x1), (2, .int x2), (3, .int x3)]) hx hb dX4_leastWith_5 hl (by decide) rfl (fun ls hl => ?_)
  have L7 : ∀ (k_7 : Int32 → Option (Int32)) (hk_7 : ∀ (x4_7 : Int32), k_7 x4_7 = some out → ∀ ls : Array Slot, lv_has ls 6 [(4, .int x4_7)] → W p l e rm_Lnd_leastWith s m args below meth c s.heap [] 0 0 Q (F0 m 57 ls [])), ∀ (n_7 : Nat) (x4_7 : Int32) (x5_7 : Int32), Lnd_leastWith_L7 f x3 x1 V_lnd x2 k_7 n_7 x4_7 x5_7 = some out → ∀ ls : Array Slot, lv_has ls 6 [(0, .ref o_lnd), (1, .int x1), (2, .int x2), (3, .int x3), (4, .int x4_7), (5, .int x5_7)] → W p l e rm_Lnd_leastWith s m args below meth c s.heap [] 0 0 Q (F0 m 7 ls []) := by
    intro k_7 hk_7 n_7
    induction n_7 with
    | zero => intro x4_7 x5_7 hf; rw [Lnd_leastWith_L7] at hf; cases hf
    | succ n_7 ih_7 =>
      intro x4_7 x5_7 hf ls hl
      rw [Lnd_leastWith_L7] at hf
      refine lv_iload hx hb dX4_leastWith_7 (lv_at hl 5 rfl) ?_
      refine lv_iload_n hx hb dX4_leastWith_9 rfl (lv_at hl 3 rfl) ?_
      refine lv_icmp_gt (tgt := 57) hx hb dX4_leastWith_10 (by decide) (fun c10 => ?_) (fun c10 => ?_)
      · replace hf := ip c10 hf
        exact hk_7 x4_7 hf _ (lv_sub hl [4] rfl)
      · replace hf := im c10 hf
        refine lv_iload hx hb dX4_leastWith_13 (lv_at hl 5 rfl) ?_
        refine lv_aload_n hx hb dX4_leastWith_15 rfl (lv_at hl 0 rfl) ?_
        refine va_get (D := D) (ci := 4) (v := .ref (h_lnd 1)) (C := RX4) (T := TX4) (N := 2) hx hb hts in_X4 hown hK hP 0 rfl rfl 1 (by decide) g_16 (fun _ h9 => h9) rfl dX4_leastWith_16 ?_
        refine lv_iload_n hx hb dX4_leastWith_19 rfl (lv_at hl 1 rfl) ?_
        obtain ⟨c20, hf⟩ := gd hf
        refine va_iald (f := (V_lnd 1)) hx hb hK hP 2 0 rfl rfl c20 dX4_leastWith_20 ?_
        refine lv_icmp_gt (tgt := 57) hx hb dX4_leastWith_21 (by decide) (fun c21 => ?_) (fun c21 => ?_)
        · replace hf := ip c21 hf
          exact hk_7 x4_7 hf _ (lv_sub hl [4] rfl)
        · replace hf := im c21 hf
          refine lv_iload hx hb dX4_leastWith_24 (lv_at hl 4 rfl) ?_
          refine lv_iload hx hb dX4_leastWith_26 (lv_at hl 5 rfl) ?_
          refine lv_iload_n hx hb dX4_leastWith_28 rfl (lv_at hl 2 rfl) ?_
          obtain ⟨zr1, qr1, hf⟩ := bd1 hf
          refine vp_callSi (va_Run.run (va_runSN (As := [.int x5_7, .int x2]) (rest := [.int x4_7]) ⟨hx, hb, hml, hown, hts⟩ (c_X_askedFor l x5_7 x2 f zr1 qr1) w_askedFor_41 ⟨fun a U g mk q => q, fun U hU hW => ⟨rfl, trivial⟩⟩ rfl rfl hl.1 rfl (lv_room (Nat.le_of_ble_eq_true rfl)) dX4_leastWith_29 ⟨Nat.zero_le _, Nat.zero_le _⟩)) (fun r1 er1 => ?_)
          rw [er1]
          refine lv_aload_n hx hb dX4_leastWith_32 rfl (lv_at hl 0 rfl) ?_
          refine va_get (D := D) (ci := 4) (v := .ref (h_lnd 0)) (C := RX4) (T := TX4) (N := 2) hx hb hts in_X4 hown hK hP 0 rfl rfl 0 (by decide) g_13 (fun _ h9 => h9) rfl dX4_leastWith_33 ?_
          refine lv_iload_n hx hb dX4_leastWith_36 rfl (lv_at hl 1 rfl) ?_
          refine lv_iconst (v := 1) hx hb dX4_leastWith_37 (by decide) ?_
          refine lv_iadd hx hb dX4_leastWith_38 ?_
          obtain ⟨c39, hf⟩ := gd hf
          refine xaldA (f := fun i => if i < 7 then some (h_lnd (10 + i)) else none) hx hb hK hP 1 4 rfl rfl c39 dX4_leastWith_39 ?_
          refine W.eq (g2 := F0 m 40 ls [.ref (h_lnd (10 + (x1 + 1).toNatClampNeg)), .int zr1, .int x4_7]) (by show F0 m _ ls (va_rf (if (x1 + 1).toNatClampNeg < 7 then some (h_lnd (10 + (x1 + 1).toNatClampNeg)) else none) :: _) = _; rw [if_pos (Nat.not_le.mp (fun q => c39 (Or.inr q)))]; rfl) ?_
          refine lv_iload_n hx hb dX4_leastWith_40 rfl (lv_at hl 3 rfl) ?_
          refine lv_iload hx hb dX4_leastWith_41 (lv_at hl 5 rfl) ?_
          refine lv_isub hx hb dX4_leastWith_43 ?_
          obtain ⟨c44, hf⟩ := gd hf
          have hrow : ∀ i, i < 7 → ((List.flatten [(w_Lnd cs o_lnd h_lnd I_lnd V_lnd)]))[3 + i]? = some (h_lnd (10 + i), .inl (cs 0, 100, .inl (V_lnd (10 + i)))) := fun i hi => by match i, hi with | 0, _ => rfl | 1, _ => rfl | 2, _ => rfl | 3, _ => rfl | 4, _ => rfl | 5, _ => rfl | 6, _ => rfl
          refine va_iald (f := (V_lnd (10 + (x1 + 1).toNatClampNeg))) hx hb hK hP (3 + (x1 + 1).toNatClampNeg) 0 (hrow _ (Nat.not_le.mp (fun q => c39 (Or.inr q)))) rfl c44 dX4_leastWith_44 ?_
          refine lv_iadd hx hb dX4_leastWith_45 ?_
          refine va_mmin (x := x4_7) (y := (zr1 + (V_lnd (10 + (x1 + 1).toNatClampNeg) (x3 - x5_7).toNatClampNeg))) hx hb (hml.trans hl.1.symm) hown ml_45 ms_45 mi_45 mc_45 (Nat.le_of_ble_eq_true rfl) (Nat.le_of_ble_eq_true rfl) (Nat.zero_le _) (Nat.zero_le _) dX4_leastWith_46 ?_
          refine lv_topi (fun y2 ey2 => ?_)
          replace hf := nmd hf ey2
          refine lv_istore (lv' := [(4, .int y2), (0, .ref o_lnd), (1, .int x1), (2, .int x2), (3, .int x3), (5, .int x5_7)]) hx hb dX4_leastWith_49 hl (by decide) rfl (fun ls hl => ?_)
          refine lv_iinc (v := (x5_7 + 1)) (lv' := [(5, .int (x5_7 + 1)), (4, .int y2), (0, .ref o_lnd), (1, .int x1), (2, .int x2), (3, .int x3)]) hx hb dX4_leastWith_51 hl (k := 5) rfl (by rfl) (by decide) rfl (fun ls hl => ?_)
          refine lv_goto (tgt := 7) hx hb dX4_leastWith_54 (by decide) ?_
          exact ih_7 y2 (x5_7 + 1) hf _ (lv_sub hl [2, 3, 4, 5, 1, 0] rfl)
  refine L7 _ (fun x4_7 hf ls hl => ?_) f 1000000 0 hf _ (lv_sub hl [2, 3, 4, 5, 1, 0] rfl)
  refine lv_iload hx hb dX4_leastWith_57 (lv_at hl 0 rfl) ?_
  exact hret x4_7 59 _ hf dX4_leastWith_59
set_option maxHeartbeats 4000000 in
set_option maxRecDepth 100000 in
theorem c_Lnd_leastWith (l : Launch) (D : va_G) (cs : Nat → ClassId) (o_lnd : Nat) (h_lnd : Nat → Nat) (I_lnd : FI) (V_lnd : FV) (x1 : Int32) (x2 : Int32) (x3 : Int32) (f : Nat) (out : Int32) (hf : Lnd_leastWith f x1 x2 x3 I_lnd V_lnd = some out) : Met l yX4_leastWith wsX4_leastWith rm_Lnd_leastWith (va_Pc [.ref o_lnd, .int x1, .int x2, .int x3] (yR D cs (List.flatten [(w_Lnd cs o_lnd h_lnd I_lnd V_lnd)]))) (vp_Si (fun r => r = out)) 0 0 (fun _ => False) := by
  refine Met.ofW (cc := cX4_leastWith) (maxL := 6) (ret := (some .int)) (by decide) rfl ?_
  intro p e s m args below meth c s₁ B hml hv
  obtain ⟨ha, hP, hK, hN⟩ := hv
  have hx := B.exec
  have hb := B.bytes
  have hr := B.returns
  have hts := atoms_spec (ws := wsX4_leastWith) B.pre
  have hown : s.vm.findClass RX4 = some m.cls := findClass_of_methodNamed B.named
  have hlocks := B.notSynchronized
  have in_X4 : ∀ w ∈ u_ws RX4 TX4 2, w ∈ wsX4_leastWith := fun w h => List.mem_cons_of_mem _ (List.mem_append_right _ h)
  have k_26 := hts (Cond.constant RX4 26 (1000000)) (by decide +kernel)
  have g_16 := hts (Cond.fieldLink RX4 16 "DaysLent$Lenders" "limit" "[I") (by decide +kernel)
  have w_askedFor_41 : va_CN rm_Lnd_leastWith s args RX4 41 yX9_askedFor "DaysLent" cX9_askedFor 2 (some .int) wsX9_askedFor rm_X_askedFor 0 0 2 ∧ (Cond.static yX9_askedFor).before args s = true ∧ True := ⟨va_cnB (R := rm_Lnd_leastWith) (s := s) (args := args) (rm := rm_X_askedFor) (mc := 0) (ms := 0) 2 hts gX4_leastWith_X9_askedFor_n41 rfl rfl rfl hN.2.2.1 (hts (.initialized RX9) (by decide +kernel)) (by decide +kernel) ⟨Nat.le_of_ble_eq_true rfl, Nat.le_of_ble_eq_true rfl⟩, hts (.static yX9_askedFor) (by decide +kernel), trivial⟩
  have g_13 := hts (Cond.fieldLink RX4 13 "DaysLent$Lenders" "least" "[[I") (by decide +kernel)
  have ml_45 := hts (Cond.methodLink RX4 45 Lib.Math.min.name) (by decide +kernel)
  have ms_45 := hts (Cond.static Lib.Math.min.name) (by decide +kernel)
  have mi_45 := hts (Cond.initialized "java/lang/Math") (by decide +kernel)
  have mc_45 := hts (Cond.code Lib.Math.min.name Lib.Math.min.code 2 (some .int)) (by decide +kernel)
  have hl := lv_entry ([.ref o_lnd, .int x1, .int x2, .int x3]) (n := 6) (Nat.le_of_ble_eq_true rfl)
  rw [show entryFrame m args 6 = entryFrame m ([.ref o_lnd, .int x1, .int x2, .int x3] : List Value).toArray 6 from by rw [ha], lg_entry_eq]
  generalize (lg_sl ([.ref o_lnd, .int x1, .int x2, .int x3]) ++ List.replicate (6 - (lg_sl ([.ref o_lnd, .int x1, .int x2, .int x3])).length) Slot.unset).toArray = ls at hl ⊢
  generalize hQ : MQ below (vp_Si (fun r => r = out)) args s 0 0 (fun _ => False) = Q
  have hret : ∀ (v : Int32) (pc : Nat) (ls : Array Slot), some v = some out → decode cX4_leastWith pc = .ok (.ireturn, 1) → W p l e rm_Lnd_leastWith s m args below meth c s.heap [] 0 0 Q (F0 m pc ls [.int v]) := by
    intro v pc ls hf hd
    rw [← hQ]
    exact W.iret (v := v) hx hb hr (fun t ht hW => ⟨v, rfl, Option.some.inj hf, ht⟩) (fun q h => by cases h) hd
  exact v_Lnd_leastWith hf hx hb hml hown hts in_X4 k_26 g_16 w_askedFor_41 g_13 ml_45 ms_45 mi_45 mc_45 hP hK hN hret ls hl
def Lnd_cheapest (f : Nat) (x1 : Int32) (I_lnd : FI) (V_lnd : FV) : Option (Int32) := if x1 < 0 ∨ 100 ≤ x1.toNatClampNeg then none else ((if 1000000 ≤ (V_lnd (10 + (0 : Int32).toNatClampNeg) x1.toNatClampNeg) then some (-9) else if x1 < 0 ∨ 100 ≤ x1.toNatClampNeg then none else (some (V_lnd (10 + (0 : Int32).toNatClampNeg) x1.toNatClampNeg))))
abbrev rm_Lnd_cheapest : Room := { frames := 0, cells := 0, slots := 0, locals := 0 }
set_option maxHeartbeats 4000000 in
set_option maxRecDepth 100000 in
theorem v_Lnd_cheapest {l : Launch} {p : Program} {e : Env} {s : State} {m : MethodId} {args : Array Value} {below : List Frame} {meth : Method} {c : Code} {Q : State → Prop} {D : va_G} {cs : Nat → ClassId} {o_lnd : Nat} {h_lnd : Nat → Nat} {I_lnd : FI} {V_lnd : FV} {x1 : Int32} {f : Nat} {out : Int32} (hf : Lnd_cheapest f x1 I_lnd V_lnd = some out) (hx : p.tables.exec = Jvm.exec) (hb : c.code = cX4_cheapest) (hml : c.maxLocals = 2) (hown : s.vm.findClass RX4 = some m.cls) (hts : ∀ w ∈ wsX4_cheapest, w.before args s = true) (in_X4 : ∀ w ∈ u_ws RX4 TX4 2, w ∈ wsX4_cheapest) (g_13 : (Cond.fieldLink RX4 13 "DaysLent$Lenders" "least" "[[I").before args s = true) (k_26 : (Cond.constant RX4 26 (1000000)).before args s = true) (hP : va_P D vwCl (List.flatten [(w_Lnd cs o_lnd h_lnd I_lnd V_lnd)]) s.heap) (hK : va_K D vwCl (tyA cs) s) (hN : yN s) (hret : ∀ (v : Int32) (pc : Nat) (ls : Array Slot), some v = some out → decode cX4_cheapest pc = .ok (.ireturn, 1) → W p l e rm_Lnd_cheapest s m args below meth c s.heap [] 0 0 Q (F0 m pc ls [.int v])) : ∀ ls : Array Slot, lv_has ls 2 [(0, .ref o_lnd), (1, .int x1)] → W p l e rm_Lnd_cheapest s m args below meth c s.heap [] 0 0 Q (F0 m 0 ls []) := by
  intro ls hl
  unfold Lnd_cheapest at hf
  refine lv_aload_n hx hb dX4_cheapest_0 rfl (lv_at hl 0 rfl) ?_
  refine va_get (D := D) (ci := 4) (v := .ref (h_lnd 0)) (C := RX4) (T := TX4) (N := 2) hx hb hts in_X4 hown hK hP 0 rfl rfl 0 (by decide) g_13 (fun _ h9 => h9) rfl dX4_cheapest_1 ?_
  refine lv_iconst (v := 0) hx hb dX4_cheapest_4 (by decide) ?_
  refine xaldA (f := fun i => if i < 7 then some (h_lnd (10 + i)) else none) hx hb hK hP 1 4 rfl rfl (by unfold vp_in; decide) dX4_cheapest_5 ?_
  refine W.eq (g2 := F0 m 6 ls [.ref (h_lnd (10 + (0 : Int32).toNatClampNeg))]) (by show F0 m _ ls (va_rf (if (0 : Int32).toNatClampNeg < 7 then some (h_lnd (10 + (0 : Int32).toNatClampNeg)) else none) :: _) = _; rw [if_pos (by decide : (0 : Int32).toNatClampNeg < 7)]; rfl) ?_
  refine lv_iload_n hx hb dX4_cheapest_6 rfl (lv_at hl 1 rfl) ?_
  obtain ⟨c7, hf⟩ := gd hf
  have hrow : ∀ i, i < 7 → ((List.flatten [(w_Lnd cs o_lnd h_lnd I_lnd V_lnd)]))[3 + i]? = some (h_lnd (10 + i), .inl (cs 0, 100, .inl (V_lnd (10 + i)))) := fun i hi => by match i, hi with | 0, _ => rfl | 1, _ => rfl | 2, _ => rfl | 3, _ => rfl | 4, _ => rfl | 5, _ => rfl | 6, _ => rfl
  refine va_iald (f := (V_lnd (10 + (0 : Int32).toNatClampNeg))) hx hb hK hP (3 + (0 : Int32).toNatClampNeg) 0 (hrow _ (by decide : (0 : Int32).toNatClampNeg < 7)) rfl c7 dX4_cheapest_7 ?_
  refine lv_ldc (v := 1000000) hx hb hown k_26 dX4_cheapest_8 ?_
  refine lv_icmp_ge (tgt := 24) hx hb dX4_cheapest_10 (by decide) (fun c10 => ?_) (fun c10 => ?_)
  · replace hf := ip c10 hf
    refine lv_bipush (v := (-9)) hx hb dX4_cheapest_24 (by decide) ?_
    exact hret (-9) 26 _ hf dX4_cheapest_26
  · replace hf := im c10 hf
    refine lv_aload_n hx hb dX4_cheapest_13 rfl (lv_at hl 0 rfl) ?_
    refine va_get (D := D) (ci := 4) (v := .ref (h_lnd 0)) (C := RX4) (T := TX4) (N := 2) hx hb hts in_X4 hown hK hP 0 rfl rfl 0 (by decide) g_13 (fun _ h9 => h9) rfl dX4_cheapest_14 ?_
    refine lv_iconst (v := 0) hx hb dX4_cheapest_17 (by decide) ?_
    refine xaldA (f := fun i => if i < 7 then some (h_lnd (10 + i)) else none) hx hb hK hP 1 4 rfl rfl (by unfold vp_in; decide) dX4_cheapest_18 ?_
    refine W.eq (g2 := F0 m 19 ls [.ref (h_lnd (10 + (0 : Int32).toNatClampNeg))]) (by show F0 m _ ls (va_rf (if (0 : Int32).toNatClampNeg < 7 then some (h_lnd (10 + (0 : Int32).toNatClampNeg)) else none) :: _) = _; rw [if_pos (by decide : (0 : Int32).toNatClampNeg < 7)]; rfl) ?_
    refine lv_iload_n hx hb dX4_cheapest_19 rfl (lv_at hl 1 rfl) ?_
    obtain ⟨c20, hf⟩ := gd hf
    have hrow : ∀ i, i < 7 → ((List.flatten [(w_Lnd cs o_lnd h_lnd I_lnd V_lnd)]))[3 + i]? = some (h_lnd (10 + i), .inl (cs 0, 100, .inl (V_lnd (10 + i)))) := fun i hi => by match i, hi with | 0, _ => rfl | 1, _ => rfl | 2, _ => rfl | 3, _ => rfl | 4, _ => rfl | 5, _ => rfl | 6, _ => rfl
    refine va_iald (f := (V_lnd (10 + (0 : Int32).toNatClampNeg))) hx hb hK hP (3 + (0 : Int32).toNatClampNeg) 0 (hrow _ (by decide : (0 : Int32).toNatClampNeg < 7)) rfl c20 dX4_cheapest_20 ?_
    refine lv_goto (tgt := 26) hx hb dX4_cheapest_21 (by decide) ?_
    exact hret (V_lnd (10 + (0 : Int32).toNatClampNeg) x1.toNatClampNeg) 26 _ hf dX4_cheapest_26
set_option maxHeartbeats 4000000 in
set_option maxRecDepth 100000 in
theorem c_Lnd_cheapest (l : Launch) (D : va_G) (cs : Nat → ClassId) (o_lnd : Nat) (h_lnd : Nat → Nat) (I_lnd : FI) (V_lnd : FV) (x1 : Int32) (f : Nat) (out : Int32) (hf : Lnd_cheapest f x1 I_lnd V_lnd = some out) : Met l yX4_cheapest wsX4_cheapest rm_Lnd_cheapest (va_Pc [.ref o_lnd, .int x1] (yR D cs (List.flatten [(w_Lnd cs o_lnd h_lnd I_lnd V_lnd)]))) (vp_Si (fun r => r = out)) 0 0 (fun _ => False) := by
  refine Met.ofW (cc := cX4_cheapest) (maxL := 2) (ret := (some .int)) (by decide) rfl ?_
  intro p e s m args below meth c s₁ B hml hv
  obtain ⟨ha, hP, hK, hN⟩ := hv
  have hx := B.exec
  have hb := B.bytes
  have hr := B.returns
  have hts := atoms_spec (ws := wsX4_cheapest) B.pre
  have hown : s.vm.findClass RX4 = some m.cls := findClass_of_methodNamed B.named
  have hlocks := B.notSynchronized
  have in_X4 : ∀ w ∈ u_ws RX4 TX4 2, w ∈ wsX4_cheapest := fun w h => List.mem_cons_of_mem _ (List.mem_append_right _ h)
  have g_13 := hts (Cond.fieldLink RX4 13 "DaysLent$Lenders" "least" "[[I") (by decide +kernel)
  have k_26 := hts (Cond.constant RX4 26 (1000000)) (by decide +kernel)
  have hl := lv_entry ([.ref o_lnd, .int x1]) (n := 2) (Nat.le_of_ble_eq_true rfl)
  rw [show entryFrame m args 2 = entryFrame m ([.ref o_lnd, .int x1] : List Value).toArray 2 from by rw [ha], lg_entry_eq]
  generalize (lg_sl ([.ref o_lnd, .int x1]) ++ List.replicate (2 - (lg_sl ([.ref o_lnd, .int x1])).length) Slot.unset).toArray = ls at hl ⊢
  generalize hQ : MQ below (vp_Si (fun r => r = out)) args s 0 0 (fun _ => False) = Q
  have hret : ∀ (v : Int32) (pc : Nat) (ls : Array Slot), some v = some out → decode cX4_cheapest pc = .ok (.ireturn, 1) → W p l e rm_Lnd_cheapest s m args below meth c s.heap [] 0 0 Q (F0 m pc ls [.int v]) := by
    intro v pc ls hf hd
    rw [← hQ]
    exact W.iret (v := v) hx hb hr (fun t ht hW => ⟨v, rfl, Option.some.inj hf, ht⟩) (fun q h => by cases h) hd
  exact v_Lnd_cheapest hf hx hb hml hown hts in_X4 g_13 k_26 hP hK hN hret ls hl
def Lnd_fewestOf_L3 (f : Nat) (x3 : Int32) (x1 : Int32) (V_lnd : FV) (x2 : Int32) (k_3 : Unit → Option (Int32)) : Nat → Int32 → Option (Int32)
  | 0, _ => none
  | n_3 + 1, x4_3 => (if x3 < x4_3 then (k_3 ()) else if x1 < 0 ∨ 6 ≤ x1.toNatClampNeg then none else ((if ((V_lnd 1) x1.toNatClampNeg) < x4_3 then (k_3 ()) else ob1 (X_askedFor f x4_3 x2) (fun zr1 => if (x1 + 1) < 0 ∨ 7 ≤ (x1 + 1).toNatClampNeg then none else (if (x3 - x4_3) < 0 ∨ 100 ≤ (x3 - x4_3).toNatClampNeg then none else (if x1 < 0 ∨ 7 ≤ x1.toNatClampNeg then none else (if x3 < 0 ∨ 100 ≤ x3.toNatClampNeg then none else ((if (zr1 + (V_lnd (10 + (x1 + 1).toNatClampNeg) (x3 - x4_3).toNatClampNeg)) = (V_lnd (10 + x1.toNatClampNeg) x3.toNatClampNeg) then some x4_3 else (Lnd_fewestOf_L3 f x3 x1 V_lnd x2 k_3 n_3 (x4_3 + 1)))))))))))
def Lnd_fewestOf (f : Nat) (x1 : Int32) (x2 : Int32) (x3 : Int32) (I_lnd : FI) (V_lnd : FV) : Option (Int32) := (Lnd_fewestOf_L3 f x3 x1 V_lnd x2 (fun (u_3 : Unit) => some 0) f 0)
abbrev rm_Lnd_fewestOf : Room := { frames := 1, cells := 0, slots := 0, locals := 21 }
set_option maxHeartbeats 4000000 in
set_option maxRecDepth 100000 in
theorem v_Lnd_fewestOf {l : Launch} {p : Program} {e : Env} {s : State} {m : MethodId} {args : Array Value} {below : List Frame} {meth : Method} {c : Code} {Q : State → Prop} {D : va_G} {cs : Nat → ClassId} {o_lnd : Nat} {h_lnd : Nat → Nat} {I_lnd : FI} {V_lnd : FV} {x1 : Int32} {x2 : Int32} {x3 : Int32} {f : Nat} {out : Int32} (hf : Lnd_fewestOf f x1 x2 x3 I_lnd V_lnd = some out) (hx : p.tables.exec = Jvm.exec) (hb : c.code = cX4_fewestOf) (hml : c.maxLocals = 5) (hown : s.vm.findClass RX4 = some m.cls) (hts : ∀ w ∈ wsX4_fewestOf, w.before args s = true) (in_X4 : ∀ w ∈ u_ws RX4 TX4 2, w ∈ wsX4_fewestOf) (g_16 : (Cond.fieldLink RX4 16 "DaysLent$Lenders" "limit" "[I").before args s = true) (w_askedFor_41 : va_CN rm_Lnd_fewestOf s args RX4 41 yX9_askedFor "DaysLent" cX9_askedFor 2 (some .int) wsX9_askedFor rm_X_askedFor 0 0 2 ∧ (Cond.static yX9_askedFor).before args s = true ∧ True) (g_13 : (Cond.fieldLink RX4 13 "DaysLent$Lenders" "least" "[[I").before args s = true) (hP : va_P D vwCl (List.flatten [(w_Lnd cs o_lnd h_lnd I_lnd V_lnd)]) s.heap) (hK : va_K D vwCl (tyA cs) s) (hN : yN s) (hret : ∀ (v : Int32) (pc : Nat) (ls : Array Slot), some v = some out → decode cX4_fewestOf pc = .ok (.ireturn, 1) → W p l e rm_Lnd_fewestOf s m args below meth c s.heap [] 0 0 Q (F0 m pc ls [.int v])) : ∀ ls : Array Slot, lv_has ls 5 [(0, .ref o_lnd), (1, .int x1), (2, .int x2), (3, .int x3)] → W p l e rm_Lnd_fewestOf s m args below meth c s.heap [] 0 0 Q (F0 m 0 ls []) := by
  intro ls hl
  unfold Lnd_fewestOf at hf
  refine lv_iconst (v := 0) hx hb dX4_fewestOf_0 (by decide) ?_
  refine lv_istore (lv' := [(4, .int 0), (0, .ref o_lnd), (1, .int x1), (2, .int x2), (3, .int x3)]) hx hb dX4_fewestOf_1 hl (by decide) rfl (fun ls hl => ?_)
  have L3 : ∀ (k_3 : Unit → Option (Int32)) (hk_3 : ∀ (u_3 : Unit), k_3 u_3 = some out → ∀ ls : Array Slot, lv_has ls 5 [] → W p l e rm_Lnd_fewestOf s m args below meth c s.heap [] 0 0 Q (F0 m 60 ls [])), ∀ (n_3 : Nat) (x4_3 : Int32), Lnd_fewestOf_L3 f x3 x1 V_lnd x2 k_3 n_3 x4_3 = some out → ∀ ls : Array Slot, lv_has ls 5 [(0, .ref o_lnd), (1, .int x1), (2, .int x2), (3, .int x3), (4, .int x4_3)] → W p l e rm_Lnd_fewestOf s m args below meth c s.heap [] 0 0 Q (F0 m 3 ls []) := by
    intro k_3 hk_3 n_3
    induction n_3 with
    | zero => intro x4_3 hf; rw [Lnd_fewestOf_L3] at hf; cases hf
    | succ n_3 ih_3 =>
      intro x4_3 hf ls hl
      rw [Lnd_fewestOf_L3] at hf
      refine lv_iload hx hb dX4_fewestOf_3 (lv_at hl 4 rfl) ?_
      refine lv_iload_n hx hb dX4_fewestOf_5 rfl (lv_at hl 3 rfl) ?_
      refine lv_icmp_gt (tgt := 60) hx hb dX4_fewestOf_6 (by decide) (fun c6 => ?_) (fun c6 => ?_)
      · replace hf := ip c6 hf
        exact hk_3 () hf _ (lv_sub hl [] rfl)
      · replace hf := im c6 hf
        refine lv_iload hx hb dX4_fewestOf_9 (lv_at hl 4 rfl) ?_
        refine lv_aload_n hx hb dX4_fewestOf_11 rfl (lv_at hl 0 rfl) ?_
        refine va_get (D := D) (ci := 4) (v := .ref (h_lnd 1)) (C := RX4) (T := TX4) (N := 2) hx hb hts in_X4 hown hK hP 0 rfl rfl 1 (by decide) g_16 (fun _ h9 => h9) rfl dX4_fewestOf_12 ?_
        refine lv_iload_n hx hb dX4_fewestOf_15 rfl (lv_at hl 1 rfl) ?_
        obtain ⟨c16, hf⟩ := gd hf
        refine va_iald (f := (V_lnd 1)) hx hb hK hP 2 0 rfl rfl c16 dX4_fewestOf_16 ?_
        refine lv_icmp_gt (tgt := 60) hx hb dX4_fewestOf_17 (by decide) (fun c17 => ?_) (fun c17 => ?_)
        · replace hf := ip c17 hf
          exact hk_3 () hf _ (lv_sub hl [] rfl)
        · replace hf := im c17 hf
          refine lv_iload hx hb dX4_fewestOf_20 (lv_at hl 4 rfl) ?_
          refine lv_iload_n hx hb dX4_fewestOf_22 rfl (lv_at hl 2 rfl) ?_
          obtain ⟨zr1, qr1, hf⟩ := bd1 hf
          refine vp_callSi (va_Run.run (va_runSN (As := [.int x4_3, .int x2]) (rest := []) ⟨hx, hb, hml, hown, hts⟩ (c_X_askedFor l x4_3 x2 f zr1 qr1) w_askedFor_41 ⟨fun a U g mk q => q, fun U hU hW => ⟨rfl, trivial⟩⟩ rfl rfl hl.1 rfl (lv_room (Nat.le_of_ble_eq_true rfl)) dX4_fewestOf_23 ⟨Nat.zero_le _, Nat.zero_le _⟩)) (fun r1 er1 => ?_)
          rw [er1]
          refine lv_aload_n hx hb dX4_fewestOf_26 rfl (lv_at hl 0 rfl) ?_
          refine va_get (D := D) (ci := 4) (v := .ref (h_lnd 0)) (C := RX4) (T := TX4) (N := 2) hx hb hts in_X4 hown hK hP 0 rfl rfl 0 (by decide) g_13 (fun _ h9 => h9) rfl dX4_fewestOf_27 ?_
          refine lv_iload_n hx hb dX4_fewestOf_30 rfl (lv_at hl 1 rfl) ?_
          refine lv_iconst (v := 1) hx hb dX4_fewestOf_31 (by decide) ?_
          refine lv_iadd hx hb dX4_fewestOf_32 ?_
          obtain ⟨c33, hf⟩ := gd hf
          refine xaldA (f := fun i => if i < 7 then some (h_lnd (10 + i)) else none) hx hb hK hP 1 4 rfl rfl c33 dX4_fewestOf_33 ?_
          refine W.eq (g2 := F0 m 34 ls [.ref (h_lnd (10 + (x1 + 1).toNatClampNeg)), .int zr1]) (by show F0 m _ ls (va_rf (if (x1 + 1).toNatClampNeg < 7 then some (h_lnd (10 + (x1 + 1).toNatClampNeg)) else none) :: _) = _; rw [if_pos (Nat.not_le.mp (fun q => c33 (Or.inr q)))]; rfl) ?_
          refine lv_iload_n hx hb dX4_fewestOf_34 rfl (lv_at hl 3 rfl) ?_
          refine lv_iload hx hb dX4_fewestOf_35 (lv_at hl 4 rfl) ?_
          refine lv_isub hx hb dX4_fewestOf_37 ?_
          obtain ⟨c38, hf⟩ := gd hf
          have hrow : ∀ i, i < 7 → ((List.flatten [(w_Lnd cs o_lnd h_lnd I_lnd V_lnd)]))[3 + i]? = some (h_lnd (10 + i), .inl (cs 0, 100, .inl (V_lnd (10 + i)))) := fun i hi => by match i, hi with | 0, _ => rfl | 1, _ => rfl | 2, _ => rfl | 3, _ => rfl | 4, _ => rfl | 5, _ => rfl | 6, _ => rfl
          refine va_iald (f := (V_lnd (10 + (x1 + 1).toNatClampNeg))) hx hb hK hP (3 + (x1 + 1).toNatClampNeg) 0 (hrow _ (Nat.not_le.mp (fun q => c33 (Or.inr q)))) rfl c38 dX4_fewestOf_38 ?_
          refine lv_iadd hx hb dX4_fewestOf_39 ?_
          refine lv_aload_n hx hb dX4_fewestOf_40 rfl (lv_at hl 0 rfl) ?_
          refine va_get (D := D) (ci := 4) (v := .ref (h_lnd 0)) (C := RX4) (T := TX4) (N := 2) hx hb hts in_X4 hown hK hP 0 rfl rfl 0 (by decide) g_13 (fun _ h9 => h9) rfl dX4_fewestOf_41 ?_
          refine lv_iload_n hx hb dX4_fewestOf_44 rfl (lv_at hl 1 rfl) ?_
          obtain ⟨c45, hf⟩ := gd hf
          refine xaldA (f := fun i => if i < 7 then some (h_lnd (10 + i)) else none) hx hb hK hP 1 4 rfl rfl c45 dX4_fewestOf_45 ?_
          refine W.eq (g2 := F0 m 46 ls [.ref (h_lnd (10 + x1.toNatClampNeg)), .int (zr1 + (V_lnd (10 + (x1 + 1).toNatClampNeg) (x3 - x4_3).toNatClampNeg))]) (by show F0 m _ ls (va_rf (if x1.toNatClampNeg < 7 then some (h_lnd (10 + x1.toNatClampNeg)) else none) :: _) = _; rw [if_pos (Nat.not_le.mp (fun q => c45 (Or.inr q)))]; rfl) ?_
          refine lv_iload_n hx hb dX4_fewestOf_46 rfl (lv_at hl 3 rfl) ?_
          obtain ⟨c47, hf⟩ := gd hf
          have hrow : ∀ i, i < 7 → ((List.flatten [(w_Lnd cs o_lnd h_lnd I_lnd V_lnd)]))[3 + i]? = some (h_lnd (10 + i), .inl (cs 0, 100, .inl (V_lnd (10 + i)))) := fun i hi => by match i, hi with | 0, _ => rfl | 1, _ => rfl | 2, _ => rfl | 3, _ => rfl | 4, _ => rfl | 5, _ => rfl | 6, _ => rfl
          refine va_iald (f := (V_lnd (10 + x1.toNatClampNeg))) hx hb hK hP (3 + x1.toNatClampNeg) 0 (hrow _ (Nat.not_le.mp (fun q => c45 (Or.inr q)))) rfl c47 dX4_fewestOf_47 ?_
          refine lv_icmp_ne (tgt := 54) hx hb dX4_fewestOf_48 (by decide) (fun c48 => ?_) (fun c48 => ?_)
          · replace hf := im c48 hf
            refine lv_iinc (v := (x4_3 + 1)) (lv' := [(4, .int (x4_3 + 1)), (0, .ref o_lnd), (1, .int x1), (2, .int x2), (3, .int x3)]) hx hb dX4_fewestOf_54 hl (k := 4) rfl (by rfl) (by decide) rfl (fun ls hl => ?_)
            refine lv_goto (tgt := 3) hx hb dX4_fewestOf_57 (by decide) ?_
            exact ih_3 (x4_3 + 1) hf _ (lv_sub hl [1, 2, 3, 4, 0] rfl)
          · replace hf := ip c48 hf
            refine lv_iload hx hb dX4_fewestOf_51 (lv_at hl 4 rfl) ?_
            exact hret x4_3 53 _ hf dX4_fewestOf_53
  refine L3 _ (fun u_3 hf ls hl => ?_) f 0 hf _ (lv_sub hl [1, 2, 3, 4, 0] rfl)
  refine lv_iconst (v := 0) hx hb dX4_fewestOf_60 (by decide) ?_
  exact hret 0 61 _ hf dX4_fewestOf_61
set_option maxHeartbeats 4000000 in
set_option maxRecDepth 100000 in
theorem c_Lnd_fewestOf (l : Launch) (D : va_G) (cs : Nat → ClassId) (o_lnd : Nat) (h_lnd : Nat → Nat) (I_lnd : FI) (V_lnd : FV) (x1 : Int32) (x2 : Int32) (x3 : Int32) (f : Nat) (out : Int32) (hf : Lnd_fewestOf f x1 x2 x3 I_lnd V_lnd = some out) : Met l yX4_fewestOf wsX4_fewestOf rm_Lnd_fewestOf (va_Pc [.ref o_lnd, .int x1, .int x2, .int x3] (yR D cs (List.flatten [(w_Lnd cs o_lnd h_lnd I_lnd V_lnd)]))) (vp_Si (fun r => r = out)) 0 0 (fun _ => False) := by
  refine Met.ofW (cc := cX4_fewestOf) (maxL := 5) (ret := (some .int)) (by decide) rfl ?_
  intro p e s m args below meth c s₁ B hml hv
  obtain ⟨ha, hP, hK, hN⟩ := hv
  have hx := B.exec
  have hb := B.bytes
  have hr := B.returns
  have hts := atoms_spec (ws := wsX4_fewestOf) B.pre
  have hown : s.vm.findClass RX4 = some m.cls := findClass_of_methodNamed B.named
  have hlocks := B.notSynchronized
  have in_X4 : ∀ w ∈ u_ws RX4 TX4 2, w ∈ wsX4_fewestOf := fun w h => List.mem_cons_of_mem _ (List.mem_append_right _ h)
  have g_16 := hts (Cond.fieldLink RX4 16 "DaysLent$Lenders" "limit" "[I") (by decide +kernel)
  have w_askedFor_41 : va_CN rm_Lnd_fewestOf s args RX4 41 yX9_askedFor "DaysLent" cX9_askedFor 2 (some .int) wsX9_askedFor rm_X_askedFor 0 0 2 ∧ (Cond.static yX9_askedFor).before args s = true ∧ True := ⟨va_cnB (R := rm_Lnd_fewestOf) (s := s) (args := args) (rm := rm_X_askedFor) (mc := 0) (ms := 0) 2 hts gX4_fewestOf_X9_askedFor_n41 rfl rfl rfl hN.2.2.1 (hts (.initialized RX9) (by decide +kernel)) (by decide +kernel) ⟨Nat.le_of_ble_eq_true rfl, Nat.le_of_ble_eq_true rfl⟩, hts (.static yX9_askedFor) (by decide +kernel), trivial⟩
  have g_13 := hts (Cond.fieldLink RX4 13 "DaysLent$Lenders" "least" "[[I") (by decide +kernel)
  have hl := lv_entry ([.ref o_lnd, .int x1, .int x2, .int x3]) (n := 5) (Nat.le_of_ble_eq_true rfl)
  rw [show entryFrame m args 5 = entryFrame m ([.ref o_lnd, .int x1, .int x2, .int x3] : List Value).toArray 5 from by rw [ha], lg_entry_eq]
  generalize (lg_sl ([.ref o_lnd, .int x1, .int x2, .int x3]) ++ List.replicate (5 - (lg_sl ([.ref o_lnd, .int x1, .int x2, .int x3])).length) Slot.unset).toArray = ls at hl ⊢
  generalize hQ : MQ below (vp_Si (fun r => r = out)) args s 0 0 (fun _ => False) = Q
  have hret : ∀ (v : Int32) (pc : Nat) (ls : Array Slot), some v = some out → decode cX4_fewestOf pc = .ok (.ireturn, 1) → W p l e rm_Lnd_fewestOf s m args below meth c s.heap [] 0 0 Q (F0 m pc ls [.int v]) := by
    intro v pc ls hf hd
    rw [← hQ]
    exact W.iret (v := v) hx hb hr (fun t ht hW => ⟨v, rfl, Option.some.inj hf, ht⟩) (fun q h => by cases h) hd
  exact v_Lnd_fewestOf hf hx hb hml hown hts in_X4 g_16 w_askedFor_41 g_13 hP hK hN hret ls hl
def Lnd_weigh_L3 {ρ : Type} (f : Nat) (x3 : Int32) (I_g : FI) (k_3 : FV → Option ρ) : Nat → Int32 → FV → Option ρ
  | 0, _, _ => none
  | n_3 + 1, x4_3, Vlnd_3 => (if x3 < x4_3 then (k_3 Vlnd_3) else (if 100 ≤ x4_3 then (k_3 Vlnd_3) else if (I_g 0) < 0 ∨ 7 ≤ (I_g 0).toNatClampNeg then none else ((nm (fun (t2_38 : Int32) => if x4_3 < 0 ∨ 100 ≤ x4_3.toNatClampNeg then none else (nm (va_up Vlnd_3 (10 + (I_g 0).toNatClampNeg) (upd (Vlnd_3 (10 + (I_g 0).toNatClampNeg)) x4_3.toNatClampNeg t2_38)) (fun V1 => (Lnd_weigh_L3 f x3 I_g k_3 n_3 (x4_3 + 1) V1)))) (fun j38 => (if x4_3 = 0 then (j38 0) else (j38 1000000)))))))
def Lnd_weigh_L106 {ρ : Type} (f : Nat) (x3 : Int32) (x4_53 : Int32) (V_g : FV) (I_lnd : FI) (k_106 : FV → Option ρ) : Nat → Int32 → FV → Option ρ
  | 0, _, _ => none
  | n_106 + 1, x6_106, Vlnd_106 => (if x3 < x6_106 then (k_106 Vlnd_106) else (if 100 ≤ x6_106 then (k_106 Vlnd_106) else if x4_53 < 0 ∨ 7 ≤ x4_53.toNatClampNeg then none else (if x4_53 < 0 ∨ 6 ≤ x4_53.toNatClampNeg then none else (ob1 (Lnd_leastWith f x4_53 ((V_g 6) x4_53.toNatClampNeg) x6_106 I_lnd Vlnd_106) (fun zr3 => if x6_106 < 0 ∨ 100 ≤ x6_106.toNatClampNeg then none else (nm (va_up Vlnd_106 (10 + x4_53.toNatClampNeg) (upd (Vlnd_106 (10 + x4_53.toNatClampNeg)) x6_106.toNatClampNeg zr3)) (fun V4 => (Lnd_weigh_L106 f x3 x4_53 V_g I_lnd k_106 n_106 (x6_106 + 1) V4))))))))
def Lnd_weigh_L53 {ρ : Type} (f : Nat) (x3 : Int32) (V_g : FV) (I_lnd : FI) (x2 : Int32) (I_g : FI) (k_53 : FV → Option ρ) : Nat → Int32 → FV → Option ρ
  | 0, _, _ => none
  | n_53 + 1, x4_53, Vlnd_53 => (if x4_53 < 0 then (k_53 Vlnd_53) else (nm (fun (t0_78 : Int32) => (nm (fun (t2_102 : Int32) => if x4_53 < 0 ∨ 6 ≤ x4_53.toNatClampNeg then none else (nm (va_up Vlnd_53 1 (upd (Vlnd_53 1) x4_53.toNatClampNeg t2_102)) (fun V2 => (Lnd_weigh_L106 f x3 x4_53 V_g I_lnd (fun (Vlnd_106 : FV) => (Lnd_weigh_L53 f x3 V_g I_lnd x2 I_g k_53 n_53 (x4_53 + (-1)) Vlnd_106)) f 0 V2)))) (fun j102 => (if t0_78 = 0 then (j102 0) else if x4_53 < 0 ∨ 6 ≤ x4_53.toNatClampNeg then none else ((j102 ((V_g 5) x4_53.toNatClampNeg))))))) (fun j78 => nm (fun (u_77 : Unit) => (j78 0)) (fun j77 => (if x4_53 = x2 then (j77 ()) else ob1 (Led_isAlive f x4_53 I_g V_g) (fun zr5 => (if zr5 = 0 then (j77 ()) else (j78 1))))))))
def Lnd_weigh (f : Nat) (x2 : Int32) (x3 : Int32) (I_lnd : FI) (V_lnd : FV) (I_g : FI) (V_g : FV) : Option (FV) := (Lnd_weigh_L3 f x3 I_g (fun (Vlnd_3 : FV) => (Lnd_weigh_L53 f x3 V_g I_lnd x2 I_g (fun (Vlnd_53 : FV) => some Vlnd_53) f ((I_g 0) - 1) Vlnd_3)) f 0 V_lnd)
abbrev rm_Lnd_weigh : Room := { frames := 2, cells := 0, slots := 0, locals := 46 }
set_option maxHeartbeats 4000000 in
set_option maxRecDepth 100000 in
theorem v_Lnd_weigh {l : Launch} {p : Program} {e : Env} {s : State} {m : MethodId} {args : Array Value} {below : List Frame} {meth : Method} {c : Code} {Q : State → Prop} {D : va_G} {cs : Nat → ClassId} {o_lnd : Nat} {h_lnd : Nat → Nat} {o_g : Nat} {h_g : Nat → Nat} {A : Nat → Prop} {I_lnd : FI} {V_lnd : FV} {I_g : FI} {V_g : FV} {x2 : Int32} {x3 : Int32} {f : Nat} {out : FV} (hf : Lnd_weigh f x2 x3 I_lnd V_lnd I_g V_g = some out) (hx : p.tables.exec = Jvm.exec) (hb : c.code = cX4_weigh) (hml : c.maxLocals = 7) (hown : s.vm.findClass RX4 = some m.cls) (hts : ∀ w ∈ wsX4_weigh, w.before args s = true) (in_X4 : ∀ w ∈ u_ws RX4 TX4 2, w ∈ wsX4_weigh) (in_X3 : ∀ w ∈ u_ws RX3 TX3 11, w ∈ wsX4_weigh) (g_13 : (Cond.fieldLink RX4 13 "DaysLent$Lenders" "least" "[[I").before args s = true) (g_20 : (Cond.fieldLink RX4 20 "DaysLent$Ledger" "people" "I").before args s = true) (k_26 : (Cond.constant RX4 26 (1000000)).before args s = true) (w_isAlive_27 : CallW rm_Lnd_weigh s args RX4 RX3 27 yX3_isAlive cX3_isAlive 2 (some .boolean) wsX3_isAlive rm_Led_isAlive 0 0 1) (g_16 : (Cond.fieldLink RX4 16 "DaysLent$Lenders" "limit" "[I").before args s = true) (g_31 : (Cond.fieldLink RX4 31 "DaysLent$Ledger" "mornings" "[I").before args s = true) (g_34 : (Cond.fieldLink RX4 34 "DaysLent$Ledger" "asks" "[I").before args s = true) (w_leastWith_37 : CallW rm_Lnd_weigh s args RX4 RX4 37 yX4_leastWith cX4_leastWith 6 (some .int) wsX4_leastWith rm_Lnd_leastWith 0 0 3) (hA : ∀ q : Nat, s.heap.size ≤ q → A q) (hP : va_P D vwCl (List.flatten [(w_Lnd cs o_lnd h_lnd I_lnd V_lnd), (w_Led cs o_g h_g I_g V_g)]) s.heap) (hD : va_D A (List.flatten [(w_Lnd cs o_lnd h_lnd I_lnd V_lnd), (w_Led cs o_g h_g I_g V_g)])) (hK : va_K D vwCl (tyA cs) s) (hN : yN s) (hret : ∀ (Vlnd9 : FV) (H : Heap) (locs : List Loc) (pc : Nat) (ls : Array Slot), some Vlnd9 = some out → va_P D vwCl (List.flatten [(w_Lnd cs o_lnd h_lnd I_lnd Vlnd9), (w_Led cs o_g h_g I_g V_g)]) H → va_D A (List.flatten [(w_Lnd cs o_lnd h_lnd I_lnd Vlnd9), (w_Led cs o_g h_g I_g V_g)]) → va_S A s.heap H locs → decode cX4_weigh pc = .ok (.return_, 1) → W p l e rm_Lnd_weigh s m args below meth c H locs 0 0 Q (F0 m pc ls [])) : ∀ ls : Array Slot, lv_has ls 7 [(0, .ref o_lnd), (1, .ref o_g), (2, .int x2), (3, .int x3)] → W p l e rm_Lnd_weigh s m args below meth c s.heap [] 0 0 Q (F0 m 0 ls []) := by
  intro ls hl
  have hS : va_S A s.heap s.heap [] := va_S.rf
  unfold Lnd_weigh at hf
  refine lv_iconst (v := 0) hx hb dX4_weigh_0 (by decide) ?_
  refine lv_istore (lv' := [(4, .int 0), (0, .ref o_lnd), (1, .ref o_g), (2, .int x2), (3, .int x3)]) hx hb dX4_weigh_1 hl (by decide) rfl (fun ls hl => ?_)
  have L3 : ∀ (k_3 : FV → Option (FV)) (hk_3 : ∀ (Vlnd_3 : FV), k_3 Vlnd_3 = some out → ∀ (H : Heap) (locs : List Loc), va_P D vwCl (List.flatten [(w_Lnd cs o_lnd h_lnd I_lnd Vlnd_3), (w_Led cs o_g h_g I_g V_g)]) H → va_D A (List.flatten [(w_Lnd cs o_lnd h_lnd I_lnd Vlnd_3), (w_Led cs o_g h_g I_g V_g)]) → va_S A s.heap H locs → ∀ ls : Array Slot, lv_has ls 7 [(0, .ref o_lnd), (1, .ref o_g), (2, .int x2), (3, .int x3)] → W p l e rm_Lnd_weigh s m args below meth c H locs 0 0 Q (F0 m 45 ls [])), ∀ (n_3 : Nat) (x4_3 : Int32) (Vlnd_3 : FV), Lnd_weigh_L3 f x3 I_g k_3 n_3 x4_3 Vlnd_3 = some out → ∀ (H : Heap) (locs : List Loc), va_P D vwCl (List.flatten [(w_Lnd cs o_lnd h_lnd I_lnd Vlnd_3), (w_Led cs o_g h_g I_g V_g)]) H → va_D A (List.flatten [(w_Lnd cs o_lnd h_lnd I_lnd Vlnd_3), (w_Led cs o_g h_g I_g V_g)]) → va_S A s.heap H locs → ∀ ls : Array Slot, lv_has ls 7 [(0, .ref o_lnd), (1, .ref o_g), (2, .int x2), (3, .int x3), (4, .int x4_3)] → W p l e rm_Lnd_weigh s m args below meth c H locs 0 0 Q (F0 m 3 ls []) := by
    intro k_3 hk_3 n_3
    induction n_3 with
    | zero => intro x4_3 Vlnd_3 hf; rw [Lnd_weigh_L3] at hf; cases hf
    | succ n_3 ih_3 =>
      intro x4_3 Vlnd_3 hf H locs hP hD hS ls hl
      rw [Lnd_weigh_L3] at hf
      refine lv_iload hx hb dX4_weigh_3 (lv_at hl 4 rfl) ?_
      refine lv_iload_n hx hb dX4_weigh_5 rfl (lv_at hl 3 rfl) ?_
      refine lv_icmp_gt (tgt := 45) hx hb dX4_weigh_6 (by decide) (fun c6 => ?_) (fun c6 => ?_)
      · replace hf := ip c6 hf
        exact hk_3 Vlnd_3 hf _ _ hP hD hS _ (lv_sub hl [0, 1, 2, 3] rfl)
      · replace hf := im c6 hf
        refine lv_iload hx hb dX4_weigh_9 (lv_at hl 4 rfl) ?_
        refine lv_bipush (v := 100) hx hb dX4_weigh_11 (by decide) ?_
        refine lv_icmp_ge (tgt := 45) hx hb dX4_weigh_13 (by decide) (fun c13 => ?_) (fun c13 => ?_)
        · replace hf := ip c13 hf
          exact hk_3 Vlnd_3 hf _ _ hP hD hS _ (lv_sub hl [0, 1, 2, 3] rfl)
        · replace hf := im c13 hf
          refine lv_aload_n hx hb dX4_weigh_16 rfl (lv_at hl 0 rfl) ?_
          refine va_get (D := D) (ci := 4) (v := .ref (h_lnd 0)) (C := RX4) (T := TX4) (N := 2) hx hb hts in_X4 hown hK hP 0 rfl rfl 0 (by decide) g_13 (fun _ h9 => h9) rfl dX4_weigh_17 ?_
          refine lv_aload_n hx hb dX4_weigh_20 rfl (lv_at hl 1 rfl) ?_
          refine va_get (D := D) (ci := 3) (v := .int (I_g 0)) (C := RX3) (T := TX3) (N := 11) hx hb hts in_X3 hown hK hP 10 rfl rfl 0 (by decide) g_20 (fun _ h9 => h9) rfl dX4_weigh_21 ?_
          obtain ⟨c24, hf⟩ := gd hf
          refine xaldA (f := fun i => if i < 7 then some (h_lnd (10 + i)) else none) hx hb hK hP 1 4 rfl rfl c24 dX4_weigh_24 ?_
          refine W.eq (g2 := F0 m 25 ls [.ref (h_lnd (10 + (I_g 0).toNatClampNeg))]) (by show F0 m _ ls (va_rf (if (I_g 0).toNatClampNeg < 7 then some (h_lnd (10 + (I_g 0).toNatClampNeg)) else none) :: _) = _; rw [if_pos (Nat.not_le.mp (fun q => c24 (Or.inr q)))]; rfl) ?_
          refine lv_iload hx hb dX4_weigh_25 (lv_at hl 4 rfl) ?_
          refine lv_iload hx hb dX4_weigh_27 (lv_at hl 4 rfl) ?_
          obtain ⟨j38, ej38, hf⟩ := nme hf
          have J38 : ∀ (t2_38 : Int32), j38 t2_38 = some out → ∀ (H : Heap) (locs : List Loc), va_P D vwCl (List.flatten [(w_Lnd cs o_lnd h_lnd I_lnd Vlnd_3), (w_Led cs o_g h_g I_g V_g)]) H → va_D A (List.flatten [(w_Lnd cs o_lnd h_lnd I_lnd Vlnd_3), (w_Led cs o_g h_g I_g V_g)]) → va_S A s.heap H locs → ∀ ls : Array Slot, lv_has ls 7 [(0, .ref o_lnd), (1, .ref o_g), (2, .int x2), (3, .int x3), (4, .int x4_3)] → W p l e rm_Lnd_weigh s m args below meth c H locs 0 0 Q (F0 m 38 ls [.int t2_38, .int x4_3, .ref (h_lnd (10 + (I_g 0).toNatClampNeg))]) := by
            intro t2_38 hf H locs hP hD hS ls hl
            rw [ej38] at hf
            obtain ⟨c38, hf⟩ := gd hf
            have hrow : ∀ i, i < 7 → ((List.flatten [(w_Lnd cs o_lnd h_lnd I_lnd Vlnd_3), (w_Led cs o_g h_g I_g V_g)]))[3 + i]? = some (h_lnd (10 + i), .inl (cs 0, 100, .inl (Vlnd_3 (10 + i)))) := fun i hi => by match i, hi with | 0, _ => rfl | 1, _ => rfl | 2, _ => rfl | 3, _ => rfl | 4, _ => rfl | 5, _ => rfl | 6, _ => rfl
            have hput : ∀ (X : Nat → Int32) i, i < 7 → ((List.flatten [(w_Lnd cs o_lnd h_lnd I_lnd Vlnd_3), (w_Led cs o_g h_g I_g V_g)])).set (3 + i) (h_lnd (10 + i), .inl (cs 0, 100, .inl X)) = (List.flatten [(w_Lnd cs o_lnd h_lnd I_lnd (va_up Vlnd_3 (10 + i) X)), (w_Led cs o_g h_g I_g V_g)]) := fun X i hi => by match i, hi with | 0, _ => rfl | 1, _ => rfl | 2, _ => rfl | 3, _ => rfl | 4, _ => rfl | 5, _ => rfl | 6, _ => rfl
            refine va_iast (f := (Vlnd_3 (10 + (I_g 0).toNatClampNeg))) hx hb hK hP hD hS (3 + (I_g 0).toNatClampNeg) 0 (hrow _ (Nat.not_le.mp (fun q => c24 (Or.inr q)))) rfl c38 dX4_weigh_38 (fun H locs hP hD hS => ?_)
            rw [hput _ _ (Nat.not_le.mp (fun q => c24 (Or.inr q)))] at hP hD
            obtain ⟨V1, eV1, hf⟩ := nme hf
            have hP : va_P D vwCl (List.flatten [(w_Lnd cs o_lnd h_lnd I_lnd V1), (w_Led cs o_g h_g I_g V_g)]) H := by rw [eV1]; exact hP
            have hD : va_D A (List.flatten [(w_Lnd cs o_lnd h_lnd I_lnd V1), (w_Led cs o_g h_g I_g V_g)]) := by rw [eV1]; exact hD
            refine lv_iinc (v := (x4_3 + 1)) (lv' := [(4, .int (x4_3 + 1)), (0, .ref o_lnd), (1, .ref o_g), (2, .int x2), (3, .int x3)]) hx hb dX4_weigh_39 hl (k := 4) rfl (by rfl) (by decide) rfl (fun ls hl => ?_)
            refine lv_goto (tgt := 3) hx hb dX4_weigh_42 (by decide) ?_
            exact ih_3 (x4_3 + 1) V1 hf _ _ hP hD hS _ (lv_sub hl [1, 2, 3, 4, 0] rfl)
          refine lv_if_ne (tgt := 36) hx hb dX4_weigh_29 (by decide) (fun c29 => ?_) (fun c29 => ?_)
          · replace hf := im c29 hf
            refine lv_ldc (v := 1000000) hx hb hown k_26 dX4_weigh_36 ?_
            exact J38 1000000 hf _ _ hP hD hS _ (lv_sub hl [0, 1, 2, 3, 4] rfl)
          · replace hf := ip c29 hf
            refine lv_iconst (v := 0) hx hb dX4_weigh_32 (by decide) ?_
            refine lv_goto (tgt := 38) hx hb dX4_weigh_33 (by decide) ?_
            exact J38 0 hf _ _ hP hD hS _ (lv_sub hl [0, 1, 2, 3, 4] rfl)
  refine L3 _ (fun Vlnd_3 hf H locs hP hD hS ls hl => ?_) f 0 V_lnd hf _ _ hP hD hS _ (lv_sub hl [1, 2, 3, 4, 0] rfl)
  refine lv_aload_n hx hb dX4_weigh_45 rfl (lv_at hl 1 rfl) ?_
  refine va_get (D := D) (ci := 3) (v := .int (I_g 0)) (C := RX3) (T := TX3) (N := 11) hx hb hts in_X3 hown hK hP 10 rfl rfl 0 (by decide) g_20 (fun _ h9 => h9) rfl dX4_weigh_46 ?_
  refine lv_iconst (v := 1) hx hb dX4_weigh_49 (by decide) ?_
  refine lv_isub hx hb dX4_weigh_50 ?_
  refine lv_istore (lv' := [(4, .int ((I_g 0) - 1)), (0, .ref o_lnd), (1, .ref o_g), (2, .int x2), (3, .int x3)]) hx hb dX4_weigh_51 hl (by decide) rfl (fun ls hl => ?_)
  have L53 : ∀ (k_53 : FV → Option (FV)) (hk_53 : ∀ (Vlnd_53 : FV), k_53 Vlnd_53 = some out → ∀ (H : Heap) (locs : List Loc), va_P D vwCl (List.flatten [(w_Lnd cs o_lnd h_lnd I_lnd Vlnd_53), (w_Led cs o_g h_g I_g V_g)]) H → va_D A (List.flatten [(w_Lnd cs o_lnd h_lnd I_lnd Vlnd_53), (w_Led cs o_g h_g I_g V_g)]) → va_S A s.heap H locs → ∀ ls : Array Slot, lv_has ls 7 [] → W p l e rm_Lnd_weigh s m args below meth c H locs 0 0 Q (F0 m 156 ls [])), ∀ (n_53 : Nat) (x4_53 : Int32) (Vlnd_53 : FV), Lnd_weigh_L53 f x3 V_g I_lnd x2 I_g k_53 n_53 x4_53 Vlnd_53 = some out → ∀ (H : Heap) (locs : List Loc), va_P D vwCl (List.flatten [(w_Lnd cs o_lnd h_lnd I_lnd Vlnd_53), (w_Led cs o_g h_g I_g V_g)]) H → va_D A (List.flatten [(w_Lnd cs o_lnd h_lnd I_lnd Vlnd_53), (w_Led cs o_g h_g I_g V_g)]) → va_S A s.heap H locs → ∀ ls : Array Slot, lv_has ls 7 [(0, .ref o_lnd), (1, .ref o_g), (2, .int x2), (3, .int x3), (4, .int x4_53)] → W p l e rm_Lnd_weigh s m args below meth c H locs 0 0 Q (F0 m 53 ls []) := by
    intro k_53 hk_53 n_53
    induction n_53 with
    | zero => intro x4_53 Vlnd_53 hf; rw [Lnd_weigh_L53] at hf; cases hf
    | succ n_53 ih_53 =>
      intro x4_53 Vlnd_53 hf H locs hP hD hS ls hl
      rw [Lnd_weigh_L53] at hf
      refine lv_iload hx hb dX4_weigh_53 (lv_at hl 4 rfl) ?_
      refine lv_if_lt (tgt := 156) hx hb dX4_weigh_55 (by decide) (fun c55 => ?_) (fun c55 => ?_)
      · replace hf := ip c55 hf
        exact hk_53 Vlnd_53 hf _ _ hP hD hS _ (lv_sub hl [] rfl)
      · replace hf := im c55 hf
        refine lv_iload hx hb dX4_weigh_58 (lv_at hl 4 rfl) ?_
        refine lv_iload_n hx hb dX4_weigh_60 rfl (lv_at hl 2 rfl) ?_
        obtain ⟨j78, ej78, hf⟩ := nme hf
        have J78 : ∀ (t0_78 : Int32), j78 t0_78 = some out → ∀ (H : Heap) (locs : List Loc), va_P D vwCl (List.flatten [(w_Lnd cs o_lnd h_lnd I_lnd Vlnd_53), (w_Led cs o_g h_g I_g V_g)]) H → va_D A (List.flatten [(w_Lnd cs o_lnd h_lnd I_lnd Vlnd_53), (w_Led cs o_g h_g I_g V_g)]) → va_S A s.heap H locs → ∀ ls : Array Slot, lv_has ls 7 [(0, .ref o_lnd), (1, .ref o_g), (2, .int x2), (3, .int x3), (4, .int x4_53)] → W p l e rm_Lnd_weigh s m args below meth c H locs 0 0 Q (F0 m 78 ls [.int t0_78]) := by
          intro t0_78 hf H locs hP hD hS ls hl
          rw [ej78] at hf
          refine lv_istore (lv' := [(5, .int t0_78), (0, .ref o_lnd), (1, .ref o_g), (2, .int x2), (3, .int x3), (4, .int x4_53)]) hx hb dX4_weigh_78 hl (by decide) rfl (fun ls hl => ?_)
          refine lv_aload_n hx hb dX4_weigh_80 rfl (lv_at hl 1 rfl) ?_
          refine va_get (D := D) (ci := 4) (v := .ref (h_lnd 1)) (C := RX4) (T := TX4) (N := 2) hx hb hts in_X4 hown hK hP 0 rfl rfl 1 (by decide) g_16 (fun _ h9 => h9) rfl dX4_weigh_81 ?_
          refine lv_iload hx hb dX4_weigh_84 (lv_at hl 5 rfl) ?_
          refine lv_iload hx hb dX4_weigh_86 (lv_at hl 0 rfl) ?_
          obtain ⟨j102, ej102, hf⟩ := nme hf
          have J102 : ∀ (t2_102 : Int32), j102 t2_102 = some out → ∀ (H : Heap) (locs : List Loc), va_P D vwCl (List.flatten [(w_Lnd cs o_lnd h_lnd I_lnd Vlnd_53), (w_Led cs o_g h_g I_g V_g)]) H → va_D A (List.flatten [(w_Lnd cs o_lnd h_lnd I_lnd Vlnd_53), (w_Led cs o_g h_g I_g V_g)]) → va_S A s.heap H locs → ∀ ls : Array Slot, lv_has ls 7 [(0, .ref o_lnd), (1, .ref o_g), (2, .int x2), (3, .int x3), (4, .int x4_53)] → W p l e rm_Lnd_weigh s m args below meth c H locs 0 0 Q (F0 m 102 ls [.int t2_102, .int x4_53, .ref (h_lnd 1)]) := by
            intro t2_102 hf H locs hP hD hS ls hl
            rw [ej102] at hf
            obtain ⟨c102, hf⟩ := gd hf
            refine va_iast (f := (Vlnd_53 1)) hx hb hK hP hD hS 2 0 rfl rfl c102 dX4_weigh_102 (fun H locs hP hD hS => ?_)
            obtain ⟨V2, eV2, hf⟩ := nme hf
            have hP : va_P D vwCl (List.flatten [(w_Lnd cs o_lnd h_lnd I_lnd V2), (w_Led cs o_g h_g I_g V_g)]) H := by rw [eV2]; exact hP
            have hD : va_D A (List.flatten [(w_Lnd cs o_lnd h_lnd I_lnd V2), (w_Led cs o_g h_g I_g V_g)]) := by rw [eV2]; exact hD
            refine lv_iconst (v := 0) hx hb dX4_weigh_103 (by decide) ?_
            refine lv_istore (lv' := [(6, .int 0), (0, .ref o_lnd), (1, .ref o_g), (2, .int x2), (3, .int x3), (4, .int x4_53)]) hx hb dX4_weigh_104 hl (by decide) rfl (fun ls hl => ?_)
            have L106 : ∀ (k_106 : FV → Option (FV)) (hk_106 : ∀ (Vlnd_106 : FV), k_106 Vlnd_106 = some out → ∀ (H : Heap) (locs : List Loc), va_P D vwCl (List.flatten [(w_Lnd cs o_lnd h_lnd I_lnd Vlnd_106), (w_Led cs o_g h_g I_g V_g)]) H → va_D A (List.flatten [(w_Lnd cs o_lnd h_lnd I_lnd Vlnd_106), (w_Led cs o_g h_g I_g V_g)]) → va_S A s.heap H locs → ∀ ls : Array Slot, lv_has ls 7 [(0, .ref o_lnd), (1, .ref o_g), (2, .int x2), (3, .int x3), (4, .int x4_53)] → W p l e rm_Lnd_weigh s m args below meth c H locs 0 0 Q (F0 m 150 ls [])), ∀ (n_106 : Nat) (x6_106 : Int32) (Vlnd_106 : FV), Lnd_weigh_L106 f x3 x4_53 V_g I_lnd k_106 n_106 x6_106 Vlnd_106 = some out → ∀ (H : Heap) (locs : List Loc), va_P D vwCl (List.flatten [(w_Lnd cs o_lnd h_lnd I_lnd Vlnd_106), (w_Led cs o_g h_g I_g V_g)]) H → va_D A (List.flatten [(w_Lnd cs o_lnd h_lnd I_lnd Vlnd_106), (w_Led cs o_g h_g I_g V_g)]) → va_S A s.heap H locs → ∀ ls : Array Slot, lv_has ls 7 [(0, .ref o_lnd), (1, .ref o_g), (2, .int x2), (3, .int x3), (4, .int x4_53), (6, .int x6_106)] → W p l e rm_Lnd_weigh s m args below meth c H locs 0 0 Q (F0 m 106 ls []) := by
              intro k_106 hk_106 n_106
              induction n_106 with
              | zero => intro x6_106 Vlnd_106 hf; rw [Lnd_weigh_L106] at hf; cases hf
              | succ n_106 ih_106 =>
                intro x6_106 Vlnd_106 hf H locs hP hD hS ls hl
                rw [Lnd_weigh_L106] at hf
                refine lv_iload hx hb dX4_weigh_106 (lv_at hl 5 rfl) ?_
                refine lv_iload_n hx hb dX4_weigh_108 rfl (lv_at hl 3 rfl) ?_
                refine lv_icmp_gt (tgt := 150) hx hb dX4_weigh_109 (by decide) (fun c109 => ?_) (fun c109 => ?_)
                · replace hf := ip c109 hf
                  exact hk_106 Vlnd_106 hf _ _ hP hD hS _ (lv_sub hl [0, 1, 2, 3, 4] rfl)
                · replace hf := im c109 hf
                  refine lv_iload hx hb dX4_weigh_112 (lv_at hl 5 rfl) ?_
                  refine lv_bipush (v := 100) hx hb dX4_weigh_114 (by decide) ?_
                  refine lv_icmp_ge (tgt := 150) hx hb dX4_weigh_116 (by decide) (fun c116 => ?_) (fun c116 => ?_)
                  · replace hf := ip c116 hf
                    exact hk_106 Vlnd_106 hf _ _ hP hD hS _ (lv_sub hl [0, 1, 2, 3, 4] rfl)
                  · replace hf := im c116 hf
                    refine lv_aload_n hx hb dX4_weigh_119 rfl (lv_at hl 0 rfl) ?_
                    refine va_get (D := D) (ci := 4) (v := .ref (h_lnd 0)) (C := RX4) (T := TX4) (N := 2) hx hb hts in_X4 hown hK hP 0 rfl rfl 0 (by decide) g_13 (fun _ h9 => h9) rfl dX4_weigh_120 ?_
                    refine lv_iload hx hb dX4_weigh_123 (lv_at hl 4 rfl) ?_
                    obtain ⟨c125, hf⟩ := gd hf
                    refine xaldA (f := fun i => if i < 7 then some (h_lnd (10 + i)) else none) hx hb hK hP 1 4 rfl rfl c125 dX4_weigh_125 ?_
                    refine W.eq (g2 := F0 m 126 ls [.ref (h_lnd (10 + x4_53.toNatClampNeg))]) (by show F0 m _ ls (va_rf (if x4_53.toNatClampNeg < 7 then some (h_lnd (10 + x4_53.toNatClampNeg)) else none) :: _) = _; rw [if_pos (Nat.not_le.mp (fun q => c125 (Or.inr q)))]; rfl) ?_
                    refine lv_iload hx hb dX4_weigh_126 (lv_at hl 5 rfl) ?_
                    refine lv_aload_n hx hb dX4_weigh_128 rfl (lv_at hl 0 rfl) ?_
                    refine lv_iload hx hb dX4_weigh_129 (lv_at hl 4 rfl) ?_
                    refine lv_aload_n hx hb dX4_weigh_131 rfl (lv_at hl 1 rfl) ?_
                    refine va_get (D := D) (ci := 3) (v := .ref (h_g 6)) (C := RX3) (T := TX3) (N := 11) hx hb hts in_X3 hown hK hP 10 rfl rfl 6 (by decide) g_34 (fun _ h9 => h9) rfl dX4_weigh_132 ?_
                    refine lv_iload hx hb dX4_weigh_135 (lv_at hl 4 rfl) ?_
                    obtain ⟨c137, hf⟩ := gd hf
                    refine va_iald (f := (V_g 6)) hx hb hK hP 12 0 rfl rfl c137 dX4_weigh_137 ?_
                    refine lv_iload hx hb dX4_weigh_138 (lv_at hl 5 rfl) ?_
                    have hPc := subB (bs := [(w_Lnd cs o_lnd h_lnd I_lnd Vlnd_106), (w_Led cs o_g h_g I_g V_g)]) (ca := [(w_Lnd cs o_lnd h_lnd I_lnd Vlnd_106)]) (ra := [(w_Led cs o_g h_g I_g V_g)]) [0, 1] (by decide) rfl rfl hP
                    obtain ⟨zr3, qr3, hf⟩ := bd1 hf
                    refine vp_callSi (va_Run.run (va_runV (As := [.int x4_53, .int ((V_g 6) x4_53.toNatClampNeg), .int x6_106]) (rest := [.int x6_106, .ref (h_lnd (10 + x4_53.toNatClampNeg))]) ⟨hx, hb, hml, hown, hts⟩ (c_Lnd_leastWith l D cs o_lnd h_lnd I_lnd Vlnd_106 x4_53 ((V_g 6) x4_53.toNatClampNeg) x6_106 f zr3 qr3) w_leastWith_37 ⟨yR_moved, va_recv hK hPc (ci := 4) (q0 := 0) rfl rfl, fun U hU hW => ⟨rfl, by rw [hU]; exact hPc, va_K.moved hW.alike hK, yN_warm hW hN⟩⟩ rfl rfl hl.1 rfl (lv_room (Nat.le_of_ble_eq_true rfl)) dX4_weigh_140 ⟨Nat.zero_le _, Nat.zero_le _⟩)) (fun r3 er3 => ?_)
                    rw [er3]
                    obtain ⟨c143, hf⟩ := gd hf
                    have hrow : ∀ i, i < 7 → ((List.flatten [(w_Lnd cs o_lnd h_lnd I_lnd Vlnd_106), (w_Led cs o_g h_g I_g V_g)]))[3 + i]? = some (h_lnd (10 + i), .inl (cs 0, 100, .inl (Vlnd_106 (10 + i)))) := fun i hi => by match i, hi with | 0, _ => rfl | 1, _ => rfl | 2, _ => rfl | 3, _ => rfl | 4, _ => rfl | 5, _ => rfl | 6, _ => rfl
                    have hput : ∀ (X : Nat → Int32) i, i < 7 → ((List.flatten [(w_Lnd cs o_lnd h_lnd I_lnd Vlnd_106), (w_Led cs o_g h_g I_g V_g)])).set (3 + i) (h_lnd (10 + i), .inl (cs 0, 100, .inl X)) = (List.flatten [(w_Lnd cs o_lnd h_lnd I_lnd (va_up Vlnd_106 (10 + i) X)), (w_Led cs o_g h_g I_g V_g)]) := fun X i hi => by match i, hi with | 0, _ => rfl | 1, _ => rfl | 2, _ => rfl | 3, _ => rfl | 4, _ => rfl | 5, _ => rfl | 6, _ => rfl
                    refine va_iast (f := (Vlnd_106 (10 + x4_53.toNatClampNeg))) hx hb hK hP hD hS (3 + x4_53.toNatClampNeg) 0 (hrow _ (Nat.not_le.mp (fun q => c125 (Or.inr q)))) rfl c143 dX4_weigh_143 (fun H locs hP hD hS => ?_)
                    rw [hput _ _ (Nat.not_le.mp (fun q => c125 (Or.inr q)))] at hP hD
                    obtain ⟨V4, eV4, hf⟩ := nme hf
                    have hP : va_P D vwCl (List.flatten [(w_Lnd cs o_lnd h_lnd I_lnd V4), (w_Led cs o_g h_g I_g V_g)]) H := by rw [eV4]; exact hP
                    have hD : va_D A (List.flatten [(w_Lnd cs o_lnd h_lnd I_lnd V4), (w_Led cs o_g h_g I_g V_g)]) := by rw [eV4]; exact hD
                    refine lv_iinc (v := (x6_106 + 1)) (lv' := [(6, .int (x6_106 + 1)), (0, .ref o_lnd), (1, .ref o_g), (2, .int x2), (3, .int x3), (4, .int x4_53)]) hx hb dX4_weigh_144 hl (k := 5) rfl (by rfl) (by decide) rfl (fun ls hl => ?_)
                    refine lv_goto (tgt := 106) hx hb dX4_weigh_147 (by decide) ?_
                    exact ih_106 (x6_106 + 1) V4 hf _ _ hP hD hS _ (lv_sub hl [1, 2, 3, 4, 5, 0] rfl)
            refine L106 _ (fun Vlnd_106 hf H locs hP hD hS ls hl => ?_) f 0 V2 hf _ _ hP hD hS _ (lv_sub hl [1, 2, 3, 4, 5, 0] rfl)
            refine lv_iinc (v := (x4_53 + (-1))) (lv' := [(4, .int (x4_53 + (-1))), (0, .ref o_lnd), (1, .ref o_g), (2, .int x2), (3, .int x3)]) hx hb dX4_weigh_150 hl (k := 4) rfl (by rfl) (by decide) rfl (fun ls hl => ?_)
            refine lv_goto (tgt := 53) hx hb dX4_weigh_153 (by decide) ?_
            exact ih_53 (x4_53 + (-1)) Vlnd_106 hf _ _ hP hD hS _ (lv_sub hl [1, 2, 3, 4, 0] rfl)
          refine lv_if_eq (tgt := 101) hx hb dX4_weigh_88 (by decide) (fun c88 => ?_) (fun c88 => ?_)
          · replace hf := ip c88 hf
            refine lv_iconst (v := 0) hx hb dX4_weigh_101 (by decide) ?_
            exact J102 0 hf _ _ hP hD hS _ (lv_sub hl [1, 2, 3, 4, 5] rfl)
          · replace hf := im c88 hf
            refine lv_aload_n hx hb dX4_weigh_91 rfl (lv_at hl 2 rfl) ?_
            refine va_get (D := D) (ci := 3) (v := .ref (h_g 5)) (C := RX3) (T := TX3) (N := 11) hx hb hts in_X3 hown hK hP 10 rfl rfl 5 (by decide) g_31 (fun _ h9 => h9) rfl dX4_weigh_92 ?_
            refine lv_iload hx hb dX4_weigh_95 (lv_at hl 5 rfl) ?_
            obtain ⟨c97, hf⟩ := gd hf
            refine va_iald (f := (V_g 5)) hx hb hK hP 11 0 rfl rfl c97 dX4_weigh_97 ?_
            refine lv_goto (tgt := 102) hx hb dX4_weigh_98 (by decide) ?_
            exact J102 ((V_g 5) x4_53.toNatClampNeg) hf _ _ hP hD hS _ (lv_sub hl [1, 2, 3, 4, 5] rfl)
        obtain ⟨j77, ej77, hf⟩ := nme hf
        have J77 : ∀ (u_77 : Unit), j77 u_77 = some out → ∀ (H : Heap) (locs : List Loc), va_P D vwCl (List.flatten [(w_Lnd cs o_lnd h_lnd I_lnd Vlnd_53), (w_Led cs o_g h_g I_g V_g)]) H → va_D A (List.flatten [(w_Lnd cs o_lnd h_lnd I_lnd Vlnd_53), (w_Led cs o_g h_g I_g V_g)]) → va_S A s.heap H locs → ∀ ls : Array Slot, lv_has ls 7 [(0, .ref o_lnd), (1, .ref o_g), (2, .int x2), (3, .int x3), (4, .int x4_53)] → W p l e rm_Lnd_weigh s m args below meth c H locs 0 0 Q (F0 m 77 ls []) := by
          intro u_77 hf H locs hP hD hS ls hl
          rw [ej77] at hf
          refine lv_iconst (v := 0) hx hb dX4_weigh_77 (by decide) ?_
          exact J78 0 hf _ _ hP hD hS _ (lv_sub hl [0, 1, 2, 3, 4] rfl)
        refine lv_icmp_eq (tgt := 77) hx hb dX4_weigh_61 (by decide) (fun c61 => ?_) (fun c61 => ?_)
        · replace hf := ip c61 hf
          exact J77 () hf _ _ hP hD hS _ (lv_sub hl [0, 1, 2, 3, 4] rfl)
        · replace hf := im c61 hf
          refine lv_aload_n hx hb dX4_weigh_64 rfl (lv_at hl 1 rfl) ?_
          refine lv_iload hx hb dX4_weigh_65 (lv_at hl 4 rfl) ?_
          have hPc := subB (bs := [(w_Lnd cs o_lnd h_lnd I_lnd Vlnd_53), (w_Led cs o_g h_g I_g V_g)]) (ca := [(w_Led cs o_g h_g I_g V_g)]) (ra := [(w_Lnd cs o_lnd h_lnd I_lnd Vlnd_53)]) [1, 0] (by decide) rfl rfl hP
          obtain ⟨zr5, qr5, hf⟩ := bd1 hf
          refine vp_callSi (va_Run.run (va_runV (As := [.int x4_53]) (rest := []) ⟨hx, hb, hml, hown, hts⟩ (c_Led_isAlive l D cs o_g h_g I_g V_g x4_53 f zr5 qr5) w_isAlive_27 ⟨yR_moved, va_recv hK hPc (ci := 3) (q0 := 0) rfl rfl, fun U hU hW => ⟨rfl, by rw [hU]; exact hPc, va_K.moved hW.alike hK, yN_warm hW hN⟩⟩ rfl rfl hl.1 rfl (lv_room (Nat.le_of_ble_eq_true rfl)) dX4_weigh_67 ⟨Nat.zero_le _, Nat.zero_le _⟩)) (fun r5 er5 => ?_)
          rw [er5]
          refine lv_if_eq (tgt := 77) hx hb dX4_weigh_70 (by decide) (fun c70 => ?_) (fun c70 => ?_)
          · replace hf := ip c70 hf
            exact J77 () hf _ _ hP hD hS _ (lv_sub hl [0, 1, 2, 3, 4] rfl)
          · replace hf := im c70 hf
            refine lv_iconst (v := 1) hx hb dX4_weigh_73 (by decide) ?_
            refine lv_goto (tgt := 78) hx hb dX4_weigh_74 (by decide) ?_
            exact J78 1 hf _ _ hP hD hS _ (lv_sub hl [0, 1, 2, 3, 4] rfl)
  refine L53 _ (fun Vlnd_53 hf H locs hP hD hS ls hl => ?_) f ((I_g 0) - 1) Vlnd_3 hf _ _ hP hD hS _ (lv_sub hl [1, 2, 3, 4, 0] rfl)
  exact hret Vlnd_53 _ _ 156 _ hf hP hD hS dX4_weigh_156
set_option maxHeartbeats 4000000 in
set_option maxRecDepth 100000 in
theorem c_Lnd_weigh (l : Launch) (D : va_G) (cs : Nat → ClassId) (o_lnd : Nat) (h_lnd : Nat → Nat) (o_g : Nat) (h_g : Nat → Nat) (sz : Nat) (I_lnd : FI) (V_lnd : FV) (I_g : FI) (V_g : FV) (x2 : Int32) (x3 : Int32) (f : Nat) (out : FV) (hf : Lnd_weigh f x2 x3 I_lnd V_lnd I_g V_g = some out) : Met l yX4_weigh wsX4_weigh rm_Lnd_weigh (va_Pc [.ref o_lnd, .ref o_g, .int x2, .int x3] (yP D cs (List.flatten [(w_Lnd cs o_lnd h_lnd I_lnd V_lnd), (w_Led cs o_g h_g I_g V_g)]) sz)) (va_Qv (fun u => u = out) (fun (u : FV) t => xA D cs (va_A (List.flatten [(w_Lnd cs o_lnd h_lnd I_lnd V_lnd), (w_Led cs o_g h_g I_g V_g)]) sz) (List.flatten [(w_Lnd cs o_lnd h_lnd I_lnd u), (w_Led cs o_g h_g I_g V_g)]) t) (va_A (List.flatten [(w_Lnd cs o_lnd h_lnd I_lnd V_lnd), (w_Led cs o_g h_g I_g V_g)]) sz)) 0 0 (va_A (List.flatten [(w_Lnd cs o_lnd h_lnd I_lnd V_lnd), (w_Led cs o_g h_g I_g V_g)]) sz) := by
  refine Met.ofW (cc := cX4_weigh) (maxL := 7) (ret := none) (by decide) rfl ?_
  intro p e s m args below meth c s₁ B hml hv
  obtain ⟨ha, hsz, hP, hK, hN, hD0⟩ := hv
  have hx := B.exec
  have hb := B.bytes
  have hr := B.returns
  have hts := atoms_spec (ws := wsX4_weigh) B.pre
  have hown : s.vm.findClass RX4 = some m.cls := findClass_of_methodNamed B.named
  have hlocks := B.notSynchronized
  have in_X4 : ∀ w ∈ u_ws RX4 TX4 2, w ∈ wsX4_weigh := fun w h => List.mem_cons_of_mem _ (List.mem_append_left _ (List.mem_append_right _ h))
  have in_X3 : ∀ w ∈ u_ws RX3 TX3 11, w ∈ wsX4_weigh := fun w h => List.mem_cons_of_mem _ (List.mem_append_right _ h)
  have g_13 := hts (Cond.fieldLink RX4 13 "DaysLent$Lenders" "least" "[[I") (by decide +kernel)
  have g_20 := hts (Cond.fieldLink RX4 20 "DaysLent$Ledger" "people" "I") (by decide +kernel)
  have k_26 := hts (Cond.constant RX4 26 (1000000)) (by decide +kernel)
  have w_isAlive_27 := cwV (R := rm_Lnd_weigh) (s := s) (args := args) (rm := rm_Led_isAlive) (mc := 0) (ms := 0) 1 hts gX4_weigh_X3_isAlive rfl rfl rfl (by decide +kernel) ⟨Nat.le_of_ble_eq_true rfl, Nat.le_of_ble_eq_true rfl⟩
  have g_16 := hts (Cond.fieldLink RX4 16 "DaysLent$Lenders" "limit" "[I") (by decide +kernel)
  have g_31 := hts (Cond.fieldLink RX4 31 "DaysLent$Ledger" "mornings" "[I") (by decide +kernel)
  have g_34 := hts (Cond.fieldLink RX4 34 "DaysLent$Ledger" "asks" "[I") (by decide +kernel)
  have w_leastWith_37 := cwV (R := rm_Lnd_weigh) (s := s) (args := args) (rm := rm_Lnd_leastWith) (mc := 0) (ms := 0) 3 hts gX4_weigh_X4_leastWith rfl rfl rfl (by decide +kernel) ⟨Nat.le_of_ble_eq_true rfl, Nat.le_of_ble_eq_true rfl⟩
  subst hsz
  have hD := hD0.self (sz := s.heap.size)
  generalize hAe : va_A (List.flatten [(w_Lnd cs o_lnd h_lnd I_lnd V_lnd), (w_Led cs o_g h_g I_g V_g)]) s.heap.size = A at hD ⊢
  have hA : ∀ q : Nat, s.heap.size ≤ q → A q := fun q h => by rw [← hAe]; exact Or.inr h
  have hl := lv_entry ([.ref o_lnd, .ref o_g, .int x2, .int x3]) (n := 7) (Nat.le_of_ble_eq_true rfl)
  rw [show entryFrame m args 7 = entryFrame m ([.ref o_lnd, .ref o_g, .int x2, .int x3] : List Value).toArray 7 from by rw [ha], lg_entry_eq]
  generalize (lg_sl ([.ref o_lnd, .ref o_g, .int x2, .int x3]) ++ List.replicate (7 - (lg_sl ([.ref o_lnd, .ref o_g, .int x2, .int x3])).length) Slot.unset).toArray = ls at hl ⊢
  generalize hQ : MQ below (va_Qv (fun u => u = out) (fun (u : FV) t => xA D cs A (List.flatten [(w_Lnd cs o_lnd h_lnd I_lnd u), (w_Led cs o_g h_g I_g V_g)]) t) A) args s 0 0 A = Q
  have hret : ∀ (Vlnd9 : FV) (H : Heap) (locs : List Loc) (pc : Nat) (ls : Array Slot), some Vlnd9 = some out → va_P D vwCl (List.flatten [(w_Lnd cs o_lnd h_lnd I_lnd Vlnd9), (w_Led cs o_g h_g I_g V_g)]) H → va_D A (List.flatten [(w_Lnd cs o_lnd h_lnd I_lnd Vlnd9), (w_Led cs o_g h_g I_g V_g)]) → va_S A s.heap H locs → decode cX4_weigh pc = .ok (.return_, 1) → W p l e rm_Lnd_weigh s m args below meth c H locs 0 0 Q (F0 m pc ls []) := by
    intro Vlnd9 H locs pc ls hf hP hD hS hd
    rw [← hQ]
    exact W.vret hx hb hr (fun t ht hW => ⟨⟨Vlnd9, rfl, Option.some.inj hf, by show va_P D vwCl (List.flatten [(w_Lnd cs o_lnd h_lnd I_lnd Vlnd9), (w_Led cs o_g h_g I_g V_g)]) t.heap; rw [ht]; exact hP, va_K.moved hW.alike hK, hD⟩, hS.F ht⟩) hS.2.2 hd
  exact v_Lnd_weigh hf hx hb hml hown hts in_X4 in_X3 g_13 g_20 k_26 w_isAlive_27 g_16 g_31 g_34 w_leastWith_37 hA hP hD hK hN hret ls hl
def Lnd_lentBy_L22 {ρ : Type} (f : Nat) (x2 : Int32) (I_g : FI) (V_g : FV) (I_lnd : FI) (V_lnd : FV) (k_22 : Int32 → Option ρ) : Nat → Int32 → Int32 → Int32 → Option ρ
  | 0, _, _, _ => none
  | n_22 + 1, x4_22, x5_22, x6_22 => (if x2 < x6_22 then (k_22 x5_22) else (if (I_g 0) ≤ x6_22 then (k_22 x5_22) else if x6_22 < 0 ∨ 6 ≤ x6_22.toNatClampNeg then none else (ob1 (Lnd_fewestOf f x6_22 ((V_g 6) x6_22.toNatClampNeg) x4_22 I_lnd V_lnd) (fun zr2 => (Lnd_lentBy_L22 f x2 I_g V_g I_lnd V_lnd k_22 n_22 (x4_22 - zr2) zr2 (x6_22 + 1))))))
def Lnd_lentBy (f : Nat) (x2 : Int32) (x3 : Int32) (I_lnd : FI) (V_lnd : FV) (I_g : FI) (V_g : FV) : Option (Int32) := ob1 (Lnd_cheapest f x3 I_lnd V_lnd) (fun zr1 => (if zr1 = (-9) then some (-9) else (Lnd_lentBy_L22 f x2 I_g V_g I_lnd V_lnd (fun (x5_22 : Int32) => some x5_22) f x3 0 0)))
abbrev rm_Lnd_lentBy : Room := { frames := 2, cells := 0, slots := 0, locals := 45 }
set_option maxHeartbeats 4000000 in
set_option maxRecDepth 100000 in
theorem v_Lnd_lentBy {l : Launch} {p : Program} {e : Env} {s : State} {m : MethodId} {args : Array Value} {below : List Frame} {meth : Method} {c : Code} {Q : State → Prop} {D : va_G} {cs : Nat → ClassId} {o_lnd : Nat} {h_lnd : Nat → Nat} {o_g : Nat} {h_g : Nat → Nat} {I_lnd : FI} {V_lnd : FV} {I_g : FI} {V_g : FV} {x2 : Int32} {x3 : Int32} {f : Nat} {out : Int32} (hf : Lnd_lentBy f x2 x3 I_lnd V_lnd I_g V_g = some out) (hx : p.tables.exec = Jvm.exec) (hb : c.code = cX4_lentBy) (hml : c.maxLocals = 7) (hown : s.vm.findClass RX4 = some m.cls) (hts : ∀ w ∈ wsX4_lentBy, w.before args s = true) (in_X4 : ∀ w ∈ u_ws RX4 TX4 2, w ∈ wsX4_lentBy) (in_X3 : ∀ w ∈ u_ws RX3 TX3 11, w ∈ wsX4_lentBy) (w_cheapest_50 : CallW rm_Lnd_lentBy s args RX4 RX4 50 yX4_cheapest cX4_cheapest 2 (some .int) wsX4_cheapest rm_Lnd_cheapest 0 0 1) (g_20 : (Cond.fieldLink RX4 20 "DaysLent$Ledger" "people" "I").before args s = true) (g_34 : (Cond.fieldLink RX4 34 "DaysLent$Ledger" "asks" "[I").before args s = true) (w_fewestOf_54 : CallW rm_Lnd_lentBy s args RX4 RX4 54 yX4_fewestOf cX4_fewestOf 5 (some .int) wsX4_fewestOf rm_Lnd_fewestOf 0 0 3) (hP : va_P D vwCl (List.flatten [(w_Lnd cs o_lnd h_lnd I_lnd V_lnd), (w_Led cs o_g h_g I_g V_g)]) s.heap) (hK : va_K D vwCl (tyA cs) s) (hN : yN s) (hret : ∀ (v : Int32) (pc : Nat) (ls : Array Slot), some v = some out → decode cX4_lentBy pc = .ok (.ireturn, 1) → W p l e rm_Lnd_lentBy s m args below meth c s.heap [] 0 0 Q (F0 m pc ls [.int v])) : ∀ ls : Array Slot, lv_has ls 7 [(0, .ref o_lnd), (1, .ref o_g), (2, .int x2), (3, .int x3)] → W p l e rm_Lnd_lentBy s m args below meth c s.heap [] 0 0 Q (F0 m 0 ls []) := by
  intro ls hl
  unfold Lnd_lentBy at hf
  refine lv_aload_n hx hb dX4_lentBy_0 rfl (lv_at hl 0 rfl) ?_
  refine lv_iload_n hx hb dX4_lentBy_1 rfl (lv_at hl 3 rfl) ?_
  have hPc := subB (bs := [(w_Lnd cs o_lnd h_lnd I_lnd V_lnd), (w_Led cs o_g h_g I_g V_g)]) (ca := [(w_Lnd cs o_lnd h_lnd I_lnd V_lnd)]) (ra := [(w_Led cs o_g h_g I_g V_g)]) [0, 1] (by decide) rfl rfl hP
  obtain ⟨zr1, qr1, hf⟩ := bd1 hf
  refine vp_callSi (va_Run.run (va_runV (As := [.int x3]) (rest := []) ⟨hx, hb, hml, hown, hts⟩ (c_Lnd_cheapest l D cs o_lnd h_lnd I_lnd V_lnd x3 f zr1 qr1) w_cheapest_50 ⟨yR_moved, va_recv hK hPc (ci := 4) (q0 := 0) rfl rfl, fun U hU hW => ⟨rfl, by rw [hU]; exact hPc, va_K.moved hW.alike hK, yN_warm hW hN⟩⟩ rfl rfl hl.1 rfl (lv_room (Nat.le_of_ble_eq_true rfl)) dX4_lentBy_2 ⟨Nat.zero_le _, Nat.zero_le _⟩)) (fun r1 er1 => ?_)
  rw [er1]
  refine lv_bipush (v := (-9)) hx hb dX4_lentBy_5 (by decide) ?_
  refine lv_icmp_ne (tgt := 13) hx hb dX4_lentBy_7 (by decide) (fun c7 => ?_) (fun c7 => ?_)
  · replace hf := im c7 hf
    refine lv_iload_n hx hb dX4_lentBy_13 rfl (lv_at hl 3 rfl) ?_
    refine lv_istore (lv' := [(4, .int x3), (0, .ref o_lnd), (1, .ref o_g), (2, .int x2), (3, .int x3)]) hx hb dX4_lentBy_14 hl (by decide) rfl (fun ls hl => ?_)
    refine lv_iconst (v := 0) hx hb dX4_lentBy_16 (by decide) ?_
    refine lv_istore (lv' := [(5, .int 0), (4, .int x3), (0, .ref o_lnd), (1, .ref o_g), (2, .int x2), (3, .int x3)]) hx hb dX4_lentBy_17 hl (by decide) rfl (fun ls hl => ?_)
    refine lv_iconst (v := 0) hx hb dX4_lentBy_19 (by decide) ?_
    refine lv_istore (lv' := [(6, .int 0), (5, .int 0), (4, .int x3), (0, .ref o_lnd), (1, .ref o_g), (2, .int x2), (3, .int x3)]) hx hb dX4_lentBy_20 hl (by decide) rfl (fun ls hl => ?_)
    have L22 : ∀ (k_22 : Int32 → Option (Int32)) (hk_22 : ∀ (x5_22 : Int32), k_22 x5_22 = some out → ∀ ls : Array Slot, lv_has ls 7 [(5, .int x5_22)] → W p l e rm_Lnd_lentBy s m args below meth c s.heap [] 0 0 Q (F0 m 67 ls [])), ∀ (n_22 : Nat) (x4_22 : Int32) (x5_22 : Int32) (x6_22 : Int32), Lnd_lentBy_L22 f x2 I_g V_g I_lnd V_lnd k_22 n_22 x4_22 x5_22 x6_22 = some out → ∀ ls : Array Slot, lv_has ls 7 [(0, .ref o_lnd), (1, .ref o_g), (2, .int x2), (4, .int x4_22), (5, .int x5_22), (6, .int x6_22)] → W p l e rm_Lnd_lentBy s m args below meth c s.heap [] 0 0 Q (F0 m 22 ls []) := by
      intro k_22 hk_22 n_22
      induction n_22 with
      | zero => intro x4_22 x5_22 x6_22 hf; rw [Lnd_lentBy_L22] at hf; cases hf
      | succ n_22 ih_22 =>
        intro x4_22 x5_22 x6_22 hf ls hl
        rw [Lnd_lentBy_L22] at hf
        refine lv_iload hx hb dX4_lentBy_22 (lv_at hl 5 rfl) ?_
        refine lv_iload_n hx hb dX4_lentBy_24 rfl (lv_at hl 2 rfl) ?_
        refine lv_icmp_gt (tgt := 67) hx hb dX4_lentBy_25 (by decide) (fun c25 => ?_) (fun c25 => ?_)
        · replace hf := ip c25 hf
          exact hk_22 x5_22 hf _ (lv_sub hl [4] rfl)
        · replace hf := im c25 hf
          refine lv_iload hx hb dX4_lentBy_28 (lv_at hl 5 rfl) ?_
          refine lv_aload_n hx hb dX4_lentBy_30 rfl (lv_at hl 1 rfl) ?_
          refine va_get (D := D) (ci := 3) (v := .int (I_g 0)) (C := RX3) (T := TX3) (N := 11) hx hb hts in_X3 hown hK hP 10 rfl rfl 0 (by decide) g_20 (fun _ h9 => h9) rfl dX4_lentBy_31 ?_
          refine lv_icmp_ge (tgt := 67) hx hb dX4_lentBy_34 (by decide) (fun c34 => ?_) (fun c34 => ?_)
          · replace hf := ip c34 hf
            exact hk_22 x5_22 hf _ (lv_sub hl [4] rfl)
          · replace hf := im c34 hf
            refine lv_aload_n hx hb dX4_lentBy_37 rfl (lv_at hl 0 rfl) ?_
            refine lv_iload hx hb dX4_lentBy_38 (lv_at hl 5 rfl) ?_
            refine lv_aload_n hx hb dX4_lentBy_40 rfl (lv_at hl 1 rfl) ?_
            refine va_get (D := D) (ci := 3) (v := .ref (h_g 6)) (C := RX3) (T := TX3) (N := 11) hx hb hts in_X3 hown hK hP 10 rfl rfl 6 (by decide) g_34 (fun _ h9 => h9) rfl dX4_lentBy_41 ?_
            refine lv_iload hx hb dX4_lentBy_44 (lv_at hl 5 rfl) ?_
            obtain ⟨c46, hf⟩ := gd hf
            refine va_iald (f := (V_g 6)) hx hb hK hP 12 0 rfl rfl c46 dX4_lentBy_46 ?_
            refine lv_iload hx hb dX4_lentBy_47 (lv_at hl 3 rfl) ?_
            have hPc := subB (bs := [(w_Lnd cs o_lnd h_lnd I_lnd V_lnd), (w_Led cs o_g h_g I_g V_g)]) (ca := [(w_Lnd cs o_lnd h_lnd I_lnd V_lnd)]) (ra := [(w_Led cs o_g h_g I_g V_g)]) [0, 1] (by decide) rfl rfl hP
            obtain ⟨zr2, qr2, hf⟩ := bd1 hf
            refine vp_callSi (va_Run.run (va_runV (As := [.int x6_22, .int ((V_g 6) x6_22.toNatClampNeg), .int x4_22]) (rest := []) ⟨hx, hb, hml, hown, hts⟩ (c_Lnd_fewestOf l D cs o_lnd h_lnd I_lnd V_lnd x6_22 ((V_g 6) x6_22.toNatClampNeg) x4_22 f zr2 qr2) w_fewestOf_54 ⟨yR_moved, va_recv hK hPc (ci := 4) (q0 := 0) rfl rfl, fun U hU hW => ⟨rfl, by rw [hU]; exact hPc, va_K.moved hW.alike hK, yN_warm hW hN⟩⟩ rfl rfl hl.1 rfl (lv_room (Nat.le_of_ble_eq_true rfl)) dX4_lentBy_49 ⟨Nat.zero_le _, Nat.zero_le _⟩)) (fun r2 er2 => ?_)
            rw [er2]
            refine lv_istore (lv' := [(5, .int zr2), (0, .ref o_lnd), (1, .ref o_g), (2, .int x2), (4, .int x4_22), (6, .int x6_22)]) hx hb dX4_lentBy_52 hl (by decide) rfl (fun ls hl => ?_)
            refine lv_iload hx hb dX4_lentBy_54 (lv_at hl 4 rfl) ?_
            refine lv_iload hx hb dX4_lentBy_56 (lv_at hl 0 rfl) ?_
            refine lv_isub hx hb dX4_lentBy_58 ?_
            refine lv_istore (lv' := [(4, .int (x4_22 - zr2)), (5, .int zr2), (0, .ref o_lnd), (1, .ref o_g), (2, .int x2), (6, .int x6_22)]) hx hb dX4_lentBy_59 hl (by decide) rfl (fun ls hl => ?_)
            refine lv_iinc (v := (x6_22 + 1)) (lv' := [(6, .int (x6_22 + 1)), (4, .int (x4_22 - zr2)), (5, .int zr2), (0, .ref o_lnd), (1, .ref o_g), (2, .int x2)]) hx hb dX4_lentBy_61 hl (k := 5) rfl (by rfl) (by decide) rfl (fun ls hl => ?_)
            refine lv_goto (tgt := 22) hx hb dX4_lentBy_64 (by decide) ?_
            exact ih_22 (x4_22 - zr2) zr2 (x6_22 + 1) hf _ (lv_sub hl [3, 4, 5, 1, 2, 0] rfl)
    refine L22 _ (fun x5_22 hf ls hl => ?_) f x3 0 0 hf _ (lv_sub hl [3, 4, 5, 2, 1, 0] rfl)
    refine lv_iload hx hb dX4_lentBy_67 (lv_at hl 0 rfl) ?_
    exact hret x5_22 69 _ hf dX4_lentBy_69
  · replace hf := ip c7 hf
    refine lv_bipush (v := (-9)) hx hb dX4_lentBy_10 (by decide) ?_
    exact hret (-9) 12 _ hf dX4_lentBy_12
set_option maxHeartbeats 4000000 in
set_option maxRecDepth 100000 in
theorem c_Lnd_lentBy (l : Launch) (D : va_G) (cs : Nat → ClassId) (o_lnd : Nat) (h_lnd : Nat → Nat) (o_g : Nat) (h_g : Nat → Nat) (I_lnd : FI) (V_lnd : FV) (I_g : FI) (V_g : FV) (x2 : Int32) (x3 : Int32) (f : Nat) (out : Int32) (hf : Lnd_lentBy f x2 x3 I_lnd V_lnd I_g V_g = some out) : Met l yX4_lentBy wsX4_lentBy rm_Lnd_lentBy (va_Pc [.ref o_lnd, .ref o_g, .int x2, .int x3] (yR D cs (List.flatten [(w_Lnd cs o_lnd h_lnd I_lnd V_lnd), (w_Led cs o_g h_g I_g V_g)]))) (vp_Si (fun r => r = out)) 0 0 (fun _ => False) := by
  refine Met.ofW (cc := cX4_lentBy) (maxL := 7) (ret := (some .int)) (by decide) rfl ?_
  intro p e s m args below meth c s₁ B hml hv
  obtain ⟨ha, hP, hK, hN⟩ := hv
  have hx := B.exec
  have hb := B.bytes
  have hr := B.returns
  have hts := atoms_spec (ws := wsX4_lentBy) B.pre
  have hown : s.vm.findClass RX4 = some m.cls := findClass_of_methodNamed B.named
  have hlocks := B.notSynchronized
  have in_X4 : ∀ w ∈ u_ws RX4 TX4 2, w ∈ wsX4_lentBy := fun w h => List.mem_cons_of_mem _ (List.mem_append_right _ h)
  have in_X3 : ∀ w ∈ u_ws RX3 TX3 11, w ∈ wsX4_lentBy := fun w h => List.mem_cons_of_mem _ (List.mem_append_left _ (List.mem_append_right _ h))
  have w_cheapest_50 := cwV (R := rm_Lnd_lentBy) (s := s) (args := args) (rm := rm_Lnd_cheapest) (mc := 0) (ms := 0) 1 hts gX4_lentBy_X4_cheapest rfl rfl rfl (by decide +kernel) ⟨Nat.le_of_ble_eq_true rfl, Nat.le_of_ble_eq_true rfl⟩
  have g_20 := hts (Cond.fieldLink RX4 20 "DaysLent$Ledger" "people" "I") (by decide +kernel)
  have g_34 := hts (Cond.fieldLink RX4 34 "DaysLent$Ledger" "asks" "[I") (by decide +kernel)
  have w_fewestOf_54 := cwV (R := rm_Lnd_lentBy) (s := s) (args := args) (rm := rm_Lnd_fewestOf) (mc := 0) (ms := 0) 3 hts gX4_lentBy_X4_fewestOf rfl rfl rfl (by decide +kernel) ⟨Nat.le_of_ble_eq_true rfl, Nat.le_of_ble_eq_true rfl⟩
  have hl := lv_entry ([.ref o_lnd, .ref o_g, .int x2, .int x3]) (n := 7) (Nat.le_of_ble_eq_true rfl)
  rw [show entryFrame m args 7 = entryFrame m ([.ref o_lnd, .ref o_g, .int x2, .int x3] : List Value).toArray 7 from by rw [ha], lg_entry_eq]
  generalize (lg_sl ([.ref o_lnd, .ref o_g, .int x2, .int x3]) ++ List.replicate (7 - (lg_sl ([.ref o_lnd, .ref o_g, .int x2, .int x3])).length) Slot.unset).toArray = ls at hl ⊢
  generalize hQ : MQ below (vp_Si (fun r => r = out)) args s 0 0 (fun _ => False) = Q
  have hret : ∀ (v : Int32) (pc : Nat) (ls : Array Slot), some v = some out → decode cX4_lentBy pc = .ok (.ireturn, 1) → W p l e rm_Lnd_lentBy s m args below meth c s.heap [] 0 0 Q (F0 m pc ls [.int v]) := by
    intro v pc ls hf hd
    rw [← hQ]
    exact W.iret (v := v) hx hb hr (fun t ht hW => ⟨v, rfl, Option.some.inj hf, ht⟩) (fun q h => by cases h) hd
  exact v_Lnd_lentBy hf hx hb hml hown hts in_X4 in_X3 w_cheapest_50 g_20 g_34 w_fewestOf_54 hP hK hN hret ls hl
