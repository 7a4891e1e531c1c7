def M_layPage_book_L2 {ρ : Type} (f : Nat) (x2 : Int32) (k_2 : FV → Option ρ) : Nat → Int32 → FV → Option ρ
  | 0, _, _ => none
  | n_2 + 1, x3_2, Vm_2 => (if 6 ≤ x3_2 then (k_2 Vm_2) else if x3_2 < 0 ∨ 6 ≤ x3_2.toNatClampNeg then none else (if (x2 + x3_2) < 0 ∨ 740 ≤ (x2 + x3_2).toNatClampNeg then none else (nm (va_up Vm_2 23 (upd (Vm_2 23) (x2 + x3_2).toNatClampNeg ((Vm_2 5) x3_2.toNatClampNeg))) (fun V1 => if x3_2 < 0 ∨ 6 ≤ x3_2.toNatClampNeg then none else (if ((x2 + 6) + x3_2) < 0 ∨ 740 ≤ ((x2 + 6) + x3_2).toNatClampNeg then none else (nm (va_up V1 23 (upd (V1 23) ((x2 + 6) + x3_2).toNatClampNeg ((V1 6) x3_2.toNatClampNeg))) (fun V2 => if x3_2 < 0 ∨ 6 ≤ x3_2.toNatClampNeg then none else ((nm (fun (t2_54 : Int32) => if x3_2 < 0 ∨ 6 ≤ x3_2.toNatClampNeg then none else ((nm (fun (t3_68 : Int32) => if ((x2 + 12) + x3_2) < 0 ∨ 740 ≤ ((x2 + 12) + x3_2).toNatClampNeg then none else (nm (va_up V2 23 (upd (V2 23) ((x2 + 12) + x3_2).toNatClampNeg (t2_54 + t3_68))) (fun V3 => (M_layPage_book_L2 f x2 k_2 n_2 (x3_2 + 1) V3)))) (fun j68 => (if ((V2 8) x3_2.toNatClampNeg) = 0 then (j68 0) else (j68 2)))))) (fun j54 => (if ((V2 7) x3_2.toNatClampNeg) = 0 then (j54 0) else (j54 1))))))))))))
def M_layPage_book_L78 {ρ : Type} (f : Nat) (x2 : Int32) (k_78 : FV → Option ρ) : Nat → Int32 → FV → Option ρ
  | 0, _, _ => none
  | n_78 + 1, x3_78, Vm_78 => (if 12 ≤ x3_78 then (k_78 Vm_78) else (nm (fun (Vm_112 : FV) => if x3_78 < 0 ∨ 12 ≤ x3_78.toNatClampNeg then none else (if ((x2 + 42) + x3_78) < 0 ∨ 740 ≤ ((x2 + 42) + x3_78).toNatClampNeg then none else (nm (va_up Vm_112 23 (upd (Vm_112 23) ((x2 + 42) + x3_78).toNatClampNeg ((Vm_112 12) x3_78.toNatClampNeg))) (fun V4 => if x3_78 < 0 ∨ 12 ≤ x3_78.toNatClampNeg then none else (if ((x2 + 54) + x3_78) < 0 ∨ 740 ≤ ((x2 + 54) + x3_78).toNatClampNeg then none else (nm (va_up V4 23 (upd (V4 23) ((x2 + 54) + x3_78).toNatClampNeg ((V4 13) x3_78.toNatClampNeg))) (fun V5 => (M_layPage_book_L78 f x2 k_78 n_78 (x3_78 + 1) V5)))))))) (fun j112 => if x3_78 < 0 ∨ 12 ≤ x3_78.toNatClampNeg then none else (if ((x2 + 18) + x3_78) < 0 ∨ 740 ≤ ((x2 + 18) + x3_78).toNatClampNeg then none else (nm (va_up Vm_78 23 (upd (Vm_78 23) ((x2 + 18) + x3_78).toNatClampNeg ((Vm_78 10) x3_78.toNatClampNeg))) (fun V6 => if x3_78 < 0 ∨ 12 ≤ x3_78.toNatClampNeg then none else (if ((x2 + 30) + x3_78) < 0 ∨ 740 ≤ ((x2 + 30) + x3_78).toNatClampNeg then none else (nm (va_up V6 23 (upd (V6 23) ((x2 + 30) + x3_78).toNatClampNeg ((V6 11) x3_78.toNatClampNeg))) (fun V7 => (j112 V7))))))))))
def M_layPage_book (f : Nat) (x2 : Int32) (I : FI) (V : FV) : Option (FI × FV) := (M_layPage_book_L2 f x2 (fun (Vm_2 : FV) => (M_layPage_book_L78 f x2 (fun (Vm_78 : FV) => if (x2 + 66) < 0 ∨ 740 ≤ (x2 + 66).toNatClampNeg then none else (nm (va_up Vm_78 23 (upd (Vm_78 23) (x2 + 66).toNatClampNeg (I 9))) (fun V8 => if (x2 + 67) < 0 ∨ 740 ≤ (x2 + 67).toNatClampNeg then none else (nm (va_up V8 23 (upd (V8 23) (x2 + 67).toNatClampNeg (I 14))) (fun V9 => some (I, V9)))))) f 0 Vm_2)) f 0 V)
abbrev rm_M_layPage_book : Room := { frames := 0, cells := 0, slots := 0, locals := 0 }
set_option maxHeartbeats 4000000 in
set_option maxRecDepth 100000 in
theorem v_M_layPage_book {l : Launch} {p : Program} {e : Env} {s : State} {m : MethodId} {args : Array Value} {below : List Frame} {meth : Method} {c : Code} {Q : State → Prop} {D : va_G} {cs : Nat → ClassId} {o : Nat} {h : Nat → Nat} {A : Nat → Prop} {I : FI} {V : FV} {x2 : Int32} {f : Nat} {out : FI × FV} (hf : M_layPage_book f x2 I V = some out) (hx : p.tables.exec = Jvm.exec) (hb : c.code = cX10_layPage) (hml : c.maxLocals = 4) (hown : s.vm.findClass RX10 = some m.cls) (hts : ∀ w ∈ wsX10_layPage, w.before args s = true) (in_X10 : ∀ w ∈ u_ws RX10 TX10 38, w ∈ wsX10_layPage) (g_13 : (Cond.fieldLink RX10 13 "DaysLentModel" "mornings" "[I").before args s = true) (g_16 : (Cond.fieldLink RX10 16 "DaysLentModel" "asks" "[I").before args s = true) (g_19 : (Cond.fieldLink RX10 19 "DaysLentModel" "dead" "[Z").before args s = true) (g_23 : (Cond.fieldLink RX10 23 "DaysLentModel" "broken" "[Z").before args s = true) (g_26 : (Cond.fieldLink RX10 26 "DaysLentModel" "owed" "[I").before args s = true) (g_29 : (Cond.fieldLink RX10 29 "DaysLentModel" "owes" "[I").before args s = true) (g_32 : (Cond.fieldLink RX10 32 "DaysLentModel" "much" "[I").before args s = true) (g_35 : (Cond.fieldLink RX10 35 "DaysLentModel" "due" "[I").before args s = true) (g_135 : (Cond.fieldLink RX10 135 "DaysLentModel" "debts" "I").before args s = true) (g_138 : (Cond.fieldLink RX10 138 "DaysLentModel" "week" "I").before args s = true) (hA : ∀ q : Nat, s.heap.size ≤ q → A q) (hP : va_P D vwCl (w_M cs o h I V) s.heap) (hD : va_D A (w_M cs o h I V)) (hK : va_K D vwCl (tyA cs) s) (hret : ∀ (Im9 : FI) (Vm9 : FV) (H : Heap) (locs : List Loc) (pc : Nat) (ls : Array Slot), some (Im9, Vm9) = some out → va_P D vwCl (w_M cs o h Im9 Vm9) H → va_D A (w_M cs o h Im9 Vm9) → va_S A s.heap H locs → decode cX10_layPage pc = .ok (.return_, 1) → W p l e rm_M_layPage_book s m args below meth c H locs 0 0 Q (F0 m pc ls [])) : ∀ ls : Array Slot, lv_has ls 4 [(0, .ref o), (1, .ref (h 23)), (2, .int x2)] → W p l e rm_M_layPage_book s m args below meth c s.heap [] 0 0 Q (F0 m 0 ls []) := by
  intro ls hl
  have hS : va_S A s.heap s.heap [] := va_S.rf
  unfold M_layPage_book at hf
  refine lv_iconst (v := 0) hx hb dX10_layPage_0 (by decide) ?_
  refine lv_istore_n (lv' := [(3, .int 0), (0, .ref o), (1, .ref (h 23)), (2, .int x2)]) hx hb dX10_layPage_1 rfl hl (by decide) rfl (fun ls hl => ?_)
  have L2 : ∀ (k_2 : FV → Option (FI × FV)) (hk_2 : ∀ (Vm_2 : FV), k_2 Vm_2 = some out → ∀ (H : Heap) (locs : List Loc), va_P D vwCl (w_M cs o h I Vm_2) H → va_D A (w_M cs o h I Vm_2) → va_S A s.heap H locs → ∀ ls : Array Slot, lv_has ls 4 [(0, .ref o), (1, .ref (h 23)), (2, .int x2)] → W p l e rm_M_layPage_book s m args below meth c H locs 0 0 Q (F0 m 76 ls [])), ∀ (n_2 : Nat) (x3_2 : Int32) (Vm_2 : FV), M_layPage_book_L2 f x2 k_2 n_2 x3_2 Vm_2 = some out → ∀ (H : Heap) (locs : List Loc), va_P D vwCl (w_M cs o h I Vm_2) H → va_D A (w_M cs o h I Vm_2) → va_S A s.heap H locs → ∀ ls : Array Slot, lv_has ls 4 [(0, .ref o), (1, .ref (h 23)), (2, .int x2), (3, .int x3_2)] → W p l e rm_M_layPage_book s m args below meth c H locs 0 0 Q (F0 m 2 ls []) := by
    intro k_2 hk_2 n_2
    induction n_2 with
    | zero => intro x3_2 Vm_2 hf; rw [M_layPage_book_L2] at hf; cases hf
    | succ n_2 ih_2 =>
      intro x3_2 Vm_2 hf H locs hP hD hS ls hl
      rw [M_layPage_book_L2] at hf
      refine lv_iload_n hx hb dX10_layPage_2 rfl (lv_at hl 3 rfl) ?_
      refine lv_bipush (v := 6) hx hb dX10_layPage_3 (by decide) ?_
      refine lv_icmp_ge (tgt := 76) hx hb dX10_layPage_5 (by decide) (fun c5 => ?_) (fun c5 => ?_)
      · replace hf := ip c5 hf
        exact hk_2 Vm_2 hf _ _ hP hD hS _ (lv_sub hl [0, 1, 2] rfl)
      · replace hf := im c5 hf
        refine lv_aload_n hx hb dX10_layPage_8 rfl (lv_at hl 1 rfl) ?_
        refine lv_iload_n hx hb dX10_layPage_9 rfl (lv_at hl 2 rfl) ?_
        refine lv_iload_n hx hb dX10_layPage_10 rfl (lv_at hl 3 rfl) ?_
        refine lv_iadd hx hb dX10_layPage_11 ?_
        refine lv_aload_n hx hb dX10_layPage_12 rfl (lv_at hl 0 rfl) ?_
        refine va_get (D := D) (ci := 10) (v := .ref (h 5)) (C := RX10) (T := TX10) (N := 38) hx hb hts in_X10 hown hK hP 0 rfl rfl 5 (by decide) g_13 (fun _ h9 => h9) rfl dX10_layPage_13 ?_
        refine lv_iload_n hx hb dX10_layPage_16 rfl (lv_at hl 3 rfl) ?_
        obtain ⟨c17, hf⟩ := gd hf
        refine va_iald (f := (Vm_2 5)) hx hb hK hP 2 0 rfl rfl c17 dX10_layPage_17 ?_
        obtain ⟨c18, hf⟩ := gd hf
        refine va_iast (f := (Vm_2 23)) hx hb hK hP hD hS 16 0 rfl rfl c18 dX10_layPage_18 (fun H locs hP hD hS => ?_)
        obtain ⟨V1, eV1, hf⟩ := nme hf
        have hP : va_P D vwCl (w_M cs o h I V1) H := by rw [eV1]; exact hP
        have hD : va_D A (w_M cs o h I V1) := by rw [eV1]; exact hD
        refine lv_aload_n hx hb dX10_layPage_19 rfl (lv_at hl 1 rfl) ?_
        refine lv_iload_n hx hb dX10_layPage_20 rfl (lv_at hl 2 rfl) ?_
        refine lv_bipush (v := 6) hx hb dX10_layPage_21 (by decide) ?_
        refine lv_iadd hx hb dX10_layPage_23 ?_
        refine lv_iload_n hx hb dX10_layPage_24 rfl (lv_at hl 3 rfl) ?_
        refine lv_iadd hx hb dX10_layPage_25 ?_
        refine lv_aload_n hx hb dX10_layPage_26 rfl (lv_at hl 0 rfl) ?_
        refine va_get (D := D) (ci := 10) (v := .ref (h 6)) (C := RX10) (T := TX10) (N := 38) hx hb hts in_X10 hown hK hP 0 rfl rfl 6 (by decide) g_16 (fun _ h9 => h9) rfl dX10_layPage_27 ?_
        refine lv_iload_n hx hb dX10_layPage_30 rfl (lv_at hl 3 rfl) ?_
        obtain ⟨c31, hf⟩ := gd hf
        refine va_iald (f := (V1 6)) hx hb hK hP 3 0 rfl rfl c31 dX10_layPage_31 ?_
        obtain ⟨c32, hf⟩ := gd hf
        refine va_iast (f := (V1 23)) hx hb hK hP hD hS 16 0 rfl rfl c32 dX10_layPage_32 (fun H locs hP hD hS => ?_)
        obtain ⟨V2, eV2, hf⟩ := nme hf
        have hP : va_P D vwCl (w_M cs o h I V2) H := by rw [eV2]; exact hP
        have hD : va_D A (w_M cs o h I V2) := by rw [eV2]; exact hD
        refine lv_aload_n hx hb dX10_layPage_33 rfl (lv_at hl 1 rfl) ?_
        refine lv_iload_n hx hb dX10_layPage_34 rfl (lv_at hl 2 rfl) ?_
        refine lv_bipush (v := 12) hx hb dX10_layPage_35 (by decide) ?_
        refine lv_iadd hx hb dX10_layPage_37 ?_
        refine lv_iload_n hx hb dX10_layPage_38 rfl (lv_at hl 3 rfl) ?_
        refine lv_iadd hx hb dX10_layPage_39 ?_
        refine lv_aload_n hx hb dX10_layPage_40 rfl (lv_at hl 0 rfl) ?_
        refine va_get (D := D) (ci := 10) (v := .ref (h 7)) (C := RX10) (T := TX10) (N := 38) hx hb hts in_X10 hown hK hP 0 rfl rfl 7 (by decide) g_19 (fun _ h9 => h9) rfl dX10_layPage_41 ?_
        refine lv_iload_n hx hb dX10_layPage_44 rfl (lv_at hl 3 rfl) ?_
        obtain ⟨c45, hf⟩ := gd hf
        refine va_zald (f := (V2 7)) hx hb hK hP 4 1 rfl rfl c45 dX10_layPage_45 ?_
        obtain ⟨j54, ej54, hf⟩ := nme hf
        have J54 : ∀ (t2_54 : Int32), j54 t2_54 = some out → ∀ (H : Heap) (locs : List Loc), va_P D vwCl (w_M cs o h I V2) H → va_D A (w_M cs o h I V2) → va_S A s.heap H locs → ∀ ls : Array Slot, lv_has ls 4 [(0, .ref o), (1, .ref (h 23)), (2, .int x2), (3, .int x3_2)] → W p l e rm_M_layPage_book s m args below meth c H locs 0 0 Q (F0 m 54 ls [.int t2_54, .int ((x2 + 12) + x3_2), .ref (h 23)]) := by
          intro t2_54 hf H locs hP hD hS ls hl
          rw [ej54] at hf
          refine lv_aload_n hx hb dX10_layPage_54 rfl (lv_at hl 0 rfl) ?_
          refine va_get (D := D) (ci := 10) (v := .ref (h 8)) (C := RX10) (T := TX10) (N := 38) hx hb hts in_X10 hown hK hP 0 rfl rfl 8 (by decide) g_23 (fun _ h9 => h9) rfl dX10_layPage_55 ?_
          refine lv_iload_n hx hb dX10_layPage_58 rfl (lv_at hl 3 rfl) ?_
          obtain ⟨c59, hf⟩ := gd hf
          refine va_zald (f := (V2 8)) hx hb hK hP 5 1 rfl rfl c59 dX10_layPage_59 ?_
          obtain ⟨j68, ej68, hf⟩ := nme hf
          have J68 : ∀ (t3_68 : Int32), j68 t3_68 = some out → ∀ (H : Heap) (locs : List Loc), va_P D vwCl (w_M cs o h I V2) H → va_D A (w_M cs o h I V2) → va_S A s.heap H locs → ∀ ls : Array Slot, lv_has ls 4 [(0, .ref o), (1, .ref (h 23)), (2, .int x2), (3, .int x3_2)] → W p l e rm_M_layPage_book s m args below meth c H locs 0 0 Q (F0 m 68 ls [.int t3_68, .int t2_54, .int ((x2 + 12) + x3_2), .ref (h 23)]) := by
            intro t3_68 hf H locs hP hD hS ls hl
            rw [ej68] at hf
            refine lv_iadd hx hb dX10_layPage_68 ?_
            obtain ⟨c69, hf⟩ := gd hf
            refine va_iast (f := (V2 23)) hx hb hK hP hD hS 16 0 rfl rfl c69 dX10_layPage_69 (fun H locs hP hD hS => ?_)
            obtain ⟨V3, eV3, hf⟩ := nme hf
            have hP : va_P D vwCl (w_M cs o h I V3) H := by rw [eV3]; exact hP
            have hD : va_D A (w_M cs o h I V3) := by rw [eV3]; exact hD
            refine lv_iinc (v := (x3_2 + 1)) (lv' := [(3, .int (x3_2 + 1)), (0, .ref o), (1, .ref (h 23)), (2, .int x2)]) hx hb dX10_layPage_70 hl (k := 3) rfl (by rfl) (by decide) rfl (fun ls hl => ?_)
            refine lv_goto (tgt := 2) hx hb dX10_layPage_73 (by decide) ?_
            exact ih_2 (x3_2 + 1) V3 hf _ _ hP hD hS _ (lv_sub hl [1, 2, 3, 0] rfl)
          refine lv_if_eq (tgt := 67) hx hb dX10_layPage_60 (by decide) (fun c60 => ?_) (fun c60 => ?_)
          · replace hf := ip c60 hf
            refine lv_iconst (v := 0) hx hb dX10_layPage_67 (by decide) ?_
            exact J68 0 hf _ _ hP hD hS _ (lv_sub hl [0, 1, 2, 3] rfl)
          · replace hf := im c60 hf
            refine lv_iconst (v := 2) hx hb dX10_layPage_63 (by decide) ?_
            refine lv_goto (tgt := 68) hx hb dX10_layPage_64 (by decide) ?_
            exact J68 2 hf _ _ hP hD hS _ (lv_sub hl [0, 1, 2, 3] rfl)
        refine lv_if_eq (tgt := 53) hx hb dX10_layPage_46 (by decide) (fun c46 => ?_) (fun c46 => ?_)
        · replace hf := ip c46 hf
          refine lv_iconst (v := 0) hx hb dX10_layPage_53 (by decide) ?_
          exact J54 0 hf _ _ hP hD hS _ (lv_sub hl [0, 1, 2, 3] rfl)
        · replace hf := im c46 hf
          refine lv_iconst (v := 1) hx hb dX10_layPage_49 (by decide) ?_
          refine lv_goto (tgt := 54) hx hb dX10_layPage_50 (by decide) ?_
          exact J54 1 hf _ _ hP hD hS _ (lv_sub hl [0, 1, 2, 3] rfl)
  refine L2 _ (fun Vm_2 hf H locs hP hD hS ls hl => ?_) f 0 V hf _ _ hP hD hS _ (lv_sub hl [1, 2, 3, 0] rfl)
  refine lv_iconst (v := 0) hx hb dX10_layPage_76 (by decide) ?_
  refine lv_istore_n (lv' := [(3, .int 0), (0, .ref o), (1, .ref (h 23)), (2, .int x2)]) hx hb dX10_layPage_77 rfl hl (by decide) rfl (fun ls hl => ?_)
  have L78 : ∀ (k_78 : FV → Option (FI × FV)) (hk_78 : ∀ (Vm_78 : FV), k_78 Vm_78 = some out → ∀ (H : Heap) (locs : List Loc), va_P D vwCl (w_M cs o h I Vm_78) H → va_D A (w_M cs o h I Vm_78) → va_S A s.heap H locs → ∀ ls : Array Slot, lv_has ls 4 [(0, .ref o), (1, .ref (h 23)), (2, .int x2)] → W p l e rm_M_layPage_book s m args below meth c H locs 0 0 Q (F0 m 146 ls [])), ∀ (n_78 : Nat) (x3_78 : Int32) (Vm_78 : FV), M_layPage_book_L78 f x2 k_78 n_78 x3_78 Vm_78 = some out → ∀ (H : Heap) (locs : List Loc), va_P D vwCl (w_M cs o h I Vm_78) H → va_D A (w_M cs o h I Vm_78) → va_S A s.heap H locs → ∀ ls : Array Slot, lv_has ls 4 [(0, .ref o), (1, .ref (h 23)), (2, .int x2), (3, .int x3_78)] → W p l e rm_M_layPage_book s m args below meth c H locs 0 0 Q (F0 m 78 ls []) := by
    intro k_78 hk_78 n_78
    induction n_78 with
    | zero => intro x3_78 Vm_78 hf; rw [M_layPage_book_L78] at hf; cases hf
    | succ n_78 ih_78 =>
      intro x3_78 Vm_78 hf H locs hP hD hS ls hl
      rw [M_layPage_book_L78] at hf
      refine lv_iload_n hx hb dX10_layPage_78 rfl (lv_at hl 3 rfl) ?_
      refine lv_bipush (v := 12) hx hb dX10_layPage_79 (by decide) ?_
      refine lv_icmp_ge (tgt := 146) hx hb dX10_layPage_81 (by decide) (fun c81 => ?_) (fun c81 => ?_)
      · replace hf := ip c81 hf
        exact hk_78 Vm_78 hf _ _ hP hD hS _ (lv_sub hl [0, 1, 2] rfl)
      · replace hf := im c81 hf
        obtain ⟨j112, ej112, hf⟩ := nme hf
        have J112 : ∀ (Vm_112 : FV), j112 Vm_112 = some out → ∀ (H : Heap) (locs : List Loc), va_P D vwCl (w_M cs o h I Vm_112) H → va_D A (w_M cs o h I Vm_112) → va_S A s.heap H locs → ∀ ls : Array Slot, lv_has ls 4 [(0, .ref o), (1, .ref (h 23)), (2, .int x2), (3, .int x3_78)] → W p l e rm_M_layPage_book s m args below meth c H locs 0 0 Q (F0 m 112 ls []) := by
          intro Vm_112 hf H locs hP hD hS ls hl
          rw [ej112] at hf
          refine lv_aload_n hx hb dX10_layPage_112 rfl (lv_at hl 1 rfl) ?_
          refine lv_iload_n hx hb dX10_layPage_113 rfl (lv_at hl 2 rfl) ?_
          refine lv_bipush (v := 42) hx hb dX10_layPage_114 (by decide) ?_
          refine lv_iadd hx hb dX10_layPage_116 ?_
          refine lv_iload_n hx hb dX10_layPage_117 rfl (lv_at hl 3 rfl) ?_
          refine lv_iadd hx hb dX10_layPage_118 ?_
          refine lv_aload_n hx hb dX10_layPage_119 rfl (lv_at hl 0 rfl) ?_
          refine va_get (D := D) (ci := 10) (v := .ref (h 12)) (C := RX10) (T := TX10) (N := 38) hx hb hts in_X10 hown hK hP 0 rfl rfl 12 (by decide) g_32 (fun _ h9 => h9) rfl dX10_layPage_120 ?_
          refine lv_iload_n hx hb dX10_layPage_123 rfl (lv_at hl 3 rfl) ?_
          obtain ⟨c124, hf⟩ := gd hf
          refine va_iald (f := (Vm_112 12)) hx hb hK hP 8 0 rfl rfl c124 dX10_layPage_124 ?_
          obtain ⟨c125, hf⟩ := gd hf
          refine va_iast (f := (Vm_112 23)) hx hb hK hP hD hS 16 0 rfl rfl c125 dX10_layPage_125 (fun H locs hP hD hS => ?_)
          obtain ⟨V4, eV4, hf⟩ := nme hf
          have hP : va_P D vwCl (w_M cs o h I V4) H := by rw [eV4]; exact hP
          have hD : va_D A (w_M cs o h I V4) := by rw [eV4]; exact hD
          refine lv_aload_n hx hb dX10_layPage_126 rfl (lv_at hl 1 rfl) ?_
          refine lv_iload_n hx hb dX10_layPage_127 rfl (lv_at hl 2 rfl) ?_
          refine lv_bipush (v := 54) hx hb dX10_layPage_128 (by decide) ?_
          refine lv_iadd hx hb dX10_layPage_130 ?_
          refine lv_iload_n hx hb dX10_layPage_131 rfl (lv_at hl 3 rfl) ?_
          refine lv_iadd hx hb dX10_layPage_132 ?_
          refine lv_aload_n hx hb dX10_layPage_133 rfl (lv_at hl 0 rfl) ?_
          refine va_get (D := D) (ci := 10) (v := .ref (h 13)) (C := RX10) (T := TX10) (N := 38) hx hb hts in_X10 hown hK hP 0 rfl rfl 13 (by decide) g_35 (fun _ h9 => h9) rfl dX10_layPage_134 ?_
          refine lv_iload_n hx hb dX10_layPage_137 rfl (lv_at hl 3 rfl) ?_
          obtain ⟨c138, hf⟩ := gd hf
          refine va_iald (f := (V4 13)) hx hb hK hP 9 0 rfl rfl c138 dX10_layPage_138 ?_
          obtain ⟨c139, hf⟩ := gd hf
          refine va_iast (f := (V4 23)) hx hb hK hP hD hS 16 0 rfl rfl c139 dX10_layPage_139 (fun H locs hP hD hS => ?_)
          obtain ⟨V5, eV5, hf⟩ := nme hf
          have hP : va_P D vwCl (w_M cs o h I V5) H := by rw [eV5]; exact hP
          have hD : va_D A (w_M cs o h I V5) := by rw [eV5]; exact hD
          refine lv_iinc (v := (x3_78 + 1)) (lv' := [(3, .int (x3_78 + 1)), (0, .ref o), (1, .ref (h 23)), (2, .int x2)]) hx hb dX10_layPage_140 hl (k := 3) rfl (by rfl) (by decide) rfl (fun ls hl => ?_)
          refine lv_goto (tgt := 78) hx hb dX10_layPage_143 (by decide) ?_
          exact ih_78 (x3_78 + 1) V5 hf _ _ hP hD hS _ (lv_sub hl [1, 2, 3, 0] rfl)
        refine lv_aload_n hx hb dX10_layPage_84 rfl (lv_at hl 1 rfl) ?_
        refine lv_iload_n hx hb dX10_layPage_85 rfl (lv_at hl 2 rfl) ?_
        refine lv_bipush (v := 18) hx hb dX10_layPage_86 (by decide) ?_
        refine lv_iadd hx hb dX10_layPage_88 ?_
        refine lv_iload_n hx hb dX10_layPage_89 rfl (lv_at hl 3 rfl) ?_
        refine lv_iadd hx hb dX10_layPage_90 ?_
        refine lv_aload_n hx hb dX10_layPage_91 rfl (lv_at hl 0 rfl) ?_
        refine va_get (D := D) (ci := 10) (v := .ref (h 10)) (C := RX10) (T := TX10) (N := 38) hx hb hts in_X10 hown hK hP 0 rfl rfl 10 (by decide) g_26 (fun _ h9 => h9) rfl dX10_layPage_92 ?_
        refine lv_iload_n hx hb dX10_layPage_95 rfl (lv_at hl 3 rfl) ?_
        obtain ⟨c96, hf⟩ := gd hf
        refine va_iald (f := (Vm_78 10)) hx hb hK hP 6 0 rfl rfl c96 dX10_layPage_96 ?_
        obtain ⟨c97, hf⟩ := gd hf
        refine va_iast (f := (Vm_78 23)) hx hb hK hP hD hS 16 0 rfl rfl c97 dX10_layPage_97 (fun H locs hP hD hS => ?_)
        obtain ⟨V6, eV6, hf⟩ := nme hf
        have hP : va_P D vwCl (w_M cs o h I V6) H := by rw [eV6]; exact hP
        have hD : va_D A (w_M cs o h I V6) := by rw [eV6]; exact hD
        refine lv_aload_n hx hb dX10_layPage_98 rfl (lv_at hl 1 rfl) ?_
        refine lv_iload_n hx hb dX10_layPage_99 rfl (lv_at hl 2 rfl) ?_
        refine lv_bipush (v := 30) hx hb dX10_layPage_100 (by decide) ?_
        refine lv_iadd hx hb dX10_layPage_102 ?_
        refine lv_iload_n hx hb dX10_layPage_103 rfl (lv_at hl 3 rfl) ?_
        refine lv_iadd hx hb dX10_layPage_104 ?_
        refine lv_aload_n hx hb dX10_layPage_105 rfl (lv_at hl 0 rfl) ?_
        refine va_get (D := D) (ci := 10) (v := .ref (h 11)) (C := RX10) (T := TX10) (N := 38) hx hb hts in_X10 hown hK hP 0 rfl rfl 11 (by decide) g_29 (fun _ h9 => h9) rfl dX10_layPage_106 ?_
        refine lv_iload_n hx hb dX10_layPage_109 rfl (lv_at hl 3 rfl) ?_
        obtain ⟨c110, hf⟩ := gd hf
        refine va_iald (f := (V6 11)) hx hb hK hP 7 0 rfl rfl c110 dX10_layPage_110 ?_
        obtain ⟨c111, hf⟩ := gd hf
        refine va_iast (f := (V6 23)) hx hb hK hP hD hS 16 0 rfl rfl c111 dX10_layPage_111 (fun H locs hP hD hS => ?_)
        obtain ⟨V7, eV7, hf⟩ := nme hf
        have hP : va_P D vwCl (w_M cs o h I V7) H := by rw [eV7]; exact hP
        have hD : va_D A (w_M cs o h I V7) := by rw [eV7]; exact hD
        exact J112 V7 hf _ _ hP hD hS _ (lv_sub hl [0, 1, 2, 3] rfl)
  refine L78 _ (fun Vm_78 hf H locs hP hD hS ls hl => ?_) f 0 Vm_2 hf _ _ hP hD hS _ (lv_sub hl [1, 2, 3, 0] rfl)
  refine lv_aload_n hx hb dX10_layPage_146 rfl (lv_at hl 1 rfl) ?_
  refine lv_iload_n hx hb dX10_layPage_147 rfl (lv_at hl 2 rfl) ?_
  refine lv_bipush (v := 66) hx hb dX10_layPage_148 (by decide) ?_
  refine lv_iadd hx hb dX10_layPage_150 ?_
  refine lv_aload_n hx hb dX10_layPage_151 rfl (lv_at hl 0 rfl) ?_
  refine va_get (D := D) (ci := 10) (v := .int (I 9)) (C := RX10) (T := TX10) (N := 38) hx hb hts in_X10 hown hK hP 0 rfl rfl 9 (by decide) g_135 (fun _ h9 => h9) rfl dX10_layPage_152 ?_
  obtain ⟨c155, hf⟩ := gd hf
  refine va_iast (f := (Vm_78 23)) hx hb hK hP hD hS 16 0 rfl rfl c155 dX10_layPage_155 (fun H locs hP hD hS => ?_)
  obtain ⟨V8, eV8, hf⟩ := nme hf
  have hP : va_P D vwCl (w_M cs o h I V8) H := by rw [eV8]; exact hP
  have hD : va_D A (w_M cs o h I V8) := by rw [eV8]; exact hD
  refine lv_aload_n hx hb dX10_layPage_156 rfl (lv_at hl 1 rfl) ?_
  refine lv_iload_n hx hb dX10_layPage_157 rfl (lv_at hl 2 rfl) ?_
  refine lv_bipush (v := 67) hx hb dX10_layPage_158 (by decide) ?_
  refine lv_iadd hx hb dX10_layPage_160 ?_
  refine lv_aload_n hx hb dX10_layPage_161 rfl (lv_at hl 0 rfl) ?_
  refine va_get (D := D) (ci := 10) (v := .int (I 14)) (C := RX10) (T := TX10) (N := 38) hx hb hts in_X10 hown hK hP 0 rfl rfl 14 (by decide) g_138 (fun _ h9 => h9) rfl dX10_layPage_162 ?_
  obtain ⟨c165, hf⟩ := gd hf
  refine va_iast (f := (V8 23)) hx hb hK hP hD hS 16 0 rfl rfl c165 dX10_layPage_165 (fun H locs hP hD hS => ?_)
  obtain ⟨V9, eV9, hf⟩ := nme hf
  have hP : va_P D vwCl (w_M cs o h I V9) H := by rw [eV9]; exact hP
  have hD : va_D A (w_M cs o h I V9) := by rw [eV9]; exact hD
  exact hret I V9 _ _ 166 _ hf hP hD hS dX10_layPage_166
set_option maxHeartbeats 4000000 in
set_option maxRecDepth 100000 in
theorem c_M_layPage_book (l : Launch) (D : va_G) (cs : Nat → ClassId) (o : Nat) (h : Nat → Nat) (sz : Nat) (I : FI) (V : FV) (x2 : Int32) (f : Nat) (out : FI × FV) (hf : M_layPage_book f x2 I V = some out) : Met l yX10_layPage wsX10_layPage rm_M_layPage_book (va_Pc [.ref o, .ref (h 23), .int x2] (xP D cs (w_M cs o h I V) sz)) (va_Qv (fun u => u = out) (fun (u : FI × FV) t => xA D cs (va_A (w_M cs o h I V) sz) (w_M cs o h u.1 u.2) t) (va_A (w_M cs o h I V) sz)) 0 0 (va_A (w_M cs o h I V) sz) := by
  refine Met.ofW (cc := cX10_layPage) (maxL := 4) (ret := none) (by decide) rfl ?_
  intro p e s m args below meth c s₁ B hml hv
  obtain ⟨ha, hsz, hP, hK, hD0⟩ := hv
  have hx := B.exec
  have hb := B.bytes
  have hr := B.returns
  have hts := atoms_spec (ws := wsX10_layPage) B.pre
  have hown : s.vm.findClass RX10 = some m.cls := findClass_of_methodNamed B.named
  have hlocks := B.notSynchronized
  have in_X10 : ∀ w ∈ u_ws RX10 TX10 38, w ∈ wsX10_layPage := fun w h => List.mem_cons_of_mem _ (List.mem_append_right _ h)
  have g_13 := hts (Cond.fieldLink RX10 13 "DaysLentModel" "mornings" "[I") (by decide +kernel)
  have g_16 := hts (Cond.fieldLink RX10 16 "DaysLentModel" "asks" "[I") (by decide +kernel)
  have g_19 := hts (Cond.fieldLink RX10 19 "DaysLentModel" "dead" "[Z") (by decide +kernel)
  have g_23 := hts (Cond.fieldLink RX10 23 "DaysLentModel" "broken" "[Z") (by decide +kernel)
  have g_26 := hts (Cond.fieldLink RX10 26 "DaysLentModel" "owed" "[I") (by decide +kernel)
  have g_29 := hts (Cond.fieldLink RX10 29 "DaysLentModel" "owes" "[I") (by decide +kernel)
  have g_32 := hts (Cond.fieldLink RX10 32 "DaysLentModel" "much" "[I") (by decide +kernel)
  have g_35 := hts (Cond.fieldLink RX10 35 "DaysLentModel" "due" "[I") (by decide +kernel)
  have g_135 := hts (Cond.fieldLink RX10 135 "DaysLentModel" "debts" "I") (by decide +kernel)
  have g_138 := hts (Cond.fieldLink RX10 138 "DaysLentModel" "week" "I") (by decide +kernel)
  subst hsz
  have hD := hD0.self (sz := s.heap.size)
  generalize hAe : va_A (w_M cs o h I V) s.heap.size = A at hD ⊢
  have hA : ∀ q : Nat, s.heap.size ≤ q → A q := fun q h => by rw [← hAe]; exact Or.inr h
  have hl := lv_entry ([.ref o, .ref (h 23), .int x2]) (n := 4) (Nat.le_of_ble_eq_true rfl)
  rw [show entryFrame m args 4 = entryFrame m ([.ref o, .ref (h 23), .int x2] : List Value).toArray 4 from by rw [ha], lg_entry_eq]
  generalize (lg_sl ([.ref o, .ref (h 23), .int x2]) ++ List.replicate (4 - (lg_sl ([.ref o, .ref (h 23), .int x2])).length) Slot.unset).toArray = ls at hl ⊢
  generalize hQ : MQ below (va_Qv (fun u => u = out) (fun (u : FI × FV) t => xA D cs A (w_M cs o h u.1 u.2) t) A) args s 0 0 A = Q
  have hret : ∀ (Im9 : FI) (Vm9 : FV) (H : Heap) (locs : List Loc) (pc : Nat) (ls : Array Slot), some (Im9, Vm9) = some out → va_P D vwCl (w_M cs o h Im9 Vm9) H → va_D A (w_M cs o h Im9 Vm9) → va_S A s.heap H locs → decode cX10_layPage pc = .ok (.return_, 1) → W p l e rm_M_layPage_book s m args below meth c H locs 0 0 Q (F0 m pc ls []) := by
    intro Im9 Vm9 H locs pc ls hf hP hD hS hd
    rw [← hQ]
    exact W.vret hx hb hr (fun t ht hW => ⟨⟨(Im9, Vm9), rfl, Option.some.inj hf, by show va_P D vwCl (w_M cs o h Im9 Vm9) t.heap; rw [ht]; exact hP, va_K.moved hW.alike hK, hD⟩, hS.F ht⟩) hS.2.2 hd
  exact v_M_layPage_book hf hx hb hml hown hts in_X10 g_13 g_16 g_19 g_23 g_26 g_29 g_32 g_35 g_135 g_138 hA hP hD hK hret ls hl
def M_layPage_kept_L2 {ρ : Type} (f : Nat) (x2 : Int32) (k_2 : FV → Option ρ) : Nat → Int32 → FV → Option ρ
  | 0, _, _ => none
  | n_2 + 1, x3_2, Vm_2 => (if 6 ≤ x3_2 then (k_2 Vm_2) else if x3_2 < 0 ∨ 6 ≤ x3_2.toNatClampNeg then none else (if (x2 + x3_2) < 0 ∨ 148 ≤ (x2 + x3_2).toNatClampNeg then none else (nm (va_up Vm_2 25 (upd (Vm_2 25) (x2 + x3_2).toNatClampNeg ((Vm_2 5) x3_2.toNatClampNeg))) (fun V1 => if x3_2 < 0 ∨ 6 ≤ x3_2.toNatClampNeg then none else (if ((x2 + 6) + x3_2) < 0 ∨ 148 ≤ ((x2 + 6) + x3_2).toNatClampNeg then none else (nm (va_up V1 25 (upd (V1 25) ((x2 + 6) + x3_2).toNatClampNeg ((V1 6) x3_2.toNatClampNeg))) (fun V2 => if x3_2 < 0 ∨ 6 ≤ x3_2.toNatClampNeg then none else ((nm (fun (t2_54 : Int32) => if x3_2 < 0 ∨ 6 ≤ x3_2.toNatClampNeg then none else ((nm (fun (t3_68 : Int32) => if ((x2 + 12) + x3_2) < 0 ∨ 148 ≤ ((x2 + 12) + x3_2).toNatClampNeg then none else (nm (va_up V2 25 (upd (V2 25) ((x2 + 12) + x3_2).toNatClampNeg (t2_54 + t3_68))) (fun V3 => (M_layPage_kept_L2 f x2 k_2 n_2 (x3_2 + 1) V3)))) (fun j68 => (if ((V2 8) x3_2.toNatClampNeg) = 0 then (j68 0) else (j68 2)))))) (fun j54 => (if ((V2 7) x3_2.toNatClampNeg) = 0 then (j54 0) else (j54 1))))))))))))
def M_layPage_kept_L78 {ρ : Type} (f : Nat) (x2 : Int32) (k_78 : FV → Option ρ) : Nat → Int32 → FV → Option ρ
  | 0, _, _ => none
  | n_78 + 1, x3_78, Vm_78 => (if 12 ≤ x3_78 then (k_78 Vm_78) else (nm (fun (Vm_112 : FV) => if x3_78 < 0 ∨ 12 ≤ x3_78.toNatClampNeg then none else (if ((x2 + 42) + x3_78) < 0 ∨ 148 ≤ ((x2 + 42) + x3_78).toNatClampNeg then none else (nm (va_up Vm_112 25 (upd (Vm_112 25) ((x2 + 42) + x3_78).toNatClampNeg ((Vm_112 12) x3_78.toNatClampNeg))) (fun V4 => if x3_78 < 0 ∨ 12 ≤ x3_78.toNatClampNeg then none else (if ((x2 + 54) + x3_78) < 0 ∨ 148 ≤ ((x2 + 54) + x3_78).toNatClampNeg then none else (nm (va_up V4 25 (upd (V4 25) ((x2 + 54) + x3_78).toNatClampNeg ((V4 13) x3_78.toNatClampNeg))) (fun V5 => (M_layPage_kept_L78 f x2 k_78 n_78 (x3_78 + 1) V5)))))))) (fun j112 => if x3_78 < 0 ∨ 12 ≤ x3_78.toNatClampNeg then none else (if ((x2 + 18) + x3_78) < 0 ∨ 148 ≤ ((x2 + 18) + x3_78).toNatClampNeg then none else (nm (va_up Vm_78 25 (upd (Vm_78 25) ((x2 + 18) + x3_78).toNatClampNeg ((Vm_78 10) x3_78.toNatClampNeg))) (fun V6 => if x3_78 < 0 ∨ 12 ≤ x3_78.toNatClampNeg then none else (if ((x2 + 30) + x3_78) < 0 ∨ 148 ≤ ((x2 + 30) + x3_78).toNatClampNeg then none else (nm (va_up V6 25 (upd (V6 25) ((x2 + 30) + x3_78).toNatClampNeg ((V6 11) x3_78.toNatClampNeg))) (fun V7 => (j112 V7))))))))))
def M_layPage_kept (f : Nat) (x2 : Int32) (I : FI) (V : FV) : Option (FI × FV) := (M_layPage_kept_L2 f x2 (fun (Vm_2 : FV) => (M_layPage_kept_L78 f x2 (fun (Vm_78 : FV) => if (x2 + 66) < 0 ∨ 148 ≤ (x2 + 66).toNatClampNeg then none else (nm (va_up Vm_78 25 (upd (Vm_78 25) (x2 + 66).toNatClampNeg (I 9))) (fun V8 => if (x2 + 67) < 0 ∨ 148 ≤ (x2 + 67).toNatClampNeg then none else (nm (va_up V8 25 (upd (V8 25) (x2 + 67).toNatClampNeg (I 14))) (fun V9 => some (I, V9)))))) f 0 Vm_2)) f 0 V)
abbrev rm_M_layPage_kept : Room := { frames := 0, cells := 0, slots := 0, locals := 0 }
set_option maxHeartbeats 4000000 in
set_option maxRecDepth 100000 in
theorem v_M_layPage_kept {l : Launch} {p : Program} {e : Env} {s : State} {m : MethodId} {args : Array Value} {below : List Frame} {meth : Method} {c : Code} {Q : State → Prop} {D : va_G} {cs : Nat → ClassId} {o : Nat} {h : Nat → Nat} {A : Nat → Prop} {I : FI} {V : FV} {x2 : Int32} {f : Nat} {out : FI × FV} (hf : M_layPage_kept f x2 I V = some out) (hx : p.tables.exec = Jvm.exec) (hb : c.code = cX10_layPage) (hml : c.maxLocals = 4) (hown : s.vm.findClass RX10 = some m.cls) (hts : ∀ w ∈ wsX10_layPage, w.before args s = true) (in_X10 : ∀ w ∈ u_ws RX10 TX10 38, w ∈ wsX10_layPage) (g_13 : (Cond.fieldLink RX10 13 "DaysLentModel" "mornings" "[I").before args s = true) (g_16 : (Cond.fieldLink RX10 16 "DaysLentModel" "asks" "[I").before args s = true) (g_19 : (Cond.fieldLink RX10 19 "DaysLentModel" "dead" "[Z").before args s = true) (g_23 : (Cond.fieldLink RX10 23 "DaysLentModel" "broken" "[Z").before args s = true) (g_26 : (Cond.fieldLink RX10 26 "DaysLentModel" "owed" "[I").before args s = true) (g_29 : (Cond.fieldLink RX10 29 "DaysLentModel" "owes" "[I").before args s = true) (g_32 : (Cond.fieldLink RX10 32 "DaysLentModel" "much" "[I").before args s = true) (g_35 : (Cond.fieldLink RX10 35 "DaysLentModel" "due" "[I").before args s = true) (g_135 : (Cond.fieldLink RX10 135 "DaysLentModel" "debts" "I").before args s = true) (g_138 : (Cond.fieldLink RX10 138 "DaysLentModel" "week" "I").before args s = true) (hA : ∀ q : Nat, s.heap.size ≤ q → A q) (hP : va_P D vwCl (w_M cs o h I V) s.heap) (hD : va_D A (w_M cs o h I V)) (hK : va_K D vwCl (tyA cs) s) (hret : ∀ (Im9 : FI) (Vm9 : FV) (H : Heap) (locs : List Loc) (pc : Nat) (ls : Array Slot), some (Im9, Vm9) = some out → va_P D vwCl (w_M cs o h Im9 Vm9) H → va_D A (w_M cs o h Im9 Vm9) → va_S A s.heap H locs → decode cX10_layPage pc = .ok (.return_, 1) → W p l e rm_M_layPage_kept s m args below meth c H locs 0 0 Q (F0 m pc ls [])) : ∀ ls : Array Slot, lv_has ls 4 [(0, .ref o), (1, .ref (h 25)), (2, .int x2)] → W p l e rm_M_layPage_kept s m args below meth c s.heap [] 0 0 Q (F0 m 0 ls []) := by
  intro ls hl
  have hS : va_S A s.heap s.heap [] := va_S.rf
  unfold M_layPage_kept at hf
  refine lv_iconst (v := 0) hx hb dX10_layPage_0 (by decide) ?_
  refine lv_istore_n (lv' := [(3, .int 0), (0, .ref o), (1, .ref (h 25)), (2, .int x2)]) hx hb dX10_layPage_1 rfl hl (by decide) rfl (fun ls hl => ?_)
  have L2 : ∀ (k_2 : FV → Option (FI × FV)) (hk_2 : ∀ (Vm_2 : FV), k_2 Vm_2 = some out → ∀ (H : Heap) (locs : List Loc), va_P D vwCl (w_M cs o h I Vm_2) H → va_D A (w_M cs o h I Vm_2) → va_S A s.heap H locs → ∀ ls : Array Slot, lv_has ls 4 [(0, .ref o), (1, .ref (h 25)), (2, .int x2)] → W p l e rm_M_layPage_kept s m args below meth c H locs 0 0 Q (F0 m 76 ls [])), ∀ (n_2 : Nat) (x3_2 : Int32) (Vm_2 : FV), M_layPage_kept_L2 f x2 k_2 n_2 x3_2 Vm_2 = some out → ∀ (H : Heap) (locs : List Loc), va_P D vwCl (w_M cs o h I Vm_2) H → va_D A (w_M cs o h I Vm_2) → va_S A s.heap H locs → ∀ ls : Array Slot, lv_has ls 4 [(0, .ref o), (1, .ref (h 25)), (2, .int x2), (3, .int x3_2)] → W p l e rm_M_layPage_kept s m args below meth c H locs 0 0 Q (F0 m 2 ls []) := by
    intro k_2 hk_2 n_2
    induction n_2 with
    | zero => intro x3_2 Vm_2 hf; rw [M_layPage_kept_L2] at hf; cases hf
    | succ n_2 ih_2 =>
      intro x3_2 Vm_2 hf H locs hP hD hS ls hl
      rw [M_layPage_kept_L2] at hf
      refine lv_iload_n hx hb dX10_layPage_2 rfl (lv_at hl 3 rfl) ?_
      refine lv_bipush (v := 6) hx hb dX10_layPage_3 (by decide) ?_
      refine lv_icmp_ge (tgt := 76) hx hb dX10_layPage_5 (by decide) (fun c5 => ?_) (fun c5 => ?_)
      · replace hf := ip c5 hf
        exact hk_2 Vm_2 hf _ _ hP hD hS _ (lv_sub hl [0, 1, 2] rfl)
      · replace hf := im c5 hf
        refine lv_aload_n hx hb dX10_layPage_8 rfl (lv_at hl 1 rfl) ?_
        refine lv_iload_n hx hb dX10_layPage_9 rfl (lv_at hl 2 rfl) ?_
        refine lv_iload_n hx hb dX10_layPage_10 rfl (lv_at hl 3 rfl) ?_
        refine lv_iadd hx hb dX10_layPage_11 ?_
        refine lv_aload_n hx hb dX10_layPage_12 rfl (lv_at hl 0 rfl) ?_
        refine va_get (D := D) (ci := 10) (v := .ref (h 5)) (C := RX10) (T := TX10) (N := 38) hx hb hts in_X10 hown hK hP 0 rfl rfl 5 (by decide) g_13 (fun _ h9 => h9) rfl dX10_layPage_13 ?_
        refine lv_iload_n hx hb dX10_layPage_16 rfl (lv_at hl 3 rfl) ?_
        obtain ⟨c17, hf⟩ := gd hf
        refine va_iald (f := (Vm_2 5)) hx hb hK hP 2 0 rfl rfl c17 dX10_layPage_17 ?_
        obtain ⟨c18, hf⟩ := gd hf
        refine va_iast (f := (Vm_2 25)) hx hb hK hP hD hS 17 0 rfl rfl c18 dX10_layPage_18 (fun H locs hP hD hS => ?_)
        obtain ⟨V1, eV1, hf⟩ := nme hf
        have hP : va_P D vwCl (w_M cs o h I V1) H := by rw [eV1]; exact hP
        have hD : va_D A (w_M cs o h I V1) := by rw [eV1]; exact hD
        refine lv_aload_n hx hb dX10_layPage_19 rfl (lv_at hl 1 rfl) ?_
        refine lv_iload_n hx hb dX10_layPage_20 rfl (lv_at hl 2 rfl) ?_
        refine lv_bipush (v := 6) hx hb dX10_layPage_21 (by decide) ?_
        refine lv_iadd hx hb dX10_layPage_23 ?_
        refine lv_iload_n hx hb dX10_layPage_24 rfl (lv_at hl 3 rfl) ?_
        refine lv_iadd hx hb dX10_layPage_25 ?_
        refine lv_aload_n hx hb dX10_layPage_26 rfl (lv_at hl 0 rfl) ?_
        refine va_get (D := D) (ci := 10) (v := .ref (h 6)) (C := RX10) (T := TX10) (N := 38) hx hb hts in_X10 hown hK hP 0 rfl rfl 6 (by decide) g_16 (fun _ h9 => h9) rfl dX10_layPage_27 ?_
        refine lv_iload_n hx hb dX10_layPage_30 rfl (lv_at hl 3 rfl) ?_
        obtain ⟨c31, hf⟩ := gd hf
        refine va_iald (f := (V1 6)) hx hb hK hP 3 0 rfl rfl c31 dX10_layPage_31 ?_
        obtain ⟨c32, hf⟩ := gd hf
        refine va_iast (f := (V1 25)) hx hb hK hP hD hS 17 0 rfl rfl c32 dX10_layPage_32 (fun H locs hP hD hS => ?_)
        obtain ⟨V2, eV2, hf⟩ := nme hf
        have hP : va_P D vwCl (w_M cs o h I V2) H := by rw [eV2]; exact hP
        have hD : va_D A (w_M cs o h I V2) := by rw [eV2]; exact hD
        refine lv_aload_n hx hb dX10_layPage_33 rfl (lv_at hl 1 rfl) ?_
        refine lv_iload_n hx hb dX10_layPage_34 rfl (lv_at hl 2 rfl) ?_
        refine lv_bipush (v := 12) hx hb dX10_layPage_35 (by decide) ?_
        refine lv_iadd hx hb dX10_layPage_37 ?_
        refine lv_iload_n hx hb dX10_layPage_38 rfl (lv_at hl 3 rfl) ?_
        refine lv_iadd hx hb dX10_layPage_39 ?_
        refine lv_aload_n hx hb dX10_layPage_40 rfl (lv_at hl 0 rfl) ?_
        refine va_get (D := D) (ci := 10) (v := .ref (h 7)) (C := RX10) (T := TX10) (N := 38) hx hb hts in_X10 hown hK hP 0 rfl rfl 7 (by decide) g_19 (fun _ h9 => h9) rfl dX10_layPage_41 ?_
        refine lv_iload_n hx hb dX10_layPage_44 rfl (lv_at hl 3 rfl) ?_
        obtain ⟨c45, hf⟩ := gd hf
        refine va_zald (f := (V2 7)) hx hb hK hP 4 1 rfl rfl c45 dX10_layPage_45 ?_
        obtain ⟨j54, ej54, hf⟩ := nme hf
        have J54 : ∀ (t2_54 : Int32), j54 t2_54 = some out → ∀ (H : Heap) (locs : List Loc), va_P D vwCl (w_M cs o h I V2) H → va_D A (w_M cs o h I V2) → va_S A s.heap H locs → ∀ ls : Array Slot, lv_has ls 4 [(0, .ref o), (1, .ref (h 25)), (2, .int x2), (3, .int x3_2)] → W p l e rm_M_layPage_kept s m args below meth c H locs 0 0 Q (F0 m 54 ls [.int t2_54, .int ((x2 + 12) + x3_2), .ref (h 25)]) := by
          intro t2_54 hf H locs hP hD hS ls hl
          rw [ej54] at hf
          refine lv_aload_n hx hb dX10_layPage_54 rfl (lv_at hl 0 rfl) ?_
          refine va_get (D := D) (ci := 10) (v := .ref (h 8)) (C := RX10) (T := TX10) (N := 38) hx hb hts in_X10 hown hK hP 0 rfl rfl 8 (by decide) g_23 (fun _ h9 => h9) rfl dX10_layPage_55 ?_
          refine lv_iload_n hx hb dX10_layPage_58 rfl (lv_at hl 3 rfl) ?_
          obtain ⟨c59, hf⟩ := gd hf
          refine va_zald (f := (V2 8)) hx hb hK hP 5 1 rfl rfl c59 dX10_layPage_59 ?_
          obtain ⟨j68, ej68, hf⟩ := nme hf
          have J68 : ∀ (t3_68 : Int32), j68 t3_68 = some out → ∀ (H : Heap) (locs : List Loc), va_P D vwCl (w_M cs o h I V2) H → va_D A (w_M cs o h I V2) → va_S A s.heap H locs → ∀ ls : Array Slot, lv_has ls 4 [(0, .ref o), (1, .ref (h 25)), (2, .int x2), (3, .int x3_2)] → W p l e rm_M_layPage_kept s m args below meth c H locs 0 0 Q (F0 m 68 ls [.int t3_68, .int t2_54, .int ((x2 + 12) + x3_2), .ref (h 25)]) := by
            intro t3_68 hf H locs hP hD hS ls hl
            rw [ej68] at hf
            refine lv_iadd hx hb dX10_layPage_68 ?_
            obtain ⟨c69, hf⟩ := gd hf
            refine va_iast (f := (V2 25)) hx hb hK hP hD hS 17 0 rfl rfl c69 dX10_layPage_69 (fun H locs hP hD hS => ?_)
            obtain ⟨V3, eV3, hf⟩ := nme hf
            have hP : va_P D vwCl (w_M cs o h I V3) H := by rw [eV3]; exact hP
            have hD : va_D A (w_M cs o h I V3) := by rw [eV3]; exact hD
            refine lv_iinc (v := (x3_2 + 1)) (lv' := [(3, .int (x3_2 + 1)), (0, .ref o), (1, .ref (h 25)), (2, .int x2)]) hx hb dX10_layPage_70 hl (k := 3) rfl (by rfl) (by decide) rfl (fun ls hl => ?_)
            refine lv_goto (tgt := 2) hx hb dX10_layPage_73 (by decide) ?_
            exact ih_2 (x3_2 + 1) V3 hf _ _ hP hD hS _ (lv_sub hl [1, 2, 3, 0] rfl)
          refine lv_if_eq (tgt := 67) hx hb dX10_layPage_60 (by decide) (fun c60 => ?_) (fun c60 => ?_)
          · replace hf := ip c60 hf
            refine lv_iconst (v := 0) hx hb dX10_layPage_67 (by decide) ?_
            exact J68 0 hf _ _ hP hD hS _ (lv_sub hl [0, 1, 2, 3] rfl)
          · replace hf := im c60 hf
            refine lv_iconst (v := 2) hx hb dX10_layPage_63 (by decide) ?_
            refine lv_goto (tgt := 68) hx hb dX10_layPage_64 (by decide) ?_
            exact J68 2 hf _ _ hP hD hS _ (lv_sub hl [0, 1, 2, 3] rfl)
        refine lv_if_eq (tgt := 53) hx hb dX10_layPage_46 (by decide) (fun c46 => ?_) (fun c46 => ?_)
        · replace hf := ip c46 hf
          refine lv_iconst (v := 0) hx hb dX10_layPage_53 (by decide) ?_
          exact J54 0 hf _ _ hP hD hS _ (lv_sub hl [0, 1, 2, 3] rfl)
        · replace hf := im c46 hf
          refine lv_iconst (v := 1) hx hb dX10_layPage_49 (by decide) ?_
          refine lv_goto (tgt := 54) hx hb dX10_layPage_50 (by decide) ?_
          exact J54 1 hf _ _ hP hD hS _ (lv_sub hl [0, 1, 2, 3] rfl)
  refine L2 _ (fun Vm_2 hf H locs hP hD hS ls hl => ?_) f 0 V hf _ _ hP hD hS _ (lv_sub hl [1, 2, 3, 0] rfl)
  refine lv_iconst (v := 0) hx hb dX10_layPage_76 (by decide) ?_
  refine lv_istore_n (lv' := [(3, .int 0), (0, .ref o), (1, .ref (h 25)), (2, .int x2)]) hx hb dX10_layPage_77 rfl hl (by decide) rfl (fun ls hl => ?_)
  have L78 : ∀ (k_78 : FV → Option (FI × FV)) (hk_78 : ∀ (Vm_78 : FV), k_78 Vm_78 = some out → ∀ (H : Heap) (locs : List Loc), va_P D vwCl (w_M cs o h I Vm_78) H → va_D A (w_M cs o h I Vm_78) → va_S A s.heap H locs → ∀ ls : Array Slot, lv_has ls 4 [(0, .ref o), (1, .ref (h 25)), (2, .int x2)] → W p l e rm_M_layPage_kept s m args below meth c H locs 0 0 Q (F0 m 146 ls [])), ∀ (n_78 : Nat) (x3_78 : Int32) (Vm_78 : FV), M_layPage_kept_L78 f x2 k_78 n_78 x3_78 Vm_78 = some out → ∀ (H : Heap) (locs : List Loc), va_P D vwCl (w_M cs o h I Vm_78) H → va_D A (w_M cs o h I Vm_78) → va_S A s.heap H locs → ∀ ls : Array Slot, lv_has ls 4 [(0, .ref o), (1, .ref (h 25)), (2, .int x2), (3, .int x3_78)] → W p l e rm_M_layPage_kept s m args below meth c H locs 0 0 Q (F0 m 78 ls []) := by
    intro k_78 hk_78 n_78
    induction n_78 with
    | zero => intro x3_78 Vm_78 hf; rw [M_layPage_kept_L78] at hf; cases hf
    | succ n_78 ih_78 =>
      intro x3_78 Vm_78 hf H locs hP hD hS ls hl
      rw [M_layPage_kept_L78] at hf
      refine lv_iload_n hx hb dX10_layPage_78 rfl (lv_at hl 3 rfl) ?_
      refine lv_bipush (v := 12) hx hb dX10_layPage_79 (by decide) ?_
      refine lv_icmp_ge (tgt := 146) hx hb dX10_layPage_81 (by decide) (fun c81 => ?_) (fun c81 => ?_)
      · replace hf := ip c81 hf
        exact hk_78 Vm_78 hf _ _ hP hD hS _ (lv_sub hl [0, 1, 2] rfl)
      · replace hf := im c81 hf
        obtain ⟨j112, ej112, hf⟩ := nme hf
        have J112 : ∀ (Vm_112 : FV), j112 Vm_112 = some out → ∀ (H : Heap) (locs : List Loc), va_P D vwCl (w_M cs o h I Vm_112) H → va_D A (w_M cs o h I Vm_112) → va_S A s.heap H locs → ∀ ls : Array Slot, lv_has ls 4 [(0, .ref o), (1, .ref (h 25)), (2, .int x2), (3, .int x3_78)] → W p l e rm_M_layPage_kept s m args below meth c H locs 0 0 Q (F0 m 112 ls []) := by
          intro Vm_112 hf H locs hP hD hS ls hl
          rw [ej112] at hf
          refine lv_aload_n hx hb dX10_layPage_112 rfl (lv_at hl 1 rfl) ?_
          refine lv_iload_n hx hb dX10_layPage_113 rfl (lv_at hl 2 rfl) ?_
          refine lv_bipush (v := 42) hx hb dX10_layPage_114 (by decide) ?_
          refine lv_iadd hx hb dX10_layPage_116 ?_
          refine lv_iload_n hx hb dX10_layPage_117 rfl (lv_at hl 3 rfl) ?_
          refine lv_iadd hx hb dX10_layPage_118 ?_
          refine lv_aload_n hx hb dX10_layPage_119 rfl (lv_at hl 0 rfl) ?_
          refine va_get (D := D) (ci := 10) (v := .ref (h 12)) (C := RX10) (T := TX10) (N := 38) hx hb hts in_X10 hown hK hP 0 rfl rfl 12 (by decide) g_32 (fun _ h9 => h9) rfl dX10_layPage_120 ?_
          refine lv_iload_n hx hb dX10_layPage_123 rfl (lv_at hl 3 rfl) ?_
          obtain ⟨c124, hf⟩ := gd hf
          refine va_iald (f := (Vm_112 12)) hx hb hK hP 8 0 rfl rfl c124 dX10_layPage_124 ?_
          obtain ⟨c125, hf⟩ := gd hf
          refine va_iast (f := (Vm_112 25)) hx hb hK hP hD hS 17 0 rfl rfl c125 dX10_layPage_125 (fun H locs hP hD hS => ?_)
          obtain ⟨V4, eV4, hf⟩ := nme hf
          have hP : va_P D vwCl (w_M cs o h I V4) H := by rw [eV4]; exact hP
          have hD : va_D A (w_M cs o h I V4) := by rw [eV4]; exact hD
          refine lv_aload_n hx hb dX10_layPage_126 rfl (lv_at hl 1 rfl) ?_
          refine lv_iload_n hx hb dX10_layPage_127 rfl (lv_at hl 2 rfl) ?_
          refine lv_bipush (v := 54) hx hb dX10_layPage_128 (by decide) ?_
          refine lv_iadd hx hb dX10_layPage_130 ?_
          refine lv_iload_n hx hb dX10_layPage_131 rfl (lv_at hl 3 rfl) ?_
          refine lv_iadd hx hb dX10_layPage_132 ?_
          refine lv_aload_n hx hb dX10_layPage_133 rfl (lv_at hl 0 rfl) ?_
          refine va_get (D := D) (ci := 10) (v := .ref (h 13)) (C := RX10) (T := TX10) (N := 38) hx hb hts in_X10 hown hK hP 0 rfl rfl 13 (by decide) g_35 (fun _ h9 => h9) rfl dX10_layPage_134 ?_
          refine lv_iload_n hx hb dX10_layPage_137 rfl (lv_at hl 3 rfl) ?_
          obtain ⟨c138, hf⟩ := gd hf
          refine va_iald (f := (V4 13)) hx hb hK hP 9 0 rfl rfl c138 dX10_layPage_138 ?_
          obtain ⟨c139, hf⟩ := gd hf
          refine va_iast (f := (V4 25)) hx hb hK hP hD hS 17 0 rfl rfl c139 dX10_layPage_139 (fun H locs hP hD hS => ?_)
          obtain ⟨V5, eV5, hf⟩ := nme hf
          have hP : va_P D vwCl (w_M cs o h I V5) H := by rw [eV5]; exact hP
          have hD : va_D A (w_M cs o h I V5) := by rw [eV5]; exact hD
          refine lv_iinc (v := (x3_78 + 1)) (lv' := [(3, .int (x3_78 + 1)), (0, .ref o), (1, .ref (h 25)), (2, .int x2)]) hx hb dX10_layPage_140 hl (k := 3) rfl (by rfl) (by decide) rfl (fun ls hl => ?_)
          refine lv_goto (tgt := 78) hx hb dX10_layPage_143 (by decide) ?_
          exact ih_78 (x3_78 + 1) V5 hf _ _ hP hD hS _ (lv_sub hl [1, 2, 3, 0] rfl)
        refine lv_aload_n hx hb dX10_layPage_84 rfl (lv_at hl 1 rfl) ?_
        refine lv_iload_n hx hb dX10_layPage_85 rfl (lv_at hl 2 rfl) ?_
        refine lv_bipush (v := 18) hx hb dX10_layPage_86 (by decide) ?_
        refine lv_iadd hx hb dX10_layPage_88 ?_
        refine lv_iload_n hx hb dX10_layPage_89 rfl (lv_at hl 3 rfl) ?_
        refine lv_iadd hx hb dX10_layPage_90 ?_
        refine lv_aload_n hx hb dX10_layPage_91 rfl (lv_at hl 0 rfl) ?_
        refine va_get (D := D) (ci := 10) (v := .ref (h 10)) (C := RX10) (T := TX10) (N := 38) hx hb hts in_X10 hown hK hP 0 rfl rfl 10 (by decide) g_26 (fun _ h9 => h9) rfl dX10_layPage_92 ?_
        refine lv_iload_n hx hb dX10_layPage_95 rfl (lv_at hl 3 rfl) ?_
        obtain ⟨c96, hf⟩ := gd hf
        refine va_iald (f := (Vm_78 10)) hx hb hK hP 6 0 rfl rfl c96 dX10_layPage_96 ?_
        obtain ⟨c97, hf⟩ := gd hf
        refine va_iast (f := (Vm_78 25)) hx hb hK hP hD hS 17 0 rfl rfl c97 dX10_layPage_97 (fun H locs hP hD hS => ?_)
        obtain ⟨V6, eV6, hf⟩ := nme hf
        have hP : va_P D vwCl (w_M cs o h I V6) H := by rw [eV6]; exact hP
        have hD : va_D A (w_M cs o h I V6) := by rw [eV6]; exact hD
        refine lv_aload_n hx hb dX10_layPage_98 rfl (lv_at hl 1 rfl) ?_
        refine lv_iload_n hx hb dX10_layPage_99 rfl (lv_at hl 2 rfl) ?_
        refine lv_bipush (v := 30) hx hb dX10_layPage_100 (by decide) ?_
        refine lv_iadd hx hb dX10_layPage_102 ?_
        refine lv_iload_n hx hb dX10_layPage_103 rfl (lv_at hl 3 rfl) ?_
        refine lv_iadd hx hb dX10_layPage_104 ?_
        refine lv_aload_n hx hb dX10_layPage_105 rfl (lv_at hl 0 rfl) ?_
        refine va_get (D := D) (ci := 10) (v := .ref (h 11)) (C := RX10) (T := TX10) (N := 38) hx hb hts in_X10 hown hK hP 0 rfl rfl 11 (by decide) g_29 (fun _ h9 => h9) rfl dX10_layPage_106 ?_
        refine lv_iload_n hx hb dX10_layPage_109 rfl (lv_at hl 3 rfl) ?_
        obtain ⟨c110, hf⟩ := gd hf
        refine va_iald (f := (V6 11)) hx hb hK hP 7 0 rfl rfl c110 dX10_layPage_110 ?_
        obtain ⟨c111, hf⟩ := gd hf
        refine va_iast (f := (V6 25)) hx hb hK hP hD hS 17 0 rfl rfl c111 dX10_layPage_111 (fun H locs hP hD hS => ?_)
        obtain ⟨V7, eV7, hf⟩ := nme hf
        have hP : va_P D vwCl (w_M cs o h I V7) H := by rw [eV7]; exact hP
        have hD : va_D A (w_M cs o h I V7) := by rw [eV7]; exact hD
        exact J112 V7 hf _ _ hP hD hS _ (lv_sub hl [0, 1, 2, 3] rfl)
  refine L78 _ (fun Vm_78 hf H locs hP hD hS ls hl => ?_) f 0 Vm_2 hf _ _ hP hD hS _ (lv_sub hl [1, 2, 3, 0] rfl)
  refine lv_aload_n hx hb dX10_layPage_146 rfl (lv_at hl 1 rfl) ?_
  refine lv_iload_n hx hb dX10_layPage_147 rfl (lv_at hl 2 rfl) ?_
  refine lv_bipush (v := 66) hx hb dX10_layPage_148 (by decide) ?_
  refine lv_iadd hx hb dX10_layPage_150 ?_
  refine lv_aload_n hx hb dX10_layPage_151 rfl (lv_at hl 0 rfl) ?_
  refine va_get (D := D) (ci := 10) (v := .int (I 9)) (C := RX10) (T := TX10) (N := 38) hx hb hts in_X10 hown hK hP 0 rfl rfl 9 (by decide) g_135 (fun _ h9 => h9) rfl dX10_layPage_152 ?_
  obtain ⟨c155, hf⟩ := gd hf
  refine va_iast (f := (Vm_78 25)) hx hb hK hP hD hS 17 0 rfl rfl c155 dX10_layPage_155 (fun H locs hP hD hS => ?_)
  obtain ⟨V8, eV8, hf⟩ := nme hf
  have hP : va_P D vwCl (w_M cs o h I V8) H := by rw [eV8]; exact hP
  have hD : va_D A (w_M cs o h I V8) := by rw [eV8]; exact hD
  refine lv_aload_n hx hb dX10_layPage_156 rfl (lv_at hl 1 rfl) ?_
  refine lv_iload_n hx hb dX10_layPage_157 rfl (lv_at hl 2 rfl) ?_
  refine lv_bipush (v := 67) hx hb dX10_layPage_158 (by decide) ?_
  refine lv_iadd hx hb dX10_layPage_160 ?_
  refine lv_aload_n hx hb dX10_layPage_161 rfl (lv_at hl 0 rfl) ?_
  refine va_get (D := D) (ci := 10) (v := .int (I 14)) (C := RX10) (T := TX10) (N := 38) hx hb hts in_X10 hown hK hP 0 rfl rfl 14 (by decide) g_138 (fun _ h9 => h9) rfl dX10_layPage_162 ?_
  obtain ⟨c165, hf⟩ := gd hf
  refine va_iast (f := (V8 25)) hx hb hK hP hD hS 17 0 rfl rfl c165 dX10_layPage_165 (fun H locs hP hD hS => ?_)
  obtain ⟨V9, eV9, hf⟩ := nme hf
  have hP : va_P D vwCl (w_M cs o h I V9) H := by rw [eV9]; exact hP
  have hD : va_D A (w_M cs o h I V9) := by rw [eV9]; exact hD
  exact hret I V9 _ _ 166 _ hf hP hD hS dX10_layPage_166
set_option maxHeartbeats 4000000 in
set_option maxRecDepth 100000 in
theorem c_M_layPage_kept (l : Launch) (D : va_G) (cs : Nat → ClassId) (o : Nat) (h : Nat → Nat) (sz : Nat) (I : FI) (V : FV) (x2 : Int32) (f : Nat) (out : FI × FV) (hf : M_layPage_kept f x2 I V = some out) : Met l yX10_layPage wsX10_layPage rm_M_layPage_kept (va_Pc [.ref o, .ref (h 25), .int x2] (xP D cs (w_M cs o h I V) sz)) (va_Qv (fun u => u = out) (fun (u : FI × FV) t => xA D cs (va_A (w_M cs o h I V) sz) (w_M cs o h u.1 u.2) t) (va_A (w_M cs o h I V) sz)) 0 0 (va_A (w_M cs o h I V) sz) := by
  refine Met.ofW (cc := cX10_layPage) (maxL := 4) (ret := none) (by decide) rfl ?_
  intro p e s m args below meth c s₁ B hml hv
  obtain ⟨ha, hsz, hP, hK, hD0⟩ := hv
  have hx := B.exec
  have hb := B.bytes
  have hr := B.returns
  have hts := atoms_spec (ws := wsX10_layPage) B.pre
  have hown : s.vm.findClass RX10 = some m.cls := findClass_of_methodNamed B.named
  have hlocks := B.notSynchronized
  have in_X10 : ∀ w ∈ u_ws RX10 TX10 38, w ∈ wsX10_layPage := fun w h => List.mem_cons_of_mem _ (List.mem_append_right _ h)
  have g_13 := hts (Cond.fieldLink RX10 13 "DaysLentModel" "mornings" "[I") (by decide +kernel)
  have g_16 := hts (Cond.fieldLink RX10 16 "DaysLentModel" "asks" "[I") (by decide +kernel)
  have g_19 := hts (Cond.fieldLink RX10 19 "DaysLentModel" "dead" "[Z") (by decide +kernel)
  have g_23 := hts (Cond.fieldLink RX10 23 "DaysLentModel" "broken" "[Z") (by decide +kernel)
  have g_26 := hts (Cond.fieldLink RX10 26 "DaysLentModel" "owed" "[I") (by decide +kernel)
  have g_29 := hts (Cond.fieldLink RX10 29 "DaysLentModel" "owes" "[I") (by decide +kernel)
  have g_32 := hts (Cond.fieldLink RX10 32 "DaysLentModel" "much" "[I") (by decide +kernel)
  have g_35 := hts (Cond.fieldLink RX10 35 "DaysLentModel" "due" "[I") (by decide +kernel)
  have g_135 := hts (Cond.fieldLink RX10 135 "DaysLentModel" "debts" "I") (by decide +kernel)
  have g_138 := hts (Cond.fieldLink RX10 138 "DaysLentModel" "week" "I") (by decide +kernel)
  subst hsz
  have hD := hD0.self (sz := s.heap.size)
  generalize hAe : va_A (w_M cs o h I V) s.heap.size = A at hD ⊢
  have hA : ∀ q : Nat, s.heap.size ≤ q → A q := fun q h => by rw [← hAe]; exact Or.inr h
  have hl := lv_entry ([.ref o, .ref (h 25), .int x2]) (n := 4) (Nat.le_of_ble_eq_true rfl)
  rw [show entryFrame m args 4 = entryFrame m ([.ref o, .ref (h 25), .int x2] : List Value).toArray 4 from by rw [ha], lg_entry_eq]
  generalize (lg_sl ([.ref o, .ref (h 25), .int x2]) ++ List.replicate (4 - (lg_sl ([.ref o, .ref (h 25), .int x2])).length) Slot.unset).toArray = ls at hl ⊢
  generalize hQ : MQ below (va_Qv (fun u => u = out) (fun (u : FI × FV) t => xA D cs A (w_M cs o h u.1 u.2) t) A) args s 0 0 A = Q
  have hret : ∀ (Im9 : FI) (Vm9 : FV) (H : Heap) (locs : List Loc) (pc : Nat) (ls : Array Slot), some (Im9, Vm9) = some out → va_P D vwCl (w_M cs o h Im9 Vm9) H → va_D A (w_M cs o h Im9 Vm9) → va_S A s.heap H locs → decode cX10_layPage pc = .ok (.return_, 1) → W p l e rm_M_layPage_kept s m args below meth c H locs 0 0 Q (F0 m pc ls []) := by
    intro Im9 Vm9 H locs pc ls hf hP hD hS hd
    rw [← hQ]
    exact W.vret hx hb hr (fun t ht hW => ⟨⟨(Im9, Vm9), rfl, Option.some.inj hf, by show va_P D vwCl (w_M cs o h Im9 Vm9) t.heap; rw [ht]; exact hP, va_K.moved hW.alike hK, hD⟩, hS.F ht⟩) hS.2.2 hd
  exact v_M_layPage_kept hf hx hb hml hown hts in_X10 g_13 g_16 g_19 g_23 g_26 g_29 g_32 g_35 g_135 g_138 hA hP hD hK hret ls hl
def M_takePage_book_L2 {ρ : Type} (f : Nat) (x2 : Int32) (k_2 : FV → Option ρ) : Nat → Int32 → FV → Option ρ
  | 0, _, _ => none
  | n_2 + 1, x3_2, Vm_2 => (if 6 ≤ x3_2 then (k_2 Vm_2) else (nm (fun (Vm_33 : FV) => if ((x2 + 12) + x3_2) < 0 ∨ 740 ≤ ((x2 + 12) + x3_2).toNatClampNeg then none else (ob1 (M_has f ((Vm_33 23) ((x2 + 12) + x3_2).toNatClampNeg) 0) (fun zr1 => if x3_2 < 0 ∨ 6 ≤ x3_2.toNatClampNeg then none else (nm (va_up Vm_33 7 (upd (Vm_33 7) x3_2.toNatClampNeg (vp_nar .boolean zr1))) (fun V2 => if ((x2 + 12) + x3_2) < 0 ∨ 740 ≤ ((x2 + 12) + x3_2).toNatClampNeg then none else (ob1 (M_has f ((V2 23) ((x2 + 12) + x3_2).toNatClampNeg) 1) (fun zr3 => if x3_2 < 0 ∨ 6 ≤ x3_2.toNatClampNeg then none else (nm (va_up V2 8 (upd (V2 8) x3_2.toNatClampNeg (vp_nar .boolean zr3))) (fun V4 => (M_takePage_book_L2 f x2 k_2 n_2 (x3_2 + 1) V4)))))))))) (fun j33 => if (x2 + x3_2) < 0 ∨ 740 ≤ (x2 + x3_2).toNatClampNeg then none else (if x3_2 < 0 ∨ 6 ≤ x3_2.toNatClampNeg then none else (nm (va_up Vm_2 5 (upd (Vm_2 5) x3_2.toNatClampNeg ((Vm_2 23) (x2 + x3_2).toNatClampNeg))) (fun V5 => if ((x2 + 6) + x3_2) < 0 ∨ 740 ≤ ((x2 + 6) + x3_2).toNatClampNeg then none else (if x3_2 < 0 ∨ 6 ≤ x3_2.toNatClampNeg then none else (nm (va_up V5 6 (upd (V5 6) x3_2.toNatClampNeg ((V5 23) ((x2 + 6) + x3_2).toNatClampNeg))) (fun V6 => (j33 V6))))))))))
def M_takePage_book_L77 {ρ : Type} (f : Nat) (x2 : Int32) (k_77 : FV → Option ρ) : Nat → Int32 → FV → Option ρ
  | 0, _, _ => none
  | n_77 + 1, x3_77, Vm_77 => (if 12 ≤ x3_77 then (k_77 Vm_77) else (nm (fun (Vm_111 : FV) => if ((x2 + 42) + x3_77) < 0 ∨ 740 ≤ ((x2 + 42) + x3_77).toNatClampNeg then none else (if x3_77 < 0 ∨ 12 ≤ x3_77.toNatClampNeg then none else (nm (va_up Vm_111 12 (upd (Vm_111 12) x3_77.toNatClampNeg ((Vm_111 23) ((x2 + 42) + x3_77).toNatClampNeg))) (fun V7 => if ((x2 + 54) + x3_77) < 0 ∨ 740 ≤ ((x2 + 54) + x3_77).toNatClampNeg then none else (if x3_77 < 0 ∨ 12 ≤ x3_77.toNatClampNeg then none else (nm (va_up V7 13 (upd (V7 13) x3_77.toNatClampNeg ((V7 23) ((x2 + 54) + x3_77).toNatClampNeg))) (fun V8 => (M_takePage_book_L77 f x2 k_77 n_77 (x3_77 + 1) V8)))))))) (fun j111 => if ((x2 + 18) + x3_77) < 0 ∨ 740 ≤ ((x2 + 18) + x3_77).toNatClampNeg then none else (if x3_77 < 0 ∨ 12 ≤ x3_77.toNatClampNeg then none else (nm (va_up Vm_77 10 (upd (Vm_77 10) x3_77.toNatClampNeg ((Vm_77 23) ((x2 + 18) + x3_77).toNatClampNeg))) (fun V9 => if ((x2 + 30) + x3_77) < 0 ∨ 740 ≤ ((x2 + 30) + x3_77).toNatClampNeg then none else (if x3_77 < 0 ∨ 12 ≤ x3_77.toNatClampNeg then none else (nm (va_up V9 11 (upd (V9 11) x3_77.toNatClampNeg ((V9 23) ((x2 + 30) + x3_77).toNatClampNeg))) (fun V10 => (j111 V10))))))))))
def M_takePage_book (f : Nat) (x2 : Int32) (I : FI) (V : FV) : Option (FI × FV) := (M_takePage_book_L2 f x2 (fun (Vm_2 : FV) => (M_takePage_book_L77 f x2 (fun (Vm_77 : FV) => if (x2 + 66) < 0 ∨ 740 ≤ (x2 + 66).toNatClampNeg then none else (nm (va_up I 9 ((Vm_77 23) (x2 + 66).toNatClampNeg)) (fun I11 => if (x2 + 67) < 0 ∨ 740 ≤ (x2 + 67).toNatClampNeg then none else (nm (va_up I11 14 ((Vm_77 23) (x2 + 67).toNatClampNeg)) (fun I12 => some (I12, Vm_77)))))) f 0 Vm_2)) f 0 V)
abbrev rm_M_takePage_book : Room := { frames := 1, cells := 0, slots := 0, locals := 21 }
set_option maxHeartbeats 4000000 in
set_option maxRecDepth 100000 in
theorem v_M_takePage_book {l : Launch} {p : Program} {e : Env} {s : State} {m : MethodId} {args : Array Value} {below : List Frame} {meth : Method} {c : Code} {Q : State → Prop} {D : va_G} {cs : Nat → ClassId} {o : Nat} {h : Nat → Nat} {A : Nat → Prop} {I : FI} {V : FV} {x2 : Int32} {f : Nat} {out : FI × FV} (hf : M_takePage_book f x2 I V = some out) (hx : p.tables.exec = Jvm.exec) (hb : c.code = cX10_takePage) (hml : c.maxLocals = 4) (hown : s.vm.findClass RX10 = some m.cls) (hts : ∀ w ∈ wsX10_takePage, w.before args s = true) (in_X10 : ∀ w ∈ u_ws RX10 TX10 38, w ∈ wsX10_takePage) (g_13 : (Cond.fieldLink RX10 13 "DaysLentModel" "mornings" "[I").before args s = true) (g_16 : (Cond.fieldLink RX10 16 "DaysLentModel" "asks" "[I").before args s = true) (g_19 : (Cond.fieldLink RX10 19 "DaysLentModel" "dead" "[Z").before args s = true) (w_has_160 : CallB rm_M_takePage_book s args RX10 160 yX10_has cX10_has 2 (some .boolean) wsX10_has rm_M_has 0 0 2 ∧ (Cond.static yX10_has).before args s = true) (g_23 : (Cond.fieldLink RX10 23 "DaysLentModel" "broken" "[Z").before args s = true) (g_26 : (Cond.fieldLink RX10 26 "DaysLentModel" "owed" "[I").before args s = true) (g_29 : (Cond.fieldLink RX10 29 "DaysLentModel" "owes" "[I").before args s = true) (g_32 : (Cond.fieldLink RX10 32 "DaysLentModel" "much" "[I").before args s = true) (g_35 : (Cond.fieldLink RX10 35 "DaysLentModel" "due" "[I").before args s = true) (g_135 : (Cond.fieldLink RX10 135 "DaysLentModel" "debts" "I").before args s = true) (g_138 : (Cond.fieldLink RX10 138 "DaysLentModel" "week" "I").before args s = true) (hA : ∀ q : Nat, s.heap.size ≤ q → A q) (hP : va_P D vwCl (w_M cs o h I V) s.heap) (hD : va_D A (w_M cs o h I V)) (hK : va_K D vwCl (tyA cs) s) (hret : ∀ (Im9 : FI) (Vm9 : FV) (H : Heap) (locs : List Loc) (pc : Nat) (ls : Array Slot), some (Im9, Vm9) = some out → va_P D vwCl (w_M cs o h Im9 Vm9) H → va_D A (w_M cs o h Im9 Vm9) → va_S A s.heap H locs → decode cX10_takePage pc = .ok (.return_, 1) → W p l e rm_M_takePage_book s m args below meth c H locs 0 0 Q (F0 m pc ls [])) : ∀ ls : Array Slot, lv_has ls 4 [(0, .ref o), (1, .ref (h 23)), (2, .int x2)] → W p l e rm_M_takePage_book s m args below meth c s.heap [] 0 0 Q (F0 m 0 ls []) := by
  intro ls hl
  have hS : va_S A s.heap s.heap [] := va_S.rf
  unfold M_takePage_book at hf
  refine lv_iconst (v := 0) hx hb dX10_takePage_0 (by decide) ?_
  refine lv_istore_n (lv' := [(3, .int 0), (0, .ref o), (1, .ref (h 23)), (2, .int x2)]) hx hb dX10_takePage_1 rfl hl (by decide) rfl (fun ls hl => ?_)
  have L2 : ∀ (k_2 : FV → Option (FI × FV)) (hk_2 : ∀ (Vm_2 : FV), k_2 Vm_2 = some out → ∀ (H : Heap) (locs : List Loc), va_P D vwCl (w_M cs o h I Vm_2) H → va_D A (w_M cs o h I Vm_2) → va_S A s.heap H locs → ∀ ls : Array Slot, lv_has ls 4 [(0, .ref o), (1, .ref (h 23)), (2, .int x2)] → W p l e rm_M_takePage_book s m args below meth c H locs 0 0 Q (F0 m 75 ls [])), ∀ (n_2 : Nat) (x3_2 : Int32) (Vm_2 : FV), M_takePage_book_L2 f x2 k_2 n_2 x3_2 Vm_2 = some out → ∀ (H : Heap) (locs : List Loc), va_P D vwCl (w_M cs o h I Vm_2) H → va_D A (w_M cs o h I Vm_2) → va_S A s.heap H locs → ∀ ls : Array Slot, lv_has ls 4 [(0, .ref o), (1, .ref (h 23)), (2, .int x2), (3, .int x3_2)] → W p l e rm_M_takePage_book s m args below meth c H locs 0 0 Q (F0 m 2 ls []) := by
    intro k_2 hk_2 n_2
    induction n_2 with
    | zero => intro x3_2 Vm_2 hf; rw [M_takePage_book_L2] at hf; cases hf
    | succ n_2 ih_2 =>
      intro x3_2 Vm_2 hf H locs hP hD hS ls hl
      rw [M_takePage_book_L2] at hf
      refine lv_iload_n hx hb dX10_takePage_2 rfl (lv_at hl 3 rfl) ?_
      refine lv_bipush (v := 6) hx hb dX10_takePage_3 (by decide) ?_
      refine lv_icmp_ge (tgt := 75) hx hb dX10_takePage_5 (by decide) (fun c5 => ?_) (fun c5 => ?_)
      · replace hf := ip c5 hf
        exact hk_2 Vm_2 hf _ _ hP hD hS _ (lv_sub hl [0, 1, 2] rfl)
      · replace hf := im c5 hf
        obtain ⟨j33, ej33, hf⟩ := nme hf
        have J33 : ∀ (Vm_33 : FV), j33 Vm_33 = some out → ∀ (H : Heap) (locs : List Loc), va_P D vwCl (w_M cs o h I Vm_33) H → va_D A (w_M cs o h I Vm_33) → va_S A s.heap H locs → ∀ ls : Array Slot, lv_has ls 4 [(0, .ref o), (1, .ref (h 23)), (2, .int x2), (3, .int x3_2)] → W p l e rm_M_takePage_book s m args below meth c H locs 0 0 Q (F0 m 33 ls []) := by
          intro Vm_33 hf H locs hP hD hS ls hl
          rw [ej33] at hf
          refine lv_aload_n hx hb dX10_takePage_33 rfl (lv_at hl 0 rfl) ?_
          refine va_get (D := D) (ci := 10) (v := .ref (h 7)) (C := RX10) (T := TX10) (N := 38) hx hb hts in_X10 hown hK hP 0 rfl rfl 7 (by decide) g_19 (fun _ h9 => h9) rfl dX10_takePage_34 ?_
          refine lv_iload_n hx hb dX10_takePage_37 rfl (lv_at hl 3 rfl) ?_
          refine lv_aload_n hx hb dX10_takePage_38 rfl (lv_at hl 1 rfl) ?_
          refine lv_iload_n hx hb dX10_takePage_39 rfl (lv_at hl 2 rfl) ?_
          refine lv_bipush (v := 12) hx hb dX10_takePage_40 (by decide) ?_
          refine lv_iadd hx hb dX10_takePage_42 ?_
          refine lv_iload_n hx hb dX10_takePage_43 rfl (lv_at hl 3 rfl) ?_
          refine lv_iadd hx hb dX10_takePage_44 ?_
          obtain ⟨c45, hf⟩ := gd hf
          refine va_iald (f := (Vm_33 23)) hx hb hK hP 16 0 rfl rfl c45 dX10_takePage_45 ?_
          refine lv_iconst (v := 0) hx hb dX10_takePage_46 (by decide) ?_
          obtain ⟨zr1, qr1, hf⟩ := bd1 hf
          refine vp_callSi (va_Run.run (va_runS (As := [.int ((Vm_33 23) ((x2 + 12) + x3_2).toNatClampNeg), .int 0]) (rest := [.int x3_2, .ref (h 7)]) ⟨hx, hb, hml, hown, hts⟩ (c_M_has l ((Vm_33 23) ((x2 + 12) + x3_2).toNatClampNeg) 0 f zr1 qr1) w_has_160 ⟨fun a U g mk q => q, fun U hU hW => ⟨rfl, trivial⟩⟩ rfl rfl hl.1 rfl (lv_room (Nat.le_of_ble_eq_true rfl)) dX10_takePage_47 ⟨Nat.zero_le _, Nat.zero_le _⟩)) (fun r1 er1 => ?_)
          rw [er1]
          obtain ⟨c50, hf⟩ := gd hf
          refine va_zast (f := (Vm_33 7)) hx hb hK hP hD hS 4 1 rfl rfl c50 dX10_takePage_50 (fun H locs hP hD hS => ?_)
          obtain ⟨V2, eV2, hf⟩ := nme hf
          have hP : va_P D vwCl (w_M cs o h I V2) H := by rw [eV2]; exact hP
          have hD : va_D A (w_M cs o h I V2) := by rw [eV2]; exact hD
          refine lv_aload_n hx hb dX10_takePage_51 rfl (lv_at hl 0 rfl) ?_
          refine va_get (D := D) (ci := 10) (v := .ref (h 8)) (C := RX10) (T := TX10) (N := 38) hx hb hts in_X10 hown hK hP 0 rfl rfl 8 (by decide) g_23 (fun _ h9 => h9) rfl dX10_takePage_52 ?_
          refine lv_iload_n hx hb dX10_takePage_55 rfl (lv_at hl 3 rfl) ?_
          refine lv_aload_n hx hb dX10_takePage_56 rfl (lv_at hl 1 rfl) ?_
          refine lv_iload_n hx hb dX10_takePage_57 rfl (lv_at hl 2 rfl) ?_
          refine lv_bipush (v := 12) hx hb dX10_takePage_58 (by decide) ?_
          refine lv_iadd hx hb dX10_takePage_60 ?_
          refine lv_iload_n hx hb dX10_takePage_61 rfl (lv_at hl 3 rfl) ?_
          refine lv_iadd hx hb dX10_takePage_62 ?_
          obtain ⟨c63, hf⟩ := gd hf
          refine va_iald (f := (V2 23)) hx hb hK hP 16 0 rfl rfl c63 dX10_takePage_63 ?_
          refine lv_iconst (v := 1) hx hb dX10_takePage_64 (by decide) ?_
          obtain ⟨zr3, qr3, hf⟩ := bd1 hf
          refine vp_callSi (va_Run.run (va_runS (As := [.int ((V2 23) ((x2 + 12) + x3_2).toNatClampNeg), .int 1]) (rest := [.int x3_2, .ref (h 8)]) ⟨hx, hb, hml, hown, hts⟩ (c_M_has l ((V2 23) ((x2 + 12) + x3_2).toNatClampNeg) 1 f zr3 qr3) w_has_160 ⟨fun a U g mk q => q, fun U hU hW => ⟨rfl, trivial⟩⟩ rfl rfl hl.1 rfl (lv_room (Nat.le_of_ble_eq_true rfl)) dX10_takePage_65 ⟨Nat.zero_le _, Nat.zero_le _⟩)) (fun r3 er3 => ?_)
          rw [er3]
          obtain ⟨c68, hf⟩ := gd hf
          refine va_zast (f := (V2 8)) hx hb hK hP hD hS 5 1 rfl rfl c68 dX10_takePage_68 (fun H locs hP hD hS => ?_)
          obtain ⟨V4, eV4, hf⟩ := nme hf
          have hP : va_P D vwCl (w_M cs o h I V4) H := by rw [eV4]; exact hP
          have hD : va_D A (w_M cs o h I V4) := by rw [eV4]; exact hD
          refine lv_iinc (v := (x3_2 + 1)) (lv' := [(3, .int (x3_2 + 1)), (0, .ref o), (1, .ref (h 23)), (2, .int x2)]) hx hb dX10_takePage_69 hl (k := 3) rfl (by rfl) (by decide) rfl (fun ls hl => ?_)
          refine lv_goto (tgt := 2) hx hb dX10_takePage_72 (by decide) ?_
          exact ih_2 (x3_2 + 1) V4 hf _ _ hP hD hS _ (lv_sub hl [1, 2, 3, 0] rfl)
        refine lv_aload_n hx hb dX10_takePage_8 rfl (lv_at hl 0 rfl) ?_
        refine va_get (D := D) (ci := 10) (v := .ref (h 5)) (C := RX10) (T := TX10) (N := 38) hx hb hts in_X10 hown hK hP 0 rfl rfl 5 (by decide) g_13 (fun _ h9 => h9) rfl dX10_takePage_9 ?_
        refine lv_iload_n hx hb dX10_takePage_12 rfl (lv_at hl 3 rfl) ?_
        refine lv_aload_n hx hb dX10_takePage_13 rfl (lv_at hl 1 rfl) ?_
        refine lv_iload_n hx hb dX10_takePage_14 rfl (lv_at hl 2 rfl) ?_
        refine lv_iload_n hx hb dX10_takePage_15 rfl (lv_at hl 3 rfl) ?_
        refine lv_iadd hx hb dX10_takePage_16 ?_
        obtain ⟨c17, hf⟩ := gd hf
        refine va_iald (f := (Vm_2 23)) hx hb hK hP 16 0 rfl rfl c17 dX10_takePage_17 ?_
        obtain ⟨c18, hf⟩ := gd hf
        refine va_iast (f := (Vm_2 5)) hx hb hK hP hD hS 2 0 rfl rfl c18 dX10_takePage_18 (fun H locs hP hD hS => ?_)
        obtain ⟨V5, eV5, hf⟩ := nme hf
        have hP : va_P D vwCl (w_M cs o h I V5) H := by rw [eV5]; exact hP
        have hD : va_D A (w_M cs o h I V5) := by rw [eV5]; exact hD
        refine lv_aload_n hx hb dX10_takePage_19 rfl (lv_at hl 0 rfl) ?_
        refine va_get (D := D) (ci := 10) (v := .ref (h 6)) (C := RX10) (T := TX10) (N := 38) hx hb hts in_X10 hown hK hP 0 rfl rfl 6 (by decide) g_16 (fun _ h9 => h9) rfl dX10_takePage_20 ?_
        refine lv_iload_n hx hb dX10_takePage_23 rfl (lv_at hl 3 rfl) ?_
        refine lv_aload_n hx hb dX10_takePage_24 rfl (lv_at hl 1 rfl) ?_
        refine lv_iload_n hx hb dX10_takePage_25 rfl (lv_at hl 2 rfl) ?_
        refine lv_bipush (v := 6) hx hb dX10_takePage_26 (by decide) ?_
        refine lv_iadd hx hb dX10_takePage_28 ?_
        refine lv_iload_n hx hb dX10_takePage_29 rfl (lv_at hl 3 rfl) ?_
        refine lv_iadd hx hb dX10_takePage_30 ?_
        obtain ⟨c31, hf⟩ := gd hf
        refine va_iald (f := (V5 23)) hx hb hK hP 16 0 rfl rfl c31 dX10_takePage_31 ?_
        obtain ⟨c32, hf⟩ := gd hf
        refine va_iast (f := (V5 6)) hx hb hK hP hD hS 3 0 rfl rfl c32 dX10_takePage_32 (fun H locs hP hD hS => ?_)
        obtain ⟨V6, eV6, hf⟩ := nme hf
        have hP : va_P D vwCl (w_M cs o h I V6) H := by rw [eV6]; exact hP
        have hD : va_D A (w_M cs o h I V6) := by rw [eV6]; exact hD
        exact J33 V6 hf _ _ hP hD hS _ (lv_sub hl [0, 1, 2, 3] rfl)
  refine L2 _ (fun Vm_2 hf H locs hP hD hS ls hl => ?_) f 0 V hf _ _ hP hD hS _ (lv_sub hl [1, 2, 3, 0] rfl)
  refine lv_iconst (v := 0) hx hb dX10_takePage_75 (by decide) ?_
  refine lv_istore_n (lv' := [(3, .int 0), (0, .ref o), (1, .ref (h 23)), (2, .int x2)]) hx hb dX10_takePage_76 rfl hl (by decide) rfl (fun ls hl => ?_)
  have L77 : ∀ (k_77 : FV → Option (FI × FV)) (hk_77 : ∀ (Vm_77 : FV), k_77 Vm_77 = some out → ∀ (H : Heap) (locs : List Loc), va_P D vwCl (w_M cs o h I Vm_77) H → va_D A (w_M cs o h I Vm_77) → va_S A s.heap H locs → ∀ ls : Array Slot, lv_has ls 4 [(0, .ref o), (1, .ref (h 23)), (2, .int x2)] → W p l e rm_M_takePage_book s m args below meth c H locs 0 0 Q (F0 m 145 ls [])), ∀ (n_77 : Nat) (x3_77 : Int32) (Vm_77 : FV), M_takePage_book_L77 f x2 k_77 n_77 x3_77 Vm_77 = some out → ∀ (H : Heap) (locs : List Loc), va_P D vwCl (w_M cs o h I Vm_77) H → va_D A (w_M cs o h I Vm_77) → va_S A s.heap H locs → ∀ ls : Array Slot, lv_has ls 4 [(0, .ref o), (1, .ref (h 23)), (2, .int x2), (3, .int x3_77)] → W p l e rm_M_takePage_book s m args below meth c H locs 0 0 Q (F0 m 77 ls []) := by
    intro k_77 hk_77 n_77
    induction n_77 with
    | zero => intro x3_77 Vm_77 hf; rw [M_takePage_book_L77] at hf; cases hf
    | succ n_77 ih_77 =>
      intro x3_77 Vm_77 hf H locs hP hD hS ls hl
      rw [M_takePage_book_L77] at hf
      refine lv_iload_n hx hb dX10_takePage_77 rfl (lv_at hl 3 rfl) ?_
      refine lv_bipush (v := 12) hx hb dX10_takePage_78 (by decide) ?_
      refine lv_icmp_ge (tgt := 145) hx hb dX10_takePage_80 (by decide) (fun c80 => ?_) (fun c80 => ?_)
      · replace hf := ip c80 hf
        exact hk_77 Vm_77 hf _ _ hP hD hS _ (lv_sub hl [0, 1, 2] rfl)
      · replace hf := im c80 hf
        obtain ⟨j111, ej111, hf⟩ := nme hf
        have J111 : ∀ (Vm_111 : FV), j111 Vm_111 = some out → ∀ (H : Heap) (locs : List Loc), va_P D vwCl (w_M cs o h I Vm_111) H → va_D A (w_M cs o h I Vm_111) → va_S A s.heap H locs → ∀ ls : Array Slot, lv_has ls 4 [(0, .ref o), (1, .ref (h 23)), (2, .int x2), (3, .int x3_77)] → W p l e rm_M_takePage_book s m args below meth c H locs 0 0 Q (F0 m 111 ls []) := by
          intro Vm_111 hf H locs hP hD hS ls hl
          rw [ej111] at hf
          refine lv_aload_n hx hb dX10_takePage_111 rfl (lv_at hl 0 rfl) ?_
          refine va_get (D := D) (ci := 10) (v := .ref (h 12)) (C := RX10) (T := TX10) (N := 38) hx hb hts in_X10 hown hK hP 0 rfl rfl 12 (by decide) g_32 (fun _ h9 => h9) rfl dX10_takePage_112 ?_
          refine lv_iload_n hx hb dX10_takePage_115 rfl (lv_at hl 3 rfl) ?_
          refine lv_aload_n hx hb dX10_takePage_116 rfl (lv_at hl 1 rfl) ?_
          refine lv_iload_n hx hb dX10_takePage_117 rfl (lv_at hl 2 rfl) ?_
          refine lv_bipush (v := 42) hx hb dX10_takePage_118 (by decide) ?_
          refine lv_iadd hx hb dX10_takePage_120 ?_
          refine lv_iload_n hx hb dX10_takePage_121 rfl (lv_at hl 3 rfl) ?_
          refine lv_iadd hx hb dX10_takePage_122 ?_
          obtain ⟨c123, hf⟩ := gd hf
          refine va_iald (f := (Vm_111 23)) hx hb hK hP 16 0 rfl rfl c123 dX10_takePage_123 ?_
          obtain ⟨c124, hf⟩ := gd hf
          refine va_iast (f := (Vm_111 12)) hx hb hK hP hD hS 8 0 rfl rfl c124 dX10_takePage_124 (fun H locs hP hD hS => ?_)
          obtain ⟨V7, eV7, hf⟩ := nme hf
          have hP : va_P D vwCl (w_M cs o h I V7) H := by rw [eV7]; exact hP
          have hD : va_D A (w_M cs o h I V7) := by rw [eV7]; exact hD
          refine lv_aload_n hx hb dX10_takePage_125 rfl (lv_at hl 0 rfl) ?_
          refine va_get (D := D) (ci := 10) (v := .ref (h 13)) (C := RX10) (T := TX10) (N := 38) hx hb hts in_X10 hown hK hP 0 rfl rfl 13 (by decide) g_35 (fun _ h9 => h9) rfl dX10_takePage_126 ?_
          refine lv_iload_n hx hb dX10_takePage_129 rfl (lv_at hl 3 rfl) ?_
          refine lv_aload_n hx hb dX10_takePage_130 rfl (lv_at hl 1 rfl) ?_
          refine lv_iload_n hx hb dX10_takePage_131 rfl (lv_at hl 2 rfl) ?_
          refine lv_bipush (v := 54) hx hb dX10_takePage_132 (by decide) ?_
          refine lv_iadd hx hb dX10_takePage_134 ?_
          refine lv_iload_n hx hb dX10_takePage_135 rfl (lv_at hl 3 rfl) ?_
          refine lv_iadd hx hb dX10_takePage_136 ?_
          obtain ⟨c137, hf⟩ := gd hf
          refine va_iald (f := (V7 23)) hx hb hK hP 16 0 rfl rfl c137 dX10_takePage_137 ?_
          obtain ⟨c138, hf⟩ := gd hf
          refine va_iast (f := (V7 13)) hx hb hK hP hD hS 9 0 rfl rfl c138 dX10_takePage_138 (fun H locs hP hD hS => ?_)
          obtain ⟨V8, eV8, hf⟩ := nme hf
          have hP : va_P D vwCl (w_M cs o h I V8) H := by rw [eV8]; exact hP
          have hD : va_D A (w_M cs o h I V8) := by rw [eV8]; exact hD
          refine lv_iinc (v := (x3_77 + 1)) (lv' := [(3, .int (x3_77 + 1)), (0, .ref o), (1, .ref (h 23)), (2, .int x2)]) hx hb dX10_takePage_139 hl (k := 3) rfl (by rfl) (by decide) rfl (fun ls hl => ?_)
          refine lv_goto (tgt := 77) hx hb dX10_takePage_142 (by decide) ?_
          exact ih_77 (x3_77 + 1) V8 hf _ _ hP hD hS _ (lv_sub hl [1, 2, 3, 0] rfl)
        refine lv_aload_n hx hb dX10_takePage_83 rfl (lv_at hl 0 rfl) ?_
        refine va_get (D := D) (ci := 10) (v := .ref (h 10)) (C := RX10) (T := TX10) (N := 38) hx hb hts in_X10 hown hK hP 0 rfl rfl 10 (by decide) g_26 (fun _ h9 => h9) rfl dX10_takePage_84 ?_
        refine lv_iload_n hx hb dX10_takePage_87 rfl (lv_at hl 3 rfl) ?_
        refine lv_aload_n hx hb dX10_takePage_88 rfl (lv_at hl 1 rfl) ?_
        refine lv_iload_n hx hb dX10_takePage_89 rfl (lv_at hl 2 rfl) ?_
        refine lv_bipush (v := 18) hx hb dX10_takePage_90 (by decide) ?_
        refine lv_iadd hx hb dX10_takePage_92 ?_
        refine lv_iload_n hx hb dX10_takePage_93 rfl (lv_at hl 3 rfl) ?_
        refine lv_iadd hx hb dX10_takePage_94 ?_
        obtain ⟨c95, hf⟩ := gd hf
        refine va_iald (f := (Vm_77 23)) hx hb hK hP 16 0 rfl rfl c95 dX10_takePage_95 ?_
        obtain ⟨c96, hf⟩ := gd hf
        refine va_iast (f := (Vm_77 10)) hx hb hK hP hD hS 6 0 rfl rfl c96 dX10_takePage_96 (fun H locs hP hD hS => ?_)
        obtain ⟨V9, eV9, hf⟩ := nme hf
        have hP : va_P D vwCl (w_M cs o h I V9) H := by rw [eV9]; exact hP
        have hD : va_D A (w_M cs o h I V9) := by rw [eV9]; exact hD
        refine lv_aload_n hx hb dX10_takePage_97 rfl (lv_at hl 0 rfl) ?_
        refine va_get (D := D) (ci := 10) (v := .ref (h 11)) (C := RX10) (T := TX10) (N := 38) hx hb hts in_X10 hown hK hP 0 rfl rfl 11 (by decide) g_29 (fun _ h9 => h9) rfl dX10_takePage_98 ?_
        refine lv_iload_n hx hb dX10_takePage_101 rfl (lv_at hl 3 rfl) ?_
        refine lv_aload_n hx hb dX10_takePage_102 rfl (lv_at hl 1 rfl) ?_
        refine lv_iload_n hx hb dX10_takePage_103 rfl (lv_at hl 2 rfl) ?_
        refine lv_bipush (v := 30) hx hb dX10_takePage_104 (by decide) ?_
        refine lv_iadd hx hb dX10_takePage_106 ?_
        refine lv_iload_n hx hb dX10_takePage_107 rfl (lv_at hl 3 rfl) ?_
        refine lv_iadd hx hb dX10_takePage_108 ?_
        obtain ⟨c109, hf⟩ := gd hf
        refine va_iald (f := (V9 23)) hx hb hK hP 16 0 rfl rfl c109 dX10_takePage_109 ?_
        obtain ⟨c110, hf⟩ := gd hf
        refine va_iast (f := (V9 11)) hx hb hK hP hD hS 7 0 rfl rfl c110 dX10_takePage_110 (fun H locs hP hD hS => ?_)
        obtain ⟨V10, eV10, hf⟩ := nme hf
        have hP : va_P D vwCl (w_M cs o h I V10) H := by rw [eV10]; exact hP
        have hD : va_D A (w_M cs o h I V10) := by rw [eV10]; exact hD
        exact J111 V10 hf _ _ hP hD hS _ (lv_sub hl [0, 1, 2, 3] rfl)
  refine L77 _ (fun Vm_77 hf H locs hP hD hS ls hl => ?_) f 0 Vm_2 hf _ _ hP hD hS _ (lv_sub hl [1, 2, 3, 0] rfl)
  refine lv_aload_n hx hb dX10_takePage_145 rfl (lv_at hl 0 rfl) ?_
  refine lv_aload_n hx hb dX10_takePage_146 rfl (lv_at hl 1 rfl) ?_
  refine lv_iload_n hx hb dX10_takePage_147 rfl (lv_at hl 2 rfl) ?_
  refine lv_bipush (v := 66) hx hb dX10_takePage_148 (by decide) ?_
  refine lv_iadd hx hb dX10_takePage_150 ?_
  obtain ⟨c151, hf⟩ := gd hf
  refine va_iald (f := (Vm_77 23)) hx hb hK hP 16 0 rfl rfl c151 dX10_takePage_151 ?_
  refine va_put (D := D) (ci := 10) (v := .int ((Vm_77 23) (x2 + 66).toNatClampNeg)) (ty := .int) (C := RX10) (T := TX10) (N := 38) hx hb hts in_X10 tyX10 tyX10_ok nmX10 hown hK hP hD hS 0 rfl rfl 9 (by decide) g_135 (fun _ h9 => h9) rfl (by decide +kernel) rfl rfl (Nat.le_of_ble_eq_true rfl) dX10_takePage_152 (fun H locs hP hD hS => ?_)
  obtain ⟨I11, eI11, hf⟩ := nme hf
  have hP : va_P D vwCl (w_M cs o h I11 Vm_77) H := by rw [eI11]; exact hP
  have hD : va_D A (w_M cs o h I11 Vm_77) := by rw [eI11]; exact hD
  refine lv_aload_n hx hb dX10_takePage_155 rfl (lv_at hl 0 rfl) ?_
  refine lv_aload_n hx hb dX10_takePage_156 rfl (lv_at hl 1 rfl) ?_
  refine lv_iload_n hx hb dX10_takePage_157 rfl (lv_at hl 2 rfl) ?_
  refine lv_bipush (v := 67) hx hb dX10_takePage_158 (by decide) ?_
  refine lv_iadd hx hb dX10_takePage_160 ?_
  obtain ⟨c161, hf⟩ := gd hf
  refine va_iald (f := (Vm_77 23)) hx hb hK hP 16 0 rfl rfl c161 dX10_takePage_161 ?_
  refine va_put (D := D) (ci := 10) (v := .int ((Vm_77 23) (x2 + 67).toNatClampNeg)) (ty := .int) (C := RX10) (T := TX10) (N := 38) hx hb hts in_X10 tyX10 tyX10_ok nmX10 hown hK hP hD hS 0 rfl rfl 14 (by decide) g_138 (fun _ h9 => h9) rfl (by decide +kernel) rfl rfl (Nat.le_of_ble_eq_true rfl) dX10_takePage_162 (fun H locs hP hD hS => ?_)
  obtain ⟨I12, eI12, hf⟩ := nme hf
  have hP : va_P D vwCl (w_M cs o h I12 Vm_77) H := by rw [eI12]; exact hP
  have hD : va_D A (w_M cs o h I12 Vm_77) := by rw [eI12]; exact hD
  exact hret I12 Vm_77 _ _ 165 _ hf hP hD hS dX10_takePage_165
set_option maxHeartbeats 4000000 in
set_option maxRecDepth 100000 in
theorem c_M_takePage_book (l : Launch) (D : va_G) (cs : Nat → ClassId) (o : Nat) (h : Nat → Nat) (sz : Nat) (I : FI) (V : FV) (x2 : Int32) (f : Nat) (out : FI × FV) (hf : M_takePage_book f x2 I V = some out) : Met l yX10_takePage wsX10_takePage rm_M_takePage_book (va_Pc [.ref o, .ref (h 23), .int x2] (xP D cs (w_M cs o h I V) sz)) (va_Qv (fun u => u = out) (fun (u : FI × FV) t => xA D cs (va_A (w_M cs o h I V) sz) (w_M cs o h u.1 u.2) t) (va_A (w_M cs o h I V) sz)) 0 0 (va_A (w_M cs o h I V) sz) := by
  refine Met.ofW (cc := cX10_takePage) (maxL := 4) (ret := none) (by decide) rfl ?_
  intro p e s m args below meth c s₁ B hml hv
  obtain ⟨ha, hsz, hP, hK, hD0⟩ := hv
  have hx := B.exec
  have hb := B.bytes
  have hr := B.returns
  have hts := atoms_spec (ws := wsX10_takePage) B.pre
  have hown : s.vm.findClass RX10 = some m.cls := findClass_of_methodNamed B.named
  have hlocks := B.notSynchronized
  have in_X10 : ∀ w ∈ u_ws RX10 TX10 38, w ∈ wsX10_takePage := fun w h => List.mem_cons_of_mem _ (List.mem_append_right _ h)
  have g_13 := hts (Cond.fieldLink RX10 13 "DaysLentModel" "mornings" "[I") (by decide +kernel)
  have g_16 := hts (Cond.fieldLink RX10 16 "DaysLentModel" "asks" "[I") (by decide +kernel)
  have g_19 := hts (Cond.fieldLink RX10 19 "DaysLentModel" "dead" "[Z") (by decide +kernel)
  have w_has_160 := va_cwS (R := rm_M_takePage_book) (s := s) (args := args) (rm := rm_M_has) (mc := 0) (ms := 0) 2 hts gX10_takePage_X10_has rfl rfl rfl (by decide +kernel) ⟨Nat.le_of_ble_eq_true rfl, Nat.le_of_ble_eq_true rfl⟩
  have g_23 := hts (Cond.fieldLink RX10 23 "DaysLentModel" "broken" "[Z") (by decide +kernel)
  have g_26 := hts (Cond.fieldLink RX10 26 "DaysLentModel" "owed" "[I") (by decide +kernel)
  have g_29 := hts (Cond.fieldLink RX10 29 "DaysLentModel" "owes" "[I") (by decide +kernel)
  have g_32 := hts (Cond.fieldLink RX10 32 "DaysLentModel" "much" "[I") (by decide +kernel)
  have g_35 := hts (Cond.fieldLink RX10 35 "DaysLentModel" "due" "[I") (by decide +kernel)
  have g_135 := hts (Cond.fieldLink RX10 135 "DaysLentModel" "debts" "I") (by decide +kernel)
  have g_138 := hts (Cond.fieldLink RX10 138 "DaysLentModel" "week" "I") (by decide +kernel)
  subst hsz
  have hD := hD0.self (sz := s.heap.size)
  generalize hAe : va_A (w_M cs o h I V) s.heap.size = A at hD ⊢
  have hA : ∀ q : Nat, s.heap.size ≤ q → A q := fun q h => by rw [← hAe]; exact Or.inr h
  have hl := lv_entry ([.ref o, .ref (h 23), .int x2]) (n := 4) (Nat.le_of_ble_eq_true rfl)
  rw [show entryFrame m args 4 = entryFrame m ([.ref o, .ref (h 23), .int x2] : List Value).toArray 4 from by rw [ha], lg_entry_eq]
  generalize (lg_sl ([.ref o, .ref (h 23), .int x2]) ++ List.replicate (4 - (lg_sl ([.ref o, .ref (h 23), .int x2])).length) Slot.unset).toArray = ls at hl ⊢
  generalize hQ : MQ below (va_Qv (fun u => u = out) (fun (u : FI × FV) t => xA D cs A (w_M cs o h u.1 u.2) t) A) args s 0 0 A = Q
  have hret : ∀ (Im9 : FI) (Vm9 : FV) (H : Heap) (locs : List Loc) (pc : Nat) (ls : Array Slot), some (Im9, Vm9) = some out → va_P D vwCl (w_M cs o h Im9 Vm9) H → va_D A (w_M cs o h Im9 Vm9) → va_S A s.heap H locs → decode cX10_takePage pc = .ok (.return_, 1) → W p l e rm_M_takePage_book s m args below meth c H locs 0 0 Q (F0 m pc ls []) := by
    intro Im9 Vm9 H locs pc ls hf hP hD hS hd
    rw [← hQ]
    exact W.vret hx hb hr (fun t ht hW => ⟨⟨(Im9, Vm9), rfl, Option.some.inj hf, by show va_P D vwCl (w_M cs o h Im9 Vm9) t.heap; rw [ht]; exact hP, va_K.moved hW.alike hK, hD⟩, hS.F ht⟩) hS.2.2 hd
  exact v_M_takePage_book hf hx hb hml hown hts in_X10 g_13 g_16 g_19 w_has_160 g_23 g_26 g_29 g_32 g_35 g_135 g_138 hA hP hD hK hret ls hl
def M_takePage_kept_L2 {ρ : Type} (f : Nat) (x2 : Int32) (k_2 : FV → Option ρ) : Nat → Int32 → FV → Option ρ
  | 0, _, _ => none
  | n_2 + 1, x3_2, Vm_2 => (if 6 ≤ x3_2 then (k_2 Vm_2) else (nm (fun (Vm_33 : FV) => if ((x2 + 12) + x3_2) < 0 ∨ 148 ≤ ((x2 + 12) + x3_2).toNatClampNeg then none else (ob1 (M_has f ((Vm_33 25) ((x2 + 12) + x3_2).toNatClampNeg) 0) (fun zr1 => if x3_2 < 0 ∨ 6 ≤ x3_2.toNatClampNeg then none else (nm (va_up Vm_33 7 (upd (Vm_33 7) x3_2.toNatClampNeg (vp_nar .boolean zr1))) (fun V2 => if ((x2 + 12) + x3_2) < 0 ∨ 148 ≤ ((x2 + 12) + x3_2).toNatClampNeg then none else (ob1 (M_has f ((V2 25) ((x2 + 12) + x3_2).toNatClampNeg) 1) (fun zr3 => if x3_2 < 0 ∨ 6 ≤ x3_2.toNatClampNeg then none else (nm (va_up V2 8 (upd (V2 8) x3_2.toNatClampNeg (vp_nar .boolean zr3))) (fun V4 => (M_takePage_kept_L2 f x2 k_2 n_2 (x3_2 + 1) V4)))))))))) (fun j33 => if (x2 + x3_2) < 0 ∨ 148 ≤ (x2 + x3_2).toNatClampNeg then none else (if x3_2 < 0 ∨ 6 ≤ x3_2.toNatClampNeg then none else (nm (va_up Vm_2 5 (upd (Vm_2 5) x3_2.toNatClampNeg ((Vm_2 25) (x2 + x3_2).toNatClampNeg))) (fun V5 => if ((x2 + 6) + x3_2) < 0 ∨ 148 ≤ ((x2 + 6) + x3_2).toNatClampNeg then none else (if x3_2 < 0 ∨ 6 ≤ x3_2.toNatClampNeg then none else (nm (va_up V5 6 (upd (V5 6) x3_2.toNatClampNeg ((V5 25) ((x2 + 6) + x3_2).toNatClampNeg))) (fun V6 => (j33 V6))))))))))
def M_takePage_kept_L77 {ρ : Type} (f : Nat) (x2 : Int32) (k_77 : FV → Option ρ) : Nat → Int32 → FV → Option ρ
  | 0, _, _ => none
  | n_77 + 1, x3_77, Vm_77 => (if 12 ≤ x3_77 then (k_77 Vm_77) else (nm (fun (Vm_111 : FV) => if ((x2 + 42) + x3_77) < 0 ∨ 148 ≤ ((x2 + 42) + x3_77).toNatClampNeg then none else (if x3_77 < 0 ∨ 12 ≤ x3_77.toNatClampNeg then none else (nm (va_up Vm_111 12 (upd (Vm_111 12) x3_77.toNatClampNeg ((Vm_111 25) ((x2 + 42) + x3_77).toNatClampNeg))) (fun V7 => if ((x2 + 54) + x3_77) < 0 ∨ 148 ≤ ((x2 + 54) + x3_77).toNatClampNeg then none else (if x3_77 < 0 ∨ 12 ≤ x3_77.toNatClampNeg then none else (nm (va_up V7 13 (upd (V7 13) x3_77.toNatClampNeg ((V7 25) ((x2 + 54) + x3_77).toNatClampNeg))) (fun V8 => (M_takePage_kept_L77 f x2 k_77 n_77 (x3_77 + 1) V8)))))))) (fun j111 => if ((x2 + 18) + x3_77) < 0 ∨ 148 ≤ ((x2 + 18) + x3_77).toNatClampNeg then none else (if x3_77 < 0 ∨ 12 ≤ x3_77.toNatClampNeg then none else (nm (va_up Vm_77 10 (upd (Vm_77 10) x3_77.toNatClampNeg ((Vm_77 25) ((x2 + 18) + x3_77).toNatClampNeg))) (fun V9 => if ((x2 + 30) + x3_77) < 0 ∨ 148 ≤ ((x2 + 30) + x3_77).toNatClampNeg then none else (if x3_77 < 0 ∨ 12 ≤ x3_77.toNatClampNeg then none else (nm (va_up V9 11 (upd (V9 11) x3_77.toNatClampNeg ((V9 25) ((x2 + 30) + x3_77).toNatClampNeg))) (fun V10 => (j111 V10))))))))))
def M_takePage_kept (f : Nat) (x2 : Int32) (I : FI) (V : FV) : Option (FI × FV) := (M_takePage_kept_L2 f x2 (fun (Vm_2 : FV) => (M_takePage_kept_L77 f x2 (fun (Vm_77 : FV) => if (x2 + 66) < 0 ∨ 148 ≤ (x2 + 66).toNatClampNeg then none else (nm (va_up I 9 ((Vm_77 25) (x2 + 66).toNatClampNeg)) (fun I11 => if (x2 + 67) < 0 ∨ 148 ≤ (x2 + 67).toNatClampNeg then none else (nm (va_up I11 14 ((Vm_77 25) (x2 + 67).toNatClampNeg)) (fun I12 => some (I12, Vm_77)))))) f 0 Vm_2)) f 0 V)
abbrev rm_M_takePage_kept : Room := { frames := 1, cells := 0, slots := 0, locals := 21 }
set_option maxHeartbeats 4000000 in
set_option maxRecDepth 100000 in
theorem v_M_takePage_kept {l : Launch} {p : Program} {e : Env} {s : State} {m : MethodId} {args : Array Value} {below : List Frame} {meth : Method} {c : Code} {Q : State → Prop} {D : va_G} {cs : Nat → ClassId} {o : Nat} {h : Nat → Nat} {A : Nat → Prop} {I : FI} {V : FV} {x2 : Int32} {f : Nat} {out : FI × FV} (hf : M_takePage_kept f x2 I V = some out) (hx : p.tables.exec = Jvm.exec) (hb : c.code = cX10_takePage) (hml : c.maxLocals = 4) (hown : s.vm.findClass RX10 = some m.cls) (hts : ∀ w ∈ wsX10_takePage, w.before args s = true) (in_X10 : ∀ w ∈ u_ws RX10 TX10 38, w ∈ wsX10_takePage) (g_13 : (Cond.fieldLink RX10 13 "DaysLentModel" "mornings" "[I").before args s = true) (g_16 : (Cond.fieldLink RX10 16 "DaysLentModel" "asks" "[I").before args s = true) (g_19 : (Cond.fieldLink RX10 19 "DaysLentModel" "dead" "[Z").before args s = true) (w_has_160 : CallB rm_M_takePage_kept s args RX10 160 yX10_has cX10_has 2 (some .boolean) wsX10_has rm_M_has 0 0 2 ∧ (Cond.static yX10_has).before args s = true) (g_23 : (Cond.fieldLink RX10 23 "DaysLentModel" "broken" "[Z").before args s = true) (g_26 : (Cond.fieldLink RX10 26 "DaysLentModel" "owed" "[I").before args s = true) (g_29 : (Cond.fieldLink RX10 29 "DaysLentModel" "owes" "[I").before args s = true) (g_32 : (Cond.fieldLink RX10 32 "DaysLentModel" "much" "[I").before args s = true) (g_35 : (Cond.fieldLink RX10 35 "DaysLentModel" "due" "[I").before args s = true) (g_135 : (Cond.fieldLink RX10 135 "DaysLentModel" "debts" "I").before args s = true) (g_138 : (Cond.fieldLink RX10 138 "DaysLentModel" "week" "I").before args s = true) (hA : ∀ q : Nat, s.heap.size ≤ q → A q) (hP : va_P D vwCl (w_M cs o h I V) s.heap) (hD : va_D A (w_M cs o h I V)) (hK : va_K D vwCl (tyA cs) s) (hret : ∀ (Im9 : FI) (Vm9 : FV) (H : Heap) (locs : List Loc) (pc : Nat) (ls : Array Slot), some (Im9, Vm9) = some out → va_P D vwCl (w_M cs o h Im9 Vm9) H → va_D A (w_M cs o h Im9 Vm9) → va_S A s.heap H locs → decode cX10_takePage pc = .ok (.return_, 1) → W p l e rm_M_takePage_kept s m args below meth c H locs 0 0 Q (F0 m pc ls [])) : ∀ ls : Array Slot, lv_has ls 4 [(0, .ref o), (1, .ref (h 25)), (2, .int x2)] → W p l e rm_M_takePage_kept s m args below meth c s.heap [] 0 0 Q (F0 m 0 ls []) := by
  intro ls hl
  have hS : va_S A s.heap s.heap [] := va_S.rf
  unfold M_takePage_kept at hf
  refine lv_iconst (v := 0) hx hb dX10_takePage_0 (by decide) ?_
  refine lv_istore_n (lv' := [(3, .int 0), (0, .ref o), (1, .ref (h 25)), (2, .int x2)]) hx hb dX10_takePage_1 rfl hl (by decide) rfl (fun ls hl => ?_)
  have L2 : ∀ (k_2 : FV → Option (FI × FV)) (hk_2 : ∀ (Vm_2 : FV), k_2 Vm_2 = some out → ∀ (H : Heap) (locs : List Loc), va_P D vwCl (w_M cs o h I Vm_2) H → va_D A (w_M cs o h I Vm_2) → va_S A s.heap H locs → ∀ ls : Array Slot, lv_has ls 4 [(0, .ref o), (1, .ref (h 25)), (2, .int x2)] → W p l e rm_M_takePage_kept s m args below meth c H locs 0 0 Q (F0 m 75 ls [])), ∀ (n_2 : Nat) (x3_2 : Int32) (Vm_2 : FV), M_takePage_kept_L2 f x2 k_2 n_2 x3_2 Vm_2 = some out → ∀ (H : Heap) (locs : List Loc), va_P D vwCl (w_M cs o h I Vm_2) H → va_D A (w_M cs o h I Vm_2) → va_S A s.heap H locs → ∀ ls : Array Slot, lv_has ls 4 [(0, .ref o), (1, .ref (h 25)), (2, .int x2), (3, .int x3_2)] → W p l e rm_M_takePage_kept s m args below meth c H locs 0 0 Q (F0 m 2 ls []) := by
    intro k_2 hk_2 n_2
    induction n_2 with
    | zero => intro x3_2 Vm_2 hf; rw [M_takePage_kept_L2] at hf; cases hf
    | succ n_2 ih_2 =>
      intro x3_2 Vm_2 hf H locs hP hD hS ls hl
      rw [M_takePage_kept_L2] at hf
      refine lv_iload_n hx hb dX10_takePage_2 rfl (lv_at hl 3 rfl) ?_
      refine lv_bipush (v := 6) hx hb dX10_takePage_3 (by decide) ?_
      refine lv_icmp_ge (tgt := 75) hx hb dX10_takePage_5 (by decide) (fun c5 => ?_) (fun c5 => ?_)
      · replace hf := ip c5 hf
        exact hk_2 Vm_2 hf _ _ hP hD hS _ (lv_sub hl [0, 1, 2] rfl)
      · replace hf := im c5 hf
        obtain ⟨j33, ej33, hf⟩ := nme hf
        have J33 : ∀ (Vm_33 : FV), j33 Vm_33 = some out → ∀ (H : Heap) (locs : List Loc), va_P D vwCl (w_M cs o h I Vm_33) H → va_D A (w_M cs o h I Vm_33) → va_S A s.heap H locs → ∀ ls : Array Slot, lv_has ls 4 [(0, .ref o), (1, .ref (h 25)), (2, .int x2), (3, .int x3_2)] → W p l e rm_M_takePage_kept s m args below meth c H locs 0 0 Q (F0 m 33 ls []) := by
          intro Vm_33 hf H locs hP hD hS ls hl
          rw [ej33] at hf
          refine lv_aload_n hx hb dX10_takePage_33 rfl (lv_at hl 0 rfl) ?_
          refine va_get (D := D) (ci := 10) (v := .ref (h 7)) (C := RX10) (T := TX10) (N := 38) hx hb hts in_X10 hown hK hP 0 rfl rfl 7 (by decide) g_19 (fun _ h9 => h9) rfl dX10_takePage_34 ?_
          refine lv_iload_n hx hb dX10_takePage_37 rfl (lv_at hl 3 rfl) ?_
          refine lv_aload_n hx hb dX10_takePage_38 rfl (lv_at hl 1 rfl) ?_
          refine lv_iload_n hx hb dX10_takePage_39 rfl (lv_at hl 2 rfl) ?_
          refine lv_bipush (v := 12) hx hb dX10_takePage_40 (by decide) ?_
          refine lv_iadd hx hb dX10_takePage_42 ?_
          refine lv_iload_n hx hb dX10_takePage_43 rfl (lv_at hl 3 rfl) ?_
          refine lv_iadd hx hb dX10_takePage_44 ?_
          obtain ⟨c45, hf⟩ := gd hf
          refine va_iald (f := (Vm_33 25)) hx hb hK hP 17 0 rfl rfl c45 dX10_takePage_45 ?_
          refine lv_iconst (v := 0) hx hb dX10_takePage_46 (by decide) ?_
          obtain ⟨zr1, qr1, hf⟩ := bd1 hf
          refine vp_callSi (va_Run.run (va_runS (As := [.int ((Vm_33 25) ((x2 + 12) + x3_2).toNatClampNeg), .int 0]) (rest := [.int x3_2, .ref (h 7)]) ⟨hx, hb, hml, hown, hts⟩ (c_M_has l ((Vm_33 25) ((x2 + 12) + x3_2).toNatClampNeg) 0 f zr1 qr1) w_has_160 ⟨fun a U g mk q => q, fun U hU hW => ⟨rfl, trivial⟩⟩ rfl rfl hl.1 rfl (lv_room (Nat.le_of_ble_eq_true rfl)) dX10_takePage_47 ⟨Nat.zero_le _, Nat.zero_le _⟩)) (fun r1 er1 => ?_)
          rw [er1]
          obtain ⟨c50, hf⟩ := gd hf
          refine va_zast (f := (Vm_33 7)) hx hb hK hP hD hS 4 1 rfl rfl c50 dX10_takePage_50 (fun H locs hP hD hS => ?_)
          obtain ⟨V2, eV2, hf⟩ := nme hf
          have hP : va_P D vwCl (w_M cs o h I V2) H := by rw [eV2]; exact hP
          have hD : va_D A (w_M cs o h I V2) := by rw [eV2]; exact hD
          refine lv_aload_n hx hb dX10_takePage_51 rfl (lv_at hl 0 rfl) ?_
          refine va_get (D := D) (ci := 10) (v := .ref (h 8)) (C := RX10) (T := TX10) (N := 38) hx hb hts in_X10 hown hK hP 0 rfl rfl 8 (by decide) g_23 (fun _ h9 => h9) rfl dX10_takePage_52 ?_
          refine lv_iload_n hx hb dX10_takePage_55 rfl (lv_at hl 3 rfl) ?_
          refine lv_aload_n hx hb dX10_takePage_56 rfl (lv_at hl 1 rfl) ?_
          refine lv_iload_n hx hb dX10_takePage_57 rfl (lv_at hl 2 rfl) ?_
          refine lv_bipush (v := 12) hx hb dX10_takePage_58 (by decide) ?_
          refine lv_iadd hx hb dX10_takePage_60 ?_
          refine lv_iload_n hx hb dX10_takePage_61 rfl (lv_at hl 3 rfl) ?_
          refine lv_iadd hx hb dX10_takePage_62 ?_
          obtain ⟨c63, hf⟩ := gd hf
          refine va_iald (f := (V2 25)) hx hb hK hP 17 0 rfl rfl c63 dX10_takePage_63 ?_
          refine lv_iconst (v := 1) hx hb dX10_takePage_64 (by decide) ?_
          obtain ⟨zr3, qr3, hf⟩ := bd1 hf
          refine vp_callSi (va_Run.run (va_runS (As := [.int ((V2 25) ((x2 + 12) + x3_2).toNatClampNeg), .int 1]) (rest := [.int x3_2, .ref (h 8)]) ⟨hx, hb, hml, hown, hts⟩ (c_M_has l ((V2 25) ((x2 + 12) + x3_2).toNatClampNeg) 1 f zr3 qr3) w_has_160 ⟨fun a U g mk q => q, fun U hU hW => ⟨rfl, trivial⟩⟩ rfl rfl hl.1 rfl (lv_room (Nat.le_of_ble_eq_true rfl)) dX10_takePage_65 ⟨Nat.zero_le _, Nat.zero_le _⟩)) (fun r3 er3 => ?_)
          rw [er3]
          obtain ⟨c68, hf⟩ := gd hf
          refine va_zast (f := (V2 8)) hx hb hK hP hD hS 5 1 rfl rfl c68 dX10_takePage_68 (fun H locs hP hD hS => ?_)
          obtain ⟨V4, eV4, hf⟩ := nme hf
          have hP : va_P D vwCl (w_M cs o h I V4) H := by rw [eV4]; exact hP
          have hD : va_D A (w_M cs o h I V4) := by rw [eV4]; exact hD
          refine lv_iinc (v := (x3_2 + 1)) (lv' := [(3, .int (x3_2 + 1)), (0, .ref o), (1, .ref (h 25)), (2, .int x2)]) hx hb dX10_takePage_69 hl (k := 3) rfl (by rfl) (by decide) rfl (fun ls hl => ?_)
          refine lv_goto (tgt := 2) hx hb dX10_takePage_72 (by decide) ?_
          exact ih_2 (x3_2 + 1) V4 hf _ _ hP hD hS _ (lv_sub hl [1, 2, 3, 0] rfl)
        refine lv_aload_n hx hb dX10_takePage_8 rfl (lv_at hl 0 rfl) ?_
        refine va_get (D := D) (ci := 10) (v := .ref (h 5)) (C := RX10) (T := TX10) (N := 38) hx hb hts in_X10 hown hK hP 0 rfl rfl 5 (by decide) g_13 (fun _ h9 => h9) rfl dX10_takePage_9 ?_
        refine lv_iload_n hx hb dX10_takePage_12 rfl (lv_at hl 3 rfl) ?_
        refine lv_aload_n hx hb dX10_takePage_13 rfl (lv_at hl 1 rfl) ?_
        refine lv_iload_n hx hb dX10_takePage_14 rfl (lv_at hl 2 rfl) ?_
        refine lv_iload_n hx hb dX10_takePage_15 rfl (lv_at hl 3 rfl) ?_
        refine lv_iadd hx hb dX10_takePage_16 ?_
        obtain ⟨c17, hf⟩ := gd hf
        refine va_iald (f := (Vm_2 25)) hx hb hK hP 17 0 rfl rfl c17 dX10_takePage_17 ?_
        obtain ⟨c18, hf⟩ := gd hf
        refine va_iast (f := (Vm_2 5)) hx hb hK hP hD hS 2 0 rfl rfl c18 dX10_takePage_18 (fun H locs hP hD hS => ?_)
        obtain ⟨V5, eV5, hf⟩ := nme hf
        have hP : va_P D vwCl (w_M cs o h I V5) H := by rw [eV5]; exact hP
        have hD : va_D A (w_M cs o h I V5) := by rw [eV5]; exact hD
        refine lv_aload_n hx hb dX10_takePage_19 rfl (lv_at hl 0 rfl) ?_
        refine va_get (D := D) (ci := 10) (v := .ref (h 6)) (C := RX10) (T := TX10) (N := 38) hx hb hts in_X10 hown hK hP 0 rfl rfl 6 (by decide) g_16 (fun _ h9 => h9) rfl dX10_takePage_20 ?_
        refine lv_iload_n hx hb dX10_takePage_23 rfl (lv_at hl 3 rfl) ?_
        refine lv_aload_n hx hb dX10_takePage_24 rfl (lv_at hl 1 rfl) ?_
        refine lv_iload_n hx hb dX10_takePage_25 rfl (lv_at hl 2 rfl) ?_
        refine lv_bipush (v := 6) hx hb dX10_takePage_26 (by decide) ?_
        refine lv_iadd hx hb dX10_takePage_28 ?_
        refine lv_iload_n hx hb dX10_takePage_29 rfl (lv_at hl 3 rfl) ?_
        refine lv_iadd hx hb dX10_takePage_30 ?_
        obtain ⟨c31, hf⟩ := gd hf
        refine va_iald (f := (V5 25)) hx hb hK hP 17 0 rfl rfl c31 dX10_takePage_31 ?_
        obtain ⟨c32, hf⟩ := gd hf
        refine va_iast (f := (V5 6)) hx hb hK hP hD hS 3 0 rfl rfl c32 dX10_takePage_32 (fun H locs hP hD hS => ?_)
        obtain ⟨V6, eV6, hf⟩ := nme hf
        have hP : va_P D vwCl (w_M cs o h I V6) H := by rw [eV6]; exact hP
        have hD : va_D A (w_M cs o h I V6) := by rw [eV6]; exact hD
        exact J33 V6 hf _ _ hP hD hS _ (lv_sub hl [0, 1, 2, 3] rfl)
  refine L2 _ (fun Vm_2 hf H locs hP hD hS ls hl => ?_) f 0 V hf _ _ hP hD hS _ (lv_sub hl [1, 2, 3, 0] rfl)
  refine lv_iconst (v := 0) hx hb dX10_takePage_75 (by decide) ?_
  refine lv_istore_n (lv' := [(3, .int 0), (0, .ref o), (1, .ref (h 25)), (2, .int x2)]) hx hb dX10_takePage_76 rfl hl (by decide) rfl (fun ls hl => ?_)
  have L77 : ∀ (k_77 : FV → Option (FI × FV)) (hk_77 : ∀ (Vm_77 : FV), k_77 Vm_77 = some out → ∀ (H : Heap) (locs : List Loc), va_P D vwCl (w_M cs o h I Vm_77) H → va_D A (w_M cs o h I Vm_77) → va_S A s.heap H locs → ∀ ls : Array Slot, lv_has ls 4 [(0, .ref o), (1, .ref (h 25)), (2, .int x2)] → W p l e rm_M_takePage_kept s m args below meth c H locs 0 0 Q (F0 m 145 ls [])), ∀ (n_77 : Nat) (x3_77 : Int32) (Vm_77 : FV), M_takePage_kept_L77 f x2 k_77 n_77 x3_77 Vm_77 = some out → ∀ (H : Heap) (locs : List Loc), va_P D vwCl (w_M cs o h I Vm_77) H → va_D A (w_M cs o h I Vm_77) → va_S A s.heap H locs → ∀ ls : Array Slot, lv_has ls 4 [(0, .ref o), (1, .ref (h 25)), (2, .int x2), (3, .int x3_77)] → W p l e rm_M_takePage_kept s m args below meth c H locs 0 0 Q (F0 m 77 ls []) := by
    intro k_77 hk_77 n_77
    induction n_77 with
    | zero => intro x3_77 Vm_77 hf; rw [M_takePage_kept_L77] at hf; cases hf
    | succ n_77 ih_77 =>
      intro x3_77 Vm_77 hf H locs hP hD hS ls hl
      rw [M_takePage_kept_L77] at hf
      refine lv_iload_n hx hb dX10_takePage_77 rfl (lv_at hl 3 rfl) ?_
      refine lv_bipush (v := 12) hx hb dX10_takePage_78 (by decide) ?_
      refine lv_icmp_ge (tgt := 145) hx hb dX10_takePage_80 (by decide) (fun c80 => ?_) (fun c80 => ?_)
      · replace hf := ip c80 hf
        exact hk_77 Vm_77 hf _ _ hP hD hS _ (lv_sub hl [0, 1, 2] rfl)
      · replace hf := im c80 hf
        obtain ⟨j111, ej111, hf⟩ := nme hf
        have J111 : ∀ (Vm_111 : FV), j111 Vm_111 = some out → ∀ (H : Heap) (locs : List Loc), va_P D vwCl (w_M cs o h I Vm_111) H → va_D A (w_M cs o h I Vm_111) → va_S A s.heap H locs → ∀ ls : Array Slot, lv_has ls 4 [(0, .ref o), (1, .ref (h 25)), (2, .int x2), (3, .int x3_77)] → W p l e rm_M_takePage_kept s m args below meth c H locs 0 0 Q (F0 m 111 ls []) := by
          intro Vm_111 hf H locs hP hD hS ls hl
          rw [ej111] at hf
          refine lv_aload_n hx hb dX10_takePage_111 rfl (lv_at hl 0 rfl) ?_
          refine va_get (D := D) (ci := 10) (v := .ref (h 12)) (C := RX10) (T := TX10) (N := 38) hx hb hts in_X10 hown hK hP 0 rfl rfl 12 (by decide) g_32 (fun _ h9 => h9) rfl dX10_takePage_112 ?_
          refine lv_iload_n hx hb dX10_takePage_115 rfl (lv_at hl 3 rfl) ?_
          refine lv_aload_n hx hb dX10_takePage_116 rfl (lv_at hl 1 rfl) ?_
          refine lv_iload_n hx hb dX10_takePage_117 rfl (lv_at hl 2 rfl) ?_
          refine lv_bipush (v := 42) hx hb dX10_takePage_118 (by decide) ?_
          refine lv_iadd hx hb dX10_takePage_120 ?_
          refine lv_iload_n hx hb dX10_takePage_121 rfl (lv_at hl 3 rfl) ?_
          refine lv_iadd hx hb dX10_takePage_122 ?_
          obtain ⟨c123, hf⟩ := gd hf
          refine va_iald (f := (Vm_111 25)) hx hb hK hP 17 0 rfl rfl c123 dX10_takePage_123 ?_
          obtain ⟨c124, hf⟩ := gd hf
          refine va_iast (f := (Vm_111 12)) hx hb hK hP hD hS 8 0 rfl rfl c124 dX10_takePage_124 (fun H locs hP hD hS => ?_)
          obtain ⟨V7, eV7, hf⟩ := nme hf
          have hP : va_P D vwCl (w_M cs o h I V7) H := by rw [eV7]; exact hP
          have hD : va_D A (w_M cs o h I V7) := by rw [eV7]; exact hD
          refine lv_aload_n hx hb dX10_takePage_125 rfl (lv_at hl 0 rfl) ?_
          refine va_get (D := D) (ci := 10) (v := .ref (h 13)) (C := RX10) (T := TX10) (N := 38) hx hb hts in_X10 hown hK hP 0 rfl rfl 13 (by decide) g_35 (fun _ h9 => h9) rfl dX10_takePage_126 ?_
          refine lv_iload_n hx hb dX10_takePage_129 rfl (lv_at hl 3 rfl) ?_
          refine lv_aload_n hx hb dX10_takePage_130 rfl (lv_at hl 1 rfl) ?_
          refine lv_iload_n hx hb dX10_takePage_131 rfl (lv_at hl 2 rfl) ?_
          refine lv_bipush (v := 54) hx hb dX10_takePage_132 (by decide) ?_
          refine lv_iadd hx hb dX10_takePage_134 ?_
          refine lv_iload_n hx hb dX10_takePage_135 rfl (lv_at hl 3 rfl) ?_
          refine lv_iadd hx hb dX10_takePage_136 ?_
          obtain ⟨c137, hf⟩ := gd hf
          refine va_iald (f := (V7 25)) hx hb hK hP 17 0 rfl rfl c137 dX10_takePage_137 ?_
          obtain ⟨c138, hf⟩ := gd hf
          refine va_iast (f := (V7 13)) hx hb hK hP hD hS 9 0 rfl rfl c138 dX10_takePage_138 (fun H locs hP hD hS => ?_)
          obtain ⟨V8, eV8, hf⟩ := nme hf
          have hP : va_P D vwCl (w_M cs o h I V8) H := by rw [eV8]; exact hP
          have hD : va_D A (w_M cs o h I V8) := by rw [eV8]; exact hD
          refine lv_iinc (v := (x3_77 + 1)) (lv' := [(3, .int (x3_77 + 1)), (0, .ref o), (1, .ref (h 25)), (2, .int x2)]) hx hb dX10_takePage_139 hl (k := 3) rfl (by rfl) (by decide) rfl (fun ls hl => ?_)
          refine lv_goto (tgt := 77) hx hb dX10_takePage_142 (by decide) ?_
          exact ih_77 (x3_77 + 1) V8 hf _ _ hP hD hS _ (lv_sub hl [1, 2, 3, 0] rfl)
        refine lv_aload_n hx hb dX10_takePage_83 rfl (lv_at hl 0 rfl) ?_
        refine va_get (D := D) (ci := 10) (v := .ref (h 10)) (C := RX10) (T := TX10) (N := 38) hx hb hts in_X10 hown hK hP 0 rfl rfl 10 (by decide) g_26 (fun _ h9 => h9) rfl dX10_takePage_84 ?_
        refine lv_iload_n hx hb dX10_takePage_87 rfl (lv_at hl 3 rfl) ?_
        refine lv_aload_n hx hb dX10_takePage_88 rfl (lv_at hl 1 rfl) ?_
        refine lv_iload_n hx hb dX10_takePage_89 rfl (lv_at hl 2 rfl) ?_
        refine lv_bipush (v := 18) hx hb dX10_takePage_90 (by decide) ?_
        refine lv_iadd hx hb dX10_takePage_92 ?_
        refine lv_iload_n hx hb dX10_takePage_93 rfl (lv_at hl 3 rfl) ?_
        refine lv_iadd hx hb dX10_takePage_94 ?_
        obtain ⟨c95, hf⟩ := gd hf
        refine va_iald (f := (Vm_77 25)) hx hb hK hP 17 0 rfl rfl c95 dX10_takePage_95 ?_
        obtain ⟨c96, hf⟩ := gd hf
        refine va_iast (f := (Vm_77 10)) hx hb hK hP hD hS 6 0 rfl rfl c96 dX10_takePage_96 (fun H locs hP hD hS => ?_)
        obtain ⟨V9, eV9, hf⟩ := nme hf
        have hP : va_P D vwCl (w_M cs o h I V9) H := by rw [eV9]; exact hP
        have hD : va_D A (w_M cs o h I V9) := by rw [eV9]; exact hD
        refine lv_aload_n hx hb dX10_takePage_97 rfl (lv_at hl 0 rfl) ?_
        refine va_get (D := D) (ci := 10) (v := .ref (h 11)) (C := RX10) (T := TX10) (N := 38) hx hb hts in_X10 hown hK hP 0 rfl rfl 11 (by decide) g_29 (fun _ h9 => h9) rfl dX10_takePage_98 ?_
        refine lv_iload_n hx hb dX10_takePage_101 rfl (lv_at hl 3 rfl) ?_
        refine lv_aload_n hx hb dX10_takePage_102 rfl (lv_at hl 1 rfl) ?_
        refine lv_iload_n hx hb dX10_takePage_103 rfl (lv_at hl 2 rfl) ?_
        refine lv_bipush (v := 30) hx hb dX10_takePage_104 (by decide) ?_
        refine lv_iadd hx hb dX10_takePage_106 ?_
        refine lv_iload_n hx hb dX10_takePage_107 rfl (lv_at hl 3 rfl) ?_
        refine lv_iadd hx hb dX10_takePage_108 ?_
        obtain ⟨c109, hf⟩ := gd hf
        refine va_iald (f := (V9 25)) hx hb hK hP 17 0 rfl rfl c109 dX10_takePage_109 ?_
        obtain ⟨c110, hf⟩ := gd hf
        refine va_iast (f := (V9 11)) hx hb hK hP hD hS 7 0 rfl rfl c110 dX10_takePage_110 (fun H locs hP hD hS => ?_)
        obtain ⟨V10, eV10, hf⟩ := nme hf
        have hP : va_P D vwCl (w_M cs o h I V10) H := by rw [eV10]; exact hP
        have hD : va_D A (w_M cs o h I V10) := by rw [eV10]; exact hD
        exact J111 V10 hf _ _ hP hD hS _ (lv_sub hl [0, 1, 2, 3] rfl)
  refine L77 _ (fun Vm_77 hf H locs hP hD hS ls hl => ?_) f 0 Vm_2 hf _ _ hP hD hS _ (lv_sub hl [1, 2, 3, 0] rfl)
  refine lv_aload_n hx hb dX10_takePage_145 rfl (lv_at hl 0 rfl) ?_
  refine lv_aload_n hx hb dX10_takePage_146 rfl (lv_at hl 1 rfl) ?_
  refine lv_iload_n hx hb dX10_takePage_147 rfl (lv_at hl 2 rfl) ?_
  refine lv_bipush (v := 66) hx hb dX10_takePage_148 (by decide) ?_
  refine lv_iadd hx hb dX10_takePage_150 ?_
  obtain ⟨c151, hf⟩ := gd hf
  refine va_iald (f := (Vm_77 25)) hx hb hK hP 17 0 rfl rfl c151 dX10_takePage_151 ?_
  refine va_put (D := D) (ci := 10) (v := .int ((Vm_77 25) (x2 + 66).toNatClampNeg)) (ty := .int) (C := RX10) (T := TX10) (N := 38) hx hb hts in_X10 tyX10 tyX10_ok nmX10 hown hK hP hD hS 0 rfl rfl 9 (by decide) g_135 (fun _ h9 => h9) rfl (by decide +kernel) rfl rfl (Nat.le_of_ble_eq_true rfl) dX10_takePage_152 (fun H locs hP hD hS => ?_)
  obtain ⟨I11, eI11, hf⟩ := nme hf
  have hP : va_P D vwCl (w_M cs o h I11 Vm_77) H := by rw [eI11]; exact hP
  have hD : va_D A (w_M cs o h I11 Vm_77) := by rw [eI11]; exact hD
  refine lv_aload_n hx hb dX10_takePage_155 rfl (lv_at hl 0 rfl) ?_
  refine lv_aload_n hx hb dX10_takePage_156 rfl (lv_at hl 1 rfl) ?_
  refine lv_iload_n hx hb dX10_takePage_157 rfl (lv_at hl 2 rfl) ?_
  refine lv_bipush (v := 67) hx hb dX10_takePage_158 (by decide) ?_
  refine lv_iadd hx hb dX10_takePage_160 ?_
  obtain ⟨c161, hf⟩ := gd hf
  refine va_iald (f := (Vm_77 25)) hx hb hK hP 17 0 rfl rfl c161 dX10_takePage_161 ?_
  refine va_put (D := D) (ci := 10) (v := .int ((Vm_77 25) (x2 + 67).toNatClampNeg)) (ty := .int) (C := RX10) (T := TX10) (N := 38) hx hb hts in_X10 tyX10 tyX10_ok nmX10 hown hK hP hD hS 0 rfl rfl 14 (by decide) g_138 (fun _ h9 => h9) rfl (by decide +kernel) rfl rfl (Nat.le_of_ble_eq_true rfl) dX10_takePage_162 (fun H locs hP hD hS => ?_)
  obtain ⟨I12, eI12, hf⟩ := nme hf
  have hP : va_P D vwCl (w_M cs o h I12 Vm_77) H := by rw [eI12]; exact hP
  have hD : va_D A (w_M cs o h I12 Vm_77) := by rw [eI12]; exact hD
  exact hret I12 Vm_77 _ _ 165 _ hf hP hD hS dX10_takePage_165
set_option maxHeartbeats 4000000 in
set_option maxRecDepth 100000 in
theorem c_M_takePage_kept (l : Launch) (D : va_G) (cs : Nat → ClassId) (o : Nat) (h : Nat → Nat) (sz : Nat) (I : FI) (V : FV) (x2 : Int32) (f : Nat) (out : FI × FV) (hf : M_takePage_kept f x2 I V = some out) : Met l yX10_takePage wsX10_takePage rm_M_takePage_kept (va_Pc [.ref o, .ref (h 25), .int x2] (xP D cs (w_M cs o h I V) sz)) (va_Qv (fun u => u = out) (fun (u : FI × FV) t => xA D cs (va_A (w_M cs o h I V) sz) (w_M cs o h u.1 u.2) t) (va_A (w_M cs o h I V) sz)) 0 0 (va_A (w_M cs o h I V) sz) := by
  refine Met.ofW (cc := cX10_takePage) (maxL := 4) (ret := none) (by decide) rfl ?_
  intro p e s m args below meth c s₁ B hml hv
  obtain ⟨ha, hsz, hP, hK, hD0⟩ := hv
  have hx := B.exec
  have hb := B.bytes
  have hr := B.returns
  have hts := atoms_spec (ws := wsX10_takePage) B.pre
  have hown : s.vm.findClass RX10 = some m.cls := findClass_of_methodNamed B.named
  have hlocks := B.notSynchronized
  have in_X10 : ∀ w ∈ u_ws RX10 TX10 38, w ∈ wsX10_takePage := fun w h => List.mem_cons_of_mem _ (List.mem_append_right _ h)
  have g_13 := hts (Cond.fieldLink RX10 13 "DaysLentModel" "mornings" "[I") (by decide +kernel)
  have g_16 := hts (Cond.fieldLink RX10 16 "DaysLentModel" "asks" "[I") (by decide +kernel)
  have g_19 := hts (Cond.fieldLink RX10 19 "DaysLentModel" "dead" "[Z") (by decide +kernel)
  have w_has_160 := va_cwS (R := rm_M_takePage_kept) (s := s) (args := args) (rm := rm_M_has) (mc := 0) (ms := 0) 2 hts gX10_takePage_X10_has rfl rfl rfl (by decide +kernel) ⟨Nat.le_of_ble_eq_true rfl, Nat.le_of_ble_eq_true rfl⟩
  have g_23 := hts (Cond.fieldLink RX10 23 "DaysLentModel" "broken" "[Z") (by decide +kernel)
  have g_26 := hts (Cond.fieldLink RX10 26 "DaysLentModel" "owed" "[I") (by decide +kernel)
  have g_29 := hts (Cond.fieldLink RX10 29 "DaysLentModel" "owes" "[I") (by decide +kernel)
  have g_32 := hts (Cond.fieldLink RX10 32 "DaysLentModel" "much" "[I") (by decide +kernel)
  have g_35 := hts (Cond.fieldLink RX10 35 "DaysLentModel" "due" "[I") (by decide +kernel)
  have g_135 := hts (Cond.fieldLink RX10 135 "DaysLentModel" "debts" "I") (by decide +kernel)
  have g_138 := hts (Cond.fieldLink RX10 138 "DaysLentModel" "week" "I") (by decide +kernel)
  subst hsz
  have hD := hD0.self (sz := s.heap.size)
  generalize hAe : va_A (w_M cs o h I V) s.heap.size = A at hD ⊢
  have hA : ∀ q : Nat, s.heap.size ≤ q → A q := fun q h => by rw [← hAe]; exact Or.inr h
  have hl := lv_entry ([.ref o, .ref (h 25), .int x2]) (n := 4) (Nat.le_of_ble_eq_true rfl)
  rw [show entryFrame m args 4 = entryFrame m ([.ref o, .ref (h 25), .int x2] : List Value).toArray 4 from by rw [ha], lg_entry_eq]
  generalize (lg_sl ([.ref o, .ref (h 25), .int x2]) ++ List.replicate (4 - (lg_sl ([.ref o, .ref (h 25), .int x2])).length) Slot.unset).toArray = ls at hl ⊢
  generalize hQ : MQ below (va_Qv (fun u => u = out) (fun (u : FI × FV) t => xA D cs A (w_M cs o h u.1 u.2) t) A) args s 0 0 A = Q
  have hret : ∀ (Im9 : FI) (Vm9 : FV) (H : Heap) (locs : List Loc) (pc : Nat) (ls : Array Slot), some (Im9, Vm9) = some out → va_P D vwCl (w_M cs o h Im9 Vm9) H → va_D A (w_M cs o h Im9 Vm9) → va_S A s.heap H locs → decode cX10_takePage pc = .ok (.return_, 1) → W p l e rm_M_takePage_kept s m args below meth c H locs 0 0 Q (F0 m pc ls []) := by
    intro Im9 Vm9 H locs pc ls hf hP hD hS hd
    rw [← hQ]
    exact W.vret hx hb hr (fun t ht hW => ⟨⟨(Im9, Vm9), rfl, Option.some.inj hf, by show va_P D vwCl (w_M cs o h Im9 Vm9) t.heap; rw [ht]; exact hP, va_K.moved hW.alike hK, hD⟩, hS.F ht⟩) hS.2.2 hd
  exact v_M_takePage_kept hf hx hb hml hown hts in_X10 g_13 g_16 g_19 w_has_160 g_23 g_26 g_29 g_32 g_35 g_135 g_138 hA hP hD hK hret ls hl
def M_note_L11 {ρ : Type} (f : Nat) (k_11 : FV → Option ρ) : Nat → Int32 → FV → Option ρ
  | 0, _, _ => none
  | n_11 + 1, x1_11, Vm_11 => (if 666 ≤ x1_11 then (k_11 Vm_11) else if (x1_11 + 74) < 0 ∨ 740 ≤ (x1_11 + 74).toNatClampNeg then none else (if x1_11 < 0 ∨ 740 ≤ x1_11.toNatClampNeg then none else (nm (va_up Vm_11 23 (upd (Vm_11 23) x1_11.toNatClampNeg ((Vm_11 23) (x1_11 + 74).toNatClampNeg))) (fun V5 => (M_note_L11 f k_11 n_11 (x1_11 + 1) V5)))))
def M_note (f : Nat) (I : FI) (V : FV) : Option (FI × FV) := (nm (fun (Im_49 : FI) (Vm_49 : FV) => ob2 (M_layPage_book f (74 * (Im_49 24)) Im_49 Vm_49) (fun I2 V3 => nm (va_up I2 24 ((I2 24) + 1)) (fun I4 => some (I4, V3)))) (fun j49 => (if (I 24) = 10 then (M_note_L11 f (fun (Vm_11 : FV) => nm (va_up I 24 ((I 24) - 1)) (fun I6 => (j49 I6 Vm_11))) f 0 V) else (j49 I V))))
abbrev rm_M_note : Room := { frames := 1, cells := 0, slots := 0, locals := 23 }
set_option maxHeartbeats 4000000 in
set_option maxRecDepth 100000 in
theorem v_M_note {l : Launch} {p : Program} {e : Env} {s : State} {m : MethodId} {args : Array Value} {below : List Frame} {meth : Method} {c : Code} {Q : State → Prop} {D : va_G} {cs : Nat → ClassId} {o : Nat} {h : Nat → Nat} {A : Nat → Prop} {I : FI} {V : FV} {f : Nat} {out : FI × FV} (hf : M_note f I V = some out) (hx : p.tables.exec = Jvm.exec) (hb : c.code = cX10_note) (hml : c.maxLocals = 2) (hown : s.vm.findClass RX10 = some m.cls) (hts : ∀ w ∈ wsX10_note, w.before args s = true) (in_X10 : ∀ w ∈ u_ws RX10 TX10 38, w ∈ wsX10_note) (g_141 : (Cond.fieldLink RX10 141 "DaysLentModel" "acts" "I").before args s = true) (g_56 : (Cond.fieldLink RX10 56 "DaysLentModel" "book" "[I").before args s = true) (w_layPage_164 : CallW rm_M_note s args RX10 RX10 164 yX10_layPage cX10_layPage 4 none wsX10_layPage rm_M_layPage_book 0 0 2) (hA : ∀ q : Nat, s.heap.size ≤ q → A q) (hP : va_P D vwCl (w_M cs o h I V) s.heap) (hD : va_D A (w_M cs o h I V)) (hK : va_K D vwCl (tyA cs) s) (hret : ∀ (Im9 : FI) (Vm9 : FV) (H : Heap) (locs : List Loc) (pc : Nat) (ls : Array Slot), some (Im9, Vm9) = some out → va_P D vwCl (w_M cs o h Im9 Vm9) H → va_D A (w_M cs o h Im9 Vm9) → va_S A s.heap H locs → decode cX10_note pc = .ok (.return_, 1) → W p l e rm_M_note s m args below meth c H locs 0 0 Q (F0 m pc ls [])) : ∀ ls : Array Slot, lv_has ls 2 [(0, .ref o)] → W p l e rm_M_note s m args below meth c s.heap [] 0 0 Q (F0 m 0 ls []) := by
  intro ls hl
  have hS : va_S A s.heap s.heap [] := va_S.rf
  unfold M_note at hf
  refine lv_aload_n hx hb dX10_note_0 rfl (lv_at hl 0 rfl) ?_
  refine va_get (D := D) (ci := 10) (v := .int (I 24)) (C := RX10) (T := TX10) (N := 38) hx hb hts in_X10 hown hK hP 0 rfl rfl 24 (by decide) g_141 (fun _ h9 => h9) rfl dX10_note_1 ?_
  refine lv_bipush (v := 10) hx hb dX10_note_4 (by decide) ?_
  obtain ⟨j49, ej49, hf⟩ := nme hf
  have J49 : ∀ (Im_49 : FI) (Vm_49 : FV), j49 Im_49 Vm_49 = some out → ∀ (H : Heap) (locs : List Loc), va_P D vwCl (w_M cs o h Im_49 Vm_49) H → va_D A (w_M cs o h Im_49 Vm_49) → va_S A s.heap H locs → ∀ ls : Array Slot, lv_has ls 2 [(0, .ref o)] → W p l e rm_M_note s m args below meth c H locs 0 0 Q (F0 m 49 ls []) := by
    intro Im_49 Vm_49 hf H locs hP hD hS ls hl
    rw [ej49] at hf
    refine lv_aload_n hx hb dX10_note_49 rfl (lv_at hl 0 rfl) ?_
    refine lv_aload_n hx hb dX10_note_50 rfl (lv_at hl 0 rfl) ?_
    refine va_get (D := D) (ci := 10) (v := .ref (h 23)) (C := RX10) (T := TX10) (N := 38) hx hb hts in_X10 hown hK hP 0 rfl rfl 23 (by decide) g_56 (fun _ h9 => h9) rfl dX10_note_51 ?_
    refine lv_bipush (v := 74) hx hb dX10_note_54 (by decide) ?_
    refine lv_aload_n hx hb dX10_note_56 rfl (lv_at hl 0 rfl) ?_
    refine va_get (D := D) (ci := 10) (v := .int (Im_49 24)) (C := RX10) (T := TX10) (N := 38) hx hb hts in_X10 hown hK hP 0 rfl rfl 24 (by decide) g_141 (fun _ h9 => h9) rfl dX10_note_57 ?_
    refine lv_imul hx hb dX10_note_60 ?_
    obtain ⟨I2, V3, qr1, hf⟩ := bd2 hf
    have hFc := xfree hD hS hA
    refine va_callv (va_runV (As := [.ref (h 23), .int (74 * (Im_49 24))]) (rest := []) ⟨hx, hb, hml, hown, hts⟩ (c_M_layPage_book l D cs o h _ Im_49 Vm_49 (74 * (Im_49 24)) f _ qr1) w_layPage_164 ⟨xP_moved, va_recv hK hP (ci := 10) (q0 := 0) rfl rfl, fun U hU hW => ⟨rfl, by rw [hU], by rw [hU]; exact hP, va_K.moved hW.alike hK, hD.weaken (fun _ _ _ _ => trivial)⟩⟩ rfl rfl hl.1 rfl (lv_room (Nat.le_of_ble_eq_true rfl)) dX10_note_61 ⟨Nat.zero_le _, Nat.zero_le _⟩) hS (fun q _ h9 => hFc q h9) hFc (fun u t H1 locs ht hvm hw hB hz1 hk1 hS => ?_)
    rw [hw] at hB
    obtain ⟨hP1, hK1, hD1⟩ := hB
    have hP : va_P D vwCl (w_M cs o h I2 V3) H1 := by rw [← ht]; exact hP1
    have hD : va_D A (w_M cs o h I2 V3) := hD1.weaken (fun _ q _ h9 => hFc q.1 h9)
    refine lv_aload_n hx hb dX10_note_64 rfl (lv_at hl 0 rfl) ?_
    refine lv_dup hx hb dX10_note_65 rfl ?_
    refine va_get (D := D) (ci := 10) (v := .int (I2 24)) (C := RX10) (T := TX10) (N := 38) hx hb hts in_X10 hown hK hP 0 rfl rfl 24 (by decide) g_141 (fun _ h9 => h9) rfl dX10_note_66 ?_
    refine lv_iconst (v := 1) hx hb dX10_note_69 (by decide) ?_
    refine lv_iadd hx hb dX10_note_70 ?_
    refine va_put (D := D) (ci := 10) (v := .int ((I2 24) + 1)) (ty := .int) (C := RX10) (T := TX10) (N := 38) hx hb hts in_X10 tyX10 tyX10_ok nmX10 hown hK hP hD hS 0 rfl rfl 24 (by decide) g_141 (fun _ h9 => h9) rfl (by decide +kernel) rfl rfl (Nat.le_of_ble_eq_true rfl) dX10_note_71 (fun H locs hP hD hS => ?_)
    obtain ⟨I4, eI4, hf⟩ := nme hf
    have hP : va_P D vwCl (w_M cs o h I4 V3) H := by rw [eI4]; exact hP
    have hD : va_D A (w_M cs o h I4 V3) := by rw [eI4]; exact hD
    exact hret I4 V3 _ _ 74 _ hf hP hD hS dX10_note_74
  refine lv_icmp_ne (tgt := 49) hx hb dX10_note_6 (by decide) (fun c6 => ?_) (fun c6 => ?_)
  · replace hf := im c6 hf
    exact J49 I V hf _ _ hP hD hS _ (lv_sub hl [0] rfl)
  · replace hf := ip c6 hf
    refine lv_iconst (v := 0) hx hb dX10_note_9 (by decide) ?_
    refine lv_istore_n (lv' := [(1, .int 0), (0, .ref o)]) hx hb dX10_note_10 rfl hl (by decide) rfl (fun ls hl => ?_)
    have L11 : ∀ (k_11 : FV → Option (FI × FV)) (hk_11 : ∀ (Vm_11 : FV), k_11 Vm_11 = some out → ∀ (H : Heap) (locs : List Loc), va_P D vwCl (w_M cs o h I Vm_11) H → va_D A (w_M cs o h I Vm_11) → va_S A s.heap H locs → ∀ ls : Array Slot, lv_has ls 2 [(0, .ref o)] → W p l e rm_M_note s m args below meth c H locs 0 0 Q (F0 m 39 ls [])), ∀ (n_11 : Nat) (x1_11 : Int32) (Vm_11 : FV), M_note_L11 f k_11 n_11 x1_11 Vm_11 = some out → ∀ (H : Heap) (locs : List Loc), va_P D vwCl (w_M cs o h I Vm_11) H → va_D A (w_M cs o h I Vm_11) → va_S A s.heap H locs → ∀ ls : Array Slot, lv_has ls 2 [(0, .ref o), (1, .int x1_11)] → W p l e rm_M_note s m args below meth c H locs 0 0 Q (F0 m 11 ls []) := by
      intro k_11 hk_11 n_11
      induction n_11 with
      | zero => intro x1_11 Vm_11 hf; rw [M_note_L11] at hf; cases hf
      | succ n_11 ih_11 =>
        intro x1_11 Vm_11 hf H locs hP hD hS ls hl
        rw [M_note_L11] at hf
        refine lv_iload_n hx hb dX10_note_11 rfl (lv_at hl 1 rfl) ?_
        refine lv_sipush (v := 666) hx hb dX10_note_12 (by decide) ?_
        refine lv_icmp_ge (tgt := 39) hx hb dX10_note_15 (by decide) (fun c15 => ?_) (fun c15 => ?_)
        · replace hf := ip c15 hf
          exact hk_11 Vm_11 hf _ _ hP hD hS _ (lv_sub hl [0] rfl)
        · replace hf := im c15 hf
          refine lv_aload_n hx hb dX10_note_18 rfl (lv_at hl 0 rfl) ?_
          refine va_get (D := D) (ci := 10) (v := .ref (h 23)) (C := RX10) (T := TX10) (N := 38) hx hb hts in_X10 hown hK hP 0 rfl rfl 23 (by decide) g_56 (fun _ h9 => h9) rfl dX10_note_19 ?_
          refine lv_iload_n hx hb dX10_note_22 rfl (lv_at hl 1 rfl) ?_
          refine lv_aload_n hx hb dX10_note_23 rfl (lv_at hl 0 rfl) ?_
          refine va_get (D := D) (ci := 10) (v := .ref (h 23)) (C := RX10) (T := TX10) (N := 38) hx hb hts in_X10 hown hK hP 0 rfl rfl 23 (by decide) g_56 (fun _ h9 => h9) rfl dX10_note_24 ?_
          refine lv_iload_n hx hb dX10_note_27 rfl (lv_at hl 1 rfl) ?_
          refine lv_bipush (v := 74) hx hb dX10_note_28 (by decide) ?_
          refine lv_iadd hx hb dX10_note_30 ?_
          obtain ⟨c31, hf⟩ := gd hf
          refine va_iald (f := (Vm_11 23)) hx hb hK hP 16 0 rfl rfl c31 dX10_note_31 ?_
          obtain ⟨c32, hf⟩ := gd hf
          refine va_iast (f := (Vm_11 23)) hx hb hK hP hD hS 16 0 rfl rfl c32 dX10_note_32 (fun H locs hP hD hS => ?_)
          obtain ⟨V5, eV5, hf⟩ := nme hf
          have hP : va_P D vwCl (w_M cs o h I V5) H := by rw [eV5]; exact hP
          have hD : va_D A (w_M cs o h I V5) := by rw [eV5]; exact hD
          refine lv_iinc (v := (x1_11 + 1)) (lv' := [(1, .int (x1_11 + 1)), (0, .ref o)]) hx hb dX10_note_33 hl (k := 1) rfl (by rfl) (by decide) rfl (fun ls hl => ?_)
          refine lv_goto (tgt := 11) hx hb dX10_note_36 (by decide) ?_
          exact ih_11 (x1_11 + 1) V5 hf _ _ hP hD hS _ (lv_sub hl [1, 0] rfl)
    refine L11 _ (fun Vm_11 hf H locs hP hD hS ls hl => ?_) f 0 V hf _ _ hP hD hS _ (lv_sub hl [1, 0] rfl)
    refine lv_aload_n hx hb dX10_note_39 rfl (lv_at hl 0 rfl) ?_
    refine lv_dup hx hb dX10_note_40 rfl ?_
    refine va_get (D := D) (ci := 10) (v := .int (I 24)) (C := RX10) (T := TX10) (N := 38) hx hb hts in_X10 hown hK hP 0 rfl rfl 24 (by decide) g_141 (fun _ h9 => h9) rfl dX10_note_41 ?_
    refine lv_iconst (v := 1) hx hb dX10_note_44 (by decide) ?_
    refine lv_isub hx hb dX10_note_45 ?_
    refine va_put (D := D) (ci := 10) (v := .int ((I 24) - 1)) (ty := .int) (C := RX10) (T := TX10) (N := 38) hx hb hts in_X10 tyX10 tyX10_ok nmX10 hown hK hP hD hS 0 rfl rfl 24 (by decide) g_141 (fun _ h9 => h9) rfl (by decide +kernel) rfl rfl (Nat.le_of_ble_eq_true rfl) dX10_note_46 (fun H locs hP hD hS => ?_)
    obtain ⟨I6, eI6, hf⟩ := nme hf
    have hP : va_P D vwCl (w_M cs o h I6 Vm_11) H := by rw [eI6]; exact hP
    have hD : va_D A (w_M cs o h I6 Vm_11) := by rw [eI6]; exact hD
    exact J49 I6 Vm_11 hf _ _ hP hD hS _ (lv_sub hl [0] rfl)
set_option maxHeartbeats 4000000 in
set_option maxRecDepth 100000 in
theorem c_M_note (l : Launch) (D : va_G) (cs : Nat → ClassId) (o : Nat) (h : Nat → Nat) (sz : Nat) (I : FI) (V : FV) (f : Nat) (out : FI × FV) (hf : M_note f I V = some out) : Met l yX10_note wsX10_note rm_M_note (va_Pc [.ref o] (xP D cs (w_M cs o h I V) sz)) (va_Qv (fun u => u = out) (fun (u : FI × FV) t => xA D cs (va_A (w_M cs o h I V) sz) (w_M cs o h u.1 u.2) t) (va_A (w_M cs o h I V) sz)) 0 0 (va_A (w_M cs o h I V) sz) := by
  refine Met.ofW (cc := cX10_note) (maxL := 2) (ret := none) (by decide) rfl ?_
  intro p e s m args below meth c s₁ B hml hv
  obtain ⟨ha, hsz, hP, hK, hD0⟩ := hv
  have hx := B.exec
  have hb := B.bytes
  have hr := B.returns
  have hts := atoms_spec (ws := wsX10_note) B.pre
  have hown : s.vm.findClass RX10 = some m.cls := findClass_of_methodNamed B.named
  have hlocks := B.notSynchronized
  have in_X10 : ∀ w ∈ u_ws RX10 TX10 38, w ∈ wsX10_note := fun w h => List.mem_cons_of_mem _ (List.mem_append_right _ h)
  have g_141 := hts (Cond.fieldLink RX10 141 "DaysLentModel" "acts" "I") (by decide +kernel)
  have g_56 := hts (Cond.fieldLink RX10 56 "DaysLentModel" "book" "[I") (by decide +kernel)
  have w_layPage_164 := cwV (R := rm_M_note) (s := s) (args := args) (rm := rm_M_layPage_book) (mc := 0) (ms := 0) 2 hts gX10_note_X10_layPage rfl rfl rfl (by decide +kernel) ⟨Nat.le_of_ble_eq_true rfl, Nat.le_of_ble_eq_true rfl⟩
  subst hsz
  have hD := hD0.self (sz := s.heap.size)
  generalize hAe : va_A (w_M cs o h I V) s.heap.size = A at hD ⊢
  have hA : ∀ q : Nat, s.heap.size ≤ q → A q := fun q h => by rw [← hAe]; exact Or.inr h
  have hl := lv_entry ([.ref o]) (n := 2) (Nat.le_of_ble_eq_true rfl)
  rw [show entryFrame m args 2 = entryFrame m ([.ref o] : List Value).toArray 2 from by rw [ha], lg_entry_eq]
  generalize (lg_sl ([.ref o]) ++ List.replicate (2 - (lg_sl ([.ref o])).length) Slot.unset).toArray = ls at hl ⊢
  generalize hQ : MQ below (va_Qv (fun u => u = out) (fun (u : FI × FV) t => xA D cs A (w_M cs o h u.1 u.2) t) A) args s 0 0 A = Q
  have hret : ∀ (Im9 : FI) (Vm9 : FV) (H : Heap) (locs : List Loc) (pc : Nat) (ls : Array Slot), some (Im9, Vm9) = some out → va_P D vwCl (w_M cs o h Im9 Vm9) H → va_D A (w_M cs o h Im9 Vm9) → va_S A s.heap H locs → decode cX10_note pc = .ok (.return_, 1) → W p l e rm_M_note s m args below meth c H locs 0 0 Q (F0 m pc ls []) := by
    intro Im9 Vm9 H locs pc ls hf hP hD hS hd
    rw [← hQ]
    exact W.vret hx hb hr (fun t ht hW => ⟨⟨(Im9, Vm9), rfl, Option.some.inj hf, by show va_P D vwCl (w_M cs o h Im9 Vm9) t.heap; rw [ht]; exact hP, va_K.moved hW.alike hK, hD⟩, hS.F ht⟩) hS.2.2 hd
  exact v_M_note hf hx hb hml hown hts in_X10 g_141 g_56 w_layPage_164 hA hP hD hK hret ls hl
def M_drop_L12 {ρ : Type} (f : Nat) (I1 : FI) (k_12 : FV → Option ρ) : Nat → Int32 → FV → Option ρ
  | 0, _, _ => none
  | n_12 + 1, x2_12, Vm_12 => (if (I1 9) ≤ x2_12 then (k_12 Vm_12) else (nm (fun (Vm_48 : FV) => if (x2_12 + 1) < 0 ∨ 12 ≤ (x2_12 + 1).toNatClampNeg then none else (if x2_12 < 0 ∨ 12 ≤ x2_12.toNatClampNeg then none else (nm (va_up Vm_48 12 (upd (Vm_48 12) x2_12.toNatClampNeg ((Vm_48 12) (x2_12 + 1).toNatClampNeg))) (fun V2 => if (x2_12 + 1) < 0 ∨ 12 ≤ (x2_12 + 1).toNatClampNeg then none else (if x2_12 < 0 ∨ 12 ≤ x2_12.toNatClampNeg then none else (nm (va_up V2 13 (upd (V2 13) x2_12.toNatClampNeg ((V2 13) (x2_12 + 1).toNatClampNeg))) (fun V3 => (M_drop_L12 f I1 k_12 n_12 (x2_12 + 1) V3)))))))) (fun j48 => if (x2_12 + 1) < 0 ∨ 12 ≤ (x2_12 + 1).toNatClampNeg then none else (if x2_12 < 0 ∨ 12 ≤ x2_12.toNatClampNeg then none else (nm (va_up Vm_12 10 (upd (Vm_12 10) x2_12.toNatClampNeg ((Vm_12 10) (x2_12 + 1).toNatClampNeg))) (fun V4 => if (x2_12 + 1) < 0 ∨ 12 ≤ (x2_12 + 1).toNatClampNeg then none else (if x2_12 < 0 ∨ 12 ≤ x2_12.toNatClampNeg then none else (nm (va_up V4 11 (upd (V4 11) x2_12.toNatClampNeg ((V4 11) (x2_12 + 1).toNatClampNeg))) (fun V5 => (j48 V5))))))))))
def M_drop (f : Nat) (x1 : Int32) (I : FI) (V : FV) : Option (FI × FV) := nm (va_up I 9 ((I 9) - 1)) (fun I1 => (M_drop_L12 f I1 (fun (Vm_12 : FV) => some (I1, Vm_12)) f x1 V))
abbrev rm_M_drop : Room := { frames := 0, cells := 0, slots := 0, locals := 0 }
set_option maxHeartbeats 4000000 in
set_option maxRecDepth 100000 in
theorem v_M_drop {l : Launch} {p : Program} {e : Env} {s : State} {m : MethodId} {args : Array Value} {below : List Frame} {meth : Method} {c : Code} {Q : State → Prop} {D : va_G} {cs : Nat → ClassId} {o : Nat} {h : Nat → Nat} {A : Nat → Prop} {I : FI} {V : FV} {x1 : Int32} {f : Nat} {out : FI × FV} (hf : M_drop f x1 I V = some out) (hx : p.tables.exec = Jvm.exec) (hb : c.code = cX10_drop) (hml : c.maxLocals = 3) (hown : s.vm.findClass RX10 = some m.cls) (hts : ∀ w ∈ wsX10_drop, w.before args s = true) (in_X10 : ∀ w ∈ u_ws RX10 TX10 38, w ∈ wsX10_drop) (g_135 : (Cond.fieldLink RX10 135 "DaysLentModel" "debts" "I").before args s = true) (g_26 : (Cond.fieldLink RX10 26 "DaysLentModel" "owed" "[I").before args s = true) (g_29 : (Cond.fieldLink RX10 29 "DaysLentModel" "owes" "[I").before args s = true) (g_32 : (Cond.fieldLink RX10 32 "DaysLentModel" "much" "[I").before args s = true) (g_35 : (Cond.fieldLink RX10 35 "DaysLentModel" "due" "[I").before args s = true) (hA : ∀ q : Nat, s.heap.size ≤ q → A q) (hP : va_P D vwCl (w_M cs o h I V) s.heap) (hD : va_D A (w_M cs o h I V)) (hK : va_K D vwCl (tyA cs) s) (hret : ∀ (Im9 : FI) (Vm9 : FV) (H : Heap) (locs : List Loc) (pc : Nat) (ls : Array Slot), some (Im9, Vm9) = some out → va_P D vwCl (w_M cs o h Im9 Vm9) H → va_D A (w_M cs o h Im9 Vm9) → va_S A s.heap H locs → decode cX10_drop pc = .ok (.return_, 1) → W p l e rm_M_drop s m args below meth c H locs 0 0 Q (F0 m pc ls [])) : ∀ ls : Array Slot, lv_has ls 3 [(0, .ref o), (1, .int x1)] → W p l e rm_M_drop s m args below meth c s.heap [] 0 0 Q (F0 m 0 ls []) := by
  intro ls hl
  have hS : va_S A s.heap s.heap [] := va_S.rf
  unfold M_drop at hf
  refine lv_aload_n hx hb dX10_drop_0 rfl (lv_at hl 0 rfl) ?_
  refine lv_dup hx hb dX10_drop_1 rfl ?_
  refine va_get (D := D) (ci := 10) (v := .int (I 9)) (C := RX10) (T := TX10) (N := 38) hx hb hts in_X10 hown hK hP 0 rfl rfl 9 (by decide) g_135 (fun _ h9 => h9) rfl dX10_drop_2 ?_
  refine lv_iconst (v := 1) hx hb dX10_drop_5 (by decide) ?_
  refine lv_isub hx hb dX10_drop_6 ?_
  refine va_put (D := D) (ci := 10) (v := .int ((I 9) - 1)) (ty := .int) (C := RX10) (T := TX10) (N := 38) hx hb hts in_X10 tyX10 tyX10_ok nmX10 hown hK hP hD hS 0 rfl rfl 9 (by decide) g_135 (fun _ h9 => h9) rfl (by decide +kernel) rfl rfl (Nat.le_of_ble_eq_true rfl) dX10_drop_7 (fun H locs hP hD hS => ?_)
  obtain ⟨I1, eI1, hf⟩ := nme hf
  have hP : va_P D vwCl (w_M cs o h I1 V) H := by rw [eI1]; exact hP
  have hD : va_D A (w_M cs o h I1 V) := by rw [eI1]; exact hD
  refine lv_iload_n hx hb dX10_drop_10 rfl (lv_at hl 1 rfl) ?_
  refine lv_istore_n (lv' := [(2, .int x1), (0, .ref o), (1, .int x1)]) hx hb dX10_drop_11 rfl hl (by decide) rfl (fun ls hl => ?_)
  have L12 : ∀ (k_12 : FV → Option (FI × FV)) (hk_12 : ∀ (Vm_12 : FV), k_12 Vm_12 = some out → ∀ (H : Heap) (locs : List Loc), va_P D vwCl (w_M cs o h I1 Vm_12) H → va_D A (w_M cs o h I1 Vm_12) → va_S A s.heap H locs → ∀ ls : Array Slot, lv_has ls 3 [] → W p l e rm_M_drop s m args below meth c H locs 0 0 Q (F0 m 82 ls [])), ∀ (n_12 : Nat) (x2_12 : Int32) (Vm_12 : FV), M_drop_L12 f I1 k_12 n_12 x2_12 Vm_12 = some out → ∀ (H : Heap) (locs : List Loc), va_P D vwCl (w_M cs o h I1 Vm_12) H → va_D A (w_M cs o h I1 Vm_12) → va_S A s.heap H locs → ∀ ls : Array Slot, lv_has ls 3 [(0, .ref o), (2, .int x2_12)] → W p l e rm_M_drop s m args below meth c H locs 0 0 Q (F0 m 12 ls []) := by
    intro k_12 hk_12 n_12
    induction n_12 with
    | zero => intro x2_12 Vm_12 hf; rw [M_drop_L12] at hf; cases hf
    | succ n_12 ih_12 =>
      intro x2_12 Vm_12 hf H locs hP hD hS ls hl
      rw [M_drop_L12] at hf
      refine lv_iload_n hx hb dX10_drop_12 rfl (lv_at hl 1 rfl) ?_
      refine lv_aload_n hx hb dX10_drop_13 rfl (lv_at hl 0 rfl) ?_
      refine va_get (D := D) (ci := 10) (v := .int (I1 9)) (C := RX10) (T := TX10) (N := 38) hx hb hts in_X10 hown hK hP 0 rfl rfl 9 (by decide) g_135 (fun _ h9 => h9) rfl dX10_drop_14 ?_
      refine lv_icmp_ge (tgt := 82) hx hb dX10_drop_17 (by decide) (fun c17 => ?_) (fun c17 => ?_)
      · replace hf := ip c17 hf
        exact hk_12 Vm_12 hf _ _ hP hD hS _ (lv_sub hl [] rfl)
      · replace hf := im c17 hf
        obtain ⟨j48, ej48, hf⟩ := nme hf
        have J48 : ∀ (Vm_48 : FV), j48 Vm_48 = some out → ∀ (H : Heap) (locs : List Loc), va_P D vwCl (w_M cs o h I1 Vm_48) H → va_D A (w_M cs o h I1 Vm_48) → va_S A s.heap H locs → ∀ ls : Array Slot, lv_has ls 3 [(0, .ref o), (2, .int x2_12)] → W p l e rm_M_drop s m args below meth c H locs 0 0 Q (F0 m 48 ls []) := by
          intro Vm_48 hf H locs hP hD hS ls hl
          rw [ej48] at hf
          refine lv_aload_n hx hb dX10_drop_48 rfl (lv_at hl 0 rfl) ?_
          refine va_get (D := D) (ci := 10) (v := .ref (h 12)) (C := RX10) (T := TX10) (N := 38) hx hb hts in_X10 hown hK hP 0 rfl rfl 12 (by decide) g_32 (fun _ h9 => h9) rfl dX10_drop_49 ?_
          refine lv_iload_n hx hb dX10_drop_52 rfl (lv_at hl 1 rfl) ?_
          refine lv_aload_n hx hb dX10_drop_53 rfl (lv_at hl 0 rfl) ?_
          refine va_get (D := D) (ci := 10) (v := .ref (h 12)) (C := RX10) (T := TX10) (N := 38) hx hb hts in_X10 hown hK hP 0 rfl rfl 12 (by decide) g_32 (fun _ h9 => h9) rfl dX10_drop_54 ?_
          refine lv_iload_n hx hb dX10_drop_57 rfl (lv_at hl 1 rfl) ?_
          refine lv_iconst (v := 1) hx hb dX10_drop_58 (by decide) ?_
          refine lv_iadd hx hb dX10_drop_59 ?_
          obtain ⟨c60, hf⟩ := gd hf
          refine va_iald (f := (Vm_48 12)) hx hb hK hP 8 0 rfl rfl c60 dX10_drop_60 ?_
          obtain ⟨c61, hf⟩ := gd hf
          refine va_iast (f := (Vm_48 12)) hx hb hK hP hD hS 8 0 rfl rfl c61 dX10_drop_61 (fun H locs hP hD hS => ?_)
          obtain ⟨V2, eV2, hf⟩ := nme hf
          have hP : va_P D vwCl (w_M cs o h I1 V2) H := by rw [eV2]; exact hP
          have hD : va_D A (w_M cs o h I1 V2) := by rw [eV2]; exact hD
          refine lv_aload_n hx hb dX10_drop_62 rfl (lv_at hl 0 rfl) ?_
          refine va_get (D := D) (ci := 10) (v := .ref (h 13)) (C := RX10) (T := TX10) (N := 38) hx hb hts in_X10 hown hK hP 0 rfl rfl 13 (by decide) g_35 (fun _ h9 => h9) rfl dX10_drop_63 ?_
          refine lv_iload_n hx hb dX10_drop_66 rfl (lv_at hl 1 rfl) ?_
          refine lv_aload_n hx hb dX10_drop_67 rfl (lv_at hl 0 rfl) ?_
          refine va_get (D := D) (ci := 10) (v := .ref (h 13)) (C := RX10) (T := TX10) (N := 38) hx hb hts in_X10 hown hK hP 0 rfl rfl 13 (by decide) g_35 (fun _ h9 => h9) rfl dX10_drop_68 ?_
          refine lv_iload_n hx hb dX10_drop_71 rfl (lv_at hl 1 rfl) ?_
          refine lv_iconst (v := 1) hx hb dX10_drop_72 (by decide) ?_
          refine lv_iadd hx hb dX10_drop_73 ?_
          obtain ⟨c74, hf⟩ := gd hf
          refine va_iald (f := (V2 13)) hx hb hK hP 9 0 rfl rfl c74 dX10_drop_74 ?_
          obtain ⟨c75, hf⟩ := gd hf
          refine va_iast (f := (V2 13)) hx hb hK hP hD hS 9 0 rfl rfl c75 dX10_drop_75 (fun H locs hP hD hS => ?_)
          obtain ⟨V3, eV3, hf⟩ := nme hf
          have hP : va_P D vwCl (w_M cs o h I1 V3) H := by rw [eV3]; exact hP
          have hD : va_D A (w_M cs o h I1 V3) := by rw [eV3]; exact hD
          refine lv_iinc (v := (x2_12 + 1)) (lv' := [(2, .int (x2_12 + 1)), (0, .ref o)]) hx hb dX10_drop_76 hl (k := 1) rfl (by rfl) (by decide) rfl (fun ls hl => ?_)
          refine lv_goto (tgt := 12) hx hb dX10_drop_79 (by decide) ?_
          exact ih_12 (x2_12 + 1) V3 hf _ _ hP hD hS _ (lv_sub hl [1, 0] rfl)
        refine lv_aload_n hx hb dX10_drop_20 rfl (lv_at hl 0 rfl) ?_
        refine va_get (D := D) (ci := 10) (v := .ref (h 10)) (C := RX10) (T := TX10) (N := 38) hx hb hts in_X10 hown hK hP 0 rfl rfl 10 (by decide) g_26 (fun _ h9 => h9) rfl dX10_drop_21 ?_
        refine lv_iload_n hx hb dX10_drop_24 rfl (lv_at hl 1 rfl) ?_
        refine lv_aload_n hx hb dX10_drop_25 rfl (lv_at hl 0 rfl) ?_
        refine va_get (D := D) (ci := 10) (v := .ref (h 10)) (C := RX10) (T := TX10) (N := 38) hx hb hts in_X10 hown hK hP 0 rfl rfl 10 (by decide) g_26 (fun _ h9 => h9) rfl dX10_drop_26 ?_
        refine lv_iload_n hx hb dX10_drop_29 rfl (lv_at hl 1 rfl) ?_
        refine lv_iconst (v := 1) hx hb dX10_drop_30 (by decide) ?_
        refine lv_iadd hx hb dX10_drop_31 ?_
        obtain ⟨c32, hf⟩ := gd hf
        refine va_iald (f := (Vm_12 10)) hx hb hK hP 6 0 rfl rfl c32 dX10_drop_32 ?_
        obtain ⟨c33, hf⟩ := gd hf
        refine va_iast (f := (Vm_12 10)) hx hb hK hP hD hS 6 0 rfl rfl c33 dX10_drop_33 (fun H locs hP hD hS => ?_)
        obtain ⟨V4, eV4, hf⟩ := nme hf
        have hP : va_P D vwCl (w_M cs o h I1 V4) H := by rw [eV4]; exact hP
        have hD : va_D A (w_M cs o h I1 V4) := by rw [eV4]; exact hD
        refine lv_aload_n hx hb dX10_drop_34 rfl (lv_at hl 0 rfl) ?_
        refine va_get (D := D) (ci := 10) (v := .ref (h 11)) (C := RX10) (T := TX10) (N := 38) hx hb hts in_X10 hown hK hP 0 rfl rfl 11 (by decide) g_29 (fun _ h9 => h9) rfl dX10_drop_35 ?_
        refine lv_iload_n hx hb dX10_drop_38 rfl (lv_at hl 1 rfl) ?_
        refine lv_aload_n hx hb dX10_drop_39 rfl (lv_at hl 0 rfl) ?_
        refine va_get (D := D) (ci := 10) (v := .ref (h 11)) (C := RX10) (T := TX10) (N := 38) hx hb hts in_X10 hown hK hP 0 rfl rfl 11 (by decide) g_29 (fun _ h9 => h9) rfl dX10_drop_40 ?_
        refine lv_iload_n hx hb dX10_drop_43 rfl (lv_at hl 1 rfl) ?_
        refine lv_iconst (v := 1) hx hb dX10_drop_44 (by decide) ?_
        refine lv_iadd hx hb dX10_drop_45 ?_
        obtain ⟨c46, hf⟩ := gd hf
        refine va_iald (f := (V4 11)) hx hb hK hP 7 0 rfl rfl c46 dX10_drop_46 ?_
        obtain ⟨c47, hf⟩ := gd hf
        refine va_iast (f := (V4 11)) hx hb hK hP hD hS 7 0 rfl rfl c47 dX10_drop_47 (fun H locs hP hD hS => ?_)
        obtain ⟨V5, eV5, hf⟩ := nme hf
        have hP : va_P D vwCl (w_M cs o h I1 V5) H := by rw [eV5]; exact hP
        have hD : va_D A (w_M cs o h I1 V5) := by rw [eV5]; exact hD
        exact J48 V5 hf _ _ hP hD hS _ (lv_sub hl [0, 1] rfl)
  refine L12 _ (fun Vm_12 hf H locs hP hD hS ls hl => ?_) f x1 V hf _ _ hP hD hS _ (lv_sub hl [1, 0] rfl)
  exact hret I1 Vm_12 _ _ 82 _ hf hP hD hS dX10_drop_82
set_option maxHeartbeats 4000000 in
set_option maxRecDepth 100000 in
theorem c_M_drop (l : Launch) (D : va_G) (cs : Nat → ClassId) (o : Nat) (h : Nat → Nat) (sz : Nat) (I : FI) (V : FV) (x1 : Int32) (f : Nat) (out : FI × FV) (hf : M_drop f x1 I V = some out) : Met l yX10_drop wsX10_drop rm_M_drop (va_Pc [.ref o, .int x1] (xP D cs (w_M cs o h I V) sz)) (va_Qv (fun u => u = out) (fun (u : FI × FV) t => xA D cs (va_A (w_M cs o h I V) sz) (w_M cs o h u.1 u.2) t) (va_A (w_M cs o h I V) sz)) 0 0 (va_A (w_M cs o h I V) sz) := by
  refine Met.ofW (cc := cX10_drop) (maxL := 3) (ret := none) (by decide) rfl ?_
  intro p e s m args below meth c s₁ B hml hv
  obtain ⟨ha, hsz, hP, hK, hD0⟩ := hv
  have hx := B.exec
  have hb := B.bytes
  have hr := B.returns
  have hts := atoms_spec (ws := wsX10_drop) B.pre
  have hown : s.vm.findClass RX10 = some m.cls := findClass_of_methodNamed B.named
  have hlocks := B.notSynchronized
  have in_X10 : ∀ w ∈ u_ws RX10 TX10 38, w ∈ wsX10_drop := fun w h => List.mem_cons_of_mem _ (List.mem_append_right _ h)
  have g_135 := hts (Cond.fieldLink RX10 135 "DaysLentModel" "debts" "I") (by decide +kernel)
  have g_26 := hts (Cond.fieldLink RX10 26 "DaysLentModel" "owed" "[I") (by decide +kernel)
  have g_29 := hts (Cond.fieldLink RX10 29 "DaysLentModel" "owes" "[I") (by decide +kernel)
  have g_32 := hts (Cond.fieldLink RX10 32 "DaysLentModel" "much" "[I") (by decide +kernel)
  have g_35 := hts (Cond.fieldLink RX10 35 "DaysLentModel" "due" "[I") (by decide +kernel)
  subst hsz
  have hD := hD0.self (sz := s.heap.size)
  generalize hAe : va_A (w_M cs o h I V) s.heap.size = A at hD ⊢
  have hA : ∀ q : Nat, s.heap.size ≤ q → A q := fun q h => by rw [← hAe]; exact Or.inr h
  have hl := lv_entry ([.ref o, .int x1]) (n := 3) (Nat.le_of_ble_eq_true rfl)
  rw [show entryFrame m args 3 = entryFrame m ([.ref o, .int x1] : List Value).toArray 3 from by rw [ha], lg_entry_eq]
  generalize (lg_sl ([.ref o, .int x1]) ++ List.replicate (3 - (lg_sl ([.ref o, .int x1])).length) Slot.unset).toArray = ls at hl ⊢
  generalize hQ : MQ below (va_Qv (fun u => u = out) (fun (u : FI × FV) t => xA D cs A (w_M cs o h u.1 u.2) t) A) args s 0 0 A = Q
  have hret : ∀ (Im9 : FI) (Vm9 : FV) (H : Heap) (locs : List Loc) (pc : Nat) (ls : Array Slot), some (Im9, Vm9) = some out → va_P D vwCl (w_M cs o h Im9 Vm9) H → va_D A (w_M cs o h Im9 Vm9) → va_S A s.heap H locs → decode cX10_drop pc = .ok (.return_, 1) → W p l e rm_M_drop s m args below meth c H locs 0 0 Q (F0 m pc ls []) := by
    intro Im9 Vm9 H locs pc ls hf hP hD hS hd
    rw [← hQ]
    exact W.vret hx hb hr (fun t ht hW => ⟨⟨(Im9, Vm9), rfl, Option.some.inj hf, by show va_P D vwCl (w_M cs o h Im9 Vm9) t.heap; rw [ht]; exact hP, va_K.moved hW.alike hK, hD⟩, hS.F ht⟩) hS.2.2 hd
  exact v_M_drop hf hx hb hml hown hts in_X10 g_135 g_26 g_29 g_32 g_35 hA hP hD hK hret ls hl
def M_priceOf (f : Nat) (x1 : Int32) (x2 : Int32) (I : FI) (V : FV) : Option (Int32) := if x1 < 0 ∨ 6 ≤ x1.toNatClampNeg then none else (some (((V 6) x1.toNatClampNeg) * ((x2 + 1) / 2)))
abbrev rm_M_priceOf : Room := { frames := 0, cells := 0, slots := 0, locals := 0 }
set_option maxHeartbeats 4000000 in
set_option maxRecDepth 100000 in
theorem v_M_priceOf {l : Launch} {p : Program} {e : Env} {s : State} {m : MethodId} {args : Array Value} {below : List Frame} {meth : Method} {c : Code} {Q : State → Prop} {D : va_G} {cs : Nat → ClassId} {o : Nat} {h : Nat → Nat} {I : FI} {V : FV} {x1 : Int32} {x2 : Int32} {f : Nat} {out : Int32} (hf : M_priceOf f x1 x2 I V = some out) (hx : p.tables.exec = Jvm.exec) (hb : c.code = cX10_priceOf) (hml : c.maxLocals = 3) (hown : s.vm.findClass RX10 = some m.cls) (hts : ∀ w ∈ wsX10_priceOf, w.before args s = true) (in_X10 : ∀ w ∈ u_ws RX10 TX10 38, w ∈ wsX10_priceOf) (g_16 : (Cond.fieldLink RX10 16 "DaysLentModel" "asks" "[I").before args s = true) (hP : va_P D vwCl (w_M cs o h I V) s.heap) (hK : va_K D vwCl (tyA cs) s) (hret : ∀ (v : Int32) (pc : Nat) (ls : Array Slot), some v = some out → decode cX10_priceOf pc = .ok (.ireturn, 1) → W p l e rm_M_priceOf s m args below meth c s.heap [] 0 0 Q (F0 m pc ls [.int v])) : ∀ ls : Array Slot, lv_has ls 3 [(0, .ref o), (1, .int x1), (2, .int x2)] → W p l e rm_M_priceOf s m args below meth c s.heap [] 0 0 Q (F0 m 0 ls []) := by
  intro ls hl
  unfold M_priceOf at hf
  refine lv_aload_n hx hb dX10_priceOf_0 rfl (lv_at hl 0 rfl) ?_
  refine va_get (D := D) (ci := 10) (v := .ref (h 6)) (C := RX10) (T := TX10) (N := 38) hx hb hts in_X10 hown hK hP 0 rfl rfl 6 (by decide) g_16 (fun _ h9 => h9) rfl dX10_priceOf_1 ?_
  refine lv_iload_n hx hb dX10_priceOf_4 rfl (lv_at hl 1 rfl) ?_
  obtain ⟨c5, hf⟩ := gd hf
  refine va_iald (f := (V 6)) hx hb hK hP 3 0 rfl rfl c5 dX10_priceOf_5 ?_
  refine lv_iload_n hx hb dX10_priceOf_6 rfl (lv_at hl 2 rfl) ?_
  refine lv_iconst (v := 1) hx hb dX10_priceOf_7 (by decide) ?_
  refine lv_iadd hx hb dX10_priceOf_8 ?_
  refine lv_iconst (v := 2) hx hb dX10_priceOf_9 (by decide) ?_
  refine lv_idiv hx hb dX10_priceOf_10 (by decide) ?_
  refine lv_imul hx hb dX10_priceOf_11 ?_
  exact hret (((V 6) x1.toNatClampNeg) * ((x2 + 1) / 2)) 12 _ hf dX10_priceOf_12
set_option maxHeartbeats 4000000 in
set_option maxRecDepth 100000 in
theorem c_M_priceOf (l : Launch) (D : va_G) (cs : Nat → ClassId) (o : Nat) (h : Nat → Nat) (I : FI) (V : FV) (x1 : Int32) (x2 : Int32) (f : Nat) (out : Int32) (hf : M_priceOf f x1 x2 I V = some out) : Met l yX10_priceOf wsX10_priceOf rm_M_priceOf (va_Pc [.ref o, .int x1, .int x2] (xR D cs (w_M cs o h I V))) (vp_Si (fun r => r = out)) 0 0 (fun _ => False) := by
  refine Met.ofW (cc := cX10_priceOf) (maxL := 3) (ret := (some .int)) (by decide) rfl ?_
  intro p e s m args below meth c s₁ B hml hv
  obtain ⟨ha, hP, hK⟩ := hv
  have hx := B.exec
  have hb := B.bytes
  have hr := B.returns
  have hts := atoms_spec (ws := wsX10_priceOf) B.pre
  have hown : s.vm.findClass RX10 = some m.cls := findClass_of_methodNamed B.named
  have hlocks := B.notSynchronized
  have in_X10 : ∀ w ∈ u_ws RX10 TX10 38, w ∈ wsX10_priceOf := fun w h => List.mem_cons_of_mem _ (List.mem_append_right _ h)
  have g_16 := hts (Cond.fieldLink RX10 16 "DaysLentModel" "asks" "[I") (by decide +kernel)
  have hl := lv_entry ([.ref o, .int x1, .int x2]) (n := 3) (Nat.le_of_ble_eq_true rfl)
  rw [show entryFrame m args 3 = entryFrame m ([.ref o, .int x1, .int x2] : List Value).toArray 3 from by rw [ha], lg_entry_eq]
  generalize (lg_sl ([.ref o, .int x1, .int x2]) ++ List.replicate (3 - (lg_sl ([.ref o, .int x1, .int x2])).length) Slot.unset).toArray = ls at hl ⊢
  generalize hQ : MQ below (vp_Si (fun r => r = out)) args s 0 0 (fun _ => False) = Q
  have hret : ∀ (v : Int32) (pc : Nat) (ls : Array Slot), some v = some out → decode cX10_priceOf pc = .ok (.ireturn, 1) → W p l e rm_M_priceOf s m args below meth c s.heap [] 0 0 Q (F0 m pc ls [.int v]) := by
    intro v pc ls hf hd
    rw [← hQ]
    exact W.iret (v := v) hx hb hr (fun t ht hW => ⟨v, rfl, Option.some.inj hf, ht⟩) (fun q h => by cases h) hd
  exact v_M_priceOf hf hx hb hml hown hts in_X10 g_16 hP hK hret ls hl
