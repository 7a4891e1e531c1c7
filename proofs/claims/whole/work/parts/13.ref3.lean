def M_lend (f : Nat) (x1 : Int32) (x2 : Int32) (x3 : Int32) (x4 : Int32) (I : FI) (V : FV) : Option (Int32 × FI × FV) := nm (va_up I 0 0) (fun I1 => ob1 (M_noOne f x1 I1 V) (fun zr2 => (if zr2 = 0 then ob1 (M_noOne f x2 I1 V) (fun zr3 => (if zr3 = 0 then (if x1 = x2 then some ((-2), I1, V) else ob1 (M_in f (x3.toInt64) 1 99) (fun zr4 => (if zr4 = 0 then some ((-2), I1, V) else ob1 (M_in f (x4.toInt64) 1 9) (fun zr5 => (if zr5 = 0 then some ((-2), I1, V) else ob1 (M_priceOf f x1 x3 I1 V) (fun zr6 => if x1 < 0 ∨ 6 ≤ x1.toNatClampNeg then none else ((if ((V 5) x1.toNatClampNeg) < x3 then some ((-3), I1, V) else if x1 < 0 ∨ 6 ≤ x1.toNatClampNeg then none else ((if ((V 7) x1.toNatClampNeg) = 0 then if x2 < 0 ∨ 6 ≤ x2.toNatClampNeg then none else ((if ((V 7) x2.toNatClampNeg) = 0 then if x2 < 0 ∨ 6 ≤ x2.toNatClampNeg then none else ((if ((V 8) x2.toNatClampNeg) = 0 then ob1 (M_owesAll f x2 I1 V) (fun zr7 => (if (zr7 + (x3 + zr6)) ≤ 80 then (if (I1 9) = 12 then some ((-4), I1, V) else (nm (fun (Im_165 : FI) (Vm_165 : FV) => if (Im_165 9) < 0 ∨ 12 ≤ (Im_165 9).toNatClampNeg then none else (nm (va_up Vm_165 11 (upd (Vm_165 11) (Im_165 9).toNatClampNeg x2)) (fun V8 => if (Im_165 9) < 0 ∨ 12 ≤ (Im_165 9).toNatClampNeg then none else (nm (va_up V8 12 (upd (V8 12) (Im_165 9).toNatClampNeg (x3 + zr6))) (fun V9 => if (Im_165 9) < 0 ∨ 12 ≤ (Im_165 9).toNatClampNeg then none else (nm (va_up V9 13 (upd (V9 13) (Im_165 9).toNatClampNeg ((Im_165 14) + x4))) (fun V10 => nm (va_up Im_165 9 ((Im_165 9) + 1)) (fun I11 => some ((x3 + zr6), I11, V10))))))))) (fun j165 => ob2 (M_note f I1 V) (fun I13 V14 => if x1 < 0 ∨ 6 ≤ x1.toNatClampNeg then none else (if x1 < 0 ∨ 6 ≤ x1.toNatClampNeg then none else (nm (va_up V14 5 (upd (V14 5) x1.toNatClampNeg (((V14 5) x1.toNatClampNeg) - x3))) (fun V15 => if x2 < 0 ∨ 6 ≤ x2.toNatClampNeg then none else (if x2 < 0 ∨ 6 ≤ x2.toNatClampNeg then none else (nm (va_up V15 5 (upd (V15 5) x2.toNatClampNeg (((V15 5) x2.toNatClampNeg) + x3))) (fun V16 => if (I13 9) < 0 ∨ 12 ≤ (I13 9).toNatClampNeg then none else (nm (va_up V16 10 (upd (V16 10) (I13 9).toNatClampNeg x1)) (fun V17 => (j165 I13 V17))))))))))))) else some ((-3), I1, V))) else some ((-3), I1, V))) else some ((-3), I1, V))) else some ((-3), I1, V))))))))))) else some ((-1), I1, V))) else some ((-1), I1, V))))
abbrev rm_M_lend : Room := { frames := 2, cells := 0, slots := 0, locals := 46 }
set_option maxHeartbeats 4000000 in
set_option maxRecDepth 100000 in
theorem v_M_lend {l : Launch} {p : Program} {e : Env} {s : State} {m : MethodId} {args : Array Value} {below : List Frame} {meth : Method} {c : Code} {Q : State → Prop} {D : va_G} {cs : Nat → ClassId} {o : Nat} {h : Nat → Nat} {A : Nat → Prop} {I : FI} {V : FV} {x1 : Int32} {x2 : Int32} {x3 : Int32} {x4 : Int32} {f : Nat} {out : Int32 × FI × FV} (hf : M_lend f x1 x2 x3 x4 I V = some out) (hx : p.tables.exec = Jvm.exec) (hb : c.code = cX10_lend) (hml : c.maxLocals = 6) (hown : s.vm.findClass RX10 = some m.cls) (hts : ∀ w ∈ wsX10_lend, w.before args s = true) (in_X10 : ∀ w ∈ u_ws RX10 TX10 38, w ∈ wsX10_lend) (g_92 : (Cond.fieldLink RX10 92 "DaysLentModel" "thrown" "I").before args s = true) (w_noOne_151 : CallW rm_M_lend s args RX10 RX10 151 yX10_noOne cX10_noOne 2 (some .boolean) wsX10_noOne rm_M_noOne 0 0 1) (k_168 : (Cond.constantLong RX10 168 (99)).before args s = true) (w_in_99 : CallB rm_M_lend s args RX10 99 yX10_in cX10_in 6 (some .boolean) wsX10_in rm_M_in 0 0 3 ∧ (Cond.static yX10_in).before args s = true) (k_158 : (Cond.constantLong RX10 158 (9)).before args s = true) (w_priceOf_170 : CallW rm_M_lend s args RX10 RX10 170 yX10_priceOf cX10_priceOf 3 (some .int) wsX10_priceOf rm_M_priceOf 0 0 2) (g_13 : (Cond.fieldLink RX10 13 "DaysLentModel" "mornings" "[I").before args s = true) (g_19 : (Cond.fieldLink RX10 19 "DaysLentModel" "dead" "[Z").before args s = true) (g_23 : (Cond.fieldLink RX10 23 "DaysLentModel" "broken" "[Z").before args s = true) (w_owesAll_144 : CallW rm_M_lend s args RX10 RX10 144 yX10_owesAll cX10_owesAll 4 (some .int) wsX10_owesAll rm_M_owesAll 0 0 1) (g_135 : (Cond.fieldLink RX10 135 "DaysLentModel" "debts" "I").before args s = true) (w_note_173 : CallW rm_M_lend s args RX10 RX10 173 yX10_note cX10_note 2 none wsX10_note rm_M_note 0 0 0) (g_26 : (Cond.fieldLink RX10 26 "DaysLentModel" "owed" "[I").before args s = true) (g_29 : (Cond.fieldLink RX10 29 "DaysLentModel" "owes" "[I").before args s = true) (g_32 : (Cond.fieldLink RX10 32 "DaysLentModel" "much" "[I").before args s = true) (g_35 : (Cond.fieldLink RX10 35 "DaysLentModel" "due" "[I").before args s = true) (g_138 : (Cond.fieldLink RX10 138 "DaysLentModel" "week" "I").before args s = true) (hA : ∀ q : Nat, s.heap.size ≤ q → A q) (hP : va_P D vwCl (w_M cs o h I V) s.heap) (hD : va_D A (w_M cs o h I V)) (hK : va_K D vwCl (tyA cs) s) (hret : ∀ (v : Int32) (Im9 : FI) (Vm9 : FV) (H : Heap) (locs : List Loc) (pc : Nat) (ls : Array Slot), some (v, Im9, Vm9) = some out → va_P D vwCl (w_M cs o h Im9 Vm9) H → va_D A (w_M cs o h Im9 Vm9) → va_S A s.heap H locs → decode cX10_lend pc = .ok (.ireturn, 1) → W p l e rm_M_lend s m args below meth c H locs 0 0 Q (F0 m pc ls [.int v])) : ∀ ls : Array Slot, lv_has ls 6 [(0, .ref o), (1, .int x1), (2, .int x2), (3, .int x3), (4, .int x4)] → W p l e rm_M_lend s m args below meth c s.heap [] 0 0 Q (F0 m 0 ls []) := by
  intro ls hl
  have hS : va_S A s.heap s.heap [] := va_S.rf
  unfold M_lend at hf
  refine lv_aload_n hx hb dX10_lend_0 rfl (lv_at hl 0 rfl) ?_
  refine lv_iconst (v := 0) hx hb dX10_lend_1 (by decide) ?_
  refine va_put (D := D) (ci := 10) (v := .int 0) (ty := .int) (C := RX10) (T := TX10) (N := 38) hx hb hts in_X10 tyX10 tyX10_ok nmX10 hown hK hP hD hS 0 rfl rfl 0 (by decide) g_92 (fun _ h9 => h9) rfl (by decide +kernel) rfl rfl (Nat.le_of_ble_eq_true rfl) dX10_lend_2 (fun H locs hP hD hS => ?_)
  obtain ⟨I1, eI1, hf⟩ := nme hf
  have hP : va_P D vwCl (w_M cs o h I1 V) H := by rw [eI1]; exact hP
  have hD : va_D A (w_M cs o h I1 V) := by rw [eI1]; exact hD
  refine lv_aload_n hx hb dX10_lend_5 rfl (lv_at hl 0 rfl) ?_
  refine lv_iload_n hx hb dX10_lend_6 rfl (lv_at hl 1 rfl) ?_
  obtain ⟨zr2, qr2, hf⟩ := bd1 hf
  refine vp_callSi (va_Run.run (va_runV (As := [.int x1]) (rest := []) ⟨hx, hb, hml, hown, hts⟩ (c_M_noOne l D cs o h I1 V x1 f zr2 qr2) w_noOne_151 ⟨xR_moved, va_recv hK hP (ci := 10) (q0 := 0) rfl rfl, fun U hU hW => ⟨rfl, by rw [hU]; exact hP, va_K.moved hW.alike hK⟩⟩ rfl rfl hl.1 rfl (lv_room (Nat.le_of_ble_eq_true rfl)) dX10_lend_7 ⟨Nat.zero_le _, Nat.zero_le _⟩)) (fun r2 er2 => ?_)
  rw [er2]
  refine lv_if_ne (tgt := 21) hx hb dX10_lend_10 (by decide) (fun c10 => ?_) (fun c10 => ?_)
  · replace hf := im c10 hf
    refine lv_iconst (v := (-1)) hx hb dX10_lend_21 (by decide) ?_
    exact hret (-1) I1 V _ _ 22 _ hf hP hD hS dX10_lend_22
  · replace hf := ip c10 hf
    refine lv_aload_n hx hb dX10_lend_13 rfl (lv_at hl 0 rfl) ?_
    refine lv_iload_n hx hb dX10_lend_14 rfl (lv_at hl 2 rfl) ?_
    obtain ⟨zr3, qr3, hf⟩ := bd1 hf
    refine vp_callSi (va_Run.run (va_runV (As := [.int x2]) (rest := []) ⟨hx, hb, hml, hown, hts⟩ (c_M_noOne l D cs o h I1 V x2 f zr3 qr3) w_noOne_151 ⟨xR_moved, va_recv hK hP (ci := 10) (q0 := 0) rfl rfl, fun U hU hW => ⟨rfl, by rw [hU]; exact hP, va_K.moved hW.alike hK⟩⟩ rfl rfl hl.1 rfl (lv_room (Nat.le_of_ble_eq_true rfl)) dX10_lend_15 ⟨Nat.zero_le _, Nat.zero_le _⟩)) (fun r3 er3 => ?_)
    rw [er3]
    refine lv_if_eq (tgt := 23) hx hb dX10_lend_18 (by decide) (fun c18 => ?_) (fun c18 => ?_)
    · replace hf := ip c18 hf
      refine lv_iload_n hx hb dX10_lend_23 rfl (lv_at hl 1 rfl) ?_
      refine lv_iload_n hx hb dX10_lend_24 rfl (lv_at hl 2 rfl) ?_
      refine lv_icmp_eq (tgt := 53) hx hb dX10_lend_25 (by decide) (fun c25 => ?_) (fun c25 => ?_)
      · replace hf := ip c25 hf
        refine lv_bipush (v := (-2)) hx hb dX10_lend_53 (by decide) ?_
        exact hret (-2) I1 V _ _ 55 _ hf hP hD hS dX10_lend_55
      · replace hf := im c25 hf
        refine lv_iload_n hx hb dX10_lend_28 rfl (lv_at hl 3 rfl) ?_
        refine lv_i2l (v := x3.toInt64) hx hb dX10_lend_29 rfl ?_
        refine lv_lconst (v := 1) hx hb dX10_lend_30 (by decide) ?_
        refine lv_ldc2 (v := 99) hx hb hown k_168 dX10_lend_31 ?_
        obtain ⟨zr4, qr4, hf⟩ := bd1 hf
        refine vp_callSi (va_Run.run (va_runS (As := [.long (x3.toInt64), .long 1, .long 99]) (rest := []) ⟨hx, hb, hml, hown, hts⟩ (c_M_in l (x3.toInt64) 1 99 f zr4 qr4) w_in_99 ⟨fun a U g mk q => q, fun U hU hW => ⟨rfl, trivial⟩⟩ rfl rfl hl.1 rfl (lv_room (Nat.le_of_ble_eq_true rfl)) dX10_lend_34 ⟨Nat.zero_le _, Nat.zero_le _⟩)) (fun r4 er4 => ?_)
        rw [er4]
        refine lv_if_eq (tgt := 53) hx hb dX10_lend_37 (by decide) (fun c37 => ?_) (fun c37 => ?_)
        · replace hf := ip c37 hf
          refine lv_bipush (v := (-2)) hx hb dX10_lend_53 (by decide) ?_
          exact hret (-2) I1 V _ _ 55 _ hf hP hD hS dX10_lend_55
        · replace hf := im c37 hf
          refine lv_iload hx hb dX10_lend_40 (lv_at hl 4 rfl) ?_
          refine lv_i2l (v := x4.toInt64) hx hb dX10_lend_42 rfl ?_
          refine lv_lconst (v := 1) hx hb dX10_lend_43 (by decide) ?_
          refine lv_ldc2 (v := 9) hx hb hown k_158 dX10_lend_44 ?_
          obtain ⟨zr5, qr5, hf⟩ := bd1 hf
          refine vp_callSi (va_Run.run (va_runS (As := [.long (x4.toInt64), .long 1, .long 9]) (rest := []) ⟨hx, hb, hml, hown, hts⟩ (c_M_in l (x4.toInt64) 1 9 f zr5 qr5) w_in_99 ⟨fun a U g mk q => q, fun U hU hW => ⟨rfl, trivial⟩⟩ rfl rfl hl.1 rfl (lv_room (Nat.le_of_ble_eq_true rfl)) dX10_lend_47 ⟨Nat.zero_le _, Nat.zero_le _⟩)) (fun r5 er5 => ?_)
          rw [er5]
          refine lv_if_ne (tgt := 56) hx hb dX10_lend_50 (by decide) (fun c50 => ?_) (fun c50 => ?_)
          · replace hf := im c50 hf
            refine lv_iload_n hx hb dX10_lend_56 rfl (lv_at hl 3 rfl) ?_
            refine lv_aload_n hx hb dX10_lend_57 rfl (lv_at hl 0 rfl) ?_
            refine lv_iload_n hx hb dX10_lend_58 rfl (lv_at hl 1 rfl) ?_
            refine lv_iload_n hx hb dX10_lend_59 rfl (lv_at hl 3 rfl) ?_
            obtain ⟨zr6, qr6, hf⟩ := bd1 hf
            refine vp_callSi (va_Run.run (va_runV (As := [.int x1, .int x3]) (rest := [.int x3]) ⟨hx, hb, hml, hown, hts⟩ (c_M_priceOf l D cs o h I1 V x1 x3 f zr6 qr6) w_priceOf_170 ⟨xR_moved, va_recv hK hP (ci := 10) (q0 := 0) rfl rfl, fun U hU hW => ⟨rfl, by rw [hU]; exact hP, va_K.moved hW.alike hK⟩⟩ rfl rfl hl.1 rfl (lv_room (Nat.le_of_ble_eq_true rfl)) dX10_lend_60 ⟨Nat.zero_le _, Nat.zero_le _⟩)) (fun r6 er6 => ?_)
            rw [er6]
            refine lv_iadd hx hb dX10_lend_63 ?_
            refine lv_istore (lv' := [(5, .int (x3 + zr6)), (0, .ref o), (1, .int x1), (2, .int x2), (3, .int x3), (4, .int x4)]) hx hb dX10_lend_64 hl (by decide) rfl (fun ls hl => ?_)
            refine lv_aload_n hx hb dX10_lend_66 rfl (lv_at hl 1 rfl) ?_
            refine va_get (D := D) (ci := 10) (v := .ref (h 5)) (C := RX10) (T := TX10) (N := 38) hx hb hts in_X10 hown hK hP 0 rfl rfl 5 (by decide) g_13 (fun _ h9 => h9) rfl dX10_lend_67 ?_
            refine lv_iload_n hx hb dX10_lend_70 rfl (lv_at hl 2 rfl) ?_
            obtain ⟨c71, hf⟩ := gd hf
            refine va_iald (f := (V 5)) hx hb hK hP 2 0 rfl rfl c71 dX10_lend_71 ?_
            refine lv_iload_n hx hb dX10_lend_72 rfl (lv_at hl 4 rfl) ?_
            refine lv_icmp_lt (tgt := 116) hx hb dX10_lend_73 (by decide) (fun c73 => ?_) (fun c73 => ?_)
            · replace hf := ip c73 hf
              refine lv_bipush (v := (-3)) hx hb dX10_lend_116 (by decide) ?_
              exact hret (-3) I1 V _ _ 118 _ hf hP hD hS dX10_lend_118
            · replace hf := im c73 hf
              refine lv_aload_n hx hb dX10_lend_76 rfl (lv_at hl 1 rfl) ?_
              refine va_get (D := D) (ci := 10) (v := .ref (h 7)) (C := RX10) (T := TX10) (N := 38) hx hb hts in_X10 hown hK hP 0 rfl rfl 7 (by decide) g_19 (fun _ h9 => h9) rfl dX10_lend_77 ?_
              refine lv_iload_n hx hb dX10_lend_80 rfl (lv_at hl 2 rfl) ?_
              obtain ⟨c81, hf⟩ := gd hf
              refine va_zald (f := (V 7)) hx hb hK hP 4 1 rfl rfl c81 dX10_lend_81 ?_
              refine lv_if_ne (tgt := 116) hx hb dX10_lend_82 (by decide) (fun c82 => ?_) (fun c82 => ?_)
              · replace hf := im c82 hf
                refine lv_bipush (v := (-3)) hx hb dX10_lend_116 (by decide) ?_
                exact hret (-3) I1 V _ _ 118 _ hf hP hD hS dX10_lend_118
              · replace hf := ip c82 hf
                refine lv_aload_n hx hb dX10_lend_85 rfl (lv_at hl 1 rfl) ?_
                refine va_get (D := D) (ci := 10) (v := .ref (h 7)) (C := RX10) (T := TX10) (N := 38) hx hb hts in_X10 hown hK hP 0 rfl rfl 7 (by decide) g_19 (fun _ h9 => h9) rfl dX10_lend_86 ?_
                refine lv_iload_n hx hb dX10_lend_89 rfl (lv_at hl 3 rfl) ?_
                obtain ⟨c90, hf⟩ := gd hf
                refine va_zald (f := (V 7)) hx hb hK hP 4 1 rfl rfl c90 dX10_lend_90 ?_
                refine lv_if_ne (tgt := 116) hx hb dX10_lend_91 (by decide) (fun c91 => ?_) (fun c91 => ?_)
                · replace hf := im c91 hf
                  refine lv_bipush (v := (-3)) hx hb dX10_lend_116 (by decide) ?_
                  exact hret (-3) I1 V _ _ 118 _ hf hP hD hS dX10_lend_118
                · replace hf := ip c91 hf
                  refine lv_aload_n hx hb dX10_lend_94 rfl (lv_at hl 1 rfl) ?_
                  refine va_get (D := D) (ci := 10) (v := .ref (h 8)) (C := RX10) (T := TX10) (N := 38) hx hb hts in_X10 hown hK hP 0 rfl rfl 8 (by decide) g_23 (fun _ h9 => h9) rfl dX10_lend_95 ?_
                  refine lv_iload_n hx hb dX10_lend_98 rfl (lv_at hl 3 rfl) ?_
                  obtain ⟨c99, hf⟩ := gd hf
                  refine va_zald (f := (V 8)) hx hb hK hP 5 1 rfl rfl c99 dX10_lend_99 ?_
                  refine lv_if_ne (tgt := 116) hx hb dX10_lend_100 (by decide) (fun c100 => ?_) (fun c100 => ?_)
                  · replace hf := im c100 hf
                    refine lv_bipush (v := (-3)) hx hb dX10_lend_116 (by decide) ?_
                    exact hret (-3) I1 V _ _ 118 _ hf hP hD hS dX10_lend_118
                  · replace hf := ip c100 hf
                    refine lv_aload_n hx hb dX10_lend_103 rfl (lv_at hl 1 rfl) ?_
                    refine lv_iload_n hx hb dX10_lend_104 rfl (lv_at hl 3 rfl) ?_
                    obtain ⟨zr7, qr7, hf⟩ := bd1 hf
                    refine vp_callSi (va_Run.run (va_runV (As := [.int x2]) (rest := []) ⟨hx, hb, hml, hown, hts⟩ (c_M_owesAll l D cs o h I1 V x2 f zr7 qr7) w_owesAll_144 ⟨xR_moved, va_recv hK hP (ci := 10) (q0 := 0) rfl rfl, fun U hU hW => ⟨rfl, by rw [hU]; exact hP, va_K.moved hW.alike hK⟩⟩ rfl rfl hl.1 rfl (lv_room (Nat.le_of_ble_eq_true rfl)) dX10_lend_105 ⟨Nat.zero_le _, Nat.zero_le _⟩)) (fun r7 er7 => ?_)
                    rw [er7]
                    refine lv_iload hx hb dX10_lend_108 (lv_at hl 0 rfl) ?_
                    refine lv_iadd hx hb dX10_lend_110 ?_
                    refine lv_bipush (v := 80) hx hb dX10_lend_111 (by decide) ?_
                    refine lv_icmp_le (tgt := 119) hx hb dX10_lend_113 (by decide) (fun c113 => ?_) (fun c113 => ?_)
                    · replace hf := ip c113 hf
                      refine lv_aload_n hx hb dX10_lend_119 rfl (lv_at hl 1 rfl) ?_
                      refine va_get (D := D) (ci := 10) (v := .int (I1 9)) (C := RX10) (T := TX10) (N := 38) hx hb hts in_X10 hown hK hP 0 rfl rfl 9 (by decide) g_135 (fun _ h9 => h9) rfl dX10_lend_120 ?_
                      refine lv_bipush (v := 12) hx hb dX10_lend_123 (by decide) ?_
                      refine lv_icmp_ne (tgt := 131) hx hb dX10_lend_125 (by decide) (fun c125 => ?_) (fun c125 => ?_)
                      · replace hf := im c125 hf
                        obtain ⟨j165, ej165, hf⟩ := nme hf
                        have J165 : ∀ (Im_165 : FI) (Vm_165 : FV), j165 Im_165 Vm_165 = some out → ∀ (H : Heap) (locs : List Loc), va_P D vwCl (w_M cs o h Im_165 Vm_165) H → va_D A (w_M cs o h Im_165 Vm_165) → va_S A s.heap H locs → ∀ ls : Array Slot, lv_has ls 6 [(0, .ref o), (2, .int x2), (4, .int x4), (5, .int (x3 + zr6))] → W p l e rm_M_lend s m args below meth c H locs 0 0 Q (F0 m 165 ls []) := by
                          intro Im_165 Vm_165 hf H locs hP hD hS ls hl
                          rw [ej165] at hf
                          refine lv_aload_n hx hb dX10_lend_165 rfl (lv_at hl 0 rfl) ?_
                          refine va_get (D := D) (ci := 10) (v := .ref (h 11)) (C := RX10) (T := TX10) (N := 38) hx hb hts in_X10 hown hK hP 0 rfl rfl 11 (by decide) g_29 (fun _ h9 => h9) rfl dX10_lend_166 ?_
                          refine lv_aload_n hx hb dX10_lend_169 rfl (lv_at hl 0 rfl) ?_
                          refine va_get (D := D) (ci := 10) (v := .int (Im_165 9)) (C := RX10) (T := TX10) (N := 38) hx hb hts in_X10 hown hK hP 0 rfl rfl 9 (by decide) g_135 (fun _ h9 => h9) rfl dX10_lend_170 ?_
                          refine lv_iload_n hx hb dX10_lend_173 rfl (lv_at hl 1 rfl) ?_
                          obtain ⟨c174, hf⟩ := gd hf
                          refine va_iast (f := (Vm_165 11)) hx hb hK hP hD hS 7 0 rfl rfl c174 dX10_lend_174 (fun H locs hP hD hS => ?_)
                          obtain ⟨V8, eV8, hf⟩ := nme hf
                          have hP : va_P D vwCl (w_M cs o h Im_165 V8) H := by rw [eV8]; exact hP
                          have hD : va_D A (w_M cs o h Im_165 V8) := by rw [eV8]; exact hD
                          refine lv_aload_n hx hb dX10_lend_175 rfl (lv_at hl 0 rfl) ?_
                          refine va_get (D := D) (ci := 10) (v := .ref (h 12)) (C := RX10) (T := TX10) (N := 38) hx hb hts in_X10 hown hK hP 0 rfl rfl 12 (by decide) g_32 (fun _ h9 => h9) rfl dX10_lend_176 ?_
                          refine lv_aload_n hx hb dX10_lend_179 rfl (lv_at hl 0 rfl) ?_
                          refine va_get (D := D) (ci := 10) (v := .int (Im_165 9)) (C := RX10) (T := TX10) (N := 38) hx hb hts in_X10 hown hK hP 0 rfl rfl 9 (by decide) g_135 (fun _ h9 => h9) rfl dX10_lend_180 ?_
                          refine lv_iload hx hb dX10_lend_183 (lv_at hl 3 rfl) ?_
                          obtain ⟨c185, hf⟩ := gd hf
                          refine va_iast (f := (V8 12)) hx hb hK hP hD hS 8 0 rfl rfl c185 dX10_lend_185 (fun H locs hP hD hS => ?_)
                          obtain ⟨V9, eV9, hf⟩ := nme hf
                          have hP : va_P D vwCl (w_M cs o h Im_165 V9) H := by rw [eV9]; exact hP
                          have hD : va_D A (w_M cs o h Im_165 V9) := by rw [eV9]; exact hD
                          refine lv_aload_n hx hb dX10_lend_186 rfl (lv_at hl 0 rfl) ?_
                          refine va_get (D := D) (ci := 10) (v := .ref (h 13)) (C := RX10) (T := TX10) (N := 38) hx hb hts in_X10 hown hK hP 0 rfl rfl 13 (by decide) g_35 (fun _ h9 => h9) rfl dX10_lend_187 ?_
                          refine lv_aload_n hx hb dX10_lend_190 rfl (lv_at hl 0 rfl) ?_
                          refine va_get (D := D) (ci := 10) (v := .int (Im_165 9)) (C := RX10) (T := TX10) (N := 38) hx hb hts in_X10 hown hK hP 0 rfl rfl 9 (by decide) g_135 (fun _ h9 => h9) rfl dX10_lend_191 ?_
                          refine lv_aload_n hx hb dX10_lend_194 rfl (lv_at hl 0 rfl) ?_
                          refine va_get (D := D) (ci := 10) (v := .int (Im_165 14)) (C := RX10) (T := TX10) (N := 38) hx hb hts in_X10 hown hK hP 0 rfl rfl 14 (by decide) g_138 (fun _ h9 => h9) rfl dX10_lend_195 ?_
                          refine lv_iload hx hb dX10_lend_198 (lv_at hl 2 rfl) ?_
                          refine lv_iadd hx hb dX10_lend_200 ?_
                          obtain ⟨c201, hf⟩ := gd hf
                          refine va_iast (f := (V9 13)) hx hb hK hP hD hS 9 0 rfl rfl c201 dX10_lend_201 (fun H locs hP hD hS => ?_)
                          obtain ⟨V10, eV10, hf⟩ := nme hf
                          have hP : va_P D vwCl (w_M cs o h Im_165 V10) H := by rw [eV10]; exact hP
                          have hD : va_D A (w_M cs o h Im_165 V10) := by rw [eV10]; exact hD
                          refine lv_aload_n hx hb dX10_lend_202 rfl (lv_at hl 0 rfl) ?_
                          refine lv_dup hx hb dX10_lend_203 rfl ?_
                          refine va_get (D := D) (ci := 10) (v := .int (Im_165 9)) (C := RX10) (T := TX10) (N := 38) hx hb hts in_X10 hown hK hP 0 rfl rfl 9 (by decide) g_135 (fun _ h9 => h9) rfl dX10_lend_204 ?_
                          refine lv_iconst (v := 1) hx hb dX10_lend_207 (by decide) ?_
                          refine lv_iadd hx hb dX10_lend_208 ?_
                          refine va_put (D := D) (ci := 10) (v := .int ((Im_165 9) + 1)) (ty := .int) (C := RX10) (T := TX10) (N := 38) hx hb hts in_X10 tyX10 tyX10_ok nmX10 hown hK hP hD hS 0 rfl rfl 9 (by decide) g_135 (fun _ h9 => h9) rfl (by decide +kernel) rfl rfl (Nat.le_of_ble_eq_true rfl) dX10_lend_209 (fun H locs hP hD hS => ?_)
                          obtain ⟨I11, eI11, hf⟩ := nme hf
                          have hP : va_P D vwCl (w_M cs o h I11 V10) H := by rw [eI11]; exact hP
                          have hD : va_D A (w_M cs o h I11 V10) := by rw [eI11]; exact hD
                          refine lv_iload hx hb dX10_lend_212 (lv_at hl 3 rfl) ?_
                          exact hret (x3 + zr6) I11 V10 _ _ 214 _ hf hP hD hS dX10_lend_214
                        refine lv_aload_n hx hb dX10_lend_131 rfl (lv_at hl 1 rfl) ?_
                        obtain ⟨I13, V14, qr12, hf⟩ := bd2 hf
                        have hFc := xfree hD hS hA
                        refine va_callv (va_runV (As := []) (rest := []) ⟨hx, hb, hml, hown, hts⟩ (c_M_note l D cs o h _ I1 V f _ qr12) w_note_173 ⟨xP_moved, va_recv hK hP (ci := 10) (q0 := 0) rfl rfl, fun U hU hW => ⟨rfl, by rw [hU], by rw [hU]; exact hP, va_K.moved hW.alike hK, hD.weaken (fun _ _ _ _ => trivial)⟩⟩ rfl rfl hl.1 rfl (lv_room (Nat.le_of_ble_eq_true rfl)) dX10_lend_132 ⟨Nat.zero_le _, Nat.zero_le _⟩) hS (fun q _ h9 => hFc q h9) hFc (fun u t H1 locs ht hvm hw hB hz1 hk1 hS => ?_)
                        rw [hw] at hB
                        obtain ⟨hP1, hK1, hD1⟩ := hB
                        have hP : va_P D vwCl (w_M cs o h I13 V14) H1 := by rw [← ht]; exact hP1
                        have hD : va_D A (w_M cs o h I13 V14) := hD1.weaken (fun _ q _ h9 => hFc q.1 h9)
                        refine lv_aload_n hx hb dX10_lend_135 rfl (lv_at hl 1 rfl) ?_
                        refine va_get (D := D) (ci := 10) (v := .ref (h 5)) (C := RX10) (T := TX10) (N := 38) hx hb hts in_X10 hown hK hP 0 rfl rfl 5 (by decide) g_13 (fun _ h9 => h9) rfl dX10_lend_136 ?_
                        refine lv_iload_n hx hb dX10_lend_139 rfl (lv_at hl 2 rfl) ?_
                        refine lv_dup2_11 hx hb dX10_lend_140 rfl rfl ?_
                        obtain ⟨c141, hf⟩ := gd hf
                        refine va_iald (f := (V14 5)) hx hb hK hP 2 0 rfl rfl c141 dX10_lend_141 ?_
                        refine lv_iload_n hx hb dX10_lend_142 rfl (lv_at hl 4 rfl) ?_
                        refine lv_isub hx hb dX10_lend_143 ?_
                        obtain ⟨c144, hf⟩ := gd hf
                        refine va_iast (f := (V14 5)) hx hb hK hP hD hS 2 0 rfl rfl c144 dX10_lend_144 (fun H locs hP hD hS => ?_)
                        obtain ⟨V15, eV15, hf⟩ := nme hf
                        have hP : va_P D vwCl (w_M cs o h I13 V15) H := by rw [eV15]; exact hP
                        have hD : va_D A (w_M cs o h I13 V15) := by rw [eV15]; exact hD
                        refine lv_aload_n hx hb dX10_lend_145 rfl (lv_at hl 1 rfl) ?_
                        refine va_get (D := D) (ci := 10) (v := .ref (h 5)) (C := RX10) (T := TX10) (N := 38) hx hb hts in_X10 hown hK hP 0 rfl rfl 5 (by decide) g_13 (fun _ h9 => h9) rfl dX10_lend_146 ?_
                        refine lv_iload_n hx hb dX10_lend_149 rfl (lv_at hl 3 rfl) ?_
                        refine lv_dup2_11 hx hb dX10_lend_150 rfl rfl ?_
                        obtain ⟨c151, hf⟩ := gd hf
                        refine va_iald (f := (V15 5)) hx hb hK hP 2 0 rfl rfl c151 dX10_lend_151 ?_
                        refine lv_iload_n hx hb dX10_lend_152 rfl (lv_at hl 4 rfl) ?_
                        refine lv_iadd hx hb dX10_lend_153 ?_
                        obtain ⟨c154, hf⟩ := gd hf
                        refine va_iast (f := (V15 5)) hx hb hK hP hD hS 2 0 rfl rfl c154 dX10_lend_154 (fun H locs hP hD hS => ?_)
                        obtain ⟨V16, eV16, hf⟩ := nme hf
                        have hP : va_P D vwCl (w_M cs o h I13 V16) H := by rw [eV16]; exact hP
                        have hD : va_D A (w_M cs o h I13 V16) := by rw [eV16]; exact hD
                        refine lv_aload_n hx hb dX10_lend_155 rfl (lv_at hl 1 rfl) ?_
                        refine va_get (D := D) (ci := 10) (v := .ref (h 10)) (C := RX10) (T := TX10) (N := 38) hx hb hts in_X10 hown hK hP 0 rfl rfl 10 (by decide) g_26 (fun _ h9 => h9) rfl dX10_lend_156 ?_
                        refine lv_aload_n hx hb dX10_lend_159 rfl (lv_at hl 1 rfl) ?_
                        refine va_get (D := D) (ci := 10) (v := .int (I13 9)) (C := RX10) (T := TX10) (N := 38) hx hb hts in_X10 hown hK hP 0 rfl rfl 9 (by decide) g_135 (fun _ h9 => h9) rfl dX10_lend_160 ?_
                        refine lv_iload_n hx hb dX10_lend_163 rfl (lv_at hl 2 rfl) ?_
                        obtain ⟨c164, hf⟩ := gd hf
                        refine va_iast (f := (V16 10)) hx hb hK hP hD hS 6 0 rfl rfl c164 dX10_lend_164 (fun H locs hP hD hS => ?_)
                        obtain ⟨V17, eV17, hf⟩ := nme hf
                        have hP : va_P D vwCl (w_M cs o h I13 V17) H := by rw [eV17]; exact hP
                        have hD : va_D A (w_M cs o h I13 V17) := by rw [eV17]; exact hD
                        exact J165 I13 V17 hf _ _ hP hD hS _ (lv_sub hl [1, 3, 5, 0] rfl)
                      · replace hf := ip c125 hf
                        refine lv_bipush (v := (-4)) hx hb dX10_lend_128 (by decide) ?_
                        exact hret (-4) I1 V _ _ 130 _ hf hP hD hS dX10_lend_130
                    · replace hf := im c113 hf
                      refine lv_bipush (v := (-3)) hx hb dX10_lend_116 (by decide) ?_
                      exact hret (-3) I1 V _ _ 118 _ hf hP hD hS dX10_lend_118
          · replace hf := ip c50 hf
            refine lv_bipush (v := (-2)) hx hb dX10_lend_53 (by decide) ?_
            exact hret (-2) I1 V _ _ 55 _ hf hP hD hS dX10_lend_55
    · replace hf := im c18 hf
      refine lv_iconst (v := (-1)) hx hb dX10_lend_21 (by decide) ?_
      exact hret (-1) I1 V _ _ 22 _ hf hP hD hS dX10_lend_22
set_option maxHeartbeats 4000000 in
set_option maxRecDepth 100000 in
theorem c_M_lend (l : Launch) (D : va_G) (cs : Nat → ClassId) (o : Nat) (h : Nat → Nat) (sz : Nat) (I : FI) (V : FV) (x1 : Int32) (x2 : Int32) (x3 : Int32) (x4 : Int32) (f : Nat) (out : Int32 × FI × FV) (hf : M_lend f x1 x2 x3 x4 I V = some out) : Met l yX10_lend wsX10_lend rm_M_lend (va_Pc [.ref o, .int x1, .int x2, .int x3, .int x4] (xP D cs (w_M cs o h I V) sz)) (va_Qi (fun r u => (r, u) = out) (fun (u : FI × FV) t => xA D cs (va_A (w_M cs o h I V) sz) (w_M cs o h u.1 u.2) t) (va_A (w_M cs o h I V) sz)) 0 0 (va_A (w_M cs o h I V) sz) := by
  refine Met.ofW (cc := cX10_lend) (maxL := 6) (ret := (some .int)) (by decide) rfl ?_
  intro p e s m args below meth c s₁ B hml hv
  obtain ⟨ha, hsz, hP, hK, hD0⟩ := hv
  have hx := B.exec
  have hb := B.bytes
  have hr := B.returns
  have hts := atoms_spec (ws := wsX10_lend) B.pre
  have hown : s.vm.findClass RX10 = some m.cls := findClass_of_methodNamed B.named
  have hlocks := B.notSynchronized
  have in_X10 : ∀ w ∈ u_ws RX10 TX10 38, w ∈ wsX10_lend := fun w h => List.mem_cons_of_mem _ (List.mem_append_right _ h)
  have g_92 := hts (Cond.fieldLink RX10 92 "DaysLentModel" "thrown" "I") (by decide +kernel)
  have w_noOne_151 := cwV (R := rm_M_lend) (s := s) (args := args) (rm := rm_M_noOne) (mc := 0) (ms := 0) 1 hts gX10_lend_X10_noOne rfl rfl rfl (by decide +kernel) ⟨Nat.le_of_ble_eq_true rfl, Nat.le_of_ble_eq_true rfl⟩
  have k_168 := hts (Cond.constantLong RX10 168 (99)) (by decide +kernel)
  have w_in_99 := va_cwS (R := rm_M_lend) (s := s) (args := args) (rm := rm_M_in) (mc := 0) (ms := 0) 3 hts gX10_lend_X10_in rfl rfl rfl (by decide +kernel) ⟨Nat.le_of_ble_eq_true rfl, Nat.le_of_ble_eq_true rfl⟩
  have k_158 := hts (Cond.constantLong RX10 158 (9)) (by decide +kernel)
  have w_priceOf_170 := cwV (R := rm_M_lend) (s := s) (args := args) (rm := rm_M_priceOf) (mc := 0) (ms := 0) 2 hts gX10_lend_X10_priceOf rfl rfl rfl (by decide +kernel) ⟨Nat.le_of_ble_eq_true rfl, Nat.le_of_ble_eq_true rfl⟩
  have g_13 := hts (Cond.fieldLink RX10 13 "DaysLentModel" "mornings" "[I") (by decide +kernel)
  have g_19 := hts (Cond.fieldLink RX10 19 "DaysLentModel" "dead" "[Z") (by decide +kernel)
  have g_23 := hts (Cond.fieldLink RX10 23 "DaysLentModel" "broken" "[Z") (by decide +kernel)
  have w_owesAll_144 := cwV (R := rm_M_lend) (s := s) (args := args) (rm := rm_M_owesAll) (mc := 0) (ms := 0) 1 hts gX10_lend_X10_owesAll rfl rfl rfl (by decide +kernel) ⟨Nat.le_of_ble_eq_true rfl, Nat.le_of_ble_eq_true rfl⟩
  have g_135 := hts (Cond.fieldLink RX10 135 "DaysLentModel" "debts" "I") (by decide +kernel)
  have w_note_173 := cwV (R := rm_M_lend) (s := s) (args := args) (rm := rm_M_note) (mc := 0) (ms := 0) 0 hts gX10_lend_X10_note rfl rfl rfl (by decide +kernel) ⟨Nat.le_of_ble_eq_true rfl, Nat.le_of_ble_eq_true rfl⟩
  have g_26 := hts (Cond.fieldLink RX10 26 "DaysLentModel" "owed" "[I") (by decide +kernel)
  have g_29 := hts (Cond.fieldLink RX10 29 "DaysLentModel" "owes" "[I") (by decide +kernel)
  have g_32 := hts (Cond.fieldLink RX10 32 "DaysLentModel" "much" "[I") (by decide +kernel)
  have g_35 := hts (Cond.fieldLink RX10 35 "DaysLentModel" "due" "[I") (by decide +kernel)
  have g_138 := hts (Cond.fieldLink RX10 138 "DaysLentModel" "week" "I") (by decide +kernel)
  subst hsz
  have hD := hD0.self (sz := s.heap.size)
  generalize hAe : va_A (w_M cs o h I V) s.heap.size = A at hD ⊢
  have hA : ∀ q : Nat, s.heap.size ≤ q → A q := fun q h => by rw [← hAe]; exact Or.inr h
  have hl := lv_entry ([.ref o, .int x1, .int x2, .int x3, .int x4]) (n := 6) (Nat.le_of_ble_eq_true rfl)
  rw [show entryFrame m args 6 = entryFrame m ([.ref o, .int x1, .int x2, .int x3, .int x4] : List Value).toArray 6 from by rw [ha], lg_entry_eq]
  generalize (lg_sl ([.ref o, .int x1, .int x2, .int x3, .int x4]) ++ List.replicate (6 - (lg_sl ([.ref o, .int x1, .int x2, .int x3, .int x4])).length) Slot.unset).toArray = ls at hl ⊢
  generalize hQ : MQ below (va_Qi (fun r u => (r, u) = out) (fun (u : FI × FV) t => xA D cs A (w_M cs o h u.1 u.2) t) A) args s 0 0 A = Q
  have hret : ∀ (v : Int32) (Im9 : FI) (Vm9 : FV) (H : Heap) (locs : List Loc) (pc : Nat) (ls : Array Slot), some (v, Im9, Vm9) = some out → va_P D vwCl (w_M cs o h Im9 Vm9) H → va_D A (w_M cs o h Im9 Vm9) → va_S A s.heap H locs → decode cX10_lend pc = .ok (.ireturn, 1) → W p l e rm_M_lend s m args below meth c H locs 0 0 Q (F0 m pc ls [.int v]) := by
    intro v Im9 Vm9 H locs pc ls hf hP hD hS hd
    rw [← hQ]
    exact W.iret (v := v) hx hb hr (fun t ht hW => ⟨⟨v, (Im9, Vm9), rfl, Option.some.inj hf, by show va_P D vwCl (w_M cs o h Im9 Vm9) t.heap; rw [ht]; exact hP, va_K.moved hW.alike hK, hD⟩, hS.F ht⟩) hS.2.2 hd
  exact v_M_lend hf hx hb hml hown hts in_X10 g_92 w_noOne_151 k_168 w_in_99 k_158 w_priceOf_170 g_13 g_19 g_23 w_owesAll_144 g_135 w_note_173 g_26 g_29 g_32 g_35 g_138 hA hP hD hK hret ls hl
def M_week_L23 {ρ : Type} (f : Nat) (k_23 : Int32 → FI → FV → Option ρ) : Nat → Int32 → Int32 → FI → FV → Option ρ
  | 0, _, _, _, _ => none
  | n_23 + 1, x1_23, x2_23, Im_23, Vm_23 => (if (Im_23 9) ≤ x2_23 then (k_23 x1_23 Im_23 Vm_23) else if x2_23 < 0 ∨ 12 ≤ x2_23.toNatClampNeg then none else ((if ((Vm_23 13) x2_23.toNatClampNeg) = (Im_23 14) then if x2_23 < 0 ∨ 12 ≤ x2_23.toNatClampNeg then none else (nm ((Vm_23 11) x2_23.toNatClampNeg) (fun y6 => if y6 < 0 ∨ 6 ≤ y6.toNatClampNeg then none else (if x2_23 < 0 ∨ 12 ≤ x2_23.toNatClampNeg then none else ((nm (fun (t0_87 : Int32) => if x2_23 < 0 ∨ 12 ≤ x2_23.toNatClampNeg then none else ((nm (fun (t1_117 : Int32) => if y6 < 0 ∨ 6 ≤ y6.toNatClampNeg then none else ((nm (fun (t2_149 : Int32) => if y6 < 0 ∨ 6 ≤ y6.toNatClampNeg then none else (nm (va_up Vm_23 8 (upd (Vm_23 8) y6.toNatClampNeg (vp_nar .boolean t2_149))) (fun V7 => if y6 < 0 ∨ 6 ≤ y6.toNatClampNeg then none else (if y6 < 0 ∨ 6 ≤ y6.toNatClampNeg then none else (nm (va_up V7 5 (upd (V7 5) y6.toNatClampNeg (((V7 5) y6.toNatClampNeg) - t0_87))) (fun V8 => if x2_23 < 0 ∨ 12 ≤ x2_23.toNatClampNeg then none else (if ((V8 10) x2_23.toNatClampNeg) < 0 ∨ 6 ≤ ((V8 10) x2_23.toNatClampNeg).toNatClampNeg then none else (if ((V8 10) x2_23.toNatClampNeg) < 0 ∨ 6 ≤ ((V8 10) x2_23.toNatClampNeg).toNatClampNeg then none else (nm (va_up V8 5 (upd (V8 5) ((V8 10) x2_23.toNatClampNeg).toNatClampNeg (((V8 5) ((V8 10) x2_23.toNatClampNeg).toNatClampNeg) + t0_87))) (fun V9 => ob2 (M_drop f x2_23 Im_23 V9) (fun I11 V12 => (M_week_L23 f k_23 n_23 (x1_23 ||| t1_117) x2_23 I11 V12)))))))))))) (fun j149 => nm (fun (u_144 : Unit) => (j149 1)) (fun j144 => (if ((Vm_23 8) y6.toNatClampNeg) = 0 then if x2_23 < 0 ∨ 12 ≤ x2_23.toNatClampNeg then none else ((if ((Vm_23 12) x2_23.toNatClampNeg) ≤ t0_87 then (j149 0) else (j144 ()))) else (j144 ()))))))) (fun j117 => nm (fun (u_116 : Unit) => (j117 0)) (fun j116 => (if ((Vm_23 12) x2_23.toNatClampNeg) ≤ t0_87 then (j116 ()) else if y6 < 0 ∨ 6 ≤ y6.toNatClampNeg then none else ((if ((Vm_23 8) y6.toNatClampNeg) = 0 then (j117 (1 <<< (y6 &&& 31))) else (j116 ()))))))))) (fun j87 => (if ((Vm_23 12) x2_23.toNatClampNeg) ≤ ((Vm_23 5) y6.toNatClampNeg) then if x2_23 < 0 ∨ 12 ≤ x2_23.toNatClampNeg then none else ((j87 ((Vm_23 12) x2_23.toNatClampNeg))) else if y6 < 0 ∨ 6 ≤ y6.toNatClampNeg then none else ((j87 ((Vm_23 5) y6.toNatClampNeg)))))))))) else (M_week_L23 f k_23 n_23 x1_23 (x2_23 + 1) Im_23 Vm_23))))
def M_week_L187 {ρ : Type} (f : Nat) (Im_23 : FI) (k_187 : FV → Option ρ) : Nat → Int32 → FV → Option ρ
  | 0, _, _ => none
  | n_187 + 1, x3_187, Vm_187 => (if (Im_23 4) ≤ x3_187 then (k_187 Vm_187) else (nm (fun (t2_231 : Int32) => if x3_187 < 0 ∨ 6 ≤ x3_187.toNatClampNeg then none else (nm (va_up Vm_187 5 (upd (Vm_187 5) x3_187.toNatClampNeg t2_231)) (fun V13 => (M_week_L187 f Im_23 k_187 n_187 (x3_187 + 1) V13)))) (fun j231 => nm (fun (u_225 : Unit) => if x3_187 < 0 ∨ 6 ≤ x3_187.toNatClampNeg then none else ((j231 ((Vm_187 5) x3_187.toNatClampNeg)))) (fun j225 => (if ((Im_23 14) - (Im_23 14) / 4 * 4) = 0 then if x3_187 < 0 ∨ 6 ≤ x3_187.toNatClampNeg then none else ((if ((Vm_187 5) x3_187.toNatClampNeg) ≤ 20 then (j225 ()) else (j231 20))) else (j225 ()))))))
def M_week (f : Nat) (I : FI) (V : FV) : Option (Int32 × FI × FV) := nm (va_up I 0 0) (fun I1 => ob2 (M_note f I1 V) (fun I3 V4 => nm (va_up I3 14 ((I3 14) + 1)) (fun I5 => (M_week_L23 f (fun (x1_23 : Int32) (Im_23 : FI) (Vm_23 : FV) => (M_week_L187 f Im_23 (fun (Vm_187 : FV) => some (x1_23, Im_23, Vm_187)) f 0 Vm_23)) f 0 0 I5 V4))))
abbrev rm_M_week : Room := { frames := 2, cells := 0, slots := 0, locals := 44 }
set_option maxHeartbeats 4000000 in
set_option maxRecDepth 100000 in
theorem v_M_week {l : Launch} {p : Program} {e : Env} {s : State} {m : MethodId} {args : Array Value} {below : List Frame} {meth : Method} {c : Code} {Q : State → Prop} {D : va_G} {cs : Nat → ClassId} {o : Nat} {h : Nat → Nat} {A : Nat → Prop} {I : FI} {V : FV} {f : Nat} {out : Int32 × FI × FV} (hf : M_week f I V = some out) (hx : p.tables.exec = Jvm.exec) (hb : c.code = cX10_week) (hml : c.maxLocals = 5) (hown : s.vm.findClass RX10 = some m.cls) (hts : ∀ w ∈ wsX10_week, w.before args s = true) (in_X10 : ∀ w ∈ u_ws RX10 TX10 38, w ∈ wsX10_week) (g_92 : (Cond.fieldLink RX10 92 "DaysLentModel" "thrown" "I").before args s = true) (w_note_173 : CallW rm_M_week s args RX10 RX10 173 yX10_note cX10_note 2 none wsX10_note rm_M_note 0 0 0) (g_138 : (Cond.fieldLink RX10 138 "DaysLentModel" "week" "I").before args s = true) (g_135 : (Cond.fieldLink RX10 135 "DaysLentModel" "debts" "I").before args s = true) (g_35 : (Cond.fieldLink RX10 35 "DaysLentModel" "due" "[I").before args s = true) (g_29 : (Cond.fieldLink RX10 29 "DaysLentModel" "owes" "[I").before args s = true) (g_13 : (Cond.fieldLink RX10 13 "DaysLentModel" "mornings" "[I").before args s = true) (g_32 : (Cond.fieldLink RX10 32 "DaysLentModel" "much" "[I").before args s = true) (g_23 : (Cond.fieldLink RX10 23 "DaysLentModel" "broken" "[Z").before args s = true) (g_26 : (Cond.fieldLink RX10 26 "DaysLentModel" "owed" "[I").before args s = true) (w_drop_176 : CallW rm_M_week s args RX10 RX10 176 yX10_drop cX10_drop 3 none wsX10_drop rm_M_drop 0 0 1) (g_96 : (Cond.fieldLink RX10 96 "DaysLentModel" "people" "I").before args s = true) (hA : ∀ q : Nat, s.heap.size ≤ q → A q) (hP : va_P D vwCl (w_M cs o h I V) s.heap) (hD : va_D A (w_M cs o h I V)) (hK : va_K D vwCl (tyA cs) s) (hret : ∀ (v : Int32) (Im9 : FI) (Vm9 : FV) (H : Heap) (locs : List Loc) (pc : Nat) (ls : Array Slot), some (v, Im9, Vm9) = some out → va_P D vwCl (w_M cs o h Im9 Vm9) H → va_D A (w_M cs o h Im9 Vm9) → va_S A s.heap H locs → decode cX10_week pc = .ok (.ireturn, 1) → W p l e rm_M_week s m args below meth c H locs 0 0 Q (F0 m pc ls [.int v])) : ∀ ls : Array Slot, lv_has ls 5 [(0, .ref o)] → W p l e rm_M_week s m args below meth c s.heap [] 0 0 Q (F0 m 0 ls []) := by
  intro ls hl
  have hS : va_S A s.heap s.heap [] := va_S.rf
  unfold M_week at hf
  refine lv_aload_n hx hb dX10_week_0 rfl (lv_at hl 0 rfl) ?_
  refine lv_iconst (v := 0) hx hb dX10_week_1 (by decide) ?_
  refine va_put (D := D) (ci := 10) (v := .int 0) (ty := .int) (C := RX10) (T := TX10) (N := 38) hx hb hts in_X10 tyX10 tyX10_ok nmX10 hown hK hP hD hS 0 rfl rfl 0 (by decide) g_92 (fun _ h9 => h9) rfl (by decide +kernel) rfl rfl (Nat.le_of_ble_eq_true rfl) dX10_week_2 (fun H locs hP hD hS => ?_)
  obtain ⟨I1, eI1, hf⟩ := nme hf
  have hP : va_P D vwCl (w_M cs o h I1 V) H := by rw [eI1]; exact hP
  have hD : va_D A (w_M cs o h I1 V) := by rw [eI1]; exact hD
  refine lv_aload_n hx hb dX10_week_5 rfl (lv_at hl 0 rfl) ?_
  obtain ⟨I3, V4, qr2, hf⟩ := bd2 hf
  have hFc := xfree hD hS hA
  refine va_callv (va_runV (As := []) (rest := []) ⟨hx, hb, hml, hown, hts⟩ (c_M_note l D cs o h _ I1 V f _ qr2) w_note_173 ⟨xP_moved, va_recv hK hP (ci := 10) (q0 := 0) rfl rfl, fun U hU hW => ⟨rfl, by rw [hU], by rw [hU]; exact hP, va_K.moved hW.alike hK, hD.weaken (fun _ _ _ _ => trivial)⟩⟩ rfl rfl hl.1 rfl (lv_room (Nat.le_of_ble_eq_true rfl)) dX10_week_6 ⟨Nat.zero_le _, Nat.zero_le _⟩) hS (fun q _ h9 => hFc q h9) hFc (fun u t H1 locs ht hvm hw hB hz1 hk1 hS => ?_)
  rw [hw] at hB
  obtain ⟨hP1, hK1, hD1⟩ := hB
  have hP : va_P D vwCl (w_M cs o h I3 V4) H1 := by rw [← ht]; exact hP1
  have hD : va_D A (w_M cs o h I3 V4) := hD1.weaken (fun _ q _ h9 => hFc q.1 h9)
  refine lv_aload_n hx hb dX10_week_9 rfl (lv_at hl 0 rfl) ?_
  refine lv_dup hx hb dX10_week_10 rfl ?_
  refine va_get (D := D) (ci := 10) (v := .int (I3 14)) (C := RX10) (T := TX10) (N := 38) hx hb hts in_X10 hown hK hP 0 rfl rfl 14 (by decide) g_138 (fun _ h9 => h9) rfl dX10_week_11 ?_
  refine lv_iconst (v := 1) hx hb dX10_week_14 (by decide) ?_
  refine lv_iadd hx hb dX10_week_15 ?_
  refine va_put (D := D) (ci := 10) (v := .int ((I3 14) + 1)) (ty := .int) (C := RX10) (T := TX10) (N := 38) hx hb hts in_X10 tyX10 tyX10_ok nmX10 hown hK hP hD hS 0 rfl rfl 14 (by decide) g_138 (fun _ h9 => h9) rfl (by decide +kernel) rfl rfl (Nat.le_of_ble_eq_true rfl) dX10_week_16 (fun H locs hP hD hS => ?_)
  obtain ⟨I5, eI5, hf⟩ := nme hf
  have hP : va_P D vwCl (w_M cs o h I5 V4) H := by rw [eI5]; exact hP
  have hD : va_D A (w_M cs o h I5 V4) := by rw [eI5]; exact hD
  refine lv_iconst (v := 0) hx hb dX10_week_19 (by decide) ?_
  refine lv_istore_n (lv' := [(1, .int 0), (0, .ref o)]) hx hb dX10_week_20 rfl hl (by decide) rfl (fun ls hl => ?_)
  refine lv_iconst (v := 0) hx hb dX10_week_21 (by decide) ?_
  refine lv_istore_n (lv' := [(2, .int 0), (1, .int 0), (0, .ref o)]) hx hb dX10_week_22 rfl hl (by decide) rfl (fun ls hl => ?_)
  have L23 : ∀ (k_23 : Int32 → FI → FV → Option (Int32 × FI × FV)) (hk_23 : ∀ (x1_23 : Int32) (Im_23 : FI) (Vm_23 : FV), k_23 x1_23 Im_23 Vm_23 = some out → ∀ (H : Heap) (locs : List Loc), va_P D vwCl (w_M cs o h Im_23 Vm_23) H → va_D A (w_M cs o h Im_23 Vm_23) → va_S A s.heap H locs → ∀ ls : Array Slot, lv_has ls 5 [(0, .ref o), (1, .int x1_23)] → W p l e rm_M_week s m args below meth c H locs 0 0 Q (F0 m 185 ls [])), ∀ (n_23 : Nat) (x1_23 : Int32) (x2_23 : Int32) (Im_23 : FI) (Vm_23 : FV), M_week_L23 f k_23 n_23 x1_23 x2_23 Im_23 Vm_23 = some out → ∀ (H : Heap) (locs : List Loc), va_P D vwCl (w_M cs o h Im_23 Vm_23) H → va_D A (w_M cs o h Im_23 Vm_23) → va_S A s.heap H locs → ∀ ls : Array Slot, lv_has ls 5 [(0, .ref o), (1, .int x1_23), (2, .int x2_23)] → W p l e rm_M_week s m args below meth c H locs 0 0 Q (F0 m 23 ls []) := by
    intro k_23 hk_23 n_23
    induction n_23 with
    | zero => intro x1_23 x2_23 Im_23 Vm_23 hf; rw [M_week_L23] at hf; cases hf
    | succ n_23 ih_23 =>
      intro x1_23 x2_23 Im_23 Vm_23 hf H locs hP hD hS ls hl
      rw [M_week_L23] at hf
      refine lv_iload_n hx hb dX10_week_23 rfl (lv_at hl 2 rfl) ?_
      refine lv_aload_n hx hb dX10_week_24 rfl (lv_at hl 0 rfl) ?_
      refine va_get (D := D) (ci := 10) (v := .int (Im_23 9)) (C := RX10) (T := TX10) (N := 38) hx hb hts in_X10 hown hK hP 0 rfl rfl 9 (by decide) g_135 (fun _ h9 => h9) rfl dX10_week_25 ?_
      refine lv_icmp_ge (tgt := 185) hx hb dX10_week_28 (by decide) (fun c28 => ?_) (fun c28 => ?_)
      · replace hf := ip c28 hf
        exact hk_23 x1_23 Im_23 Vm_23 hf _ _ hP hD hS _ (lv_sub hl [0, 1] rfl)
      · replace hf := im c28 hf
        refine lv_aload_n hx hb dX10_week_31 rfl (lv_at hl 0 rfl) ?_
        refine va_get (D := D) (ci := 10) (v := .ref (h 13)) (C := RX10) (T := TX10) (N := 38) hx hb hts in_X10 hown hK hP 0 rfl rfl 13 (by decide) g_35 (fun _ h9 => h9) rfl dX10_week_32 ?_
        refine lv_iload_n hx hb dX10_week_35 rfl (lv_at hl 2 rfl) ?_
        obtain ⟨c36, hf⟩ := gd hf
        refine va_iald (f := (Vm_23 13)) hx hb hK hP 9 0 rfl rfl c36 dX10_week_36 ?_
        refine lv_aload_n hx hb dX10_week_37 rfl (lv_at hl 0 rfl) ?_
        refine va_get (D := D) (ci := 10) (v := .int (Im_23 14)) (C := RX10) (T := TX10) (N := 38) hx hb hts in_X10 hown hK hP 0 rfl rfl 14 (by decide) g_138 (fun _ h9 => h9) rfl dX10_week_38 ?_
        refine lv_icmp_eq (tgt := 50) hx hb dX10_week_41 (by decide) (fun c41 => ?_) (fun c41 => ?_)
        · replace hf := ip c41 hf
          refine lv_aload_n hx hb dX10_week_50 rfl (lv_at hl 0 rfl) ?_
          refine va_get (D := D) (ci := 10) (v := .ref (h 11)) (C := RX10) (T := TX10) (N := 38) hx hb hts in_X10 hown hK hP 0 rfl rfl 11 (by decide) g_29 (fun _ h9 => h9) rfl dX10_week_51 ?_
          refine lv_iload_n hx hb dX10_week_54 rfl (lv_at hl 2 rfl) ?_
          obtain ⟨c55, hf⟩ := gd hf
          refine va_iald (f := (Vm_23 11)) hx hb hK hP 7 0 rfl rfl c55 dX10_week_55 ?_
          refine lv_topi (fun y6 ey6 => ?_)
          replace hf := nmd hf ey6
          refine lv_istore_n (lv' := [(3, .int y6), (0, .ref o), (1, .int x1_23), (2, .int x2_23)]) hx hb dX10_week_56 rfl hl (by decide) rfl (fun ls hl => ?_)
          refine lv_aload_n hx hb dX10_week_57 rfl (lv_at hl 1 rfl) ?_
          refine va_get (D := D) (ci := 10) (v := .ref (h 5)) (C := RX10) (T := TX10) (N := 38) hx hb hts in_X10 hown hK hP 0 rfl rfl 5 (by decide) g_13 (fun _ h9 => h9) rfl dX10_week_58 ?_
          refine lv_iload_n hx hb dX10_week_61 rfl (lv_at hl 0 rfl) ?_
          obtain ⟨c62, hf⟩ := gd hf
          refine va_iald (f := (Vm_23 5)) hx hb hK hP 2 0 rfl rfl c62 dX10_week_62 ?_
          refine lv_aload_n hx hb dX10_week_63 rfl (lv_at hl 1 rfl) ?_
          refine va_get (D := D) (ci := 10) (v := .ref (h 12)) (C := RX10) (T := TX10) (N := 38) hx hb hts in_X10 hown hK hP 0 rfl rfl 12 (by decide) g_32 (fun _ h9 => h9) rfl dX10_week_64 ?_
          refine lv_iload_n hx hb dX10_week_67 rfl (lv_at hl 3 rfl) ?_
          obtain ⟨c68, hf⟩ := gd hf
          refine va_iald (f := (Vm_23 12)) hx hb hK hP 8 0 rfl rfl c68 dX10_week_68 ?_
          obtain ⟨j87, ej87, hf⟩ := nme hf
          have J87 : ∀ (t0_87 : Int32), j87 t0_87 = some out → ∀ (H : Heap) (locs : List Loc), va_P D vwCl (w_M cs o h Im_23 Vm_23) H → va_D A (w_M cs o h Im_23 Vm_23) → va_S A s.heap H locs → ∀ ls : Array Slot, lv_has ls 5 [(0, .ref o), (1, .int x1_23), (2, .int x2_23), (3, .int y6)] → W p l e rm_M_week s m args below meth c H locs 0 0 Q (F0 m 87 ls [.int t0_87]) := by
            intro t0_87 hf H locs hP hD hS ls hl
            rw [ej87] at hf
            refine lv_istore (lv' := [(4, .int t0_87), (0, .ref o), (1, .int x1_23), (2, .int x2_23), (3, .int y6)]) hx hb dX10_week_87 hl (by decide) rfl (fun ls hl => ?_)
            refine lv_iload_n hx hb dX10_week_89 rfl (lv_at hl 2 rfl) ?_
            refine lv_iload hx hb dX10_week_90 (lv_at hl 0 rfl) ?_
            refine lv_aload_n hx hb dX10_week_92 rfl (lv_at hl 1 rfl) ?_
            refine va_get (D := D) (ci := 10) (v := .ref (h 12)) (C := RX10) (T := TX10) (N := 38) hx hb hts in_X10 hown hK hP 0 rfl rfl 12 (by decide) g_32 (fun _ h9 => h9) rfl dX10_week_93 ?_
            refine lv_iload_n hx hb dX10_week_96 rfl (lv_at hl 3 rfl) ?_
            obtain ⟨c97, hf⟩ := gd hf
            refine va_iald (f := (Vm_23 12)) hx hb hK hP 8 0 rfl rfl c97 dX10_week_97 ?_
            obtain ⟨j117, ej117, hf⟩ := nme hf
            have J117 : ∀ (t1_117 : Int32), j117 t1_117 = some out → ∀ (H : Heap) (locs : List Loc), va_P D vwCl (w_M cs o h Im_23 Vm_23) H → va_D A (w_M cs o h Im_23 Vm_23) → va_S A s.heap H locs → ∀ ls : Array Slot, lv_has ls 5 [(0, .ref o), (2, .int x2_23), (3, .int y6), (4, .int t0_87)] → W p l e rm_M_week s m args below meth c H locs 0 0 Q (F0 m 117 ls [.int t1_117, .int x1_23]) := by
              intro t1_117 hf H locs hP hD hS ls hl
              rw [ej117] at hf
              refine lv_ior hx hb dX10_week_117 ?_
              refine lv_istore_n (lv' := [(1, .int (x1_23 ||| t1_117)), (0, .ref o), (2, .int x2_23), (3, .int y6), (4, .int t0_87)]) hx hb dX10_week_118 rfl hl (by decide) rfl (fun ls hl => ?_)
              refine lv_aload_n hx hb dX10_week_119 rfl (lv_at hl 1 rfl) ?_
              refine va_get (D := D) (ci := 10) (v := .ref (h 8)) (C := RX10) (T := TX10) (N := 38) hx hb hts in_X10 hown hK hP 0 rfl rfl 8 (by decide) g_23 (fun _ h9 => h9) rfl dX10_week_120 ?_
              refine lv_iload_n hx hb dX10_week_123 rfl (lv_at hl 3 rfl) ?_
              refine lv_aload_n hx hb dX10_week_124 rfl (lv_at hl 1 rfl) ?_
              refine va_get (D := D) (ci := 10) (v := .ref (h 8)) (C := RX10) (T := TX10) (N := 38) hx hb hts in_X10 hown hK hP 0 rfl rfl 8 (by decide) g_23 (fun _ h9 => h9) rfl dX10_week_125 ?_
              refine lv_iload_n hx hb dX10_week_128 rfl (lv_at hl 3 rfl) ?_
              obtain ⟨c129, hf⟩ := gd hf
              refine va_zald (f := (Vm_23 8)) hx hb hK hP 5 1 rfl rfl c129 dX10_week_129 ?_
              obtain ⟨j149, ej149, hf⟩ := nme hf
              have J149 : ∀ (t2_149 : Int32), j149 t2_149 = some out → ∀ (H : Heap) (locs : List Loc), va_P D vwCl (w_M cs o h Im_23 Vm_23) H → va_D A (w_M cs o h Im_23 Vm_23) → va_S A s.heap H locs → ∀ ls : Array Slot, lv_has ls 5 [(0, .ref o), (1, .int (x1_23 ||| t1_117)), (2, .int x2_23), (3, .int y6), (4, .int t0_87)] → W p l e rm_M_week s m args below meth c H locs 0 0 Q (F0 m 149 ls [.int t2_149, .int y6, .ref (h 8)]) := by
                intro t2_149 hf H locs hP hD hS ls hl
                rw [ej149] at hf
                obtain ⟨c149, hf⟩ := gd hf
                refine va_zast (f := (Vm_23 8)) hx hb hK hP hD hS 5 1 rfl rfl c149 dX10_week_149 (fun H locs hP hD hS => ?_)
                obtain ⟨V7, eV7, hf⟩ := nme hf
                have hP : va_P D vwCl (w_M cs o h Im_23 V7) H := by rw [eV7]; exact hP
                have hD : va_D A (w_M cs o h Im_23 V7) := by rw [eV7]; exact hD
                refine lv_aload_n hx hb dX10_week_150 rfl (lv_at hl 0 rfl) ?_
                refine va_get (D := D) (ci := 10) (v := .ref (h 5)) (C := RX10) (T := TX10) (N := 38) hx hb hts in_X10 hown hK hP 0 rfl rfl 5 (by decide) g_13 (fun _ h9 => h9) rfl dX10_week_151 ?_
                refine lv_iload_n hx hb dX10_week_154 rfl (lv_at hl 3 rfl) ?_
                refine lv_dup2_11 hx hb dX10_week_155 rfl rfl ?_
                obtain ⟨c156, hf⟩ := gd hf
                refine va_iald (f := (V7 5)) hx hb hK hP 2 0 rfl rfl c156 dX10_week_156 ?_
                refine lv_iload hx hb dX10_week_157 (lv_at hl 4 rfl) ?_
                refine lv_isub hx hb dX10_week_159 ?_
                obtain ⟨c160, hf⟩ := gd hf
                refine va_iast (f := (V7 5)) hx hb hK hP hD hS 2 0 rfl rfl c160 dX10_week_160 (fun H locs hP hD hS => ?_)
                obtain ⟨V8, eV8, hf⟩ := nme hf
                have hP : va_P D vwCl (w_M cs o h Im_23 V8) H := by rw [eV8]; exact hP
                have hD : va_D A (w_M cs o h Im_23 V8) := by rw [eV8]; exact hD
                refine lv_aload_n hx hb dX10_week_161 rfl (lv_at hl 0 rfl) ?_
                refine va_get (D := D) (ci := 10) (v := .ref (h 5)) (C := RX10) (T := TX10) (N := 38) hx hb hts in_X10 hown hK hP 0 rfl rfl 5 (by decide) g_13 (fun _ h9 => h9) rfl dX10_week_162 ?_
                refine lv_aload_n hx hb dX10_week_165 rfl (lv_at hl 0 rfl) ?_
                refine va_get (D := D) (ci := 10) (v := .ref (h 10)) (C := RX10) (T := TX10) (N := 38) hx hb hts in_X10 hown hK hP 0 rfl rfl 10 (by decide) g_26 (fun _ h9 => h9) rfl dX10_week_166 ?_
                refine lv_iload_n hx hb dX10_week_169 rfl (lv_at hl 2 rfl) ?_
                obtain ⟨c170, hf⟩ := gd hf
                refine va_iald (f := (V8 10)) hx hb hK hP 6 0 rfl rfl c170 dX10_week_170 ?_
                refine lv_dup2_11 hx hb dX10_week_171 rfl rfl ?_
                obtain ⟨c172, hf⟩ := gd hf
                refine va_iald (f := (V8 5)) hx hb hK hP 2 0 rfl rfl c172 dX10_week_172 ?_
                refine lv_iload hx hb dX10_week_173 (lv_at hl 4 rfl) ?_
                refine lv_iadd hx hb dX10_week_175 ?_
                obtain ⟨c176, hf⟩ := gd hf
                refine va_iast (f := (V8 5)) hx hb hK hP hD hS 2 0 rfl rfl c176 dX10_week_176 (fun H locs hP hD hS => ?_)
                obtain ⟨V9, eV9, hf⟩ := nme hf
                have hP : va_P D vwCl (w_M cs o h Im_23 V9) H := by rw [eV9]; exact hP
                have hD : va_D A (w_M cs o h Im_23 V9) := by rw [eV9]; exact hD
                refine lv_aload_n hx hb dX10_week_177 rfl (lv_at hl 0 rfl) ?_
                refine lv_iload_n hx hb dX10_week_178 rfl (lv_at hl 2 rfl) ?_
                obtain ⟨I11, V12, qr10, hf⟩ := bd2 hf
                have hFc := xfree hD hS hA
                refine va_callv (va_runV (As := [.int x2_23]) (rest := []) ⟨hx, hb, hml, hown, hts⟩ (c_M_drop l D cs o h _ Im_23 V9 x2_23 f _ qr10) w_drop_176 ⟨xP_moved, va_recv hK hP (ci := 10) (q0 := 0) rfl rfl, fun U hU hW => ⟨rfl, by rw [hU], by rw [hU]; exact hP, va_K.moved hW.alike hK, hD.weaken (fun _ _ _ _ => trivial)⟩⟩ rfl rfl hl.1 rfl (lv_room (Nat.le_of_ble_eq_true rfl)) dX10_week_179 ⟨Nat.zero_le _, Nat.zero_le _⟩) hS (fun q _ h9 => hFc q h9) hFc (fun u t H1 locs ht hvm hw hB hz1 hk1 hS => ?_)
                rw [hw] at hB
                obtain ⟨hP1, hK1, hD1⟩ := hB
                have hP : va_P D vwCl (w_M cs o h I11 V12) H1 := by rw [← ht]; exact hP1
                have hD : va_D A (w_M cs o h I11 V12) := hD1.weaken (fun _ q _ h9 => hFc q.1 h9)
                refine lv_goto (tgt := 23) hx hb dX10_week_182 (by decide) ?_
                exact ih_23 (x1_23 ||| t1_117) x2_23 I11 V12 hf _ _ hP hD hS _ (lv_sub hl [0, 1, 2] rfl)
              obtain ⟨j144, ej144, hf⟩ := nme hf
              have J144 : ∀ (u_144 : Unit), j144 u_144 = some out → ∀ (H : Heap) (locs : List Loc), va_P D vwCl (w_M cs o h Im_23 Vm_23) H → va_D A (w_M cs o h Im_23 Vm_23) → va_S A s.heap H locs → ∀ ls : Array Slot, lv_has ls 5 [(0, .ref o), (1, .int (x1_23 ||| t1_117)), (2, .int x2_23), (3, .int y6), (4, .int t0_87)] → W p l e rm_M_week s m args below meth c H locs 0 0 Q (F0 m 144 ls [.int y6, .ref (h 8)]) := by
                intro u_144 hf H locs hP hD hS ls hl
                rw [ej144] at hf
                refine lv_iconst (v := 1) hx hb dX10_week_144 (by decide) ?_
                refine lv_goto (tgt := 149) hx hb dX10_week_145 (by decide) ?_
                exact J149 1 hf _ _ hP hD hS _ (lv_sub hl [0, 1, 2, 3, 4] rfl)
              refine lv_if_ne (tgt := 144) hx hb dX10_week_130 (by decide) (fun c130 => ?_) (fun c130 => ?_)
              · replace hf := im c130 hf
                exact J144 () hf _ _ hP hD hS _ (lv_sub hl [1, 0, 2, 3, 4] rfl)
              · replace hf := ip c130 hf
                refine lv_iload hx hb dX10_week_133 (lv_at hl 4 rfl) ?_
                refine lv_aload_n hx hb dX10_week_135 rfl (lv_at hl 1 rfl) ?_
                refine va_get (D := D) (ci := 10) (v := .ref (h 12)) (C := RX10) (T := TX10) (N := 38) hx hb hts in_X10 hown hK hP 0 rfl rfl 12 (by decide) g_32 (fun _ h9 => h9) rfl dX10_week_136 ?_
                refine lv_iload_n hx hb dX10_week_139 rfl (lv_at hl 2 rfl) ?_
                obtain ⟨c140, hf⟩ := gd hf
                refine va_iald (f := (Vm_23 12)) hx hb hK hP 8 0 rfl rfl c140 dX10_week_140 ?_
                refine lv_icmp_ge (tgt := 148) hx hb dX10_week_141 (by decide) (fun c141 => ?_) (fun c141 => ?_)
                · replace hf := ip c141 hf
                  refine lv_iconst (v := 0) hx hb dX10_week_148 (by decide) ?_
                  exact J149 0 hf _ _ hP hD hS _ (lv_sub hl [1, 0, 2, 3, 4] rfl)
                · replace hf := im c141 hf
                  exact J144 () hf _ _ hP hD hS _ (lv_sub hl [1, 0, 2, 3, 4] rfl)
            obtain ⟨j116, ej116, hf⟩ := nme hf
            have J116 : ∀ (u_116 : Unit), j116 u_116 = some out → ∀ (H : Heap) (locs : List Loc), va_P D vwCl (w_M cs o h Im_23 Vm_23) H → va_D A (w_M cs o h Im_23 Vm_23) → va_S A s.heap H locs → ∀ ls : Array Slot, lv_has ls 5 [(0, .ref o), (2, .int x2_23), (3, .int y6), (4, .int t0_87)] → W p l e rm_M_week s m args below meth c H locs 0 0 Q (F0 m 116 ls [.int x1_23]) := by
              intro u_116 hf H locs hP hD hS ls hl
              rw [ej116] at hf
              refine lv_iconst (v := 0) hx hb dX10_week_116 (by decide) ?_
              exact J117 0 hf _ _ hP hD hS _ (lv_sub hl [0, 1, 2, 3] rfl)
            refine lv_icmp_ge (tgt := 116) hx hb dX10_week_98 (by decide) (fun c98 => ?_) (fun c98 => ?_)
            · replace hf := ip c98 hf
              exact J116 () hf _ _ hP hD hS _ (lv_sub hl [1, 3, 4, 0] rfl)
            · replace hf := im c98 hf
              refine lv_aload_n hx hb dX10_week_101 rfl (lv_at hl 1 rfl) ?_
              refine va_get (D := D) (ci := 10) (v := .ref (h 8)) (C := RX10) (T := TX10) (N := 38) hx hb hts in_X10 hown hK hP 0 rfl rfl 8 (by decide) g_23 (fun _ h9 => h9) rfl dX10_week_102 ?_
              refine lv_iload_n hx hb dX10_week_105 rfl (lv_at hl 4 rfl) ?_
              obtain ⟨c106, hf⟩ := gd hf
              refine va_zald (f := (Vm_23 8)) hx hb hK hP 5 1 rfl rfl c106 dX10_week_106 ?_
              refine lv_if_ne (tgt := 116) hx hb dX10_week_107 (by decide) (fun c107 => ?_) (fun c107 => ?_)
              · replace hf := im c107 hf
                exact J116 () hf _ _ hP hD hS _ (lv_sub hl [1, 3, 4, 0] rfl)
              · replace hf := ip c107 hf
                refine lv_iconst (v := 1) hx hb dX10_week_110 (by decide) ?_
                refine lv_iload_n hx hb dX10_week_111 rfl (lv_at hl 4 rfl) ?_
                refine lv_ishl hx hb dX10_week_112 ?_
                refine lv_goto (tgt := 117) hx hb dX10_week_113 (by decide) ?_
                exact J117 (1 <<< (y6 &&& 31)) hf _ _ hP hD hS _ (lv_sub hl [1, 3, 4, 0] rfl)
          refine lv_icmp_ge (tgt := 81) hx hb dX10_week_69 (by decide) (fun c69 => ?_) (fun c69 => ?_)
          · replace hf := ip c69 hf
            refine lv_aload_n hx hb dX10_week_81 rfl (lv_at hl 1 rfl) ?_
            refine va_get (D := D) (ci := 10) (v := .ref (h 12)) (C := RX10) (T := TX10) (N := 38) hx hb hts in_X10 hown hK hP 0 rfl rfl 12 (by decide) g_32 (fun _ h9 => h9) rfl dX10_week_82 ?_
            refine lv_iload_n hx hb dX10_week_85 rfl (lv_at hl 3 rfl) ?_
            obtain ⟨c86, hf⟩ := gd hf
            refine va_iald (f := (Vm_23 12)) hx hb hK hP 8 0 rfl rfl c86 dX10_week_86 ?_
            exact J87 ((Vm_23 12) x2_23.toNatClampNeg) hf _ _ hP hD hS _ (lv_sub hl [1, 2, 3, 0] rfl)
          · replace hf := im c69 hf
            refine lv_aload_n hx hb dX10_week_72 rfl (lv_at hl 1 rfl) ?_
            refine va_get (D := D) (ci := 10) (v := .ref (h 5)) (C := RX10) (T := TX10) (N := 38) hx hb hts in_X10 hown hK hP 0 rfl rfl 5 (by decide) g_13 (fun _ h9 => h9) rfl dX10_week_73 ?_
            refine lv_iload_n hx hb dX10_week_76 rfl (lv_at hl 0 rfl) ?_
            obtain ⟨c77, hf⟩ := gd hf
            refine va_iald (f := (Vm_23 5)) hx hb hK hP 2 0 rfl rfl c77 dX10_week_77 ?_
            refine lv_goto (tgt := 87) hx hb dX10_week_78 (by decide) ?_
            exact J87 ((Vm_23 5) y6.toNatClampNeg) hf _ _ hP hD hS _ (lv_sub hl [1, 2, 3, 0] rfl)
        · replace hf := im c41 hf
          refine lv_iinc (v := (x2_23 + 1)) (lv' := [(2, .int (x2_23 + 1)), (0, .ref o), (1, .int x1_23)]) hx hb dX10_week_44 hl (k := 2) rfl (by rfl) (by decide) rfl (fun ls hl => ?_)
          refine lv_goto (tgt := 23) hx hb dX10_week_47 (by decide) ?_
          exact ih_23 x1_23 (x2_23 + 1) Im_23 Vm_23 hf _ _ hP hD hS _ (lv_sub hl [1, 2, 0] rfl)
  refine L23 _ (fun x1_23 Im_23 Vm_23 hf H locs hP hD hS ls hl => ?_) f 0 0 I5 V4 hf _ _ hP hD hS _ (lv_sub hl [2, 1, 0] rfl)
  refine lv_iconst (v := 0) hx hb dX10_week_185 (by decide) ?_
  refine lv_istore_n (lv' := [(3, .int 0), (0, .ref o), (1, .int x1_23)]) hx hb dX10_week_186 rfl hl (by decide) rfl (fun ls hl => ?_)
  have L187 : ∀ (k_187 : FV → Option (Int32 × FI × FV)) (hk_187 : ∀ (Vm_187 : FV), k_187 Vm_187 = some out → ∀ (H : Heap) (locs : List Loc), va_P D vwCl (w_M cs o h Im_23 Vm_187) H → va_D A (w_M cs o h Im_23 Vm_187) → va_S A s.heap H locs → ∀ ls : Array Slot, lv_has ls 5 [(1, .int x1_23)] → W p l e rm_M_week s m args below meth c H locs 0 0 Q (F0 m 238 ls [])), ∀ (n_187 : Nat) (x3_187 : Int32) (Vm_187 : FV), M_week_L187 f Im_23 k_187 n_187 x3_187 Vm_187 = some out → ∀ (H : Heap) (locs : List Loc), va_P D vwCl (w_M cs o h Im_23 Vm_187) H → va_D A (w_M cs o h Im_23 Vm_187) → va_S A s.heap H locs → ∀ ls : Array Slot, lv_has ls 5 [(0, .ref o), (1, .int x1_23), (3, .int x3_187)] → W p l e rm_M_week s m args below meth c H locs 0 0 Q (F0 m 187 ls []) := by
    intro k_187 hk_187 n_187
    induction n_187 with
    | zero => intro x3_187 Vm_187 hf; rw [M_week_L187] at hf; cases hf
    | succ n_187 ih_187 =>
      intro x3_187 Vm_187 hf H locs hP hD hS ls hl
      rw [M_week_L187] at hf
      refine lv_iload_n hx hb dX10_week_187 rfl (lv_at hl 2 rfl) ?_
      refine lv_aload_n hx hb dX10_week_188 rfl (lv_at hl 0 rfl) ?_
      refine va_get (D := D) (ci := 10) (v := .int (Im_23 4)) (C := RX10) (T := TX10) (N := 38) hx hb hts in_X10 hown hK hP 0 rfl rfl 4 (by decide) g_96 (fun _ h9 => h9) rfl dX10_week_189 ?_
      refine lv_icmp_ge (tgt := 238) hx hb dX10_week_192 (by decide) (fun c192 => ?_) (fun c192 => ?_)
      · replace hf := ip c192 hf
        exact hk_187 Vm_187 hf _ _ hP hD hS _ (lv_sub hl [1] rfl)
      · replace hf := im c192 hf
        refine lv_aload_n hx hb dX10_week_195 rfl (lv_at hl 0 rfl) ?_
        refine va_get (D := D) (ci := 10) (v := .ref (h 5)) (C := RX10) (T := TX10) (N := 38) hx hb hts in_X10 hown hK hP 0 rfl rfl 5 (by decide) g_13 (fun _ h9 => h9) rfl dX10_week_196 ?_
        refine lv_iload_n hx hb dX10_week_199 rfl (lv_at hl 2 rfl) ?_
        refine lv_aload_n hx hb dX10_week_200 rfl (lv_at hl 0 rfl) ?_
        refine va_get (D := D) (ci := 10) (v := .int (Im_23 14)) (C := RX10) (T := TX10) (N := 38) hx hb hts in_X10 hown hK hP 0 rfl rfl 14 (by decide) g_138 (fun _ h9 => h9) rfl dX10_week_201 ?_
        refine lv_iconst (v := 4) hx hb dX10_week_204 (by decide) ?_
        refine lv_irem hx hb dX10_week_205 (by decide) ?_
        obtain ⟨j231, ej231, hf⟩ := nme hf
        have J231 : ∀ (t2_231 : Int32), j231 t2_231 = some out → ∀ (H : Heap) (locs : List Loc), va_P D vwCl (w_M cs o h Im_23 Vm_187) H → va_D A (w_M cs o h Im_23 Vm_187) → va_S A s.heap H locs → ∀ ls : Array Slot, lv_has ls 5 [(0, .ref o), (1, .int x1_23), (3, .int x3_187)] → W p l e rm_M_week s m args below meth c H locs 0 0 Q (F0 m 231 ls [.int t2_231, .int x3_187, .ref (h 5)]) := by
          intro t2_231 hf H locs hP hD hS ls hl
          rw [ej231] at hf
          obtain ⟨c231, hf⟩ := gd hf
          refine va_iast (f := (Vm_187 5)) hx hb hK hP hD hS 2 0 rfl rfl c231 dX10_week_231 (fun H locs hP hD hS => ?_)
          obtain ⟨V13, eV13, hf⟩ := nme hf
          have hP : va_P D vwCl (w_M cs o h Im_23 V13) H := by rw [eV13]; exact hP
          have hD : va_D A (w_M cs o h Im_23 V13) := by rw [eV13]; exact hD
          refine lv_iinc (v := (x3_187 + 1)) (lv' := [(3, .int (x3_187 + 1)), (0, .ref o), (1, .int x1_23)]) hx hb dX10_week_232 hl (k := 2) rfl (by rfl) (by decide) rfl (fun ls hl => ?_)
          refine lv_goto (tgt := 187) hx hb dX10_week_235 (by decide) ?_
          exact ih_187 (x3_187 + 1) V13 hf _ _ hP hD hS _ (lv_sub hl [1, 2, 0] rfl)
        obtain ⟨j225, ej225, hf⟩ := nme hf
        have J225 : ∀ (u_225 : Unit), j225 u_225 = some out → ∀ (H : Heap) (locs : List Loc), va_P D vwCl (w_M cs o h Im_23 Vm_187) H → va_D A (w_M cs o h Im_23 Vm_187) → va_S A s.heap H locs → ∀ ls : Array Slot, lv_has ls 5 [(0, .ref o), (1, .int x1_23), (3, .int x3_187)] → W p l e rm_M_week s m args below meth c H locs 0 0 Q (F0 m 225 ls [.int x3_187, .ref (h 5)]) := by
          intro u_225 hf H locs hP hD hS ls hl
          rw [ej225] at hf
          refine lv_aload_n hx hb dX10_week_225 rfl (lv_at hl 0 rfl) ?_
          refine va_get (D := D) (ci := 10) (v := .ref (h 5)) (C := RX10) (T := TX10) (N := 38) hx hb hts in_X10 hown hK hP 0 rfl rfl 5 (by decide) g_13 (fun _ h9 => h9) rfl dX10_week_226 ?_
          refine lv_iload_n hx hb dX10_week_229 rfl (lv_at hl 2 rfl) ?_
          obtain ⟨c230, hf⟩ := gd hf
          refine va_iald (f := (Vm_187 5)) hx hb hK hP 2 0 rfl rfl c230 dX10_week_230 ?_
          exact J231 ((Vm_187 5) x3_187.toNatClampNeg) hf _ _ hP hD hS _ (lv_sub hl [0, 1, 2] rfl)
        refine lv_if_ne (tgt := 225) hx hb dX10_week_206 (by decide) (fun c206 => ?_) (fun c206 => ?_)
        · replace hf := im c206 hf
          exact J225 () hf _ _ hP hD hS _ (lv_sub hl [0, 1, 2] rfl)
        · replace hf := ip c206 hf
          refine lv_aload_n hx hb dX10_week_209 rfl (lv_at hl 0 rfl) ?_
          refine va_get (D := D) (ci := 10) (v := .ref (h 5)) (C := RX10) (T := TX10) (N := 38) hx hb hts in_X10 hown hK hP 0 rfl rfl 5 (by decide) g_13 (fun _ h9 => h9) rfl dX10_week_210 ?_
          refine lv_iload_n hx hb dX10_week_213 rfl (lv_at hl 2 rfl) ?_
          obtain ⟨c214, hf⟩ := gd hf
          refine va_iald (f := (Vm_187 5)) hx hb hK hP 2 0 rfl rfl c214 dX10_week_214 ?_
          refine lv_bipush (v := 20) hx hb dX10_week_215 (by decide) ?_
          refine lv_icmp_le (tgt := 225) hx hb dX10_week_217 (by decide) (fun c217 => ?_) (fun c217 => ?_)
          · replace hf := ip c217 hf
            exact J225 () hf _ _ hP hD hS _ (lv_sub hl [0, 1, 2] rfl)
          · replace hf := im c217 hf
            refine lv_bipush (v := 20) hx hb dX10_week_220 (by decide) ?_
            refine lv_goto (tgt := 231) hx hb dX10_week_222 (by decide) ?_
            exact J231 20 hf _ _ hP hD hS _ (lv_sub hl [0, 1, 2] rfl)
  refine L187 _ (fun Vm_187 hf H locs hP hD hS ls hl => ?_) f 0 Vm_23 hf _ _ hP hD hS _ (lv_sub hl [1, 2, 0] rfl)
  refine lv_iload_n hx hb dX10_week_238 rfl (lv_at hl 0 rfl) ?_
  exact hret x1_23 Im_23 Vm_187 _ _ 239 _ hf hP hD hS dX10_week_239
set_option maxHeartbeats 4000000 in
set_option maxRecDepth 100000 in
theorem c_M_week (l : Launch) (D : va_G) (cs : Nat → ClassId) (o : Nat) (h : Nat → Nat) (sz : Nat) (I : FI) (V : FV) (f : Nat) (out : Int32 × FI × FV) (hf : M_week f I V = some out) : Met l yX10_week wsX10_week rm_M_week (va_Pc [.ref o] (xP D cs (w_M cs o h I V) sz)) (va_Qi (fun r u => (r, u) = out) (fun (u : FI × FV) t => xA D cs (va_A (w_M cs o h I V) sz) (w_M cs o h u.1 u.2) t) (va_A (w_M cs o h I V) sz)) 0 0 (va_A (w_M cs o h I V) sz) := by
  refine Met.ofW (cc := cX10_week) (maxL := 5) (ret := (some .int)) (by decide) rfl ?_
  intro p e s m args below meth c s₁ B hml hv
  obtain ⟨ha, hsz, hP, hK, hD0⟩ := hv
  have hx := B.exec
  have hb := B.bytes
  have hr := B.returns
  have hts := atoms_spec (ws := wsX10_week) B.pre
  have hown : s.vm.findClass RX10 = some m.cls := findClass_of_methodNamed B.named
  have hlocks := B.notSynchronized
  have in_X10 : ∀ w ∈ u_ws RX10 TX10 38, w ∈ wsX10_week := fun w h => List.mem_cons_of_mem _ (List.mem_append_right _ h)
  have g_92 := hts (Cond.fieldLink RX10 92 "DaysLentModel" "thrown" "I") (by decide +kernel)
  have w_note_173 := cwV (R := rm_M_week) (s := s) (args := args) (rm := rm_M_note) (mc := 0) (ms := 0) 0 hts gX10_week_X10_note rfl rfl rfl (by decide +kernel) ⟨Nat.le_of_ble_eq_true rfl, Nat.le_of_ble_eq_true rfl⟩
  have g_138 := hts (Cond.fieldLink RX10 138 "DaysLentModel" "week" "I") (by decide +kernel)
  have g_135 := hts (Cond.fieldLink RX10 135 "DaysLentModel" "debts" "I") (by decide +kernel)
  have g_35 := hts (Cond.fieldLink RX10 35 "DaysLentModel" "due" "[I") (by decide +kernel)
  have g_29 := hts (Cond.fieldLink RX10 29 "DaysLentModel" "owes" "[I") (by decide +kernel)
  have g_13 := hts (Cond.fieldLink RX10 13 "DaysLentModel" "mornings" "[I") (by decide +kernel)
  have g_32 := hts (Cond.fieldLink RX10 32 "DaysLentModel" "much" "[I") (by decide +kernel)
  have g_23 := hts (Cond.fieldLink RX10 23 "DaysLentModel" "broken" "[Z") (by decide +kernel)
  have g_26 := hts (Cond.fieldLink RX10 26 "DaysLentModel" "owed" "[I") (by decide +kernel)
  have w_drop_176 := cwV (R := rm_M_week) (s := s) (args := args) (rm := rm_M_drop) (mc := 0) (ms := 0) 1 hts gX10_week_X10_drop rfl rfl rfl (by decide +kernel) ⟨Nat.le_of_ble_eq_true rfl, Nat.le_of_ble_eq_true rfl⟩
  have g_96 := hts (Cond.fieldLink RX10 96 "DaysLentModel" "people" "I") (by decide +kernel)
  subst hsz
  have hD := hD0.self (sz := s.heap.size)
  generalize hAe : va_A (w_M cs o h I V) s.heap.size = A at hD ⊢
  have hA : ∀ q : Nat, s.heap.size ≤ q → A q := fun q h => by rw [← hAe]; exact Or.inr h
  have hl := lv_entry ([.ref o]) (n := 5) (Nat.le_of_ble_eq_true rfl)
  rw [show entryFrame m args 5 = entryFrame m ([.ref o] : List Value).toArray 5 from by rw [ha], lg_entry_eq]
  generalize (lg_sl ([.ref o]) ++ List.replicate (5 - (lg_sl ([.ref o])).length) Slot.unset).toArray = ls at hl ⊢
  generalize hQ : MQ below (va_Qi (fun r u => (r, u) = out) (fun (u : FI × FV) t => xA D cs A (w_M cs o h u.1 u.2) t) A) args s 0 0 A = Q
  have hret : ∀ (v : Int32) (Im9 : FI) (Vm9 : FV) (H : Heap) (locs : List Loc) (pc : Nat) (ls : Array Slot), some (v, Im9, Vm9) = some out → va_P D vwCl (w_M cs o h Im9 Vm9) H → va_D A (w_M cs o h Im9 Vm9) → va_S A s.heap H locs → decode cX10_week pc = .ok (.ireturn, 1) → W p l e rm_M_week s m args below meth c H locs 0 0 Q (F0 m pc ls [.int v]) := by
    intro v Im9 Vm9 H locs pc ls hf hP hD hS hd
    rw [← hQ]
    exact W.iret (v := v) hx hb hr (fun t ht hW => ⟨⟨v, (Im9, Vm9), rfl, Option.some.inj hf, by show va_P D vwCl (w_M cs o h Im9 Vm9) t.heap; rw [ht]; exact hP, va_K.moved hW.alike hK, hD⟩, hS.F ht⟩) hS.2.2 hd
  exact v_M_week hf hx hb hml hown hts in_X10 g_92 w_note_173 g_138 g_135 g_35 g_29 g_13 g_32 g_23 g_26 w_drop_176 g_96 hA hP hD hK hret ls hl
def M_heirs_L66 {ρ : Type} (f : Nat) (x2 : Int32) (V : FV) (k_66 : Int32 → Int32 → Int32 → Option ρ) : Nat → Int32 → Int32 → Int32 → Int32 → Option ρ
  | 0, _, _, _, _ => none
  | n_66 + 1, x3_66, x4_66, x5_66, x6_66 => (if x6_66 < 0 then (k_66 x3_66 x4_66 x5_66) else ob1 (M_has f x2 x6_66) (fun zr6 => (nm (fun (x3_109 : Int32) (x4_109 : Int32) (x5_109 : Int32) => (M_heirs_L66 f x2 V k_66 n_66 x3_109 x4_109 x5_109 (x6_66 + (-1)))) (fun j109 => (if zr6 = 0 then (j109 x3_66 x4_66 x5_66) else (nm (fun (t0_107 : Int32) => (j109 (x3_66 + 1) x6_66 t0_107)) (fun j107 => nm (fun (u_102 : Unit) => (j107 1)) (fun j102 => (if x5_66 = 0 then if x6_66 < 0 ∨ 6 ≤ x6_66.toNatClampNeg then none else ((if ((V 7) x6_66.toNatClampNeg) = 0 then (j107 0) else (j102 ()))) else (j102 ()))))))))))
def M_heirs_L158 {ρ : Type} (f : Nat) (I8 : FI) (x2 : Int32) (y10 : Int32) (k_158 : FV → Option ρ) : Nat → Int32 → FV → Option ρ
  | 0, _, _ => none
  | n_158 + 1, x7_158, Vm_158 => (if (I8 4) ≤ x7_158 then (k_158 Vm_158) else if x7_158 < 0 ∨ 6 ≤ x7_158.toNatClampNeg then none else (ob1 (M_has f x2 x7_158) (fun zr12 => (nm (fun (t3_190 : Int32) => if x7_158 < 0 ∨ 6 ≤ x7_158.toNatClampNeg then none else (nm (va_up Vm_158 5 (upd (Vm_158 5) x7_158.toNatClampNeg (((Vm_158 5) x7_158.toNatClampNeg) + t3_190))) (fun V13 => (M_heirs_L158 f I8 x2 y10 k_158 n_158 (x7_158 + 1) V13)))) (fun j190 => (if zr12 = 0 then (j190 0) else (j190 y10)))))))
def M_heirs_L218 {ρ : Type} (f : Nat) (x1 : Int32) (x4_66 : Int32) (k_218 : Int32 → FI → FV → Option ρ) : Nat → Int32 → Int32 → FI → FV → Option ρ
  | 0, _, _, _, _ => none
  | n_218 + 1, x7_218, x8_218, Im_218, Vm_218 => (if (Im_218 9) ≤ x8_218 then (k_218 x7_218 Im_218 Vm_218) else if x8_218 < 0 ∨ 12 ≤ x8_218.toNatClampNeg then none else ((nm (fun (t2_256 : Int32) => if x8_218 < 0 ∨ 12 ≤ x8_218.toNatClampNeg then none else (nm (va_up Vm_218 10 (upd (Vm_218 10) x8_218.toNatClampNeg t2_256)) (fun V16 => if x8_218 < 0 ∨ 12 ≤ x8_218.toNatClampNeg then none else ((nm (fun (t2_286 : Int32) => if x8_218 < 0 ∨ 12 ≤ x8_218.toNatClampNeg then none else (nm (va_up V16 11 (upd (V16 11) x8_218.toNatClampNeg t2_286)) (fun V17 => if x8_218 < 0 ∨ 12 ≤ x8_218.toNatClampNeg then none else (if x8_218 < 0 ∨ 12 ≤ x8_218.toNatClampNeg then none else ((if ((V17 10) x8_218.toNatClampNeg) = ((V17 11) x8_218.toNatClampNeg) then ob2 (M_drop f x8_218 Im_218 V17) (fun I19 V20 => (M_heirs_L218 f x1 x4_66 k_218 n_218 (x7_218 + 1) x8_218 I19 V20)) else (M_heirs_L218 f x1 x4_66 k_218 n_218 x7_218 (x8_218 + 1) Im_218 V17))))))) (fun j286 => (if ((V16 11) x8_218.toNatClampNeg) = x1 then (j286 x4_66) else if x8_218 < 0 ∨ 12 ≤ x8_218.toNatClampNeg then none else ((j286 ((V16 11) x8_218.toNatClampNeg)))))))))) (fun j256 => (if ((Vm_218 10) x8_218.toNatClampNeg) = x1 then (j256 x4_66) else if x8_218 < 0 ∨ 12 ≤ x8_218.toNatClampNeg then none else ((j256 ((Vm_218 10) x8_218.toNatClampNeg))))))))
def M_heirs (f : Nat) (x1 : Int32) (x2 : Int32) (I : FI) (V : FV) : Option (Int32 × FI × FV) := nm (va_up I 0 0) (fun I1 => ob1 (M_noOne f x1 I1 V) (fun zr2 => (if zr2 = 0 then ob1 (M_in f (x2.toInt64) 1 (((1 <<< ((I1 4) &&& 31)) - 1).toInt64)) (fun zr3 => (if zr3 = 0 then some ((-2), I1, V) else ob1 (M_has f x2 x1) (fun zr4 => (if zr4 = 0 then if x1 < 0 ∨ 6 ≤ x1.toNatClampNeg then none else (nm ((V 7) x1.toNatClampNeg) (fun y5 => (M_heirs_L66 f x2 V (fun (x3_66 : Int32) (x4_66 : Int32) (x5_66 : Int32) => (if x5_66 = 0 then ob2 (M_note f I1 V) (fun I8 V9 => if x1 < 0 ∨ 6 ≤ x1.toNatClampNeg then none else (if x3_66 = 0 then none else (nm (((V9 5) x1.toNatClampNeg) / x3_66) (fun y10 => if x4_66 < 0 ∨ 6 ≤ x4_66.toNatClampNeg then none else (if x1 < 0 ∨ 6 ≤ x1.toNatClampNeg then none else (if x3_66 = 0 then none else (if x4_66 < 0 ∨ 6 ≤ x4_66.toNatClampNeg then none else (nm (va_up V9 5 (upd (V9 5) x4_66.toNatClampNeg (((V9 5) x4_66.toNatClampNeg) + (((V9 5) x1.toNatClampNeg) - ((V9 5) x1.toNatClampNeg) / x3_66 * x3_66)))) (fun V11 => (M_heirs_L158 f I8 x2 y10 (fun (Vm_158 : FV) => if x1 < 0 ∨ 6 ≤ x1.toNatClampNeg then none else (nm (va_up Vm_158 5 (upd (Vm_158 5) x1.toNatClampNeg 0)) (fun V14 => if x1 < 0 ∨ 6 ≤ x1.toNatClampNeg then none else (nm (va_up V14 7 (upd (V14 7) x1.toNatClampNeg (vp_nar .boolean 1))) (fun V15 => (M_heirs_L218 f x1 x4_66 (fun (x7_218 : Int32) (Im_218 : FI) (Vm_218 : FV) => some (x7_218, Im_218, Vm_218)) f 0 0 I8 V15)))))) f 0 V11)))))))))) else some ((-3), I1, V))) f 0 (-9) y5 ((I1 4) - 1)))) else some ((-2), I1, V))))) else some ((-1), I1, V))))
abbrev rm_M_heirs : Room := { frames := 2, cells := 0, slots := 0, locals := 46 }
set_option maxHeartbeats 4000000 in
set_option maxRecDepth 100000 in
theorem v_M_heirs {l : Launch} {p : Program} {e : Env} {s : State} {m : MethodId} {args : Array Value} {below : List Frame} {meth : Method} {c : Code} {Q : State → Prop} {D : va_G} {cs : Nat → ClassId} {o : Nat} {h : Nat → Nat} {A : Nat → Prop} {I : FI} {V : FV} {x1 : Int32} {x2 : Int32} {f : Nat} {out : Int32 × FI × FV} (hf : M_heirs f x1 x2 I V = some out) (hx : p.tables.exec = Jvm.exec) (hb : c.code = cX10_heirs) (hml : c.maxLocals = 9) (hown : s.vm.findClass RX10 = some m.cls) (hts : ∀ w ∈ wsX10_heirs, w.before args s = true) (in_X10 : ∀ w ∈ u_ws RX10 TX10 38, w ∈ wsX10_heirs) (g_92 : (Cond.fieldLink RX10 92 "DaysLentModel" "thrown" "I").before args s = true) (w_noOne_151 : CallW rm_M_heirs s args RX10 RX10 151 yX10_noOne cX10_noOne 2 (some .boolean) wsX10_noOne rm_M_noOne 0 0 1) (g_96 : (Cond.fieldLink RX10 96 "DaysLentModel" "people" "I").before args s = true) (w_in_99 : CallB rm_M_heirs s args RX10 99 yX10_in cX10_in 6 (some .boolean) wsX10_in rm_M_in 0 0 3 ∧ (Cond.static yX10_in).before args s = true) (w_has_160 : CallB rm_M_heirs s args RX10 160 yX10_has cX10_has 2 (some .boolean) wsX10_has rm_M_has 0 0 2 ∧ (Cond.static yX10_has).before args s = true) (g_19 : (Cond.fieldLink RX10 19 "DaysLentModel" "dead" "[Z").before args s = true) (w_note_173 : CallW rm_M_heirs s args RX10 RX10 173 yX10_note cX10_note 2 none wsX10_note rm_M_note 0 0 0) (g_13 : (Cond.fieldLink RX10 13 "DaysLentModel" "mornings" "[I").before args s = true) (g_135 : (Cond.fieldLink RX10 135 "DaysLentModel" "debts" "I").before args s = true) (g_26 : (Cond.fieldLink RX10 26 "DaysLentModel" "owed" "[I").before args s = true) (g_29 : (Cond.fieldLink RX10 29 "DaysLentModel" "owes" "[I").before args s = true) (w_drop_176 : CallW rm_M_heirs s args RX10 RX10 176 yX10_drop cX10_drop 3 none wsX10_drop rm_M_drop 0 0 1) (hA : ∀ q : Nat, s.heap.size ≤ q → A q) (hP : va_P D vwCl (w_M cs o h I V) s.heap) (hD : va_D A (w_M cs o h I V)) (hK : va_K D vwCl (tyA cs) s) (hret : ∀ (v : Int32) (Im9 : FI) (Vm9 : FV) (H : Heap) (locs : List Loc) (pc : Nat) (ls : Array Slot), some (v, Im9, Vm9) = some out → va_P D vwCl (w_M cs o h Im9 Vm9) H → va_D A (w_M cs o h Im9 Vm9) → va_S A s.heap H locs → decode cX10_heirs pc = .ok (.ireturn, 1) → W p l e rm_M_heirs s m args below meth c H locs 0 0 Q (F0 m pc ls [.int v])) : ∀ ls : Array Slot, lv_has ls 9 [(0, .ref o), (1, .int x1), (2, .int x2)] → W p l e rm_M_heirs s m args below meth c s.heap [] 0 0 Q (F0 m 0 ls []) := by
  intro ls hl
  have hS : va_S A s.heap s.heap [] := va_S.rf
  unfold M_heirs at hf
  refine lv_aload_n hx hb dX10_heirs_0 rfl (lv_at hl 0 rfl) ?_
  refine lv_iconst (v := 0) hx hb dX10_heirs_1 (by decide) ?_
  refine va_put (D := D) (ci := 10) (v := .int 0) (ty := .int) (C := RX10) (T := TX10) (N := 38) hx hb hts in_X10 tyX10 tyX10_ok nmX10 hown hK hP hD hS 0 rfl rfl 0 (by decide) g_92 (fun _ h9 => h9) rfl (by decide +kernel) rfl rfl (Nat.le_of_ble_eq_true rfl) dX10_heirs_2 (fun H locs hP hD hS => ?_)
  obtain ⟨I1, eI1, hf⟩ := nme hf
  have hP : va_P D vwCl (w_M cs o h I1 V) H := by rw [eI1]; exact hP
  have hD : va_D A (w_M cs o h I1 V) := by rw [eI1]; exact hD
  refine lv_aload_n hx hb dX10_heirs_5 rfl (lv_at hl 0 rfl) ?_
  refine lv_iload_n hx hb dX10_heirs_6 rfl (lv_at hl 1 rfl) ?_
  obtain ⟨zr2, qr2, hf⟩ := bd1 hf
  refine vp_callSi (va_Run.run (va_runV (As := [.int x1]) (rest := []) ⟨hx, hb, hml, hown, hts⟩ (c_M_noOne l D cs o h I1 V x1 f zr2 qr2) w_noOne_151 ⟨xR_moved, va_recv hK hP (ci := 10) (q0 := 0) rfl rfl, fun U hU hW => ⟨rfl, by rw [hU]; exact hP, va_K.moved hW.alike hK⟩⟩ rfl rfl hl.1 rfl (lv_room (Nat.le_of_ble_eq_true rfl)) dX10_heirs_7 ⟨Nat.zero_le _, Nat.zero_le _⟩)) (fun r2 er2 => ?_)
  rw [er2]
  refine lv_if_eq (tgt := 15) hx hb dX10_heirs_10 (by decide) (fun c10 => ?_) (fun c10 => ?_)
  · replace hf := ip c10 hf
    refine lv_iload_n hx hb dX10_heirs_15 rfl (lv_at hl 2 rfl) ?_
    refine lv_i2l (v := x2.toInt64) hx hb dX10_heirs_16 rfl ?_
    refine lv_lconst (v := 1) hx hb dX10_heirs_17 (by decide) ?_
    refine lv_iconst (v := 1) hx hb dX10_heirs_18 (by decide) ?_
    refine lv_aload_n hx hb dX10_heirs_19 rfl (lv_at hl 0 rfl) ?_
    refine va_get (D := D) (ci := 10) (v := .int (I1 4)) (C := RX10) (T := TX10) (N := 38) hx hb hts in_X10 hown hK hP 0 rfl rfl 4 (by decide) g_96 (fun _ h9 => h9) rfl dX10_heirs_20 ?_
    refine lv_ishl hx hb dX10_heirs_23 ?_
    refine lv_iconst (v := 1) hx hb dX10_heirs_24 (by decide) ?_
    refine lv_isub hx hb dX10_heirs_25 ?_
    refine lv_i2l (v := ((1 <<< ((I1 4) &&& 31)) - 1).toInt64) hx hb dX10_heirs_26 rfl ?_
    obtain ⟨zr3, qr3, hf⟩ := bd1 hf
    refine vp_callSi (va_Run.run (va_runS (As := [.long (x2.toInt64), .long 1, .long (((1 <<< ((I1 4) &&& 31)) - 1).toInt64)]) (rest := []) ⟨hx, hb, hml, hown, hts⟩ (c_M_in l (x2.toInt64) 1 (((1 <<< ((I1 4) &&& 31)) - 1).toInt64) f zr3 qr3) w_in_99 ⟨fun a U g mk q => q, fun U hU hW => ⟨rfl, trivial⟩⟩ rfl rfl hl.1 rfl (lv_room (Nat.le_of_ble_eq_true rfl)) dX10_heirs_27 ⟨Nat.zero_le _, Nat.zero_le _⟩)) (fun r3 er3 => ?_)
    rw [er3]
    refine lv_if_eq (tgt := 41) hx hb dX10_heirs_30 (by decide) (fun c30 => ?_) (fun c30 => ?_)
    · replace hf := ip c30 hf
      refine lv_bipush (v := (-2)) hx hb dX10_heirs_41 (by decide) ?_
      exact hret (-2) I1 V _ _ 43 _ hf hP hD hS dX10_heirs_43
    · replace hf := im c30 hf
      refine lv_iload_n hx hb dX10_heirs_33 rfl (lv_at hl 2 rfl) ?_
      refine lv_iload_n hx hb dX10_heirs_34 rfl (lv_at hl 1 rfl) ?_
      obtain ⟨zr4, qr4, hf⟩ := bd1 hf
      refine vp_callSi (va_Run.run (va_runS (As := [.int x2, .int x1]) (rest := []) ⟨hx, hb, hml, hown, hts⟩ (c_M_has l x2 x1 f zr4 qr4) w_has_160 ⟨fun a U g mk q => q, fun U hU hW => ⟨rfl, trivial⟩⟩ rfl rfl hl.1 rfl (lv_room (Nat.le_of_ble_eq_true rfl)) dX10_heirs_35 ⟨Nat.zero_le _, Nat.zero_le _⟩)) (fun r4 er4 => ?_)
      rw [er4]
      refine lv_if_eq (tgt := 44) hx hb dX10_heirs_38 (by decide) (fun c38 => ?_) (fun c38 => ?_)
      · replace hf := ip c38 hf
        refine lv_iconst (v := 0) hx hb dX10_heirs_44 (by decide) ?_
        refine lv_istore_n (lv' := [(3, .int 0), (0, .ref o), (1, .int x1), (2, .int x2)]) hx hb dX10_heirs_45 rfl hl (by decide) rfl (fun ls hl => ?_)
        refine lv_bipush (v := (-9)) hx hb dX10_heirs_46 (by decide) ?_
        refine lv_istore (lv' := [(4, .int (-9)), (3, .int 0), (0, .ref o), (1, .int x1), (2, .int x2)]) hx hb dX10_heirs_48 hl (by decide) rfl (fun ls hl => ?_)
        refine lv_aload_n hx hb dX10_heirs_50 rfl (lv_at hl 2 rfl) ?_
        refine va_get (D := D) (ci := 10) (v := .ref (h 7)) (C := RX10) (T := TX10) (N := 38) hx hb hts in_X10 hown hK hP 0 rfl rfl 7 (by decide) g_19 (fun _ h9 => h9) rfl dX10_heirs_51 ?_
        refine lv_iload_n hx hb dX10_heirs_54 rfl (lv_at hl 3 rfl) ?_
        obtain ⟨c55, hf⟩ := gd hf
        refine va_zald (f := (V 7)) hx hb hK hP 4 1 rfl rfl c55 dX10_heirs_55 ?_
        refine lv_topi (fun y5 ey5 => ?_)
        replace hf := nmd hf ey5
        refine lv_istore (lv' := [(5, .int y5), (4, .int (-9)), (3, .int 0), (0, .ref o), (1, .int x1), (2, .int x2)]) hx hb dX10_heirs_56 hl (by decide) rfl (fun ls hl => ?_)
        refine lv_aload_n hx hb dX10_heirs_58 rfl (lv_at hl 3 rfl) ?_
        refine va_get (D := D) (ci := 10) (v := .int (I1 4)) (C := RX10) (T := TX10) (N := 38) hx hb hts in_X10 hown hK hP 0 rfl rfl 4 (by decide) g_96 (fun _ h9 => h9) rfl dX10_heirs_59 ?_
        refine lv_iconst (v := 1) hx hb dX10_heirs_62 (by decide) ?_
        refine lv_isub hx hb dX10_heirs_63 ?_
        refine lv_istore (lv' := [(6, .int ((I1 4) - 1)), (5, .int y5), (4, .int (-9)), (3, .int 0), (0, .ref o), (1, .int x1), (2, .int x2)]) hx hb dX10_heirs_64 hl (by decide) rfl (fun ls hl => ?_)
        have L66 : ∀ (k_66 : Int32 → Int32 → Int32 → Option (Int32 × FI × FV)) (hk_66 : ∀ (x3_66 : Int32) (x4_66 : Int32) (x5_66 : Int32), k_66 x3_66 x4_66 x5_66 = some out → ∀ (H : Heap) (locs : List Loc), va_P D vwCl (w_M cs o h I1 V) H → va_D A (w_M cs o h I1 V) → va_S A s.heap H locs → ∀ ls : Array Slot, lv_has ls 9 [(0, .ref o), (1, .int x1), (2, .int x2), (3, .int x3_66), (4, .int x4_66), (5, .int x5_66)] → W p l e rm_M_heirs s m args below meth c H locs 0 0 Q (F0 m 115 ls [])), ∀ (n_66 : Nat) (x3_66 : Int32) (x4_66 : Int32) (x5_66 : Int32) (x6_66 : Int32), M_heirs_L66 f x2 V k_66 n_66 x3_66 x4_66 x5_66 x6_66 = some out → ∀ (H : Heap) (locs : List Loc), va_P D vwCl (w_M cs o h I1 V) H → va_D A (w_M cs o h I1 V) → va_S A s.heap H locs → ∀ ls : Array Slot, lv_has ls 9 [(0, .ref o), (1, .int x1), (2, .int x2), (3, .int x3_66), (4, .int x4_66), (5, .int x5_66), (6, .int x6_66)] → W p l e rm_M_heirs s m args below meth c H locs 0 0 Q (F0 m 66 ls []) := by
          intro k_66 hk_66 n_66
          induction n_66 with
          | zero => intro x3_66 x4_66 x5_66 x6_66 hf; rw [M_heirs_L66] at hf; cases hf
          | succ n_66 ih_66 =>
            intro x3_66 x4_66 x5_66 x6_66 hf H locs hP hD hS ls hl
            rw [M_heirs_L66] at hf
            refine lv_iload hx hb dX10_heirs_66 (lv_at hl 6 rfl) ?_
            refine lv_if_lt (tgt := 115) hx hb dX10_heirs_68 (by decide) (fun c68 => ?_) (fun c68 => ?_)
            · replace hf := ip c68 hf
              exact hk_66 x3_66 x4_66 x5_66 hf _ _ hP hD hS _ (lv_sub hl [0, 1, 2, 3, 4, 5] rfl)
            · replace hf := im c68 hf
              refine lv_iload_n hx hb dX10_heirs_71 rfl (lv_at hl 2 rfl) ?_
              refine lv_iload hx hb dX10_heirs_72 (lv_at hl 6 rfl) ?_
              obtain ⟨zr6, qr6, hf⟩ := bd1 hf
              refine vp_callSi (va_Run.run (va_runS (As := [.int x2, .int x6_66]) (rest := []) ⟨hx, hb, hml, hown, hts⟩ (c_M_has l x2 x6_66 f zr6 qr6) w_has_160 ⟨fun a U g mk q => q, fun U hU hW => ⟨rfl, trivial⟩⟩ rfl rfl hl.1 rfl (lv_room (Nat.le_of_ble_eq_true rfl)) dX10_heirs_74 ⟨Nat.zero_le _, Nat.zero_le _⟩)) (fun r6 er6 => ?_)
              rw [er6]
              obtain ⟨j109, ej109, hf⟩ := nme hf
              have J109 : ∀ (x3_109 : Int32) (x4_109 : Int32) (x5_109 : Int32), j109 x3_109 x4_109 x5_109 = some out → ∀ (H : Heap) (locs : List Loc), va_P D vwCl (w_M cs o h I1 V) H → va_D A (w_M cs o h I1 V) → va_S A s.heap H locs → ∀ ls : Array Slot, lv_has ls 9 [(0, .ref o), (1, .int x1), (2, .int x2), (3, .int x3_109), (4, .int x4_109), (5, .int x5_109), (6, .int x6_66)] → W p l e rm_M_heirs s m args below meth c H locs 0 0 Q (F0 m 109 ls []) := by
                intro x3_109 x4_109 x5_109 hf H locs hP hD hS ls hl
                rw [ej109] at hf
                refine lv_iinc (v := (x6_66 + (-1))) (lv' := [(6, .int (x6_66 + (-1))), (0, .ref o), (1, .int x1), (2, .int x2), (3, .int x3_109), (4, .int x4_109), (5, .int x5_109)]) hx hb dX10_heirs_109 hl (k := 6) rfl (by rfl) (by decide) rfl (fun ls hl => ?_)
                refine lv_goto (tgt := 66) hx hb dX10_heirs_112 (by decide) ?_
                exact ih_66 x3_109 x4_109 x5_109 (x6_66 + (-1)) hf _ _ hP hD hS _ (lv_sub hl [1, 2, 3, 4, 5, 6, 0] rfl)
              refine lv_if_eq (tgt := 109) hx hb dX10_heirs_77 (by decide) (fun c77 => ?_) (fun c77 => ?_)
              · replace hf := ip c77 hf
                exact J109 x3_66 x4_66 x5_66 hf _ _ hP hD hS _ (lv_sub hl [0, 1, 2, 3, 4, 5, 6] rfl)
              · replace hf := im c77 hf
                refine lv_iinc (v := (x3_66 + 1)) (lv' := [(3, .int (x3_66 + 1)), (0, .ref o), (1, .int x1), (2, .int x2), (4, .int x4_66), (5, .int x5_66), (6, .int x6_66)]) hx hb dX10_heirs_80 hl (k := 3) rfl (by rfl) (by decide) rfl (fun ls hl => ?_)
                refine lv_iload hx hb dX10_heirs_83 (lv_at hl 6 rfl) ?_
                refine lv_istore (lv' := [(4, .int x6_66), (3, .int (x3_66 + 1)), (0, .ref o), (1, .int x1), (2, .int x2), (5, .int x5_66), (6, .int x6_66)]) hx hb dX10_heirs_85 hl (by decide) rfl (fun ls hl => ?_)
                refine lv_iload hx hb dX10_heirs_87 (lv_at hl 5 rfl) ?_
                obtain ⟨j107, ej107, hf⟩ := nme hf
                have J107 : ∀ (t0_107 : Int32), j107 t0_107 = some out → ∀ (H : Heap) (locs : List Loc), va_P D vwCl (w_M cs o h I1 V) H → va_D A (w_M cs o h I1 V) → va_S A s.heap H locs → ∀ ls : Array Slot, lv_has ls 9 [(0, .ref o), (1, .int x1), (2, .int x2), (3, .int (x3_66 + 1)), (4, .int x6_66), (6, .int x6_66)] → W p l e rm_M_heirs s m args below meth c H locs 0 0 Q (F0 m 107 ls [.int t0_107]) := by
                  intro t0_107 hf H locs hP hD hS ls hl
                  rw [ej107] at hf
                  refine lv_istore (lv' := [(5, .int t0_107), (0, .ref o), (1, .int x1), (2, .int x2), (3, .int (x3_66 + 1)), (4, .int x6_66), (6, .int x6_66)]) hx hb dX10_heirs_107 hl (by decide) rfl (fun ls hl => ?_)
                  exact J109 (x3_66 + 1) x6_66 t0_107 hf _ _ hP hD hS _ (lv_sub hl [1, 2, 3, 4, 5, 0, 6] rfl)
                obtain ⟨j102, ej102, hf⟩ := nme hf
                have J102 : ∀ (u_102 : Unit), j102 u_102 = some out → ∀ (H : Heap) (locs : List Loc), va_P D vwCl (w_M cs o h I1 V) H → va_D A (w_M cs o h I1 V) → va_S A s.heap H locs → ∀ ls : Array Slot, lv_has ls 9 [(0, .ref o), (1, .int x1), (2, .int x2), (3, .int (x3_66 + 1)), (4, .int x6_66), (6, .int x6_66)] → W p l e rm_M_heirs s m args below meth c H locs 0 0 Q (F0 m 102 ls []) := by
                  intro u_102 hf H locs hP hD hS ls hl
                  rw [ej102] at hf
                  refine lv_iconst (v := 1) hx hb dX10_heirs_102 (by decide) ?_
                  refine lv_goto (tgt := 107) hx hb dX10_heirs_103 (by decide) ?_
                  exact J107 1 hf _ _ hP hD hS _ (lv_sub hl [0, 1, 2, 3, 4, 5] rfl)
                refine lv_if_ne (tgt := 102) hx hb dX10_heirs_89 (by decide) (fun c89 => ?_) (fun c89 => ?_)
                · replace hf := im c89 hf
                  exact J102 () hf _ _ hP hD hS _ (lv_sub hl [2, 3, 4, 1, 0, 6] rfl)
                · replace hf := ip c89 hf
                  refine lv_aload_n hx hb dX10_heirs_92 rfl (lv_at hl 2 rfl) ?_
                  refine va_get (D := D) (ci := 10) (v := .ref (h 7)) (C := RX10) (T := TX10) (N := 38) hx hb hts in_X10 hown hK hP 0 rfl rfl 7 (by decide) g_19 (fun _ h9 => h9) rfl dX10_heirs_93 ?_
                  refine lv_iload hx hb dX10_heirs_96 (lv_at hl 6 rfl) ?_
                  obtain ⟨c98, hf⟩ := gd hf
                  refine va_zald (f := (V 7)) hx hb hK hP 4 1 rfl rfl c98 dX10_heirs_98 ?_
                  refine lv_if_eq (tgt := 106) hx hb dX10_heirs_99 (by decide) (fun c99 => ?_) (fun c99 => ?_)
                  · replace hf := ip c99 hf
                    refine lv_iconst (v := 0) hx hb dX10_heirs_106 (by decide) ?_
                    exact J107 0 hf _ _ hP hD hS _ (lv_sub hl [2, 3, 4, 1, 0, 6] rfl)
                  · replace hf := im c99 hf
                    exact J102 () hf _ _ hP hD hS _ (lv_sub hl [2, 3, 4, 1, 0, 6] rfl)
        refine L66 _ (fun x3_66 x4_66 x5_66 hf H locs hP hD hS ls hl => ?_) f 0 (-9) y5 ((I1 4) - 1) hf _ _ hP hD hS _ (lv_sub hl [4, 5, 6, 3, 2, 1, 0] rfl)
        refine lv_iload hx hb dX10_heirs_115 (lv_at hl 5 rfl) ?_
        refine lv_if_eq (tgt := 123) hx hb dX10_heirs_117 (by decide) (fun c117 => ?_) (fun c117 => ?_)
        · replace hf := ip c117 hf
          refine lv_aload_n hx hb dX10_heirs_123 rfl (lv_at hl 0 rfl) ?_
          obtain ⟨I8, V9, qr7, hf⟩ := bd2 hf
          have hFc := xfree hD hS hA
          refine va_callv (va_runV (As := []) (rest := []) ⟨hx, hb, hml, hown, hts⟩ (c_M_note l D cs o h _ I1 V f _ qr7) w_note_173 ⟨xP_moved, va_recv hK hP (ci := 10) (q0 := 0) rfl rfl, fun U hU hW => ⟨rfl, by rw [hU], by rw [hU]; exact hP, va_K.moved hW.alike hK, hD.weaken (fun _ _ _ _ => trivial)⟩⟩ rfl rfl hl.1 rfl (lv_room (Nat.le_of_ble_eq_true rfl)) dX10_heirs_124 ⟨Nat.zero_le _, Nat.zero_le _⟩) hS (fun q _ h9 => hFc q h9) hFc (fun u t H1 locs ht hvm hw hB hz1 hk1 hS => ?_)
          rw [hw] at hB
          obtain ⟨hP1, hK1, hD1⟩ := hB
          have hP : va_P D vwCl (w_M cs o h I8 V9) H1 := by rw [← ht]; exact hP1
          have hD : va_D A (w_M cs o h I8 V9) := hD1.weaken (fun _ q _ h9 => hFc q.1 h9)
          refine lv_aload_n hx hb dX10_heirs_127 rfl (lv_at hl 0 rfl) ?_
          refine va_get (D := D) (ci := 10) (v := .ref (h 5)) (C := RX10) (T := TX10) (N := 38) hx hb hts in_X10 hown hK hP 0 rfl rfl 5 (by decide) g_13 (fun _ h9 => h9) rfl dX10_heirs_128 ?_
          refine lv_iload_n hx hb dX10_heirs_131 rfl (lv_at hl 1 rfl) ?_
          obtain ⟨c132, hf⟩ := gd hf
          refine va_iald (f := (V9 5)) hx hb hK hP 2 0 rfl rfl c132 dX10_heirs_132 ?_
          refine lv_iload_n hx hb dX10_heirs_133 rfl (lv_at hl 3 rfl) ?_
          obtain ⟨c134, hf⟩ := gd hf
          refine lv_idiv hx hb dX10_heirs_134 c134 ?_
          refine lv_topi (fun y10 ey10 => ?_)
          replace hf := nmd hf ey10
          refine lv_istore (lv' := [(6, .int y10), (0, .ref o), (1, .int x1), (2, .int x2), (3, .int x3_66), (4, .int x4_66), (5, .int x5_66)]) hx hb dX10_heirs_135 hl (by decide) rfl (fun ls hl => ?_)
          refine lv_aload_n hx hb dX10_heirs_137 rfl (lv_at hl 1 rfl) ?_
          refine va_get (D := D) (ci := 10) (v := .ref (h 5)) (C := RX10) (T := TX10) (N := 38) hx hb hts in_X10 hown hK hP 0 rfl rfl 5 (by decide) g_13 (fun _ h9 => h9) rfl dX10_heirs_138 ?_
          refine lv_iload hx hb dX10_heirs_141 (lv_at hl 5 rfl) ?_
          refine lv_dup2_11 hx hb dX10_heirs_143 rfl rfl ?_
          obtain ⟨c144, hf⟩ := gd hf
          refine va_iald (f := (V9 5)) hx hb hK hP 2 0 rfl rfl c144 dX10_heirs_144 ?_
          refine lv_aload_n hx hb dX10_heirs_145 rfl (lv_at hl 1 rfl) ?_
          refine va_get (D := D) (ci := 10) (v := .ref (h 5)) (C := RX10) (T := TX10) (N := 38) hx hb hts in_X10 hown hK hP 0 rfl rfl 5 (by decide) g_13 (fun _ h9 => h9) rfl dX10_heirs_146 ?_
          refine lv_iload_n hx hb dX10_heirs_149 rfl (lv_at hl 2 rfl) ?_
          obtain ⟨c150, hf⟩ := gd hf
          refine va_iald (f := (V9 5)) hx hb hK hP 2 0 rfl rfl c150 dX10_heirs_150 ?_
          refine lv_iload_n hx hb dX10_heirs_151 rfl (lv_at hl 4 rfl) ?_
          obtain ⟨c152, hf⟩ := gd hf
          refine lv_irem hx hb dX10_heirs_152 c152 ?_
          refine lv_iadd hx hb dX10_heirs_153 ?_
          obtain ⟨c154, hf⟩ := gd hf
          refine va_iast (f := (V9 5)) hx hb hK hP hD hS 2 0 rfl rfl c154 dX10_heirs_154 (fun H locs hP hD hS => ?_)
          obtain ⟨V11, eV11, hf⟩ := nme hf
          have hP : va_P D vwCl (w_M cs o h I8 V11) H := by rw [eV11]; exact hP
          have hD : va_D A (w_M cs o h I8 V11) := by rw [eV11]; exact hD
          refine lv_iconst (v := 0) hx hb dX10_heirs_155 (by decide) ?_
          refine lv_istore (lv' := [(7, .int 0), (6, .int y10), (0, .ref o), (1, .int x1), (2, .int x2), (3, .int x3_66), (4, .int x4_66), (5, .int x5_66)]) hx hb dX10_heirs_156 hl (by decide) rfl (fun ls hl => ?_)
          have L158 : ∀ (k_158 : FV → Option (Int32 × FI × FV)) (hk_158 : ∀ (Vm_158 : FV), k_158 Vm_158 = some out → ∀ (H : Heap) (locs : List Loc), va_P D vwCl (w_M cs o h I8 Vm_158) H → va_D A (w_M cs o h I8 Vm_158) → va_S A s.heap H locs → ∀ ls : Array Slot, lv_has ls 9 [(0, .ref o), (1, .int x1), (4, .int x4_66)] → W p l e rm_M_heirs s m args below meth c H locs 0 0 Q (F0 m 198 ls [])), ∀ (n_158 : Nat) (x7_158 : Int32) (Vm_158 : FV), M_heirs_L158 f I8 x2 y10 k_158 n_158 x7_158 Vm_158 = some out → ∀ (H : Heap) (locs : List Loc), va_P D vwCl (w_M cs o h I8 Vm_158) H → va_D A (w_M cs o h I8 Vm_158) → va_S A s.heap H locs → ∀ ls : Array Slot, lv_has ls 9 [(0, .ref o), (1, .int x1), (2, .int x2), (4, .int x4_66), (6, .int y10), (7, .int x7_158)] → W p l e rm_M_heirs s m args below meth c H locs 0 0 Q (F0 m 158 ls []) := by
            intro k_158 hk_158 n_158
            induction n_158 with
            | zero => intro x7_158 Vm_158 hf; rw [M_heirs_L158] at hf; cases hf
            | succ n_158 ih_158 =>
              intro x7_158 Vm_158 hf H locs hP hD hS ls hl
              rw [M_heirs_L158] at hf
              refine lv_iload hx hb dX10_heirs_158 (lv_at hl 5 rfl) ?_
              refine lv_aload_n hx hb dX10_heirs_160 rfl (lv_at hl 0 rfl) ?_
              refine va_get (D := D) (ci := 10) (v := .int (I8 4)) (C := RX10) (T := TX10) (N := 38) hx hb hts in_X10 hown hK hP 0 rfl rfl 4 (by decide) g_96 (fun _ h9 => h9) rfl dX10_heirs_161 ?_
              refine lv_icmp_ge (tgt := 198) hx hb dX10_heirs_164 (by decide) (fun c164 => ?_) (fun c164 => ?_)
              · replace hf := ip c164 hf
                exact hk_158 Vm_158 hf _ _ hP hD hS _ (lv_sub hl [0, 1, 3] rfl)
              · replace hf := im c164 hf
                refine lv_aload_n hx hb dX10_heirs_167 rfl (lv_at hl 0 rfl) ?_
                refine va_get (D := D) (ci := 10) (v := .ref (h 5)) (C := RX10) (T := TX10) (N := 38) hx hb hts in_X10 hown hK hP 0 rfl rfl 5 (by decide) g_13 (fun _ h9 => h9) rfl dX10_heirs_168 ?_
                refine lv_iload hx hb dX10_heirs_171 (lv_at hl 5 rfl) ?_
                refine lv_dup2_11 hx hb dX10_heirs_173 rfl rfl ?_
                obtain ⟨c174, hf⟩ := gd hf
                refine va_iald (f := (Vm_158 5)) hx hb hK hP 2 0 rfl rfl c174 dX10_heirs_174 ?_
                refine lv_iload_n hx hb dX10_heirs_175 rfl (lv_at hl 2 rfl) ?_
                refine lv_iload hx hb dX10_heirs_176 (lv_at hl 5 rfl) ?_
                obtain ⟨zr12, qr12, hf⟩ := bd1 hf
                refine vp_callSi (va_Run.run (va_runS (As := [.int x2, .int x7_158]) (rest := [.int ((Vm_158 5) x7_158.toNatClampNeg), .int x7_158, .ref (h 5)]) ⟨hx, hb, hml, hown, hts⟩ (c_M_has l x2 x7_158 f zr12 qr12) w_has_160 ⟨fun a U g mk q => q, fun U hU hW => ⟨rfl, trivial⟩⟩ rfl rfl hl.1 rfl (lv_room (Nat.le_of_ble_eq_true rfl)) dX10_heirs_178 ⟨Nat.zero_le _, Nat.zero_le _⟩)) (fun r12 er12 => ?_)
                rw [er12]
                obtain ⟨j190, ej190, hf⟩ := nme hf
                have J190 : ∀ (t3_190 : Int32), j190 t3_190 = some out → ∀ (H : Heap) (locs : List Loc), va_P D vwCl (w_M cs o h I8 Vm_158) H → va_D A (w_M cs o h I8 Vm_158) → va_S A s.heap H locs → ∀ ls : Array Slot, lv_has ls 9 [(0, .ref o), (1, .int x1), (2, .int x2), (4, .int x4_66), (6, .int y10), (7, .int x7_158)] → W p l e rm_M_heirs s m args below meth c H locs 0 0 Q (F0 m 190 ls [.int t3_190, .int ((Vm_158 5) x7_158.toNatClampNeg), .int x7_158, .ref (h 5)]) := by
                  intro t3_190 hf H locs hP hD hS ls hl
                  rw [ej190] at hf
                  refine lv_iadd hx hb dX10_heirs_190 ?_
                  obtain ⟨c191, hf⟩ := gd hf
                  refine va_iast (f := (Vm_158 5)) hx hb hK hP hD hS 2 0 rfl rfl c191 dX10_heirs_191 (fun H locs hP hD hS => ?_)
                  obtain ⟨V13, eV13, hf⟩ := nme hf
                  have hP : va_P D vwCl (w_M cs o h I8 V13) H := by rw [eV13]; exact hP
                  have hD : va_D A (w_M cs o h I8 V13) := by rw [eV13]; exact hD
                  refine lv_iinc (v := (x7_158 + 1)) (lv' := [(7, .int (x7_158 + 1)), (0, .ref o), (1, .int x1), (2, .int x2), (4, .int x4_66), (6, .int y10)]) hx hb dX10_heirs_192 hl (k := 5) rfl (by rfl) (by decide) rfl (fun ls hl => ?_)
                  refine lv_goto (tgt := 158) hx hb dX10_heirs_195 (by decide) ?_
                  exact ih_158 (x7_158 + 1) V13 hf _ _ hP hD hS _ (lv_sub hl [1, 2, 3, 4, 5, 0] rfl)
                refine lv_if_eq (tgt := 189) hx hb dX10_heirs_181 (by decide) (fun c181 => ?_) (fun c181 => ?_)
                · replace hf := ip c181 hf
                  refine lv_iconst (v := 0) hx hb dX10_heirs_189 (by decide) ?_
                  exact J190 0 hf _ _ hP hD hS _ (lv_sub hl [0, 1, 2, 3, 4, 5] rfl)
                · replace hf := im c181 hf
                  refine lv_iload hx hb dX10_heirs_184 (lv_at hl 4 rfl) ?_
                  refine lv_goto (tgt := 190) hx hb dX10_heirs_186 (by decide) ?_
                  exact J190 y10 hf _ _ hP hD hS _ (lv_sub hl [0, 1, 2, 3, 4, 5] rfl)
          refine L158 _ (fun Vm_158 hf H locs hP hD hS ls hl => ?_) f 0 V11 hf _ _ hP hD hS _ (lv_sub hl [2, 3, 4, 6, 1, 0] rfl)
          refine lv_aload_n hx hb dX10_heirs_198 rfl (lv_at hl 0 rfl) ?_
          refine va_get (D := D) (ci := 10) (v := .ref (h 5)) (C := RX10) (T := TX10) (N := 38) hx hb hts in_X10 hown hK hP 0 rfl rfl 5 (by decide) g_13 (fun _ h9 => h9) rfl dX10_heirs_199 ?_
          refine lv_iload_n hx hb dX10_heirs_202 rfl (lv_at hl 1 rfl) ?_
          refine lv_iconst (v := 0) hx hb dX10_heirs_203 (by decide) ?_
          obtain ⟨c204, hf⟩ := gd hf
          refine va_iast (f := (Vm_158 5)) hx hb hK hP hD hS 2 0 rfl rfl c204 dX10_heirs_204 (fun H locs hP hD hS => ?_)
          obtain ⟨V14, eV14, hf⟩ := nme hf
          have hP : va_P D vwCl (w_M cs o h I8 V14) H := by rw [eV14]; exact hP
          have hD : va_D A (w_M cs o h I8 V14) := by rw [eV14]; exact hD
          refine lv_aload_n hx hb dX10_heirs_205 rfl (lv_at hl 0 rfl) ?_
          refine va_get (D := D) (ci := 10) (v := .ref (h 7)) (C := RX10) (T := TX10) (N := 38) hx hb hts in_X10 hown hK hP 0 rfl rfl 7 (by decide) g_19 (fun _ h9 => h9) rfl dX10_heirs_206 ?_
          refine lv_iload_n hx hb dX10_heirs_209 rfl (lv_at hl 1 rfl) ?_
          refine lv_iconst (v := 1) hx hb dX10_heirs_210 (by decide) ?_
          obtain ⟨c211, hf⟩ := gd hf
          refine va_zast (f := (V14 7)) hx hb hK hP hD hS 4 1 rfl rfl c211 dX10_heirs_211 (fun H locs hP hD hS => ?_)
          obtain ⟨V15, eV15, hf⟩ := nme hf
          have hP : va_P D vwCl (w_M cs o h I8 V15) H := by rw [eV15]; exact hP
          have hD : va_D A (w_M cs o h I8 V15) := by rw [eV15]; exact hD
          refine lv_iconst (v := 0) hx hb dX10_heirs_212 (by decide) ?_
          refine lv_istore (lv' := [(7, .int 0), (0, .ref o), (1, .int x1), (4, .int x4_66)]) hx hb dX10_heirs_213 hl (by decide) rfl (fun ls hl => ?_)
          refine lv_iconst (v := 0) hx hb dX10_heirs_215 (by decide) ?_
          refine lv_istore (lv' := [(8, .int 0), (7, .int 0), (0, .ref o), (1, .int x1), (4, .int x4_66)]) hx hb dX10_heirs_216 hl (by decide) rfl (fun ls hl => ?_)
          have L218 : ∀ (k_218 : Int32 → FI → FV → Option (Int32 × FI × FV)) (hk_218 : ∀ (x7_218 : Int32) (Im_218 : FI) (Vm_218 : FV), k_218 x7_218 Im_218 Vm_218 = some out → ∀ (H : Heap) (locs : List Loc), va_P D vwCl (w_M cs o h Im_218 Vm_218) H → va_D A (w_M cs o h Im_218 Vm_218) → va_S A s.heap H locs → ∀ ls : Array Slot, lv_has ls 9 [(7, .int x7_218)] → W p l e rm_M_heirs s m args below meth c H locs 0 0 Q (F0 m 322 ls [])), ∀ (n_218 : Nat) (x7_218 : Int32) (x8_218 : Int32) (Im_218 : FI) (Vm_218 : FV), M_heirs_L218 f x1 x4_66 k_218 n_218 x7_218 x8_218 Im_218 Vm_218 = some out → ∀ (H : Heap) (locs : List Loc), va_P D vwCl (w_M cs o h Im_218 Vm_218) H → va_D A (w_M cs o h Im_218 Vm_218) → va_S A s.heap H locs → ∀ ls : Array Slot, lv_has ls 9 [(0, .ref o), (1, .int x1), (4, .int x4_66), (7, .int x7_218), (8, .int x8_218)] → W p l e rm_M_heirs s m args below meth c H locs 0 0 Q (F0 m 218 ls []) := by
            intro k_218 hk_218 n_218
            induction n_218 with
            | zero => intro x7_218 x8_218 Im_218 Vm_218 hf; rw [M_heirs_L218] at hf; cases hf
            | succ n_218 ih_218 =>
              intro x7_218 x8_218 Im_218 Vm_218 hf H locs hP hD hS ls hl
              rw [M_heirs_L218] at hf
              refine lv_iload hx hb dX10_heirs_218 (lv_at hl 4 rfl) ?_
              refine lv_aload_n hx hb dX10_heirs_220 rfl (lv_at hl 0 rfl) ?_
              refine va_get (D := D) (ci := 10) (v := .int (Im_218 9)) (C := RX10) (T := TX10) (N := 38) hx hb hts in_X10 hown hK hP 0 rfl rfl 9 (by decide) g_135 (fun _ h9 => h9) rfl dX10_heirs_221 ?_
              refine lv_icmp_ge (tgt := 322) hx hb dX10_heirs_224 (by decide) (fun c224 => ?_) (fun c224 => ?_)
              · replace hf := ip c224 hf
                exact hk_218 x7_218 Im_218 Vm_218 hf _ _ hP hD hS _ (lv_sub hl [3] rfl)
              · replace hf := im c224 hf
                refine lv_aload_n hx hb dX10_heirs_227 rfl (lv_at hl 0 rfl) ?_
                refine va_get (D := D) (ci := 10) (v := .ref (h 10)) (C := RX10) (T := TX10) (N := 38) hx hb hts in_X10 hown hK hP 0 rfl rfl 10 (by decide) g_26 (fun _ h9 => h9) rfl dX10_heirs_228 ?_
                refine lv_iload hx hb dX10_heirs_231 (lv_at hl 4 rfl) ?_
                refine lv_aload_n hx hb dX10_heirs_233 rfl (lv_at hl 0 rfl) ?_
                refine va_get (D := D) (ci := 10) (v := .ref (h 10)) (C := RX10) (T := TX10) (N := 38) hx hb hts in_X10 hown hK hP 0 rfl rfl 10 (by decide) g_26 (fun _ h9 => h9) rfl dX10_heirs_234 ?_
                refine lv_iload hx hb dX10_heirs_237 (lv_at hl 4 rfl) ?_
                obtain ⟨c239, hf⟩ := gd hf
                refine va_iald (f := (Vm_218 10)) hx hb hK hP 6 0 rfl rfl c239 dX10_heirs_239 ?_
                refine lv_iload_n hx hb dX10_heirs_240 rfl (lv_at hl 1 rfl) ?_
                obtain ⟨j256, ej256, hf⟩ := nme hf
                have J256 : ∀ (t2_256 : Int32), j256 t2_256 = some out → ∀ (H : Heap) (locs : List Loc), va_P D vwCl (w_M cs o h Im_218 Vm_218) H → va_D A (w_M cs o h Im_218 Vm_218) → va_S A s.heap H locs → ∀ ls : Array Slot, lv_has ls 9 [(0, .ref o), (1, .int x1), (4, .int x4_66), (7, .int x7_218), (8, .int x8_218)] → W p l e rm_M_heirs s m args below meth c H locs 0 0 Q (F0 m 256 ls [.int t2_256, .int x8_218, .ref (h 10)]) := by
                  intro t2_256 hf H locs hP hD hS ls hl
                  rw [ej256] at hf
                  obtain ⟨c256, hf⟩ := gd hf
                  refine va_iast (f := (Vm_218 10)) hx hb hK hP hD hS 6 0 rfl rfl c256 dX10_heirs_256 (fun H locs hP hD hS => ?_)
                  obtain ⟨V16, eV16, hf⟩ := nme hf
                  have hP : va_P D vwCl (w_M cs o h Im_218 V16) H := by rw [eV16]; exact hP
                  have hD : va_D A (w_M cs o h Im_218 V16) := by rw [eV16]; exact hD
                  refine lv_aload_n hx hb dX10_heirs_257 rfl (lv_at hl 0 rfl) ?_
                  refine va_get (D := D) (ci := 10) (v := .ref (h 11)) (C := RX10) (T := TX10) (N := 38) hx hb hts in_X10 hown hK hP 0 rfl rfl 11 (by decide) g_29 (fun _ h9 => h9) rfl dX10_heirs_258 ?_
                  refine lv_iload hx hb dX10_heirs_261 (lv_at hl 4 rfl) ?_
                  refine lv_aload_n hx hb dX10_heirs_263 rfl (lv_at hl 0 rfl) ?_
                  refine va_get (D := D) (ci := 10) (v := .ref (h 11)) (C := RX10) (T := TX10) (N := 38) hx hb hts in_X10 hown hK hP 0 rfl rfl 11 (by decide) g_29 (fun _ h9 => h9) rfl dX10_heirs_264 ?_
                  refine lv_iload hx hb dX10_heirs_267 (lv_at hl 4 rfl) ?_
                  obtain ⟨c269, hf⟩ := gd hf
                  refine va_iald (f := (V16 11)) hx hb hK hP 7 0 rfl rfl c269 dX10_heirs_269 ?_
                  refine lv_iload_n hx hb dX10_heirs_270 rfl (lv_at hl 1 rfl) ?_
                  obtain ⟨j286, ej286, hf⟩ := nme hf
                  have J286 : ∀ (t2_286 : Int32), j286 t2_286 = some out → ∀ (H : Heap) (locs : List Loc), va_P D vwCl (w_M cs o h Im_218 V16) H → va_D A (w_M cs o h Im_218 V16) → va_S A s.heap H locs → ∀ ls : Array Slot, lv_has ls 9 [(0, .ref o), (1, .int x1), (4, .int x4_66), (7, .int x7_218), (8, .int x8_218)] → W p l e rm_M_heirs s m args below meth c H locs 0 0 Q (F0 m 286 ls [.int t2_286, .int x8_218, .ref (h 11)]) := by
                    intro t2_286 hf H locs hP hD hS ls hl
                    rw [ej286] at hf
                    obtain ⟨c286, hf⟩ := gd hf
                    refine va_iast (f := (V16 11)) hx hb hK hP hD hS 7 0 rfl rfl c286 dX10_heirs_286 (fun H locs hP hD hS => ?_)
                    obtain ⟨V17, eV17, hf⟩ := nme hf
                    have hP : va_P D vwCl (w_M cs o h Im_218 V17) H := by rw [eV17]; exact hP
                    have hD : va_D A (w_M cs o h Im_218 V17) := by rw [eV17]; exact hD
                    refine lv_aload_n hx hb dX10_heirs_287 rfl (lv_at hl 0 rfl) ?_
                    refine va_get (D := D) (ci := 10) (v := .ref (h 10)) (C := RX10) (T := TX10) (N := 38) hx hb hts in_X10 hown hK hP 0 rfl rfl 10 (by decide) g_26 (fun _ h9 => h9) rfl dX10_heirs_288 ?_
                    refine lv_iload hx hb dX10_heirs_291 (lv_at hl 4 rfl) ?_
                    obtain ⟨c293, hf⟩ := gd hf
                    refine va_iald (f := (V17 10)) hx hb hK hP 6 0 rfl rfl c293 dX10_heirs_293 ?_
                    refine lv_aload_n hx hb dX10_heirs_294 rfl (lv_at hl 0 rfl) ?_
                    refine va_get (D := D) (ci := 10) (v := .ref (h 11)) (C := RX10) (T := TX10) (N := 38) hx hb hts in_X10 hown hK hP 0 rfl rfl 11 (by decide) g_29 (fun _ h9 => h9) rfl dX10_heirs_295 ?_
                    refine lv_iload hx hb dX10_heirs_298 (lv_at hl 4 rfl) ?_
                    obtain ⟨c300, hf⟩ := gd hf
                    refine va_iald (f := (V17 11)) hx hb hK hP 7 0 rfl rfl c300 dX10_heirs_300 ?_
                    refine lv_icmp_ne (tgt := 316) hx hb dX10_heirs_301 (by decide) (fun c301 => ?_) (fun c301 => ?_)
                    · replace hf := im c301 hf
                      refine lv_iinc (v := (x8_218 + 1)) (lv' := [(8, .int (x8_218 + 1)), (0, .ref o), (1, .int x1), (4, .int x4_66), (7, .int x7_218)]) hx hb dX10_heirs_316 hl (k := 4) rfl (by rfl) (by decide) rfl (fun ls hl => ?_)
                      refine lv_goto (tgt := 218) hx hb dX10_heirs_319 (by decide) ?_
                      exact ih_218 x7_218 (x8_218 + 1) Im_218 V17 hf _ _ hP hD hS _ (lv_sub hl [1, 2, 3, 4, 0] rfl)
                    · replace hf := ip c301 hf
                      refine lv_aload_n hx hb dX10_heirs_304 rfl (lv_at hl 0 rfl) ?_
                      refine lv_iload hx hb dX10_heirs_305 (lv_at hl 4 rfl) ?_
                      obtain ⟨I19, V20, qr18, hf⟩ := bd2 hf
                      have hFc := xfree hD hS hA
                      refine va_callv (va_runV (As := [.int x8_218]) (rest := []) ⟨hx, hb, hml, hown, hts⟩ (c_M_drop l D cs o h _ Im_218 V17 x8_218 f _ qr18) w_drop_176 ⟨xP_moved, va_recv hK hP (ci := 10) (q0 := 0) rfl rfl, fun U hU hW => ⟨rfl, by rw [hU], by rw [hU]; exact hP, va_K.moved hW.alike hK, hD.weaken (fun _ _ _ _ => trivial)⟩⟩ rfl rfl hl.1 rfl (lv_room (Nat.le_of_ble_eq_true rfl)) dX10_heirs_307 ⟨Nat.zero_le _, Nat.zero_le _⟩) hS (fun q _ h9 => hFc q h9) hFc (fun u t H1 locs ht hvm hw hB hz1 hk1 hS => ?_)
                      rw [hw] at hB
                      obtain ⟨hP1, hK1, hD1⟩ := hB
                      have hP : va_P D vwCl (w_M cs o h I19 V20) H1 := by rw [← ht]; exact hP1
                      have hD : va_D A (w_M cs o h I19 V20) := hD1.weaken (fun _ q _ h9 => hFc q.1 h9)
                      refine lv_iinc (v := (x7_218 + 1)) (lv' := [(7, .int (x7_218 + 1)), (0, .ref o), (1, .int x1), (4, .int x4_66), (8, .int x8_218)]) hx hb dX10_heirs_310 hl (k := 3) rfl (by rfl) (by decide) rfl (fun ls hl => ?_)
                      refine lv_goto (tgt := 218) hx hb dX10_heirs_313 (by decide) ?_
                      exact ih_218 (x7_218 + 1) x8_218 I19 V20 hf _ _ hP hD hS _ (lv_sub hl [1, 2, 3, 0, 4] rfl)
                  refine lv_icmp_ne (tgt := 279) hx hb dX10_heirs_271 (by decide) (fun c271 => ?_) (fun c271 => ?_)
                  · replace hf := im c271 hf
                    refine lv_aload_n hx hb dX10_heirs_279 rfl (lv_at hl 0 rfl) ?_
                    refine va_get (D := D) (ci := 10) (v := .ref (h 11)) (C := RX10) (T := TX10) (N := 38) hx hb hts in_X10 hown hK hP 0 rfl rfl 11 (by decide) g_29 (fun _ h9 => h9) rfl dX10_heirs_280 ?_
                    refine lv_iload hx hb dX10_heirs_283 (lv_at hl 4 rfl) ?_
                    obtain ⟨c285, hf⟩ := gd hf
                    refine va_iald (f := (V16 11)) hx hb hK hP 7 0 rfl rfl c285 dX10_heirs_285 ?_
                    exact J286 ((V16 11) x8_218.toNatClampNeg) hf _ _ hP hD hS _ (lv_sub hl [0, 1, 2, 3, 4] rfl)
                  · replace hf := ip c271 hf
                    refine lv_iload hx hb dX10_heirs_274 (lv_at hl 2 rfl) ?_
                    refine lv_goto (tgt := 286) hx hb dX10_heirs_276 (by decide) ?_
                    exact J286 x4_66 hf _ _ hP hD hS _ (lv_sub hl [0, 1, 2, 3, 4] rfl)
                refine lv_icmp_ne (tgt := 249) hx hb dX10_heirs_241 (by decide) (fun c241 => ?_) (fun c241 => ?_)
                · replace hf := im c241 hf
                  refine lv_aload_n hx hb dX10_heirs_249 rfl (lv_at hl 0 rfl) ?_
                  refine va_get (D := D) (ci := 10) (v := .ref (h 10)) (C := RX10) (T := TX10) (N := 38) hx hb hts in_X10 hown hK hP 0 rfl rfl 10 (by decide) g_26 (fun _ h9 => h9) rfl dX10_heirs_250 ?_
                  refine lv_iload hx hb dX10_heirs_253 (lv_at hl 4 rfl) ?_
                  obtain ⟨c255, hf⟩ := gd hf
                  refine va_iald (f := (Vm_218 10)) hx hb hK hP 6 0 rfl rfl c255 dX10_heirs_255 ?_
                  exact J256 ((Vm_218 10) x8_218.toNatClampNeg) hf _ _ hP hD hS _ (lv_sub hl [0, 1, 2, 3, 4] rfl)
                · replace hf := ip c241 hf
                  refine lv_iload hx hb dX10_heirs_244 (lv_at hl 2 rfl) ?_
                  refine lv_goto (tgt := 256) hx hb dX10_heirs_246 (by decide) ?_
                  exact J256 x4_66 hf _ _ hP hD hS _ (lv_sub hl [0, 1, 2, 3, 4] rfl)
          refine L218 _ (fun x7_218 Im_218 Vm_218 hf H locs hP hD hS ls hl => ?_) f 0 0 I8 V15 hf _ _ hP hD hS _ (lv_sub hl [2, 3, 4, 1, 0] rfl)
          refine lv_iload hx hb dX10_heirs_322 (lv_at hl 0 rfl) ?_
          exact hret x7_218 Im_218 Vm_218 _ _ 324 _ hf hP hD hS dX10_heirs_324
        · replace hf := im c117 hf
          refine lv_bipush (v := (-3)) hx hb dX10_heirs_120 (by decide) ?_
          exact hret (-3) I1 V _ _ 122 _ hf hP hD hS dX10_heirs_122
      · replace hf := im c38 hf
        refine lv_bipush (v := (-2)) hx hb dX10_heirs_41 (by decide) ?_
        exact hret (-2) I1 V _ _ 43 _ hf hP hD hS dX10_heirs_43
  · replace hf := im c10 hf
    refine lv_iconst (v := (-1)) hx hb dX10_heirs_13 (by decide) ?_
    exact hret (-1) I1 V _ _ 14 _ hf hP hD hS dX10_heirs_14
set_option maxHeartbeats 4000000 in
set_option maxRecDepth 100000 in
theorem c_M_heirs (l : Launch) (D : va_G) (cs : Nat → ClassId) (o : Nat) (h : Nat → Nat) (sz : Nat) (I : FI) (V : FV) (x1 : Int32) (x2 : Int32) (f : Nat) (out : Int32 × FI × FV) (hf : M_heirs f x1 x2 I V = some out) : Met l yX10_heirs wsX10_heirs rm_M_heirs (va_Pc [.ref o, .int x1, .int x2] (xP D cs (w_M cs o h I V) sz)) (va_Qi (fun r u => (r, u) = out) (fun (u : FI × FV) t => xA D cs (va_A (w_M cs o h I V) sz) (w_M cs o h u.1 u.2) t) (va_A (w_M cs o h I V) sz)) 0 0 (va_A (w_M cs o h I V) sz) := by
  refine Met.ofW (cc := cX10_heirs) (maxL := 9) (ret := (some .int)) (by decide) rfl ?_
  intro p e s m args below meth c s₁ B hml hv
  obtain ⟨ha, hsz, hP, hK, hD0⟩ := hv
  have hx := B.exec
  have hb := B.bytes
  have hr := B.returns
  have hts := atoms_spec (ws := wsX10_heirs) B.pre
  have hown : s.vm.findClass RX10 = some m.cls := findClass_of_methodNamed B.named
  have hlocks := B.notSynchronized
  have in_X10 : ∀ w ∈ u_ws RX10 TX10 38, w ∈ wsX10_heirs := fun w h => List.mem_cons_of_mem _ (List.mem_append_right _ h)
  have g_92 := hts (Cond.fieldLink RX10 92 "DaysLentModel" "thrown" "I") (by decide +kernel)
  have w_noOne_151 := cwV (R := rm_M_heirs) (s := s) (args := args) (rm := rm_M_noOne) (mc := 0) (ms := 0) 1 hts gX10_heirs_X10_noOne rfl rfl rfl (by decide +kernel) ⟨Nat.le_of_ble_eq_true rfl, Nat.le_of_ble_eq_true rfl⟩
  have g_96 := hts (Cond.fieldLink RX10 96 "DaysLentModel" "people" "I") (by decide +kernel)
  have w_in_99 := va_cwS (R := rm_M_heirs) (s := s) (args := args) (rm := rm_M_in) (mc := 0) (ms := 0) 3 hts gX10_heirs_X10_in rfl rfl rfl (by decide +kernel) ⟨Nat.le_of_ble_eq_true rfl, Nat.le_of_ble_eq_true rfl⟩
  have w_has_160 := va_cwS (R := rm_M_heirs) (s := s) (args := args) (rm := rm_M_has) (mc := 0) (ms := 0) 2 hts gX10_heirs_X10_has rfl rfl rfl (by decide +kernel) ⟨Nat.le_of_ble_eq_true rfl, Nat.le_of_ble_eq_true rfl⟩
  have g_19 := hts (Cond.fieldLink RX10 19 "DaysLentModel" "dead" "[Z") (by decide +kernel)
  have w_note_173 := cwV (R := rm_M_heirs) (s := s) (args := args) (rm := rm_M_note) (mc := 0) (ms := 0) 0 hts gX10_heirs_X10_note rfl rfl rfl (by decide +kernel) ⟨Nat.le_of_ble_eq_true rfl, Nat.le_of_ble_eq_true rfl⟩
  have g_13 := hts (Cond.fieldLink RX10 13 "DaysLentModel" "mornings" "[I") (by decide +kernel)
  have g_135 := hts (Cond.fieldLink RX10 135 "DaysLentModel" "debts" "I") (by decide +kernel)
  have g_26 := hts (Cond.fieldLink RX10 26 "DaysLentModel" "owed" "[I") (by decide +kernel)
  have g_29 := hts (Cond.fieldLink RX10 29 "DaysLentModel" "owes" "[I") (by decide +kernel)
  have w_drop_176 := cwV (R := rm_M_heirs) (s := s) (args := args) (rm := rm_M_drop) (mc := 0) (ms := 0) 1 hts gX10_heirs_X10_drop rfl rfl rfl (by decide +kernel) ⟨Nat.le_of_ble_eq_true rfl, Nat.le_of_ble_eq_true rfl⟩
  subst hsz
  have hD := hD0.self (sz := s.heap.size)
  generalize hAe : va_A (w_M cs o h I V) s.heap.size = A at hD ⊢
  have hA : ∀ q : Nat, s.heap.size ≤ q → A q := fun q h => by rw [← hAe]; exact Or.inr h
  have hl := lv_entry ([.ref o, .int x1, .int x2]) (n := 9) (Nat.le_of_ble_eq_true rfl)
  rw [show entryFrame m args 9 = entryFrame m ([.ref o, .int x1, .int x2] : List Value).toArray 9 from by rw [ha], lg_entry_eq]
  generalize (lg_sl ([.ref o, .int x1, .int x2]) ++ List.replicate (9 - (lg_sl ([.ref o, .int x1, .int x2])).length) Slot.unset).toArray = ls at hl ⊢
  generalize hQ : MQ below (va_Qi (fun r u => (r, u) = out) (fun (u : FI × FV) t => xA D cs A (w_M cs o h u.1 u.2) t) A) args s 0 0 A = Q
  have hret : ∀ (v : Int32) (Im9 : FI) (Vm9 : FV) (H : Heap) (locs : List Loc) (pc : Nat) (ls : Array Slot), some (v, Im9, Vm9) = some out → va_P D vwCl (w_M cs o h Im9 Vm9) H → va_D A (w_M cs o h Im9 Vm9) → va_S A s.heap H locs → decode cX10_heirs pc = .ok (.ireturn, 1) → W p l e rm_M_heirs s m args below meth c H locs 0 0 Q (F0 m pc ls [.int v]) := by
    intro v Im9 Vm9 H locs pc ls hf hP hD hS hd
    rw [← hQ]
    exact W.iret (v := v) hx hb hr (fun t ht hW => ⟨⟨v, (Im9, Vm9), rfl, Option.some.inj hf, by show va_P D vwCl (w_M cs o h Im9 Vm9) t.heap; rw [ht]; exact hP, va_K.moved hW.alike hK, hD⟩, hS.F ht⟩) hS.2.2 hd
  exact v_M_heirs hf hx hb hml hown hts in_X10 g_92 w_noOne_151 g_96 w_in_99 w_has_160 g_19 w_note_173 g_13 g_135 g_26 g_29 w_drop_176 hA hP hD hK hret ls hl
def M_jubilee_L21 {ρ : Type} (f : Nat) (I5 : FI) (k_21 : FV → Option ρ) : Nat → Int32 → FV → Option ρ
  | 0, _, _ => none
  | n_21 + 1, x2_21, Vm_21 => (if (I5 4) ≤ x2_21 then (k_21 Vm_21) else if x2_21 < 0 ∨ 6 ≤ x2_21.toNatClampNeg then none else (nm (va_up Vm_21 8 (upd (Vm_21 8) x2_21.toNatClampNeg (vp_nar .boolean 0))) (fun V7 => (M_jubilee_L21 f I5 k_21 n_21 (x2_21 + 1) V7))))
def M_jubilee (f : Nat) (I : FI) (V : FV) : Option (Int32 × FI × FV) := nm (va_up I 0 0) (fun I1 => ob2 (M_note f I1 V) (fun I3 V4 => nm (va_up I3 9 0) (fun I5 => nm (I3 9) (fun y6 => (M_jubilee_L21 f I5 (fun (Vm_21 : FV) => some (y6, I5, Vm_21)) f 0 V4)))))
abbrev rm_M_jubilee : Room := { frames := 2, cells := 0, slots := 0, locals := 44 }
set_option maxHeartbeats 4000000 in
set_option maxRecDepth 100000 in
theorem v_M_jubilee {l : Launch} {p : Program} {e : Env} {s : State} {m : MethodId} {args : Array Value} {below : List Frame} {meth : Method} {c : Code} {Q : State → Prop} {D : va_G} {cs : Nat → ClassId} {o : Nat} {h : Nat → Nat} {A : Nat → Prop} {I : FI} {V : FV} {f : Nat} {out : Int32 × FI × FV} (hf : M_jubilee f I V = some out) (hx : p.tables.exec = Jvm.exec) (hb : c.code = cX10_jubilee) (hml : c.maxLocals = 3) (hown : s.vm.findClass RX10 = some m.cls) (hts : ∀ w ∈ wsX10_jubilee, w.before args s = true) (in_X10 : ∀ w ∈ u_ws RX10 TX10 38, w ∈ wsX10_jubilee) (g_92 : (Cond.fieldLink RX10 92 "DaysLentModel" "thrown" "I").before args s = true) (w_note_173 : CallW rm_M_jubilee s args RX10 RX10 173 yX10_note cX10_note 2 none wsX10_note rm_M_note 0 0 0) (g_135 : (Cond.fieldLink RX10 135 "DaysLentModel" "debts" "I").before args s = true) (g_96 : (Cond.fieldLink RX10 96 "DaysLentModel" "people" "I").before args s = true) (g_23 : (Cond.fieldLink RX10 23 "DaysLentModel" "broken" "[Z").before args s = true) (hA : ∀ q : Nat, s.heap.size ≤ q → A q) (hP : va_P D vwCl (w_M cs o h I V) s.heap) (hD : va_D A (w_M cs o h I V)) (hK : va_K D vwCl (tyA cs) s) (hret : ∀ (v : Int32) (Im9 : FI) (Vm9 : FV) (H : Heap) (locs : List Loc) (pc : Nat) (ls : Array Slot), some (v, Im9, Vm9) = some out → va_P D vwCl (w_M cs o h Im9 Vm9) H → va_D A (w_M cs o h Im9 Vm9) → va_S A s.heap H locs → decode cX10_jubilee pc = .ok (.ireturn, 1) → W p l e rm_M_jubilee s m args below meth c H locs 0 0 Q (F0 m pc ls [.int v])) : ∀ ls : Array Slot, lv_has ls 3 [(0, .ref o)] → W p l e rm_M_jubilee s m args below meth c s.heap [] 0 0 Q (F0 m 0 ls []) := by
  intro ls hl
  have hS : va_S A s.heap s.heap [] := va_S.rf
  unfold M_jubilee at hf
  refine lv_aload_n hx hb dX10_jubilee_0 rfl (lv_at hl 0 rfl) ?_
  refine lv_iconst (v := 0) hx hb dX10_jubilee_1 (by decide) ?_
  refine va_put (D := D) (ci := 10) (v := .int 0) (ty := .int) (C := RX10) (T := TX10) (N := 38) hx hb hts in_X10 tyX10 tyX10_ok nmX10 hown hK hP hD hS 0 rfl rfl 0 (by decide) g_92 (fun _ h9 => h9) rfl (by decide +kernel) rfl rfl (Nat.le_of_ble_eq_true rfl) dX10_jubilee_2 (fun H locs hP hD hS => ?_)
  obtain ⟨I1, eI1, hf⟩ := nme hf
  have hP : va_P D vwCl (w_M cs o h I1 V) H := by rw [eI1]; exact hP
  have hD : va_D A (w_M cs o h I1 V) := by rw [eI1]; exact hD
  refine lv_aload_n hx hb dX10_jubilee_5 rfl (lv_at hl 0 rfl) ?_
  obtain ⟨I3, V4, qr2, hf⟩ := bd2 hf
  have hFc := xfree hD hS hA
  refine va_callv (va_runV (As := []) (rest := []) ⟨hx, hb, hml, hown, hts⟩ (c_M_note l D cs o h _ I1 V f _ qr2) w_note_173 ⟨xP_moved, va_recv hK hP (ci := 10) (q0 := 0) rfl rfl, fun U hU hW => ⟨rfl, by rw [hU], by rw [hU]; exact hP, va_K.moved hW.alike hK, hD.weaken (fun _ _ _ _ => trivial)⟩⟩ rfl rfl hl.1 rfl (lv_room (Nat.le_of_ble_eq_true rfl)) dX10_jubilee_6 ⟨Nat.zero_le _, Nat.zero_le _⟩) hS (fun q _ h9 => hFc q h9) hFc (fun u t H1 locs ht hvm hw hB hz1 hk1 hS => ?_)
  rw [hw] at hB
  obtain ⟨hP1, hK1, hD1⟩ := hB
  have hP : va_P D vwCl (w_M cs o h I3 V4) H1 := by rw [← ht]; exact hP1
  have hD : va_D A (w_M cs o h I3 V4) := hD1.weaken (fun _ q _ h9 => hFc q.1 h9)
  refine lv_aload_n hx hb dX10_jubilee_9 rfl (lv_at hl 0 rfl) ?_
  refine va_get (D := D) (ci := 10) (v := .int (I3 9)) (C := RX10) (T := TX10) (N := 38) hx hb hts in_X10 hown hK hP 0 rfl rfl 9 (by decide) g_135 (fun _ h9 => h9) rfl dX10_jubilee_10 ?_
  refine lv_istore_n (lv' := [(1, .int (I3 9)), (0, .ref o)]) hx hb dX10_jubilee_13 rfl hl (by decide) rfl (fun ls hl => ?_)
  refine lv_aload_n hx hb dX10_jubilee_14 rfl (lv_at hl 1 rfl) ?_
  refine lv_iconst (v := 0) hx hb dX10_jubilee_15 (by decide) ?_
  refine va_put (D := D) (ci := 10) (v := .int 0) (ty := .int) (C := RX10) (T := TX10) (N := 38) hx hb hts in_X10 tyX10 tyX10_ok nmX10 hown hK hP hD hS 0 rfl rfl 9 (by decide) g_135 (fun _ h9 => h9) rfl (by decide +kernel) rfl rfl (Nat.le_of_ble_eq_true rfl) dX10_jubilee_16 (fun H locs hP hD hS => ?_)
  obtain ⟨I5, eI5, hf⟩ := nme hf
  have hP : va_P D vwCl (w_M cs o h I5 V4) H := by rw [eI5]; exact hP
  have hD : va_D A (w_M cs o h I5 V4) := by rw [eI5]; exact hD
  refine lv_iconst (v := 0) hx hb dX10_jubilee_19 (by decide) ?_
  refine lv_istore_n (lv' := [(2, .int 0), (1, .int (I3 9)), (0, .ref o)]) hx hb dX10_jubilee_20 rfl hl (by decide) rfl (fun ls hl => ?_)
  obtain ⟨y6, ey6, hf⟩ := nme hf
  rw [← ey6] at hl
  have L21 : ∀ (k_21 : FV → Option (Int32 × FI × FV)) (hk_21 : ∀ (Vm_21 : FV), k_21 Vm_21 = some out → ∀ (H : Heap) (locs : List Loc), va_P D vwCl (w_M cs o h I5 Vm_21) H → va_D A (w_M cs o h I5 Vm_21) → va_S A s.heap H locs → ∀ ls : Array Slot, lv_has ls 3 [(1, .int y6)] → W p l e rm_M_jubilee s m args below meth c H locs 0 0 Q (F0 m 42 ls [])), ∀ (n_21 : Nat) (x2_21 : Int32) (Vm_21 : FV), M_jubilee_L21 f I5 k_21 n_21 x2_21 Vm_21 = some out → ∀ (H : Heap) (locs : List Loc), va_P D vwCl (w_M cs o h I5 Vm_21) H → va_D A (w_M cs o h I5 Vm_21) → va_S A s.heap H locs → ∀ ls : Array Slot, lv_has ls 3 [(0, .ref o), (1, .int y6), (2, .int x2_21)] → W p l e rm_M_jubilee s m args below meth c H locs 0 0 Q (F0 m 21 ls []) := by
    intro k_21 hk_21 n_21
    induction n_21 with
    | zero => intro x2_21 Vm_21 hf; rw [M_jubilee_L21] at hf; cases hf
    | succ n_21 ih_21 =>
      intro x2_21 Vm_21 hf H locs hP hD hS ls hl
      rw [M_jubilee_L21] at hf
      refine lv_iload_n hx hb dX10_jubilee_21 rfl (lv_at hl 2 rfl) ?_
      refine lv_aload_n hx hb dX10_jubilee_22 rfl (lv_at hl 0 rfl) ?_
      refine va_get (D := D) (ci := 10) (v := .int (I5 4)) (C := RX10) (T := TX10) (N := 38) hx hb hts in_X10 hown hK hP 0 rfl rfl 4 (by decide) g_96 (fun _ h9 => h9) rfl dX10_jubilee_23 ?_
      refine lv_icmp_ge (tgt := 42) hx hb dX10_jubilee_26 (by decide) (fun c26 => ?_) (fun c26 => ?_)
      · replace hf := ip c26 hf
        exact hk_21 Vm_21 hf _ _ hP hD hS _ (lv_sub hl [1] rfl)
      · replace hf := im c26 hf
        refine lv_aload_n hx hb dX10_jubilee_29 rfl (lv_at hl 0 rfl) ?_
        refine va_get (D := D) (ci := 10) (v := .ref (h 8)) (C := RX10) (T := TX10) (N := 38) hx hb hts in_X10 hown hK hP 0 rfl rfl 8 (by decide) g_23 (fun _ h9 => h9) rfl dX10_jubilee_30 ?_
        refine lv_iload_n hx hb dX10_jubilee_33 rfl (lv_at hl 2 rfl) ?_
        refine lv_iconst (v := 0) hx hb dX10_jubilee_34 (by decide) ?_
        obtain ⟨c35, hf⟩ := gd hf
        refine va_zast (f := (Vm_21 8)) hx hb hK hP hD hS 5 1 rfl rfl c35 dX10_jubilee_35 (fun H locs hP hD hS => ?_)
        obtain ⟨V7, eV7, hf⟩ := nme hf
        have hP : va_P D vwCl (w_M cs o h I5 V7) H := by rw [eV7]; exact hP
        have hD : va_D A (w_M cs o h I5 V7) := by rw [eV7]; exact hD
        refine lv_iinc (v := (x2_21 + 1)) (lv' := [(2, .int (x2_21 + 1)), (0, .ref o), (1, .int y6)]) hx hb dX10_jubilee_36 hl (k := 2) rfl (by rfl) (by decide) rfl (fun ls hl => ?_)
        refine lv_goto (tgt := 21) hx hb dX10_jubilee_39 (by decide) ?_
        exact ih_21 (x2_21 + 1) V7 hf _ _ hP hD hS _ (lv_sub hl [1, 2, 0] rfl)
  refine L21 _ (fun Vm_21 hf H locs hP hD hS ls hl => ?_) f 0 V4 hf _ _ hP hD hS _ (lv_sub hl [2, 1, 0] rfl)
  refine lv_iload_n hx hb dX10_jubilee_42 rfl (lv_at hl 0 rfl) ?_
  exact hret y6 I5 Vm_21 _ _ 43 _ hf hP hD hS dX10_jubilee_43
set_option maxHeartbeats 4000000 in
set_option maxRecDepth 100000 in
theorem c_M_jubilee (l : Launch) (D : va_G) (cs : Nat → ClassId) (o : Nat) (h : Nat → Nat) (sz : Nat) (I : FI) (V : FV) (f : Nat) (out : Int32 × FI × FV) (hf : M_jubilee f I V = some out) : Met l yX10_jubilee wsX10_jubilee rm_M_jubilee (va_Pc [.ref o] (xP D cs (w_M cs o h I V) sz)) (va_Qi (fun r u => (r, u) = out) (fun (u : FI × FV) t => xA D cs (va_A (w_M cs o h I V) sz) (w_M cs o h u.1 u.2) t) (va_A (w_M cs o h I V) sz)) 0 0 (va_A (w_M cs o h I V) sz) := by
  refine Met.ofW (cc := cX10_jubilee) (maxL := 3) (ret := (some .int)) (by decide) rfl ?_
  intro p e s m args below meth c s₁ B hml hv
  obtain ⟨ha, hsz, hP, hK, hD0⟩ := hv
  have hx := B.exec
  have hb := B.bytes
  have hr := B.returns
  have hts := atoms_spec (ws := wsX10_jubilee) B.pre
  have hown : s.vm.findClass RX10 = some m.cls := findClass_of_methodNamed B.named
  have hlocks := B.notSynchronized
  have in_X10 : ∀ w ∈ u_ws RX10 TX10 38, w ∈ wsX10_jubilee := fun w h => List.mem_cons_of_mem _ (List.mem_append_right _ h)
  have g_92 := hts (Cond.fieldLink RX10 92 "DaysLentModel" "thrown" "I") (by decide +kernel)
  have w_note_173 := cwV (R := rm_M_jubilee) (s := s) (args := args) (rm := rm_M_note) (mc := 0) (ms := 0) 0 hts gX10_jubilee_X10_note rfl rfl rfl (by decide +kernel) ⟨Nat.le_of_ble_eq_true rfl, Nat.le_of_ble_eq_true rfl⟩
  have g_135 := hts (Cond.fieldLink RX10 135 "DaysLentModel" "debts" "I") (by decide +kernel)
  have g_96 := hts (Cond.fieldLink RX10 96 "DaysLentModel" "people" "I") (by decide +kernel)
  have g_23 := hts (Cond.fieldLink RX10 23 "DaysLentModel" "broken" "[Z") (by decide +kernel)
  subst hsz
  have hD := hD0.self (sz := s.heap.size)
  generalize hAe : va_A (w_M cs o h I V) s.heap.size = A at hD ⊢
  have hA : ∀ q : Nat, s.heap.size ≤ q → A q := fun q h => by rw [← hAe]; exact Or.inr h
  have hl := lv_entry ([.ref o]) (n := 3) (Nat.le_of_ble_eq_true rfl)
  rw [show entryFrame m args 3 = entryFrame m ([.ref o] : List Value).toArray 3 from by rw [ha], lg_entry_eq]
  generalize (lg_sl ([.ref o]) ++ List.replicate (3 - (lg_sl ([.ref o])).length) Slot.unset).toArray = ls at hl ⊢
  generalize hQ : MQ below (va_Qi (fun r u => (r, u) = out) (fun (u : FI × FV) t => xA D cs A (w_M cs o h u.1 u.2) t) A) args s 0 0 A = Q
  have hret : ∀ (v : Int32) (Im9 : FI) (Vm9 : FV) (H : Heap) (locs : List Loc) (pc : Nat) (ls : Array Slot), some (v, Im9, Vm9) = some out → va_P D vwCl (w_M cs o h Im9 Vm9) H → va_D A (w_M cs o h Im9 Vm9) → va_S A s.heap H locs → decode cX10_jubilee pc = .ok (.ireturn, 1) → W p l e rm_M_jubilee s m args below meth c H locs 0 0 Q (F0 m pc ls [.int v]) := by
    intro v Im9 Vm9 H locs pc ls hf hP hD hS hd
    rw [← hQ]
    exact W.iret (v := v) hx hb hr (fun t ht hW => ⟨⟨v, (Im9, Vm9), rfl, Option.some.inj hf, by show va_P D vwCl (w_M cs o h Im9 Vm9) t.heap; rw [ht]; exact hP, va_K.moved hW.alike hK, hD⟩, hS.F ht⟩) hS.2.2 hd
  exact v_M_jubilee hf hx hb hml hown hts in_X10 g_92 w_note_173 g_135 g_96 g_23 hA hP hD hK hret ls hl
def M_undo (f : Nat) (I : FI) (V : FV) : Option (Int32 × FI × FV) := nm (va_up I 0 0) (fun I1 => (if (I1 24) = 0 then some ((-3), I1, V) else nm (va_up I1 24 ((I1 24) - 1)) (fun I2 => ob2 (M_takePage_book f (74 * (I2 24)) I2 V) (fun I4 V5 => some ((I4 24), I4, V5)))))
abbrev rm_M_undo : Room := { frames := 2, cells := 0, slots := 0, locals := 44 }
set_option maxHeartbeats 4000000 in
set_option maxRecDepth 100000 in
theorem v_M_undo {l : Launch} {p : Program} {e : Env} {s : State} {m : MethodId} {args : Array Value} {below : List Frame} {meth : Method} {c : Code} {Q : State → Prop} {D : va_G} {cs : Nat → ClassId} {o : Nat} {h : Nat → Nat} {A : Nat → Prop} {I : FI} {V : FV} {f : Nat} {out : Int32 × FI × FV} (hf : M_undo f I V = some out) (hx : p.tables.exec = Jvm.exec) (hb : c.code = cX10_undo) (hml : c.maxLocals = 1) (hown : s.vm.findClass RX10 = some m.cls) (hts : ∀ w ∈ wsX10_undo, w.before args s = true) (in_X10 : ∀ w ∈ u_ws RX10 TX10 38, w ∈ wsX10_undo) (g_92 : (Cond.fieldLink RX10 92 "DaysLentModel" "thrown" "I").before args s = true) (g_141 : (Cond.fieldLink RX10 141 "DaysLentModel" "acts" "I").before args s = true) (g_56 : (Cond.fieldLink RX10 56 "DaysLentModel" "book" "[I").before args s = true) (w_takePage_180 : CallW rm_M_undo s args RX10 RX10 180 yX10_takePage cX10_takePage 4 none wsX10_takePage rm_M_takePage_book 0 0 2) (hA : ∀ q : Nat, s.heap.size ≤ q → A q) (hP : va_P D vwCl (w_M cs o h I V) s.heap) (hD : va_D A (w_M cs o h I V)) (hK : va_K D vwCl (tyA cs) s) (hret : ∀ (v : Int32) (Im9 : FI) (Vm9 : FV) (H : Heap) (locs : List Loc) (pc : Nat) (ls : Array Slot), some (v, Im9, Vm9) = some out → va_P D vwCl (w_M cs o h Im9 Vm9) H → va_D A (w_M cs o h Im9 Vm9) → va_S A s.heap H locs → decode cX10_undo pc = .ok (.ireturn, 1) → W p l e rm_M_undo s m args below meth c H locs 0 0 Q (F0 m pc ls [.int v])) : ∀ ls : Array Slot, lv_has ls 1 [(0, .ref o)] → W p l e rm_M_undo s m args below meth c s.heap [] 0 0 Q (F0 m 0 ls []) := by
  intro ls hl
  have hS : va_S A s.heap s.heap [] := va_S.rf
  unfold M_undo at hf
  refine lv_aload_n hx hb dX10_undo_0 rfl (lv_at hl 0 rfl) ?_
  refine lv_iconst (v := 0) hx hb dX10_undo_1 (by decide) ?_
  refine va_put (D := D) (ci := 10) (v := .int 0) (ty := .int) (C := RX10) (T := TX10) (N := 38) hx hb hts in_X10 tyX10 tyX10_ok nmX10 hown hK hP hD hS 0 rfl rfl 0 (by decide) g_92 (fun _ h9 => h9) rfl (by decide +kernel) rfl rfl (Nat.le_of_ble_eq_true rfl) dX10_undo_2 (fun H locs hP hD hS => ?_)
  obtain ⟨I1, eI1, hf⟩ := nme hf
  have hP : va_P D vwCl (w_M cs o h I1 V) H := by rw [eI1]; exact hP
  have hD : va_D A (w_M cs o h I1 V) := by rw [eI1]; exact hD
  refine lv_aload_n hx hb dX10_undo_5 rfl (lv_at hl 0 rfl) ?_
  refine va_get (D := D) (ci := 10) (v := .int (I1 24)) (C := RX10) (T := TX10) (N := 38) hx hb hts in_X10 hown hK hP 0 rfl rfl 24 (by decide) g_141 (fun _ h9 => h9) rfl dX10_undo_6 ?_
  refine lv_if_ne (tgt := 15) hx hb dX10_undo_9 (by decide) (fun c9 => ?_) (fun c9 => ?_)
  · replace hf := im c9 hf
    refine lv_aload_n hx hb dX10_undo_15 rfl (lv_at hl 0 rfl) ?_
    refine lv_dup hx hb dX10_undo_16 rfl ?_
    refine va_get (D := D) (ci := 10) (v := .int (I1 24)) (C := RX10) (T := TX10) (N := 38) hx hb hts in_X10 hown hK hP 0 rfl rfl 24 (by decide) g_141 (fun _ h9 => h9) rfl dX10_undo_17 ?_
    refine lv_iconst (v := 1) hx hb dX10_undo_20 (by decide) ?_
    refine lv_isub hx hb dX10_undo_21 ?_
    refine va_put (D := D) (ci := 10) (v := .int ((I1 24) - 1)) (ty := .int) (C := RX10) (T := TX10) (N := 38) hx hb hts in_X10 tyX10 tyX10_ok nmX10 hown hK hP hD hS 0 rfl rfl 24 (by decide) g_141 (fun _ h9 => h9) rfl (by decide +kernel) rfl rfl (Nat.le_of_ble_eq_true rfl) dX10_undo_22 (fun H locs hP hD hS => ?_)
    obtain ⟨I2, eI2, hf⟩ := nme hf
    have hP : va_P D vwCl (w_M cs o h I2 V) H := by rw [eI2]; exact hP
    have hD : va_D A (w_M cs o h I2 V) := by rw [eI2]; exact hD
    refine lv_aload_n hx hb dX10_undo_25 rfl (lv_at hl 0 rfl) ?_
    refine lv_aload_n hx hb dX10_undo_26 rfl (lv_at hl 0 rfl) ?_
    refine va_get (D := D) (ci := 10) (v := .ref (h 23)) (C := RX10) (T := TX10) (N := 38) hx hb hts in_X10 hown hK hP 0 rfl rfl 23 (by decide) g_56 (fun _ h9 => h9) rfl dX10_undo_27 ?_
    refine lv_bipush (v := 74) hx hb dX10_undo_30 (by decide) ?_
    refine lv_aload_n hx hb dX10_undo_32 rfl (lv_at hl 0 rfl) ?_
    refine va_get (D := D) (ci := 10) (v := .int (I2 24)) (C := RX10) (T := TX10) (N := 38) hx hb hts in_X10 hown hK hP 0 rfl rfl 24 (by decide) g_141 (fun _ h9 => h9) rfl dX10_undo_33 ?_
    refine lv_imul hx hb dX10_undo_36 ?_
    obtain ⟨I4, V5, qr3, hf⟩ := bd2 hf
    have hFc := xfree hD hS hA
    refine va_callv (va_runV (As := [.ref (h 23), .int (74 * (I2 24))]) (rest := []) ⟨hx, hb, hml, hown, hts⟩ (c_M_takePage_book l D cs o h _ I2 V (74 * (I2 24)) f _ qr3) w_takePage_180 ⟨xP_moved, va_recv hK hP (ci := 10) (q0 := 0) rfl rfl, fun U hU hW => ⟨rfl, by rw [hU], by rw [hU]; exact hP, va_K.moved hW.alike hK, hD.weaken (fun _ _ _ _ => trivial)⟩⟩ rfl rfl hl.1 rfl (lv_room (Nat.le_of_ble_eq_true rfl)) dX10_undo_37 ⟨Nat.zero_le _, Nat.zero_le _⟩) hS (fun q _ h9 => hFc q h9) hFc (fun u t H1 locs ht hvm hw hB hz1 hk1 hS => ?_)
    rw [hw] at hB
    obtain ⟨hP1, hK1, hD1⟩ := hB
    have hP : va_P D vwCl (w_M cs o h I4 V5) H1 := by rw [← ht]; exact hP1
    have hD : va_D A (w_M cs o h I4 V5) := hD1.weaken (fun _ q _ h9 => hFc q.1 h9)
    refine lv_aload_n hx hb dX10_undo_40 rfl (lv_at hl 0 rfl) ?_
    refine va_get (D := D) (ci := 10) (v := .int (I4 24)) (C := RX10) (T := TX10) (N := 38) hx hb hts in_X10 hown hK hP 0 rfl rfl 24 (by decide) g_141 (fun _ h9 => h9) rfl dX10_undo_41 ?_
    exact hret (I4 24) I4 V5 _ _ 44 _ hf hP hD hS dX10_undo_44
  · replace hf := ip c9 hf
    refine lv_bipush (v := (-3)) hx hb dX10_undo_12 (by decide) ?_
    exact hret (-3) I1 V _ _ 14 _ hf hP hD hS dX10_undo_14
set_option maxHeartbeats 4000000 in
set_option maxRecDepth 100000 in
theorem c_M_undo (l : Launch) (D : va_G) (cs : Nat → ClassId) (o : Nat) (h : Nat → Nat) (sz : Nat) (I : FI) (V : FV) (f : Nat) (out : Int32 × FI × FV) (hf : M_undo f I V = some out) : Met l yX10_undo wsX10_undo rm_M_undo (va_Pc [.ref o] (xP D cs (w_M cs o h I V) sz)) (va_Qi (fun r u => (r, u) = out) (fun (u : FI × FV) t => xA D cs (va_A (w_M cs o h I V) sz) (w_M cs o h u.1 u.2) t) (va_A (w_M cs o h I V) sz)) 0 0 (va_A (w_M cs o h I V) sz) := by
  refine Met.ofW (cc := cX10_undo) (maxL := 1) (ret := (some .int)) (by decide) rfl ?_
  intro p e s m args below meth c s₁ B hml hv
  obtain ⟨ha, hsz, hP, hK, hD0⟩ := hv
  have hx := B.exec
  have hb := B.bytes
  have hr := B.returns
  have hts := atoms_spec (ws := wsX10_undo) B.pre
  have hown : s.vm.findClass RX10 = some m.cls := findClass_of_methodNamed B.named
  have hlocks := B.notSynchronized
  have in_X10 : ∀ w ∈ u_ws RX10 TX10 38, w ∈ wsX10_undo := fun w h => List.mem_cons_of_mem _ (List.mem_append_right _ h)
  have g_92 := hts (Cond.fieldLink RX10 92 "DaysLentModel" "thrown" "I") (by decide +kernel)
  have g_141 := hts (Cond.fieldLink RX10 141 "DaysLentModel" "acts" "I") (by decide +kernel)
  have g_56 := hts (Cond.fieldLink RX10 56 "DaysLentModel" "book" "[I") (by decide +kernel)
  have w_takePage_180 := cwV (R := rm_M_undo) (s := s) (args := args) (rm := rm_M_takePage_book) (mc := 0) (ms := 0) 2 hts gX10_undo_X10_takePage rfl rfl rfl (by decide +kernel) ⟨Nat.le_of_ble_eq_true rfl, Nat.le_of_ble_eq_true rfl⟩
  subst hsz
  have hD := hD0.self (sz := s.heap.size)
  generalize hAe : va_A (w_M cs o h I V) s.heap.size = A at hD ⊢
  have hA : ∀ q : Nat, s.heap.size ≤ q → A q := fun q h => by rw [← hAe]; exact Or.inr h
  have hl := lv_entry ([.ref o]) (n := 1) (Nat.le_of_ble_eq_true rfl)
  rw [show entryFrame m args 1 = entryFrame m ([.ref o] : List Value).toArray 1 from by rw [ha], lg_entry_eq]
  generalize (lg_sl ([.ref o]) ++ List.replicate (1 - (lg_sl ([.ref o])).length) Slot.unset).toArray = ls at hl ⊢
  generalize hQ : MQ below (va_Qi (fun r u => (r, u) = out) (fun (u : FI × FV) t => xA D cs A (w_M cs o h u.1 u.2) t) A) args s 0 0 A = Q
  have hret : ∀ (v : Int32) (Im9 : FI) (Vm9 : FV) (H : Heap) (locs : List Loc) (pc : Nat) (ls : Array Slot), some (v, Im9, Vm9) = some out → va_P D vwCl (w_M cs o h Im9 Vm9) H → va_D A (w_M cs o h Im9 Vm9) → va_S A s.heap H locs → decode cX10_undo pc = .ok (.ireturn, 1) → W p l e rm_M_undo s m args below meth c H locs 0 0 Q (F0 m pc ls [.int v]) := by
    intro v Im9 Vm9 H locs pc ls hf hP hD hS hd
    rw [← hQ]
    exact W.iret (v := v) hx hb hr (fun t ht hW => ⟨⟨v, (Im9, Vm9), rfl, Option.some.inj hf, by show va_P D vwCl (w_M cs o h Im9 Vm9) t.heap; rw [ht]; exact hP, va_K.moved hW.alike hK, hD⟩, hS.F ht⟩) hS.2.2 hd
  exact v_M_undo hf hx hb hml hown hts in_X10 g_92 g_141 g_56 w_takePage_180 hA hP hD hK hret ls hl
