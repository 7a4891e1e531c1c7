def M_fewest_L9 {ρ : Type} (f : Nat) (I1 : FI) (V : FV) (k_9 : Int32 → Option ρ) : Nat → Int32 → Int32 → Option ρ
  | 0, _, _ => none
  | n_9 + 1, x1_9, x2_9 => (if (I1 4) ≤ x2_9 then (k_9 x1_9) else ob1 (M_owedAll f x2_9 I1 V) (fun zr2 => ob1 (M_owesAll f x2_9 I1 V) (fun zr3 => (nm (fun (t1_38 : Int32) => (M_fewest_L9 f I1 V k_9 n_9 (x1_9 ||| t1_38) (x2_9 + 1))) (fun j38 => (if zr2 = zr3 then (j38 0) else (j38 (1 <<< (x2_9 &&& 31)))))))))
def M_fewest_L69 {ρ : Type} (f : Nat) (I1 : FI) (x3_50 : Int32) (Vm_50 : FV) (k_69 : Int32 → Int32 → Option ρ) : Nat → Int32 → Int32 → Int32 → Option ρ
  | 0, _, _, _ => none
  | n_69 + 1, x4_69, x5_69, x6_69 => (if (I1 4) ≤ x6_69 then (k_69 x4_69 x5_69) else ob1 (M_has f x3_50 x6_69) (fun zr4 => (nm (fun (x4_136 : Int32) (x5_136 : Int32) => (M_fewest_L69 f I1 x3_50 Vm_50 k_69 n_69 x4_136 x5_136 (x6_69 + 1))) (fun j136 => (if zr4 = 0 then (j136 x4_69 x5_69) else ob1 (M_owedAll f x6_69 I1 Vm_50) (fun zr5 => ob1 (M_owesAll f x6_69 I1 Vm_50) (fun zr6 => nm (x4_69 + (zr5 - zr6)) (fun y7 => if (x3_50 &&& ((1 <<< (x6_69 &&& 31)) ^^^ (-1))) < 0 ∨ 64 ≤ (x3_50 &&& ((1 <<< (x6_69 &&& 31)) ^^^ (-1))).toNatClampNeg then none else (nm ((Vm_50 31) (x3_50 &&& ((1 <<< (x6_69 &&& 31)) ^^^ (-1))).toNatClampNeg) (fun y8 => (nm (fun (t0_134 : Int32) => (j136 y7 t0_134)) (fun j134 => (if y8 ≤ x5_69 then (j134 x5_69) else (j134 y8))))))))))))))
def M_fewest_L50 {ρ : Type} (f : Nat) (I1 : FI) (k_50 : FV → Option ρ) : Nat → Int32 → FV → Option ρ
  | 0, _, _ => none
  | n_50 + 1, x3_50, Vm_50 => (if (1 <<< ((I1 4) &&& 31)) ≤ x3_50 then (k_50 Vm_50) else (M_fewest_L69 f I1 x3_50 Vm_50 (fun (x4_69 : Int32) (x5_69 : Int32) => (nm (fun (t3_163 : Int32) => if x3_50 < 0 ∨ 64 ≤ x3_50.toNatClampNeg then none else (nm (va_up Vm_50 31 (upd (Vm_50 31) x3_50.toNatClampNeg (x5_69 + t3_163))) (fun V9 => (M_fewest_L50 f I1 k_50 n_50 (x3_50 + 1) V9)))) (fun j163 => nm (fun (u_162 : Unit) => (j163 0)) (fun j162 => (if x3_50 = 0 then (j162 ()) else (if x4_69 = 0 then (j163 1) else (j162 ()))))))) f 0 0 0))
def M_fewest_L173 {ρ : Type} (f : Nat) (I1 : FI) (x1_9 : Int32) (k_173 : Int32 → Option ρ) : Nat → Int32 → Int32 → Option ρ
  | 0, _, _ => none
  | n_173 + 1, x2_173, x3_173 => (if (I1 4) ≤ x3_173 then (k_173 x2_173) else ob1 (M_has f x1_9 x3_173) (fun zr10 => (nm (fun (t1_195 : Int32) => (M_fewest_L173 f I1 x1_9 k_173 n_173 (x2_173 + t1_195) (x3_173 + 1))) (fun j195 => (if zr10 = 0 then (j195 0) else (j195 1))))))
def M_fewest (f : Nat) (I : FI) (V : FV) : Option (Int32 × FI × FV) := nm (va_up I 0 0) (fun I1 => (M_fewest_L9 f I1 V (fun (x1_9 : Int32) => (M_fewest_L50 f I1 (fun (Vm_50 : FV) => (M_fewest_L173 f I1 x1_9 (fun (x2_173 : Int32) => if x1_9 < 0 ∨ 64 ≤ x1_9.toNatClampNeg then none else (some ((x2_173 - ((Vm_50 31) x1_9.toNatClampNeg)), I1, Vm_50))) f 0 0)) f 0 V)) f 0 0))
abbrev rm_M_fewest : Room := { frames := 1, cells := 0, slots := 0, locals := 23 }
set_option maxHeartbeats 4000000 in
set_option maxRecDepth 100000 in
theorem v_M_fewest {l : Launch} {p : Program} {e : Env} {s : State} {m : MethodId} {args : Array Value} {below : List Frame} {meth : Method} {c : Code} {Q : State → Prop} {D : va_G} {cs : Nat → ClassId} {o : Nat} {h : Nat → Nat} {A : Nat → Prop} {I : FI} {V : FV} {f : Nat} {out : Int32 × FI × FV} (hf : M_fewest f I V = some out) (hx : p.tables.exec = Jvm.exec) (hb : c.code = cX10_fewest) (hml : c.maxLocals = 8) (hown : s.vm.findClass RX10 = some m.cls) (hts : ∀ w ∈ wsX10_fewest, w.before args s = true) (in_X10 : ∀ w ∈ u_ws RX10 TX10 38, w ∈ wsX10_fewest) (g_92 : (Cond.fieldLink RX10 92 "DaysLentModel" "thrown" "I").before args s = true) (g_96 : (Cond.fieldLink RX10 96 "DaysLentModel" "people" "I").before args s = true) (w_owedAll_155 : CallW rm_M_fewest s args RX10 RX10 155 yX10_owedAll cX10_owedAll 4 (some .int) wsX10_owedAll rm_M_owedAll 0 0 1) (w_owesAll_144 : CallW rm_M_fewest s args RX10 RX10 144 yX10_owesAll cX10_owesAll 4 (some .int) wsX10_owesAll rm_M_owesAll 0 0 1) (w_has_160 : CallB rm_M_fewest s args RX10 160 yX10_has cX10_has 2 (some .boolean) wsX10_has rm_M_has 0 0 2 ∧ (Cond.static yX10_has).before args s = true) (g_74 : (Cond.fieldLink RX10 74 "DaysLentModel" "groups" "[I").before args s = true) (hA : ∀ q : Nat, s.heap.size ≤ q → A q) (hP : va_P D vwCl (w_M cs o h I V) s.heap) (hD : va_D A (w_M cs o h I V)) (hK : va_K D vwCl (tyA cs) s) (hret : ∀ (v : Int32) (Im9 : FI) (Vm9 : FV) (H : Heap) (locs : List Loc) (pc : Nat) (ls : Array Slot), some (v, Im9, Vm9) = some out → va_P D vwCl (w_M cs o h Im9 Vm9) H → va_D A (w_M cs o h Im9 Vm9) → va_S A s.heap H locs → decode cX10_fewest pc = .ok (.ireturn, 1) → W p l e rm_M_fewest s m args below meth c H locs 0 0 Q (F0 m pc ls [.int v])) : ∀ ls : Array Slot, lv_has ls 8 [(0, .ref o)] → W p l e rm_M_fewest s m args below meth c s.heap [] 0 0 Q (F0 m 0 ls []) := by
  intro ls hl
  have hS : va_S A s.heap s.heap [] := va_S.rf
  unfold M_fewest at hf
  refine lv_aload_n hx hb dX10_fewest_0 rfl (lv_at hl 0 rfl) ?_
  refine lv_iconst (v := 0) hx hb dX10_fewest_1 (by decide) ?_
  refine va_put (D := D) (ci := 10) (v := .int 0) (ty := .int) (C := RX10) (T := TX10) (N := 38) hx hb hts in_X10 tyX10 tyX10_ok nmX10 hown hK hP hD hS 0 rfl rfl 0 (by decide) g_92 (fun _ h9 => h9) rfl (by decide +kernel) rfl rfl (Nat.le_of_ble_eq_true rfl) dX10_fewest_2 (fun H locs hP hD hS => ?_)
  obtain ⟨I1, eI1, hf⟩ := nme hf
  have hP : va_P D vwCl (w_M cs o h I1 V) H := by rw [eI1]; exact hP
  have hD : va_D A (w_M cs o h I1 V) := by rw [eI1]; exact hD
  refine lv_iconst (v := 0) hx hb dX10_fewest_5 (by decide) ?_
  refine lv_istore_n (lv' := [(1, .int 0), (0, .ref o)]) hx hb dX10_fewest_6 rfl hl (by decide) rfl (fun ls hl => ?_)
  refine lv_iconst (v := 0) hx hb dX10_fewest_7 (by decide) ?_
  refine lv_istore_n (lv' := [(2, .int 0), (1, .int 0), (0, .ref o)]) hx hb dX10_fewest_8 rfl hl (by decide) rfl (fun ls hl => ?_)
  have L9 : ∀ (k_9 : Int32 → Option (Int32 × FI × FV)) (hk_9 : ∀ (x1_9 : Int32), k_9 x1_9 = some out → ∀ (H : Heap) (locs : List Loc), va_P D vwCl (w_M cs o h I1 V) H → va_D A (w_M cs o h I1 V) → va_S A s.heap H locs → ∀ ls : Array Slot, lv_has ls 8 [(0, .ref o), (1, .int x1_9)] → W p l e rm_M_fewest s m args below meth c H locs 0 0 Q (F0 m 46 ls [])), ∀ (n_9 : Nat) (x1_9 : Int32) (x2_9 : Int32), M_fewest_L9 f I1 V k_9 n_9 x1_9 x2_9 = some out → ∀ (H : Heap) (locs : List Loc), va_P D vwCl (w_M cs o h I1 V) H → va_D A (w_M cs o h I1 V) → va_S A s.heap H locs → ∀ ls : Array Slot, lv_has ls 8 [(0, .ref o), (1, .int x1_9), (2, .int x2_9)] → W p l e rm_M_fewest s m args below meth c H locs 0 0 Q (F0 m 9 ls []) := by
    intro k_9 hk_9 n_9
    induction n_9 with
    | zero => intro x1_9 x2_9 hf; rw [M_fewest_L9] at hf; cases hf
    | succ n_9 ih_9 =>
      intro x1_9 x2_9 hf H locs hP hD hS ls hl
      rw [M_fewest_L9] at hf
      refine lv_iload_n hx hb dX10_fewest_9 rfl (lv_at hl 2 rfl) ?_
      refine lv_aload_n hx hb dX10_fewest_10 rfl (lv_at hl 0 rfl) ?_
      refine va_get (D := D) (ci := 10) (v := .int (I1 4)) (C := RX10) (T := TX10) (N := 38) hx hb hts in_X10 hown hK hP 0 rfl rfl 4 (by decide) g_96 (fun _ h9 => h9) rfl dX10_fewest_11 ?_
      refine lv_icmp_ge (tgt := 46) hx hb dX10_fewest_14 (by decide) (fun c14 => ?_) (fun c14 => ?_)
      · replace hf := ip c14 hf
        exact hk_9 x1_9 hf _ _ hP hD hS _ (lv_sub hl [0, 1] rfl)
      · replace hf := im c14 hf
        refine lv_iload_n hx hb dX10_fewest_17 rfl (lv_at hl 1 rfl) ?_
        refine lv_aload_n hx hb dX10_fewest_18 rfl (lv_at hl 0 rfl) ?_
        refine lv_iload_n hx hb dX10_fewest_19 rfl (lv_at hl 2 rfl) ?_
        obtain ⟨zr2, qr2, hf⟩ := bd1 hf
        refine vp_callSi (va_Run.run (va_runV (As := [.int x2_9]) (rest := [.int x1_9]) ⟨hx, hb, hml, hown, hts⟩ (c_M_owedAll l D cs o h I1 V x2_9 f zr2 qr2) w_owedAll_155 ⟨xR_moved, va_recv hK hP (ci := 10) (q0 := 0) rfl rfl, fun U hU hW => ⟨rfl, by rw [hU]; exact hP, va_K.moved hW.alike hK⟩⟩ rfl rfl hl.1 rfl (lv_room (Nat.le_of_ble_eq_true rfl)) dX10_fewest_20 ⟨Nat.zero_le _, Nat.zero_le _⟩)) (fun r2 er2 => ?_)
        rw [er2]
        refine lv_aload_n hx hb dX10_fewest_23 rfl (lv_at hl 0 rfl) ?_
        refine lv_iload_n hx hb dX10_fewest_24 rfl (lv_at hl 2 rfl) ?_
        obtain ⟨zr3, qr3, hf⟩ := bd1 hf
        refine vp_callSi (va_Run.run (va_runV (As := [.int x2_9]) (rest := [.int zr2, .int x1_9]) ⟨hx, hb, hml, hown, hts⟩ (c_M_owesAll l D cs o h I1 V x2_9 f zr3 qr3) w_owesAll_144 ⟨xR_moved, va_recv hK hP (ci := 10) (q0 := 0) rfl rfl, fun U hU hW => ⟨rfl, by rw [hU]; exact hP, va_K.moved hW.alike hK⟩⟩ rfl rfl hl.1 rfl (lv_room (Nat.le_of_ble_eq_true rfl)) dX10_fewest_25 ⟨Nat.zero_le _, Nat.zero_le _⟩)) (fun r3 er3 => ?_)
        rw [er3]
        obtain ⟨j38, ej38, hf⟩ := nme hf
        have J38 : ∀ (t1_38 : Int32), j38 t1_38 = some out → ∀ (H : Heap) (locs : List Loc), va_P D vwCl (w_M cs o h I1 V) H → va_D A (w_M cs o h I1 V) → va_S A s.heap H locs → ∀ ls : Array Slot, lv_has ls 8 [(0, .ref o), (2, .int x2_9)] → W p l e rm_M_fewest s m args below meth c H locs 0 0 Q (F0 m 38 ls [.int t1_38, .int x1_9]) := by
          intro t1_38 hf H locs hP hD hS ls hl
          rw [ej38] at hf
          refine lv_ior hx hb dX10_fewest_38 ?_
          refine lv_istore_n (lv' := [(1, .int (x1_9 ||| t1_38)), (0, .ref o), (2, .int x2_9)]) hx hb dX10_fewest_39 rfl hl (by decide) rfl (fun ls hl => ?_)
          refine lv_iinc (v := (x2_9 + 1)) (lv' := [(2, .int (x2_9 + 1)), (1, .int (x1_9 ||| t1_38)), (0, .ref o)]) hx hb dX10_fewest_40 hl (k := 2) rfl (by rfl) (by decide) rfl (fun ls hl => ?_)
          refine lv_goto (tgt := 9) hx hb dX10_fewest_43 (by decide) ?_
          exact ih_9 (x1_9 ||| t1_38) (x2_9 + 1) hf _ _ hP hD hS _ (lv_sub hl [2, 1, 0] rfl)
        refine lv_icmp_ne (tgt := 35) hx hb dX10_fewest_28 (by decide) (fun c28 => ?_) (fun c28 => ?_)
        · replace hf := im c28 hf
          refine lv_iconst (v := 1) hx hb dX10_fewest_35 (by decide) ?_
          refine lv_iload_n hx hb dX10_fewest_36 rfl (lv_at hl 2 rfl) ?_
          refine lv_ishl hx hb dX10_fewest_37 ?_
          exact J38 (1 <<< (x2_9 &&& 31)) hf _ _ hP hD hS _ (lv_sub hl [0, 2] rfl)
        · replace hf := ip c28 hf
          refine lv_iconst (v := 0) hx hb dX10_fewest_31 (by decide) ?_
          refine lv_goto (tgt := 38) hx hb dX10_fewest_32 (by decide) ?_
          exact J38 0 hf _ _ hP hD hS _ (lv_sub hl [0, 2] rfl)
  refine L9 _ (fun x1_9 hf H locs hP hD hS ls hl => ?_) f 0 0 hf _ _ hP hD hS _ (lv_sub hl [2, 1, 0] rfl)
  refine lv_iconst (v := 0) hx hb dX10_fewest_46 (by decide) ?_
  refine lv_istore_n (lv' := [(2, .int 0), (0, .ref o), (1, .int x1_9)]) hx hb dX10_fewest_47 rfl hl (by decide) rfl (fun ls hl => ?_)
  refine lv_iconst (v := 0) hx hb dX10_fewest_48 (by decide) ?_
  refine lv_istore_n (lv' := [(3, .int 0), (2, .int 0), (0, .ref o), (1, .int x1_9)]) hx hb dX10_fewest_49 rfl hl (by decide) rfl (fun ls hl => ?_)
  have L50 : ∀ (k_50 : FV → Option (Int32 × FI × FV)) (hk_50 : ∀ (Vm_50 : FV), k_50 Vm_50 = some out → ∀ (H : Heap) (locs : List Loc), va_P D vwCl (w_M cs o h I1 Vm_50) H → va_D A (w_M cs o h I1 Vm_50) → va_S A s.heap H locs → ∀ ls : Array Slot, lv_has ls 8 [(0, .ref o), (1, .int x1_9), (2, .int 0)] → W p l e rm_M_fewest s m args below meth c H locs 0 0 Q (F0 m 171 ls [])), ∀ (n_50 : Nat) (x3_50 : Int32) (Vm_50 : FV), M_fewest_L50 f I1 k_50 n_50 x3_50 Vm_50 = some out → ∀ (H : Heap) (locs : List Loc), va_P D vwCl (w_M cs o h I1 Vm_50) H → va_D A (w_M cs o h I1 Vm_50) → va_S A s.heap H locs → ∀ ls : Array Slot, lv_has ls 8 [(0, .ref o), (1, .int x1_9), (2, .int 0), (3, .int x3_50)] → W p l e rm_M_fewest s m args below meth c H locs 0 0 Q (F0 m 50 ls []) := by
    intro k_50 hk_50 n_50
    induction n_50 with
    | zero => intro x3_50 Vm_50 hf; rw [M_fewest_L50] at hf; cases hf
    | succ n_50 ih_50 =>
      intro x3_50 Vm_50 hf H locs hP hD hS ls hl
      rw [M_fewest_L50] at hf
      refine lv_iload_n hx hb dX10_fewest_50 rfl (lv_at hl 3 rfl) ?_
      refine lv_iconst (v := 1) hx hb dX10_fewest_51 (by decide) ?_
      refine lv_aload_n hx hb dX10_fewest_52 rfl (lv_at hl 0 rfl) ?_
      refine va_get (D := D) (ci := 10) (v := .int (I1 4)) (C := RX10) (T := TX10) (N := 38) hx hb hts in_X10 hown hK hP 0 rfl rfl 4 (by decide) g_96 (fun _ h9 => h9) rfl dX10_fewest_53 ?_
      refine lv_ishl hx hb dX10_fewest_56 ?_
      refine lv_icmp_ge (tgt := 171) hx hb dX10_fewest_57 (by decide) (fun c57 => ?_) (fun c57 => ?_)
      · replace hf := ip c57 hf
        exact hk_50 Vm_50 hf _ _ hP hD hS _ (lv_sub hl [0, 1, 2] rfl)
      · replace hf := im c57 hf
        refine lv_iconst (v := 0) hx hb dX10_fewest_60 (by decide) ?_
        refine lv_istore (lv' := [(4, .int 0), (0, .ref o), (1, .int x1_9), (2, .int 0), (3, .int x3_50)]) hx hb dX10_fewest_61 hl (by decide) rfl (fun ls hl => ?_)
        refine lv_iconst (v := 0) hx hb dX10_fewest_63 (by decide) ?_
        refine lv_istore (lv' := [(5, .int 0), (4, .int 0), (0, .ref o), (1, .int x1_9), (2, .int 0), (3, .int x3_50)]) hx hb dX10_fewest_64 hl (by decide) rfl (fun ls hl => ?_)
        refine lv_iconst (v := 0) hx hb dX10_fewest_66 (by decide) ?_
        refine lv_istore (lv' := [(6, .int 0), (5, .int 0), (4, .int 0), (0, .ref o), (1, .int x1_9), (2, .int 0), (3, .int x3_50)]) hx hb dX10_fewest_67 hl (by decide) rfl (fun ls hl => ?_)
        have L69 : ∀ (k_69 : Int32 → Int32 → Option (Int32 × FI × FV)) (hk_69 : ∀ (x4_69 : Int32) (x5_69 : Int32), k_69 x4_69 x5_69 = some out → ∀ (H : Heap) (locs : List Loc), va_P D vwCl (w_M cs o h I1 Vm_50) H → va_D A (w_M cs o h I1 Vm_50) → va_S A s.heap H locs → ∀ ls : Array Slot, lv_has ls 8 [(0, .ref o), (1, .int x1_9), (2, .int 0), (3, .int x3_50), (4, .int x4_69), (5, .int x5_69)] → W p l e rm_M_fewest s m args below meth c H locs 0 0 Q (F0 m 142 ls [])), ∀ (n_69 : Nat) (x4_69 : Int32) (x5_69 : Int32) (x6_69 : Int32), M_fewest_L69 f I1 x3_50 Vm_50 k_69 n_69 x4_69 x5_69 x6_69 = some out → ∀ (H : Heap) (locs : List Loc), va_P D vwCl (w_M cs o h I1 Vm_50) H → va_D A (w_M cs o h I1 Vm_50) → va_S A s.heap H locs → ∀ ls : Array Slot, lv_has ls 8 [(0, .ref o), (1, .int x1_9), (2, .int 0), (3, .int x3_50), (4, .int x4_69), (5, .int x5_69), (6, .int x6_69)] → W p l e rm_M_fewest s m args below meth c H locs 0 0 Q (F0 m 69 ls []) := by
          intro k_69 hk_69 n_69
          induction n_69 with
          | zero => intro x4_69 x5_69 x6_69 hf; rw [M_fewest_L69] at hf; cases hf
          | succ n_69 ih_69 =>
            intro x4_69 x5_69 x6_69 hf H locs hP hD hS ls hl
            rw [M_fewest_L69] at hf
            refine lv_iload hx hb dX10_fewest_69 (lv_at hl 6 rfl) ?_
            refine lv_aload_n hx hb dX10_fewest_71 rfl (lv_at hl 0 rfl) ?_
            refine va_get (D := D) (ci := 10) (v := .int (I1 4)) (C := RX10) (T := TX10) (N := 38) hx hb hts in_X10 hown hK hP 0 rfl rfl 4 (by decide) g_96 (fun _ h9 => h9) rfl dX10_fewest_72 ?_
            refine lv_icmp_ge (tgt := 142) hx hb dX10_fewest_75 (by decide) (fun c75 => ?_) (fun c75 => ?_)
            · replace hf := ip c75 hf
              exact hk_69 x4_69 x5_69 hf _ _ hP hD hS _ (lv_sub hl [0, 1, 2, 3, 4, 5] rfl)
            · replace hf := im c75 hf
              refine lv_iload_n hx hb dX10_fewest_78 rfl (lv_at hl 3 rfl) ?_
              refine lv_iload hx hb dX10_fewest_79 (lv_at hl 6 rfl) ?_
              obtain ⟨zr4, qr4, hf⟩ := bd1 hf
              refine vp_callSi (va_Run.run (va_runS (As := [.int x3_50, .int x6_69]) (rest := []) ⟨hx, hb, hml, hown, hts⟩ (c_M_has l x3_50 x6_69 f zr4 qr4) w_has_160 ⟨fun a U g mk q => q, fun U hU hW => ⟨rfl, trivial⟩⟩ rfl rfl hl.1 rfl (lv_room (Nat.le_of_ble_eq_true rfl)) dX10_fewest_81 ⟨Nat.zero_le _, Nat.zero_le _⟩)) (fun r4 er4 => ?_)
              rw [er4]
              obtain ⟨j136, ej136, hf⟩ := nme hf
              have J136 : ∀ (x4_136 : Int32) (x5_136 : Int32), j136 x4_136 x5_136 = some out → ∀ (H : Heap) (locs : List Loc), va_P D vwCl (w_M cs o h I1 Vm_50) H → va_D A (w_M cs o h I1 Vm_50) → va_S A s.heap H locs → ∀ ls : Array Slot, lv_has ls 8 [(0, .ref o), (1, .int x1_9), (2, .int 0), (3, .int x3_50), (4, .int x4_136), (5, .int x5_136), (6, .int x6_69)] → W p l e rm_M_fewest s m args below meth c H locs 0 0 Q (F0 m 136 ls []) := by
                intro x4_136 x5_136 hf H locs hP hD hS ls hl
                rw [ej136] at hf
                refine lv_iinc (v := (x6_69 + 1)) (lv' := [(6, .int (x6_69 + 1)), (0, .ref o), (1, .int x1_9), (2, .int 0), (3, .int x3_50), (4, .int x4_136), (5, .int x5_136)]) hx hb dX10_fewest_136 hl (k := 6) rfl (by rfl) (by decide) rfl (fun ls hl => ?_)
                refine lv_goto (tgt := 69) hx hb dX10_fewest_139 (by decide) ?_
                exact ih_69 x4_136 x5_136 (x6_69 + 1) hf _ _ hP hD hS _ (lv_sub hl [1, 2, 3, 4, 5, 6, 0] rfl)
              refine lv_if_eq (tgt := 136) hx hb dX10_fewest_84 (by decide) (fun c84 => ?_) (fun c84 => ?_)
              · replace hf := ip c84 hf
                exact J136 x4_69 x5_69 hf _ _ hP hD hS _ (lv_sub hl [0, 1, 2, 3, 4, 5, 6] rfl)
              · replace hf := im c84 hf
                refine lv_iload hx hb dX10_fewest_87 (lv_at hl 4 rfl) ?_
                refine lv_aload_n hx hb dX10_fewest_89 rfl (lv_at hl 0 rfl) ?_
                refine lv_iload hx hb dX10_fewest_90 (lv_at hl 6 rfl) ?_
                obtain ⟨zr5, qr5, hf⟩ := bd1 hf
                refine vp_callSi (va_Run.run (va_runV (As := [.int x6_69]) (rest := [.int x4_69]) ⟨hx, hb, hml, hown, hts⟩ (c_M_owedAll l D cs o h I1 Vm_50 x6_69 f zr5 qr5) w_owedAll_155 ⟨xR_moved, va_recv hK hP (ci := 10) (q0 := 0) rfl rfl, fun U hU hW => ⟨rfl, by rw [hU]; exact hP, va_K.moved hW.alike hK⟩⟩ rfl rfl hl.1 rfl (lv_room (Nat.le_of_ble_eq_true rfl)) dX10_fewest_92 ⟨Nat.zero_le _, Nat.zero_le _⟩)) (fun r5 er5 => ?_)
                rw [er5]
                refine lv_aload_n hx hb dX10_fewest_95 rfl (lv_at hl 0 rfl) ?_
                refine lv_iload hx hb dX10_fewest_96 (lv_at hl 6 rfl) ?_
                obtain ⟨zr6, qr6, hf⟩ := bd1 hf
                refine vp_callSi (va_Run.run (va_runV (As := [.int x6_69]) (rest := [.int zr5, .int x4_69]) ⟨hx, hb, hml, hown, hts⟩ (c_M_owesAll l D cs o h I1 Vm_50 x6_69 f zr6 qr6) w_owesAll_144 ⟨xR_moved, va_recv hK hP (ci := 10) (q0 := 0) rfl rfl, fun U hU hW => ⟨rfl, by rw [hU]; exact hP, va_K.moved hW.alike hK⟩⟩ rfl rfl hl.1 rfl (lv_room (Nat.le_of_ble_eq_true rfl)) dX10_fewest_98 ⟨Nat.zero_le _, Nat.zero_le _⟩)) (fun r6 er6 => ?_)
                rw [er6]
                refine lv_isub hx hb dX10_fewest_101 ?_
                refine lv_iadd hx hb dX10_fewest_102 ?_
                refine lv_topi (fun y7 ey7 => ?_)
                replace hf := nmd hf ey7
                refine lv_istore (lv' := [(4, .int y7), (0, .ref o), (1, .int x1_9), (2, .int 0), (3, .int x3_50), (5, .int x5_69), (6, .int x6_69)]) hx hb dX10_fewest_103 hl (by decide) rfl (fun ls hl => ?_)
                refine lv_aload_n hx hb dX10_fewest_105 rfl (lv_at hl 1 rfl) ?_
                refine va_get (D := D) (ci := 10) (v := .ref (h 31)) (C := RX10) (T := TX10) (N := 38) hx hb hts in_X10 hown hK hP 0 rfl rfl 31 (by decide) g_74 (fun _ h9 => h9) rfl dX10_fewest_106 ?_
                refine lv_iload_n hx hb dX10_fewest_109 rfl (lv_at hl 4 rfl) ?_
                refine lv_iconst (v := 1) hx hb dX10_fewest_110 (by decide) ?_
                refine lv_iload hx hb dX10_fewest_111 (lv_at hl 6 rfl) ?_
                refine lv_ishl hx hb dX10_fewest_113 ?_
                refine lv_iconst (v := (-1)) hx hb dX10_fewest_114 (by decide) ?_
                refine lv_ixor hx hb dX10_fewest_115 ?_
                refine lv_iand hx hb dX10_fewest_116 ?_
                obtain ⟨c117, hf⟩ := gd hf
                refine va_iald (f := (Vm_50 31)) hx hb hK hP 22 0 rfl rfl c117 dX10_fewest_117 ?_
                refine lv_topi (fun y8 ey8 => ?_)
                replace hf := nmd hf ey8
                refine lv_istore (lv' := [(7, .int y8), (4, .int y7), (0, .ref o), (1, .int x1_9), (2, .int 0), (3, .int x3_50), (5, .int x5_69), (6, .int x6_69)]) hx hb dX10_fewest_118 hl (by decide) rfl (fun ls hl => ?_)
                refine lv_iload hx hb dX10_fewest_120 (lv_at hl 0 rfl) ?_
                refine lv_iload hx hb dX10_fewest_122 (lv_at hl 6 rfl) ?_
                obtain ⟨j134, ej134, hf⟩ := nme hf
                have J134 : ∀ (t0_134 : Int32), j134 t0_134 = some out → ∀ (H : Heap) (locs : List Loc), va_P D vwCl (w_M cs o h I1 Vm_50) H → va_D A (w_M cs o h I1 Vm_50) → va_S A s.heap H locs → ∀ ls : Array Slot, lv_has ls 8 [(0, .ref o), (1, .int x1_9), (2, .int 0), (3, .int x3_50), (4, .int y7), (6, .int x6_69)] → W p l e rm_M_fewest s m args below meth c H locs 0 0 Q (F0 m 134 ls [.int t0_134]) := by
                  intro t0_134 hf H locs hP hD hS ls hl
                  rw [ej134] at hf
                  refine lv_istore (lv' := [(5, .int t0_134), (0, .ref o), (1, .int x1_9), (2, .int 0), (3, .int x3_50), (4, .int y7), (6, .int x6_69)]) hx hb dX10_fewest_134 hl (by decide) rfl (fun ls hl => ?_)
                  exact J136 y7 t0_134 hf _ _ hP hD hS _ (lv_sub hl [1, 2, 3, 4, 5, 0, 6] rfl)
                refine lv_icmp_le (tgt := 132) hx hb dX10_fewest_124 (by decide) (fun c124 => ?_) (fun c124 => ?_)
                · replace hf := ip c124 hf
                  refine lv_iload hx hb dX10_fewest_132 (lv_at hl 6 rfl) ?_
                  exact J134 x5_69 hf _ _ hP hD hS _ (lv_sub hl [2, 3, 4, 5, 1, 7] rfl)
                · replace hf := im c124 hf
                  refine lv_iload hx hb dX10_fewest_127 (lv_at hl 0 rfl) ?_
                  refine lv_goto (tgt := 134) hx hb dX10_fewest_129 (by decide) ?_
                  exact J134 y8 hf _ _ hP hD hS _ (lv_sub hl [2, 3, 4, 5, 1, 7] rfl)
        refine L69 _ (fun x4_69 x5_69 hf H locs hP hD hS ls hl => ?_) f 0 0 0 hf _ _ hP hD hS _ (lv_sub hl [3, 4, 5, 6, 2, 1, 0] rfl)
        refine lv_aload_n hx hb dX10_fewest_142 rfl (lv_at hl 0 rfl) ?_
        refine va_get (D := D) (ci := 10) (v := .ref (h 31)) (C := RX10) (T := TX10) (N := 38) hx hb hts in_X10 hown hK hP 0 rfl rfl 31 (by decide) g_74 (fun _ h9 => h9) rfl dX10_fewest_143 ?_
        refine lv_iload_n hx hb dX10_fewest_146 rfl (lv_at hl 3 rfl) ?_
        refine lv_iload hx hb dX10_fewest_147 (lv_at hl 5 rfl) ?_
        refine lv_iload_n hx hb dX10_fewest_149 rfl (lv_at hl 3 rfl) ?_
        obtain ⟨j163, ej163, hf⟩ := nme hf
        have J163 : ∀ (t3_163 : Int32), j163 t3_163 = some out → ∀ (H : Heap) (locs : List Loc), va_P D vwCl (w_M cs o h I1 Vm_50) H → va_D A (w_M cs o h I1 Vm_50) → va_S A s.heap H locs → ∀ ls : Array Slot, lv_has ls 8 [(0, .ref o), (1, .int x1_9), (2, .int 0), (3, .int x3_50)] → W p l e rm_M_fewest s m args below meth c H locs 0 0 Q (F0 m 163 ls [.int t3_163, .int x5_69, .int x3_50, .ref (h 31)]) := by
          intro t3_163 hf H locs hP hD hS ls hl
          rw [ej163] at hf
          refine lv_iadd hx hb dX10_fewest_163 ?_
          obtain ⟨c164, hf⟩ := gd hf
          refine va_iast (f := (Vm_50 31)) hx hb hK hP hD hS 22 0 rfl rfl c164 dX10_fewest_164 (fun H locs hP hD hS => ?_)
          obtain ⟨V9, eV9, hf⟩ := nme hf
          have hP : va_P D vwCl (w_M cs o h I1 V9) H := by rw [eV9]; exact hP
          have hD : va_D A (w_M cs o h I1 V9) := by rw [eV9]; exact hD
          refine lv_iinc (v := (x3_50 + 1)) (lv' := [(3, .int (x3_50 + 1)), (0, .ref o), (1, .int x1_9), (2, .int 0)]) hx hb dX10_fewest_165 hl (k := 3) rfl (by rfl) (by decide) rfl (fun ls hl => ?_)
          refine lv_goto (tgt := 50) hx hb dX10_fewest_168 (by decide) ?_
          exact ih_50 (x3_50 + 1) V9 hf _ _ hP hD hS _ (lv_sub hl [1, 2, 3, 0] rfl)
        obtain ⟨j162, ej162, hf⟩ := nme hf
        have J162 : ∀ (u_162 : Unit), j162 u_162 = some out → ∀ (H : Heap) (locs : List Loc), va_P D vwCl (w_M cs o h I1 Vm_50) H → va_D A (w_M cs o h I1 Vm_50) → va_S A s.heap H locs → ∀ ls : Array Slot, lv_has ls 8 [(0, .ref o), (1, .int x1_9), (2, .int 0), (3, .int x3_50)] → W p l e rm_M_fewest s m args below meth c H locs 0 0 Q (F0 m 162 ls [.int x5_69, .int x3_50, .ref (h 31)]) := by
          intro u_162 hf H locs hP hD hS ls hl
          rw [ej162] at hf
          refine lv_iconst (v := 0) hx hb dX10_fewest_162 (by decide) ?_
          exact J163 0 hf _ _ hP hD hS _ (lv_sub hl [0, 1, 2, 3] rfl)
        refine lv_if_eq (tgt := 162) hx hb dX10_fewest_150 (by decide) (fun c150 => ?_) (fun c150 => ?_)
        · replace hf := ip c150 hf
          exact J162 () hf _ _ hP hD hS _ (lv_sub hl [0, 1, 2, 3] rfl)
        · replace hf := im c150 hf
          refine lv_iload hx hb dX10_fewest_153 (lv_at hl 4 rfl) ?_
          refine lv_if_ne (tgt := 162) hx hb dX10_fewest_155 (by decide) (fun c155 => ?_) (fun c155 => ?_)
          · replace hf := im c155 hf
            exact J162 () hf _ _ hP hD hS _ (lv_sub hl [0, 1, 2, 3] rfl)
          · replace hf := ip c155 hf
            refine lv_iconst (v := 1) hx hb dX10_fewest_158 (by decide) ?_
            refine lv_goto (tgt := 163) hx hb dX10_fewest_159 (by decide) ?_
            exact J163 1 hf _ _ hP hD hS _ (lv_sub hl [0, 1, 2, 3] rfl)
  refine L50 _ (fun Vm_50 hf H locs hP hD hS ls hl => ?_) f 0 V hf _ _ hP hD hS _ (lv_sub hl [2, 3, 1, 0] rfl)
  refine lv_iconst (v := 0) hx hb dX10_fewest_171 (by decide) ?_
  refine lv_istore_n (lv' := [(3, .int 0), (0, .ref o), (1, .int x1_9), (2, .int 0)]) hx hb dX10_fewest_172 rfl hl (by decide) rfl (fun ls hl => ?_)
  have L173 : ∀ (k_173 : Int32 → Option (Int32 × FI × FV)) (hk_173 : ∀ (x2_173 : Int32), k_173 x2_173 = some out → ∀ (H : Heap) (locs : List Loc), va_P D vwCl (w_M cs o h I1 Vm_50) H → va_D A (w_M cs o h I1 Vm_50) → va_S A s.heap H locs → ∀ ls : Array Slot, lv_has ls 8 [(0, .ref o), (1, .int x1_9), (2, .int x2_173)] → W p l e rm_M_fewest s m args below meth c H locs 0 0 Q (F0 m 203 ls [])), ∀ (n_173 : Nat) (x2_173 : Int32) (x3_173 : Int32), M_fewest_L173 f I1 x1_9 k_173 n_173 x2_173 x3_173 = some out → ∀ (H : Heap) (locs : List Loc), va_P D vwCl (w_M cs o h I1 Vm_50) H → va_D A (w_M cs o h I1 Vm_50) → va_S A s.heap H locs → ∀ ls : Array Slot, lv_has ls 8 [(0, .ref o), (1, .int x1_9), (2, .int x2_173), (3, .int x3_173)] → W p l e rm_M_fewest s m args below meth c H locs 0 0 Q (F0 m 173 ls []) := by
    intro k_173 hk_173 n_173
    induction n_173 with
    | zero => intro x2_173 x3_173 hf; rw [M_fewest_L173] at hf; cases hf
    | succ n_173 ih_173 =>
      intro x2_173 x3_173 hf H locs hP hD hS ls hl
      rw [M_fewest_L173] at hf
      refine lv_iload_n hx hb dX10_fewest_173 rfl (lv_at hl 3 rfl) ?_
      refine lv_aload_n hx hb dX10_fewest_174 rfl (lv_at hl 0 rfl) ?_
      refine va_get (D := D) (ci := 10) (v := .int (I1 4)) (C := RX10) (T := TX10) (N := 38) hx hb hts in_X10 hown hK hP 0 rfl rfl 4 (by decide) g_96 (fun _ h9 => h9) rfl dX10_fewest_175 ?_
      refine lv_icmp_ge (tgt := 203) hx hb dX10_fewest_178 (by decide) (fun c178 => ?_) (fun c178 => ?_)
      · replace hf := ip c178 hf
        exact hk_173 x2_173 hf _ _ hP hD hS _ (lv_sub hl [0, 1, 2] rfl)
      · replace hf := im c178 hf
        refine lv_iload_n hx hb dX10_fewest_181 rfl (lv_at hl 2 rfl) ?_
        refine lv_iload_n hx hb dX10_fewest_182 rfl (lv_at hl 1 rfl) ?_
        refine lv_iload_n hx hb dX10_fewest_183 rfl (lv_at hl 3 rfl) ?_
        obtain ⟨zr10, qr10, hf⟩ := bd1 hf
        refine vp_callSi (va_Run.run (va_runS (As := [.int x1_9, .int x3_173]) (rest := [.int x2_173]) ⟨hx, hb, hml, hown, hts⟩ (c_M_has l x1_9 x3_173 f zr10 qr10) w_has_160 ⟨fun a U g mk q => q, fun U hU hW => ⟨rfl, trivial⟩⟩ rfl rfl hl.1 rfl (lv_room (Nat.le_of_ble_eq_true rfl)) dX10_fewest_184 ⟨Nat.zero_le _, Nat.zero_le _⟩)) (fun r10 er10 => ?_)
        rw [er10]
        obtain ⟨j195, ej195, hf⟩ := nme hf
        have J195 : ∀ (t1_195 : Int32), j195 t1_195 = some out → ∀ (H : Heap) (locs : List Loc), va_P D vwCl (w_M cs o h I1 Vm_50) H → va_D A (w_M cs o h I1 Vm_50) → va_S A s.heap H locs → ∀ ls : Array Slot, lv_has ls 8 [(0, .ref o), (1, .int x1_9), (3, .int x3_173)] → W p l e rm_M_fewest s m args below meth c H locs 0 0 Q (F0 m 195 ls [.int t1_195, .int x2_173]) := by
          intro t1_195 hf H locs hP hD hS ls hl
          rw [ej195] at hf
          refine lv_iadd hx hb dX10_fewest_195 ?_
          refine lv_istore_n (lv' := [(2, .int (x2_173 + t1_195)), (0, .ref o), (1, .int x1_9), (3, .int x3_173)]) hx hb dX10_fewest_196 rfl hl (by decide) rfl (fun ls hl => ?_)
          refine lv_iinc (v := (x3_173 + 1)) (lv' := [(3, .int (x3_173 + 1)), (2, .int (x2_173 + t1_195)), (0, .ref o), (1, .int x1_9)]) hx hb dX10_fewest_197 hl (k := 3) rfl (by rfl) (by decide) rfl (fun ls hl => ?_)
          refine lv_goto (tgt := 173) hx hb dX10_fewest_200 (by decide) ?_
          exact ih_173 (x2_173 + t1_195) (x3_173 + 1) hf _ _ hP hD hS _ (lv_sub hl [2, 3, 1, 0] rfl)
        refine lv_if_eq (tgt := 194) hx hb dX10_fewest_187 (by decide) (fun c187 => ?_) (fun c187 => ?_)
        · replace hf := ip c187 hf
          refine lv_iconst (v := 0) hx hb dX10_fewest_194 (by decide) ?_
          exact J195 0 hf _ _ hP hD hS _ (lv_sub hl [0, 1, 3] rfl)
        · replace hf := im c187 hf
          refine lv_iconst (v := 1) hx hb dX10_fewest_190 (by decide) ?_
          refine lv_goto (tgt := 195) hx hb dX10_fewest_191 (by decide) ?_
          exact J195 1 hf _ _ hP hD hS _ (lv_sub hl [0, 1, 3] rfl)
  refine L173 _ (fun x2_173 hf H locs hP hD hS ls hl => ?_) f 0 0 hf _ _ hP hD hS _ (lv_sub hl [1, 2, 3, 0] rfl)
  refine lv_iload_n hx hb dX10_fewest_203 rfl (lv_at hl 2 rfl) ?_
  refine lv_aload_n hx hb dX10_fewest_204 rfl (lv_at hl 0 rfl) ?_
  refine va_get (D := D) (ci := 10) (v := .ref (h 31)) (C := RX10) (T := TX10) (N := 38) hx hb hts in_X10 hown hK hP 0 rfl rfl 31 (by decide) g_74 (fun _ h9 => h9) rfl dX10_fewest_205 ?_
  refine lv_iload_n hx hb dX10_fewest_208 rfl (lv_at hl 1 rfl) ?_
  obtain ⟨c209, hf⟩ := gd hf
  refine va_iald (f := (Vm_50 31)) hx hb hK hP 22 0 rfl rfl c209 dX10_fewest_209 ?_
  refine lv_isub hx hb dX10_fewest_210 ?_
  exact hret (x2_173 - ((Vm_50 31) x1_9.toNatClampNeg)) I1 Vm_50 _ _ 211 _ hf hP hD hS dX10_fewest_211
set_option maxHeartbeats 4000000 in
set_option maxRecDepth 100000 in
theorem c_M_fewest (l : Launch) (D : va_G) (cs : Nat → ClassId) (o : Nat) (h : Nat → Nat) (sz : Nat) (I : FI) (V : FV) (f : Nat) (out : Int32 × FI × FV) (hf : M_fewest f I V = some out) : Met l yX10_fewest wsX10_fewest rm_M_fewest (va_Pc [.ref o] (xP D cs (w_M cs o h I V) sz)) (va_Qi (fun r u => (r, u) = out) (fun (u : FI × FV) t => xA D cs (va_A (w_M cs o h I V) sz) (w_M cs o h u.1 u.2) t) (va_A (w_M cs o h I V) sz)) 0 0 (va_A (w_M cs o h I V) sz) := by
  refine Met.ofW (cc := cX10_fewest) (maxL := 8) (ret := (some .int)) (by decide) rfl ?_
  intro p e s m args below meth c s₁ B hml hv
  obtain ⟨ha, hsz, hP, hK, hD0⟩ := hv
  have hx := B.exec
  have hb := B.bytes
  have hr := B.returns
  have hts := atoms_spec (ws := wsX10_fewest) B.pre
  have hown : s.vm.findClass RX10 = some m.cls := findClass_of_methodNamed B.named
  have hlocks := B.notSynchronized
  have in_X10 : ∀ w ∈ u_ws RX10 TX10 38, w ∈ wsX10_fewest := fun w h => List.mem_cons_of_mem _ (List.mem_append_right _ h)
  have g_92 := hts (Cond.fieldLink RX10 92 "DaysLentModel" "thrown" "I") (by decide +kernel)
  have g_96 := hts (Cond.fieldLink RX10 96 "DaysLentModel" "people" "I") (by decide +kernel)
  have w_owedAll_155 := cwV (R := rm_M_fewest) (s := s) (args := args) (rm := rm_M_owedAll) (mc := 0) (ms := 0) 1 hts gX10_fewest_X10_owedAll rfl rfl rfl (by decide +kernel) ⟨Nat.le_of_ble_eq_true rfl, Nat.le_of_ble_eq_true rfl⟩
  have w_owesAll_144 := cwV (R := rm_M_fewest) (s := s) (args := args) (rm := rm_M_owesAll) (mc := 0) (ms := 0) 1 hts gX10_fewest_X10_owesAll rfl rfl rfl (by decide +kernel) ⟨Nat.le_of_ble_eq_true rfl, Nat.le_of_ble_eq_true rfl⟩
  have w_has_160 := va_cwS (R := rm_M_fewest) (s := s) (args := args) (rm := rm_M_has) (mc := 0) (ms := 0) 2 hts gX10_fewest_X10_has rfl rfl rfl (by decide +kernel) ⟨Nat.le_of_ble_eq_true rfl, Nat.le_of_ble_eq_true rfl⟩
  have g_74 := hts (Cond.fieldLink RX10 74 "DaysLentModel" "groups" "[I") (by decide +kernel)
  subst hsz
  have hD := hD0.self (sz := s.heap.size)
  generalize hAe : va_A (w_M cs o h I V) s.heap.size = A at hD ⊢
  have hA : ∀ q : Nat, s.heap.size ≤ q → A q := fun q h => by rw [← hAe]; exact Or.inr h
  have hl := lv_entry ([.ref o]) (n := 8) (Nat.le_of_ble_eq_true rfl)
  rw [show entryFrame m args 8 = entryFrame m ([.ref o] : List Value).toArray 8 from by rw [ha], lg_entry_eq]
  generalize (lg_sl ([.ref o]) ++ List.replicate (8 - (lg_sl ([.ref o])).length) Slot.unset).toArray = ls at hl ⊢
  generalize hQ : MQ below (va_Qi (fun r u => (r, u) = out) (fun (u : FI × FV) t => xA D cs A (w_M cs o h u.1 u.2) t) A) args s 0 0 A = Q
  have hret : ∀ (v : Int32) (Im9 : FI) (Vm9 : FV) (H : Heap) (locs : List Loc) (pc : Nat) (ls : Array Slot), some (v, Im9, Vm9) = some out → va_P D vwCl (w_M cs o h Im9 Vm9) H → va_D A (w_M cs o h Im9 Vm9) → va_S A s.heap H locs → decode cX10_fewest pc = .ok (.ireturn, 1) → W p l e rm_M_fewest s m args below meth c H locs 0 0 Q (F0 m pc ls [.int v]) := by
    intro v Im9 Vm9 H locs pc ls hf hP hD hS hd
    rw [← hQ]
    exact W.iret (v := v) hx hb hr (fun t ht hW => ⟨⟨v, (Im9, Vm9), rfl, Option.some.inj hf, by show va_P D vwCl (w_M cs o h Im9 Vm9) t.heap; rw [ht]; exact hP, va_K.moved hW.alike hK, hD⟩, hS.F ht⟩) hS.2.2 hd
  exact v_M_fewest hf hx hb hml hown hts in_X10 g_92 g_96 w_owedAll_155 w_owesAll_144 w_has_160 g_74 hA hP hD hK hret ls hl
def M_owedBy_L5 {ρ : Type} (f : Nat) (I : FI) (V : FV) (x1 : Int32) (x2 : Int32) (k_5 : Int32 → Option ρ) : Nat → Int32 → Int32 → Option ρ
  | 0, _, _ => none
  | n_5 + 1, x3_5, x4_5 => (if (I 9) ≤ x4_5 then (k_5 x3_5) else if x4_5 < 0 ∨ 12 ≤ x4_5.toNatClampNeg then none else ((nm (fun (t1_51 : Int32) => (M_owedBy_L5 f I V x1 x2 k_5 n_5 (x3_5 + t1_51) (x4_5 + 1))) (fun j51 => nm (fun (u_50 : Unit) => (j51 0)) (fun j50 => (if ((V 10) x4_5.toNatClampNeg) = x1 then if x4_5 < 0 ∨ 12 ≤ x4_5.toNatClampNeg then none else (ob1 (M_has f x2 ((V 11) x4_5.toNatClampNeg)) (fun zr1 => (if zr1 = 0 then (j50 ()) else if x4_5 < 0 ∨ 12 ≤ x4_5.toNatClampNeg then none else ((j51 ((V 12) x4_5.toNatClampNeg)))))) else (j50 ())))))))
def M_owedBy (f : Nat) (x1 : Int32) (x2 : Int32) (I : FI) (V : FV) : Option (Int32) := (M_owedBy_L5 f I V x1 x2 (fun (x3_5 : Int32) => some x3_5) f 0 0)
abbrev rm_M_owedBy : Room := { frames := 1, cells := 0, slots := 0, locals := 21 }
set_option maxHeartbeats 4000000 in
set_option maxRecDepth 100000 in
theorem v_M_owedBy {l : Launch} {p : Program} {e : Env} {s : State} {m : MethodId} {args : Array Value} {below : List Frame} {meth : Method} {c : Code} {Q : State → Prop} {D : va_G} {cs : Nat → ClassId} {o : Nat} {h : Nat → Nat} {I : FI} {V : FV} {x1 : Int32} {x2 : Int32} {f : Nat} {out : Int32} (hf : M_owedBy f x1 x2 I V = some out) (hx : p.tables.exec = Jvm.exec) (hb : c.code = cX10_owedBy) (hml : c.maxLocals = 5) (hown : s.vm.findClass RX10 = some m.cls) (hts : ∀ w ∈ wsX10_owedBy, w.before args s = true) (in_X10 : ∀ w ∈ u_ws RX10 TX10 38, w ∈ wsX10_owedBy) (g_135 : (Cond.fieldLink RX10 135 "DaysLentModel" "debts" "I").before args s = true) (g_26 : (Cond.fieldLink RX10 26 "DaysLentModel" "owed" "[I").before args s = true) (g_29 : (Cond.fieldLink RX10 29 "DaysLentModel" "owes" "[I").before args s = true) (w_has_160 : CallB rm_M_owedBy s args RX10 160 yX10_has cX10_has 2 (some .boolean) wsX10_has rm_M_has 0 0 2 ∧ (Cond.static yX10_has).before args s = true) (g_32 : (Cond.fieldLink RX10 32 "DaysLentModel" "much" "[I").before args s = true) (hP : va_P D vwCl (w_M cs o h I V) s.heap) (hK : va_K D vwCl (tyA cs) s) (hret : ∀ (v : Int32) (pc : Nat) (ls : Array Slot), some v = some out → decode cX10_owedBy pc = .ok (.ireturn, 1) → W p l e rm_M_owedBy s m args below meth c s.heap [] 0 0 Q (F0 m pc ls [.int v])) : ∀ ls : Array Slot, lv_has ls 5 [(0, .ref o), (1, .int x1), (2, .int x2)] → W p l e rm_M_owedBy s m args below meth c s.heap [] 0 0 Q (F0 m 0 ls []) := by
  intro ls hl
  unfold M_owedBy at hf
  refine lv_iconst (v := 0) hx hb dX10_owedBy_0 (by decide) ?_
  refine lv_istore_n (lv' := [(3, .int 0), (0, .ref o), (1, .int x1), (2, .int x2)]) hx hb dX10_owedBy_1 rfl hl (by decide) rfl (fun ls hl => ?_)
  refine lv_iconst (v := 0) hx hb dX10_owedBy_2 (by decide) ?_
  refine lv_istore (lv' := [(4, .int 0), (3, .int 0), (0, .ref o), (1, .int x1), (2, .int x2)]) hx hb dX10_owedBy_3 hl (by decide) rfl (fun ls hl => ?_)
  have L5 : ∀ (k_5 : Int32 → Option (Int32)) (hk_5 : ∀ (x3_5 : Int32), k_5 x3_5 = some out → ∀ ls : Array Slot, lv_has ls 5 [(3, .int x3_5)] → W p l e rm_M_owedBy s m args below meth c s.heap [] 0 0 Q (F0 m 59 ls [])), ∀ (n_5 : Nat) (x3_5 : Int32) (x4_5 : Int32), M_owedBy_L5 f I V x1 x2 k_5 n_5 x3_5 x4_5 = some out → ∀ ls : Array Slot, lv_has ls 5 [(0, .ref o), (1, .int x1), (2, .int x2), (3, .int x3_5), (4, .int x4_5)] → W p l e rm_M_owedBy s m args below meth c s.heap [] 0 0 Q (F0 m 5 ls []) := by
    intro k_5 hk_5 n_5
    induction n_5 with
    | zero => intro x3_5 x4_5 hf; rw [M_owedBy_L5] at hf; cases hf
    | succ n_5 ih_5 =>
      intro x3_5 x4_5 hf ls hl
      rw [M_owedBy_L5] at hf
      refine lv_iload hx hb dX10_owedBy_5 (lv_at hl 4 rfl) ?_
      refine lv_aload_n hx hb dX10_owedBy_7 rfl (lv_at hl 0 rfl) ?_
      refine va_get (D := D) (ci := 10) (v := .int (I 9)) (C := RX10) (T := TX10) (N := 38) hx hb hts in_X10 hown hK hP 0 rfl rfl 9 (by decide) g_135 (fun _ h9 => h9) rfl dX10_owedBy_8 ?_
      refine lv_icmp_ge (tgt := 59) hx hb dX10_owedBy_11 (by decide) (fun c11 => ?_) (fun c11 => ?_)
      · replace hf := ip c11 hf
        exact hk_5 x3_5 hf _ (lv_sub hl [3] rfl)
      · replace hf := im c11 hf
        refine lv_iload_n hx hb dX10_owedBy_14 rfl (lv_at hl 3 rfl) ?_
        refine lv_aload_n hx hb dX10_owedBy_15 rfl (lv_at hl 0 rfl) ?_
        refine va_get (D := D) (ci := 10) (v := .ref (h 10)) (C := RX10) (T := TX10) (N := 38) hx hb hts in_X10 hown hK hP 0 rfl rfl 10 (by decide) g_26 (fun _ h9 => h9) rfl dX10_owedBy_16 ?_
        refine lv_iload hx hb dX10_owedBy_19 (lv_at hl 4 rfl) ?_
        obtain ⟨c21, hf⟩ := gd hf
        refine va_iald (f := (V 10)) hx hb hK hP 6 0 rfl rfl c21 dX10_owedBy_21 ?_
        refine lv_iload_n hx hb dX10_owedBy_22 rfl (lv_at hl 1 rfl) ?_
        obtain ⟨j51, ej51, hf⟩ := nme hf
        have J51 : ∀ (t1_51 : Int32), j51 t1_51 = some out → ∀ ls : Array Slot, lv_has ls 5 [(0, .ref o), (1, .int x1), (2, .int x2), (4, .int x4_5)] → W p l e rm_M_owedBy s m args below meth c s.heap [] 0 0 Q (F0 m 51 ls [.int t1_51, .int x3_5]) := by
          intro t1_51 hf ls hl
          rw [ej51] at hf
          refine lv_iadd hx hb dX10_owedBy_51 ?_
          refine lv_istore_n (lv' := [(3, .int (x3_5 + t1_51)), (0, .ref o), (1, .int x1), (2, .int x2), (4, .int x4_5)]) hx hb dX10_owedBy_52 rfl hl (by decide) rfl (fun ls hl => ?_)
          refine lv_iinc (v := (x4_5 + 1)) (lv' := [(4, .int (x4_5 + 1)), (3, .int (x3_5 + t1_51)), (0, .ref o), (1, .int x1), (2, .int x2)]) hx hb dX10_owedBy_53 hl (k := 4) rfl (by rfl) (by decide) rfl (fun ls hl => ?_)
          refine lv_goto (tgt := 5) hx hb dX10_owedBy_56 (by decide) ?_
          exact ih_5 (x3_5 + t1_51) (x4_5 + 1) hf _ (lv_sub hl [2, 3, 4, 1, 0] rfl)
        obtain ⟨j50, ej50, hf⟩ := nme hf
        have J50 : ∀ (u_50 : Unit), j50 u_50 = some out → ∀ ls : Array Slot, lv_has ls 5 [(0, .ref o), (1, .int x1), (2, .int x2), (4, .int x4_5)] → W p l e rm_M_owedBy s m args below meth c s.heap [] 0 0 Q (F0 m 50 ls [.int x3_5]) := by
          intro u_50 hf ls hl
          rw [ej50] at hf
          refine lv_iconst (v := 0) hx hb dX10_owedBy_50 (by decide) ?_
          exact J51 0 hf _ (lv_sub hl [0, 1, 2, 3] rfl)
        refine lv_icmp_ne (tgt := 50) hx hb dX10_owedBy_23 (by decide) (fun c23 => ?_) (fun c23 => ?_)
        · replace hf := im c23 hf
          exact J50 () hf _ (lv_sub hl [0, 1, 2, 4] rfl)
        · replace hf := ip c23 hf
          refine lv_iload_n hx hb dX10_owedBy_26 rfl (lv_at hl 2 rfl) ?_
          refine lv_aload_n hx hb dX10_owedBy_27 rfl (lv_at hl 0 rfl) ?_
          refine va_get (D := D) (ci := 10) (v := .ref (h 11)) (C := RX10) (T := TX10) (N := 38) hx hb hts in_X10 hown hK hP 0 rfl rfl 11 (by decide) g_29 (fun _ h9 => h9) rfl dX10_owedBy_28 ?_
          refine lv_iload hx hb dX10_owedBy_31 (lv_at hl 4 rfl) ?_
          obtain ⟨c33, hf⟩ := gd hf
          refine va_iald (f := (V 11)) hx hb hK hP 7 0 rfl rfl c33 dX10_owedBy_33 ?_
          obtain ⟨zr1, qr1, hf⟩ := bd1 hf
          refine vp_callSi (va_Run.run (va_runS (As := [.int x2, .int ((V 11) x4_5.toNatClampNeg)]) (rest := [.int x3_5]) ⟨hx, hb, hml, hown, hts⟩ (c_M_has l x2 ((V 11) x4_5.toNatClampNeg) f zr1 qr1) w_has_160 ⟨fun a U g mk q => q, fun U hU hW => ⟨rfl, trivial⟩⟩ rfl rfl hl.1 rfl (lv_room (Nat.le_of_ble_eq_true rfl)) dX10_owedBy_34 ⟨Nat.zero_le _, Nat.zero_le _⟩)) (fun r1 er1 => ?_)
          rw [er1]
          refine lv_if_eq (tgt := 50) hx hb dX10_owedBy_37 (by decide) (fun c37 => ?_) (fun c37 => ?_)
          · replace hf := ip c37 hf
            exact J50 () hf _ (lv_sub hl [0, 1, 2, 4] rfl)
          · replace hf := im c37 hf
            refine lv_aload_n hx hb dX10_owedBy_40 rfl (lv_at hl 0 rfl) ?_
            refine va_get (D := D) (ci := 10) (v := .ref (h 12)) (C := RX10) (T := TX10) (N := 38) hx hb hts in_X10 hown hK hP 0 rfl rfl 12 (by decide) g_32 (fun _ h9 => h9) rfl dX10_owedBy_41 ?_
            refine lv_iload hx hb dX10_owedBy_44 (lv_at hl 4 rfl) ?_
            obtain ⟨c46, hf⟩ := gd hf
            refine va_iald (f := (V 12)) hx hb hK hP 8 0 rfl rfl c46 dX10_owedBy_46 ?_
            refine lv_goto (tgt := 51) hx hb dX10_owedBy_47 (by decide) ?_
            exact J51 ((V 12) x4_5.toNatClampNeg) hf _ (lv_sub hl [0, 1, 2, 4] rfl)
  refine L5 _ (fun x3_5 hf ls hl => ?_) f 0 0 hf _ (lv_sub hl [2, 3, 4, 1, 0] rfl)
  refine lv_iload_n hx hb dX10_owedBy_59 rfl (lv_at hl 0 rfl) ?_
  exact hret x3_5 60 _ hf dX10_owedBy_60
set_option maxHeartbeats 4000000 in
set_option maxRecDepth 100000 in
theorem c_M_owedBy (l : Launch) (D : va_G) (cs : Nat → ClassId) (o : Nat) (h : Nat → Nat) (I : FI) (V : FV) (x1 : Int32) (x2 : Int32) (f : Nat) (out : Int32) (hf : M_owedBy f x1 x2 I V = some out) : Met l yX10_owedBy wsX10_owedBy rm_M_owedBy (va_Pc [.ref o, .int x1, .int x2] (xR D cs (w_M cs o h I V))) (vp_Si (fun r => r = out)) 0 0 (fun _ => False) := by
  refine Met.ofW (cc := cX10_owedBy) (maxL := 5) (ret := (some .int)) (by decide) rfl ?_
  intro p e s m args below meth c s₁ B hml hv
  obtain ⟨ha, hP, hK⟩ := hv
  have hx := B.exec
  have hb := B.bytes
  have hr := B.returns
  have hts := atoms_spec (ws := wsX10_owedBy) B.pre
  have hown : s.vm.findClass RX10 = some m.cls := findClass_of_methodNamed B.named
  have hlocks := B.notSynchronized
  have in_X10 : ∀ w ∈ u_ws RX10 TX10 38, w ∈ wsX10_owedBy := fun w h => List.mem_cons_of_mem _ (List.mem_append_right _ h)
  have g_135 := hts (Cond.fieldLink RX10 135 "DaysLentModel" "debts" "I") (by decide +kernel)
  have g_26 := hts (Cond.fieldLink RX10 26 "DaysLentModel" "owed" "[I") (by decide +kernel)
  have g_29 := hts (Cond.fieldLink RX10 29 "DaysLentModel" "owes" "[I") (by decide +kernel)
  have w_has_160 := va_cwS (R := rm_M_owedBy) (s := s) (args := args) (rm := rm_M_has) (mc := 0) (ms := 0) 2 hts gX10_owedBy_X10_has rfl rfl rfl (by decide +kernel) ⟨Nat.le_of_ble_eq_true rfl, Nat.le_of_ble_eq_true rfl⟩
  have g_32 := hts (Cond.fieldLink RX10 32 "DaysLentModel" "much" "[I") (by decide +kernel)
  have hl := lv_entry ([.ref o, .int x1, .int x2]) (n := 5) (Nat.le_of_ble_eq_true rfl)
  rw [show entryFrame m args 5 = entryFrame m ([.ref o, .int x1, .int x2] : List Value).toArray 5 from by rw [ha], lg_entry_eq]
  generalize (lg_sl ([.ref o, .int x1, .int x2]) ++ List.replicate (5 - (lg_sl ([.ref o, .int x1, .int x2])).length) Slot.unset).toArray = ls at hl ⊢
  generalize hQ : MQ below (vp_Si (fun r => r = out)) args s 0 0 (fun _ => False) = Q
  have hret : ∀ (v : Int32) (pc : Nat) (ls : Array Slot), some v = some out → decode cX10_owedBy pc = .ok (.ireturn, 1) → W p l e rm_M_owedBy s m args below meth c s.heap [] 0 0 Q (F0 m pc ls [.int v]) := by
    intro v pc ls hf hd
    rw [← hQ]
    exact W.iret (v := v) hx hb hr (fun t ht hW => ⟨v, rfl, Option.some.inj hf, ht⟩) (fun q h => by cases h) hd
  exact v_M_owedBy hf hx hb hml hown hts in_X10 g_135 g_26 g_29 w_has_160 g_32 hP hK hret ls hl
def M_falls_L51 {ρ : Type} (f : Nat) (I1 : FI) (V : FV) (k_51 : Int32 → Option ρ) : Nat → Int32 → Int32 → Option ρ
  | 0, _, _ => none
  | n_51 + 1, x2_51, x5_51 => (if (I1 4) ≤ x5_51 then (k_51 x2_51) else if x5_51 < 0 ∨ 6 ≤ x5_51.toNatClampNeg then none else (ob1 (M_owedBy f x5_51 x2_51 I1 V) (fun zr4 => ob1 (M_owesAll f x5_51 I1 V) (fun zr5 => (nm (fun (t0_89 : Int32) => (nm (fun (t1_107 : Int32) => (M_falls_L51 f I1 V k_51 n_51 (x2_51 &&& t1_107) (x5_51 + 1))) (fun j107 => (if t0_89 = 0 then (j107 ((1 <<< (x5_51 &&& 31)) ^^^ (-1))) else (j107 x2_51))))) (fun j89 => (if (((V 5) x5_51.toNatClampNeg) + zr4) < zr5 then (j89 0) else (j89 1))))))))
def M_falls_L41 {ρ : Type} (f : Nat) (I1 : FI) (V : FV) (k_41 : Int32 → Option ρ) : Nat → Int32 → Int32 → Option ρ
  | 0, _, _ => none
  | n_41 + 1, x2_41, x3_41 => (if x3_41 = 0 then (k_41 x2_41) else (M_falls_L51 f I1 V (fun (x2_51 : Int32) => (nm (fun (t0_126 : Int32) => (M_falls_L41 f I1 V k_41 n_41 x2_51 t0_126)) (fun j126 => (if x2_51 = x2_41 then (j126 0) else (j126 1))))) f x2_41 0))
def M_falls (f : Nat) (x1 : Int32) (I : FI) (V : FV) : Option (Int32 × FI × FV) := nm (va_up I 0 0) (fun I1 => ob1 (M_in f (x1.toInt64) 0 (((1 <<< ((I1 4) &&& 31)) - 1).toInt64)) (fun zr2 => (if zr2 = 0 then some ((-2), I1, V) else nm (((1 <<< ((I1 4) &&& 31)) - 1) &&& (x1 ^^^ (-1))) (fun y3 => (M_falls_L41 f I1 V (fun (x2_41 : Int32) => some ((((1 <<< ((I1 4) &&& 31)) - 1) &&& (x2_41 ^^^ (-1))), I1, V)) f y3 1)))))
abbrev rm_M_falls : Room := { frames := 2, cells := 0, slots := 0, locals := 45 }
set_option maxHeartbeats 4000000 in
set_option maxRecDepth 100000 in
theorem v_M_falls {l : Launch} {p : Program} {e : Env} {s : State} {m : MethodId} {args : Array Value} {below : List Frame} {meth : Method} {c : Code} {Q : State → Prop} {D : va_G} {cs : Nat → ClassId} {o : Nat} {h : Nat → Nat} {A : Nat → Prop} {I : FI} {V : FV} {x1 : Int32} {f : Nat} {out : Int32 × FI × FV} (hf : M_falls f x1 I V = some out) (hx : p.tables.exec = Jvm.exec) (hb : c.code = cX10_falls) (hml : c.maxLocals = 7) (hown : s.vm.findClass RX10 = some m.cls) (hts : ∀ w ∈ wsX10_falls, w.before args s = true) (in_X10 : ∀ w ∈ u_ws RX10 TX10 38, w ∈ wsX10_falls) (g_92 : (Cond.fieldLink RX10 92 "DaysLentModel" "thrown" "I").before args s = true) (g_96 : (Cond.fieldLink RX10 96 "DaysLentModel" "people" "I").before args s = true) (w_in_99 : CallB rm_M_falls s args RX10 99 yX10_in cX10_in 6 (some .boolean) wsX10_in rm_M_in 0 0 3 ∧ (Cond.static yX10_in).before args s = true) (g_13 : (Cond.fieldLink RX10 13 "DaysLentModel" "mornings" "[I").before args s = true) (w_owedBy_183 : CallW rm_M_falls s args RX10 RX10 183 yX10_owedBy cX10_owedBy 5 (some .int) wsX10_owedBy rm_M_owedBy 0 0 2) (w_owesAll_144 : CallW rm_M_falls s args RX10 RX10 144 yX10_owesAll cX10_owesAll 4 (some .int) wsX10_owesAll rm_M_owesAll 0 0 1) (hA : ∀ q : Nat, s.heap.size ≤ q → A q) (hP : va_P D vwCl (w_M cs o h I V) s.heap) (hD : va_D A (w_M cs o h I V)) (hK : va_K D vwCl (tyA cs) s) (hret : ∀ (v : Int32) (Im9 : FI) (Vm9 : FV) (H : Heap) (locs : List Loc) (pc : Nat) (ls : Array Slot), some (v, Im9, Vm9) = some out → va_P D vwCl (w_M cs o h Im9 Vm9) H → va_D A (w_M cs o h Im9 Vm9) → va_S A s.heap H locs → decode cX10_falls pc = .ok (.ireturn, 1) → W p l e rm_M_falls s m args below meth c H locs 0 0 Q (F0 m pc ls [.int v])) : ∀ ls : Array Slot, lv_has ls 7 [(0, .ref o), (1, .int x1)] → W p l e rm_M_falls s m args below meth c s.heap [] 0 0 Q (F0 m 0 ls []) := by
  intro ls hl
  have hS : va_S A s.heap s.heap [] := va_S.rf
  unfold M_falls at hf
  refine lv_aload_n hx hb dX10_falls_0 rfl (lv_at hl 0 rfl) ?_
  refine lv_iconst (v := 0) hx hb dX10_falls_1 (by decide) ?_
  refine va_put (D := D) (ci := 10) (v := .int 0) (ty := .int) (C := RX10) (T := TX10) (N := 38) hx hb hts in_X10 tyX10 tyX10_ok nmX10 hown hK hP hD hS 0 rfl rfl 0 (by decide) g_92 (fun _ h9 => h9) rfl (by decide +kernel) rfl rfl (Nat.le_of_ble_eq_true rfl) dX10_falls_2 (fun H locs hP hD hS => ?_)
  obtain ⟨I1, eI1, hf⟩ := nme hf
  have hP : va_P D vwCl (w_M cs o h I1 V) H := by rw [eI1]; exact hP
  have hD : va_D A (w_M cs o h I1 V) := by rw [eI1]; exact hD
  refine lv_iload_n hx hb dX10_falls_5 rfl (lv_at hl 1 rfl) ?_
  refine lv_i2l (v := x1.toInt64) hx hb dX10_falls_6 rfl ?_
  refine lv_lconst (v := 0) hx hb dX10_falls_7 (by decide) ?_
  refine lv_iconst (v := 1) hx hb dX10_falls_8 (by decide) ?_
  refine lv_aload_n hx hb dX10_falls_9 rfl (lv_at hl 0 rfl) ?_
  refine va_get (D := D) (ci := 10) (v := .int (I1 4)) (C := RX10) (T := TX10) (N := 38) hx hb hts in_X10 hown hK hP 0 rfl rfl 4 (by decide) g_96 (fun _ h9 => h9) rfl dX10_falls_10 ?_
  refine lv_ishl hx hb dX10_falls_13 ?_
  refine lv_iconst (v := 1) hx hb dX10_falls_14 (by decide) ?_
  refine lv_isub hx hb dX10_falls_15 ?_
  refine lv_i2l (v := ((1 <<< ((I1 4) &&& 31)) - 1).toInt64) hx hb dX10_falls_16 rfl ?_
  obtain ⟨zr2, qr2, hf⟩ := bd1 hf
  refine vp_callSi (va_Run.run (va_runS (As := [.long (x1.toInt64), .long 0, .long (((1 <<< ((I1 4) &&& 31)) - 1).toInt64)]) (rest := []) ⟨hx, hb, hml, hown, hts⟩ (c_M_in l (x1.toInt64) 0 (((1 <<< ((I1 4) &&& 31)) - 1).toInt64) f zr2 qr2) w_in_99 ⟨fun a U g mk q => q, fun U hU hW => ⟨rfl, trivial⟩⟩ rfl rfl hl.1 rfl (lv_room (Nat.le_of_ble_eq_true rfl)) dX10_falls_17 ⟨Nat.zero_le _, Nat.zero_le _⟩)) (fun r2 er2 => ?_)
  rw [er2]
  refine lv_if_ne (tgt := 26) hx hb dX10_falls_20 (by decide) (fun c20 => ?_) (fun c20 => ?_)
  · replace hf := im c20 hf
    refine lv_iconst (v := 1) hx hb dX10_falls_26 (by decide) ?_
    refine lv_aload_n hx hb dX10_falls_27 rfl (lv_at hl 0 rfl) ?_
    refine va_get (D := D) (ci := 10) (v := .int (I1 4)) (C := RX10) (T := TX10) (N := 38) hx hb hts in_X10 hown hK hP 0 rfl rfl 4 (by decide) g_96 (fun _ h9 => h9) rfl dX10_falls_28 ?_
    refine lv_ishl hx hb dX10_falls_31 ?_
    refine lv_iconst (v := 1) hx hb dX10_falls_32 (by decide) ?_
    refine lv_isub hx hb dX10_falls_33 ?_
    refine lv_iload_n hx hb dX10_falls_34 rfl (lv_at hl 1 rfl) ?_
    refine lv_iconst (v := (-1)) hx hb dX10_falls_35 (by decide) ?_
    refine lv_ixor hx hb dX10_falls_36 ?_
    refine lv_iand hx hb dX10_falls_37 ?_
    refine lv_topi (fun y3 ey3 => ?_)
    replace hf := nmd hf ey3
    refine lv_istore_n (lv' := [(2, .int y3), (0, .ref o), (1, .int x1)]) hx hb dX10_falls_38 rfl hl (by decide) rfl (fun ls hl => ?_)
    refine lv_iconst (v := 1) hx hb dX10_falls_39 (by decide) ?_
    refine lv_istore_n (lv' := [(3, .int 1), (2, .int y3), (0, .ref o), (1, .int x1)]) hx hb dX10_falls_40 rfl hl (by decide) rfl (fun ls hl => ?_)
    have L41 : ∀ (k_41 : Int32 → Option (Int32 × FI × FV)) (hk_41 : ∀ (x2_41 : Int32), k_41 x2_41 = some out → ∀ (H : Heap) (locs : List Loc), va_P D vwCl (w_M cs o h I1 V) H → va_D A (w_M cs o h I1 V) → va_S A s.heap H locs → ∀ ls : Array Slot, lv_has ls 7 [(0, .ref o), (2, .int x2_41)] → W p l e rm_M_falls s m args below meth c H locs 0 0 Q (F0 m 130 ls [])), ∀ (n_41 : Nat) (x2_41 : Int32) (x3_41 : Int32), M_falls_L41 f I1 V k_41 n_41 x2_41 x3_41 = some out → ∀ (H : Heap) (locs : List Loc), va_P D vwCl (w_M cs o h I1 V) H → va_D A (w_M cs o h I1 V) → va_S A s.heap H locs → ∀ ls : Array Slot, lv_has ls 7 [(0, .ref o), (2, .int x2_41), (3, .int x3_41)] → W p l e rm_M_falls s m args below meth c H locs 0 0 Q (F0 m 41 ls []) := by
      intro k_41 hk_41 n_41
      induction n_41 with
      | zero => intro x2_41 x3_41 hf; rw [M_falls_L41] at hf; cases hf
      | succ n_41 ih_41 =>
        intro x2_41 x3_41 hf H locs hP hD hS ls hl
        rw [M_falls_L41] at hf
        refine lv_iload_n hx hb dX10_falls_41 rfl (lv_at hl 2 rfl) ?_
        refine lv_if_eq (tgt := 130) hx hb dX10_falls_42 (by decide) (fun c42 => ?_) (fun c42 => ?_)
        · replace hf := ip c42 hf
          exact hk_41 x2_41 hf _ _ hP hD hS _ (lv_sub hl [0, 1] rfl)
        · replace hf := im c42 hf
          refine lv_iload_n hx hb dX10_falls_45 rfl (lv_at hl 1 rfl) ?_
          refine lv_istore (lv' := [(4, .int x2_41), (0, .ref o), (2, .int x2_41), (3, .int x3_41)]) hx hb dX10_falls_46 hl (by decide) rfl (fun ls hl => ?_)
          refine lv_iconst (v := 0) hx hb dX10_falls_48 (by decide) ?_
          refine lv_istore (lv' := [(5, .int 0), (4, .int x2_41), (0, .ref o), (2, .int x2_41), (3, .int x3_41)]) hx hb dX10_falls_49 hl (by decide) rfl (fun ls hl => ?_)
          have L51 : ∀ (k_51 : Int32 → Option (Int32 × FI × FV)) (hk_51 : ∀ (x2_51 : Int32), k_51 x2_51 = some out → ∀ (H : Heap) (locs : List Loc), va_P D vwCl (w_M cs o h I1 V) H → va_D A (w_M cs o h I1 V) → va_S A s.heap H locs → ∀ ls : Array Slot, lv_has ls 7 [(0, .ref o), (2, .int x2_51), (4, .int x2_41)] → W p l e rm_M_falls s m args below meth c H locs 0 0 Q (F0 m 115 ls [])), ∀ (n_51 : Nat) (x2_51 : Int32) (x5_51 : Int32), M_falls_L51 f I1 V k_51 n_51 x2_51 x5_51 = some out → ∀ (H : Heap) (locs : List Loc), va_P D vwCl (w_M cs o h I1 V) H → va_D A (w_M cs o h I1 V) → va_S A s.heap H locs → ∀ ls : Array Slot, lv_has ls 7 [(0, .ref o), (2, .int x2_51), (4, .int x2_41), (5, .int x5_51)] → W p l e rm_M_falls s m args below meth c H locs 0 0 Q (F0 m 51 ls []) := by
            intro k_51 hk_51 n_51
            induction n_51 with
            | zero => intro x2_51 x5_51 hf; rw [M_falls_L51] at hf; cases hf
            | succ n_51 ih_51 =>
              intro x2_51 x5_51 hf H locs hP hD hS ls hl
              rw [M_falls_L51] at hf
              refine lv_iload hx hb dX10_falls_51 (lv_at hl 3 rfl) ?_
              refine lv_aload_n hx hb dX10_falls_53 rfl (lv_at hl 0 rfl) ?_
              refine va_get (D := D) (ci := 10) (v := .int (I1 4)) (C := RX10) (T := TX10) (N := 38) hx hb hts in_X10 hown hK hP 0 rfl rfl 4 (by decide) g_96 (fun _ h9 => h9) rfl dX10_falls_54 ?_
              refine lv_icmp_ge (tgt := 115) hx hb dX10_falls_57 (by decide) (fun c57 => ?_) (fun c57 => ?_)
              · replace hf := ip c57 hf
                exact hk_51 x2_51 hf _ _ hP hD hS _ (lv_sub hl [0, 1, 2] rfl)
              · replace hf := im c57 hf
                refine lv_aload_n hx hb dX10_falls_60 rfl (lv_at hl 0 rfl) ?_
                refine va_get (D := D) (ci := 10) (v := .ref (h 5)) (C := RX10) (T := TX10) (N := 38) hx hb hts in_X10 hown hK hP 0 rfl rfl 5 (by decide) g_13 (fun _ h9 => h9) rfl dX10_falls_61 ?_
                refine lv_iload hx hb dX10_falls_64 (lv_at hl 3 rfl) ?_
                obtain ⟨c66, hf⟩ := gd hf
                refine va_iald (f := (V 5)) hx hb hK hP 2 0 rfl rfl c66 dX10_falls_66 ?_
                refine lv_aload_n hx hb dX10_falls_67 rfl (lv_at hl 0 rfl) ?_
                refine lv_iload hx hb dX10_falls_68 (lv_at hl 3 rfl) ?_
                refine lv_iload_n hx hb dX10_falls_70 rfl (lv_at hl 1 rfl) ?_
                obtain ⟨zr4, qr4, hf⟩ := bd1 hf
                refine vp_callSi (va_Run.run (va_runV (As := [.int x5_51, .int x2_51]) (rest := [.int ((V 5) x5_51.toNatClampNeg)]) ⟨hx, hb, hml, hown, hts⟩ (c_M_owedBy l D cs o h I1 V x5_51 x2_51 f zr4 qr4) w_owedBy_183 ⟨xR_moved, va_recv hK hP (ci := 10) (q0 := 0) rfl rfl, fun U hU hW => ⟨rfl, by rw [hU]; exact hP, va_K.moved hW.alike hK⟩⟩ rfl rfl hl.1 rfl (lv_room (Nat.le_of_ble_eq_true rfl)) dX10_falls_71 ⟨Nat.zero_le _, Nat.zero_le _⟩)) (fun r4 er4 => ?_)
                rw [er4]
                refine lv_iadd hx hb dX10_falls_74 ?_
                refine lv_aload_n hx hb dX10_falls_75 rfl (lv_at hl 0 rfl) ?_
                refine lv_iload hx hb dX10_falls_76 (lv_at hl 3 rfl) ?_
                obtain ⟨zr5, qr5, hf⟩ := bd1 hf
                refine vp_callSi (va_Run.run (va_runV (As := [.int x5_51]) (rest := [.int (((V 5) x5_51.toNatClampNeg) + zr4)]) ⟨hx, hb, hml, hown, hts⟩ (c_M_owesAll l D cs o h I1 V x5_51 f zr5 qr5) w_owesAll_144 ⟨xR_moved, va_recv hK hP (ci := 10) (q0 := 0) rfl rfl, fun U hU hW => ⟨rfl, by rw [hU]; exact hP, va_K.moved hW.alike hK⟩⟩ rfl rfl hl.1 rfl (lv_room (Nat.le_of_ble_eq_true rfl)) dX10_falls_78 ⟨Nat.zero_le _, Nat.zero_le _⟩)) (fun r5 er5 => ?_)
                rw [er5]
                obtain ⟨j89, ej89, hf⟩ := nme hf
                have J89 : ∀ (t0_89 : Int32), j89 t0_89 = some out → ∀ (H : Heap) (locs : List Loc), va_P D vwCl (w_M cs o h I1 V) H → va_D A (w_M cs o h I1 V) → va_S A s.heap H locs → ∀ ls : Array Slot, lv_has ls 7 [(0, .ref o), (2, .int x2_51), (4, .int x2_41), (5, .int x5_51)] → W p l e rm_M_falls s m args below meth c H locs 0 0 Q (F0 m 89 ls [.int t0_89]) := by
                  intro t0_89 hf H locs hP hD hS ls hl
                  rw [ej89] at hf
                  refine lv_istore (lv' := [(6, .int t0_89), (0, .ref o), (2, .int x2_51), (4, .int x2_41), (5, .int x5_51)]) hx hb dX10_falls_89 hl (by decide) rfl (fun ls hl => ?_)
                  refine lv_iload_n hx hb dX10_falls_91 rfl (lv_at hl 2 rfl) ?_
                  refine lv_iload hx hb dX10_falls_92 (lv_at hl 0 rfl) ?_
                  obtain ⟨j107, ej107, hf⟩ := nme hf
                  have J107 : ∀ (t1_107 : Int32), j107 t1_107 = some out → ∀ (H : Heap) (locs : List Loc), va_P D vwCl (w_M cs o h I1 V) H → va_D A (w_M cs o h I1 V) → va_S A s.heap H locs → ∀ ls : Array Slot, lv_has ls 7 [(0, .ref o), (4, .int x2_41), (5, .int x5_51)] → W p l e rm_M_falls s m args below meth c H locs 0 0 Q (F0 m 107 ls [.int t1_107, .int x2_51]) := by
                    intro t1_107 hf H locs hP hD hS ls hl
                    rw [ej107] at hf
                    refine lv_iand hx hb dX10_falls_107 ?_
                    refine lv_istore_n (lv' := [(2, .int (x2_51 &&& t1_107)), (0, .ref o), (4, .int x2_41), (5, .int x5_51)]) hx hb dX10_falls_108 rfl hl (by decide) rfl (fun ls hl => ?_)
                    refine lv_iinc (v := (x5_51 + 1)) (lv' := [(5, .int (x5_51 + 1)), (2, .int (x2_51 &&& t1_107)), (0, .ref o), (4, .int x2_41)]) hx hb dX10_falls_109 hl (k := 3) rfl (by rfl) (by decide) rfl (fun ls hl => ?_)
                    refine lv_goto (tgt := 51) hx hb dX10_falls_112 (by decide) ?_
                    exact ih_51 (x2_51 &&& t1_107) (x5_51 + 1) hf _ _ hP hD hS _ (lv_sub hl [2, 1, 3, 0] rfl)
                  refine lv_if_eq (tgt := 101) hx hb dX10_falls_94 (by decide) (fun c94 => ?_) (fun c94 => ?_)
                  · replace hf := ip c94 hf
                    refine lv_iconst (v := 1) hx hb dX10_falls_101 (by decide) ?_
                    refine lv_iload hx hb dX10_falls_102 (lv_at hl 4 rfl) ?_
                    refine lv_ishl hx hb dX10_falls_104 ?_
                    refine lv_iconst (v := (-1)) hx hb dX10_falls_105 (by decide) ?_
                    refine lv_ixor hx hb dX10_falls_106 ?_
                    exact J107 ((1 <<< (x5_51 &&& 31)) ^^^ (-1)) hf _ _ hP hD hS _ (lv_sub hl [1, 3, 4] rfl)
                  · replace hf := im c94 hf
                    refine lv_iload_n hx hb dX10_falls_97 rfl (lv_at hl 2 rfl) ?_
                    refine lv_goto (tgt := 107) hx hb dX10_falls_98 (by decide) ?_
                    exact J107 x2_51 hf _ _ hP hD hS _ (lv_sub hl [1, 3, 4] rfl)
                refine lv_icmp_lt (tgt := 88) hx hb dX10_falls_81 (by decide) (fun c81 => ?_) (fun c81 => ?_)
                · replace hf := ip c81 hf
                  refine lv_iconst (v := 0) hx hb dX10_falls_88 (by decide) ?_
                  exact J89 0 hf _ _ hP hD hS _ (lv_sub hl [0, 1, 2, 3] rfl)
                · replace hf := im c81 hf
                  refine lv_iconst (v := 1) hx hb dX10_falls_84 (by decide) ?_
                  refine lv_goto (tgt := 89) hx hb dX10_falls_85 (by decide) ?_
                  exact J89 1 hf _ _ hP hD hS _ (lv_sub hl [0, 1, 2, 3] rfl)
          refine L51 _ (fun x2_51 hf H locs hP hD hS ls hl => ?_) f x2_41 0 hf _ _ hP hD hS _ (lv_sub hl [2, 3, 1, 0] rfl)
          refine lv_iload_n hx hb dX10_falls_115 rfl (lv_at hl 1 rfl) ?_
          refine lv_iload hx hb dX10_falls_116 (lv_at hl 2 rfl) ?_
          obtain ⟨j126, ej126, hf⟩ := nme hf
          have J126 : ∀ (t0_126 : Int32), j126 t0_126 = some out → ∀ (H : Heap) (locs : List Loc), va_P D vwCl (w_M cs o h I1 V) H → va_D A (w_M cs o h I1 V) → va_S A s.heap H locs → ∀ ls : Array Slot, lv_has ls 7 [(0, .ref o), (2, .int x2_51)] → W p l e rm_M_falls s m args below meth c H locs 0 0 Q (F0 m 126 ls [.int t0_126]) := by
            intro t0_126 hf H locs hP hD hS ls hl
            rw [ej126] at hf
            refine lv_istore_n (lv' := [(3, .int t0_126), (0, .ref o), (2, .int x2_51)]) hx hb dX10_falls_126 rfl hl (by decide) rfl (fun ls hl => ?_)
            refine lv_goto (tgt := 41) hx hb dX10_falls_127 (by decide) ?_
            exact ih_41 x2_51 t0_126 hf _ _ hP hD hS _ (lv_sub hl [1, 2, 0] rfl)
          refine lv_icmp_eq (tgt := 125) hx hb dX10_falls_118 (by decide) (fun c118 => ?_) (fun c118 => ?_)
          · replace hf := ip c118 hf
            refine lv_iconst (v := 0) hx hb dX10_falls_125 (by decide) ?_
            exact J126 0 hf _ _ hP hD hS _ (lv_sub hl [0, 1] rfl)
          · replace hf := im c118 hf
            refine lv_iconst (v := 1) hx hb dX10_falls_121 (by decide) ?_
            refine lv_goto (tgt := 126) hx hb dX10_falls_122 (by decide) ?_
            exact J126 1 hf _ _ hP hD hS _ (lv_sub hl [0, 1] rfl)
    refine L41 _ (fun x2_41 hf H locs hP hD hS ls hl => ?_) f y3 1 hf _ _ hP hD hS _ (lv_sub hl [2, 1, 0] rfl)
    refine lv_iconst (v := 1) hx hb dX10_falls_130 (by decide) ?_
    refine lv_aload_n hx hb dX10_falls_131 rfl (lv_at hl 0 rfl) ?_
    refine va_get (D := D) (ci := 10) (v := .int (I1 4)) (C := RX10) (T := TX10) (N := 38) hx hb hts in_X10 hown hK hP 0 rfl rfl 4 (by decide) g_96 (fun _ h9 => h9) rfl dX10_falls_132 ?_
    refine lv_ishl hx hb dX10_falls_135 ?_
    refine lv_iconst (v := 1) hx hb dX10_falls_136 (by decide) ?_
    refine lv_isub hx hb dX10_falls_137 ?_
    refine lv_iload_n hx hb dX10_falls_138 rfl (lv_at hl 1 rfl) ?_
    refine lv_iconst (v := (-1)) hx hb dX10_falls_139 (by decide) ?_
    refine lv_ixor hx hb dX10_falls_140 ?_
    refine lv_iand hx hb dX10_falls_141 ?_
    exact hret (((1 <<< ((I1 4) &&& 31)) - 1) &&& (x2_41 ^^^ (-1))) I1 V _ _ 142 _ hf hP hD hS dX10_falls_142
  · replace hf := ip c20 hf
    refine lv_bipush (v := (-2)) hx hb dX10_falls_23 (by decide) ?_
    exact hret (-2) I1 V _ _ 25 _ hf hP hD hS dX10_falls_25
set_option maxHeartbeats 4000000 in
set_option maxRecDepth 100000 in
theorem c_M_falls (l : Launch) (D : va_G) (cs : Nat → ClassId) (o : Nat) (h : Nat → Nat) (sz : Nat) (I : FI) (V : FV) (x1 : Int32) (f : Nat) (out : Int32 × FI × FV) (hf : M_falls f x1 I V = some out) : Met l yX10_falls wsX10_falls rm_M_falls (va_Pc [.ref o, .int x1] (xP D cs (w_M cs o h I V) sz)) (va_Qi (fun r u => (r, u) = out) (fun (u : FI × FV) t => xA D cs (va_A (w_M cs o h I V) sz) (w_M cs o h u.1 u.2) t) (va_A (w_M cs o h I V) sz)) 0 0 (va_A (w_M cs o h I V) sz) := by
  refine Met.ofW (cc := cX10_falls) (maxL := 7) (ret := (some .int)) (by decide) rfl ?_
  intro p e s m args below meth c s₁ B hml hv
  obtain ⟨ha, hsz, hP, hK, hD0⟩ := hv
  have hx := B.exec
  have hb := B.bytes
  have hr := B.returns
  have hts := atoms_spec (ws := wsX10_falls) B.pre
  have hown : s.vm.findClass RX10 = some m.cls := findClass_of_methodNamed B.named
  have hlocks := B.notSynchronized
  have in_X10 : ∀ w ∈ u_ws RX10 TX10 38, w ∈ wsX10_falls := fun w h => List.mem_cons_of_mem _ (List.mem_append_right _ h)
  have g_92 := hts (Cond.fieldLink RX10 92 "DaysLentModel" "thrown" "I") (by decide +kernel)
  have g_96 := hts (Cond.fieldLink RX10 96 "DaysLentModel" "people" "I") (by decide +kernel)
  have w_in_99 := va_cwS (R := rm_M_falls) (s := s) (args := args) (rm := rm_M_in) (mc := 0) (ms := 0) 3 hts gX10_falls_X10_in rfl rfl rfl (by decide +kernel) ⟨Nat.le_of_ble_eq_true rfl, Nat.le_of_ble_eq_true rfl⟩
  have g_13 := hts (Cond.fieldLink RX10 13 "DaysLentModel" "mornings" "[I") (by decide +kernel)
  have w_owedBy_183 := cwV (R := rm_M_falls) (s := s) (args := args) (rm := rm_M_owedBy) (mc := 0) (ms := 0) 2 hts gX10_falls_X10_owedBy rfl rfl rfl (by decide +kernel) ⟨Nat.le_of_ble_eq_true rfl, Nat.le_of_ble_eq_true rfl⟩
  have w_owesAll_144 := cwV (R := rm_M_falls) (s := s) (args := args) (rm := rm_M_owesAll) (mc := 0) (ms := 0) 1 hts gX10_falls_X10_owesAll rfl rfl rfl (by decide +kernel) ⟨Nat.le_of_ble_eq_true rfl, Nat.le_of_ble_eq_true rfl⟩
  subst hsz
  have hD := hD0.self (sz := s.heap.size)
  generalize hAe : va_A (w_M cs o h I V) s.heap.size = A at hD ⊢
  have hA : ∀ q : Nat, s.heap.size ≤ q → A q := fun q h => by rw [← hAe]; exact Or.inr h
  have hl := lv_entry ([.ref o, .int x1]) (n := 7) (Nat.le_of_ble_eq_true rfl)
  rw [show entryFrame m args 7 = entryFrame m ([.ref o, .int x1] : List Value).toArray 7 from by rw [ha], lg_entry_eq]
  generalize (lg_sl ([.ref o, .int x1]) ++ List.replicate (7 - (lg_sl ([.ref o, .int x1])).length) Slot.unset).toArray = ls at hl ⊢
  generalize hQ : MQ below (va_Qi (fun r u => (r, u) = out) (fun (u : FI × FV) t => xA D cs A (w_M cs o h u.1 u.2) t) A) args s 0 0 A = Q
  have hret : ∀ (v : Int32) (Im9 : FI) (Vm9 : FV) (H : Heap) (locs : List Loc) (pc : Nat) (ls : Array Slot), some (v, Im9, Vm9) = some out → va_P D vwCl (w_M cs o h Im9 Vm9) H → va_D A (w_M cs o h Im9 Vm9) → va_S A s.heap H locs → decode cX10_falls pc = .ok (.ireturn, 1) → W p l e rm_M_falls s m args below meth c H locs 0 0 Q (F0 m pc ls [.int v]) := by
    intro v Im9 Vm9 H locs pc ls hf hP hD hS hd
    rw [← hQ]
    exact W.iret (v := v) hx hb hr (fun t ht hW => ⟨⟨v, (Im9, Vm9), rfl, Option.some.inj hf, by show va_P D vwCl (w_M cs o h Im9 Vm9) t.heap; rw [ht]; exact hP, va_K.moved hW.alike hK, hD⟩, hS.F ht⟩) hS.2.2 hd
  exact v_M_falls hf hx hb hml hown hts in_X10 g_92 g_96 w_in_99 g_13 w_owedBy_183 w_owesAll_144 hA hP hD hK hret ls hl
def M_mayGo_L59 {ρ : Type} (f : Nat) (x4 : Int32) (x5 : Int32) (V : FV) (x3 : Int32) (k_59 : Int32 → Option ρ) : Nat → Int32 → Int32 → Option ρ
  | 0, _, _ => none
  | n_59 + 1, x6_59, x7_59 => (if x4 ≤ x7_59 then (k_59 x6_59) else (nm (fun (t0_106 : Int32) => (M_mayGo_L59 f x4 x5 V x3 k_59 n_59 t0_106 (x7_59 + 1))) (fun j106 => nm (fun (u_105 : Unit) => (j106 0)) (fun j105 => (if x6_59 = 0 then (j105 ()) else (nm (fun (u_101 : Unit) => (j106 1)) (fun j101 => (if x4 = (x5 - 1) then (j101 ()) else if x7_59 < 0 ∨ 7 ≤ x7_59.toNatClampNeg then none else (if ((V 32) x7_59.toNatClampNeg) < 0 ∨ 12 ≤ ((V 32) x7_59.toNatClampNeg).toNatClampNeg then none else (if x3 < 0 ∨ 12 ≤ x3.toNatClampNeg then none else ((if ((V 10) ((V 32) x7_59.toNatClampNeg).toNatClampNeg) = ((V 10) x3.toNatClampNeg) then (j105 ()) else (j101 ())))))))))))))
def M_mayGo (f : Nat) (x1 : Int32) (x2 : Int32) (x3 : Int32) (x4 : Int32) (x5 : Int32) (I : FI) (V : FV) : Option (Int32) := if x3 < 0 ∨ 12 ≤ x3.toNatClampNeg then none else ((if ((V 11) x3.toNatClampNeg) = x2 then (nm (fun (t0_54 : Int32) => (M_mayGo_L59 f x4 x5 V x3 (fun (x6_59 : Int32) => if x6_59 &&& 1 = x6_59 then some x6_59 else none) f t0_54 0)) (fun j54 => (if x4 = (x5 - 1) then if x3 < 0 ∨ 12 ≤ x3.toNatClampNeg then none else ((if ((V 10) x3.toNatClampNeg) = x1 then (j54 1) else (j54 0))) else if x3 < 0 ∨ 12 ≤ x3.toNatClampNeg then none else ((if ((V 10) x3.toNatClampNeg) = x1 then (j54 0) else (j54 1)))))) else some 0))
abbrev rm_M_mayGo : Room := { frames := 0, cells := 0, slots := 0, locals := 0 }
set_option maxHeartbeats 4000000 in
set_option maxRecDepth 100000 in
theorem v_M_mayGo {l : Launch} {p : Program} {e : Env} {s : State} {m : MethodId} {args : Array Value} {below : List Frame} {meth : Method} {c : Code} {Q : State → Prop} {D : va_G} {cs : Nat → ClassId} {o : Nat} {h : Nat → Nat} {I : FI} {V : FV} {x1 : Int32} {x2 : Int32} {x3 : Int32} {x4 : Int32} {x5 : Int32} {f : Nat} {out : Int32} (hf : M_mayGo f x1 x2 x3 x4 x5 I V = some out) (hx : p.tables.exec = Jvm.exec) (hb : c.code = cX10_mayGo) (hml : c.maxLocals = 8) (hown : s.vm.findClass RX10 = some m.cls) (hts : ∀ w ∈ wsX10_mayGo, w.before args s = true) (in_X10 : ∀ w ∈ u_ws RX10 TX10 38, w ∈ wsX10_mayGo) (g_29 : (Cond.fieldLink RX10 29 "DaysLentModel" "owes" "[I").before args s = true) (g_26 : (Cond.fieldLink RX10 26 "DaysLentModel" "owed" "[I").before args s = true) (g_77 : (Cond.fieldLink RX10 77 "DaysLentModel" "tried" "[I").before args s = true) (hP : va_P D vwCl (w_M cs o h I V) s.heap) (hK : va_K D vwCl (tyA cs) s) (hret : ∀ (v : Int32) (pc : Nat) (ls : Array Slot), narrow .boolean (.int v) = .int v → some v = some out → decode cX10_mayGo pc = .ok (.ireturn, 1) → W p l e rm_M_mayGo s m args below meth c s.heap [] 0 0 Q (F0 m pc ls [.int v])) : ∀ ls : Array Slot, lv_has ls 8 [(0, .ref o), (1, .int x1), (2, .int x2), (3, .int x3), (4, .int x4), (5, .int x5)] → W p l e rm_M_mayGo s m args below meth c s.heap [] 0 0 Q (F0 m 0 ls []) := by
  intro ls hl
  unfold M_mayGo at hf
  refine lv_aload_n hx hb dX10_mayGo_0 rfl (lv_at hl 0 rfl) ?_
  refine va_get (D := D) (ci := 10) (v := .ref (h 11)) (C := RX10) (T := TX10) (N := 38) hx hb hts in_X10 hown hK hP 0 rfl rfl 11 (by decide) g_29 (fun _ h9 => h9) rfl dX10_mayGo_1 ?_
  refine lv_iload_n hx hb dX10_mayGo_4 rfl (lv_at hl 3 rfl) ?_
  obtain ⟨c5, hf⟩ := gd hf
  refine va_iald (f := (V 11)) hx hb hK hP 7 0 rfl rfl c5 dX10_mayGo_5 ?_
  refine lv_iload_n hx hb dX10_mayGo_6 rfl (lv_at hl 2 rfl) ?_
  refine lv_icmp_eq (tgt := 12) hx hb dX10_mayGo_7 (by decide) (fun c7 => ?_) (fun c7 => ?_)
  · replace hf := ip c7 hf
    refine lv_iload hx hb dX10_mayGo_12 (lv_at hl 4 rfl) ?_
    refine lv_iload hx hb dX10_mayGo_14 (lv_at hl 5 rfl) ?_
    refine lv_iconst (v := 1) hx hb dX10_mayGo_16 (by decide) ?_
    refine lv_isub hx hb dX10_mayGo_17 ?_
    obtain ⟨j54, ej54, hf⟩ := nme hf
    have J54 : ∀ (t0_54 : Int32), j54 t0_54 = some out → ∀ ls : Array Slot, lv_has ls 8 [(0, .ref o), (3, .int x3), (4, .int x4), (5, .int x5)] → W p l e rm_M_mayGo s m args below meth c s.heap [] 0 0 Q (F0 m 54 ls [.int t0_54]) := by
      intro t0_54 hf ls hl
      rw [ej54] at hf
      refine lv_istore (lv' := [(6, .int t0_54), (0, .ref o), (3, .int x3), (4, .int x4), (5, .int x5)]) hx hb dX10_mayGo_54 hl (by decide) rfl (fun ls hl => ?_)
      refine lv_iconst (v := 0) hx hb dX10_mayGo_56 (by decide) ?_
      refine lv_istore (lv' := [(7, .int 0), (6, .int t0_54), (0, .ref o), (3, .int x3), (4, .int x4), (5, .int x5)]) hx hb dX10_mayGo_57 hl (by decide) rfl (fun ls hl => ?_)
      have L59 : ∀ (k_59 : Int32 → Option (Int32)) (hk_59 : ∀ (x6_59 : Int32), k_59 x6_59 = some out → ∀ ls : Array Slot, lv_has ls 8 [(6, .int x6_59)] → W p l e rm_M_mayGo s m args below meth c s.heap [] 0 0 Q (F0 m 114 ls [])), ∀ (n_59 : Nat) (x6_59 : Int32) (x7_59 : Int32), M_mayGo_L59 f x4 x5 V x3 k_59 n_59 x6_59 x7_59 = some out → ∀ ls : Array Slot, lv_has ls 8 [(0, .ref o), (3, .int x3), (4, .int x4), (5, .int x5), (6, .int x6_59), (7, .int x7_59)] → W p l e rm_M_mayGo s m args below meth c s.heap [] 0 0 Q (F0 m 59 ls []) := by
        intro k_59 hk_59 n_59
        induction n_59 with
        | zero => intro x6_59 x7_59 hf; rw [M_mayGo_L59] at hf; cases hf
        | succ n_59 ih_59 =>
          intro x6_59 x7_59 hf ls hl
          rw [M_mayGo_L59] at hf
          refine lv_iload hx hb dX10_mayGo_59 (lv_at hl 5 rfl) ?_
          refine lv_iload hx hb dX10_mayGo_61 (lv_at hl 2 rfl) ?_
          refine lv_icmp_ge (tgt := 114) hx hb dX10_mayGo_63 (by decide) (fun c63 => ?_) (fun c63 => ?_)
          · replace hf := ip c63 hf
            exact hk_59 x6_59 hf _ (lv_sub hl [4] rfl)
          · replace hf := im c63 hf
            refine lv_iload hx hb dX10_mayGo_66 (lv_at hl 4 rfl) ?_
            obtain ⟨j106, ej106, hf⟩ := nme hf
            have J106 : ∀ (t0_106 : Int32), j106 t0_106 = some out → ∀ ls : Array Slot, lv_has ls 8 [(0, .ref o), (3, .int x3), (4, .int x4), (5, .int x5), (7, .int x7_59)] → W p l e rm_M_mayGo s m args below meth c s.heap [] 0 0 Q (F0 m 106 ls [.int t0_106]) := by
              intro t0_106 hf ls hl
              rw [ej106] at hf
              refine lv_istore (lv' := [(6, .int t0_106), (0, .ref o), (3, .int x3), (4, .int x4), (5, .int x5), (7, .int x7_59)]) hx hb dX10_mayGo_106 hl (by decide) rfl (fun ls hl => ?_)
              refine lv_iinc (v := (x7_59 + 1)) (lv' := [(7, .int (x7_59 + 1)), (6, .int t0_106), (0, .ref o), (3, .int x3), (4, .int x4), (5, .int x5)]) hx hb dX10_mayGo_108 hl (k := 5) rfl (by rfl) (by decide) rfl (fun ls hl => ?_)
              refine lv_goto (tgt := 59) hx hb dX10_mayGo_111 (by decide) ?_
              exact ih_59 t0_106 (x7_59 + 1) hf _ (lv_sub hl [2, 3, 4, 5, 1, 0] rfl)
            obtain ⟨j105, ej105, hf⟩ := nme hf
            have J105 : ∀ (u_105 : Unit), j105 u_105 = some out → ∀ ls : Array Slot, lv_has ls 8 [(0, .ref o), (3, .int x3), (4, .int x4), (5, .int x5), (7, .int x7_59)] → W p l e rm_M_mayGo s m args below meth c s.heap [] 0 0 Q (F0 m 105 ls []) := by
              intro u_105 hf ls hl
              rw [ej105] at hf
              refine lv_iconst (v := 0) hx hb dX10_mayGo_105 (by decide) ?_
              exact J106 0 hf _ (lv_sub hl [0, 1, 2, 3, 4] rfl)
            refine lv_if_eq (tgt := 105) hx hb dX10_mayGo_68 (by decide) (fun c68 => ?_) (fun c68 => ?_)
            · replace hf := ip c68 hf
              exact J105 () hf _ (lv_sub hl [0, 1, 2, 3, 5] rfl)
            · replace hf := im c68 hf
              refine lv_iload hx hb dX10_mayGo_71 (lv_at hl 2 rfl) ?_
              refine lv_iload hx hb dX10_mayGo_73 (lv_at hl 3 rfl) ?_
              refine lv_iconst (v := 1) hx hb dX10_mayGo_75 (by decide) ?_
              refine lv_isub hx hb dX10_mayGo_76 ?_
              obtain ⟨j101, ej101, hf⟩ := nme hf
              have J101 : ∀ (u_101 : Unit), j101 u_101 = some out → ∀ ls : Array Slot, lv_has ls 8 [(0, .ref o), (3, .int x3), (4, .int x4), (5, .int x5), (7, .int x7_59)] → W p l e rm_M_mayGo s m args below meth c s.heap [] 0 0 Q (F0 m 101 ls []) := by
                intro u_101 hf ls hl
                rw [ej101] at hf
                refine lv_iconst (v := 1) hx hb dX10_mayGo_101 (by decide) ?_
                refine lv_goto (tgt := 106) hx hb dX10_mayGo_102 (by decide) ?_
                exact J106 1 hf _ (lv_sub hl [0, 1, 2, 3, 4] rfl)
              refine lv_icmp_eq (tgt := 101) hx hb dX10_mayGo_77 (by decide) (fun c77 => ?_) (fun c77 => ?_)
              · replace hf := ip c77 hf
                exact J101 () hf _ (lv_sub hl [0, 1, 2, 3, 5] rfl)
              · replace hf := im c77 hf
                refine lv_aload_n hx hb dX10_mayGo_80 rfl (lv_at hl 0 rfl) ?_
                refine va_get (D := D) (ci := 10) (v := .ref (h 10)) (C := RX10) (T := TX10) (N := 38) hx hb hts in_X10 hown hK hP 0 rfl rfl 10 (by decide) g_26 (fun _ h9 => h9) rfl dX10_mayGo_81 ?_
                refine lv_aload_n hx hb dX10_mayGo_84 rfl (lv_at hl 0 rfl) ?_
                refine va_get (D := D) (ci := 10) (v := .ref (h 32)) (C := RX10) (T := TX10) (N := 38) hx hb hts in_X10 hown hK hP 0 rfl rfl 32 (by decide) g_77 (fun _ h9 => h9) rfl dX10_mayGo_85 ?_
                refine lv_iload hx hb dX10_mayGo_88 (lv_at hl 5 rfl) ?_
                obtain ⟨c90, hf⟩ := gd hf
                refine va_iald (f := (V 32)) hx hb hK hP 23 0 rfl rfl c90 dX10_mayGo_90 ?_
                obtain ⟨c91, hf⟩ := gd hf
                refine va_iald (f := (V 10)) hx hb hK hP 6 0 rfl rfl c91 dX10_mayGo_91 ?_
                refine lv_aload_n hx hb dX10_mayGo_92 rfl (lv_at hl 0 rfl) ?_
                refine va_get (D := D) (ci := 10) (v := .ref (h 10)) (C := RX10) (T := TX10) (N := 38) hx hb hts in_X10 hown hK hP 0 rfl rfl 10 (by decide) g_26 (fun _ h9 => h9) rfl dX10_mayGo_93 ?_
                refine lv_iload_n hx hb dX10_mayGo_96 rfl (lv_at hl 1 rfl) ?_
                obtain ⟨c97, hf⟩ := gd hf
                refine va_iald (f := (V 10)) hx hb hK hP 6 0 rfl rfl c97 dX10_mayGo_97 ?_
                refine lv_icmp_eq (tgt := 105) hx hb dX10_mayGo_98 (by decide) (fun c98 => ?_) (fun c98 => ?_)
                · replace hf := ip c98 hf
                  exact J105 () hf _ (lv_sub hl [0, 1, 2, 3, 5] rfl)
                · replace hf := im c98 hf
                  exact J101 () hf _ (lv_sub hl [0, 1, 2, 3, 5] rfl)
      refine L59 _ (fun x6_59 hf ls hl => ?_) f t0_54 0 hf _ (lv_sub hl [2, 3, 4, 5, 1, 0] rfl)
      refine lv_iload hx hb dX10_mayGo_114 (lv_at hl 0 rfl) ?_
      obtain ⟨c116, hf⟩ := gp hf
      exact hret x6_59 116 _ (by show Value.int (x6_59 &&& 1) = .int x6_59; rw [c116]) hf dX10_mayGo_116
    refine lv_icmp_ne (tgt := 39) hx hb dX10_mayGo_18 (by decide) (fun c18 => ?_) (fun c18 => ?_)
    · replace hf := im c18 hf
      refine lv_aload_n hx hb dX10_mayGo_39 rfl (lv_at hl 0 rfl) ?_
      refine va_get (D := D) (ci := 10) (v := .ref (h 10)) (C := RX10) (T := TX10) (N := 38) hx hb hts in_X10 hown hK hP 0 rfl rfl 10 (by decide) g_26 (fun _ h9 => h9) rfl dX10_mayGo_40 ?_
      refine lv_iload_n hx hb dX10_mayGo_43 rfl (lv_at hl 3 rfl) ?_
      obtain ⟨c44, hf⟩ := gd hf
      refine va_iald (f := (V 10)) hx hb hK hP 6 0 rfl rfl c44 dX10_mayGo_44 ?_
      refine lv_iload_n hx hb dX10_mayGo_45 rfl (lv_at hl 1 rfl) ?_
      refine lv_icmp_eq (tgt := 53) hx hb dX10_mayGo_46 (by decide) (fun c46 => ?_) (fun c46 => ?_)
      · replace hf := ip c46 hf
        refine lv_iconst (v := 0) hx hb dX10_mayGo_53 (by decide) ?_
        exact J54 0 hf _ (lv_sub hl [0, 3, 4, 5] rfl)
      · replace hf := im c46 hf
        refine lv_iconst (v := 1) hx hb dX10_mayGo_49 (by decide) ?_
        refine lv_goto (tgt := 54) hx hb dX10_mayGo_50 (by decide) ?_
        exact J54 1 hf _ (lv_sub hl [0, 3, 4, 5] rfl)
    · replace hf := ip c18 hf
      refine lv_aload_n hx hb dX10_mayGo_21 rfl (lv_at hl 0 rfl) ?_
      refine va_get (D := D) (ci := 10) (v := .ref (h 10)) (C := RX10) (T := TX10) (N := 38) hx hb hts in_X10 hown hK hP 0 rfl rfl 10 (by decide) g_26 (fun _ h9 => h9) rfl dX10_mayGo_22 ?_
      refine lv_iload_n hx hb dX10_mayGo_25 rfl (lv_at hl 3 rfl) ?_
      obtain ⟨c26, hf⟩ := gd hf
      refine va_iald (f := (V 10)) hx hb hK hP 6 0 rfl rfl c26 dX10_mayGo_26 ?_
      refine lv_iload_n hx hb dX10_mayGo_27 rfl (lv_at hl 1 rfl) ?_
      refine lv_icmp_ne (tgt := 35) hx hb dX10_mayGo_28 (by decide) (fun c28 => ?_) (fun c28 => ?_)
      · replace hf := im c28 hf
        refine lv_iconst (v := 0) hx hb dX10_mayGo_35 (by decide) ?_
        refine lv_goto (tgt := 54) hx hb dX10_mayGo_36 (by decide) ?_
        exact J54 0 hf _ (lv_sub hl [0, 3, 4, 5] rfl)
      · replace hf := ip c28 hf
        refine lv_iconst (v := 1) hx hb dX10_mayGo_31 (by decide) ?_
        refine lv_goto (tgt := 54) hx hb dX10_mayGo_32 (by decide) ?_
        exact J54 1 hf _ (lv_sub hl [0, 3, 4, 5] rfl)
  · replace hf := im c7 hf
    refine lv_iconst (v := 0) hx hb dX10_mayGo_10 (by decide) ?_
    exact hret 0 11 _ rfl hf dX10_mayGo_11
set_option maxHeartbeats 4000000 in
set_option maxRecDepth 100000 in
theorem c_M_mayGo (l : Launch) (D : va_G) (cs : Nat → ClassId) (o : Nat) (h : Nat → Nat) (I : FI) (V : FV) (x1 : Int32) (x2 : Int32) (x3 : Int32) (x4 : Int32) (x5 : Int32) (f : Nat) (out : Int32) (hf : M_mayGo f x1 x2 x3 x4 x5 I V = some out) : Met l yX10_mayGo wsX10_mayGo rm_M_mayGo (va_Pc [.ref o, .int x1, .int x2, .int x3, .int x4, .int x5] (xR D cs (w_M cs o h I V))) (vp_Si (fun r => r = out)) 0 0 (fun _ => False) := by
  refine Met.ofW (cc := cX10_mayGo) (maxL := 8) (ret := (some .boolean)) (by decide) rfl ?_
  intro p e s m args below meth c s₁ B hml hv
  obtain ⟨ha, hP, hK⟩ := hv
  have hx := B.exec
  have hb := B.bytes
  have hr := B.returns
  have hts := atoms_spec (ws := wsX10_mayGo) B.pre
  have hown : s.vm.findClass RX10 = some m.cls := findClass_of_methodNamed B.named
  have hlocks := B.notSynchronized
  have in_X10 : ∀ w ∈ u_ws RX10 TX10 38, w ∈ wsX10_mayGo := fun w h => List.mem_cons_of_mem _ (List.mem_append_right _ h)
  have g_29 := hts (Cond.fieldLink RX10 29 "DaysLentModel" "owes" "[I") (by decide +kernel)
  have g_26 := hts (Cond.fieldLink RX10 26 "DaysLentModel" "owed" "[I") (by decide +kernel)
  have g_77 := hts (Cond.fieldLink RX10 77 "DaysLentModel" "tried" "[I") (by decide +kernel)
  have hl := lv_entry ([.ref o, .int x1, .int x2, .int x3, .int x4, .int x5]) (n := 8) (Nat.le_of_ble_eq_true rfl)
  rw [show entryFrame m args 8 = entryFrame m ([.ref o, .int x1, .int x2, .int x3, .int x4, .int x5] : List Value).toArray 8 from by rw [ha], lg_entry_eq]
  generalize (lg_sl ([.ref o, .int x1, .int x2, .int x3, .int x4, .int x5]) ++ List.replicate (8 - (lg_sl ([.ref o, .int x1, .int x2, .int x3, .int x4, .int x5])).length) Slot.unset).toArray = ls at hl ⊢
  generalize hQ : MQ below (vp_Si (fun r => r = out)) args s 0 0 (fun _ => False) = Q
  have hret : ∀ (v : Int32) (pc : Nat) (ls : Array Slot), narrow .boolean (.int v) = .int v → some v = some out → decode cX10_mayGo pc = .ok (.ireturn, 1) → W p l e rm_M_mayGo s m args below meth c s.heap [] 0 0 Q (F0 m pc ls [.int v]) := by
    intro v pc ls hz hf hd
    rw [← hQ]
    exact W.zret (v := v) hx hb hr hz (fun t ht hW => ⟨v, rfl, Option.some.inj hf, ht⟩) (fun q h => by cases h) hd
  exact v_M_mayGo hf hx hb hml hown hts in_X10 g_29 g_26 g_77 hP hK hret ls hl
def M_findRing_L72 (f : Nat) (I : FI) (x1 : Int32) (t0_45 : Int32) (x3_20 : Int32) (x2_2 : Int32) (Vm_20 : FV) (k_72 : Int32 → Option (Int32 × FI × FV)) : Nat → Int32 → Option (Int32 × FI × FV)
  | 0, _ => none
  | n_72 + 1, x5_72 => (if (I 9) ≤ x5_72 then (k_72 x5_72) else ob1 (M_mayGo f x1 t0_45 x5_72 x3_20 x2_2 I Vm_20) (fun zr2 => (if zr2 = 0 then (M_findRing_L72 f I x1 t0_45 x3_20 x2_2 Vm_20 k_72 n_72 (x5_72 + 1)) else (k_72 x5_72))))
def M_findRing_L134 (f : Nat) (x2_2 : Int32) (k_134 : FV → Option (Int32 × FI × FV)) : Nat → Int32 → FV → Option (Int32 × FI × FV)
  | 0, _, _ => none
  | n_134 + 1, x6_134, Vm_134 => (if x2_2 ≤ x6_134 then (k_134 Vm_134) else if x6_134 < 0 ∨ 7 ≤ x6_134.toNatClampNeg then none else (if x6_134 < 0 ∨ 7 ≤ x6_134.toNatClampNeg then none else (nm (va_up Vm_134 33 (upd (Vm_134 33) x6_134.toNatClampNeg ((Vm_134 32) x6_134.toNatClampNeg))) (fun V5 => (M_findRing_L134 f x2_2 k_134 n_134 (x6_134 + 1) V5)))))
def M_findRing_L20 (f : Nat) (I : FI) (x1 : Int32) (x2_2 : Int32) (k_20 : FV → Option (Int32 × FI × FV)) : Nat → Int32 → FV → Option (Int32 × FI × FV)
  | 0, _, _ => none
  | n_20 + 1, x3_20, Vm_20 => (if x3_20 < 0 then (k_20 Vm_20) else (nm (fun (t0_45 : Int32) => if x3_20 < 0 ∨ 7 ≤ x3_20.toNatClampNeg then none else ((nm (fun (t0_70 : Int32) => (M_findRing_L72 f I x1 t0_45 x3_20 x2_2 Vm_20 (fun (x5_72 : Int32) => (nm (fun (x3_173 : Int32) (Vm_173 : FV) => (M_findRing_L20 f I x1 x2_2 k_20 n_20 x3_173 Vm_173)) (fun j173 => (if x5_72 = (I 9) then (j173 (x3_20 + (-1)) Vm_20) else if x3_20 < 0 ∨ 7 ≤ x3_20.toNatClampNeg then none else (nm (va_up Vm_20 32 (upd (Vm_20 32) x3_20.toNatClampNeg x5_72)) (fun V3 => (if x3_20 = (x2_2 - 1) then (M_findRing_L134 f x2_2 (fun (Vm_134 : FV) => some (x2_2, I, Vm_134)) f 0 V3) else if (x3_20 + 1) < 0 ∨ 7 ≤ (x3_20 + 1).toNatClampNeg then none else (nm (va_up V3 32 (upd (V3 32) (x3_20 + 1).toNatClampNeg (-9))) (fun V4 => (j173 (x3_20 + 1) V4)))))))))) f t0_70)) (fun j70 => (if ((Vm_20 32) x3_20.toNatClampNeg) = (-9) then (j70 0) else if x3_20 < 0 ∨ 7 ≤ x3_20.toNatClampNeg then none else ((j70 (((Vm_20 32) x3_20.toNatClampNeg) + 1)))))))) (fun j45 => (if x3_20 = 0 then (j45 x1) else if (x3_20 - 1) < 0 ∨ 7 ≤ (x3_20 - 1).toNatClampNeg then none else (if ((Vm_20 32) (x3_20 - 1).toNatClampNeg) < 0 ∨ 12 ≤ ((Vm_20 32) (x3_20 - 1).toNatClampNeg).toNatClampNeg then none else ((j45 ((Vm_20 10) ((Vm_20 32) (x3_20 - 1).toNatClampNeg).toNatClampNeg))))))))
def M_findRing_L2 (f : Nat) (I : FI) (x1 : Int32) (k_2 : FV → Option (Int32 × FI × FV)) : Nat → Int32 → FV → Option (Int32 × FI × FV)
  | 0, _, _ => none
  | n_2 + 1, x2_2, Vm_2 => (if (I 4) < x2_2 then (k_2 Vm_2) else nm (va_up Vm_2 32 (upd (Vm_2 32) (0 : Int32).toNatClampNeg (-9))) (fun V1 => (M_findRing_L20 f I x1 x2_2 (fun (Vm_20 : FV) => (M_findRing_L2 f I x1 k_2 n_2 (x2_2 + 1) Vm_20)) f 0 V1)))
def M_findRing (f : Nat) (x1 : Int32) (I : FI) (V : FV) : Option (Int32 × FI × FV) := (M_findRing_L2 f I x1 (fun (Vm_2 : FV) => some ((-9), I, Vm_2)) f 2 V)
abbrev rm_M_findRing : Room := { frames := 1, cells := 0, slots := 0, locals := 27 }
set_option maxHeartbeats 4000000 in
set_option maxRecDepth 100000 in
theorem v_M_findRing {l : Launch} {p : Program} {e : Env} {s : State} {m : MethodId} {args : Array Value} {below : List Frame} {meth : Method} {c : Code} {Q : State → Prop} {D : va_G} {cs : Nat → ClassId} {o : Nat} {h : Nat → Nat} {A : Nat → Prop} {I : FI} {V : FV} {x1 : Int32} {f : Nat} {out : Int32 × FI × FV} (hf : M_findRing f x1 I V = some out) (hx : p.tables.exec = Jvm.exec) (hb : c.code = cX10_findRing) (hml : c.maxLocals = 7) (hown : s.vm.findClass RX10 = some m.cls) (hts : ∀ w ∈ wsX10_findRing, w.before args s = true) (in_X10 : ∀ w ∈ u_ws RX10 TX10 38, w ∈ wsX10_findRing) (g_96 : (Cond.fieldLink RX10 96 "DaysLentModel" "people" "I").before args s = true) (g_77 : (Cond.fieldLink RX10 77 "DaysLentModel" "tried" "[I").before args s = true) (g_26 : (Cond.fieldLink RX10 26 "DaysLentModel" "owed" "[I").before args s = true) (g_135 : (Cond.fieldLink RX10 135 "DaysLentModel" "debts" "I").before args s = true) (w_mayGo_186 : CallW rm_M_findRing s args RX10 RX10 186 yX10_mayGo cX10_mayGo 8 (some .boolean) wsX10_mayGo rm_M_mayGo 0 0 5) (g_80 : (Cond.fieldLink RX10 80 "DaysLentModel" "ringOf" "[I").before args s = true) (hA : ∀ q : Nat, s.heap.size ≤ q → A q) (hP : va_P D vwCl (w_M cs o h I V) s.heap) (hD : va_D A (w_M cs o h I V)) (hK : va_K D vwCl (tyA cs) s) (hret : ∀ (v : Int32) (Im9 : FI) (Vm9 : FV) (H : Heap) (locs : List Loc) (pc : Nat) (ls : Array Slot), some (v, Im9, Vm9) = some out → va_P D vwCl (w_M cs o h Im9 Vm9) H → va_D A (w_M cs o h Im9 Vm9) → va_S A s.heap H locs → decode cX10_findRing pc = .ok (.ireturn, 1) → W p l e rm_M_findRing s m args below meth c H locs 0 0 Q (F0 m pc ls [.int v])) : ∀ ls : Array Slot, lv_has ls 7 [(0, .ref o), (1, .int x1)] → W p l e rm_M_findRing s m args below meth c s.heap [] 0 0 Q (F0 m 0 ls []) := by
  intro ls hl
  have hS : va_S A s.heap s.heap [] := va_S.rf
  unfold M_findRing at hf
  refine lv_iconst (v := 2) hx hb dX10_findRing_0 (by decide) ?_
  refine lv_istore_n (lv' := [(2, .int 2), (0, .ref o), (1, .int x1)]) hx hb dX10_findRing_1 rfl hl (by decide) rfl (fun ls hl => ?_)
  have L2 : ∀ (k_2 : FV → Option (Int32 × FI × FV)) (hk_2 : ∀ (Vm_2 : FV), k_2 Vm_2 = some out → ∀ (H : Heap) (locs : List Loc), va_P D vwCl (w_M cs o h I Vm_2) H → va_D A (w_M cs o h I Vm_2) → va_S A s.heap H locs → ∀ ls : Array Slot, lv_has ls 7 [] → W p l e rm_M_findRing s m args below meth c H locs 0 0 Q (F0 m 182 ls [])), ∀ (n_2 : Nat) (x2_2 : Int32) (Vm_2 : FV), M_findRing_L2 f I x1 k_2 n_2 x2_2 Vm_2 = some out → ∀ (H : Heap) (locs : List Loc), va_P D vwCl (w_M cs o h I Vm_2) H → va_D A (w_M cs o h I Vm_2) → va_S A s.heap H locs → ∀ ls : Array Slot, lv_has ls 7 [(0, .ref o), (1, .int x1), (2, .int x2_2)] → W p l e rm_M_findRing s m args below meth c H locs 0 0 Q (F0 m 2 ls []) := by
    intro k_2 hk_2 n_2
    induction n_2 with
    | zero => intro x2_2 Vm_2 hf; rw [M_findRing_L2] at hf; cases hf
    | succ n_2 ih_2 =>
      intro x2_2 Vm_2 hf H locs hP hD hS ls hl
      rw [M_findRing_L2] at hf
      refine lv_iload_n hx hb dX10_findRing_2 rfl (lv_at hl 2 rfl) ?_
      refine lv_aload_n hx hb dX10_findRing_3 rfl (lv_at hl 0 rfl) ?_
      refine va_get (D := D) (ci := 10) (v := .int (I 4)) (C := RX10) (T := TX10) (N := 38) hx hb hts in_X10 hown hK hP 0 rfl rfl 4 (by decide) g_96 (fun _ h9 => h9) rfl dX10_findRing_4 ?_
      refine lv_icmp_gt (tgt := 182) hx hb dX10_findRing_7 (by decide) (fun c7 => ?_) (fun c7 => ?_)
      · replace hf := ip c7 hf
        exact hk_2 Vm_2 hf _ _ hP hD hS _ (lv_sub hl [] rfl)
      · replace hf := im c7 hf
        refine lv_iconst (v := 0) hx hb dX10_findRing_10 (by decide) ?_
        refine lv_istore_n (lv' := [(3, .int 0), (0, .ref o), (1, .int x1), (2, .int x2_2)]) hx hb dX10_findRing_11 rfl hl (by decide) rfl (fun ls hl => ?_)
        refine lv_aload_n hx hb dX10_findRing_12 rfl (lv_at hl 1 rfl) ?_
        refine va_get (D := D) (ci := 10) (v := .ref (h 32)) (C := RX10) (T := TX10) (N := 38) hx hb hts in_X10 hown hK hP 0 rfl rfl 32 (by decide) g_77 (fun _ h9 => h9) rfl dX10_findRing_13 ?_
        refine lv_iconst (v := 0) hx hb dX10_findRing_16 (by decide) ?_
        refine lv_bipush (v := (-9)) hx hb dX10_findRing_17 (by decide) ?_
        refine va_iast (f := (Vm_2 32)) hx hb hK hP hD hS 23 0 rfl rfl (by unfold vp_in; decide) dX10_findRing_19 (fun H locs hP hD hS => ?_)
        obtain ⟨V1, eV1, hf⟩ := nme hf
        have hP : va_P D vwCl (w_M cs o h I V1) H := by rw [eV1]; exact hP
        have hD : va_D A (w_M cs o h I V1) := by rw [eV1]; exact hD
        have L20 : ∀ (k_20 : FV → Option (Int32 × FI × FV)) (hk_20 : ∀ (Vm_20 : FV), k_20 Vm_20 = some out → ∀ (H : Heap) (locs : List Loc), va_P D vwCl (w_M cs o h I Vm_20) H → va_D A (w_M cs o h I Vm_20) → va_S A s.heap H locs → ∀ ls : Array Slot, lv_has ls 7 [(0, .ref o), (1, .int x1), (2, .int x2_2)] → W p l e rm_M_findRing s m args below meth c H locs 0 0 Q (F0 m 176 ls [])), ∀ (n_20 : Nat) (x3_20 : Int32) (Vm_20 : FV), M_findRing_L20 f I x1 x2_2 k_20 n_20 x3_20 Vm_20 = some out → ∀ (H : Heap) (locs : List Loc), va_P D vwCl (w_M cs o h I Vm_20) H → va_D A (w_M cs o h I Vm_20) → va_S A s.heap H locs → ∀ ls : Array Slot, lv_has ls 7 [(0, .ref o), (1, .int x1), (2, .int x2_2), (3, .int x3_20)] → W p l e rm_M_findRing s m args below meth c H locs 0 0 Q (F0 m 20 ls []) := by
          intro k_20 hk_20 n_20
          induction n_20 with
          | zero => intro x3_20 Vm_20 hf; rw [M_findRing_L20] at hf; cases hf
          | succ n_20 ih_20 =>
            intro x3_20 Vm_20 hf H locs hP hD hS ls hl
            rw [M_findRing_L20] at hf
            refine lv_iload_n hx hb dX10_findRing_20 rfl (lv_at hl 3 rfl) ?_
            refine lv_if_lt (tgt := 176) hx hb dX10_findRing_21 (by decide) (fun c21 => ?_) (fun c21 => ?_)
            · replace hf := ip c21 hf
              exact hk_20 Vm_20 hf _ _ hP hD hS _ (lv_sub hl [0, 1, 2] rfl)
            · replace hf := im c21 hf
              refine lv_iload_n hx hb dX10_findRing_24 rfl (lv_at hl 3 rfl) ?_
              obtain ⟨j45, ej45, hf⟩ := nme hf
              have J45 : ∀ (t0_45 : Int32), j45 t0_45 = some out → ∀ (H : Heap) (locs : List Loc), va_P D vwCl (w_M cs o h I Vm_20) H → va_D A (w_M cs o h I Vm_20) → va_S A s.heap H locs → ∀ ls : Array Slot, lv_has ls 7 [(0, .ref o), (1, .int x1), (2, .int x2_2), (3, .int x3_20)] → W p l e rm_M_findRing s m args below meth c H locs 0 0 Q (F0 m 45 ls [.int t0_45]) := by
                intro t0_45 hf H locs hP hD hS ls hl
                rw [ej45] at hf
                refine lv_istore (lv' := [(4, .int t0_45), (0, .ref o), (1, .int x1), (2, .int x2_2), (3, .int x3_20)]) hx hb dX10_findRing_45 hl (by decide) rfl (fun ls hl => ?_)
                refine lv_aload_n hx hb dX10_findRing_47 rfl (lv_at hl 1 rfl) ?_
                refine va_get (D := D) (ci := 10) (v := .ref (h 32)) (C := RX10) (T := TX10) (N := 38) hx hb hts in_X10 hown hK hP 0 rfl rfl 32 (by decide) g_77 (fun _ h9 => h9) rfl dX10_findRing_48 ?_
                refine lv_iload_n hx hb dX10_findRing_51 rfl (lv_at hl 4 rfl) ?_
                obtain ⟨c52, hf⟩ := gd hf
                refine va_iald (f := (Vm_20 32)) hx hb hK hP 23 0 rfl rfl c52 dX10_findRing_52 ?_
                refine lv_bipush (v := (-9)) hx hb dX10_findRing_53 (by decide) ?_
                obtain ⟨j70, ej70, hf⟩ := nme hf
                have J70 : ∀ (t0_70 : Int32), j70 t0_70 = some out → ∀ (H : Heap) (locs : List Loc), va_P D vwCl (w_M cs o h I Vm_20) H → va_D A (w_M cs o h I Vm_20) → va_S A s.heap H locs → ∀ ls : Array Slot, lv_has ls 7 [(0, .ref o), (1, .int x1), (2, .int x2_2), (3, .int x3_20), (4, .int t0_45)] → W p l e rm_M_findRing s m args below meth c H locs 0 0 Q (F0 m 70 ls [.int t0_70]) := by
                  intro t0_70 hf H locs hP hD hS ls hl
                  rw [ej70] at hf
                  refine lv_istore (lv' := [(5, .int t0_70), (0, .ref o), (1, .int x1), (2, .int x2_2), (3, .int x3_20), (4, .int t0_45)]) hx hb dX10_findRing_70 hl (by decide) rfl (fun ls hl => ?_)
                  have L72 : ∀ (k_72 : Int32 → Option (Int32 × FI × FV)) (hk_72 : ∀ (x5_72 : Int32), k_72 x5_72 = some out → ∀ (H : Heap) (locs : List Loc), va_P D vwCl (w_M cs o h I Vm_20) H → va_D A (w_M cs o h I Vm_20) → va_S A s.heap H locs → ∀ ls : Array Slot, lv_has ls 7 [(0, .ref o), (1, .int x1), (2, .int x2_2), (3, .int x3_20), (5, .int x5_72)] → W p l e rm_M_findRing s m args below meth c H locs 0 0 Q (F0 m 101 ls [])), ∀ (n_72 : Nat) (x5_72 : Int32), M_findRing_L72 f I x1 t0_45 x3_20 x2_2 Vm_20 k_72 n_72 x5_72 = some out → ∀ (H : Heap) (locs : List Loc), va_P D vwCl (w_M cs o h I Vm_20) H → va_D A (w_M cs o h I Vm_20) → va_S A s.heap H locs → ∀ ls : Array Slot, lv_has ls 7 [(0, .ref o), (1, .int x1), (2, .int x2_2), (3, .int x3_20), (4, .int t0_45), (5, .int x5_72)] → W p l e rm_M_findRing s m args below meth c H locs 0 0 Q (F0 m 72 ls []) := by
                    intro k_72 hk_72 n_72
                    induction n_72 with
                    | zero => intro x5_72 hf; rw [M_findRing_L72] at hf; cases hf
                    | succ n_72 ih_72 =>
                      intro x5_72 hf H locs hP hD hS ls hl
                      rw [M_findRing_L72] at hf
                      refine lv_iload hx hb dX10_findRing_72 (lv_at hl 5 rfl) ?_
                      refine lv_aload_n hx hb dX10_findRing_74 rfl (lv_at hl 0 rfl) ?_
                      refine va_get (D := D) (ci := 10) (v := .int (I 9)) (C := RX10) (T := TX10) (N := 38) hx hb hts in_X10 hown hK hP 0 rfl rfl 9 (by decide) g_135 (fun _ h9 => h9) rfl dX10_findRing_75 ?_
                      refine lv_icmp_ge (tgt := 101) hx hb dX10_findRing_78 (by decide) (fun c78 => ?_) (fun c78 => ?_)
                      · replace hf := ip c78 hf
                        exact hk_72 x5_72 hf _ _ hP hD hS _ (lv_sub hl [0, 1, 2, 3, 5] rfl)
                      · replace hf := im c78 hf
                        refine lv_aload_n hx hb dX10_findRing_81 rfl (lv_at hl 0 rfl) ?_
                        refine lv_iload_n hx hb dX10_findRing_82 rfl (lv_at hl 1 rfl) ?_
                        refine lv_iload hx hb dX10_findRing_83 (lv_at hl 4 rfl) ?_
                        refine lv_iload hx hb dX10_findRing_85 (lv_at hl 5 rfl) ?_
                        refine lv_iload_n hx hb dX10_findRing_87 rfl (lv_at hl 3 rfl) ?_
                        refine lv_iload_n hx hb dX10_findRing_88 rfl (lv_at hl 2 rfl) ?_
                        obtain ⟨zr2, qr2, hf⟩ := bd1 hf
                        refine vp_callSi (va_Run.run (va_runV (As := [.int x1, .int t0_45, .int x5_72, .int x3_20, .int x2_2]) (rest := []) ⟨hx, hb, hml, hown, hts⟩ (c_M_mayGo l D cs o h I Vm_20 x1 t0_45 x5_72 x3_20 x2_2 f zr2 qr2) w_mayGo_186 ⟨xR_moved, va_recv hK hP (ci := 10) (q0 := 0) rfl rfl, fun U hU hW => ⟨rfl, by rw [hU]; exact hP, va_K.moved hW.alike hK⟩⟩ rfl rfl hl.1 rfl (lv_room (Nat.le_of_ble_eq_true rfl)) dX10_findRing_89 ⟨Nat.zero_le _, Nat.zero_le _⟩)) (fun r2 er2 => ?_)
                        rw [er2]
                        refine lv_if_ne (tgt := 101) hx hb dX10_findRing_92 (by decide) (fun c92 => ?_) (fun c92 => ?_)
                        · replace hf := im c92 hf
                          exact hk_72 x5_72 hf _ _ hP hD hS _ (lv_sub hl [0, 1, 2, 3, 5] rfl)
                        · replace hf := ip c92 hf
                          refine lv_iinc (v := (x5_72 + 1)) (lv' := [(5, .int (x5_72 + 1)), (0, .ref o), (1, .int x1), (2, .int x2_2), (3, .int x3_20), (4, .int t0_45)]) hx hb dX10_findRing_95 hl (k := 5) rfl (by rfl) (by decide) rfl (fun ls hl => ?_)
                          refine lv_goto (tgt := 72) hx hb dX10_findRing_98 (by decide) ?_
                          exact ih_72 (x5_72 + 1) hf _ _ hP hD hS _ (lv_sub hl [1, 2, 3, 4, 5, 0] rfl)
                  refine L72 _ (fun x5_72 hf H locs hP hD hS ls hl => ?_) f t0_70 hf _ _ hP hD hS _ (lv_sub hl [1, 2, 3, 4, 5, 0] rfl)
                  refine lv_iload hx hb dX10_findRing_101 (lv_at hl 4 rfl) ?_
                  refine lv_aload_n hx hb dX10_findRing_103 rfl (lv_at hl 0 rfl) ?_
                  refine va_get (D := D) (ci := 10) (v := .int (I 9)) (C := RX10) (T := TX10) (N := 38) hx hb hts in_X10 hown hK hP 0 rfl rfl 9 (by decide) g_135 (fun _ h9 => h9) rfl dX10_findRing_104 ?_
                  obtain ⟨j173, ej173, hf⟩ := nme hf
                  have J173 : ∀ (x3_173 : Int32) (Vm_173 : FV), j173 x3_173 Vm_173 = some out → ∀ (H : Heap) (locs : List Loc), va_P D vwCl (w_M cs o h I Vm_173) H → va_D A (w_M cs o h I Vm_173) → va_S A s.heap H locs → ∀ ls : Array Slot, lv_has ls 7 [(0, .ref o), (1, .int x1), (2, .int x2_2), (3, .int x3_173)] → W p l e rm_M_findRing s m args below meth c H locs 0 0 Q (F0 m 173 ls []) := by
                    intro x3_173 Vm_173 hf H locs hP hD hS ls hl
                    rw [ej173] at hf
                    refine lv_goto (tgt := 20) hx hb dX10_findRing_173 (by decide) ?_
                    exact ih_20 x3_173 Vm_173 hf _ _ hP hD hS _ (lv_sub hl [0, 1, 2, 3] rfl)
                  refine lv_icmp_ne (tgt := 116) hx hb dX10_findRing_107 (by decide) (fun c107 => ?_) (fun c107 => ?_)
                  · replace hf := im c107 hf
                    refine lv_aload_n hx hb dX10_findRing_116 rfl (lv_at hl 0 rfl) ?_
                    refine va_get (D := D) (ci := 10) (v := .ref (h 32)) (C := RX10) (T := TX10) (N := 38) hx hb hts in_X10 hown hK hP 0 rfl rfl 32 (by decide) g_77 (fun _ h9 => h9) rfl dX10_findRing_117 ?_
                    refine lv_iload_n hx hb dX10_findRing_120 rfl (lv_at hl 3 rfl) ?_
                    refine lv_iload hx hb dX10_findRing_121 (lv_at hl 4 rfl) ?_
                    obtain ⟨c123, hf⟩ := gd hf
                    refine va_iast (f := (Vm_20 32)) hx hb hK hP hD hS 23 0 rfl rfl c123 dX10_findRing_123 (fun H locs hP hD hS => ?_)
                    obtain ⟨V3, eV3, hf⟩ := nme hf
                    have hP : va_P D vwCl (w_M cs o h I V3) H := by rw [eV3]; exact hP
                    have hD : va_D A (w_M cs o h I V3) := by rw [eV3]; exact hD
                    refine lv_iload_n hx hb dX10_findRing_124 rfl (lv_at hl 3 rfl) ?_
                    refine lv_iload_n hx hb dX10_findRing_125 rfl (lv_at hl 2 rfl) ?_
                    refine lv_iconst (v := 1) hx hb dX10_findRing_126 (by decide) ?_
                    refine lv_isub hx hb dX10_findRing_127 ?_
                    refine lv_icmp_ne (tgt := 162) hx hb dX10_findRing_128 (by decide) (fun c128 => ?_) (fun c128 => ?_)
                    · replace hf := im c128 hf
                      refine lv_iinc (v := (x3_20 + 1)) (lv' := [(3, .int (x3_20 + 1)), (0, .ref o), (1, .int x1), (2, .int x2_2), (5, .int x5_72)]) hx hb dX10_findRing_162 hl (k := 3) rfl (by rfl) (by decide) rfl (fun ls hl => ?_)
                      refine lv_aload_n hx hb dX10_findRing_165 rfl (lv_at hl 1 rfl) ?_
                      refine va_get (D := D) (ci := 10) (v := .ref (h 32)) (C := RX10) (T := TX10) (N := 38) hx hb hts in_X10 hown hK hP 0 rfl rfl 32 (by decide) g_77 (fun _ h9 => h9) rfl dX10_findRing_166 ?_
                      refine lv_iload_n hx hb dX10_findRing_169 rfl (lv_at hl 0 rfl) ?_
                      refine lv_bipush (v := (-9)) hx hb dX10_findRing_170 (by decide) ?_
                      obtain ⟨c172, hf⟩ := gd hf
                      refine va_iast (f := (V3 32)) hx hb hK hP hD hS 23 0 rfl rfl c172 dX10_findRing_172 (fun H locs hP hD hS => ?_)
                      obtain ⟨V4, eV4, hf⟩ := nme hf
                      have hP : va_P D vwCl (w_M cs o h I V4) H := by rw [eV4]; exact hP
                      have hD : va_D A (w_M cs o h I V4) := by rw [eV4]; exact hD
                      exact J173 (x3_20 + 1) V4 hf _ _ hP hD hS _ (lv_sub hl [1, 2, 3, 0] rfl)
                    · replace hf := ip c128 hf
                      refine lv_iconst (v := 0) hx hb dX10_findRing_131 (by decide) ?_
                      refine lv_istore (lv' := [(6, .int 0), (0, .ref o), (1, .int x1), (2, .int x2_2), (3, .int x3_20), (5, .int x5_72)]) hx hb dX10_findRing_132 hl (by decide) rfl (fun ls hl => ?_)
                      have L134 : ∀ (k_134 : FV → Option (Int32 × FI × FV)) (hk_134 : ∀ (Vm_134 : FV), k_134 Vm_134 = some out → ∀ (H : Heap) (locs : List Loc), va_P D vwCl (w_M cs o h I Vm_134) H → va_D A (w_M cs o h I Vm_134) → va_S A s.heap H locs → ∀ ls : Array Slot, lv_has ls 7 [(2, .int x2_2)] → W p l e rm_M_findRing s m args below meth c H locs 0 0 Q (F0 m 160 ls [])), ∀ (n_134 : Nat) (x6_134 : Int32) (Vm_134 : FV), M_findRing_L134 f x2_2 k_134 n_134 x6_134 Vm_134 = some out → ∀ (H : Heap) (locs : List Loc), va_P D vwCl (w_M cs o h I Vm_134) H → va_D A (w_M cs o h I Vm_134) → va_S A s.heap H locs → ∀ ls : Array Slot, lv_has ls 7 [(0, .ref o), (2, .int x2_2), (6, .int x6_134)] → W p l e rm_M_findRing s m args below meth c H locs 0 0 Q (F0 m 134 ls []) := by
                        intro k_134 hk_134 n_134
                        induction n_134 with
                        | zero => intro x6_134 Vm_134 hf; rw [M_findRing_L134] at hf; cases hf
                        | succ n_134 ih_134 =>
                          intro x6_134 Vm_134 hf H locs hP hD hS ls hl
                          rw [M_findRing_L134] at hf
                          refine lv_iload hx hb dX10_findRing_134 (lv_at hl 2 rfl) ?_
                          refine lv_iload_n hx hb dX10_findRing_136 rfl (lv_at hl 1 rfl) ?_
                          refine lv_icmp_ge (tgt := 160) hx hb dX10_findRing_137 (by decide) (fun c137 => ?_) (fun c137 => ?_)
                          · replace hf := ip c137 hf
                            exact hk_134 Vm_134 hf _ _ hP hD hS _ (lv_sub hl [1] rfl)
                          · replace hf := im c137 hf
                            refine lv_aload_n hx hb dX10_findRing_140 rfl (lv_at hl 0 rfl) ?_
                            refine va_get (D := D) (ci := 10) (v := .ref (h 33)) (C := RX10) (T := TX10) (N := 38) hx hb hts in_X10 hown hK hP 0 rfl rfl 33 (by decide) g_80 (fun _ h9 => h9) rfl dX10_findRing_141 ?_
                            refine lv_iload hx hb dX10_findRing_144 (lv_at hl 2 rfl) ?_
                            refine lv_aload_n hx hb dX10_findRing_146 rfl (lv_at hl 0 rfl) ?_
                            refine va_get (D := D) (ci := 10) (v := .ref (h 32)) (C := RX10) (T := TX10) (N := 38) hx hb hts in_X10 hown hK hP 0 rfl rfl 32 (by decide) g_77 (fun _ h9 => h9) rfl dX10_findRing_147 ?_
                            refine lv_iload hx hb dX10_findRing_150 (lv_at hl 2 rfl) ?_
                            obtain ⟨c152, hf⟩ := gd hf
                            refine va_iald (f := (Vm_134 32)) hx hb hK hP 23 0 rfl rfl c152 dX10_findRing_152 ?_
                            obtain ⟨c153, hf⟩ := gd hf
                            refine va_iast (f := (Vm_134 33)) hx hb hK hP hD hS 24 0 rfl rfl c153 dX10_findRing_153 (fun H locs hP hD hS => ?_)
                            obtain ⟨V5, eV5, hf⟩ := nme hf
                            have hP : va_P D vwCl (w_M cs o h I V5) H := by rw [eV5]; exact hP
                            have hD : va_D A (w_M cs o h I V5) := by rw [eV5]; exact hD
                            refine lv_iinc (v := (x6_134 + 1)) (lv' := [(6, .int (x6_134 + 1)), (0, .ref o), (2, .int x2_2)]) hx hb dX10_findRing_154 hl (k := 2) rfl (by rfl) (by decide) rfl (fun ls hl => ?_)
                            refine lv_goto (tgt := 134) hx hb dX10_findRing_157 (by decide) ?_
                            exact ih_134 (x6_134 + 1) V5 hf _ _ hP hD hS _ (lv_sub hl [1, 2, 0] rfl)
                      refine L134 _ (fun Vm_134 hf H locs hP hD hS ls hl => ?_) f 0 V3 hf _ _ hP hD hS _ (lv_sub hl [1, 3, 0] rfl)
                      refine lv_iload_n hx hb dX10_findRing_160 rfl (lv_at hl 0 rfl) ?_
                      exact hret x2_2 I Vm_134 _ _ 161 _ hf hP hD hS dX10_findRing_161
                  · replace hf := ip c107 hf
                    refine lv_iinc (v := (x3_20 + (-1))) (lv' := [(3, .int (x3_20 + (-1))), (0, .ref o), (1, .int x1), (2, .int x2_2), (5, .int x5_72)]) hx hb dX10_findRing_110 hl (k := 3) rfl (by rfl) (by decide) rfl (fun ls hl => ?_)
                    refine lv_goto (tgt := 173) hx hb dX10_findRing_113 (by decide) ?_
                    exact J173 (x3_20 + (-1)) Vm_20 hf _ _ hP hD hS _ (lv_sub hl [1, 2, 3, 0] rfl)
                refine lv_icmp_ne (tgt := 62) hx hb dX10_findRing_55 (by decide) (fun c55 => ?_) (fun c55 => ?_)
                · replace hf := im c55 hf
                  refine lv_aload_n hx hb dX10_findRing_62 rfl (lv_at hl 1 rfl) ?_
                  refine va_get (D := D) (ci := 10) (v := .ref (h 32)) (C := RX10) (T := TX10) (N := 38) hx hb hts in_X10 hown hK hP 0 rfl rfl 32 (by decide) g_77 (fun _ h9 => h9) rfl dX10_findRing_63 ?_
                  refine lv_iload_n hx hb dX10_findRing_66 rfl (lv_at hl 4 rfl) ?_
                  obtain ⟨c67, hf⟩ := gd hf
                  refine va_iald (f := (Vm_20 32)) hx hb hK hP 23 0 rfl rfl c67 dX10_findRing_67 ?_
                  refine lv_iconst (v := 1) hx hb dX10_findRing_68 (by decide) ?_
                  refine lv_iadd hx hb dX10_findRing_69 ?_
                  exact J70 (((Vm_20 32) x3_20.toNatClampNeg) + 1) hf _ _ hP hD hS _ (lv_sub hl [1, 2, 3, 4, 0] rfl)
                · replace hf := ip c55 hf
                  refine lv_iconst (v := 0) hx hb dX10_findRing_58 (by decide) ?_
                  refine lv_goto (tgt := 70) hx hb dX10_findRing_59 (by decide) ?_
                  exact J70 0 hf _ _ hP hD hS _ (lv_sub hl [1, 2, 3, 4, 0] rfl)
              refine lv_if_ne (tgt := 32) hx hb dX10_findRing_25 (by decide) (fun c25 => ?_) (fun c25 => ?_)
              · replace hf := im c25 hf
                refine lv_aload_n hx hb dX10_findRing_32 rfl (lv_at hl 0 rfl) ?_
                refine va_get (D := D) (ci := 10) (v := .ref (h 10)) (C := RX10) (T := TX10) (N := 38) hx hb hts in_X10 hown hK hP 0 rfl rfl 10 (by decide) g_26 (fun _ h9 => h9) rfl dX10_findRing_33 ?_
                refine lv_aload_n hx hb dX10_findRing_36 rfl (lv_at hl 0 rfl) ?_
                refine va_get (D := D) (ci := 10) (v := .ref (h 32)) (C := RX10) (T := TX10) (N := 38) hx hb hts in_X10 hown hK hP 0 rfl rfl 32 (by decide) g_77 (fun _ h9 => h9) rfl dX10_findRing_37 ?_
                refine lv_iload_n hx hb dX10_findRing_40 rfl (lv_at hl 3 rfl) ?_
                refine lv_iconst (v := 1) hx hb dX10_findRing_41 (by decide) ?_
                refine lv_isub hx hb dX10_findRing_42 ?_
                obtain ⟨c43, hf⟩ := gd hf
                refine va_iald (f := (Vm_20 32)) hx hb hK hP 23 0 rfl rfl c43 dX10_findRing_43 ?_
                obtain ⟨c44, hf⟩ := gd hf
                refine va_iald (f := (Vm_20 10)) hx hb hK hP 6 0 rfl rfl c44 dX10_findRing_44 ?_
                exact J45 ((Vm_20 10) ((Vm_20 32) (x3_20 - 1).toNatClampNeg).toNatClampNeg) hf _ _ hP hD hS _ (lv_sub hl [0, 1, 2, 3] rfl)
              · replace hf := ip c25 hf
                refine lv_iload_n hx hb dX10_findRing_28 rfl (lv_at hl 1 rfl) ?_
                refine lv_goto (tgt := 45) hx hb dX10_findRing_29 (by decide) ?_
                exact J45 x1 hf _ _ hP hD hS _ (lv_sub hl [0, 1, 2, 3] rfl)
        refine L20 _ (fun Vm_20 hf H locs hP hD hS ls hl => ?_) f 0 V1 hf _ _ hP hD hS _ (lv_sub hl [1, 2, 3, 0] rfl)
        refine lv_iinc (v := (x2_2 + 1)) (lv' := [(2, .int (x2_2 + 1)), (0, .ref o), (1, .int x1)]) hx hb dX10_findRing_176 hl (k := 2) rfl (by rfl) (by decide) rfl (fun ls hl => ?_)
        refine lv_goto (tgt := 2) hx hb dX10_findRing_179 (by decide) ?_
        exact ih_2 (x2_2 + 1) Vm_20 hf _ _ hP hD hS _ (lv_sub hl [1, 2, 0] rfl)
  refine L2 _ (fun Vm_2 hf H locs hP hD hS ls hl => ?_) f 2 V hf _ _ hP hD hS _ (lv_sub hl [1, 2, 0] rfl)
  refine lv_bipush (v := (-9)) hx hb dX10_findRing_182 (by decide) ?_
  exact hret (-9) I Vm_2 _ _ 184 _ hf hP hD hS dX10_findRing_184
set_option maxHeartbeats 4000000 in
set_option maxRecDepth 100000 in
theorem c_M_findRing (l : Launch) (D : va_G) (cs : Nat → ClassId) (o : Nat) (h : Nat → Nat) (sz : Nat) (I : FI) (V : FV) (x1 : Int32) (f : Nat) (out : Int32 × FI × FV) (hf : M_findRing f x1 I V = some out) : Met l yX10_findRing wsX10_findRing rm_M_findRing (va_Pc [.ref o, .int x1] (xP D cs (w_M cs o h I V) sz)) (va_Qi (fun r u => (r, u) = out) (fun (u : FI × FV) t => xA D cs (va_A (w_M cs o h I V) sz) (w_M cs o h u.1 u.2) t) (va_A (w_M cs o h I V) sz)) 0 0 (va_A (w_M cs o h I V) sz) := by
  refine Met.ofW (cc := cX10_findRing) (maxL := 7) (ret := (some .int)) (by decide) rfl ?_
  intro p e s m args below meth c s₁ B hml hv
  obtain ⟨ha, hsz, hP, hK, hD0⟩ := hv
  have hx := B.exec
  have hb := B.bytes
  have hr := B.returns
  have hts := atoms_spec (ws := wsX10_findRing) B.pre
  have hown : s.vm.findClass RX10 = some m.cls := findClass_of_methodNamed B.named
  have hlocks := B.notSynchronized
  have in_X10 : ∀ w ∈ u_ws RX10 TX10 38, w ∈ wsX10_findRing := fun w h => List.mem_cons_of_mem _ (List.mem_append_right _ h)
  have g_96 := hts (Cond.fieldLink RX10 96 "DaysLentModel" "people" "I") (by decide +kernel)
  have g_77 := hts (Cond.fieldLink RX10 77 "DaysLentModel" "tried" "[I") (by decide +kernel)
  have g_26 := hts (Cond.fieldLink RX10 26 "DaysLentModel" "owed" "[I") (by decide +kernel)
  have g_135 := hts (Cond.fieldLink RX10 135 "DaysLentModel" "debts" "I") (by decide +kernel)
  have w_mayGo_186 := cwV (R := rm_M_findRing) (s := s) (args := args) (rm := rm_M_mayGo) (mc := 0) (ms := 0) 5 hts gX10_findRing_X10_mayGo rfl rfl rfl (by decide +kernel) ⟨Nat.le_of_ble_eq_true rfl, Nat.le_of_ble_eq_true rfl⟩
  have g_80 := hts (Cond.fieldLink RX10 80 "DaysLentModel" "ringOf" "[I") (by decide +kernel)
  subst hsz
  have hD := hD0.self (sz := s.heap.size)
  generalize hAe : va_A (w_M cs o h I V) s.heap.size = A at hD ⊢
  have hA : ∀ q : Nat, s.heap.size ≤ q → A q := fun q h => by rw [← hAe]; exact Or.inr h
  have hl := lv_entry ([.ref o, .int x1]) (n := 7) (Nat.le_of_ble_eq_true rfl)
  rw [show entryFrame m args 7 = entryFrame m ([.ref o, .int x1] : List Value).toArray 7 from by rw [ha], lg_entry_eq]
  generalize (lg_sl ([.ref o, .int x1]) ++ List.replicate (7 - (lg_sl ([.ref o, .int x1])).length) Slot.unset).toArray = ls at hl ⊢
  generalize hQ : MQ below (va_Qi (fun r u => (r, u) = out) (fun (u : FI × FV) t => xA D cs A (w_M cs o h u.1 u.2) t) A) args s 0 0 A = Q
  have hret : ∀ (v : Int32) (Im9 : FI) (Vm9 : FV) (H : Heap) (locs : List Loc) (pc : Nat) (ls : Array Slot), some (v, Im9, Vm9) = some out → va_P D vwCl (w_M cs o h Im9 Vm9) H → va_D A (w_M cs o h Im9 Vm9) → va_S A s.heap H locs → decode cX10_findRing pc = .ok (.ireturn, 1) → W p l e rm_M_findRing s m args below meth c H locs 0 0 Q (F0 m pc ls [.int v]) := by
    intro v Im9 Vm9 H locs pc ls hf hP hD hS hd
    rw [← hQ]
    exact W.iret (v := v) hx hb hr (fun t ht hW => ⟨⟨v, (Im9, Vm9), rfl, Option.some.inj hf, by show va_P D vwCl (w_M cs o h Im9 Vm9) t.heap; rw [ht]; exact hP, va_K.moved hW.alike hK, hD⟩, hS.F ht⟩) hS.2.2 hd
  exact v_M_findRing hf hx hb hml hown hts in_X10 g_96 g_77 g_26 g_135 w_mayGo_186 g_80 hA hP hD hK hret ls hl
def M_ring (f : Nat) (x1 : Int32) (I : FI) (V : FV) : Option (Int32 × FI × FV) := nm (va_up I 0 0) (fun I1 => ob1 (M_noOne f x1 I1 V) (fun zr2 => (if zr2 = 0 then ob3 (M_findRing f x1 I1 V) (fun zr3 I4 V5 => some (zr3, I4, V5)) else some ((-1), I1, V))))
abbrev rm_M_ring : Room := { frames := 2, cells := 0, slots := 0, locals := 53 }
set_option maxHeartbeats 4000000 in
set_option maxRecDepth 100000 in
theorem v_M_ring {l : Launch} {p : Program} {e : Env} {s : State} {m : MethodId} {args : Array Value} {below : List Frame} {meth : Method} {c : Code} {Q : State → Prop} {D : va_G} {cs : Nat → ClassId} {o : Nat} {h : Nat → Nat} {A : Nat → Prop} {I : FI} {V : FV} {x1 : Int32} {f : Nat} {out : Int32 × FI × FV} (hf : M_ring f x1 I V = some out) (hx : p.tables.exec = Jvm.exec) (hb : c.code = cX10_ring) (hml : c.maxLocals = 2) (hown : s.vm.findClass RX10 = some m.cls) (hts : ∀ w ∈ wsX10_ring, w.before args s = true) (in_X10 : ∀ w ∈ u_ws RX10 TX10 38, w ∈ wsX10_ring) (g_92 : (Cond.fieldLink RX10 92 "DaysLentModel" "thrown" "I").before args s = true) (w_noOne_151 : CallW rm_M_ring s args RX10 RX10 151 yX10_noOne cX10_noOne 2 (some .boolean) wsX10_noOne rm_M_noOne 0 0 1) (w_findRing_190 : CallW rm_M_ring s args RX10 RX10 190 yX10_findRing cX10_findRing 7 (some .int) wsX10_findRing rm_M_findRing 0 0 1) (hA : ∀ q : Nat, s.heap.size ≤ q → A q) (hP : va_P D vwCl (w_M cs o h I V) s.heap) (hD : va_D A (w_M cs o h I V)) (hK : va_K D vwCl (tyA cs) s) (hret : ∀ (v : Int32) (Im9 : FI) (Vm9 : FV) (H : Heap) (locs : List Loc) (pc : Nat) (ls : Array Slot), some (v, Im9, Vm9) = some out → va_P D vwCl (w_M cs o h Im9 Vm9) H → va_D A (w_M cs o h Im9 Vm9) → va_S A s.heap H locs → decode cX10_ring pc = .ok (.ireturn, 1) → W p l e rm_M_ring s m args below meth c H locs 0 0 Q (F0 m pc ls [.int v])) : ∀ ls : Array Slot, lv_has ls 2 [(0, .ref o), (1, .int x1)] → W p l e rm_M_ring s m args below meth c s.heap [] 0 0 Q (F0 m 0 ls []) := by
  intro ls hl
  have hS : va_S A s.heap s.heap [] := va_S.rf
  unfold M_ring at hf
  refine lv_aload_n hx hb dX10_ring_0 rfl (lv_at hl 0 rfl) ?_
  refine lv_iconst (v := 0) hx hb dX10_ring_1 (by decide) ?_
  refine va_put (D := D) (ci := 10) (v := .int 0) (ty := .int) (C := RX10) (T := TX10) (N := 38) hx hb hts in_X10 tyX10 tyX10_ok nmX10 hown hK hP hD hS 0 rfl rfl 0 (by decide) g_92 (fun _ h9 => h9) rfl (by decide +kernel) rfl rfl (Nat.le_of_ble_eq_true rfl) dX10_ring_2 (fun H locs hP hD hS => ?_)
  obtain ⟨I1, eI1, hf⟩ := nme hf
  have hP : va_P D vwCl (w_M cs o h I1 V) H := by rw [eI1]; exact hP
  have hD : va_D A (w_M cs o h I1 V) := by rw [eI1]; exact hD
  refine lv_aload_n hx hb dX10_ring_5 rfl (lv_at hl 0 rfl) ?_
  refine lv_iload_n hx hb dX10_ring_6 rfl (lv_at hl 1 rfl) ?_
  obtain ⟨zr2, qr2, hf⟩ := bd1 hf
  refine vp_callSi (va_Run.run (va_runV (As := [.int x1]) (rest := []) ⟨hx, hb, hml, hown, hts⟩ (c_M_noOne l D cs o h I1 V x1 f zr2 qr2) w_noOne_151 ⟨xR_moved, va_recv hK hP (ci := 10) (q0 := 0) rfl rfl, fun U hU hW => ⟨rfl, by rw [hU]; exact hP, va_K.moved hW.alike hK⟩⟩ rfl rfl hl.1 rfl (lv_room (Nat.le_of_ble_eq_true rfl)) dX10_ring_7 ⟨Nat.zero_le _, Nat.zero_le _⟩)) (fun r2 er2 => ?_)
  rw [er2]
  refine lv_if_eq (tgt := 17) hx hb dX10_ring_10 (by decide) (fun c10 => ?_) (fun c10 => ?_)
  · replace hf := ip c10 hf
    refine lv_aload_n hx hb dX10_ring_17 rfl (lv_at hl 0 rfl) ?_
    refine lv_iload_n hx hb dX10_ring_18 rfl (lv_at hl 1 rfl) ?_
    obtain ⟨zr3, I4, V5, qr3, hf⟩ := bd3 hf
    have hFc := xfree hD hS hA
    refine va_calli (va_runV (As := [.int x1]) (rest := []) ⟨hx, hb, hml, hown, hts⟩ (c_M_findRing l D cs o h _ I1 V x1 f _ qr3) w_findRing_190 ⟨xP_moved, va_recv hK hP (ci := 10) (q0 := 0) rfl rfl, fun U hU hW => ⟨rfl, by rw [hU], by rw [hU]; exact hP, va_K.moved hW.alike hK, hD.weaken (fun _ _ _ _ => trivial)⟩⟩ rfl rfl hl.1 rfl (lv_room (Nat.le_of_ble_eq_true rfl)) dX10_ring_19 ⟨Nat.zero_le _, Nat.zero_le _⟩) hS (fun q _ h9 => hFc q h9) hFc (fun r3 u t H1 locs ht hvm hw hB hz1 hk1 hS => ?_)
    have er3 := congrArg Prod.fst hw
    have eu := congrArg Prod.snd hw
    dsimp only at er3 eu
    rw [er3]
    rw [eu] at hB
    obtain ⟨hP1, hK1, hD1⟩ := hB
    have hP : va_P D vwCl (w_M cs o h I4 V5) H1 := by rw [← ht]; exact hP1
    have hD : va_D A (w_M cs o h I4 V5) := hD1.weaken (fun _ q _ h9 => hFc q.1 h9)
    exact hret zr3 I4 V5 _ _ 22 _ hf hP hD hS dX10_ring_22
  · replace hf := im c10 hf
    refine lv_iconst (v := (-1)) hx hb dX10_ring_13 (by decide) ?_
    refine lv_goto (tgt := 22) hx hb dX10_ring_14 (by decide) ?_
    exact hret (-1) I1 V _ _ 22 _ hf hP hD hS dX10_ring_22
set_option maxHeartbeats 4000000 in
set_option maxRecDepth 100000 in
theorem c_M_ring (l : Launch) (D : va_G) (cs : Nat → ClassId) (o : Nat) (h : Nat → Nat) (sz : Nat) (I : FI) (V : FV) (x1 : Int32) (f : Nat) (out : Int32 × FI × FV) (hf : M_ring f x1 I V = some out) : Met l yX10_ring wsX10_ring rm_M_ring (va_Pc [.ref o, .int x1] (xP D cs (w_M cs o h I V) sz)) (va_Qi (fun r u => (r, u) = out) (fun (u : FI × FV) t => xA D cs (va_A (w_M cs o h I V) sz) (w_M cs o h u.1 u.2) t) (va_A (w_M cs o h I V) sz)) 0 0 (va_A (w_M cs o h I V) sz) := by
  refine Met.ofW (cc := cX10_ring) (maxL := 2) (ret := (some .int)) (by decide) rfl ?_
  intro p e s m args below meth c s₁ B hml hv
  obtain ⟨ha, hsz, hP, hK, hD0⟩ := hv
  have hx := B.exec
  have hb := B.bytes
  have hr := B.returns
  have hts := atoms_spec (ws := wsX10_ring) B.pre
  have hown : s.vm.findClass RX10 = some m.cls := findClass_of_methodNamed B.named
  have hlocks := B.notSynchronized
  have in_X10 : ∀ w ∈ u_ws RX10 TX10 38, w ∈ wsX10_ring := fun w h => List.mem_cons_of_mem _ (List.mem_append_right _ h)
  have g_92 := hts (Cond.fieldLink RX10 92 "DaysLentModel" "thrown" "I") (by decide +kernel)
  have w_noOne_151 := cwV (R := rm_M_ring) (s := s) (args := args) (rm := rm_M_noOne) (mc := 0) (ms := 0) 1 hts gX10_ring_X10_noOne rfl rfl rfl (by decide +kernel) ⟨Nat.le_of_ble_eq_true rfl, Nat.le_of_ble_eq_true rfl⟩
  have w_findRing_190 := cwV (R := rm_M_ring) (s := s) (args := args) (rm := rm_M_findRing) (mc := 0) (ms := 0) 1 hts gX10_ring_X10_findRing rfl rfl rfl (by decide +kernel) ⟨Nat.le_of_ble_eq_true rfl, Nat.le_of_ble_eq_true rfl⟩
  subst hsz
  have hD := hD0.self (sz := s.heap.size)
  generalize hAe : va_A (w_M cs o h I V) s.heap.size = A at hD ⊢
  have hA : ∀ q : Nat, s.heap.size ≤ q → A q := fun q h => by rw [← hAe]; exact Or.inr h
  have hl := lv_entry ([.ref o, .int x1]) (n := 2) (Nat.le_of_ble_eq_true rfl)
  rw [show entryFrame m args 2 = entryFrame m ([.ref o, .int x1] : List Value).toArray 2 from by rw [ha], lg_entry_eq]
  generalize (lg_sl ([.ref o, .int x1]) ++ List.replicate (2 - (lg_sl ([.ref o, .int x1])).length) Slot.unset).toArray = ls at hl ⊢
  generalize hQ : MQ below (va_Qi (fun r u => (r, u) = out) (fun (u : FI × FV) t => xA D cs A (w_M cs o h u.1 u.2) t) A) args s 0 0 A = Q
  have hret : ∀ (v : Int32) (Im9 : FI) (Vm9 : FV) (H : Heap) (locs : List Loc) (pc : Nat) (ls : Array Slot), some (v, Im9, Vm9) = some out → va_P D vwCl (w_M cs o h Im9 Vm9) H → va_D A (w_M cs o h Im9 Vm9) → va_S A s.heap H locs → decode cX10_ring pc = .ok (.ireturn, 1) → W p l e rm_M_ring s m args below meth c H locs 0 0 Q (F0 m pc ls [.int v]) := by
    intro v Im9 Vm9 H locs pc ls hf hP hD hS hd
    rw [← hQ]
    exact W.iret (v := v) hx hb hr (fun t ht hW => ⟨⟨v, (Im9, Vm9), rfl, Option.some.inj hf, by show va_P D vwCl (w_M cs o h Im9 Vm9) t.heap; rw [ht]; exact hP, va_K.moved hW.alike hK, hD⟩, hS.F ht⟩) hS.2.2 hd
  exact v_M_ring hf hx hb hml hown hts in_X10 g_92 w_noOne_151 w_findRing_190 hA hP hD hK hret ls hl
def M_room_L38 {ρ : Type} (f : Nat) (zr3 : Int32) (V5 : FV) (k_38 : Int32 → Option ρ) : Nat → Int32 → Int32 → Option ρ
  | 0, _, _ => none
  | n_38 + 1, x3_38, x4_38 => (if zr3 ≤ x4_38 then (k_38 x3_38) else if x4_38 < 0 ∨ 7 ≤ x4_38.toNatClampNeg then none else (if ((V5 33) x4_38.toNatClampNeg) < 0 ∨ 12 ≤ ((V5 33) x4_38.toNatClampNeg).toNatClampNeg then none else ((nm (fun (t0_76 : Int32) => (M_room_L38 f zr3 V5 k_38 n_38 t0_76 (x4_38 + 1))) (fun j76 => (if x3_38 ≤ ((V5 12) ((V5 33) x4_38.toNatClampNeg).toNatClampNeg) then (j76 x3_38) else if x4_38 < 0 ∨ 7 ≤ x4_38.toNatClampNeg then none else (if ((V5 33) x4_38.toNatClampNeg) < 0 ∨ 12 ≤ ((V5 33) x4_38.toNatClampNeg).toNatClampNeg then none else ((j76 ((V5 12) ((V5 33) x4_38.toNatClampNeg).toNatClampNeg))))))))))
def M_room (f : Nat) (x1 : Int32) (I : FI) (V : FV) : Option (Int32 × FI × FV) := nm (va_up I 0 0) (fun I1 => ob1 (M_noOne f x1 I1 V) (fun zr2 => (if zr2 = 0 then ob3 (M_findRing f x1 I1 V) (fun zr3 I4 V5 => (nm (fun (t0_34 : Int32) => (M_room_L38 f zr3 V5 (fun (x3_38 : Int32) => some (x3_38, I4, V5)) f t0_34 0)) (fun j34 => (if zr3 = (-9) then (j34 (-9)) else (j34 99999))))) else some ((-1), I1, V))))
abbrev rm_M_room : Room := { frames := 2, cells := 0, slots := 0, locals := 53 }
set_option maxHeartbeats 4000000 in
set_option maxRecDepth 100000 in
theorem v_M_room {l : Launch} {p : Program} {e : Env} {s : State} {m : MethodId} {args : Array Value} {below : List Frame} {meth : Method} {c : Code} {Q : State → Prop} {D : va_G} {cs : Nat → ClassId} {o : Nat} {h : Nat → Nat} {A : Nat → Prop} {I : FI} {V : FV} {x1 : Int32} {f : Nat} {out : Int32 × FI × FV} (hf : M_room f x1 I V = some out) (hx : p.tables.exec = Jvm.exec) (hb : c.code = cX10_room) (hml : c.maxLocals = 5) (hown : s.vm.findClass RX10 = some m.cls) (hts : ∀ w ∈ wsX10_room, w.before args s = true) (in_X10 : ∀ w ∈ u_ws RX10 TX10 38, w ∈ wsX10_room) (g_92 : (Cond.fieldLink RX10 92 "DaysLentModel" "thrown" "I").before args s = true) (w_noOne_151 : CallW rm_M_room s args RX10 RX10 151 yX10_noOne cX10_noOne 2 (some .boolean) wsX10_noOne rm_M_noOne 0 0 1) (w_findRing_190 : CallW rm_M_room s args RX10 RX10 190 yX10_findRing cX10_findRing 7 (some .int) wsX10_findRing rm_M_findRing 0 0 1) (k_193 : (Cond.constant RX10 193 (99999)).before args s = true) (g_32 : (Cond.fieldLink RX10 32 "DaysLentModel" "much" "[I").before args s = true) (g_80 : (Cond.fieldLink RX10 80 "DaysLentModel" "ringOf" "[I").before args s = true) (hA : ∀ q : Nat, s.heap.size ≤ q → A q) (hP : va_P D vwCl (w_M cs o h I V) s.heap) (hD : va_D A (w_M cs o h I V)) (hK : va_K D vwCl (tyA cs) s) (hret : ∀ (v : Int32) (Im9 : FI) (Vm9 : FV) (H : Heap) (locs : List Loc) (pc : Nat) (ls : Array Slot), some (v, Im9, Vm9) = some out → va_P D vwCl (w_M cs o h Im9 Vm9) H → va_D A (w_M cs o h Im9 Vm9) → va_S A s.heap H locs → decode cX10_room pc = .ok (.ireturn, 1) → W p l e rm_M_room s m args below meth c H locs 0 0 Q (F0 m pc ls [.int v])) : ∀ ls : Array Slot, lv_has ls 5 [(0, .ref o), (1, .int x1)] → W p l e rm_M_room s m args below meth c s.heap [] 0 0 Q (F0 m 0 ls []) := by
  intro ls hl
  have hS : va_S A s.heap s.heap [] := va_S.rf
  unfold M_room at hf
  refine lv_aload_n hx hb dX10_room_0 rfl (lv_at hl 0 rfl) ?_
  refine lv_iconst (v := 0) hx hb dX10_room_1 (by decide) ?_
  refine va_put (D := D) (ci := 10) (v := .int 0) (ty := .int) (C := RX10) (T := TX10) (N := 38) hx hb hts in_X10 tyX10 tyX10_ok nmX10 hown hK hP hD hS 0 rfl rfl 0 (by decide) g_92 (fun _ h9 => h9) rfl (by decide +kernel) rfl rfl (Nat.le_of_ble_eq_true rfl) dX10_room_2 (fun H locs hP hD hS => ?_)
  obtain ⟨I1, eI1, hf⟩ := nme hf
  have hP : va_P D vwCl (w_M cs o h I1 V) H := by rw [eI1]; exact hP
  have hD : va_D A (w_M cs o h I1 V) := by rw [eI1]; exact hD
  refine lv_aload_n hx hb dX10_room_5 rfl (lv_at hl 0 rfl) ?_
  refine lv_iload_n hx hb dX10_room_6 rfl (lv_at hl 1 rfl) ?_
  obtain ⟨zr2, qr2, hf⟩ := bd1 hf
  refine vp_callSi (va_Run.run (va_runV (As := [.int x1]) (rest := []) ⟨hx, hb, hml, hown, hts⟩ (c_M_noOne l D cs o h I1 V x1 f zr2 qr2) w_noOne_151 ⟨xR_moved, va_recv hK hP (ci := 10) (q0 := 0) rfl rfl, fun U hU hW => ⟨rfl, by rw [hU]; exact hP, va_K.moved hW.alike hK⟩⟩ rfl rfl hl.1 rfl (lv_room (Nat.le_of_ble_eq_true rfl)) dX10_room_7 ⟨Nat.zero_le _, Nat.zero_le _⟩)) (fun r2 er2 => ?_)
  rw [er2]
  refine lv_if_eq (tgt := 15) hx hb dX10_room_10 (by decide) (fun c10 => ?_) (fun c10 => ?_)
  · replace hf := ip c10 hf
    refine lv_aload_n hx hb dX10_room_15 rfl (lv_at hl 0 rfl) ?_
    refine lv_iload_n hx hb dX10_room_16 rfl (lv_at hl 1 rfl) ?_
    obtain ⟨zr3, I4, V5, qr3, hf⟩ := bd3 hf
    have hFc := xfree hD hS hA
    refine va_calli (va_runV (As := [.int x1]) (rest := []) ⟨hx, hb, hml, hown, hts⟩ (c_M_findRing l D cs o h _ I1 V x1 f _ qr3) w_findRing_190 ⟨xP_moved, va_recv hK hP (ci := 10) (q0 := 0) rfl rfl, fun U hU hW => ⟨rfl, by rw [hU], by rw [hU]; exact hP, va_K.moved hW.alike hK, hD.weaken (fun _ _ _ _ => trivial)⟩⟩ rfl rfl hl.1 rfl (lv_room (Nat.le_of_ble_eq_true rfl)) dX10_room_17 ⟨Nat.zero_le _, Nat.zero_le _⟩) hS (fun q _ h9 => hFc q h9) hFc (fun r3 u t H1 locs ht hvm hw hB hz1 hk1 hS => ?_)
    have er3 := congrArg Prod.fst hw
    have eu := congrArg Prod.snd hw
    dsimp only at er3 eu
    rw [er3]
    rw [eu] at hB
    obtain ⟨hP1, hK1, hD1⟩ := hB
    have hP : va_P D vwCl (w_M cs o h I4 V5) H1 := by rw [← ht]; exact hP1
    have hD : va_D A (w_M cs o h I4 V5) := hD1.weaken (fun _ q _ h9 => hFc q.1 h9)
    refine lv_istore_n (lv' := [(2, .int zr3), (0, .ref o), (1, .int x1)]) hx hb dX10_room_20 rfl hl (by decide) rfl (fun ls hl => ?_)
    refine lv_iload_n hx hb dX10_room_21 rfl (lv_at hl 0 rfl) ?_
    refine lv_bipush (v := (-9)) hx hb dX10_room_22 (by decide) ?_
    obtain ⟨j34, ej34, hf⟩ := nme hf
    have J34 : ∀ (t0_34 : Int32), j34 t0_34 = some out → ∀ (H : Heap) (locs : List Loc), va_P D vwCl (w_M cs o h I4 V5) H → va_D A (w_M cs o h I4 V5) → va_S A s.heap H locs → ∀ ls : Array Slot, lv_has ls 5 [(0, .ref o), (2, .int zr3)] → W p l e rm_M_room s m args below meth c H locs 0 0 Q (F0 m 34 ls [.int t0_34]) := by
      intro t0_34 hf H locs hP hD hS ls hl
      rw [ej34] at hf
      refine lv_istore_n (lv' := [(3, .int t0_34), (0, .ref o), (2, .int zr3)]) hx hb dX10_room_34 rfl hl (by decide) rfl (fun ls hl => ?_)
      refine lv_iconst (v := 0) hx hb dX10_room_35 (by decide) ?_
      refine lv_istore (lv' := [(4, .int 0), (3, .int t0_34), (0, .ref o), (2, .int zr3)]) hx hb dX10_room_36 hl (by decide) rfl (fun ls hl => ?_)
      have L38 : ∀ (k_38 : Int32 → Option (Int32 × FI × FV)) (hk_38 : ∀ (x3_38 : Int32), k_38 x3_38 = some out → ∀ (H : Heap) (locs : List Loc), va_P D vwCl (w_M cs o h I4 V5) H → va_D A (w_M cs o h I4 V5) → va_S A s.heap H locs → ∀ ls : Array Slot, lv_has ls 5 [(3, .int x3_38)] → W p l e rm_M_room s m args below meth c H locs 0 0 Q (F0 m 83 ls [])), ∀ (n_38 : Nat) (x3_38 : Int32) (x4_38 : Int32), M_room_L38 f zr3 V5 k_38 n_38 x3_38 x4_38 = some out → ∀ (H : Heap) (locs : List Loc), va_P D vwCl (w_M cs o h I4 V5) H → va_D A (w_M cs o h I4 V5) → va_S A s.heap H locs → ∀ ls : Array Slot, lv_has ls 5 [(0, .ref o), (2, .int zr3), (3, .int x3_38), (4, .int x4_38)] → W p l e rm_M_room s m args below meth c H locs 0 0 Q (F0 m 38 ls []) := by
        intro k_38 hk_38 n_38
        induction n_38 with
        | zero => intro x3_38 x4_38 hf; rw [M_room_L38] at hf; cases hf
        | succ n_38 ih_38 =>
          intro x3_38 x4_38 hf H locs hP hD hS ls hl
          rw [M_room_L38] at hf
          refine lv_iload hx hb dX10_room_38 (lv_at hl 3 rfl) ?_
          refine lv_iload_n hx hb dX10_room_40 rfl (lv_at hl 1 rfl) ?_
          refine lv_icmp_ge (tgt := 83) hx hb dX10_room_41 (by decide) (fun c41 => ?_) (fun c41 => ?_)
          · replace hf := ip c41 hf
            exact hk_38 x3_38 hf _ _ hP hD hS _ (lv_sub hl [2] rfl)
          · replace hf := im c41 hf
            refine lv_aload_n hx hb dX10_room_44 rfl (lv_at hl 0 rfl) ?_
            refine va_get (D := D) (ci := 10) (v := .ref (h 12)) (C := RX10) (T := TX10) (N := 38) hx hb hts in_X10 hown hK hP 0 rfl rfl 12 (by decide) g_32 (fun _ h9 => h9) rfl dX10_room_45 ?_
            refine lv_aload_n hx hb dX10_room_48 rfl (lv_at hl 0 rfl) ?_
            refine va_get (D := D) (ci := 10) (v := .ref (h 33)) (C := RX10) (T := TX10) (N := 38) hx hb hts in_X10 hown hK hP 0 rfl rfl 33 (by decide) g_80 (fun _ h9 => h9) rfl dX10_room_49 ?_
            refine lv_iload hx hb dX10_room_52 (lv_at hl 3 rfl) ?_
            obtain ⟨c54, hf⟩ := gd hf
            refine va_iald (f := (V5 33)) hx hb hK hP 24 0 rfl rfl c54 dX10_room_54 ?_
            obtain ⟨c55, hf⟩ := gd hf
            refine va_iald (f := (V5 12)) hx hb hK hP 8 0 rfl rfl c55 dX10_room_55 ?_
            refine lv_iload_n hx hb dX10_room_56 rfl (lv_at hl 2 rfl) ?_
            obtain ⟨j76, ej76, hf⟩ := nme hf
            have J76 : ∀ (t0_76 : Int32), j76 t0_76 = some out → ∀ (H : Heap) (locs : List Loc), va_P D vwCl (w_M cs o h I4 V5) H → va_D A (w_M cs o h I4 V5) → va_S A s.heap H locs → ∀ ls : Array Slot, lv_has ls 5 [(0, .ref o), (2, .int zr3), (4, .int x4_38)] → W p l e rm_M_room s m args below meth c H locs 0 0 Q (F0 m 76 ls [.int t0_76]) := by
              intro t0_76 hf H locs hP hD hS ls hl
              rw [ej76] at hf
              refine lv_istore_n (lv' := [(3, .int t0_76), (0, .ref o), (2, .int zr3), (4, .int x4_38)]) hx hb dX10_room_76 rfl hl (by decide) rfl (fun ls hl => ?_)
              refine lv_iinc (v := (x4_38 + 1)) (lv' := [(4, .int (x4_38 + 1)), (3, .int t0_76), (0, .ref o), (2, .int zr3)]) hx hb dX10_room_77 hl (k := 3) rfl (by rfl) (by decide) rfl (fun ls hl => ?_)
              refine lv_goto (tgt := 38) hx hb dX10_room_80 (by decide) ?_
              exact ih_38 t0_76 (x4_38 + 1) hf _ _ hP hD hS _ (lv_sub hl [2, 3, 1, 0] rfl)
            refine lv_icmp_ge (tgt := 75) hx hb dX10_room_57 (by decide) (fun c57 => ?_) (fun c57 => ?_)
            · replace hf := ip c57 hf
              refine lv_iload_n hx hb dX10_room_75 rfl (lv_at hl 2 rfl) ?_
              exact J76 x3_38 hf _ _ hP hD hS _ (lv_sub hl [0, 1, 3] rfl)
            · replace hf := im c57 hf
              refine lv_aload_n hx hb dX10_room_60 rfl (lv_at hl 0 rfl) ?_
              refine va_get (D := D) (ci := 10) (v := .ref (h 12)) (C := RX10) (T := TX10) (N := 38) hx hb hts in_X10 hown hK hP 0 rfl rfl 12 (by decide) g_32 (fun _ h9 => h9) rfl dX10_room_61 ?_
              refine lv_aload_n hx hb dX10_room_64 rfl (lv_at hl 0 rfl) ?_
              refine va_get (D := D) (ci := 10) (v := .ref (h 33)) (C := RX10) (T := TX10) (N := 38) hx hb hts in_X10 hown hK hP 0 rfl rfl 33 (by decide) g_80 (fun _ h9 => h9) rfl dX10_room_65 ?_
              refine lv_iload hx hb dX10_room_68 (lv_at hl 3 rfl) ?_
              obtain ⟨c70, hf⟩ := gd hf
              refine va_iald (f := (V5 33)) hx hb hK hP 24 0 rfl rfl c70 dX10_room_70 ?_
              obtain ⟨c71, hf⟩ := gd hf
              refine va_iald (f := (V5 12)) hx hb hK hP 8 0 rfl rfl c71 dX10_room_71 ?_
              refine lv_goto (tgt := 76) hx hb dX10_room_72 (by decide) ?_
              exact J76 ((V5 12) ((V5 33) x4_38.toNatClampNeg).toNatClampNeg) hf _ _ hP hD hS _ (lv_sub hl [0, 1, 3] rfl)
      refine L38 _ (fun x3_38 hf H locs hP hD hS ls hl => ?_) f t0_34 0 hf _ _ hP hD hS _ (lv_sub hl [2, 3, 1, 0] rfl)
      refine lv_iload_n hx hb dX10_room_83 rfl (lv_at hl 0 rfl) ?_
      exact hret x3_38 I4 V5 _ _ 84 _ hf hP hD hS dX10_room_84
    refine lv_icmp_ne (tgt := 32) hx hb dX10_room_24 (by decide) (fun c24 => ?_) (fun c24 => ?_)
    · replace hf := im c24 hf
      refine lv_ldc (v := 99999) hx hb hown k_193 dX10_room_32 ?_
      exact J34 99999 hf _ _ hP hD hS _ (lv_sub hl [1, 0] rfl)
    · replace hf := ip c24 hf
      refine lv_bipush (v := (-9)) hx hb dX10_room_27 (by decide) ?_
      refine lv_goto (tgt := 34) hx hb dX10_room_29 (by decide) ?_
      exact J34 (-9) hf _ _ hP hD hS _ (lv_sub hl [1, 0] rfl)
  · replace hf := im c10 hf
    refine lv_iconst (v := (-1)) hx hb dX10_room_13 (by decide) ?_
    exact hret (-1) I1 V _ _ 14 _ hf hP hD hS dX10_room_14
set_option maxHeartbeats 4000000 in
set_option maxRecDepth 100000 in
theorem c_M_room (l : Launch) (D : va_G) (cs : Nat → ClassId) (o : Nat) (h : Nat → Nat) (sz : Nat) (I : FI) (V : FV) (x1 : Int32) (f : Nat) (out : Int32 × FI × FV) (hf : M_room f x1 I V = some out) : Met l yX10_room wsX10_room rm_M_room (va_Pc [.ref o, .int x1] (xP D cs (w_M cs o h I V) sz)) (va_Qi (fun r u => (r, u) = out) (fun (u : FI × FV) t => xA D cs (va_A (w_M cs o h I V) sz) (w_M cs o h u.1 u.2) t) (va_A (w_M cs o h I V) sz)) 0 0 (va_A (w_M cs o h I V) sz) := by
  refine Met.ofW (cc := cX10_room) (maxL := 5) (ret := (some .int)) (by decide) rfl ?_
  intro p e s m args below meth c s₁ B hml hv
  obtain ⟨ha, hsz, hP, hK, hD0⟩ := hv
  have hx := B.exec
  have hb := B.bytes
  have hr := B.returns
  have hts := atoms_spec (ws := wsX10_room) B.pre
  have hown : s.vm.findClass RX10 = some m.cls := findClass_of_methodNamed B.named
  have hlocks := B.notSynchronized
  have in_X10 : ∀ w ∈ u_ws RX10 TX10 38, w ∈ wsX10_room := fun w h => List.mem_cons_of_mem _ (List.mem_append_right _ h)
  have g_92 := hts (Cond.fieldLink RX10 92 "DaysLentModel" "thrown" "I") (by decide +kernel)
  have w_noOne_151 := cwV (R := rm_M_room) (s := s) (args := args) (rm := rm_M_noOne) (mc := 0) (ms := 0) 1 hts gX10_room_X10_noOne rfl rfl rfl (by decide +kernel) ⟨Nat.le_of_ble_eq_true rfl, Nat.le_of_ble_eq_true rfl⟩
  have w_findRing_190 := cwV (R := rm_M_room) (s := s) (args := args) (rm := rm_M_findRing) (mc := 0) (ms := 0) 1 hts gX10_room_X10_findRing rfl rfl rfl (by decide +kernel) ⟨Nat.le_of_ble_eq_true rfl, Nat.le_of_ble_eq_true rfl⟩
  have k_193 := hts (Cond.constant RX10 193 (99999)) (by decide +kernel)
  have g_32 := hts (Cond.fieldLink RX10 32 "DaysLentModel" "much" "[I") (by decide +kernel)
  have g_80 := hts (Cond.fieldLink RX10 80 "DaysLentModel" "ringOf" "[I") (by decide +kernel)
  subst hsz
  have hD := hD0.self (sz := s.heap.size)
  generalize hAe : va_A (w_M cs o h I V) s.heap.size = A at hD ⊢
  have hA : ∀ q : Nat, s.heap.size ≤ q → A q := fun q h => by rw [← hAe]; exact Or.inr h
  have hl := lv_entry ([.ref o, .int x1]) (n := 5) (Nat.le_of_ble_eq_true rfl)
  rw [show entryFrame m args 5 = entryFrame m ([.ref o, .int x1] : List Value).toArray 5 from by rw [ha], lg_entry_eq]
  generalize (lg_sl ([.ref o, .int x1]) ++ List.replicate (5 - (lg_sl ([.ref o, .int x1])).length) Slot.unset).toArray = ls at hl ⊢
  generalize hQ : MQ below (va_Qi (fun r u => (r, u) = out) (fun (u : FI × FV) t => xA D cs A (w_M cs o h u.1 u.2) t) A) args s 0 0 A = Q
  have hret : ∀ (v : Int32) (Im9 : FI) (Vm9 : FV) (H : Heap) (locs : List Loc) (pc : Nat) (ls : Array Slot), some (v, Im9, Vm9) = some out → va_P D vwCl (w_M cs o h Im9 Vm9) H → va_D A (w_M cs o h Im9 Vm9) → va_S A s.heap H locs → decode cX10_room pc = .ok (.ireturn, 1) → W p l e rm_M_room s m args below meth c H locs 0 0 Q (F0 m pc ls [.int v]) := by
    intro v Im9 Vm9 H locs pc ls hf hP hD hS hd
    rw [← hQ]
    exact W.iret (v := v) hx hb hr (fun t ht hW => ⟨⟨v, (Im9, Vm9), rfl, Option.some.inj hf, by show va_P D vwCl (w_M cs o h Im9 Vm9) t.heap; rw [ht]; exact hP, va_K.moved hW.alike hK, hD⟩, hS.F ht⟩) hS.2.2 hd
  exact v_M_room hf hx hb hml hown hts in_X10 g_92 w_noOne_151 w_findRing_190 k_193 g_32 g_80 hA hP hD hK hret ls hl
