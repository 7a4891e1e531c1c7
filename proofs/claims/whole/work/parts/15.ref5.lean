def M_mostOf (f : Nat) (x1 : Int32) (x2 : Int32) (x3 : Int32) (I : FI) (V : FV) : Option (Int32) := (nm (fun (t0_32 : Int32) => (if x3 ≤ t0_32 then some x3 else some t0_32)) (fun j32 => nm (fun (u_22 : Unit) => (j32 0)) (fun j22 => (if (I 4) ≤ x1 then (j22 ()) else (if x1 = x2 then (j22 ()) else if x1 < 0 ∨ 6 ≤ x1.toNatClampNeg then none else ((if ((V 7) x1.toNatClampNeg) = 0 then if x1 < 0 ∨ 6 ≤ x1.toNatClampNeg then none else ((j32 ((V 5) x1.toNatClampNeg))) else (j22 ()))))))))
abbrev rm_M_mostOf : Room := { frames := 0, cells := 0, slots := 0, locals := 0 }
set_option maxHeartbeats 4000000 in
set_option maxRecDepth 100000 in
theorem v_M_mostOf {l : Launch} {p : Program} {e : Env} {s : State} {m : MethodId} {args : Array Value} {below : List Frame} {meth : Method} {c : Code} {Q : State → Prop} {D : va_G} {cs : Nat → ClassId} {o : Nat} {h : Nat → Nat} {I : FI} {V : FV} {x1 : Int32} {x2 : Int32} {x3 : Int32} {f : Nat} {out : Int32} (hf : M_mostOf f x1 x2 x3 I V = some out) (hx : p.tables.exec = Jvm.exec) (hb : c.code = cX10_mostOf) (hml : c.maxLocals = 5) (hown : s.vm.findClass RX10 = some m.cls) (hts : ∀ w ∈ wsX10_mostOf, w.before args s = true) (in_X10 : ∀ w ∈ u_ws RX10 TX10 38, w ∈ wsX10_mostOf) (g_96 : (Cond.fieldLink RX10 96 "DaysLentModel" "people" "I").before args s = true) (g_19 : (Cond.fieldLink RX10 19 "DaysLentModel" "dead" "[Z").before args s = true) (g_13 : (Cond.fieldLink RX10 13 "DaysLentModel" "mornings" "[I").before args s = true) (hP : va_P D vwCl (w_M cs o h I V) s.heap) (hK : va_K D vwCl (tyA cs) s) (hret : ∀ (v : Int32) (pc : Nat) (ls : Array Slot), some v = some out → decode cX10_mostOf pc = .ok (.ireturn, 1) → W p l e rm_M_mostOf s m args below meth c s.heap [] 0 0 Q (F0 m pc ls [.int v])) : ∀ ls : Array Slot, lv_has ls 5 [(0, .ref o), (1, .int x1), (2, .int x2), (3, .int x3)] → W p l e rm_M_mostOf s m args below meth c s.heap [] 0 0 Q (F0 m 0 ls []) := by
  intro ls hl
  unfold M_mostOf at hf
  refine lv_iload_n hx hb dX10_mostOf_0 rfl (lv_at hl 1 rfl) ?_
  refine lv_aload_n hx hb dX10_mostOf_1 rfl (lv_at hl 0 rfl) ?_
  refine va_get (D := D) (ci := 10) (v := .int (I 4)) (C := RX10) (T := TX10) (N := 38) hx hb hts in_X10 hown hK hP 0 rfl rfl 4 (by decide) g_96 (fun _ h9 => h9) rfl dX10_mostOf_2 ?_
  obtain ⟨j32, ej32, hf⟩ := nme hf
  have J32 : ∀ (t0_32 : Int32), j32 t0_32 = some out → ∀ ls : Array Slot, lv_has ls 5 [(3, .int x3)] → W p l e rm_M_mostOf s m args below meth c s.heap [] 0 0 Q (F0 m 32 ls [.int t0_32]) := by
    intro t0_32 hf ls hl
    rw [ej32] at hf
    refine lv_istore (lv' := [(4, .int t0_32), (3, .int x3)]) hx hb dX10_mostOf_32 hl (by decide) rfl (fun ls hl => ?_)
    refine lv_iload hx hb dX10_mostOf_34 (lv_at hl 0 rfl) ?_
    refine lv_iload_n hx hb dX10_mostOf_36 rfl (lv_at hl 1 rfl) ?_
    refine lv_icmp_ge (tgt := 45) hx hb dX10_mostOf_37 (by decide) (fun c37 => ?_) (fun c37 => ?_)
    · replace hf := ip c37 hf
      refine lv_iload_n hx hb dX10_mostOf_45 rfl (lv_at hl 1 rfl) ?_
      exact hret x3 46 _ hf dX10_mostOf_46
    · replace hf := im c37 hf
      refine lv_iload hx hb dX10_mostOf_40 (lv_at hl 0 rfl) ?_
      refine lv_goto (tgt := 46) hx hb dX10_mostOf_42 (by decide) ?_
      exact hret t0_32 46 _ hf dX10_mostOf_46
  obtain ⟨j22, ej22, hf⟩ := nme hf
  have J22 : ∀ (u_22 : Unit), j22 u_22 = some out → ∀ ls : Array Slot, lv_has ls 5 [(3, .int x3)] → W p l e rm_M_mostOf s m args below meth c s.heap [] 0 0 Q (F0 m 22 ls []) := by
    intro u_22 hf ls hl
    rw [ej22] at hf
    refine lv_iconst (v := 0) hx hb dX10_mostOf_22 (by decide) ?_
    refine lv_goto (tgt := 32) hx hb dX10_mostOf_23 (by decide) ?_
    exact J32 0 hf _ (lv_sub hl [0] rfl)
  refine lv_icmp_ge (tgt := 22) hx hb dX10_mostOf_5 (by decide) (fun c5 => ?_) (fun c5 => ?_)
  · replace hf := ip c5 hf
    exact J22 () hf _ (lv_sub hl [3] rfl)
  · replace hf := im c5 hf
    refine lv_iload_n hx hb dX10_mostOf_8 rfl (lv_at hl 1 rfl) ?_
    refine lv_iload_n hx hb dX10_mostOf_9 rfl (lv_at hl 2 rfl) ?_
    refine lv_icmp_eq (tgt := 22) hx hb dX10_mostOf_10 (by decide) (fun c10 => ?_) (fun c10 => ?_)
    · replace hf := ip c10 hf
      exact J22 () hf _ (lv_sub hl [3] rfl)
    · replace hf := im c10 hf
      refine lv_aload_n hx hb dX10_mostOf_13 rfl (lv_at hl 0 rfl) ?_
      refine va_get (D := D) (ci := 10) (v := .ref (h 7)) (C := RX10) (T := TX10) (N := 38) hx hb hts in_X10 hown hK hP 0 rfl rfl 7 (by decide) g_19 (fun _ h9 => h9) rfl dX10_mostOf_14 ?_
      refine lv_iload_n hx hb dX10_mostOf_17 rfl (lv_at hl 1 rfl) ?_
      obtain ⟨c18, hf⟩ := gd hf
      refine va_zald (f := (V 7)) hx hb hK hP 4 1 rfl rfl c18 dX10_mostOf_18 ?_
      refine lv_if_eq (tgt := 26) hx hb dX10_mostOf_19 (by decide) (fun c19 => ?_) (fun c19 => ?_)
      · replace hf := ip c19 hf
        refine lv_aload_n hx hb dX10_mostOf_26 rfl (lv_at hl 0 rfl) ?_
        refine va_get (D := D) (ci := 10) (v := .ref (h 5)) (C := RX10) (T := TX10) (N := 38) hx hb hts in_X10 hown hK hP 0 rfl rfl 5 (by decide) g_13 (fun _ h9 => h9) rfl dX10_mostOf_27 ?_
        refine lv_iload_n hx hb dX10_mostOf_30 rfl (lv_at hl 1 rfl) ?_
        obtain ⟨c31, hf⟩ := gd hf
        refine va_iald (f := (V 5)) hx hb hK hP 2 0 rfl rfl c31 dX10_mostOf_31 ?_
        exact J32 ((V 5) x1.toNatClampNeg) hf _ (lv_sub hl [3] rfl)
      · replace hf := im c19 hf
        exact J22 () hf _ (lv_sub hl [3] rfl)
set_option maxHeartbeats 4000000 in
set_option maxRecDepth 100000 in
theorem c_M_mostOf (l : Launch) (D : va_G) (cs : Nat → ClassId) (o : Nat) (h : Nat → Nat) (I : FI) (V : FV) (x1 : Int32) (x2 : Int32) (x3 : Int32) (f : Nat) (out : Int32) (hf : M_mostOf f x1 x2 x3 I V = some out) : Met l yX10_mostOf wsX10_mostOf rm_M_mostOf (va_Pc [.ref o, .int x1, .int x2, .int x3] (xR D cs (w_M cs o h I V))) (vp_Si (fun r => r = out)) 0 0 (fun _ => False) := by
  refine Met.ofW (cc := cX10_mostOf) (maxL := 5) (ret := (some .int)) (by decide) rfl ?_
  intro p e s m args below meth c s₁ B hml hv
  obtain ⟨ha, hP, hK⟩ := hv
  have hx := B.exec
  have hb := B.bytes
  have hr := B.returns
  have hts := atoms_spec (ws := wsX10_mostOf) B.pre
  have hown : s.vm.findClass RX10 = some m.cls := findClass_of_methodNamed B.named
  have hlocks := B.notSynchronized
  have in_X10 : ∀ w ∈ u_ws RX10 TX10 38, w ∈ wsX10_mostOf := fun w h => List.mem_cons_of_mem _ (List.mem_append_right _ h)
  have g_96 := hts (Cond.fieldLink RX10 96 "DaysLentModel" "people" "I") (by decide +kernel)
  have g_19 := hts (Cond.fieldLink RX10 19 "DaysLentModel" "dead" "[Z") (by decide +kernel)
  have g_13 := hts (Cond.fieldLink RX10 13 "DaysLentModel" "mornings" "[I") (by decide +kernel)
  have hl := lv_entry ([.ref o, .int x1, .int x2, .int x3]) (n := 5) (Nat.le_of_ble_eq_true rfl)
  rw [show entryFrame m args 5 = entryFrame m ([.ref o, .int x1, .int x2, .int x3] : List Value).toArray 5 from by rw [ha], lg_entry_eq]
  generalize (lg_sl ([.ref o, .int x1, .int x2, .int x3]) ++ List.replicate (5 - (lg_sl ([.ref o, .int x1, .int x2, .int x3])).length) Slot.unset).toArray = ls at hl ⊢
  generalize hQ : MQ below (vp_Si (fun r => r = out)) args s 0 0 (fun _ => False) = Q
  have hret : ∀ (v : Int32) (pc : Nat) (ls : Array Slot), some v = some out → decode cX10_mostOf pc = .ok (.ireturn, 1) → W p l e rm_M_mostOf s m args below meth c s.heap [] 0 0 Q (F0 m pc ls [.int v]) := by
    intro v pc ls hf hd
    rw [← hQ]
    exact W.iret (v := v) hx hb hr (fun t ht hW => ⟨v, rfl, Option.some.inj hf, ht⟩) (fun q h => by cases h) hd
  exact v_M_mostOf hf hx hb hml hown hts in_X10 g_96 g_19 g_13 hP hK hret ls hl
def M_findWish_L2 {ρ : Type} (f : Nat) (x2 : Int32) (k_2 : FV → Option ρ) : Nat → Int32 → FV → Option ρ
  | 0, _, _ => none
  | n_2 + 1, x3_2, Vm_2 => (if x2 < x3_2 then (k_2 Vm_2) else (nm (fun (t2_26 : Int32) => if (600 + x3_2) < 0 ∨ 700 ≤ (600 + x3_2).toNatClampNeg then none else (nm (va_up Vm_2 34 (upd (Vm_2 34) (600 + x3_2).toNatClampNeg t2_26)) (fun V1 => (M_findWish_L2 f x2 k_2 n_2 (x3_2 + 1) V1)))) (fun j26 => (if x3_2 = 0 then (j26 0) else (j26 99999)))))
def M_findWish_L65 {ρ : Type} (f : Nat) (x3_35 : Int32) (x1 : Int32) (x4_42 : Int32) (I : FI) (k_65 : FV → Option ρ) : Nat → Int32 → FV → Option ρ
  | 0, _, _ => none
  | n_65 + 1, x5_65, Vm_65 => ob1 (M_mostOf f x3_35 x1 x4_42 I Vm_65) (fun zr3 => (if zr3 < x5_65 then (k_65 Vm_65) else ob1 (M_priceOf f x3_35 x5_65 I Vm_65) (fun zr4 => if (((100 * (x3_35 + 1)) + x4_42) - x5_65) < 0 ∨ 700 ≤ (((100 * (x3_35 + 1)) + x4_42) - x5_65).toNatClampNeg then none else (nm (zr4 + ((Vm_65 34) (((100 * (x3_35 + 1)) + x4_42) - x5_65).toNatClampNeg)) (fun y5 => if ((100 * x3_35) + x4_42) < 0 ∨ 700 ≤ ((100 * x3_35) + x4_42).toNatClampNeg then none else ((nm (fun (t2_150 : Int32) => if ((100 * x3_35) + x4_42) < 0 ∨ 700 ≤ ((100 * x3_35) + x4_42).toNatClampNeg then none else (nm (va_up Vm_65 34 (upd (Vm_65 34) ((100 * x3_35) + x4_42).toNatClampNeg t2_150)) (fun V6 => (M_findWish_L65 f x3_35 x1 x4_42 I k_65 n_65 (x5_65 + 1) V6)))) (fun j150 => (if ((Vm_65 34) ((100 * x3_35) + x4_42).toNatClampNeg) ≤ y5 then if ((100 * x3_35) + x4_42) < 0 ∨ 700 ≤ ((100 * x3_35) + x4_42).toNatClampNeg then none else ((j150 ((Vm_65 34) ((100 * x3_35) + x4_42).toNatClampNeg))) else (j150 y5))))))))))
def M_findWish_L42 {ρ : Type} (f : Nat) (x2 : Int32) (x3_35 : Int32) (x1 : Int32) (I : FI) (k_42 : FV → Option ρ) : Nat → Int32 → FV → Option ρ
  | 0, _, _ => none
  | n_42 + 1, x4_42, Vm_42 => (if x2 < x4_42 then (k_42 Vm_42) else if ((100 * x3_35) + x4_42) < 0 ∨ 700 ≤ ((100 * x3_35) + x4_42).toNatClampNeg then none else (nm (va_up Vm_42 34 (upd (Vm_42 34) ((100 * x3_35) + x4_42).toNatClampNeg 99999)) (fun V2 => (M_findWish_L65 f x3_35 x1 x4_42 I (fun (Vm_65 : FV) => (M_findWish_L42 f x2 x3_35 x1 I k_42 n_42 (x4_42 + 1) Vm_65)) f 0 V2))))
def M_findWish_L35 {ρ : Type} (f : Nat) (x2 : Int32) (x1 : Int32) (I : FI) (k_35 : FV → Option ρ) : Nat → Int32 → FV → Option ρ
  | 0, _, _ => none
  | n_35 + 1, x3_35, Vm_35 => (if x3_35 < 0 then (k_35 Vm_35) else (M_findWish_L42 f x2 x3_35 x1 I (fun (Vm_42 : FV) => (M_findWish_L35 f x2 x1 I k_35 n_35 (x3_35 + (-1)) Vm_42)) f 0 Vm_35))
def M_findWish_L198 {ρ : Type} (f : Nat) (x4_188 : Int32) (I : FI) (Vm_188 : FV) (x3_188 : Int32) (k_198 : Int32 → Option ρ) : Nat → Int32 → Option ρ
  | 0, _ => none
  | n_198 + 1, x5_198 => ob1 (M_priceOf f x4_188 x5_198 I Vm_188) (fun zr7 => if (((100 * (x4_188 + 1)) + x3_188) - x5_198) < 0 ∨ 700 ≤ (((100 * (x4_188 + 1)) + x3_188) - x5_198).toNatClampNeg then none else (if ((100 * x4_188) + x3_188) < 0 ∨ 700 ≤ ((100 * x4_188) + x3_188).toNatClampNeg then none else ((if (zr7 + ((Vm_188 34) (((100 * (x4_188 + 1)) + x3_188) - x5_198).toNatClampNeg)) = ((Vm_188 34) ((100 * x4_188) + x3_188).toNatClampNeg) then (k_198 x5_198) else (M_findWish_L198 f x4_188 I Vm_188 x3_188 k_198 n_198 (x5_198 + 1))))))
def M_findWish_L188 {ρ : Type} (f : Nat) (I : FI) (k_188 : FV → Option ρ) : Nat → Int32 → Int32 → FV → Option ρ
  | 0, _, _, _ => none
  | n_188 + 1, x3_188, x4_188, Vm_188 => (if 6 ≤ x4_188 then (k_188 Vm_188) else (M_findWish_L198 f x4_188 I Vm_188 x3_188 (fun (x5_198 : Int32) => if x4_188 < 0 ∨ 6 ≤ x4_188.toNatClampNeg then none else (nm (va_up Vm_188 35 (upd (Vm_188 35) x4_188.toNatClampNeg x5_198)) (fun V8 => (M_findWish_L188 f I k_188 n_188 (x3_188 - x5_198) (x4_188 + 1) V8)))) f 0))
def M_findWish (f : Nat) (x1 : Int32) (x2 : Int32) (I : FI) (V : FV) : Option (Int32 × FI × FV) := (M_findWish_L2 f x2 (fun (Vm_2 : FV) => (M_findWish_L35 f x2 x1 I (fun (Vm_35 : FV) => if x2 < 0 ∨ 700 ≤ x2.toNatClampNeg then none else ((if ((Vm_35 34) x2.toNatClampNeg) < 99999 then (M_findWish_L188 f I (fun (Vm_188 : FV) => if x2 < 0 ∨ 700 ≤ x2.toNatClampNeg then none else (some (((Vm_188 34) x2.toNatClampNeg), I, Vm_188))) f x2 0 Vm_35) else some ((-9), I, Vm_35)))) f 5 Vm_2)) f 0 V)
abbrev rm_M_findWish : Room := { frames := 1, cells := 0, slots := 0, locals := 24 }
set_option maxHeartbeats 4000000 in
set_option maxRecDepth 100000 in
theorem v_M_findWish {l : Launch} {p : Program} {e : Env} {s : State} {m : MethodId} {args : Array Value} {below : List Frame} {meth : Method} {c : Code} {Q : State → Prop} {D : va_G} {cs : Nat → ClassId} {o : Nat} {h : Nat → Nat} {A : Nat → Prop} {I : FI} {V : FV} {x1 : Int32} {x2 : Int32} {f : Nat} {out : Int32 × FI × FV} (hf : M_findWish f x1 x2 I V = some out) (hx : p.tables.exec = Jvm.exec) (hb : c.code = cX10_findWish) (hml : c.maxLocals = 7) (hown : s.vm.findClass RX10 = some m.cls) (hts : ∀ w ∈ wsX10_findWish, w.before args s = true) (in_X10 : ∀ w ∈ u_ws RX10 TX10 38, w ∈ wsX10_findWish) (g_83 : (Cond.fieldLink RX10 83 "DaysLentModel" "least" "[I").before args s = true) (k_193 : (Cond.constant RX10 193 (99999)).before args s = true) (w_mostOf_194 : CallW rm_M_findWish s args RX10 RX10 194 yX10_mostOf cX10_mostOf 5 (some .int) wsX10_mostOf rm_M_mostOf 0 0 3) (w_priceOf_170 : CallW rm_M_findWish s args RX10 RX10 170 yX10_priceOf cX10_priceOf 3 (some .int) wsX10_priceOf rm_M_priceOf 0 0 2) (g_86 : (Cond.fieldLink RX10 86 "DaysLentModel" "lends" "[I").before args s = true) (hA : ∀ q : Nat, s.heap.size ≤ q → A q) (hP : va_P D vwCl (w_M cs o h I V) s.heap) (hD : va_D A (w_M cs o h I V)) (hK : va_K D vwCl (tyA cs) s) (hret : ∀ (v : Int32) (Im9 : FI) (Vm9 : FV) (H : Heap) (locs : List Loc) (pc : Nat) (ls : Array Slot), some (v, Im9, Vm9) = some out → va_P D vwCl (w_M cs o h Im9 Vm9) H → va_D A (w_M cs o h Im9 Vm9) → va_S A s.heap H locs → decode cX10_findWish pc = .ok (.ireturn, 1) → W p l e rm_M_findWish s m args below meth c H locs 0 0 Q (F0 m pc ls [.int v])) : ∀ ls : Array Slot, lv_has ls 7 [(0, .ref o), (1, .int x1), (2, .int x2)] → W p l e rm_M_findWish s m args below meth c s.heap [] 0 0 Q (F0 m 0 ls []) := by
  intro ls hl
  have hS : va_S A s.heap s.heap [] := va_S.rf
  unfold M_findWish at hf
  refine lv_iconst (v := 0) hx hb dX10_findWish_0 (by decide) ?_
  refine lv_istore_n (lv' := [(3, .int 0), (0, .ref o), (1, .int x1), (2, .int x2)]) hx hb dX10_findWish_1 rfl hl (by decide) rfl (fun ls hl => ?_)
  have L2 : ∀ (k_2 : FV → Option (Int32 × FI × FV)) (hk_2 : ∀ (Vm_2 : FV), k_2 Vm_2 = some out → ∀ (H : Heap) (locs : List Loc), va_P D vwCl (w_M cs o h I Vm_2) H → va_D A (w_M cs o h I Vm_2) → va_S A s.heap H locs → ∀ ls : Array Slot, lv_has ls 7 [(0, .ref o), (1, .int x1), (2, .int x2)] → W p l e rm_M_findWish s m args below meth c H locs 0 0 Q (F0 m 33 ls [])), ∀ (n_2 : Nat) (x3_2 : Int32) (Vm_2 : FV), M_findWish_L2 f x2 k_2 n_2 x3_2 Vm_2 = some out → ∀ (H : Heap) (locs : List Loc), va_P D vwCl (w_M cs o h I Vm_2) H → va_D A (w_M cs o h I Vm_2) → va_S A s.heap H locs → ∀ ls : Array Slot, lv_has ls 7 [(0, .ref o), (1, .int x1), (2, .int x2), (3, .int x3_2)] → W p l e rm_M_findWish s m args below meth c H locs 0 0 Q (F0 m 2 ls []) := by
    intro k_2 hk_2 n_2
    induction n_2 with
    | zero => intro x3_2 Vm_2 hf; rw [M_findWish_L2] at hf; cases hf
    | succ n_2 ih_2 =>
      intro x3_2 Vm_2 hf H locs hP hD hS ls hl
      rw [M_findWish_L2] at hf
      refine lv_iload_n hx hb dX10_findWish_2 rfl (lv_at hl 3 rfl) ?_
      refine lv_iload_n hx hb dX10_findWish_3 rfl (lv_at hl 2 rfl) ?_
      refine lv_icmp_gt (tgt := 33) hx hb dX10_findWish_4 (by decide) (fun c4 => ?_) (fun c4 => ?_)
      · replace hf := ip c4 hf
        exact hk_2 Vm_2 hf _ _ hP hD hS _ (lv_sub hl [0, 1, 2] rfl)
      · replace hf := im c4 hf
        refine lv_aload_n hx hb dX10_findWish_7 rfl (lv_at hl 0 rfl) ?_
        refine va_get (D := D) (ci := 10) (v := .ref (h 34)) (C := RX10) (T := TX10) (N := 38) hx hb hts in_X10 hown hK hP 0 rfl rfl 34 (by decide) g_83 (fun _ h9 => h9) rfl dX10_findWish_8 ?_
        refine lv_sipush (v := 600) hx hb dX10_findWish_11 (by decide) ?_
        refine lv_iload_n hx hb dX10_findWish_14 rfl (lv_at hl 3 rfl) ?_
        refine lv_iadd hx hb dX10_findWish_15 ?_
        refine lv_iload_n hx hb dX10_findWish_16 rfl (lv_at hl 3 rfl) ?_
        obtain ⟨j26, ej26, hf⟩ := nme hf
        have J26 : ∀ (t2_26 : Int32), j26 t2_26 = some out → ∀ (H : Heap) (locs : List Loc), va_P D vwCl (w_M cs o h I Vm_2) H → va_D A (w_M cs o h I Vm_2) → va_S A s.heap H locs → ∀ ls : Array Slot, lv_has ls 7 [(0, .ref o), (1, .int x1), (2, .int x2), (3, .int x3_2)] → W p l e rm_M_findWish s m args below meth c H locs 0 0 Q (F0 m 26 ls [.int t2_26, .int (600 + x3_2), .ref (h 34)]) := by
          intro t2_26 hf H locs hP hD hS ls hl
          rw [ej26] at hf
          obtain ⟨c26, hf⟩ := gd hf
          refine va_iast (f := (Vm_2 34)) hx hb hK hP hD hS 25 0 rfl rfl c26 dX10_findWish_26 (fun H locs hP hD hS => ?_)
          obtain ⟨V1, eV1, hf⟩ := nme hf
          have hP : va_P D vwCl (w_M cs o h I V1) H := by rw [eV1]; exact hP
          have hD : va_D A (w_M cs o h I V1) := by rw [eV1]; exact hD
          refine lv_iinc (v := (x3_2 + 1)) (lv' := [(3, .int (x3_2 + 1)), (0, .ref o), (1, .int x1), (2, .int x2)]) hx hb dX10_findWish_27 hl (k := 3) rfl (by rfl) (by decide) rfl (fun ls hl => ?_)
          refine lv_goto (tgt := 2) hx hb dX10_findWish_30 (by decide) ?_
          exact ih_2 (x3_2 + 1) V1 hf _ _ hP hD hS _ (lv_sub hl [1, 2, 3, 0] rfl)
        refine lv_if_ne (tgt := 24) hx hb dX10_findWish_17 (by decide) (fun c17 => ?_) (fun c17 => ?_)
        · replace hf := im c17 hf
          refine lv_ldc (v := 99999) hx hb hown k_193 dX10_findWish_24 ?_
          exact J26 99999 hf _ _ hP hD hS _ (lv_sub hl [0, 1, 2, 3] rfl)
        · replace hf := ip c17 hf
          refine lv_iconst (v := 0) hx hb dX10_findWish_20 (by decide) ?_
          refine lv_goto (tgt := 26) hx hb dX10_findWish_21 (by decide) ?_
          exact J26 0 hf _ _ hP hD hS _ (lv_sub hl [0, 1, 2, 3] rfl)
  refine L2 _ (fun Vm_2 hf H locs hP hD hS ls hl => ?_) f 0 V hf _ _ hP hD hS _ (lv_sub hl [1, 2, 3, 0] rfl)
  refine lv_iconst (v := 5) hx hb dX10_findWish_33 (by decide) ?_
  refine lv_istore_n (lv' := [(3, .int 5), (0, .ref o), (1, .int x1), (2, .int x2)]) hx hb dX10_findWish_34 rfl hl (by decide) rfl (fun ls hl => ?_)
  have L35 : ∀ (k_35 : FV → Option (Int32 × FI × FV)) (hk_35 : ∀ (Vm_35 : FV), k_35 Vm_35 = some out → ∀ (H : Heap) (locs : List Loc), va_P D vwCl (w_M cs o h I Vm_35) H → va_D A (w_M cs o h I Vm_35) → va_S A s.heap H locs → ∀ ls : Array Slot, lv_has ls 7 [(0, .ref o), (2, .int x2)] → W p l e rm_M_findWish s m args below meth c H locs 0 0 Q (F0 m 169 ls [])), ∀ (n_35 : Nat) (x3_35 : Int32) (Vm_35 : FV), M_findWish_L35 f x2 x1 I k_35 n_35 x3_35 Vm_35 = some out → ∀ (H : Heap) (locs : List Loc), va_P D vwCl (w_M cs o h I Vm_35) H → va_D A (w_M cs o h I Vm_35) → va_S A s.heap H locs → ∀ ls : Array Slot, lv_has ls 7 [(0, .ref o), (1, .int x1), (2, .int x2), (3, .int x3_35)] → W p l e rm_M_findWish s m args below meth c H locs 0 0 Q (F0 m 35 ls []) := by
    intro k_35 hk_35 n_35
    induction n_35 with
    | zero => intro x3_35 Vm_35 hf; rw [M_findWish_L35] at hf; cases hf
    | succ n_35 ih_35 =>
      intro x3_35 Vm_35 hf H locs hP hD hS ls hl
      rw [M_findWish_L35] at hf
      refine lv_iload_n hx hb dX10_findWish_35 rfl (lv_at hl 3 rfl) ?_
      refine lv_if_lt (tgt := 169) hx hb dX10_findWish_36 (by decide) (fun c36 => ?_) (fun c36 => ?_)
      · replace hf := ip c36 hf
        exact hk_35 Vm_35 hf _ _ hP hD hS _ (lv_sub hl [0, 2] rfl)
      · replace hf := im c36 hf
        refine lv_iconst (v := 0) hx hb dX10_findWish_39 (by decide) ?_
        refine lv_istore (lv' := [(4, .int 0), (0, .ref o), (1, .int x1), (2, .int x2), (3, .int x3_35)]) hx hb dX10_findWish_40 hl (by decide) rfl (fun ls hl => ?_)
        have L42 : ∀ (k_42 : FV → Option (Int32 × FI × FV)) (hk_42 : ∀ (Vm_42 : FV), k_42 Vm_42 = some out → ∀ (H : Heap) (locs : List Loc), va_P D vwCl (w_M cs o h I Vm_42) H → va_D A (w_M cs o h I Vm_42) → va_S A s.heap H locs → ∀ ls : Array Slot, lv_has ls 7 [(0, .ref o), (1, .int x1), (2, .int x2), (3, .int x3_35)] → W p l e rm_M_findWish s m args below meth c H locs 0 0 Q (F0 m 163 ls [])), ∀ (n_42 : Nat) (x4_42 : Int32) (Vm_42 : FV), M_findWish_L42 f x2 x3_35 x1 I k_42 n_42 x4_42 Vm_42 = some out → ∀ (H : Heap) (locs : List Loc), va_P D vwCl (w_M cs o h I Vm_42) H → va_D A (w_M cs o h I Vm_42) → va_S A s.heap H locs → ∀ ls : Array Slot, lv_has ls 7 [(0, .ref o), (1, .int x1), (2, .int x2), (3, .int x3_35), (4, .int x4_42)] → W p l e rm_M_findWish s m args below meth c H locs 0 0 Q (F0 m 42 ls []) := by
          intro k_42 hk_42 n_42
          induction n_42 with
          | zero => intro x4_42 Vm_42 hf; rw [M_findWish_L42] at hf; cases hf
          | succ n_42 ih_42 =>
            intro x4_42 Vm_42 hf H locs hP hD hS ls hl
            rw [M_findWish_L42] at hf
            refine lv_iload hx hb dX10_findWish_42 (lv_at hl 4 rfl) ?_
            refine lv_iload_n hx hb dX10_findWish_44 rfl (lv_at hl 2 rfl) ?_
            refine lv_icmp_gt (tgt := 163) hx hb dX10_findWish_45 (by decide) (fun c45 => ?_) (fun c45 => ?_)
            · replace hf := ip c45 hf
              exact hk_42 Vm_42 hf _ _ hP hD hS _ (lv_sub hl [0, 1, 2, 3] rfl)
            · replace hf := im c45 hf
              refine lv_aload_n hx hb dX10_findWish_48 rfl (lv_at hl 0 rfl) ?_
              refine va_get (D := D) (ci := 10) (v := .ref (h 34)) (C := RX10) (T := TX10) (N := 38) hx hb hts in_X10 hown hK hP 0 rfl rfl 34 (by decide) g_83 (fun _ h9 => h9) rfl dX10_findWish_49 ?_
              refine lv_bipush (v := 100) hx hb dX10_findWish_52 (by decide) ?_
              refine lv_iload_n hx hb dX10_findWish_54 rfl (lv_at hl 3 rfl) ?_
              refine lv_imul hx hb dX10_findWish_55 ?_
              refine lv_iload hx hb dX10_findWish_56 (lv_at hl 4 rfl) ?_
              refine lv_iadd hx hb dX10_findWish_58 ?_
              refine lv_ldc (v := 99999) hx hb hown k_193 dX10_findWish_59 ?_
              obtain ⟨c61, hf⟩ := gd hf
              refine va_iast (f := (Vm_42 34)) hx hb hK hP hD hS 25 0 rfl rfl c61 dX10_findWish_61 (fun H locs hP hD hS => ?_)
              obtain ⟨V2, eV2, hf⟩ := nme hf
              have hP : va_P D vwCl (w_M cs o h I V2) H := by rw [eV2]; exact hP
              have hD : va_D A (w_M cs o h I V2) := by rw [eV2]; exact hD
              refine lv_iconst (v := 0) hx hb dX10_findWish_62 (by decide) ?_
              refine lv_istore (lv' := [(5, .int 0), (0, .ref o), (1, .int x1), (2, .int x2), (3, .int x3_35), (4, .int x4_42)]) hx hb dX10_findWish_63 hl (by decide) rfl (fun ls hl => ?_)
              have L65 : ∀ (k_65 : FV → Option (Int32 × FI × FV)) (hk_65 : ∀ (Vm_65 : FV), k_65 Vm_65 = some out → ∀ (H : Heap) (locs : List Loc), va_P D vwCl (w_M cs o h I Vm_65) H → va_D A (w_M cs o h I Vm_65) → va_S A s.heap H locs → ∀ ls : Array Slot, lv_has ls 7 [(0, .ref o), (1, .int x1), (2, .int x2), (3, .int x3_35), (4, .int x4_42)] → W p l e rm_M_findWish s m args below meth c H locs 0 0 Q (F0 m 157 ls [])), ∀ (n_65 : Nat) (x5_65 : Int32) (Vm_65 : FV), M_findWish_L65 f x3_35 x1 x4_42 I k_65 n_65 x5_65 Vm_65 = some out → ∀ (H : Heap) (locs : List Loc), va_P D vwCl (w_M cs o h I Vm_65) H → va_D A (w_M cs o h I Vm_65) → va_S A s.heap H locs → ∀ ls : Array Slot, lv_has ls 7 [(0, .ref o), (1, .int x1), (2, .int x2), (3, .int x3_35), (4, .int x4_42), (5, .int x5_65)] → W p l e rm_M_findWish s m args below meth c H locs 0 0 Q (F0 m 65 ls []) := by
                intro k_65 hk_65 n_65
                induction n_65 with
                | zero => intro x5_65 Vm_65 hf; rw [M_findWish_L65] at hf; cases hf
                | succ n_65 ih_65 =>
                  intro x5_65 Vm_65 hf H locs hP hD hS ls hl
                  rw [M_findWish_L65] at hf
                  refine lv_iload hx hb dX10_findWish_65 (lv_at hl 5 rfl) ?_
                  refine lv_aload_n hx hb dX10_findWish_67 rfl (lv_at hl 0 rfl) ?_
                  refine lv_iload_n hx hb dX10_findWish_68 rfl (lv_at hl 3 rfl) ?_
                  refine lv_iload_n hx hb dX10_findWish_69 rfl (lv_at hl 1 rfl) ?_
                  refine lv_iload hx hb dX10_findWish_70 (lv_at hl 4 rfl) ?_
                  obtain ⟨zr3, qr3, hf⟩ := bd1 hf
                  refine vp_callSi (va_Run.run (va_runV (As := [.int x3_35, .int x1, .int x4_42]) (rest := [.int x5_65]) ⟨hx, hb, hml, hown, hts⟩ (c_M_mostOf l D cs o h I Vm_65 x3_35 x1 x4_42 f zr3 qr3) w_mostOf_194 ⟨xR_moved, va_recv hK hP (ci := 10) (q0 := 0) rfl rfl, fun U hU hW => ⟨rfl, by rw [hU]; exact hP, va_K.moved hW.alike hK⟩⟩ rfl rfl hl.1 rfl (lv_room (Nat.le_of_ble_eq_true rfl)) dX10_findWish_72 ⟨Nat.zero_le _, Nat.zero_le _⟩)) (fun r3 er3 => ?_)
                  rw [er3]
                  refine lv_icmp_gt (tgt := 157) hx hb dX10_findWish_75 (by decide) (fun c75 => ?_) (fun c75 => ?_)
                  · replace hf := ip c75 hf
                    exact hk_65 Vm_65 hf _ _ hP hD hS _ (lv_sub hl [0, 1, 2, 3, 4] rfl)
                  · replace hf := im c75 hf
                    refine lv_aload_n hx hb dX10_findWish_78 rfl (lv_at hl 0 rfl) ?_
                    refine lv_iload_n hx hb dX10_findWish_79 rfl (lv_at hl 3 rfl) ?_
                    refine lv_iload hx hb dX10_findWish_80 (lv_at hl 5 rfl) ?_
                    obtain ⟨zr4, qr4, hf⟩ := bd1 hf
                    refine vp_callSi (va_Run.run (va_runV (As := [.int x3_35, .int x5_65]) (rest := []) ⟨hx, hb, hml, hown, hts⟩ (c_M_priceOf l D cs o h I Vm_65 x3_35 x5_65 f zr4 qr4) w_priceOf_170 ⟨xR_moved, va_recv hK hP (ci := 10) (q0 := 0) rfl rfl, fun U hU hW => ⟨rfl, by rw [hU]; exact hP, va_K.moved hW.alike hK⟩⟩ rfl rfl hl.1 rfl (lv_room (Nat.le_of_ble_eq_true rfl)) dX10_findWish_82 ⟨Nat.zero_le _, Nat.zero_le _⟩)) (fun r4 er4 => ?_)
                    rw [er4]
                    refine lv_aload_n hx hb dX10_findWish_85 rfl (lv_at hl 0 rfl) ?_
                    refine va_get (D := D) (ci := 10) (v := .ref (h 34)) (C := RX10) (T := TX10) (N := 38) hx hb hts in_X10 hown hK hP 0 rfl rfl 34 (by decide) g_83 (fun _ h9 => h9) rfl dX10_findWish_86 ?_
                    refine lv_bipush (v := 100) hx hb dX10_findWish_89 (by decide) ?_
                    refine lv_iload_n hx hb dX10_findWish_91 rfl (lv_at hl 3 rfl) ?_
                    refine lv_iconst (v := 1) hx hb dX10_findWish_92 (by decide) ?_
                    refine lv_iadd hx hb dX10_findWish_93 ?_
                    refine lv_imul hx hb dX10_findWish_94 ?_
                    refine lv_iload hx hb dX10_findWish_95 (lv_at hl 4 rfl) ?_
                    refine lv_iadd hx hb dX10_findWish_97 ?_
                    refine lv_iload hx hb dX10_findWish_98 (lv_at hl 5 rfl) ?_
                    refine lv_isub hx hb dX10_findWish_100 ?_
                    obtain ⟨c101, hf⟩ := gd hf
                    refine va_iald (f := (Vm_65 34)) hx hb hK hP 25 0 rfl rfl c101 dX10_findWish_101 ?_
                    refine lv_iadd hx hb dX10_findWish_102 ?_
                    refine lv_topi (fun y5 ey5 => ?_)
                    replace hf := nmd hf ey5
                    refine lv_istore (lv' := [(6, .int y5), (0, .ref o), (1, .int x1), (2, .int x2), (3, .int x3_35), (4, .int x4_42), (5, .int x5_65)]) hx hb dX10_findWish_103 hl (by decide) rfl (fun ls hl => ?_)
                    refine lv_aload_n hx hb dX10_findWish_105 rfl (lv_at hl 1 rfl) ?_
                    refine va_get (D := D) (ci := 10) (v := .ref (h 34)) (C := RX10) (T := TX10) (N := 38) hx hb hts in_X10 hown hK hP 0 rfl rfl 34 (by decide) g_83 (fun _ h9 => h9) rfl dX10_findWish_106 ?_
                    refine lv_bipush (v := 100) hx hb dX10_findWish_109 (by decide) ?_
                    refine lv_iload_n hx hb dX10_findWish_111 rfl (lv_at hl 4 rfl) ?_
                    refine lv_imul hx hb dX10_findWish_112 ?_
                    refine lv_iload hx hb dX10_findWish_113 (lv_at hl 5 rfl) ?_
                    refine lv_iadd hx hb dX10_findWish_115 ?_
                    refine lv_iload hx hb dX10_findWish_116 (lv_at hl 0 rfl) ?_
                    refine lv_aload_n hx hb dX10_findWish_118 rfl (lv_at hl 1 rfl) ?_
                    refine va_get (D := D) (ci := 10) (v := .ref (h 34)) (C := RX10) (T := TX10) (N := 38) hx hb hts in_X10 hown hK hP 0 rfl rfl 34 (by decide) g_83 (fun _ h9 => h9) rfl dX10_findWish_119 ?_
                    refine lv_bipush (v := 100) hx hb dX10_findWish_122 (by decide) ?_
                    refine lv_iload_n hx hb dX10_findWish_124 rfl (lv_at hl 4 rfl) ?_
                    refine lv_imul hx hb dX10_findWish_125 ?_
                    refine lv_iload hx hb dX10_findWish_126 (lv_at hl 5 rfl) ?_
                    refine lv_iadd hx hb dX10_findWish_128 ?_
                    obtain ⟨c129, hf⟩ := gd hf
                    refine va_iald (f := (Vm_65 34)) hx hb hK hP 25 0 rfl rfl c129 dX10_findWish_129 ?_
                    obtain ⟨j150, ej150, hf⟩ := nme hf
                    have J150 : ∀ (t2_150 : Int32), j150 t2_150 = some out → ∀ (H : Heap) (locs : List Loc), va_P D vwCl (w_M cs o h I Vm_65) H → va_D A (w_M cs o h I Vm_65) → va_S A s.heap H locs → ∀ ls : Array Slot, lv_has ls 7 [(0, .ref o), (1, .int x1), (2, .int x2), (3, .int x3_35), (4, .int x4_42), (5, .int x5_65)] → W p l e rm_M_findWish s m args below meth c H locs 0 0 Q (F0 m 150 ls [.int t2_150, .int ((100 * x3_35) + x4_42), .ref (h 34)]) := by
                      intro t2_150 hf H locs hP hD hS ls hl
                      rw [ej150] at hf
                      obtain ⟨c150, hf⟩ := gd hf
                      refine va_iast (f := (Vm_65 34)) hx hb hK hP hD hS 25 0 rfl rfl c150 dX10_findWish_150 (fun H locs hP hD hS => ?_)
                      obtain ⟨V6, eV6, hf⟩ := nme hf
                      have hP : va_P D vwCl (w_M cs o h I V6) H := by rw [eV6]; exact hP
                      have hD : va_D A (w_M cs o h I V6) := by rw [eV6]; exact hD
                      refine lv_iinc (v := (x5_65 + 1)) (lv' := [(5, .int (x5_65 + 1)), (0, .ref o), (1, .int x1), (2, .int x2), (3, .int x3_35), (4, .int x4_42)]) hx hb dX10_findWish_151 hl (k := 5) rfl (by rfl) (by decide) rfl (fun ls hl => ?_)
                      refine lv_goto (tgt := 65) hx hb dX10_findWish_154 (by decide) ?_
                      exact ih_65 (x5_65 + 1) V6 hf _ _ hP hD hS _ (lv_sub hl [1, 2, 3, 4, 5, 0] rfl)
                    refine lv_icmp_ge (tgt := 138) hx hb dX10_findWish_130 (by decide) (fun c130 => ?_) (fun c130 => ?_)
                    · replace hf := ip c130 hf
                      refine lv_aload_n hx hb dX10_findWish_138 rfl (lv_at hl 1 rfl) ?_
                      refine va_get (D := D) (ci := 10) (v := .ref (h 34)) (C := RX10) (T := TX10) (N := 38) hx hb hts in_X10 hown hK hP 0 rfl rfl 34 (by decide) g_83 (fun _ h9 => h9) rfl dX10_findWish_139 ?_
                      refine lv_bipush (v := 100) hx hb dX10_findWish_142 (by decide) ?_
                      refine lv_iload_n hx hb dX10_findWish_144 rfl (lv_at hl 4 rfl) ?_
                      refine lv_imul hx hb dX10_findWish_145 ?_
                      refine lv_iload hx hb dX10_findWish_146 (lv_at hl 5 rfl) ?_
                      refine lv_iadd hx hb dX10_findWish_148 ?_
                      obtain ⟨c149, hf⟩ := gd hf
                      refine va_iald (f := (Vm_65 34)) hx hb hK hP 25 0 rfl rfl c149 dX10_findWish_149 ?_
                      exact J150 ((Vm_65 34) ((100 * x3_35) + x4_42).toNatClampNeg) hf _ _ hP hD hS _ (lv_sub hl [1, 2, 3, 4, 5, 6] rfl)
                    · replace hf := im c130 hf
                      refine lv_iload hx hb dX10_findWish_133 (lv_at hl 0 rfl) ?_
                      refine lv_goto (tgt := 150) hx hb dX10_findWish_135 (by decide) ?_
                      exact J150 y5 hf _ _ hP hD hS _ (lv_sub hl [1, 2, 3, 4, 5, 6] rfl)
              refine L65 _ (fun Vm_65 hf H locs hP hD hS ls hl => ?_) f 0 V2 hf _ _ hP hD hS _ (lv_sub hl [1, 2, 3, 4, 5, 0] rfl)
              refine lv_iinc (v := (x4_42 + 1)) (lv' := [(4, .int (x4_42 + 1)), (0, .ref o), (1, .int x1), (2, .int x2), (3, .int x3_35)]) hx hb dX10_findWish_157 hl (k := 4) rfl (by rfl) (by decide) rfl (fun ls hl => ?_)
              refine lv_goto (tgt := 42) hx hb dX10_findWish_160 (by decide) ?_
              exact ih_42 (x4_42 + 1) Vm_65 hf _ _ hP hD hS _ (lv_sub hl [1, 2, 3, 4, 0] rfl)
        refine L42 _ (fun Vm_42 hf H locs hP hD hS ls hl => ?_) f 0 Vm_35 hf _ _ hP hD hS _ (lv_sub hl [1, 2, 3, 4, 0] rfl)
        refine lv_iinc (v := (x3_35 + (-1))) (lv' := [(3, .int (x3_35 + (-1))), (0, .ref o), (1, .int x1), (2, .int x2)]) hx hb dX10_findWish_163 hl (k := 3) rfl (by rfl) (by decide) rfl (fun ls hl => ?_)
        refine lv_goto (tgt := 35) hx hb dX10_findWish_166 (by decide) ?_
        exact ih_35 (x3_35 + (-1)) Vm_42 hf _ _ hP hD hS _ (lv_sub hl [1, 2, 3, 0] rfl)
  refine L35 _ (fun Vm_35 hf H locs hP hD hS ls hl => ?_) f 5 Vm_2 hf _ _ hP hD hS _ (lv_sub hl [1, 2, 3, 0] rfl)
  refine lv_aload_n hx hb dX10_findWish_169 rfl (lv_at hl 0 rfl) ?_
  refine va_get (D := D) (ci := 10) (v := .ref (h 34)) (C := RX10) (T := TX10) (N := 38) hx hb hts in_X10 hown hK hP 0 rfl rfl 34 (by decide) g_83 (fun _ h9 => h9) rfl dX10_findWish_170 ?_
  refine lv_iload_n hx hb dX10_findWish_173 rfl (lv_at hl 1 rfl) ?_
  obtain ⟨c174, hf⟩ := gd hf
  refine va_iald (f := (Vm_35 34)) hx hb hK hP 25 0 rfl rfl c174 dX10_findWish_174 ?_
  refine lv_ldc (v := 99999) hx hb hown k_193 dX10_findWish_175 ?_
  refine lv_icmp_lt (tgt := 183) hx hb dX10_findWish_177 (by decide) (fun c177 => ?_) (fun c177 => ?_)
  · replace hf := ip c177 hf
    refine lv_iload_n hx hb dX10_findWish_183 rfl (lv_at hl 1 rfl) ?_
    refine lv_istore_n (lv' := [(3, .int x2), (0, .ref o), (2, .int x2)]) hx hb dX10_findWish_184 rfl hl (by decide) rfl (fun ls hl => ?_)
    refine lv_iconst (v := 0) hx hb dX10_findWish_185 (by decide) ?_
    refine lv_istore (lv' := [(4, .int 0), (3, .int x2), (0, .ref o), (2, .int x2)]) hx hb dX10_findWish_186 hl (by decide) rfl (fun ls hl => ?_)
    have L188 : ∀ (k_188 : FV → Option (Int32 × FI × FV)) (hk_188 : ∀ (Vm_188 : FV), k_188 Vm_188 = some out → ∀ (H : Heap) (locs : List Loc), va_P D vwCl (w_M cs o h I Vm_188) H → va_D A (w_M cs o h I Vm_188) → va_S A s.heap H locs → ∀ ls : Array Slot, lv_has ls 7 [(0, .ref o), (2, .int x2)] → W p l e rm_M_findWish s m args below meth c H locs 0 0 Q (F0 m 265 ls [])), ∀ (n_188 : Nat) (x3_188 : Int32) (x4_188 : Int32) (Vm_188 : FV), M_findWish_L188 f I k_188 n_188 x3_188 x4_188 Vm_188 = some out → ∀ (H : Heap) (locs : List Loc), va_P D vwCl (w_M cs o h I Vm_188) H → va_D A (w_M cs o h I Vm_188) → va_S A s.heap H locs → ∀ ls : Array Slot, lv_has ls 7 [(0, .ref o), (2, .int x2), (3, .int x3_188), (4, .int x4_188)] → W p l e rm_M_findWish s m args below meth c H locs 0 0 Q (F0 m 188 ls []) := by
      intro k_188 hk_188 n_188
      induction n_188 with
      | zero => intro x3_188 x4_188 Vm_188 hf; rw [M_findWish_L188] at hf; cases hf
      | succ n_188 ih_188 =>
        intro x3_188 x4_188 Vm_188 hf H locs hP hD hS ls hl
        rw [M_findWish_L188] at hf
        refine lv_iload hx hb dX10_findWish_188 (lv_at hl 3 rfl) ?_
        refine lv_bipush (v := 6) hx hb dX10_findWish_190 (by decide) ?_
        refine lv_icmp_ge (tgt := 265) hx hb dX10_findWish_192 (by decide) (fun c192 => ?_) (fun c192 => ?_)
        · replace hf := ip c192 hf
          exact hk_188 Vm_188 hf _ _ hP hD hS _ (lv_sub hl [0, 1] rfl)
        · replace hf := im c192 hf
          refine lv_iconst (v := 0) hx hb dX10_findWish_195 (by decide) ?_
          refine lv_istore (lv' := [(5, .int 0), (0, .ref o), (2, .int x2), (3, .int x3_188), (4, .int x4_188)]) hx hb dX10_findWish_196 hl (by decide) rfl (fun ls hl => ?_)
          have L198 : ∀ (k_198 : Int32 → Option (Int32 × FI × FV)) (hk_198 : ∀ (x5_198 : Int32), k_198 x5_198 = some out → ∀ (H : Heap) (locs : List Loc), va_P D vwCl (w_M cs o h I Vm_188) H → va_D A (w_M cs o h I Vm_188) → va_S A s.heap H locs → ∀ ls : Array Slot, lv_has ls 7 [(0, .ref o), (2, .int x2), (3, .int x3_188), (4, .int x4_188), (5, .int x5_198)] → W p l e rm_M_findWish s m args below meth c H locs 0 0 Q (F0 m 245 ls [])), ∀ (n_198 : Nat) (x5_198 : Int32), M_findWish_L198 f x4_188 I Vm_188 x3_188 k_198 n_198 x5_198 = some out → ∀ (H : Heap) (locs : List Loc), va_P D vwCl (w_M cs o h I Vm_188) H → va_D A (w_M cs o h I Vm_188) → va_S A s.heap H locs → ∀ ls : Array Slot, lv_has ls 7 [(0, .ref o), (2, .int x2), (3, .int x3_188), (4, .int x4_188), (5, .int x5_198)] → W p l e rm_M_findWish s m args below meth c H locs 0 0 Q (F0 m 198 ls []) := by
            intro k_198 hk_198 n_198
            induction n_198 with
            | zero => intro x5_198 hf; rw [M_findWish_L198] at hf; cases hf
            | succ n_198 ih_198 =>
              intro x5_198 hf H locs hP hD hS ls hl
              rw [M_findWish_L198] at hf
              refine lv_aload_n hx hb dX10_findWish_198 rfl (lv_at hl 0 rfl) ?_
              refine lv_iload hx hb dX10_findWish_199 (lv_at hl 3 rfl) ?_
              refine lv_iload hx hb dX10_findWish_201 (lv_at hl 4 rfl) ?_
              obtain ⟨zr7, qr7, hf⟩ := bd1 hf
              refine vp_callSi (va_Run.run (va_runV (As := [.int x4_188, .int x5_198]) (rest := []) ⟨hx, hb, hml, hown, hts⟩ (c_M_priceOf l D cs o h I Vm_188 x4_188 x5_198 f zr7 qr7) w_priceOf_170 ⟨xR_moved, va_recv hK hP (ci := 10) (q0 := 0) rfl rfl, fun U hU hW => ⟨rfl, by rw [hU]; exact hP, va_K.moved hW.alike hK⟩⟩ rfl rfl hl.1 rfl (lv_room (Nat.le_of_ble_eq_true rfl)) dX10_findWish_203 ⟨Nat.zero_le _, Nat.zero_le _⟩)) (fun r7 er7 => ?_)
              rw [er7]
              refine lv_aload_n hx hb dX10_findWish_206 rfl (lv_at hl 0 rfl) ?_
              refine va_get (D := D) (ci := 10) (v := .ref (h 34)) (C := RX10) (T := TX10) (N := 38) hx hb hts in_X10 hown hK hP 0 rfl rfl 34 (by decide) g_83 (fun _ h9 => h9) rfl dX10_findWish_207 ?_
              refine lv_bipush (v := 100) hx hb dX10_findWish_210 (by decide) ?_
              refine lv_iload hx hb dX10_findWish_212 (lv_at hl 3 rfl) ?_
              refine lv_iconst (v := 1) hx hb dX10_findWish_214 (by decide) ?_
              refine lv_iadd hx hb dX10_findWish_215 ?_
              refine lv_imul hx hb dX10_findWish_216 ?_
              refine lv_iload_n hx hb dX10_findWish_217 rfl (lv_at hl 2 rfl) ?_
              refine lv_iadd hx hb dX10_findWish_218 ?_
              refine lv_iload hx hb dX10_findWish_219 (lv_at hl 4 rfl) ?_
              refine lv_isub hx hb dX10_findWish_221 ?_
              obtain ⟨c222, hf⟩ := gd hf
              refine va_iald (f := (Vm_188 34)) hx hb hK hP 25 0 rfl rfl c222 dX10_findWish_222 ?_
              refine lv_iadd hx hb dX10_findWish_223 ?_
              refine lv_aload_n hx hb dX10_findWish_224 rfl (lv_at hl 0 rfl) ?_
              refine va_get (D := D) (ci := 10) (v := .ref (h 34)) (C := RX10) (T := TX10) (N := 38) hx hb hts in_X10 hown hK hP 0 rfl rfl 34 (by decide) g_83 (fun _ h9 => h9) rfl dX10_findWish_225 ?_
              refine lv_bipush (v := 100) hx hb dX10_findWish_228 (by decide) ?_
              refine lv_iload hx hb dX10_findWish_230 (lv_at hl 3 rfl) ?_
              refine lv_imul hx hb dX10_findWish_232 ?_
              refine lv_iload_n hx hb dX10_findWish_233 rfl (lv_at hl 2 rfl) ?_
              refine lv_iadd hx hb dX10_findWish_234 ?_
              obtain ⟨c235, hf⟩ := gd hf
              refine va_iald (f := (Vm_188 34)) hx hb hK hP 25 0 rfl rfl c235 dX10_findWish_235 ?_
              refine lv_icmp_eq (tgt := 245) hx hb dX10_findWish_236 (by decide) (fun c236 => ?_) (fun c236 => ?_)
              · replace hf := ip c236 hf
                exact hk_198 x5_198 hf _ _ hP hD hS _ (lv_sub hl [0, 1, 2, 3, 4] rfl)
              · replace hf := im c236 hf
                refine lv_iinc (v := (x5_198 + 1)) (lv' := [(5, .int (x5_198 + 1)), (0, .ref o), (2, .int x2), (3, .int x3_188), (4, .int x4_188)]) hx hb dX10_findWish_239 hl (k := 4) rfl (by rfl) (by decide) rfl (fun ls hl => ?_)
                refine lv_goto (tgt := 198) hx hb dX10_findWish_242 (by decide) ?_
                exact ih_198 (x5_198 + 1) hf _ _ hP hD hS _ (lv_sub hl [1, 2, 3, 4, 0] rfl)
          refine L198 _ (fun x5_198 hf H locs hP hD hS ls hl => ?_) f 0 hf _ _ hP hD hS _ (lv_sub hl [1, 2, 3, 4, 0] rfl)
          refine lv_aload_n hx hb dX10_findWish_245 rfl (lv_at hl 0 rfl) ?_
          refine va_get (D := D) (ci := 10) (v := .ref (h 35)) (C := RX10) (T := TX10) (N := 38) hx hb hts in_X10 hown hK hP 0 rfl rfl 35 (by decide) g_86 (fun _ h9 => h9) rfl dX10_findWish_246 ?_
          refine lv_iload hx hb dX10_findWish_249 (lv_at hl 3 rfl) ?_
          refine lv_iload hx hb dX10_findWish_251 (lv_at hl 4 rfl) ?_
          obtain ⟨c253, hf⟩ := gd hf
          refine va_iast (f := (Vm_188 35)) hx hb hK hP hD hS 26 0 rfl rfl c253 dX10_findWish_253 (fun H locs hP hD hS => ?_)
          obtain ⟨V8, eV8, hf⟩ := nme hf
          have hP : va_P D vwCl (w_M cs o h I V8) H := by rw [eV8]; exact hP
          have hD : va_D A (w_M cs o h I V8) := by rw [eV8]; exact hD
          refine lv_iload_n hx hb dX10_findWish_254 rfl (lv_at hl 2 rfl) ?_
          refine lv_iload hx hb dX10_findWish_255 (lv_at hl 4 rfl) ?_
          refine lv_isub hx hb dX10_findWish_257 ?_
          refine lv_istore_n (lv' := [(3, .int (x3_188 - x5_198)), (0, .ref o), (2, .int x2), (4, .int x4_188), (5, .int x5_198)]) hx hb dX10_findWish_258 rfl hl (by decide) rfl (fun ls hl => ?_)
          refine lv_iinc (v := (x4_188 + 1)) (lv' := [(4, .int (x4_188 + 1)), (3, .int (x3_188 - x5_198)), (0, .ref o), (2, .int x2), (5, .int x5_198)]) hx hb dX10_findWish_259 hl (k := 3) rfl (by rfl) (by decide) rfl (fun ls hl => ?_)
          refine lv_goto (tgt := 188) hx hb dX10_findWish_262 (by decide) ?_
          exact ih_188 (x3_188 - x5_198) (x4_188 + 1) V8 hf _ _ hP hD hS _ (lv_sub hl [2, 3, 1, 0] rfl)
    refine L188 _ (fun Vm_188 hf H locs hP hD hS ls hl => ?_) f x2 0 Vm_35 hf _ _ hP hD hS _ (lv_sub hl [2, 3, 1, 0] rfl)
    refine lv_aload_n hx hb dX10_findWish_265 rfl (lv_at hl 0 rfl) ?_
    refine va_get (D := D) (ci := 10) (v := .ref (h 34)) (C := RX10) (T := TX10) (N := 38) hx hb hts in_X10 hown hK hP 0 rfl rfl 34 (by decide) g_83 (fun _ h9 => h9) rfl dX10_findWish_266 ?_
    refine lv_iload_n hx hb dX10_findWish_269 rfl (lv_at hl 1 rfl) ?_
    obtain ⟨c270, hf⟩ := gd hf
    refine va_iald (f := (Vm_188 34)) hx hb hK hP 25 0 rfl rfl c270 dX10_findWish_270 ?_
    exact hret ((Vm_188 34) x2.toNatClampNeg) I Vm_188 _ _ 271 _ hf hP hD hS dX10_findWish_271
  · replace hf := im c177 hf
    refine lv_bipush (v := (-9)) hx hb dX10_findWish_180 (by decide) ?_
    exact hret (-9) I Vm_35 _ _ 182 _ hf hP hD hS dX10_findWish_182
set_option maxHeartbeats 4000000 in
set_option maxRecDepth 100000 in
theorem c_M_findWish (l : Launch) (D : va_G) (cs : Nat → ClassId) (o : Nat) (h : Nat → Nat) (sz : Nat) (I : FI) (V : FV) (x1 : Int32) (x2 : Int32) (f : Nat) (out : Int32 × FI × FV) (hf : M_findWish f x1 x2 I V = some out) : Met l yX10_findWish wsX10_findWish rm_M_findWish (va_Pc [.ref o, .int x1, .int x2] (xP D cs (w_M cs o h I V) sz)) (va_Qi (fun r u => (r, u) = out) (fun (u : FI × FV) t => xA D cs (va_A (w_M cs o h I V) sz) (w_M cs o h u.1 u.2) t) (va_A (w_M cs o h I V) sz)) 0 0 (va_A (w_M cs o h I V) sz) := by
  refine Met.ofW (cc := cX10_findWish) (maxL := 7) (ret := (some .int)) (by decide) rfl ?_
  intro p e s m args below meth c s₁ B hml hv
  obtain ⟨ha, hsz, hP, hK, hD0⟩ := hv
  have hx := B.exec
  have hb := B.bytes
  have hr := B.returns
  have hts := atoms_spec (ws := wsX10_findWish) B.pre
  have hown : s.vm.findClass RX10 = some m.cls := findClass_of_methodNamed B.named
  have hlocks := B.notSynchronized
  have in_X10 : ∀ w ∈ u_ws RX10 TX10 38, w ∈ wsX10_findWish := fun w h => List.mem_cons_of_mem _ (List.mem_append_right _ h)
  have g_83 := hts (Cond.fieldLink RX10 83 "DaysLentModel" "least" "[I") (by decide +kernel)
  have k_193 := hts (Cond.constant RX10 193 (99999)) (by decide +kernel)
  have w_mostOf_194 := cwV (R := rm_M_findWish) (s := s) (args := args) (rm := rm_M_mostOf) (mc := 0) (ms := 0) 3 hts gX10_findWish_X10_mostOf rfl rfl rfl (by decide +kernel) ⟨Nat.le_of_ble_eq_true rfl, Nat.le_of_ble_eq_true rfl⟩
  have w_priceOf_170 := cwV (R := rm_M_findWish) (s := s) (args := args) (rm := rm_M_priceOf) (mc := 0) (ms := 0) 2 hts gX10_findWish_X10_priceOf rfl rfl rfl (by decide +kernel) ⟨Nat.le_of_ble_eq_true rfl, Nat.le_of_ble_eq_true rfl⟩
  have g_86 := hts (Cond.fieldLink RX10 86 "DaysLentModel" "lends" "[I") (by decide +kernel)
  subst hsz
  have hD := hD0.self (sz := s.heap.size)
  generalize hAe : va_A (w_M cs o h I V) s.heap.size = A at hD ⊢
  have hA : ∀ q : Nat, s.heap.size ≤ q → A q := fun q h => by rw [← hAe]; exact Or.inr h
  have hl := lv_entry ([.ref o, .int x1, .int x2]) (n := 7) (Nat.le_of_ble_eq_true rfl)
  rw [show entryFrame m args 7 = entryFrame m ([.ref o, .int x1, .int x2] : List Value).toArray 7 from by rw [ha], lg_entry_eq]
  generalize (lg_sl ([.ref o, .int x1, .int x2]) ++ List.replicate (7 - (lg_sl ([.ref o, .int x1, .int x2])).length) Slot.unset).toArray = ls at hl ⊢
  generalize hQ : MQ below (va_Qi (fun r u => (r, u) = out) (fun (u : FI × FV) t => xA D cs A (w_M cs o h u.1 u.2) t) A) args s 0 0 A = Q
  have hret : ∀ (v : Int32) (Im9 : FI) (Vm9 : FV) (H : Heap) (locs : List Loc) (pc : Nat) (ls : Array Slot), some (v, Im9, Vm9) = some out → va_P D vwCl (w_M cs o h Im9 Vm9) H → va_D A (w_M cs o h Im9 Vm9) → va_S A s.heap H locs → decode cX10_findWish pc = .ok (.ireturn, 1) → W p l e rm_M_findWish s m args below meth c H locs 0 0 Q (F0 m pc ls [.int v]) := by
    intro v Im9 Vm9 H locs pc ls hf hP hD hS hd
    rw [← hQ]
    exact W.iret (v := v) hx hb hr (fun t ht hW => ⟨⟨v, (Im9, Vm9), rfl, Option.some.inj hf, by show va_P D vwCl (w_M cs o h Im9 Vm9) t.heap; rw [ht]; exact hP, va_K.moved hW.alike hK, hD⟩, hS.F ht⟩) hS.2.2 hd
  exact v_M_findWish hf hx hb hml hown hts in_X10 g_83 k_193 w_mostOf_194 w_priceOf_170 g_86 hA hP hD hK hret ls hl
def M_wish (f : Nat) (x1 : Int32) (x2 : Int32) (I : FI) (V : FV) : Option (Int32 × FI × FV) := nm (va_up I 0 0) (fun I1 => ob1 (M_noOne f x1 I1 V) (fun zr2 => (if zr2 = 0 then ob1 (M_in f (x2.toInt64) 1 99) (fun zr3 => (if zr3 = 0 then some ((-2), I1, V) else if x1 < 0 ∨ 6 ≤ x1.toNatClampNeg then none else ((if ((V 7) x1.toNatClampNeg) = 0 then ob3 (M_findWish f x1 x2 I1 V) (fun zr4 I5 V6 => some (zr4, I5, V6)) else some ((-3), I1, V))))) else some ((-1), I1, V))))
abbrev rm_M_wish : Room := { frames := 2, cells := 0, slots := 0, locals := 50 }
set_option maxHeartbeats 4000000 in
set_option maxRecDepth 100000 in
theorem v_M_wish {l : Launch} {p : Program} {e : Env} {s : State} {m : MethodId} {args : Array Value} {below : List Frame} {meth : Method} {c : Code} {Q : State → Prop} {D : va_G} {cs : Nat → ClassId} {o : Nat} {h : Nat → Nat} {A : Nat → Prop} {I : FI} {V : FV} {x1 : Int32} {x2 : Int32} {f : Nat} {out : Int32 × FI × FV} (hf : M_wish f x1 x2 I V = some out) (hx : p.tables.exec = Jvm.exec) (hb : c.code = cX10_wish) (hml : c.maxLocals = 3) (hown : s.vm.findClass RX10 = some m.cls) (hts : ∀ w ∈ wsX10_wish, w.before args s = true) (in_X10 : ∀ w ∈ u_ws RX10 TX10 38, w ∈ wsX10_wish) (g_92 : (Cond.fieldLink RX10 92 "DaysLentModel" "thrown" "I").before args s = true) (w_noOne_151 : CallW rm_M_wish s args RX10 RX10 151 yX10_noOne cX10_noOne 2 (some .boolean) wsX10_noOne rm_M_noOne 0 0 1) (k_168 : (Cond.constantLong RX10 168 (99)).before args s = true) (w_in_99 : CallB rm_M_wish s args RX10 99 yX10_in cX10_in 6 (some .boolean) wsX10_in rm_M_in 0 0 3 ∧ (Cond.static yX10_in).before args s = true) (g_19 : (Cond.fieldLink RX10 19 "DaysLentModel" "dead" "[Z").before args s = true) (w_findWish_198 : CallW rm_M_wish s args RX10 RX10 198 yX10_findWish cX10_findWish 7 (some .int) wsX10_findWish rm_M_findWish 0 0 2) (hA : ∀ q : Nat, s.heap.size ≤ q → A q) (hP : va_P D vwCl (w_M cs o h I V) s.heap) (hD : va_D A (w_M cs o h I V)) (hK : va_K D vwCl (tyA cs) s) (hret : ∀ (v : Int32) (Im9 : FI) (Vm9 : FV) (H : Heap) (locs : List Loc) (pc : Nat) (ls : Array Slot), some (v, Im9, Vm9) = some out → va_P D vwCl (w_M cs o h Im9 Vm9) H → va_D A (w_M cs o h Im9 Vm9) → va_S A s.heap H locs → decode cX10_wish pc = .ok (.ireturn, 1) → W p l e rm_M_wish s m args below meth c H locs 0 0 Q (F0 m pc ls [.int v])) : ∀ ls : Array Slot, lv_has ls 3 [(0, .ref o), (1, .int x1), (2, .int x2)] → W p l e rm_M_wish s m args below meth c s.heap [] 0 0 Q (F0 m 0 ls []) := by
  intro ls hl
  have hS : va_S A s.heap s.heap [] := va_S.rf
  unfold M_wish at hf
  refine lv_aload_n hx hb dX10_wish_0 rfl (lv_at hl 0 rfl) ?_
  refine lv_iconst (v := 0) hx hb dX10_wish_1 (by decide) ?_
  refine va_put (D := D) (ci := 10) (v := .int 0) (ty := .int) (C := RX10) (T := TX10) (N := 38) hx hb hts in_X10 tyX10 tyX10_ok nmX10 hown hK hP hD hS 0 rfl rfl 0 (by decide) g_92 (fun _ h9 => h9) rfl (by decide +kernel) rfl rfl (Nat.le_of_ble_eq_true rfl) dX10_wish_2 (fun H locs hP hD hS => ?_)
  obtain ⟨I1, eI1, hf⟩ := nme hf
  have hP : va_P D vwCl (w_M cs o h I1 V) H := by rw [eI1]; exact hP
  have hD : va_D A (w_M cs o h I1 V) := by rw [eI1]; exact hD
  refine lv_aload_n hx hb dX10_wish_5 rfl (lv_at hl 0 rfl) ?_
  refine lv_iload_n hx hb dX10_wish_6 rfl (lv_at hl 1 rfl) ?_
  obtain ⟨zr2, qr2, hf⟩ := bd1 hf
  refine vp_callSi (va_Run.run (va_runV (As := [.int x1]) (rest := []) ⟨hx, hb, hml, hown, hts⟩ (c_M_noOne l D cs o h I1 V x1 f zr2 qr2) w_noOne_151 ⟨xR_moved, va_recv hK hP (ci := 10) (q0 := 0) rfl rfl, fun U hU hW => ⟨rfl, by rw [hU]; exact hP, va_K.moved hW.alike hK⟩⟩ rfl rfl hl.1 rfl (lv_room (Nat.le_of_ble_eq_true rfl)) dX10_wish_7 ⟨Nat.zero_le _, Nat.zero_le _⟩)) (fun r2 er2 => ?_)
  rw [er2]
  refine lv_if_eq (tgt := 15) hx hb dX10_wish_10 (by decide) (fun c10 => ?_) (fun c10 => ?_)
  · replace hf := ip c10 hf
    refine lv_iload_n hx hb dX10_wish_15 rfl (lv_at hl 2 rfl) ?_
    refine lv_i2l (v := x2.toInt64) hx hb dX10_wish_16 rfl ?_
    refine lv_lconst (v := 1) hx hb dX10_wish_17 (by decide) ?_
    refine lv_ldc2 (v := 99) hx hb hown k_168 dX10_wish_18 ?_
    obtain ⟨zr3, qr3, hf⟩ := bd1 hf
    refine vp_callSi (va_Run.run (va_runS (As := [.long (x2.toInt64), .long 1, .long 99]) (rest := []) ⟨hx, hb, hml, hown, hts⟩ (c_M_in l (x2.toInt64) 1 99 f zr3 qr3) w_in_99 ⟨fun a U g mk q => q, fun U hU hW => ⟨rfl, trivial⟩⟩ rfl rfl hl.1 rfl (lv_room (Nat.le_of_ble_eq_true rfl)) dX10_wish_21 ⟨Nat.zero_le _, Nat.zero_le _⟩)) (fun r3 er3 => ?_)
    rw [er3]
    refine lv_if_ne (tgt := 30) hx hb dX10_wish_24 (by decide) (fun c24 => ?_) (fun c24 => ?_)
    · replace hf := im c24 hf
      refine lv_aload_n hx hb dX10_wish_30 rfl (lv_at hl 0 rfl) ?_
      refine va_get (D := D) (ci := 10) (v := .ref (h 7)) (C := RX10) (T := TX10) (N := 38) hx hb hts in_X10 hown hK hP 0 rfl rfl 7 (by decide) g_19 (fun _ h9 => h9) rfl dX10_wish_31 ?_
      refine lv_iload_n hx hb dX10_wish_34 rfl (lv_at hl 1 rfl) ?_
      obtain ⟨c35, hf⟩ := gd hf
      refine va_zald (f := (V 7)) hx hb hK hP 4 1 rfl rfl c35 dX10_wish_35 ?_
      refine lv_if_eq (tgt := 44) hx hb dX10_wish_36 (by decide) (fun c36 => ?_) (fun c36 => ?_)
      · replace hf := ip c36 hf
        refine lv_aload_n hx hb dX10_wish_44 rfl (lv_at hl 0 rfl) ?_
        refine lv_iload_n hx hb dX10_wish_45 rfl (lv_at hl 1 rfl) ?_
        refine lv_iload_n hx hb dX10_wish_46 rfl (lv_at hl 2 rfl) ?_
        obtain ⟨zr4, I5, V6, qr4, hf⟩ := bd3 hf
        have hFc := xfree hD hS hA
        refine va_calli (va_runV (As := [.int x1, .int x2]) (rest := []) ⟨hx, hb, hml, hown, hts⟩ (c_M_findWish l D cs o h _ I1 V x1 x2 f _ qr4) w_findWish_198 ⟨xP_moved, va_recv hK hP (ci := 10) (q0 := 0) rfl rfl, fun U hU hW => ⟨rfl, by rw [hU], by rw [hU]; exact hP, va_K.moved hW.alike hK, hD.weaken (fun _ _ _ _ => trivial)⟩⟩ rfl rfl hl.1 rfl (lv_room (Nat.le_of_ble_eq_true rfl)) dX10_wish_47 ⟨Nat.zero_le _, Nat.zero_le _⟩) hS (fun q _ h9 => hFc q h9) hFc (fun r4 u t H1 locs ht hvm hw hB hz1 hk1 hS => ?_)
        have er4 := congrArg Prod.fst hw
        have eu := congrArg Prod.snd hw
        dsimp only at er4 eu
        rw [er4]
        rw [eu] at hB
        obtain ⟨hP1, hK1, hD1⟩ := hB
        have hP : va_P D vwCl (w_M cs o h I5 V6) H1 := by rw [← ht]; exact hP1
        have hD : va_D A (w_M cs o h I5 V6) := hD1.weaken (fun _ q _ h9 => hFc q.1 h9)
        exact hret zr4 I5 V6 _ _ 50 _ hf hP hD hS dX10_wish_50
      · replace hf := im c36 hf
        refine lv_bipush (v := (-3)) hx hb dX10_wish_39 (by decide) ?_
        refine lv_goto (tgt := 50) hx hb dX10_wish_41 (by decide) ?_
        exact hret (-3) I1 V _ _ 50 _ hf hP hD hS dX10_wish_50
    · replace hf := ip c24 hf
      refine lv_bipush (v := (-2)) hx hb dX10_wish_27 (by decide) ?_
      exact hret (-2) I1 V _ _ 29 _ hf hP hD hS dX10_wish_29
  · replace hf := im c10 hf
    refine lv_iconst (v := (-1)) hx hb dX10_wish_13 (by decide) ?_
    exact hret (-1) I1 V _ _ 14 _ hf hP hD hS dX10_wish_14
set_option maxHeartbeats 4000000 in
set_option maxRecDepth 100000 in
theorem c_M_wish (l : Launch) (D : va_G) (cs : Nat → ClassId) (o : Nat) (h : Nat → Nat) (sz : Nat) (I : FI) (V : FV) (x1 : Int32) (x2 : Int32) (f : Nat) (out : Int32 × FI × FV) (hf : M_wish f x1 x2 I V = some out) : Met l yX10_wish wsX10_wish rm_M_wish (va_Pc [.ref o, .int x1, .int x2] (xP D cs (w_M cs o h I V) sz)) (va_Qi (fun r u => (r, u) = out) (fun (u : FI × FV) t => xA D cs (va_A (w_M cs o h I V) sz) (w_M cs o h u.1 u.2) t) (va_A (w_M cs o h I V) sz)) 0 0 (va_A (w_M cs o h I V) sz) := by
  refine Met.ofW (cc := cX10_wish) (maxL := 3) (ret := (some .int)) (by decide) rfl ?_
  intro p e s m args below meth c s₁ B hml hv
  obtain ⟨ha, hsz, hP, hK, hD0⟩ := hv
  have hx := B.exec
  have hb := B.bytes
  have hr := B.returns
  have hts := atoms_spec (ws := wsX10_wish) B.pre
  have hown : s.vm.findClass RX10 = some m.cls := findClass_of_methodNamed B.named
  have hlocks := B.notSynchronized
  have in_X10 : ∀ w ∈ u_ws RX10 TX10 38, w ∈ wsX10_wish := fun w h => List.mem_cons_of_mem _ (List.mem_append_right _ h)
  have g_92 := hts (Cond.fieldLink RX10 92 "DaysLentModel" "thrown" "I") (by decide +kernel)
  have w_noOne_151 := cwV (R := rm_M_wish) (s := s) (args := args) (rm := rm_M_noOne) (mc := 0) (ms := 0) 1 hts gX10_wish_X10_noOne rfl rfl rfl (by decide +kernel) ⟨Nat.le_of_ble_eq_true rfl, Nat.le_of_ble_eq_true rfl⟩
  have k_168 := hts (Cond.constantLong RX10 168 (99)) (by decide +kernel)
  have w_in_99 := va_cwS (R := rm_M_wish) (s := s) (args := args) (rm := rm_M_in) (mc := 0) (ms := 0) 3 hts gX10_wish_X10_in rfl rfl rfl (by decide +kernel) ⟨Nat.le_of_ble_eq_true rfl, Nat.le_of_ble_eq_true rfl⟩
  have g_19 := hts (Cond.fieldLink RX10 19 "DaysLentModel" "dead" "[Z") (by decide +kernel)
  have w_findWish_198 := cwV (R := rm_M_wish) (s := s) (args := args) (rm := rm_M_findWish) (mc := 0) (ms := 0) 2 hts gX10_wish_X10_findWish rfl rfl rfl (by decide +kernel) ⟨Nat.le_of_ble_eq_true rfl, Nat.le_of_ble_eq_true rfl⟩
  subst hsz
  have hD := hD0.self (sz := s.heap.size)
  generalize hAe : va_A (w_M cs o h I V) s.heap.size = A at hD ⊢
  have hA : ∀ q : Nat, s.heap.size ≤ q → A q := fun q h => by rw [← hAe]; exact Or.inr h
  have hl := lv_entry ([.ref o, .int x1, .int x2]) (n := 3) (Nat.le_of_ble_eq_true rfl)
  rw [show entryFrame m args 3 = entryFrame m ([.ref o, .int x1, .int x2] : List Value).toArray 3 from by rw [ha], lg_entry_eq]
  generalize (lg_sl ([.ref o, .int x1, .int x2]) ++ List.replicate (3 - (lg_sl ([.ref o, .int x1, .int x2])).length) Slot.unset).toArray = ls at hl ⊢
  generalize hQ : MQ below (va_Qi (fun r u => (r, u) = out) (fun (u : FI × FV) t => xA D cs A (w_M cs o h u.1 u.2) t) A) args s 0 0 A = Q
  have hret : ∀ (v : Int32) (Im9 : FI) (Vm9 : FV) (H : Heap) (locs : List Loc) (pc : Nat) (ls : Array Slot), some (v, Im9, Vm9) = some out → va_P D vwCl (w_M cs o h Im9 Vm9) H → va_D A (w_M cs o h Im9 Vm9) → va_S A s.heap H locs → decode cX10_wish pc = .ok (.ireturn, 1) → W p l e rm_M_wish s m args below meth c H locs 0 0 Q (F0 m pc ls [.int v]) := by
    intro v Im9 Vm9 H locs pc ls hf hP hD hS hd
    rw [← hQ]
    exact W.iret (v := v) hx hb hr (fun t ht hW => ⟨⟨v, (Im9, Vm9), rfl, Option.some.inj hf, by show va_P D vwCl (w_M cs o h Im9 Vm9) t.heap; rw [ht]; exact hP, va_K.moved hW.alike hK, hD⟩, hS.F ht⟩) hS.2.2 hd
  exact v_M_wish hf hx hb hml hown hts in_X10 g_92 w_noOne_151 k_168 w_in_99 g_19 w_findWish_198 hA hP hD hK hret ls hl
def M_wishBy (f : Nat) (x1 : Int32) (x2 : Int32) (x3 : Int32) (I : FI) (V : FV) : Option (Int32 × FI × FV) := nm (va_up I 0 0) (fun I1 => ob1 (M_noOne f x1 I1 V) (fun zr2 => (if zr2 = 0 then ob1 (M_noOne f x3 I1 V) (fun zr3 => (if zr3 = 0 then ob1 (M_in f (x2.toInt64) 1 99) (fun zr4 => (if zr4 = 0 then some ((-2), I1, V) else if x1 < 0 ∨ 6 ≤ x1.toNatClampNeg then none else ((if ((V 7) x1.toNatClampNeg) = 0 then ob3 (M_findWish f x1 x2 I1 V) (fun zr5 I6 V7 => (if zr5 = (-9) then some ((-9), I6, V7) else if x3 < 0 ∨ 6 ≤ x3.toNatClampNeg then none else (some (((V7 35) x3.toNatClampNeg), I6, V7)))) else some ((-3), I1, V))))) else some ((-1), I1, V))) else some ((-1), I1, V))))
abbrev rm_M_wishBy : Room := { frames := 2, cells := 0, slots := 0, locals := 50 }
set_option maxHeartbeats 4000000 in
set_option maxRecDepth 100000 in
theorem v_M_wishBy {l : Launch} {p : Program} {e : Env} {s : State} {m : MethodId} {args : Array Value} {below : List Frame} {meth : Method} {c : Code} {Q : State → Prop} {D : va_G} {cs : Nat → ClassId} {o : Nat} {h : Nat → Nat} {A : Nat → Prop} {I : FI} {V : FV} {x1 : Int32} {x2 : Int32} {x3 : Int32} {f : Nat} {out : Int32 × FI × FV} (hf : M_wishBy f x1 x2 x3 I V = some out) (hx : p.tables.exec = Jvm.exec) (hb : c.code = cX10_wishBy) (hml : c.maxLocals = 4) (hown : s.vm.findClass RX10 = some m.cls) (hts : ∀ w ∈ wsX10_wishBy, w.before args s = true) (in_X10 : ∀ w ∈ u_ws RX10 TX10 38, w ∈ wsX10_wishBy) (g_92 : (Cond.fieldLink RX10 92 "DaysLentModel" "thrown" "I").before args s = true) (w_noOne_151 : CallW rm_M_wishBy s args RX10 RX10 151 yX10_noOne cX10_noOne 2 (some .boolean) wsX10_noOne rm_M_noOne 0 0 1) (k_168 : (Cond.constantLong RX10 168 (99)).before args s = true) (w_in_99 : CallB rm_M_wishBy s args RX10 99 yX10_in cX10_in 6 (some .boolean) wsX10_in rm_M_in 0 0 3 ∧ (Cond.static yX10_in).before args s = true) (g_19 : (Cond.fieldLink RX10 19 "DaysLentModel" "dead" "[Z").before args s = true) (w_findWish_198 : CallW rm_M_wishBy s args RX10 RX10 198 yX10_findWish cX10_findWish 7 (some .int) wsX10_findWish rm_M_findWish 0 0 2) (g_86 : (Cond.fieldLink RX10 86 "DaysLentModel" "lends" "[I").before args s = true) (hA : ∀ q : Nat, s.heap.size ≤ q → A q) (hP : va_P D vwCl (w_M cs o h I V) s.heap) (hD : va_D A (w_M cs o h I V)) (hK : va_K D vwCl (tyA cs) s) (hret : ∀ (v : Int32) (Im9 : FI) (Vm9 : FV) (H : Heap) (locs : List Loc) (pc : Nat) (ls : Array Slot), some (v, Im9, Vm9) = some out → va_P D vwCl (w_M cs o h Im9 Vm9) H → va_D A (w_M cs o h Im9 Vm9) → va_S A s.heap H locs → decode cX10_wishBy pc = .ok (.ireturn, 1) → W p l e rm_M_wishBy s m args below meth c H locs 0 0 Q (F0 m pc ls [.int v])) : ∀ ls : Array Slot, lv_has ls 4 [(0, .ref o), (1, .int x1), (2, .int x2), (3, .int x3)] → W p l e rm_M_wishBy s m args below meth c s.heap [] 0 0 Q (F0 m 0 ls []) := by
  intro ls hl
  have hS : va_S A s.heap s.heap [] := va_S.rf
  unfold M_wishBy at hf
  refine lv_aload_n hx hb dX10_wishBy_0 rfl (lv_at hl 0 rfl) ?_
  refine lv_iconst (v := 0) hx hb dX10_wishBy_1 (by decide) ?_
  refine va_put (D := D) (ci := 10) (v := .int 0) (ty := .int) (C := RX10) (T := TX10) (N := 38) hx hb hts in_X10 tyX10 tyX10_ok nmX10 hown hK hP hD hS 0 rfl rfl 0 (by decide) g_92 (fun _ h9 => h9) rfl (by decide +kernel) rfl rfl (Nat.le_of_ble_eq_true rfl) dX10_wishBy_2 (fun H locs hP hD hS => ?_)
  obtain ⟨I1, eI1, hf⟩ := nme hf
  have hP : va_P D vwCl (w_M cs o h I1 V) H := by rw [eI1]; exact hP
  have hD : va_D A (w_M cs o h I1 V) := by rw [eI1]; exact hD
  refine lv_aload_n hx hb dX10_wishBy_5 rfl (lv_at hl 0 rfl) ?_
  refine lv_iload_n hx hb dX10_wishBy_6 rfl (lv_at hl 1 rfl) ?_
  obtain ⟨zr2, qr2, hf⟩ := bd1 hf
  refine vp_callSi (va_Run.run (va_runV (As := [.int x1]) (rest := []) ⟨hx, hb, hml, hown, hts⟩ (c_M_noOne l D cs o h I1 V x1 f zr2 qr2) w_noOne_151 ⟨xR_moved, va_recv hK hP (ci := 10) (q0 := 0) rfl rfl, fun U hU hW => ⟨rfl, by rw [hU]; exact hP, va_K.moved hW.alike hK⟩⟩ rfl rfl hl.1 rfl (lv_room (Nat.le_of_ble_eq_true rfl)) dX10_wishBy_7 ⟨Nat.zero_le _, Nat.zero_le _⟩)) (fun r2 er2 => ?_)
  rw [er2]
  refine lv_if_ne (tgt := 21) hx hb dX10_wishBy_10 (by decide) (fun c10 => ?_) (fun c10 => ?_)
  · replace hf := im c10 hf
    refine lv_iconst (v := (-1)) hx hb dX10_wishBy_21 (by decide) ?_
    exact hret (-1) I1 V _ _ 22 _ hf hP hD hS dX10_wishBy_22
  · replace hf := ip c10 hf
    refine lv_aload_n hx hb dX10_wishBy_13 rfl (lv_at hl 0 rfl) ?_
    refine lv_iload_n hx hb dX10_wishBy_14 rfl (lv_at hl 3 rfl) ?_
    obtain ⟨zr3, qr3, hf⟩ := bd1 hf
    refine vp_callSi (va_Run.run (va_runV (As := [.int x3]) (rest := []) ⟨hx, hb, hml, hown, hts⟩ (c_M_noOne l D cs o h I1 V x3 f zr3 qr3) w_noOne_151 ⟨xR_moved, va_recv hK hP (ci := 10) (q0 := 0) rfl rfl, fun U hU hW => ⟨rfl, by rw [hU]; exact hP, va_K.moved hW.alike hK⟩⟩ rfl rfl hl.1 rfl (lv_room (Nat.le_of_ble_eq_true rfl)) dX10_wishBy_15 ⟨Nat.zero_le _, Nat.zero_le _⟩)) (fun r3 er3 => ?_)
    rw [er3]
    refine lv_if_eq (tgt := 23) hx hb dX10_wishBy_18 (by decide) (fun c18 => ?_) (fun c18 => ?_)
    · replace hf := ip c18 hf
      refine lv_iload_n hx hb dX10_wishBy_23 rfl (lv_at hl 2 rfl) ?_
      refine lv_i2l (v := x2.toInt64) hx hb dX10_wishBy_24 rfl ?_
      refine lv_lconst (v := 1) hx hb dX10_wishBy_25 (by decide) ?_
      refine lv_ldc2 (v := 99) hx hb hown k_168 dX10_wishBy_26 ?_
      obtain ⟨zr4, qr4, hf⟩ := bd1 hf
      refine vp_callSi (va_Run.run (va_runS (As := [.long (x2.toInt64), .long 1, .long 99]) (rest := []) ⟨hx, hb, hml, hown, hts⟩ (c_M_in l (x2.toInt64) 1 99 f zr4 qr4) w_in_99 ⟨fun a U g mk q => q, fun U hU hW => ⟨rfl, trivial⟩⟩ rfl rfl hl.1 rfl (lv_room (Nat.le_of_ble_eq_true rfl)) dX10_wishBy_29 ⟨Nat.zero_le _, Nat.zero_le _⟩)) (fun r4 er4 => ?_)
      rw [er4]
      refine lv_if_ne (tgt := 38) hx hb dX10_wishBy_32 (by decide) (fun c32 => ?_) (fun c32 => ?_)
      · replace hf := im c32 hf
        refine lv_aload_n hx hb dX10_wishBy_38 rfl (lv_at hl 0 rfl) ?_
        refine va_get (D := D) (ci := 10) (v := .ref (h 7)) (C := RX10) (T := TX10) (N := 38) hx hb hts in_X10 hown hK hP 0 rfl rfl 7 (by decide) g_19 (fun _ h9 => h9) rfl dX10_wishBy_39 ?_
        refine lv_iload_n hx hb dX10_wishBy_42 rfl (lv_at hl 1 rfl) ?_
        obtain ⟨c43, hf⟩ := gd hf
        refine va_zald (f := (V 7)) hx hb hK hP 4 1 rfl rfl c43 dX10_wishBy_43 ?_
        refine lv_if_eq (tgt := 50) hx hb dX10_wishBy_44 (by decide) (fun c44 => ?_) (fun c44 => ?_)
        · replace hf := ip c44 hf
          refine lv_aload_n hx hb dX10_wishBy_50 rfl (lv_at hl 0 rfl) ?_
          refine lv_iload_n hx hb dX10_wishBy_51 rfl (lv_at hl 1 rfl) ?_
          refine lv_iload_n hx hb dX10_wishBy_52 rfl (lv_at hl 2 rfl) ?_
          obtain ⟨zr5, I6, V7, qr5, hf⟩ := bd3 hf
          have hFc := xfree hD hS hA
          refine va_calli (va_runV (As := [.int x1, .int x2]) (rest := []) ⟨hx, hb, hml, hown, hts⟩ (c_M_findWish l D cs o h _ I1 V x1 x2 f _ qr5) w_findWish_198 ⟨xP_moved, va_recv hK hP (ci := 10) (q0 := 0) rfl rfl, fun U hU hW => ⟨rfl, by rw [hU], by rw [hU]; exact hP, va_K.moved hW.alike hK, hD.weaken (fun _ _ _ _ => trivial)⟩⟩ rfl rfl hl.1 rfl (lv_room (Nat.le_of_ble_eq_true rfl)) dX10_wishBy_53 ⟨Nat.zero_le _, Nat.zero_le _⟩) hS (fun q _ h9 => hFc q h9) hFc (fun r5 u t H1 locs ht hvm hw hB hz1 hk1 hS => ?_)
          have er5 := congrArg Prod.fst hw
          have eu := congrArg Prod.snd hw
          dsimp only at er5 eu
          rw [er5]
          rw [eu] at hB
          obtain ⟨hP1, hK1, hD1⟩ := hB
          have hP : va_P D vwCl (w_M cs o h I6 V7) H1 := by rw [← ht]; exact hP1
          have hD : va_D A (w_M cs o h I6 V7) := hD1.weaken (fun _ q _ h9 => hFc q.1 h9)
          refine lv_bipush (v := (-9)) hx hb dX10_wishBy_56 (by decide) ?_
          refine lv_icmp_ne (tgt := 66) hx hb dX10_wishBy_58 (by decide) (fun c58 => ?_) (fun c58 => ?_)
          · replace hf := im c58 hf
            refine lv_aload_n hx hb dX10_wishBy_66 rfl (lv_at hl 0 rfl) ?_
            refine va_get (D := D) (ci := 10) (v := .ref (h 35)) (C := RX10) (T := TX10) (N := 38) hx hb hts in_X10 hown hK hP 0 rfl rfl 35 (by decide) g_86 (fun _ h9 => h9) rfl dX10_wishBy_67 ?_
            refine lv_iload_n hx hb dX10_wishBy_70 rfl (lv_at hl 3 rfl) ?_
            obtain ⟨c71, hf⟩ := gd hf
            refine va_iald (f := (V7 35)) hx hb hK hP 26 0 rfl rfl c71 dX10_wishBy_71 ?_
            exact hret ((V7 35) x3.toNatClampNeg) I6 V7 _ _ 72 _ hf hP hD hS dX10_wishBy_72
          · replace hf := ip c58 hf
            refine lv_bipush (v := (-9)) hx hb dX10_wishBy_61 (by decide) ?_
            refine lv_goto (tgt := 72) hx hb dX10_wishBy_63 (by decide) ?_
            exact hret (-9) I6 V7 _ _ 72 _ hf hP hD hS dX10_wishBy_72
        · replace hf := im c44 hf
          refine lv_bipush (v := (-3)) hx hb dX10_wishBy_47 (by decide) ?_
          exact hret (-3) I1 V _ _ 49 _ hf hP hD hS dX10_wishBy_49
      · replace hf := ip c32 hf
        refine lv_bipush (v := (-2)) hx hb dX10_wishBy_35 (by decide) ?_
        exact hret (-2) I1 V _ _ 37 _ hf hP hD hS dX10_wishBy_37
    · replace hf := im c18 hf
      refine lv_iconst (v := (-1)) hx hb dX10_wishBy_21 (by decide) ?_
      exact hret (-1) I1 V _ _ 22 _ hf hP hD hS dX10_wishBy_22
set_option maxHeartbeats 4000000 in
set_option maxRecDepth 100000 in
theorem c_M_wishBy (l : Launch) (D : va_G) (cs : Nat → ClassId) (o : Nat) (h : Nat → Nat) (sz : Nat) (I : FI) (V : FV) (x1 : Int32) (x2 : Int32) (x3 : Int32) (f : Nat) (out : Int32 × FI × FV) (hf : M_wishBy f x1 x2 x3 I V = some out) : Met l yX10_wishBy wsX10_wishBy rm_M_wishBy (va_Pc [.ref o, .int x1, .int x2, .int x3] (xP D cs (w_M cs o h I V) sz)) (va_Qi (fun r u => (r, u) = out) (fun (u : FI × FV) t => xA D cs (va_A (w_M cs o h I V) sz) (w_M cs o h u.1 u.2) t) (va_A (w_M cs o h I V) sz)) 0 0 (va_A (w_M cs o h I V) sz) := by
  refine Met.ofW (cc := cX10_wishBy) (maxL := 4) (ret := (some .int)) (by decide) rfl ?_
  intro p e s m args below meth c s₁ B hml hv
  obtain ⟨ha, hsz, hP, hK, hD0⟩ := hv
  have hx := B.exec
  have hb := B.bytes
  have hr := B.returns
  have hts := atoms_spec (ws := wsX10_wishBy) B.pre
  have hown : s.vm.findClass RX10 = some m.cls := findClass_of_methodNamed B.named
  have hlocks := B.notSynchronized
  have in_X10 : ∀ w ∈ u_ws RX10 TX10 38, w ∈ wsX10_wishBy := fun w h => List.mem_cons_of_mem _ (List.mem_append_right _ h)
  have g_92 := hts (Cond.fieldLink RX10 92 "DaysLentModel" "thrown" "I") (by decide +kernel)
  have w_noOne_151 := cwV (R := rm_M_wishBy) (s := s) (args := args) (rm := rm_M_noOne) (mc := 0) (ms := 0) 1 hts gX10_wishBy_X10_noOne rfl rfl rfl (by decide +kernel) ⟨Nat.le_of_ble_eq_true rfl, Nat.le_of_ble_eq_true rfl⟩
  have k_168 := hts (Cond.constantLong RX10 168 (99)) (by decide +kernel)
  have w_in_99 := va_cwS (R := rm_M_wishBy) (s := s) (args := args) (rm := rm_M_in) (mc := 0) (ms := 0) 3 hts gX10_wishBy_X10_in rfl rfl rfl (by decide +kernel) ⟨Nat.le_of_ble_eq_true rfl, Nat.le_of_ble_eq_true rfl⟩
  have g_19 := hts (Cond.fieldLink RX10 19 "DaysLentModel" "dead" "[Z") (by decide +kernel)
  have w_findWish_198 := cwV (R := rm_M_wishBy) (s := s) (args := args) (rm := rm_M_findWish) (mc := 0) (ms := 0) 2 hts gX10_wishBy_X10_findWish rfl rfl rfl (by decide +kernel) ⟨Nat.le_of_ble_eq_true rfl, Nat.le_of_ble_eq_true rfl⟩
  have g_86 := hts (Cond.fieldLink RX10 86 "DaysLentModel" "lends" "[I") (by decide +kernel)
  subst hsz
  have hD := hD0.self (sz := s.heap.size)
  generalize hAe : va_A (w_M cs o h I V) s.heap.size = A at hD ⊢
  have hA : ∀ q : Nat, s.heap.size ≤ q → A q := fun q h => by rw [← hAe]; exact Or.inr h
  have hl := lv_entry ([.ref o, .int x1, .int x2, .int x3]) (n := 4) (Nat.le_of_ble_eq_true rfl)
  rw [show entryFrame m args 4 = entryFrame m ([.ref o, .int x1, .int x2, .int x3] : List Value).toArray 4 from by rw [ha], lg_entry_eq]
  generalize (lg_sl ([.ref o, .int x1, .int x2, .int x3]) ++ List.replicate (4 - (lg_sl ([.ref o, .int x1, .int x2, .int x3])).length) Slot.unset).toArray = ls at hl ⊢
  generalize hQ : MQ below (va_Qi (fun r u => (r, u) = out) (fun (u : FI × FV) t => xA D cs A (w_M cs o h u.1 u.2) t) A) args s 0 0 A = Q
  have hret : ∀ (v : Int32) (Im9 : FI) (Vm9 : FV) (H : Heap) (locs : List Loc) (pc : Nat) (ls : Array Slot), some (v, Im9, Vm9) = some out → va_P D vwCl (w_M cs o h Im9 Vm9) H → va_D A (w_M cs o h Im9 Vm9) → va_S A s.heap H locs → decode cX10_wishBy pc = .ok (.ireturn, 1) → W p l e rm_M_wishBy s m args below meth c H locs 0 0 Q (F0 m pc ls [.int v]) := by
    intro v Im9 Vm9 H locs pc ls hf hP hD hS hd
    rw [← hQ]
    exact W.iret (v := v) hx hb hr (fun t ht hW => ⟨⟨v, (Im9, Vm9), rfl, Option.some.inj hf, by show va_P D vwCl (w_M cs o h Im9 Vm9) t.heap; rw [ht]; exact hP, va_K.moved hW.alike hK, hD⟩, hS.F ht⟩) hS.2.2 hd
  exact v_M_wishBy hf hx hb hml hown hts in_X10 g_92 w_noOne_151 k_168 w_in_99 g_19 w_findWish_198 g_86 hA hP hD hK hret ls hl
def M_layAskers_L20 {ρ : Type} (f : Nat) (Im_7 : FI) (Vm_7 : FV) (x1 : Int32) (x2_7 : Int32) (k_20 : Int32 → Option ρ) : Nat → Int32 → Int32 → Option ρ
  | 0, _, _ => none
  | n_20 + 1, x3_20, x4_20 => (if (Im_7 9) ≤ x4_20 then (k_20 x3_20) else if x4_20 < 0 ∨ 12 ≤ x4_20.toNatClampNeg then none else ((nm (fun (t1_63 : Int32) => (M_layAskers_L20 f Im_7 Vm_7 x1 x2_7 k_20 n_20 (x3_20 + t1_63) (x4_20 + 1))) (fun j63 => nm (fun (u_62 : Unit) => (j63 0)) (fun j62 => (if ((Vm_7 11) x4_20.toNatClampNeg) = x1 then if x4_20 < 0 ∨ 12 ≤ x4_20.toNatClampNeg then none else ((if ((Vm_7 10) x4_20.toNatClampNeg) = x2_7 then if x4_20 < 0 ∨ 12 ≤ x4_20.toNatClampNeg then none else ((j63 ((Vm_7 12) x4_20.toNatClampNeg))) else (j62 ()))) else (j62 ())))))))
def M_layAskers_L7 {ρ : Type} (f : Nat) (x1 : Int32) (k_7 : FI → FV → Option ρ) : Nat → Int32 → FI → FV → Option ρ
  | 0, _, _, _ => none
  | n_7 + 1, x2_7, Im_7, Vm_7 => (if (Im_7 4) ≤ x2_7 then (k_7 Im_7 Vm_7) else (M_layAskers_L20 f Im_7 Vm_7 x1 x2_7 (fun (x3_20 : Int32) => (nm (fun (Im_95 : FI) (Vm_95 : FV) => (M_layAskers_L7 f x1 k_7 n_7 (x2_7 + 1) Im_95 Vm_95)) (fun j95 => (if x3_20 ≤ 0 then (j95 Im_7 Vm_7) else if (Im_7 37) < 0 ∨ 6 ≤ (Im_7 37).toNatClampNeg then none else (nm (va_up Vm_7 36 (upd (Vm_7 36) (Im_7 37).toNatClampNeg x3_20)) (fun V2 => nm (va_up Im_7 37 ((Im_7 37) + 1)) (fun I3 => (j95 I3 V2)))))))) f 0 0))
def M_layAskers (f : Nat) (x1 : Int32) (I : FI) (V : FV) : Option (FI × FV) := nm (va_up I 37 0) (fun I1 => (M_layAskers_L7 f x1 (fun (Im_7 : FI) (Vm_7 : FV) => some (Im_7, Vm_7)) f 0 I1 V))
abbrev rm_M_layAskers : Room := { frames := 0, cells := 0, slots := 0, locals := 0 }
set_option maxHeartbeats 4000000 in
set_option maxRecDepth 100000 in
theorem v_M_layAskers {l : Launch} {p : Program} {e : Env} {s : State} {m : MethodId} {args : Array Value} {below : List Frame} {meth : Method} {c : Code} {Q : State → Prop} {D : va_G} {cs : Nat → ClassId} {o : Nat} {h : Nat → Nat} {A : Nat → Prop} {I : FI} {V : FV} {x1 : Int32} {f : Nat} {out : FI × FV} (hf : M_layAskers f x1 I V = some out) (hx : p.tables.exec = Jvm.exec) (hb : c.code = cX10_layAskers) (hml : c.maxLocals = 5) (hown : s.vm.findClass RX10 = some m.cls) (hts : ∀ w ∈ wsX10_layAskers, w.before args s = true) (in_X10 : ∀ w ∈ u_ws RX10 TX10 38, w ∈ wsX10_layAskers) (g_201 : (Cond.fieldLink RX10 201 "DaysLentModel" "askers" "I").before args s = true) (g_96 : (Cond.fieldLink RX10 96 "DaysLentModel" "people" "I").before args s = true) (g_135 : (Cond.fieldLink RX10 135 "DaysLentModel" "debts" "I").before args s = true) (g_29 : (Cond.fieldLink RX10 29 "DaysLentModel" "owes" "[I").before args s = true) (g_26 : (Cond.fieldLink RX10 26 "DaysLentModel" "owed" "[I").before args s = true) (g_32 : (Cond.fieldLink RX10 32 "DaysLentModel" "much" "[I").before args s = true) (g_89 : (Cond.fieldLink RX10 89 "DaysLentModel" "all" "[I").before args s = true) (hA : ∀ q : Nat, s.heap.size ≤ q → A q) (hP : va_P D vwCl (w_M cs o h I V) s.heap) (hD : va_D A (w_M cs o h I V)) (hK : va_K D vwCl (tyA cs) s) (hret : ∀ (Im9 : FI) (Vm9 : FV) (H : Heap) (locs : List Loc) (pc : Nat) (ls : Array Slot), some (Im9, Vm9) = some out → va_P D vwCl (w_M cs o h Im9 Vm9) H → va_D A (w_M cs o h Im9 Vm9) → va_S A s.heap H locs → decode cX10_layAskers pc = .ok (.return_, 1) → W p l e rm_M_layAskers s m args below meth c H locs 0 0 Q (F0 m pc ls [])) : ∀ ls : Array Slot, lv_has ls 5 [(0, .ref o), (1, .int x1)] → W p l e rm_M_layAskers s m args below meth c s.heap [] 0 0 Q (F0 m 0 ls []) := by
  intro ls hl
  have hS : va_S A s.heap s.heap [] := va_S.rf
  unfold M_layAskers at hf
  refine lv_aload_n hx hb dX10_layAskers_0 rfl (lv_at hl 0 rfl) ?_
  refine lv_iconst (v := 0) hx hb dX10_layAskers_1 (by decide) ?_
  refine va_put (D := D) (ci := 10) (v := .int 0) (ty := .int) (C := RX10) (T := TX10) (N := 38) hx hb hts in_X10 tyX10 tyX10_ok nmX10 hown hK hP hD hS 0 rfl rfl 37 (by decide) g_201 (fun _ h9 => h9) rfl (by decide +kernel) rfl rfl (Nat.le_of_ble_eq_true rfl) dX10_layAskers_2 (fun H locs hP hD hS => ?_)
  obtain ⟨I1, eI1, hf⟩ := nme hf
  have hP : va_P D vwCl (w_M cs o h I1 V) H := by rw [eI1]; exact hP
  have hD : va_D A (w_M cs o h I1 V) := by rw [eI1]; exact hD
  refine lv_iconst (v := 0) hx hb dX10_layAskers_5 (by decide) ?_
  refine lv_istore_n (lv' := [(2, .int 0), (0, .ref o), (1, .int x1)]) hx hb dX10_layAskers_6 rfl hl (by decide) rfl (fun ls hl => ?_)
  have L7 : ∀ (k_7 : FI → FV → Option (FI × FV)) (hk_7 : ∀ (Im_7 : FI) (Vm_7 : FV), k_7 Im_7 Vm_7 = some out → ∀ (H : Heap) (locs : List Loc), va_P D vwCl (w_M cs o h Im_7 Vm_7) H → va_D A (w_M cs o h Im_7 Vm_7) → va_S A s.heap H locs → ∀ ls : Array Slot, lv_has ls 5 [] → W p l e rm_M_layAskers s m args below meth c H locs 0 0 Q (F0 m 101 ls [])), ∀ (n_7 : Nat) (x2_7 : Int32) (Im_7 : FI) (Vm_7 : FV), M_layAskers_L7 f x1 k_7 n_7 x2_7 Im_7 Vm_7 = some out → ∀ (H : Heap) (locs : List Loc), va_P D vwCl (w_M cs o h Im_7 Vm_7) H → va_D A (w_M cs o h Im_7 Vm_7) → va_S A s.heap H locs → ∀ ls : Array Slot, lv_has ls 5 [(0, .ref o), (1, .int x1), (2, .int x2_7)] → W p l e rm_M_layAskers s m args below meth c H locs 0 0 Q (F0 m 7 ls []) := by
    intro k_7 hk_7 n_7
    induction n_7 with
    | zero => intro x2_7 Im_7 Vm_7 hf; rw [M_layAskers_L7] at hf; cases hf
    | succ n_7 ih_7 =>
      intro x2_7 Im_7 Vm_7 hf H locs hP hD hS ls hl
      rw [M_layAskers_L7] at hf
      refine lv_iload_n hx hb dX10_layAskers_7 rfl (lv_at hl 2 rfl) ?_
      refine lv_aload_n hx hb dX10_layAskers_8 rfl (lv_at hl 0 rfl) ?_
      refine va_get (D := D) (ci := 10) (v := .int (Im_7 4)) (C := RX10) (T := TX10) (N := 38) hx hb hts in_X10 hown hK hP 0 rfl rfl 4 (by decide) g_96 (fun _ h9 => h9) rfl dX10_layAskers_9 ?_
      refine lv_icmp_ge (tgt := 101) hx hb dX10_layAskers_12 (by decide) (fun c12 => ?_) (fun c12 => ?_)
      · replace hf := ip c12 hf
        exact hk_7 Im_7 Vm_7 hf _ _ hP hD hS _ (lv_sub hl [] rfl)
      · replace hf := im c12 hf
        refine lv_iconst (v := 0) hx hb dX10_layAskers_15 (by decide) ?_
        refine lv_istore_n (lv' := [(3, .int 0), (0, .ref o), (1, .int x1), (2, .int x2_7)]) hx hb dX10_layAskers_16 rfl hl (by decide) rfl (fun ls hl => ?_)
        refine lv_iconst (v := 0) hx hb dX10_layAskers_17 (by decide) ?_
        refine lv_istore (lv' := [(4, .int 0), (3, .int 0), (0, .ref o), (1, .int x1), (2, .int x2_7)]) hx hb dX10_layAskers_18 hl (by decide) rfl (fun ls hl => ?_)
        have L20 : ∀ (k_20 : Int32 → Option (FI × FV)) (hk_20 : ∀ (x3_20 : Int32), k_20 x3_20 = some out → ∀ (H : Heap) (locs : List Loc), va_P D vwCl (w_M cs o h Im_7 Vm_7) H → va_D A (w_M cs o h Im_7 Vm_7) → va_S A s.heap H locs → ∀ ls : Array Slot, lv_has ls 5 [(0, .ref o), (1, .int x1), (2, .int x2_7), (3, .int x3_20)] → W p l e rm_M_layAskers s m args below meth c H locs 0 0 Q (F0 m 71 ls [])), ∀ (n_20 : Nat) (x3_20 : Int32) (x4_20 : Int32), M_layAskers_L20 f Im_7 Vm_7 x1 x2_7 k_20 n_20 x3_20 x4_20 = some out → ∀ (H : Heap) (locs : List Loc), va_P D vwCl (w_M cs o h Im_7 Vm_7) H → va_D A (w_M cs o h Im_7 Vm_7) → va_S A s.heap H locs → ∀ ls : Array Slot, lv_has ls 5 [(0, .ref o), (1, .int x1), (2, .int x2_7), (3, .int x3_20), (4, .int x4_20)] → W p l e rm_M_layAskers s m args below meth c H locs 0 0 Q (F0 m 20 ls []) := by
          intro k_20 hk_20 n_20
          induction n_20 with
          | zero => intro x3_20 x4_20 hf; rw [M_layAskers_L20] at hf; cases hf
          | succ n_20 ih_20 =>
            intro x3_20 x4_20 hf H locs hP hD hS ls hl
            rw [M_layAskers_L20] at hf
            refine lv_iload hx hb dX10_layAskers_20 (lv_at hl 4 rfl) ?_
            refine lv_aload_n hx hb dX10_layAskers_22 rfl (lv_at hl 0 rfl) ?_
            refine va_get (D := D) (ci := 10) (v := .int (Im_7 9)) (C := RX10) (T := TX10) (N := 38) hx hb hts in_X10 hown hK hP 0 rfl rfl 9 (by decide) g_135 (fun _ h9 => h9) rfl dX10_layAskers_23 ?_
            refine lv_icmp_ge (tgt := 71) hx hb dX10_layAskers_26 (by decide) (fun c26 => ?_) (fun c26 => ?_)
            · replace hf := ip c26 hf
              exact hk_20 x3_20 hf _ _ hP hD hS _ (lv_sub hl [0, 1, 2, 3] rfl)
            · replace hf := im c26 hf
              refine lv_iload_n hx hb dX10_layAskers_29 rfl (lv_at hl 3 rfl) ?_
              refine lv_aload_n hx hb dX10_layAskers_30 rfl (lv_at hl 0 rfl) ?_
              refine va_get (D := D) (ci := 10) (v := .ref (h 11)) (C := RX10) (T := TX10) (N := 38) hx hb hts in_X10 hown hK hP 0 rfl rfl 11 (by decide) g_29 (fun _ h9 => h9) rfl dX10_layAskers_31 ?_
              refine lv_iload hx hb dX10_layAskers_34 (lv_at hl 4 rfl) ?_
              obtain ⟨c36, hf⟩ := gd hf
              refine va_iald (f := (Vm_7 11)) hx hb hK hP 7 0 rfl rfl c36 dX10_layAskers_36 ?_
              refine lv_iload_n hx hb dX10_layAskers_37 rfl (lv_at hl 1 rfl) ?_
              obtain ⟨j63, ej63, hf⟩ := nme hf
              have J63 : ∀ (t1_63 : Int32), j63 t1_63 = some out → ∀ (H : Heap) (locs : List Loc), va_P D vwCl (w_M cs o h Im_7 Vm_7) H → va_D A (w_M cs o h Im_7 Vm_7) → va_S A s.heap H locs → ∀ ls : Array Slot, lv_has ls 5 [(0, .ref o), (1, .int x1), (2, .int x2_7), (4, .int x4_20)] → W p l e rm_M_layAskers s m args below meth c H locs 0 0 Q (F0 m 63 ls [.int t1_63, .int x3_20]) := by
                intro t1_63 hf H locs hP hD hS ls hl
                rw [ej63] at hf
                refine lv_iadd hx hb dX10_layAskers_63 ?_
                refine lv_istore_n (lv' := [(3, .int (x3_20 + t1_63)), (0, .ref o), (1, .int x1), (2, .int x2_7), (4, .int x4_20)]) hx hb dX10_layAskers_64 rfl hl (by decide) rfl (fun ls hl => ?_)
                refine lv_iinc (v := (x4_20 + 1)) (lv' := [(4, .int (x4_20 + 1)), (3, .int (x3_20 + t1_63)), (0, .ref o), (1, .int x1), (2, .int x2_7)]) hx hb dX10_layAskers_65 hl (k := 4) rfl (by rfl) (by decide) rfl (fun ls hl => ?_)
                refine lv_goto (tgt := 20) hx hb dX10_layAskers_68 (by decide) ?_
                exact ih_20 (x3_20 + t1_63) (x4_20 + 1) hf _ _ hP hD hS _ (lv_sub hl [2, 3, 4, 1, 0] rfl)
              obtain ⟨j62, ej62, hf⟩ := nme hf
              have J62 : ∀ (u_62 : Unit), j62 u_62 = some out → ∀ (H : Heap) (locs : List Loc), va_P D vwCl (w_M cs o h Im_7 Vm_7) H → va_D A (w_M cs o h Im_7 Vm_7) → va_S A s.heap H locs → ∀ ls : Array Slot, lv_has ls 5 [(0, .ref o), (1, .int x1), (2, .int x2_7), (4, .int x4_20)] → W p l e rm_M_layAskers s m args below meth c H locs 0 0 Q (F0 m 62 ls [.int x3_20]) := by
                intro u_62 hf H locs hP hD hS ls hl
                rw [ej62] at hf
                refine lv_iconst (v := 0) hx hb dX10_layAskers_62 (by decide) ?_
                exact J63 0 hf _ _ hP hD hS _ (lv_sub hl [0, 1, 2, 3] rfl)
              refine lv_icmp_ne (tgt := 62) hx hb dX10_layAskers_38 (by decide) (fun c38 => ?_) (fun c38 => ?_)
              · replace hf := im c38 hf
                exact J62 () hf _ _ hP hD hS _ (lv_sub hl [0, 1, 2, 4] rfl)
              · replace hf := ip c38 hf
                refine lv_aload_n hx hb dX10_layAskers_41 rfl (lv_at hl 0 rfl) ?_
                refine va_get (D := D) (ci := 10) (v := .ref (h 10)) (C := RX10) (T := TX10) (N := 38) hx hb hts in_X10 hown hK hP 0 rfl rfl 10 (by decide) g_26 (fun _ h9 => h9) rfl dX10_layAskers_42 ?_
                refine lv_iload hx hb dX10_layAskers_45 (lv_at hl 4 rfl) ?_
                obtain ⟨c47, hf⟩ := gd hf
                refine va_iald (f := (Vm_7 10)) hx hb hK hP 6 0 rfl rfl c47 dX10_layAskers_47 ?_
                refine lv_iload_n hx hb dX10_layAskers_48 rfl (lv_at hl 2 rfl) ?_
                refine lv_icmp_ne (tgt := 62) hx hb dX10_layAskers_49 (by decide) (fun c49 => ?_) (fun c49 => ?_)
                · replace hf := im c49 hf
                  exact J62 () hf _ _ hP hD hS _ (lv_sub hl [0, 1, 2, 4] rfl)
                · replace hf := ip c49 hf
                  refine lv_aload_n hx hb dX10_layAskers_52 rfl (lv_at hl 0 rfl) ?_
                  refine va_get (D := D) (ci := 10) (v := .ref (h 12)) (C := RX10) (T := TX10) (N := 38) hx hb hts in_X10 hown hK hP 0 rfl rfl 12 (by decide) g_32 (fun _ h9 => h9) rfl dX10_layAskers_53 ?_
                  refine lv_iload hx hb dX10_layAskers_56 (lv_at hl 4 rfl) ?_
                  obtain ⟨c58, hf⟩ := gd hf
                  refine va_iald (f := (Vm_7 12)) hx hb hK hP 8 0 rfl rfl c58 dX10_layAskers_58 ?_
                  refine lv_goto (tgt := 63) hx hb dX10_layAskers_59 (by decide) ?_
                  exact J63 ((Vm_7 12) x4_20.toNatClampNeg) hf _ _ hP hD hS _ (lv_sub hl [0, 1, 2, 4] rfl)
        refine L20 _ (fun x3_20 hf H locs hP hD hS ls hl => ?_) f 0 0 hf _ _ hP hD hS _ (lv_sub hl [2, 3, 4, 1, 0] rfl)
        refine lv_iload_n hx hb dX10_layAskers_71 rfl (lv_at hl 3 rfl) ?_
        obtain ⟨j95, ej95, hf⟩ := nme hf
        have J95 : ∀ (Im_95 : FI) (Vm_95 : FV), j95 Im_95 Vm_95 = some out → ∀ (H : Heap) (locs : List Loc), va_P D vwCl (w_M cs o h Im_95 Vm_95) H → va_D A (w_M cs o h Im_95 Vm_95) → va_S A s.heap H locs → ∀ ls : Array Slot, lv_has ls 5 [(0, .ref o), (1, .int x1), (2, .int x2_7)] → W p l e rm_M_layAskers s m args below meth c H locs 0 0 Q (F0 m 95 ls []) := by
          intro Im_95 Vm_95 hf H locs hP hD hS ls hl
          rw [ej95] at hf
          refine lv_iinc (v := (x2_7 + 1)) (lv' := [(2, .int (x2_7 + 1)), (0, .ref o), (1, .int x1)]) hx hb dX10_layAskers_95 hl (k := 2) rfl (by rfl) (by decide) rfl (fun ls hl => ?_)
          refine lv_goto (tgt := 7) hx hb dX10_layAskers_98 (by decide) ?_
          exact ih_7 (x2_7 + 1) Im_95 Vm_95 hf _ _ hP hD hS _ (lv_sub hl [1, 2, 0] rfl)
        refine lv_if_le (tgt := 95) hx hb dX10_layAskers_72 (by decide) (fun c72 => ?_) (fun c72 => ?_)
        · replace hf := ip c72 hf
          exact J95 Im_7 Vm_7 hf _ _ hP hD hS _ (lv_sub hl [0, 1, 2] rfl)
        · replace hf := im c72 hf
          refine lv_aload_n hx hb dX10_layAskers_75 rfl (lv_at hl 0 rfl) ?_
          refine va_get (D := D) (ci := 10) (v := .ref (h 36)) (C := RX10) (T := TX10) (N := 38) hx hb hts in_X10 hown hK hP 0 rfl rfl 36 (by decide) g_89 (fun _ h9 => h9) rfl dX10_layAskers_76 ?_
          refine lv_aload_n hx hb dX10_layAskers_79 rfl (lv_at hl 0 rfl) ?_
          refine va_get (D := D) (ci := 10) (v := .int (Im_7 37)) (C := RX10) (T := TX10) (N := 38) hx hb hts in_X10 hown hK hP 0 rfl rfl 37 (by decide) g_201 (fun _ h9 => h9) rfl dX10_layAskers_80 ?_
          refine lv_iload_n hx hb dX10_layAskers_83 rfl (lv_at hl 3 rfl) ?_
          obtain ⟨c84, hf⟩ := gd hf
          refine va_iast (f := (Vm_7 36)) hx hb hK hP hD hS 27 0 rfl rfl c84 dX10_layAskers_84 (fun H locs hP hD hS => ?_)
          obtain ⟨V2, eV2, hf⟩ := nme hf
          have hP : va_P D vwCl (w_M cs o h Im_7 V2) H := by rw [eV2]; exact hP
          have hD : va_D A (w_M cs o h Im_7 V2) := by rw [eV2]; exact hD
          refine lv_aload_n hx hb dX10_layAskers_85 rfl (lv_at hl 0 rfl) ?_
          refine lv_dup hx hb dX10_layAskers_86 rfl ?_
          refine va_get (D := D) (ci := 10) (v := .int (Im_7 37)) (C := RX10) (T := TX10) (N := 38) hx hb hts in_X10 hown hK hP 0 rfl rfl 37 (by decide) g_201 (fun _ h9 => h9) rfl dX10_layAskers_87 ?_
          refine lv_iconst (v := 1) hx hb dX10_layAskers_90 (by decide) ?_
          refine lv_iadd hx hb dX10_layAskers_91 ?_
          refine va_put (D := D) (ci := 10) (v := .int ((Im_7 37) + 1)) (ty := .int) (C := RX10) (T := TX10) (N := 38) hx hb hts in_X10 tyX10 tyX10_ok nmX10 hown hK hP hD hS 0 rfl rfl 37 (by decide) g_201 (fun _ h9 => h9) rfl (by decide +kernel) rfl rfl (Nat.le_of_ble_eq_true rfl) dX10_layAskers_92 (fun H locs hP hD hS => ?_)
          obtain ⟨I3, eI3, hf⟩ := nme hf
          have hP : va_P D vwCl (w_M cs o h I3 V2) H := by rw [eI3]; exact hP
          have hD : va_D A (w_M cs o h I3 V2) := by rw [eI3]; exact hD
          exact J95 I3 V2 hf _ _ hP hD hS _ (lv_sub hl [0, 1, 2] rfl)
  refine L7 _ (fun Im_7 Vm_7 hf H locs hP hD hS ls hl => ?_) f 0 I1 V hf _ _ hP hD hS _ (lv_sub hl [1, 2, 0] rfl)
  exact hret Im_7 Vm_7 _ _ 101 _ hf hP hD hS dX10_layAskers_101
set_option maxHeartbeats 4000000 in
set_option maxRecDepth 100000 in
theorem c_M_layAskers (l : Launch) (D : va_G) (cs : Nat → ClassId) (o : Nat) (h : Nat → Nat) (sz : Nat) (I : FI) (V : FV) (x1 : Int32) (f : Nat) (out : FI × FV) (hf : M_layAskers f x1 I V = some out) : Met l yX10_layAskers wsX10_layAskers rm_M_layAskers (va_Pc [.ref o, .int x1] (xP D cs (w_M cs o h I V) sz)) (va_Qv (fun u => u = out) (fun (u : FI × FV) t => xA D cs (va_A (w_M cs o h I V) sz) (w_M cs o h u.1 u.2) t) (va_A (w_M cs o h I V) sz)) 0 0 (va_A (w_M cs o h I V) sz) := by
  refine Met.ofW (cc := cX10_layAskers) (maxL := 5) (ret := none) (by decide) rfl ?_
  intro p e s m args below meth c s₁ B hml hv
  obtain ⟨ha, hsz, hP, hK, hD0⟩ := hv
  have hx := B.exec
  have hb := B.bytes
  have hr := B.returns
  have hts := atoms_spec (ws := wsX10_layAskers) B.pre
  have hown : s.vm.findClass RX10 = some m.cls := findClass_of_methodNamed B.named
  have hlocks := B.notSynchronized
  have in_X10 : ∀ w ∈ u_ws RX10 TX10 38, w ∈ wsX10_layAskers := fun w h => List.mem_cons_of_mem _ (List.mem_append_right _ h)
  have g_201 := hts (Cond.fieldLink RX10 201 "DaysLentModel" "askers" "I") (by decide +kernel)
  have g_96 := hts (Cond.fieldLink RX10 96 "DaysLentModel" "people" "I") (by decide +kernel)
  have g_135 := hts (Cond.fieldLink RX10 135 "DaysLentModel" "debts" "I") (by decide +kernel)
  have g_29 := hts (Cond.fieldLink RX10 29 "DaysLentModel" "owes" "[I") (by decide +kernel)
  have g_26 := hts (Cond.fieldLink RX10 26 "DaysLentModel" "owed" "[I") (by decide +kernel)
  have g_32 := hts (Cond.fieldLink RX10 32 "DaysLentModel" "much" "[I") (by decide +kernel)
  have g_89 := hts (Cond.fieldLink RX10 89 "DaysLentModel" "all" "[I") (by decide +kernel)
  subst hsz
  have hD := hD0.self (sz := s.heap.size)
  generalize hAe : va_A (w_M cs o h I V) s.heap.size = A at hD ⊢
  have hA : ∀ q : Nat, s.heap.size ≤ q → A q := fun q h => by rw [← hAe]; exact Or.inr h
  have hl := lv_entry ([.ref o, .int x1]) (n := 5) (Nat.le_of_ble_eq_true rfl)
  rw [show entryFrame m args 5 = entryFrame m ([.ref o, .int x1] : List Value).toArray 5 from by rw [ha], lg_entry_eq]
  generalize (lg_sl ([.ref o, .int x1]) ++ List.replicate (5 - (lg_sl ([.ref o, .int x1])).length) Slot.unset).toArray = ls at hl ⊢
  generalize hQ : MQ below (va_Qv (fun u => u = out) (fun (u : FI × FV) t => xA D cs A (w_M cs o h u.1 u.2) t) A) args s 0 0 A = Q
  have hret : ∀ (Im9 : FI) (Vm9 : FV) (H : Heap) (locs : List Loc) (pc : Nat) (ls : Array Slot), some (Im9, Vm9) = some out → va_P D vwCl (w_M cs o h Im9 Vm9) H → va_D A (w_M cs o h Im9 Vm9) → va_S A s.heap H locs → decode cX10_layAskers pc = .ok (.return_, 1) → W p l e rm_M_layAskers s m args below meth c H locs 0 0 Q (F0 m pc ls []) := by
    intro Im9 Vm9 H locs pc ls hf hP hD hS hd
    rw [← hQ]
    exact W.vret hx hb hr (fun t ht hW => ⟨⟨(Im9, Vm9), rfl, Option.some.inj hf, by show va_P D vwCl (w_M cs o h Im9 Vm9) t.heap; rw [ht]; exact hP, va_K.moved hW.alike hK, hD⟩, hS.F ht⟩) hS.2.2 hd
  exact v_M_layAskers hf hx hb hml hown hts in_X10 g_201 g_96 g_135 g_29 g_26 g_32 g_89 hA hP hD hK hret ls hl
def M_enoughBy_L25 {ρ : Type} (f : Nat) (I : FI) (x5_5 : Int32) (V : FV) (x2 : Int32) (k_25 : Int64 → Int32 → Option ρ) : Nat → Int64 → Int32 → Int32 → Option ρ
  | 0, _, _, _ => none
  | n_25 + 1, x6_25, x8_25, x9_25 => (if (I 37) ≤ x9_25 then (k_25 x6_25 x8_25) else ob1 (M_has f x5_5 x9_25) (fun zr1 => (nm (fun (t1_56 : Int64) => ob1 (M_has f x5_5 x9_25) (fun zr2 => (nm (fun (t1_82 : Int32) => (M_enoughBy_L25 f I x5_5 V x2 k_25 n_25 (x6_25 * t1_56) (x8_25 + t1_82) (x9_25 + 1))) (fun j82 => (if zr2 = 0 then (j82 0) else if x9_25 < 0 ∨ 6 ≤ x9_25.toNatClampNeg then none else ((j82 ((V 36) x9_25.toNatClampNeg)))))))) (fun j56 => (if zr1 = 0 then (j56 ((10 - x2).toInt64)) else (j56 (x2.toInt64)))))))
def M_enoughBy_L5 {ρ : Type} (f : Nat) (I : FI) (V : FV) (x2 : Int32) (x1 : Int32) (k_5 : Int64 → Option ρ) : Nat → Int64 → Int32 → Option ρ
  | 0, _, _ => none
  | n_5 + 1, x3_5, x5_5 => (if (1 <<< ((I 37) &&& 31)) ≤ x5_5 then (k_5 x3_5) else (M_enoughBy_L25 f I x5_5 V x2 (fun (x6_25 : Int64) (x8_25 : Int32) => (nm (fun (t1_104 : Int64) => (M_enoughBy_L5 f I V x2 x1 k_5 n_5 (x3_5 + t1_104) (x5_5 + 1))) (fun j104 => (if x1 < x8_25 then (j104 0) else (j104 x6_25))))) f 1 0 0))
def M_enoughBy (f : Nat) (x1 : Int32) (x2 : Int32) (I : FI) (V : FV) : Option (Int64) := (M_enoughBy_L5 f I V x2 x1 (fun (x3_5 : Int64) => some x3_5) f 0 0)
abbrev rm_M_enoughBy : Room := { frames := 1, cells := 0, slots := 0, locals := 21 }
set_option maxHeartbeats 4000000 in
set_option maxRecDepth 100000 in
theorem v_M_enoughBy {l : Launch} {p : Program} {e : Env} {s : State} {m : MethodId} {args : Array Value} {below : List Frame} {meth : Method} {c : Code} {Q : State → Prop} {D : va_G} {cs : Nat → ClassId} {o : Nat} {h : Nat → Nat} {I : FI} {V : FV} {x1 : Int32} {x2 : Int32} {f : Nat} {out : Int64} (hf : M_enoughBy f x1 x2 I V = some out) (hx : p.tables.exec = Jvm.exec) (hb : c.code = cX10_enoughBy) (hml : c.maxLocals = 10) (hown : s.vm.findClass RX10 = some m.cls) (hts : ∀ w ∈ wsX10_enoughBy, w.before args s = true) (in_X10 : ∀ w ∈ u_ws RX10 TX10 38, w ∈ wsX10_enoughBy) (g_201 : (Cond.fieldLink RX10 201 "DaysLentModel" "askers" "I").before args s = true) (w_has_160 : CallB rm_M_enoughBy s args RX10 160 yX10_has cX10_has 2 (some .boolean) wsX10_has rm_M_has 0 0 2 ∧ (Cond.static yX10_has).before args s = true) (g_89 : (Cond.fieldLink RX10 89 "DaysLentModel" "all" "[I").before args s = true) (hP : va_P D vwCl (w_M cs o h I V) s.heap) (hK : va_K D vwCl (tyA cs) s) (hret : ∀ (v : Int64) (pc : Nat) (ls : Array Slot), some v = some out → decode cX10_enoughBy pc = .ok (.lreturn, 1) → W p l e rm_M_enoughBy s m args below meth c s.heap [] 0 0 Q (F0 m pc ls [.long v])) : ∀ ls : Array Slot, lv_has ls 10 [(0, .ref o), (1, .int x1), (2, .int x2)] → W p l e rm_M_enoughBy s m args below meth c s.heap [] 0 0 Q (F0 m 0 ls []) := by
  intro ls hl
  unfold M_enoughBy at hf
  refine lv_lconst (v := 0) hx hb dX10_enoughBy_0 (by decide) ?_
  refine lv_lstore_n (lv' := [(3, .long 0), (0, .ref o), (1, .int x1), (2, .int x2)]) hx hb dX10_enoughBy_1 rfl hl (by decide) rfl (fun ls hl => ?_)
  refine lv_iconst (v := 0) hx hb dX10_enoughBy_2 (by decide) ?_
  refine lv_istore (lv' := [(5, .int 0), (3, .long 0), (0, .ref o), (1, .int x1), (2, .int x2)]) hx hb dX10_enoughBy_3 hl (by decide) rfl (fun ls hl => ?_)
  have L5 : ∀ (k_5 : Int64 → Option (Int64)) (hk_5 : ∀ (x3_5 : Int64), k_5 x3_5 = some out → ∀ ls : Array Slot, lv_has ls 10 [(3, .long x3_5)] → W p l e rm_M_enoughBy s m args below meth c s.heap [] 0 0 Q (F0 m 112 ls [])), ∀ (n_5 : Nat) (x3_5 : Int64) (x5_5 : Int32), M_enoughBy_L5 f I V x2 x1 k_5 n_5 x3_5 x5_5 = some out → ∀ ls : Array Slot, lv_has ls 10 [(0, .ref o), (1, .int x1), (2, .int x2), (3, .long x3_5), (5, .int x5_5)] → W p l e rm_M_enoughBy s m args below meth c s.heap [] 0 0 Q (F0 m 5 ls []) := by
    intro k_5 hk_5 n_5
    induction n_5 with
    | zero => intro x3_5 x5_5 hf; rw [M_enoughBy_L5] at hf; cases hf
    | succ n_5 ih_5 =>
      intro x3_5 x5_5 hf ls hl
      rw [M_enoughBy_L5] at hf
      refine lv_iload hx hb dX10_enoughBy_5 (lv_at hl 4 rfl) ?_
      refine lv_iconst (v := 1) hx hb dX10_enoughBy_7 (by decide) ?_
      refine lv_aload_n hx hb dX10_enoughBy_8 rfl (lv_at hl 0 rfl) ?_
      refine va_get (D := D) (ci := 10) (v := .int (I 37)) (C := RX10) (T := TX10) (N := 38) hx hb hts in_X10 hown hK hP 0 rfl rfl 37 (by decide) g_201 (fun _ h9 => h9) rfl dX10_enoughBy_9 ?_
      refine lv_ishl hx hb dX10_enoughBy_12 ?_
      refine lv_icmp_ge (tgt := 112) hx hb dX10_enoughBy_13 (by decide) (fun c13 => ?_) (fun c13 => ?_)
      · replace hf := ip c13 hf
        exact hk_5 x3_5 hf _ (lv_sub hl [3] rfl)
      · replace hf := im c13 hf
        refine lv_lconst (v := 1) hx hb dX10_enoughBy_16 (by decide) ?_
        refine lv_lstore (lv' := [(6, .long 1), (0, .ref o), (1, .int x1), (2, .int x2), (3, .long x3_5), (5, .int x5_5)]) hx hb dX10_enoughBy_17 hl (by decide) rfl (fun ls hl => ?_)
        refine lv_iconst (v := 0) hx hb dX10_enoughBy_19 (by decide) ?_
        refine lv_istore (lv' := [(8, .int 0), (6, .long 1), (0, .ref o), (1, .int x1), (2, .int x2), (3, .long x3_5), (5, .int x5_5)]) hx hb dX10_enoughBy_20 hl (by decide) rfl (fun ls hl => ?_)
        refine lv_iconst (v := 0) hx hb dX10_enoughBy_22 (by decide) ?_
        refine lv_istore (lv' := [(9, .int 0), (8, .int 0), (6, .long 1), (0, .ref o), (1, .int x1), (2, .int x2), (3, .long x3_5), (5, .int x5_5)]) hx hb dX10_enoughBy_23 hl (by decide) rfl (fun ls hl => ?_)
        have L25 : ∀ (k_25 : Int64 → Int32 → Option (Int64)) (hk_25 : ∀ (x6_25 : Int64) (x8_25 : Int32), k_25 x6_25 x8_25 = some out → ∀ ls : Array Slot, lv_has ls 10 [(0, .ref o), (1, .int x1), (2, .int x2), (3, .long x3_5), (5, .int x5_5), (6, .long x6_25), (8, .int x8_25)] → W p l e rm_M_enoughBy s m args below meth c s.heap [] 0 0 Q (F0 m 91 ls [])), ∀ (n_25 : Nat) (x6_25 : Int64) (x8_25 : Int32) (x9_25 : Int32), M_enoughBy_L25 f I x5_5 V x2 k_25 n_25 x6_25 x8_25 x9_25 = some out → ∀ ls : Array Slot, lv_has ls 10 [(0, .ref o), (1, .int x1), (2, .int x2), (3, .long x3_5), (5, .int x5_5), (6, .long x6_25), (8, .int x8_25), (9, .int x9_25)] → W p l e rm_M_enoughBy s m args below meth c s.heap [] 0 0 Q (F0 m 25 ls []) := by
          intro k_25 hk_25 n_25
          induction n_25 with
          | zero => intro x6_25 x8_25 x9_25 hf; rw [M_enoughBy_L25] at hf; cases hf
          | succ n_25 ih_25 =>
            intro x6_25 x8_25 x9_25 hf ls hl
            rw [M_enoughBy_L25] at hf
            refine lv_iload hx hb dX10_enoughBy_25 (lv_at hl 7 rfl) ?_
            refine lv_aload_n hx hb dX10_enoughBy_27 rfl (lv_at hl 0 rfl) ?_
            refine va_get (D := D) (ci := 10) (v := .int (I 37)) (C := RX10) (T := TX10) (N := 38) hx hb hts in_X10 hown hK hP 0 rfl rfl 37 (by decide) g_201 (fun _ h9 => h9) rfl dX10_enoughBy_28 ?_
            refine lv_icmp_ge (tgt := 91) hx hb dX10_enoughBy_31 (by decide) (fun c31 => ?_) (fun c31 => ?_)
            · replace hf := ip c31 hf
              exact hk_25 x6_25 x8_25 hf _ (lv_sub hl [0, 1, 2, 3, 4, 5, 6] rfl)
            · replace hf := im c31 hf
              refine lv_lload hx hb dX10_enoughBy_34 (lv_at hl 5 rfl) ?_
              refine lv_iload hx hb dX10_enoughBy_36 (lv_at hl 4 rfl) ?_
              refine lv_iload hx hb dX10_enoughBy_38 (lv_at hl 7 rfl) ?_
              obtain ⟨zr1, qr1, hf⟩ := bd1 hf
              refine vp_callSi (va_Run.run (va_runS (As := [.int x5_5, .int x9_25]) (rest := [.long x6_25]) ⟨hx, hb, hml, hown, hts⟩ (c_M_has l x5_5 x9_25 f zr1 qr1) w_has_160 ⟨fun a U g mk q => q, fun U hU hW => ⟨rfl, trivial⟩⟩ rfl rfl hl.1 rfl (lv_room (Nat.le_of_ble_eq_true rfl)) dX10_enoughBy_40 ⟨Nat.zero_le _, Nat.zero_le _⟩)) (fun r1 er1 => ?_)
              rw [er1]
              obtain ⟨j56, ej56, hf⟩ := nme hf
              have J56 : ∀ (t1_56 : Int64), j56 t1_56 = some out → ∀ ls : Array Slot, lv_has ls 10 [(0, .ref o), (1, .int x1), (2, .int x2), (3, .long x3_5), (5, .int x5_5), (8, .int x8_25), (9, .int x9_25)] → W p l e rm_M_enoughBy s m args below meth c s.heap [] 0 0 Q (F0 m 56 ls [.long t1_56, .long x6_25]) := by
                intro t1_56 hf ls hl
                rw [ej56] at hf
                refine lv_lmul hx hb dX10_enoughBy_56 ?_
                refine lv_lstore (lv' := [(6, .long (x6_25 * t1_56)), (0, .ref o), (1, .int x1), (2, .int x2), (3, .long x3_5), (5, .int x5_5), (8, .int x8_25), (9, .int x9_25)]) hx hb dX10_enoughBy_57 hl (by decide) rfl (fun ls hl => ?_)
                refine lv_iload hx hb dX10_enoughBy_59 (lv_at hl 6 rfl) ?_
                refine lv_iload hx hb dX10_enoughBy_61 (lv_at hl 5 rfl) ?_
                refine lv_iload hx hb dX10_enoughBy_63 (lv_at hl 7 rfl) ?_
                obtain ⟨zr2, qr2, hf⟩ := bd1 hf
                refine vp_callSi (va_Run.run (va_runS (As := [.int x5_5, .int x9_25]) (rest := [.int x8_25]) ⟨hx, hb, hml, hown, hts⟩ (c_M_has l x5_5 x9_25 f zr2 qr2) w_has_160 ⟨fun a U g mk q => q, fun U hU hW => ⟨rfl, trivial⟩⟩ rfl rfl hl.1 rfl (lv_room (Nat.le_of_ble_eq_true rfl)) dX10_enoughBy_65 ⟨Nat.zero_le _, Nat.zero_le _⟩)) (fun r2 er2 => ?_)
                rw [er2]
                obtain ⟨j82, ej82, hf⟩ := nme hf
                have J82 : ∀ (t1_82 : Int32), j82 t1_82 = some out → ∀ ls : Array Slot, lv_has ls 10 [(0, .ref o), (1, .int x1), (2, .int x2), (3, .long x3_5), (5, .int x5_5), (6, .long (x6_25 * t1_56)), (9, .int x9_25)] → W p l e rm_M_enoughBy s m args below meth c s.heap [] 0 0 Q (F0 m 82 ls [.int t1_82, .int x8_25]) := by
                  intro t1_82 hf ls hl
                  rw [ej82] at hf
                  refine lv_iadd hx hb dX10_enoughBy_82 ?_
                  refine lv_istore (lv' := [(8, .int (x8_25 + t1_82)), (0, .ref o), (1, .int x1), (2, .int x2), (3, .long x3_5), (5, .int x5_5), (6, .long (x6_25 * t1_56)), (9, .int x9_25)]) hx hb dX10_enoughBy_83 hl (by decide) rfl (fun ls hl => ?_)
                  refine lv_iinc (v := (x9_25 + 1)) (lv' := [(9, .int (x9_25 + 1)), (8, .int (x8_25 + t1_82)), (0, .ref o), (1, .int x1), (2, .int x2), (3, .long x3_5), (5, .int x5_5), (6, .long (x6_25 * t1_56))]) hx hb dX10_enoughBy_85 hl (k := 7) rfl (by rfl) (by decide) rfl (fun ls hl => ?_)
                  refine lv_goto (tgt := 25) hx hb dX10_enoughBy_88 (by decide) ?_
                  exact ih_25 (x6_25 * t1_56) (x8_25 + t1_82) (x9_25 + 1) hf _ (lv_sub hl [2, 3, 4, 5, 6, 7, 1, 0] rfl)
                refine lv_if_eq (tgt := 81) hx hb dX10_enoughBy_68 (by decide) (fun c68 => ?_) (fun c68 => ?_)
                · replace hf := ip c68 hf
                  refine lv_iconst (v := 0) hx hb dX10_enoughBy_81 (by decide) ?_
                  exact J82 0 hf _ (lv_sub hl [1, 2, 3, 4, 5, 0, 7] rfl)
                · replace hf := im c68 hf
                  refine lv_aload_n hx hb dX10_enoughBy_71 rfl (lv_at hl 1 rfl) ?_
                  refine va_get (D := D) (ci := 10) (v := .ref (h 36)) (C := RX10) (T := TX10) (N := 38) hx hb hts in_X10 hown hK hP 0 rfl rfl 36 (by decide) g_89 (fun _ h9 => h9) rfl dX10_enoughBy_72 ?_
                  refine lv_iload hx hb dX10_enoughBy_75 (lv_at hl 7 rfl) ?_
                  obtain ⟨c77, hf⟩ := gd hf
                  refine va_iald (f := (V 36)) hx hb hK hP 27 0 rfl rfl c77 dX10_enoughBy_77 ?_
                  refine lv_goto (tgt := 82) hx hb dX10_enoughBy_78 (by decide) ?_
                  exact J82 ((V 36) x9_25.toNatClampNeg) hf _ (lv_sub hl [1, 2, 3, 4, 5, 0, 7] rfl)
              refine lv_if_eq (tgt := 51) hx hb dX10_enoughBy_43 (by decide) (fun c43 => ?_) (fun c43 => ?_)
              · replace hf := ip c43 hf
                refine lv_bipush (v := 10) hx hb dX10_enoughBy_51 (by decide) ?_
                refine lv_iload_n hx hb dX10_enoughBy_53 rfl (lv_at hl 2 rfl) ?_
                refine lv_isub hx hb dX10_enoughBy_54 ?_
                refine lv_i2l (v := (10 - x2).toInt64) hx hb dX10_enoughBy_55 rfl ?_
                exact J56 ((10 - x2).toInt64) hf _ (lv_sub hl [0, 1, 2, 3, 4, 6, 7] rfl)
              · replace hf := im c43 hf
                refine lv_iload_n hx hb dX10_enoughBy_46 rfl (lv_at hl 2 rfl) ?_
                refine lv_i2l (v := x2.toInt64) hx hb dX10_enoughBy_47 rfl ?_
                refine lv_goto (tgt := 56) hx hb dX10_enoughBy_48 (by decide) ?_
                exact J56 (x2.toInt64) hf _ (lv_sub hl [0, 1, 2, 3, 4, 6, 7] rfl)
        refine L25 _ (fun x6_25 x8_25 hf ls hl => ?_) f 1 0 0 hf _ (lv_sub hl [3, 4, 5, 6, 7, 2, 1, 0] rfl)
        refine lv_lload_n hx hb dX10_enoughBy_91 rfl (lv_at hl 3 rfl) ?_
        refine lv_iload hx hb dX10_enoughBy_92 (lv_at hl 6 rfl) ?_
        refine lv_iload_n hx hb dX10_enoughBy_94 rfl (lv_at hl 1 rfl) ?_
        obtain ⟨j104, ej104, hf⟩ := nme hf
        have J104 : ∀ (t1_104 : Int64), j104 t1_104 = some out → ∀ ls : Array Slot, lv_has ls 10 [(0, .ref o), (1, .int x1), (2, .int x2), (5, .int x5_5)] → W p l e rm_M_enoughBy s m args below meth c s.heap [] 0 0 Q (F0 m 104 ls [.long t1_104, .long x3_5]) := by
          intro t1_104 hf ls hl
          rw [ej104] at hf
          refine lv_ladd hx hb dX10_enoughBy_104 ?_
          refine lv_lstore_n (lv' := [(3, .long (x3_5 + t1_104)), (0, .ref o), (1, .int x1), (2, .int x2), (5, .int x5_5)]) hx hb dX10_enoughBy_105 rfl hl (by decide) rfl (fun ls hl => ?_)
          refine lv_iinc (v := (x5_5 + 1)) (lv' := [(5, .int (x5_5 + 1)), (3, .long (x3_5 + t1_104)), (0, .ref o), (1, .int x1), (2, .int x2)]) hx hb dX10_enoughBy_106 hl (k := 4) rfl (by rfl) (by decide) rfl (fun ls hl => ?_)
          refine lv_goto (tgt := 5) hx hb dX10_enoughBy_109 (by decide) ?_
          exact ih_5 (x3_5 + t1_104) (x5_5 + 1) hf _ (lv_sub hl [2, 3, 4, 1, 0] rfl)
        refine lv_icmp_gt (tgt := 103) hx hb dX10_enoughBy_95 (by decide) (fun c95 => ?_) (fun c95 => ?_)
        · replace hf := ip c95 hf
          refine lv_lconst (v := 0) hx hb dX10_enoughBy_103 (by decide) ?_
          exact J104 0 hf _ (lv_sub hl [0, 1, 2, 4] rfl)
        · replace hf := im c95 hf
          refine lv_lload hx hb dX10_enoughBy_98 (lv_at hl 5 rfl) ?_
          refine lv_goto (tgt := 104) hx hb dX10_enoughBy_100 (by decide) ?_
          exact J104 x6_25 hf _ (lv_sub hl [0, 1, 2, 4] rfl)
  refine L5 _ (fun x3_5 hf ls hl => ?_) f 0 0 hf _ (lv_sub hl [2, 3, 4, 1, 0] rfl)
  refine lv_lload_n hx hb dX10_enoughBy_112 rfl (lv_at hl 0 rfl) ?_
  exact hret x3_5 113 _ hf dX10_enoughBy_113
set_option maxHeartbeats 4000000 in
set_option maxRecDepth 100000 in
theorem c_M_enoughBy (l : Launch) (D : va_G) (cs : Nat → ClassId) (o : Nat) (h : Nat → Nat) (I : FI) (V : FV) (x1 : Int32) (x2 : Int32) (f : Nat) (out : Int64) (hf : M_enoughBy f x1 x2 I V = some out) : Met l yX10_enoughBy wsX10_enoughBy rm_M_enoughBy (va_Pc [.ref o, .int x1, .int x2] (xR D cs (w_M cs o h I V))) (vp_Sl (fun r => r = out)) 0 0 (fun _ => False) := by
  refine Met.ofW (cc := cX10_enoughBy) (maxL := 10) (ret := (some .long)) (by decide) rfl ?_
  intro p e s m args below meth c s₁ B hml hv
  obtain ⟨ha, hP, hK⟩ := hv
  have hx := B.exec
  have hb := B.bytes
  have hr := B.returns
  have hts := atoms_spec (ws := wsX10_enoughBy) B.pre
  have hown : s.vm.findClass RX10 = some m.cls := findClass_of_methodNamed B.named
  have hlocks := B.notSynchronized
  have in_X10 : ∀ w ∈ u_ws RX10 TX10 38, w ∈ wsX10_enoughBy := fun w h => List.mem_cons_of_mem _ (List.mem_append_right _ h)
  have g_201 := hts (Cond.fieldLink RX10 201 "DaysLentModel" "askers" "I") (by decide +kernel)
  have w_has_160 := va_cwS (R := rm_M_enoughBy) (s := s) (args := args) (rm := rm_M_has) (mc := 0) (ms := 0) 2 hts gX10_enoughBy_X10_has rfl rfl rfl (by decide +kernel) ⟨Nat.le_of_ble_eq_true rfl, Nat.le_of_ble_eq_true rfl⟩
  have g_89 := hts (Cond.fieldLink RX10 89 "DaysLentModel" "all" "[I") (by decide +kernel)
  have hl := lv_entry ([.ref o, .int x1, .int x2]) (n := 10) (Nat.le_of_ble_eq_true rfl)
  rw [show entryFrame m args 10 = entryFrame m ([.ref o, .int x1, .int x2] : List Value).toArray 10 from by rw [ha], lg_entry_eq]
  generalize (lg_sl ([.ref o, .int x1, .int x2]) ++ List.replicate (10 - (lg_sl ([.ref o, .int x1, .int x2])).length) Slot.unset).toArray = ls at hl ⊢
  generalize hQ : MQ below (vp_Sl (fun r => r = out)) args s 0 0 (fun _ => False) = Q
  have hret : ∀ (v : Int64) (pc : Nat) (ls : Array Slot), some v = some out → decode cX10_enoughBy pc = .ok (.lreturn, 1) → W p l e rm_M_enoughBy s m args below meth c s.heap [] 0 0 Q (F0 m pc ls [.long v]) := by
    intro v pc ls hf hd
    rw [← hQ]
    exact W.lret (v := v) hx hb hr (fun t ht hW => ⟨v, rfl, Option.some.inj hf, ht⟩) (fun q h => by cases h) hd
  exact v_M_enoughBy hf hx hb hml hown hts in_X10 g_201 w_has_160 g_89 hP hK hret ls hl
def M_divisor_L6 {ρ : Type} (f : Nat) (k_6 : Int64 → Option ρ) : Nat → Int64 → Int64 → Option ρ
  | 0, _, _ => none
  | n_6 + 1, x4_6, x6_6 => (if (lg_cmp x6_6 0) = 0 then (k_6 x4_6) else if x6_6 = 0 then none else (nm (x4_6 - x4_6 / x6_6 * x6_6) (fun y1 => (M_divisor_L6 f k_6 n_6 x6_6 y1))))
def M_divisor (f : Nat) (x0 : Int64) (x2 : Int64) : Option (Int64) := (M_divisor_L6 f (fun (x4_6 : Int64) => some x4_6) f x0 x2)
abbrev rm_M_divisor : Room := { frames := 0, cells := 0, slots := 0, locals := 0 }
set_option maxHeartbeats 4000000 in
set_option maxRecDepth 100000 in
theorem v_M_divisor {l : Launch} {p : Program} {e : Env} {s : State} {m : MethodId} {args : Array Value} {below : List Frame} {meth : Method} {c : Code} {Q : State → Prop} {x0 : Int64} {x2 : Int64} {f : Nat} {out : Int64} (hf : M_divisor f x0 x2 = some out) (hx : p.tables.exec = Jvm.exec) (hb : c.code = cX10_divisor) (hml : c.maxLocals = 10) (hown : s.vm.findClass RX10 = some m.cls) (hts : ∀ w ∈ wsX10_divisor, w.before args s = true) (hret : ∀ (v : Int64) (pc : Nat) (ls : Array Slot), some v = some out → decode cX10_divisor pc = .ok (.lreturn, 1) → W p l e rm_M_divisor s m args below meth c s.heap [] 0 0 Q (F0 m pc ls [.long v])) : ∀ ls : Array Slot, lv_has ls 10 [(0, .long x0), (2, .long x2)] → W p l e rm_M_divisor s m args below meth c s.heap [] 0 0 Q (F0 m 0 ls []) := by
  intro ls hl
  unfold M_divisor at hf
  refine lv_lload_n hx hb dX10_divisor_0 rfl (lv_at hl 0 rfl) ?_
  refine lv_lstore (lv' := [(4, .long x0), (0, .long x0), (2, .long x2)]) hx hb dX10_divisor_1 hl (by decide) rfl (fun ls hl => ?_)
  refine lv_lload_n hx hb dX10_divisor_3 rfl (lv_at hl 2 rfl) ?_
  refine lv_lstore (lv' := [(6, .long x2), (4, .long x0), (0, .long x0), (2, .long x2)]) hx hb dX10_divisor_4 hl (by decide) rfl (fun ls hl => ?_)
  have L6 : ∀ (k_6 : Int64 → Option (Int64)) (hk_6 : ∀ (x4_6 : Int64), k_6 x4_6 = some out → ∀ ls : Array Slot, lv_has ls 10 [(4, .long x4_6)] → W p l e rm_M_divisor s m args below meth c s.heap [] 0 0 Q (F0 m 31 ls [])), ∀ (n_6 : Nat) (x4_6 : Int64) (x6_6 : Int64), M_divisor_L6 f k_6 n_6 x4_6 x6_6 = some out → ∀ ls : Array Slot, lv_has ls 10 [(4, .long x4_6), (6, .long x6_6)] → W p l e rm_M_divisor s m args below meth c s.heap [] 0 0 Q (F0 m 6 ls []) := by
    intro k_6 hk_6 n_6
    induction n_6 with
    | zero => intro x4_6 x6_6 hf; rw [M_divisor_L6] at hf; cases hf
    | succ n_6 ih_6 =>
      intro x4_6 x6_6 hf ls hl
      rw [M_divisor_L6] at hf
      refine lv_lload hx hb dX10_divisor_6 (lv_at hl 1 rfl) ?_
      refine lv_lconst (v := 0) hx hb dX10_divisor_8 (by decide) ?_
      refine W.lcmp hx hb dX10_divisor_9 ?_
      refine lv_if_eq (tgt := 31) hx hb dX10_divisor_10 (by decide) (fun c10 => ?_) (fun c10 => ?_)
      · replace hf := ip c10 hf
        exact hk_6 x4_6 hf _ (lv_sub hl [0] rfl)
      · replace hf := im c10 hf
        refine lv_lload hx hb dX10_divisor_13 (lv_at hl 0 rfl) ?_
        refine lv_lload hx hb dX10_divisor_15 (lv_at hl 1 rfl) ?_
        obtain ⟨c17, hf⟩ := gd hf
        refine lv_lrem hx hb dX10_divisor_17 c17 ?_
        refine lv_topl (fun y1 ey1 => ?_)
        replace hf := nmd hf ey1
        refine lv_lstore (lv' := [(8, .long y1), (4, .long x4_6), (6, .long x6_6)]) hx hb dX10_divisor_18 hl (by decide) rfl (fun ls hl => ?_)
        refine lv_lload hx hb dX10_divisor_20 (lv_at hl 2 rfl) ?_
        refine lv_lstore (lv' := [(4, .long x6_6), (8, .long y1), (6, .long x6_6)]) hx hb dX10_divisor_22 hl (by decide) rfl (fun ls hl => ?_)
        refine lv_lload hx hb dX10_divisor_24 (lv_at hl 1 rfl) ?_
        refine lv_lstore (lv' := [(6, .long y1), (4, .long x6_6), (8, .long y1)]) hx hb dX10_divisor_26 hl (by decide) rfl (fun ls hl => ?_)
        refine lv_goto (tgt := 6) hx hb dX10_divisor_28 (by decide) ?_
        exact ih_6 x6_6 y1 hf _ (lv_sub hl [1, 0] rfl)
  refine L6 _ (fun x4_6 hf ls hl => ?_) f x0 x2 hf _ (lv_sub hl [1, 0] rfl)
  refine lv_lload hx hb dX10_divisor_31 (lv_at hl 0 rfl) ?_
  exact hret x4_6 33 _ hf dX10_divisor_33
set_option maxHeartbeats 4000000 in
set_option maxRecDepth 100000 in
theorem c_M_divisor (l : Launch) (x0 : Int64) (x2 : Int64) (f : Nat) (out : Int64) (hf : M_divisor f x0 x2 = some out) : Met l yX10_divisor wsX10_divisor rm_M_divisor (va_Pc [.long x0, .long x2] (fun _ => True)) (vp_Sl (fun r => r = out)) 0 0 (fun _ => False) := by
  refine Met.ofW (cc := cX10_divisor) (maxL := 10) (ret := (some .long)) (by decide) rfl ?_
  intro p e s m args below meth c s₁ B hml hv
  obtain ⟨ha, -⟩ := hv
  have hx := B.exec
  have hb := B.bytes
  have hr := B.returns
  have hts := atoms_spec (ws := wsX10_divisor) B.pre
  have hown : s.vm.findClass RX10 = some m.cls := findClass_of_methodNamed B.named
  have hlocks := B.notSynchronized
  have hl := lv_entry ([.long x0, .long x2]) (n := 10) (Nat.le_of_ble_eq_true rfl)
  rw [show entryFrame m args 10 = entryFrame m ([.long x0, .long x2] : List Value).toArray 10 from by rw [ha], lg_entry_eq]
  generalize (lg_sl ([.long x0, .long x2]) ++ List.replicate (10 - (lg_sl ([.long x0, .long x2])).length) Slot.unset).toArray = ls at hl ⊢
  generalize hQ : MQ below (vp_Sl (fun r => r = out)) args s 0 0 (fun _ => False) = Q
  have hret : ∀ (v : Int64) (pc : Nat) (ls : Array Slot), some v = some out → decode cX10_divisor pc = .ok (.lreturn, 1) → W p l e rm_M_divisor s m args below meth c s.heap [] 0 0 Q (F0 m pc ls [.long v]) := by
    intro v pc ls hf hd
    rw [← hQ]
    exact W.lret (v := v) hx hb hr (fun t ht hW => ⟨v, rfl, Option.some.inj hf, ht⟩) (fun q h => by cases h) hd
  exact v_M_divisor hf hx hb hml hown hts hret ls hl
def M_wholeOf_L4 {ρ : Type} (f : Nat) (I : FI) (k_4 : Int64 → Option ρ) : Nat → Int64 → Int32 → Option ρ
  | 0, _, _ => none
  | n_4 + 1, x1_4, x3_4 => (if (I 37) ≤ x3_4 then (k_4 x1_4) else (M_wholeOf_L4 f I k_4 n_4 (x1_4 * 10) (x3_4 + 1)))
def M_wholeOf (f : Nat) (I : FI) (V : FV) : Option (Int64) := (M_wholeOf_L4 f I (fun (x1_4 : Int64) => some x1_4) f 1 0)
abbrev rm_M_wholeOf : Room := { frames := 0, cells := 0, slots := 0, locals := 0 }
set_option maxHeartbeats 4000000 in
set_option maxRecDepth 100000 in
theorem v_M_wholeOf {l : Launch} {p : Program} {e : Env} {s : State} {m : MethodId} {args : Array Value} {below : List Frame} {meth : Method} {c : Code} {Q : State → Prop} {D : va_G} {cs : Nat → ClassId} {o : Nat} {h : Nat → Nat} {I : FI} {V : FV} {f : Nat} {out : Int64} (hf : M_wholeOf f I V = some out) (hx : p.tables.exec = Jvm.exec) (hb : c.code = cX10_wholeOf) (hml : c.maxLocals = 4) (hown : s.vm.findClass RX10 = some m.cls) (hts : ∀ w ∈ wsX10_wholeOf, w.before args s = true) (in_X10 : ∀ w ∈ u_ws RX10 TX10 38, w ∈ wsX10_wholeOf) (g_201 : (Cond.fieldLink RX10 201 "DaysLentModel" "askers" "I").before args s = true) (k_204 : (Cond.constantLong RX10 204 (10)).before args s = true) (hP : va_P D vwCl (w_M cs o h I V) s.heap) (hK : va_K D vwCl (tyA cs) s) (hret : ∀ (v : Int64) (pc : Nat) (ls : Array Slot), some v = some out → decode cX10_wholeOf pc = .ok (.lreturn, 1) → W p l e rm_M_wholeOf s m args below meth c s.heap [] 0 0 Q (F0 m pc ls [.long v])) : ∀ ls : Array Slot, lv_has ls 4 [(0, .ref o)] → W p l e rm_M_wholeOf s m args below meth c s.heap [] 0 0 Q (F0 m 0 ls []) := by
  intro ls hl
  unfold M_wholeOf at hf
  refine lv_lconst (v := 1) hx hb dX10_wholeOf_0 (by decide) ?_
  refine lv_lstore_n (lv' := [(1, .long 1), (0, .ref o)]) hx hb dX10_wholeOf_1 rfl hl (by decide) rfl (fun ls hl => ?_)
  refine lv_iconst (v := 0) hx hb dX10_wholeOf_2 (by decide) ?_
  refine lv_istore_n (lv' := [(3, .int 0), (1, .long 1), (0, .ref o)]) hx hb dX10_wholeOf_3 rfl hl (by decide) rfl (fun ls hl => ?_)
  have L4 : ∀ (k_4 : Int64 → Option (Int64)) (hk_4 : ∀ (x1_4 : Int64), k_4 x1_4 = some out → ∀ ls : Array Slot, lv_has ls 4 [(1, .long x1_4)] → W p l e rm_M_wholeOf s m args below meth c s.heap [] 0 0 Q (F0 m 24 ls [])), ∀ (n_4 : Nat) (x1_4 : Int64) (x3_4 : Int32), M_wholeOf_L4 f I k_4 n_4 x1_4 x3_4 = some out → ∀ ls : Array Slot, lv_has ls 4 [(0, .ref o), (1, .long x1_4), (3, .int x3_4)] → W p l e rm_M_wholeOf s m args below meth c s.heap [] 0 0 Q (F0 m 4 ls []) := by
    intro k_4 hk_4 n_4
    induction n_4 with
    | zero => intro x1_4 x3_4 hf; rw [M_wholeOf_L4] at hf; cases hf
    | succ n_4 ih_4 =>
      intro x1_4 x3_4 hf ls hl
      rw [M_wholeOf_L4] at hf
      refine lv_iload_n hx hb dX10_wholeOf_4 rfl (lv_at hl 2 rfl) ?_
      refine lv_aload_n hx hb dX10_wholeOf_5 rfl (lv_at hl 0 rfl) ?_
      refine va_get (D := D) (ci := 10) (v := .int (I 37)) (C := RX10) (T := TX10) (N := 38) hx hb hts in_X10 hown hK hP 0 rfl rfl 37 (by decide) g_201 (fun _ h9 => h9) rfl dX10_wholeOf_6 ?_
      refine lv_icmp_ge (tgt := 24) hx hb dX10_wholeOf_9 (by decide) (fun c9 => ?_) (fun c9 => ?_)
      · replace hf := ip c9 hf
        exact hk_4 x1_4 hf _ (lv_sub hl [1] rfl)
      · replace hf := im c9 hf
        refine lv_lload_n hx hb dX10_wholeOf_12 rfl (lv_at hl 1 rfl) ?_
        refine lv_ldc2 (v := 10) hx hb hown k_204 dX10_wholeOf_13 ?_
        refine lv_lmul hx hb dX10_wholeOf_16 ?_
        refine lv_lstore_n (lv' := [(1, .long (x1_4 * 10)), (0, .ref o), (3, .int x3_4)]) hx hb dX10_wholeOf_17 rfl hl (by decide) rfl (fun ls hl => ?_)
        refine lv_iinc (v := (x3_4 + 1)) (lv' := [(3, .int (x3_4 + 1)), (1, .long (x1_4 * 10)), (0, .ref o)]) hx hb dX10_wholeOf_18 hl (k := 2) rfl (by rfl) (by decide) rfl (fun ls hl => ?_)
        refine lv_goto (tgt := 4) hx hb dX10_wholeOf_21 (by decide) ?_
        exact ih_4 (x1_4 * 10) (x3_4 + 1) hf _ (lv_sub hl [2, 1, 0] rfl)
  refine L4 _ (fun x1_4 hf ls hl => ?_) f 1 0 hf _ (lv_sub hl [2, 1, 0] rfl)
  refine lv_lload_n hx hb dX10_wholeOf_24 rfl (lv_at hl 0 rfl) ?_
  exact hret x1_4 25 _ hf dX10_wholeOf_25
set_option maxHeartbeats 4000000 in
set_option maxRecDepth 100000 in
theorem c_M_wholeOf (l : Launch) (D : va_G) (cs : Nat → ClassId) (o : Nat) (h : Nat → Nat) (I : FI) (V : FV) (f : Nat) (out : Int64) (hf : M_wholeOf f I V = some out) : Met l yX10_wholeOf wsX10_wholeOf rm_M_wholeOf (va_Pc [.ref o] (xR D cs (w_M cs o h I V))) (vp_Sl (fun r => r = out)) 0 0 (fun _ => False) := by
  refine Met.ofW (cc := cX10_wholeOf) (maxL := 4) (ret := (some .long)) (by decide) rfl ?_
  intro p e s m args below meth c s₁ B hml hv
  obtain ⟨ha, hP, hK⟩ := hv
  have hx := B.exec
  have hb := B.bytes
  have hr := B.returns
  have hts := atoms_spec (ws := wsX10_wholeOf) B.pre
  have hown : s.vm.findClass RX10 = some m.cls := findClass_of_methodNamed B.named
  have hlocks := B.notSynchronized
  have in_X10 : ∀ w ∈ u_ws RX10 TX10 38, w ∈ wsX10_wholeOf := fun w h => List.mem_cons_of_mem _ (List.mem_append_right _ h)
  have g_201 := hts (Cond.fieldLink RX10 201 "DaysLentModel" "askers" "I") (by decide +kernel)
  have k_204 := hts (Cond.constantLong RX10 204 (10)) (by decide +kernel)
  have hl := lv_entry ([.ref o]) (n := 4) (Nat.le_of_ble_eq_true rfl)
  rw [show entryFrame m args 4 = entryFrame m ([.ref o] : List Value).toArray 4 from by rw [ha], lg_entry_eq]
  generalize (lg_sl ([.ref o]) ++ List.replicate (4 - (lg_sl ([.ref o])).length) Slot.unset).toArray = ls at hl ⊢
  generalize hQ : MQ below (vp_Sl (fun r => r = out)) args s 0 0 (fun _ => False) = Q
  have hret : ∀ (v : Int64) (pc : Nat) (ls : Array Slot), some v = some out → decode cX10_wholeOf pc = .ok (.lreturn, 1) → W p l e rm_M_wholeOf s m args below meth c s.heap [] 0 0 Q (F0 m pc ls [.long v]) := by
    intro v pc ls hf hd
    rw [← hQ]
    exact W.lret (v := v) hx hb hr (fun t ht hW => ⟨v, rfl, Option.some.inj hf, ht⟩) (fun q h => by cases h) hd
  exact v_M_wholeOf hf hx hb hml hown hts in_X10 g_201 k_204 hP hK hret ls hl
def M_run (f : Nat) (x1 : Int32) (x2 : Int32) (x3 : Int32) (I : FI) (V : FV) : Option (Int64 × FI × FV) := nm (va_up I 0 0) (fun I1 => ob1 (M_noOne f x1 I1 V) (fun zr2 => (if zr2 = 0 then ob1 (M_in f (x2.toInt64) 0 10) (fun zr3 => (if zr3 = 0 then some ((-2), I1, V) else ob2 (M_layAskers f x1 I1 V) (fun I5 V6 => if x1 < 0 ∨ 6 ≤ x1.toNatClampNeg then none else (ob1 (M_enoughBy f ((V6 5) x1.toNatClampNeg) x2 I5 V6) (fun zr7 => ob1 (M_wholeOf f I5 V6) (fun zr8 => ob1 (M_divisor f zr7 zr8) (fun zr9 => (if x3 = 0 then ob1 (M_wholeOf f I5 V6) (fun zr10 => if zr9 = 0 then none else (some ((zr10 / zr9), I5, V6))) else if zr9 = 0 then none else (some ((zr7 / zr9), I5, V6)))))))))) else some ((-1), I1, V))))
abbrev rm_M_run : Room := { frames := 2, cells := 0, slots := 0, locals := 50 }
set_option maxHeartbeats 4000000 in
set_option maxRecDepth 100000 in
theorem v_M_run {l : Launch} {p : Program} {e : Env} {s : State} {m : MethodId} {args : Array Value} {below : List Frame} {meth : Method} {c : Code} {Q : State → Prop} {D : va_G} {cs : Nat → ClassId} {o : Nat} {h : Nat → Nat} {A : Nat → Prop} {I : FI} {V : FV} {x1 : Int32} {x2 : Int32} {x3 : Int32} {f : Nat} {out : Int64 × FI × FV} (hf : M_run f x1 x2 x3 I V = some out) (hx : p.tables.exec = Jvm.exec) (hb : c.code = cX10_run) (hml : c.maxLocals = 8) (hown : s.vm.findClass RX10 = some m.cls) (hts : ∀ w ∈ wsX10_run, w.before args s = true) (in_X10 : ∀ w ∈ u_ws RX10 TX10 38, w ∈ wsX10_run) (g_92 : (Cond.fieldLink RX10 92 "DaysLentModel" "thrown" "I").before args s = true) (w_noOne_151 : CallW rm_M_run s args RX10 RX10 151 yX10_noOne cX10_noOne 2 (some .boolean) wsX10_noOne rm_M_noOne 0 0 1) (k_206 : (Cond.constantLong RX10 206 (-1)).before args s = true) (k_204 : (Cond.constantLong RX10 204 (10)).before args s = true) (w_in_99 : CallB rm_M_run s args RX10 99 yX10_in cX10_in 6 (some .boolean) wsX10_in rm_M_in 0 0 3 ∧ (Cond.static yX10_in).before args s = true) (k_208 : (Cond.constantLong RX10 208 (-2)).before args s = true) (w_layAskers_210 : CallW rm_M_run s args RX10 RX10 210 yX10_layAskers cX10_layAskers 5 none wsX10_layAskers rm_M_layAskers 0 0 1) (g_13 : (Cond.fieldLink RX10 13 "DaysLentModel" "mornings" "[I").before args s = true) (w_enoughBy_213 : CallW rm_M_run s args RX10 RX10 213 yX10_enoughBy cX10_enoughBy 10 (some .long) wsX10_enoughBy rm_M_enoughBy 0 0 2) (w_wholeOf_217 : CallW rm_M_run s args RX10 RX10 217 yX10_wholeOf cX10_wholeOf 4 (some .long) wsX10_wholeOf rm_M_wholeOf 0 0 0) (w_divisor_221 : CallB rm_M_run s args RX10 221 yX10_divisor cX10_divisor 10 (some .long) wsX10_divisor rm_M_divisor 0 0 2 ∧ (Cond.static yX10_divisor).before args s = true) (hA : ∀ q : Nat, s.heap.size ≤ q → A q) (hP : va_P D vwCl (w_M cs o h I V) s.heap) (hD : va_D A (w_M cs o h I V)) (hK : va_K D vwCl (tyA cs) s) (hret : ∀ (v : Int64) (Im9 : FI) (Vm9 : FV) (H : Heap) (locs : List Loc) (pc : Nat) (ls : Array Slot), some (v, Im9, Vm9) = some out → va_P D vwCl (w_M cs o h Im9 Vm9) H → va_D A (w_M cs o h Im9 Vm9) → va_S A s.heap H locs → decode cX10_run pc = .ok (.lreturn, 1) → W p l e rm_M_run s m args below meth c H locs 0 0 Q (F0 m pc ls [.long v])) : ∀ ls : Array Slot, lv_has ls 8 [(0, .ref o), (1, .int x1), (2, .int x2), (3, .int x3)] → W p l e rm_M_run s m args below meth c s.heap [] 0 0 Q (F0 m 0 ls []) := by
  intro ls hl
  have hS : va_S A s.heap s.heap [] := va_S.rf
  unfold M_run at hf
  refine lv_aload_n hx hb dX10_run_0 rfl (lv_at hl 0 rfl) ?_
  refine lv_iconst (v := 0) hx hb dX10_run_1 (by decide) ?_
  refine va_put (D := D) (ci := 10) (v := .int 0) (ty := .int) (C := RX10) (T := TX10) (N := 38) hx hb hts in_X10 tyX10 tyX10_ok nmX10 hown hK hP hD hS 0 rfl rfl 0 (by decide) g_92 (fun _ h9 => h9) rfl (by decide +kernel) rfl rfl (Nat.le_of_ble_eq_true rfl) dX10_run_2 (fun H locs hP hD hS => ?_)
  obtain ⟨I1, eI1, hf⟩ := nme hf
  have hP : va_P D vwCl (w_M cs o h I1 V) H := by rw [eI1]; exact hP
  have hD : va_D A (w_M cs o h I1 V) := by rw [eI1]; exact hD
  refine lv_aload_n hx hb dX10_run_5 rfl (lv_at hl 0 rfl) ?_
  refine lv_iload_n hx hb dX10_run_6 rfl (lv_at hl 1 rfl) ?_
  obtain ⟨zr2, qr2, hf⟩ := bd1 hf
  refine vp_callSi (va_Run.run (va_runV (As := [.int x1]) (rest := []) ⟨hx, hb, hml, hown, hts⟩ (c_M_noOne l D cs o h I1 V x1 f zr2 qr2) w_noOne_151 ⟨xR_moved, va_recv hK hP (ci := 10) (q0 := 0) rfl rfl, fun U hU hW => ⟨rfl, by rw [hU]; exact hP, va_K.moved hW.alike hK⟩⟩ rfl rfl hl.1 rfl (lv_room (Nat.le_of_ble_eq_true rfl)) dX10_run_7 ⟨Nat.zero_le _, Nat.zero_le _⟩)) (fun r2 er2 => ?_)
  rw [er2]
  refine lv_if_eq (tgt := 17) hx hb dX10_run_10 (by decide) (fun c10 => ?_) (fun c10 => ?_)
  · replace hf := ip c10 hf
    refine lv_iload_n hx hb dX10_run_17 rfl (lv_at hl 2 rfl) ?_
    refine lv_i2l (v := x2.toInt64) hx hb dX10_run_18 rfl ?_
    refine lv_lconst (v := 0) hx hb dX10_run_19 (by decide) ?_
    refine lv_ldc2 (v := 10) hx hb hown k_204 dX10_run_20 ?_
    obtain ⟨zr3, qr3, hf⟩ := bd1 hf
    refine vp_callSi (va_Run.run (va_runS (As := [.long (x2.toInt64), .long 0, .long 10]) (rest := []) ⟨hx, hb, hml, hown, hts⟩ (c_M_in l (x2.toInt64) 0 10 f zr3 qr3) w_in_99 ⟨fun a U g mk q => q, fun U hU hW => ⟨rfl, trivial⟩⟩ rfl rfl hl.1 rfl (lv_room (Nat.le_of_ble_eq_true rfl)) dX10_run_23 ⟨Nat.zero_le _, Nat.zero_le _⟩)) (fun r3 er3 => ?_)
    rw [er3]
    refine lv_if_ne (tgt := 33) hx hb dX10_run_26 (by decide) (fun c26 => ?_) (fun c26 => ?_)
    · replace hf := im c26 hf
      refine lv_aload_n hx hb dX10_run_33 rfl (lv_at hl 0 rfl) ?_
      refine lv_iload_n hx hb dX10_run_34 rfl (lv_at hl 1 rfl) ?_
      obtain ⟨I5, V6, qr4, hf⟩ := bd2 hf
      have hFc := xfree hD hS hA
      refine va_callv (va_runV (As := [.int x1]) (rest := []) ⟨hx, hb, hml, hown, hts⟩ (c_M_layAskers l D cs o h _ I1 V x1 f _ qr4) w_layAskers_210 ⟨xP_moved, va_recv hK hP (ci := 10) (q0 := 0) rfl rfl, fun U hU hW => ⟨rfl, by rw [hU], by rw [hU]; exact hP, va_K.moved hW.alike hK, hD.weaken (fun _ _ _ _ => trivial)⟩⟩ rfl rfl hl.1 rfl (lv_room (Nat.le_of_ble_eq_true rfl)) dX10_run_35 ⟨Nat.zero_le _, Nat.zero_le _⟩) hS (fun q _ h9 => hFc q h9) hFc (fun u t H1 locs ht hvm hw hB hz1 hk1 hS => ?_)
      rw [hw] at hB
      obtain ⟨hP1, hK1, hD1⟩ := hB
      have hP : va_P D vwCl (w_M cs o h I5 V6) H1 := by rw [← ht]; exact hP1
      have hD : va_D A (w_M cs o h I5 V6) := hD1.weaken (fun _ q _ h9 => hFc q.1 h9)
      refine lv_aload_n hx hb dX10_run_38 rfl (lv_at hl 0 rfl) ?_
      refine lv_aload_n hx hb dX10_run_39 rfl (lv_at hl 0 rfl) ?_
      refine va_get (D := D) (ci := 10) (v := .ref (h 5)) (C := RX10) (T := TX10) (N := 38) hx hb hts in_X10 hown hK hP 0 rfl rfl 5 (by decide) g_13 (fun _ h9 => h9) rfl dX10_run_40 ?_
      refine lv_iload_n hx hb dX10_run_43 rfl (lv_at hl 1 rfl) ?_
      obtain ⟨c44, hf⟩ := gd hf
      refine va_iald (f := (V6 5)) hx hb hK hP 2 0 rfl rfl c44 dX10_run_44 ?_
      refine lv_iload_n hx hb dX10_run_45 rfl (lv_at hl 2 rfl) ?_
      obtain ⟨zr7, qr7, hf⟩ := bd1 hf
      refine vp_callSl (va_Run.run (va_runV (As := [.int ((V6 5) x1.toNatClampNeg), .int x2]) (rest := []) ⟨hx, hb, hml, hown, hts⟩ (c_M_enoughBy l D cs o h I5 V6 ((V6 5) x1.toNatClampNeg) x2 f zr7 qr7) w_enoughBy_213 ⟨xR_moved, va_recv hK hP (ci := 10) (q0 := 0) rfl rfl, fun U hU hW => ⟨rfl, by rw [hU]; exact hP, va_K.moved hW.alike hK⟩⟩ rfl rfl hl.1 rfl (lv_room (Nat.le_of_ble_eq_true rfl)) dX10_run_46 ⟨Nat.zero_le _, Nat.zero_le _⟩)) (fun r7 er7 => ?_)
      rw [er7]
      refine lv_lstore (lv' := [(4, .long zr7), (0, .ref o), (1, .int x1), (2, .int x2), (3, .int x3)]) hx hb dX10_run_49 hl (by decide) rfl (fun ls hl => ?_)
      refine lv_lload hx hb dX10_run_51 (lv_at hl 0 rfl) ?_
      refine lv_aload_n hx hb dX10_run_53 rfl (lv_at hl 1 rfl) ?_
      obtain ⟨zr8, qr8, hf⟩ := bd1 hf
      refine vp_callSl (va_Run.run (va_runV (As := []) (rest := [.long zr7]) ⟨hx, hb, hml, hown, hts⟩ (c_M_wholeOf l D cs o h I5 V6 f zr8 qr8) w_wholeOf_217 ⟨xR_moved, va_recv hK hP (ci := 10) (q0 := 0) rfl rfl, fun U hU hW => ⟨rfl, by rw [hU]; exact hP, va_K.moved hW.alike hK⟩⟩ rfl rfl hl.1 rfl (lv_room (Nat.le_of_ble_eq_true rfl)) dX10_run_54 ⟨Nat.zero_le _, Nat.zero_le _⟩)) (fun r8 er8 => ?_)
      rw [er8]
      obtain ⟨zr9, qr9, hf⟩ := bd1 hf
      refine vp_callSl (va_Run.run (va_runS (As := [.long zr7, .long zr8]) (rest := []) ⟨hx, hb, hml, hown, hts⟩ (c_M_divisor l zr7 zr8 f zr9 qr9) w_divisor_221 ⟨fun a U g mk q => q, fun U hU hW => ⟨rfl, trivial⟩⟩ rfl rfl hl.1 rfl (lv_room (Nat.le_of_ble_eq_true rfl)) dX10_run_57 ⟨Nat.zero_le _, Nat.zero_le _⟩)) (fun r9 er9 => ?_)
      rw [er9]
      refine lv_lstore (lv' := [(6, .long zr9), (4, .long zr7), (0, .ref o), (1, .int x1), (2, .int x2), (3, .int x3)]) hx hb dX10_run_60 hl (by decide) rfl (fun ls hl => ?_)
      refine lv_iload_n hx hb dX10_run_62 rfl (lv_at hl 5 rfl) ?_
      refine lv_if_eq (tgt := 74) hx hb dX10_run_63 (by decide) (fun c63 => ?_) (fun c63 => ?_)
      · replace hf := ip c63 hf
        refine lv_aload_n hx hb dX10_run_74 rfl (lv_at hl 2 rfl) ?_
        obtain ⟨zr10, qr10, hf⟩ := bd1 hf
        refine vp_callSl (va_Run.run (va_runV (As := []) (rest := []) ⟨hx, hb, hml, hown, hts⟩ (c_M_wholeOf l D cs o h I5 V6 f zr10 qr10) w_wholeOf_217 ⟨xR_moved, va_recv hK hP (ci := 10) (q0 := 0) rfl rfl, fun U hU hW => ⟨rfl, by rw [hU]; exact hP, va_K.moved hW.alike hK⟩⟩ rfl rfl hl.1 rfl (lv_room (Nat.le_of_ble_eq_true rfl)) dX10_run_75 ⟨Nat.zero_le _, Nat.zero_le _⟩)) (fun r10 er10 => ?_)
        rw [er10]
        refine lv_lload hx hb dX10_run_78 (lv_at hl 0 rfl) ?_
        obtain ⟨c80, hf⟩ := gd hf
        refine lv_ldiv hx hb dX10_run_80 c80 ?_
        exact hret (zr10 / zr9) I5 V6 _ _ 81 _ hf hP hD hS dX10_run_81
      · replace hf := im c63 hf
        refine lv_lload hx hb dX10_run_66 (lv_at hl 1 rfl) ?_
        refine lv_lload hx hb dX10_run_68 (lv_at hl 0 rfl) ?_
        obtain ⟨c70, hf⟩ := gd hf
        refine lv_ldiv hx hb dX10_run_70 c70 ?_
        refine lv_goto (tgt := 81) hx hb dX10_run_71 (by decide) ?_
        exact hret (zr7 / zr9) I5 V6 _ _ 81 _ hf hP hD hS dX10_run_81
    · replace hf := ip c26 hf
      refine lv_ldc2 (v := (-2)) hx hb hown k_208 dX10_run_29 ?_
      exact hret (-2) I1 V _ _ 32 _ hf hP hD hS dX10_run_32
  · replace hf := im c10 hf
    refine lv_ldc2 (v := (-1)) hx hb hown k_206 dX10_run_13 ?_
    exact hret (-1) I1 V _ _ 16 _ hf hP hD hS dX10_run_16
set_option maxHeartbeats 4000000 in
set_option maxRecDepth 100000 in
theorem c_M_run (l : Launch) (D : va_G) (cs : Nat → ClassId) (o : Nat) (h : Nat → Nat) (sz : Nat) (I : FI) (V : FV) (x1 : Int32) (x2 : Int32) (x3 : Int32) (f : Nat) (out : Int64 × FI × FV) (hf : M_run f x1 x2 x3 I V = some out) : Met l yX10_run wsX10_run rm_M_run (va_Pc [.ref o, .int x1, .int x2, .int x3] (xP D cs (w_M cs o h I V) sz)) (va_Ql (fun r u => (r, u) = out) (fun (u : FI × FV) t => xA D cs (va_A (w_M cs o h I V) sz) (w_M cs o h u.1 u.2) t) (va_A (w_M cs o h I V) sz)) 0 0 (va_A (w_M cs o h I V) sz) := by
  refine Met.ofW (cc := cX10_run) (maxL := 8) (ret := (some .long)) (by decide) rfl ?_
  intro p e s m args below meth c s₁ B hml hv
  obtain ⟨ha, hsz, hP, hK, hD0⟩ := hv
  have hx := B.exec
  have hb := B.bytes
  have hr := B.returns
  have hts := atoms_spec (ws := wsX10_run) B.pre
  have hown : s.vm.findClass RX10 = some m.cls := findClass_of_methodNamed B.named
  have hlocks := B.notSynchronized
  have in_X10 : ∀ w ∈ u_ws RX10 TX10 38, w ∈ wsX10_run := fun w h => List.mem_cons_of_mem _ (List.mem_append_right _ h)
  have g_92 := hts (Cond.fieldLink RX10 92 "DaysLentModel" "thrown" "I") (by decide +kernel)
  have w_noOne_151 := cwV (R := rm_M_run) (s := s) (args := args) (rm := rm_M_noOne) (mc := 0) (ms := 0) 1 hts gX10_run_X10_noOne rfl rfl rfl (by decide +kernel) ⟨Nat.le_of_ble_eq_true rfl, Nat.le_of_ble_eq_true rfl⟩
  have k_206 := hts (Cond.constantLong RX10 206 (-1)) (by decide +kernel)
  have k_204 := hts (Cond.constantLong RX10 204 (10)) (by decide +kernel)
  have w_in_99 := va_cwS (R := rm_M_run) (s := s) (args := args) (rm := rm_M_in) (mc := 0) (ms := 0) 3 hts gX10_run_X10_in rfl rfl rfl (by decide +kernel) ⟨Nat.le_of_ble_eq_true rfl, Nat.le_of_ble_eq_true rfl⟩
  have k_208 := hts (Cond.constantLong RX10 208 (-2)) (by decide +kernel)
  have w_layAskers_210 := cwV (R := rm_M_run) (s := s) (args := args) (rm := rm_M_layAskers) (mc := 0) (ms := 0) 1 hts gX10_run_X10_layAskers rfl rfl rfl (by decide +kernel) ⟨Nat.le_of_ble_eq_true rfl, Nat.le_of_ble_eq_true rfl⟩
  have g_13 := hts (Cond.fieldLink RX10 13 "DaysLentModel" "mornings" "[I") (by decide +kernel)
  have w_enoughBy_213 := cwV (R := rm_M_run) (s := s) (args := args) (rm := rm_M_enoughBy) (mc := 0) (ms := 0) 2 hts gX10_run_X10_enoughBy rfl rfl rfl (by decide +kernel) ⟨Nat.le_of_ble_eq_true rfl, Nat.le_of_ble_eq_true rfl⟩
  have w_wholeOf_217 := cwV (R := rm_M_run) (s := s) (args := args) (rm := rm_M_wholeOf) (mc := 0) (ms := 0) 0 hts gX10_run_X10_wholeOf rfl rfl rfl (by decide +kernel) ⟨Nat.le_of_ble_eq_true rfl, Nat.le_of_ble_eq_true rfl⟩
  have w_divisor_221 := va_cwS (R := rm_M_run) (s := s) (args := args) (rm := rm_M_divisor) (mc := 0) (ms := 0) 2 hts gX10_run_X10_divisor rfl rfl rfl (by decide +kernel) ⟨Nat.le_of_ble_eq_true rfl, Nat.le_of_ble_eq_true rfl⟩
  subst hsz
  have hD := hD0.self (sz := s.heap.size)
  generalize hAe : va_A (w_M cs o h I V) s.heap.size = A at hD ⊢
  have hA : ∀ q : Nat, s.heap.size ≤ q → A q := fun q h => by rw [← hAe]; exact Or.inr h
  have hl := lv_entry ([.ref o, .int x1, .int x2, .int x3]) (n := 8) (Nat.le_of_ble_eq_true rfl)
  rw [show entryFrame m args 8 = entryFrame m ([.ref o, .int x1, .int x2, .int x3] : List Value).toArray 8 from by rw [ha], lg_entry_eq]
  generalize (lg_sl ([.ref o, .int x1, .int x2, .int x3]) ++ List.replicate (8 - (lg_sl ([.ref o, .int x1, .int x2, .int x3])).length) Slot.unset).toArray = ls at hl ⊢
  generalize hQ : MQ below (va_Ql (fun r u => (r, u) = out) (fun (u : FI × FV) t => xA D cs A (w_M cs o h u.1 u.2) t) A) args s 0 0 A = Q
  have hret : ∀ (v : Int64) (Im9 : FI) (Vm9 : FV) (H : Heap) (locs : List Loc) (pc : Nat) (ls : Array Slot), some (v, Im9, Vm9) = some out → va_P D vwCl (w_M cs o h Im9 Vm9) H → va_D A (w_M cs o h Im9 Vm9) → va_S A s.heap H locs → decode cX10_run pc = .ok (.lreturn, 1) → W p l e rm_M_run s m args below meth c H locs 0 0 Q (F0 m pc ls [.long v]) := by
    intro v Im9 Vm9 H locs pc ls hf hP hD hS hd
    rw [← hQ]
    exact W.lret (v := v) hx hb hr (fun t ht hW => ⟨⟨v, (Im9, Vm9), rfl, Option.some.inj hf, by show va_P D vwCl (w_M cs o h Im9 Vm9) t.heap; rw [ht]; exact hP, va_K.moved hW.alike hK, hD⟩, hS.F ht⟩) hS.2.2 hd
  exact v_M_run hf hx hb hml hown hts in_X10 g_92 w_noOne_151 k_206 k_204 w_in_99 k_208 w_layAskers_210 g_13 w_enoughBy_213 w_wholeOf_217 w_divisor_221 hA hP hD hK hret ls hl
def M_enough_L50 {ρ : Type} (f : Nat) (x2 : Int32) (I6 : FI) (V7 : FV) (x3 : Int32) (k_50 : Int32 → Option ρ) : Nat → Int32 → Option ρ
  | 0, _ => none
  | n_50 + 1, x4_50 => ob1 (M_enoughBy f x4_50 x2 I6 V7) (fun zr8 => ob1 (M_wholeOf f I6 V7) (fun zr9 => (if 0 ≤ (lg_cmp (zr8 * 100) ((x3.toInt64) * zr9)) then (k_50 x4_50) else (M_enough_L50 f x2 I6 V7 x3 k_50 n_50 (x4_50 + 1)))))
def M_enough (f : Nat) (x1 : Int32) (x2 : Int32) (x3 : Int32) (I : FI) (V : FV) : Option (Int32 × FI × FV) := nm (va_up I 0 0) (fun I1 => ob1 (M_noOne f x1 I1 V) (fun zr2 => (if zr2 = 0 then ob1 (M_in f (x2.toInt64) 0 10) (fun zr3 => (if zr3 = 0 then some ((-2), I1, V) else ob1 (M_in f (x3.toInt64) 0 100) (fun zr4 => (if zr4 = 0 then some ((-2), I1, V) else ob2 (M_layAskers f x1 I1 V) (fun I6 V7 => (M_enough_L50 f x2 I6 V7 x3 (fun (x4_50 : Int32) => some (x4_50, I6, V7)) f 0)))))) else some ((-1), I1, V))))
abbrev rm_M_enough : Room := { frames := 2, cells := 0, slots := 0, locals := 50 }
set_option maxHeartbeats 4000000 in
set_option maxRecDepth 100000 in
theorem v_M_enough {l : Launch} {p : Program} {e : Env} {s : State} {m : MethodId} {args : Array Value} {below : List Frame} {meth : Method} {c : Code} {Q : State → Prop} {D : va_G} {cs : Nat → ClassId} {o : Nat} {h : Nat → Nat} {A : Nat → Prop} {I : FI} {V : FV} {x1 : Int32} {x2 : Int32} {x3 : Int32} {f : Nat} {out : Int32 × FI × FV} (hf : M_enough f x1 x2 x3 I V = some out) (hx : p.tables.exec = Jvm.exec) (hb : c.code = cX10_enough) (hml : c.maxLocals = 5) (hown : s.vm.findClass RX10 = some m.cls) (hts : ∀ w ∈ wsX10_enough, w.before args s = true) (in_X10 : ∀ w ∈ u_ws RX10 TX10 38, w ∈ wsX10_enough) (g_92 : (Cond.fieldLink RX10 92 "DaysLentModel" "thrown" "I").before args s = true) (w_noOne_151 : CallW rm_M_enough s args RX10 RX10 151 yX10_noOne cX10_noOne 2 (some .boolean) wsX10_noOne rm_M_noOne 0 0 1) (k_204 : (Cond.constantLong RX10 204 (10)).before args s = true) (w_in_99 : CallB rm_M_enough s args RX10 99 yX10_in cX10_in 6 (some .boolean) wsX10_in rm_M_in 0 0 3 ∧ (Cond.static yX10_in).before args s = true) (k_225 : (Cond.constantLong RX10 225 (100)).before args s = true) (w_layAskers_210 : CallW rm_M_enough s args RX10 RX10 210 yX10_layAskers cX10_layAskers 5 none wsX10_layAskers rm_M_layAskers 0 0 1) (w_enoughBy_213 : CallW rm_M_enough s args RX10 RX10 213 yX10_enoughBy cX10_enoughBy 10 (some .long) wsX10_enoughBy rm_M_enoughBy 0 0 2) (w_wholeOf_217 : CallW rm_M_enough s args RX10 RX10 217 yX10_wholeOf cX10_wholeOf 4 (some .long) wsX10_wholeOf rm_M_wholeOf 0 0 0) (hA : ∀ q : Nat, s.heap.size ≤ q → A q) (hP : va_P D vwCl (w_M cs o h I V) s.heap) (hD : va_D A (w_M cs o h I V)) (hK : va_K D vwCl (tyA cs) s) (hret : ∀ (v : Int32) (Im9 : FI) (Vm9 : FV) (H : Heap) (locs : List Loc) (pc : Nat) (ls : Array Slot), some (v, Im9, Vm9) = some out → va_P D vwCl (w_M cs o h Im9 Vm9) H → va_D A (w_M cs o h Im9 Vm9) → va_S A s.heap H locs → decode cX10_enough pc = .ok (.ireturn, 1) → W p l e rm_M_enough s m args below meth c H locs 0 0 Q (F0 m pc ls [.int v])) : ∀ ls : Array Slot, lv_has ls 5 [(0, .ref o), (1, .int x1), (2, .int x2), (3, .int x3)] → W p l e rm_M_enough s m args below meth c s.heap [] 0 0 Q (F0 m 0 ls []) := by
  intro ls hl
  have hS : va_S A s.heap s.heap [] := va_S.rf
  unfold M_enough at hf
  refine lv_aload_n hx hb dX10_enough_0 rfl (lv_at hl 0 rfl) ?_
  refine lv_iconst (v := 0) hx hb dX10_enough_1 (by decide) ?_
  refine va_put (D := D) (ci := 10) (v := .int 0) (ty := .int) (C := RX10) (T := TX10) (N := 38) hx hb hts in_X10 tyX10 tyX10_ok nmX10 hown hK hP hD hS 0 rfl rfl 0 (by decide) g_92 (fun _ h9 => h9) rfl (by decide +kernel) rfl rfl (Nat.le_of_ble_eq_true rfl) dX10_enough_2 (fun H locs hP hD hS => ?_)
  obtain ⟨I1, eI1, hf⟩ := nme hf
  have hP : va_P D vwCl (w_M cs o h I1 V) H := by rw [eI1]; exact hP
  have hD : va_D A (w_M cs o h I1 V) := by rw [eI1]; exact hD
  refine lv_aload_n hx hb dX10_enough_5 rfl (lv_at hl 0 rfl) ?_
  refine lv_iload_n hx hb dX10_enough_6 rfl (lv_at hl 1 rfl) ?_
  obtain ⟨zr2, qr2, hf⟩ := bd1 hf
  refine vp_callSi (va_Run.run (va_runV (As := [.int x1]) (rest := []) ⟨hx, hb, hml, hown, hts⟩ (c_M_noOne l D cs o h I1 V x1 f zr2 qr2) w_noOne_151 ⟨xR_moved, va_recv hK hP (ci := 10) (q0 := 0) rfl rfl, fun U hU hW => ⟨rfl, by rw [hU]; exact hP, va_K.moved hW.alike hK⟩⟩ rfl rfl hl.1 rfl (lv_room (Nat.le_of_ble_eq_true rfl)) dX10_enough_7 ⟨Nat.zero_le _, Nat.zero_le _⟩)) (fun r2 er2 => ?_)
  rw [er2]
  refine lv_if_eq (tgt := 15) hx hb dX10_enough_10 (by decide) (fun c10 => ?_) (fun c10 => ?_)
  · replace hf := ip c10 hf
    refine lv_iload_n hx hb dX10_enough_15 rfl (lv_at hl 2 rfl) ?_
    refine lv_i2l (v := x2.toInt64) hx hb dX10_enough_16 rfl ?_
    refine lv_lconst (v := 0) hx hb dX10_enough_17 (by decide) ?_
    refine lv_ldc2 (v := 10) hx hb hown k_204 dX10_enough_18 ?_
    obtain ⟨zr3, qr3, hf⟩ := bd1 hf
    refine vp_callSi (va_Run.run (va_runS (As := [.long (x2.toInt64), .long 0, .long 10]) (rest := []) ⟨hx, hb, hml, hown, hts⟩ (c_M_in l (x2.toInt64) 0 10 f zr3 qr3) w_in_99 ⟨fun a U g mk q => q, fun U hU hW => ⟨rfl, trivial⟩⟩ rfl rfl hl.1 rfl (lv_room (Nat.le_of_ble_eq_true rfl)) dX10_enough_21 ⟨Nat.zero_le _, Nat.zero_le _⟩)) (fun r3 er3 => ?_)
    rw [er3]
    refine lv_if_eq (tgt := 39) hx hb dX10_enough_24 (by decide) (fun c24 => ?_) (fun c24 => ?_)
    · replace hf := ip c24 hf
      refine lv_bipush (v := (-2)) hx hb dX10_enough_39 (by decide) ?_
      exact hret (-2) I1 V _ _ 41 _ hf hP hD hS dX10_enough_41
    · replace hf := im c24 hf
      refine lv_iload_n hx hb dX10_enough_27 rfl (lv_at hl 3 rfl) ?_
      refine lv_i2l (v := x3.toInt64) hx hb dX10_enough_28 rfl ?_
      refine lv_lconst (v := 0) hx hb dX10_enough_29 (by decide) ?_
      refine lv_ldc2 (v := 100) hx hb hown k_225 dX10_enough_30 ?_
      obtain ⟨zr4, qr4, hf⟩ := bd1 hf
      refine vp_callSi (va_Run.run (va_runS (As := [.long (x3.toInt64), .long 0, .long 100]) (rest := []) ⟨hx, hb, hml, hown, hts⟩ (c_M_in l (x3.toInt64) 0 100 f zr4 qr4) w_in_99 ⟨fun a U g mk q => q, fun U hU hW => ⟨rfl, trivial⟩⟩ rfl rfl hl.1 rfl (lv_room (Nat.le_of_ble_eq_true rfl)) dX10_enough_33 ⟨Nat.zero_le _, Nat.zero_le _⟩)) (fun r4 er4 => ?_)
      rw [er4]
      refine lv_if_ne (tgt := 42) hx hb dX10_enough_36 (by decide) (fun c36 => ?_) (fun c36 => ?_)
      · replace hf := im c36 hf
        refine lv_aload_n hx hb dX10_enough_42 rfl (lv_at hl 0 rfl) ?_
        refine lv_iload_n hx hb dX10_enough_43 rfl (lv_at hl 1 rfl) ?_
        obtain ⟨I6, V7, qr5, hf⟩ := bd2 hf
        have hFc := xfree hD hS hA
        refine va_callv (va_runV (As := [.int x1]) (rest := []) ⟨hx, hb, hml, hown, hts⟩ (c_M_layAskers l D cs o h _ I1 V x1 f _ qr5) w_layAskers_210 ⟨xP_moved, va_recv hK hP (ci := 10) (q0 := 0) rfl rfl, fun U hU hW => ⟨rfl, by rw [hU], by rw [hU]; exact hP, va_K.moved hW.alike hK, hD.weaken (fun _ _ _ _ => trivial)⟩⟩ rfl rfl hl.1 rfl (lv_room (Nat.le_of_ble_eq_true rfl)) dX10_enough_44 ⟨Nat.zero_le _, Nat.zero_le _⟩) hS (fun q _ h9 => hFc q h9) hFc (fun u t H1 locs ht hvm hw hB hz1 hk1 hS => ?_)
        rw [hw] at hB
        obtain ⟨hP1, hK1, hD1⟩ := hB
        have hP : va_P D vwCl (w_M cs o h I6 V7) H1 := by rw [← ht]; exact hP1
        have hD : va_D A (w_M cs o h I6 V7) := hD1.weaken (fun _ q _ h9 => hFc q.1 h9)
        refine lv_iconst (v := 0) hx hb dX10_enough_47 (by decide) ?_
        refine lv_istore (lv' := [(4, .int 0), (0, .ref o), (1, .int x1), (2, .int x2), (3, .int x3)]) hx hb dX10_enough_48 hl (by decide) rfl (fun ls hl => ?_)
        have L50 : ∀ (k_50 : Int32 → Option (Int32 × FI × FV)) (hk_50 : ∀ (x4_50 : Int32), k_50 x4_50 = some out → ∀ (H : Heap) (locs : List Loc), va_P D vwCl (w_M cs o h I6 V7) H → va_D A (w_M cs o h I6 V7) → va_S A s.heap H locs → ∀ ls : Array Slot, lv_has ls 5 [(4, .int x4_50)] → W p l e rm_M_enough s m args below meth c H locs 0 0 Q (F0 m 78 ls [])), ∀ (n_50 : Nat) (x4_50 : Int32), M_enough_L50 f x2 I6 V7 x3 k_50 n_50 x4_50 = some out → ∀ (H : Heap) (locs : List Loc), va_P D vwCl (w_M cs o h I6 V7) H → va_D A (w_M cs o h I6 V7) → va_S A s.heap H locs → ∀ ls : Array Slot, lv_has ls 5 [(0, .ref o), (2, .int x2), (3, .int x3), (4, .int x4_50)] → W p l e rm_M_enough s m args below meth c H locs 0 0 Q (F0 m 50 ls []) := by
          intro k_50 hk_50 n_50
          induction n_50 with
          | zero => intro x4_50 hf; rw [M_enough_L50] at hf; cases hf
          | succ n_50 ih_50 =>
            intro x4_50 hf H locs hP hD hS ls hl
            rw [M_enough_L50] at hf
            refine lv_aload_n hx hb dX10_enough_50 rfl (lv_at hl 0 rfl) ?_
            refine lv_iload hx hb dX10_enough_51 (lv_at hl 3 rfl) ?_
            refine lv_iload_n hx hb dX10_enough_53 rfl (lv_at hl 1 rfl) ?_
            obtain ⟨zr8, qr8, hf⟩ := bd1 hf
            refine vp_callSl (va_Run.run (va_runV (As := [.int x4_50, .int x2]) (rest := []) ⟨hx, hb, hml, hown, hts⟩ (c_M_enoughBy l D cs o h I6 V7 x4_50 x2 f zr8 qr8) w_enoughBy_213 ⟨xR_moved, va_recv hK hP (ci := 10) (q0 := 0) rfl rfl, fun U hU hW => ⟨rfl, by rw [hU]; exact hP, va_K.moved hW.alike hK⟩⟩ rfl rfl hl.1 rfl (lv_room (Nat.le_of_ble_eq_true rfl)) dX10_enough_54 ⟨Nat.zero_le _, Nat.zero_le _⟩)) (fun r8 er8 => ?_)
            rw [er8]
            refine lv_ldc2 (v := 100) hx hb hown k_225 dX10_enough_57 ?_
            refine lv_lmul hx hb dX10_enough_60 ?_
            refine lv_iload_n hx hb dX10_enough_61 rfl (lv_at hl 2 rfl) ?_
            refine lv_i2l (v := x3.toInt64) hx hb dX10_enough_62 rfl ?_
            refine lv_aload_n hx hb dX10_enough_63 rfl (lv_at hl 0 rfl) ?_
            obtain ⟨zr9, qr9, hf⟩ := bd1 hf
            refine vp_callSl (va_Run.run (va_runV (As := []) (rest := [.long (x3.toInt64), .long (zr8 * 100)]) ⟨hx, hb, hml, hown, hts⟩ (c_M_wholeOf l D cs o h I6 V7 f zr9 qr9) w_wholeOf_217 ⟨xR_moved, va_recv hK hP (ci := 10) (q0 := 0) rfl rfl, fun U hU hW => ⟨rfl, by rw [hU]; exact hP, va_K.moved hW.alike hK⟩⟩ rfl rfl hl.1 rfl (lv_room (Nat.le_of_ble_eq_true rfl)) dX10_enough_64 ⟨Nat.zero_le _, Nat.zero_le _⟩)) (fun r9 er9 => ?_)
            rw [er9]
            refine lv_lmul hx hb dX10_enough_67 ?_
            refine W.lcmp hx hb dX10_enough_68 ?_
            refine lv_if_ge (tgt := 78) hx hb dX10_enough_69 (by decide) (fun c69 => ?_) (fun c69 => ?_)
            · replace hf := ip c69 hf
              exact hk_50 x4_50 hf _ _ hP hD hS _ (lv_sub hl [3] rfl)
            · replace hf := im c69 hf
              refine lv_iinc (v := (x4_50 + 1)) (lv' := [(4, .int (x4_50 + 1)), (0, .ref o), (2, .int x2), (3, .int x3)]) hx hb dX10_enough_72 hl (k := 3) rfl (by rfl) (by decide) rfl (fun ls hl => ?_)
              refine lv_goto (tgt := 50) hx hb dX10_enough_75 (by decide) ?_
              exact ih_50 (x4_50 + 1) hf _ _ hP hD hS _ (lv_sub hl [1, 2, 3, 0] rfl)
        refine L50 _ (fun x4_50 hf H locs hP hD hS ls hl => ?_) f 0 hf _ _ hP hD hS _ (lv_sub hl [1, 3, 4, 0] rfl)
        refine lv_iload hx hb dX10_enough_78 (lv_at hl 0 rfl) ?_
        exact hret x4_50 I6 V7 _ _ 80 _ hf hP hD hS dX10_enough_80
      · replace hf := ip c36 hf
        refine lv_bipush (v := (-2)) hx hb dX10_enough_39 (by decide) ?_
        exact hret (-2) I1 V _ _ 41 _ hf hP hD hS dX10_enough_41
  · replace hf := im c10 hf
    refine lv_iconst (v := (-1)) hx hb dX10_enough_13 (by decide) ?_
    exact hret (-1) I1 V _ _ 14 _ hf hP hD hS dX10_enough_14
set_option maxHeartbeats 4000000 in
set_option maxRecDepth 100000 in
theorem c_M_enough (l : Launch) (D : va_G) (cs : Nat → ClassId) (o : Nat) (h : Nat → Nat) (sz : Nat) (I : FI) (V : FV) (x1 : Int32) (x2 : Int32) (x3 : Int32) (f : Nat) (out : Int32 × FI × FV) (hf : M_enough f x1 x2 x3 I V = some out) : Met l yX10_enough wsX10_enough rm_M_enough (va_Pc [.ref o, .int x1, .int x2, .int x3] (xP D cs (w_M cs o h I V) sz)) (va_Qi (fun r u => (r, u) = out) (fun (u : FI × FV) t => xA D cs (va_A (w_M cs o h I V) sz) (w_M cs o h u.1 u.2) t) (va_A (w_M cs o h I V) sz)) 0 0 (va_A (w_M cs o h I V) sz) := by
  refine Met.ofW (cc := cX10_enough) (maxL := 5) (ret := (some .int)) (by decide) rfl ?_
  intro p e s m args below meth c s₁ B hml hv
  obtain ⟨ha, hsz, hP, hK, hD0⟩ := hv
  have hx := B.exec
  have hb := B.bytes
  have hr := B.returns
  have hts := atoms_spec (ws := wsX10_enough) B.pre
  have hown : s.vm.findClass RX10 = some m.cls := findClass_of_methodNamed B.named
  have hlocks := B.notSynchronized
  have in_X10 : ∀ w ∈ u_ws RX10 TX10 38, w ∈ wsX10_enough := fun w h => List.mem_cons_of_mem _ (List.mem_append_right _ h)
  have g_92 := hts (Cond.fieldLink RX10 92 "DaysLentModel" "thrown" "I") (by decide +kernel)
  have w_noOne_151 := cwV (R := rm_M_enough) (s := s) (args := args) (rm := rm_M_noOne) (mc := 0) (ms := 0) 1 hts gX10_enough_X10_noOne rfl rfl rfl (by decide +kernel) ⟨Nat.le_of_ble_eq_true rfl, Nat.le_of_ble_eq_true rfl⟩
  have k_204 := hts (Cond.constantLong RX10 204 (10)) (by decide +kernel)
  have w_in_99 := va_cwS (R := rm_M_enough) (s := s) (args := args) (rm := rm_M_in) (mc := 0) (ms := 0) 3 hts gX10_enough_X10_in rfl rfl rfl (by decide +kernel) ⟨Nat.le_of_ble_eq_true rfl, Nat.le_of_ble_eq_true rfl⟩
  have k_225 := hts (Cond.constantLong RX10 225 (100)) (by decide +kernel)
  have w_layAskers_210 := cwV (R := rm_M_enough) (s := s) (args := args) (rm := rm_M_layAskers) (mc := 0) (ms := 0) 1 hts gX10_enough_X10_layAskers rfl rfl rfl (by decide +kernel) ⟨Nat.le_of_ble_eq_true rfl, Nat.le_of_ble_eq_true rfl⟩
  have w_enoughBy_213 := cwV (R := rm_M_enough) (s := s) (args := args) (rm := rm_M_enoughBy) (mc := 0) (ms := 0) 2 hts gX10_enough_X10_enoughBy rfl rfl rfl (by decide +kernel) ⟨Nat.le_of_ble_eq_true rfl, Nat.le_of_ble_eq_true rfl⟩
  have w_wholeOf_217 := cwV (R := rm_M_enough) (s := s) (args := args) (rm := rm_M_wholeOf) (mc := 0) (ms := 0) 0 hts gX10_enough_X10_wholeOf rfl rfl rfl (by decide +kernel) ⟨Nat.le_of_ble_eq_true rfl, Nat.le_of_ble_eq_true rfl⟩
  subst hsz
  have hD := hD0.self (sz := s.heap.size)
  generalize hAe : va_A (w_M cs o h I V) s.heap.size = A at hD ⊢
  have hA : ∀ q : Nat, s.heap.size ≤ q → A q := fun q h => by rw [← hAe]; exact Or.inr h
  have hl := lv_entry ([.ref o, .int x1, .int x2, .int x3]) (n := 5) (Nat.le_of_ble_eq_true rfl)
  rw [show entryFrame m args 5 = entryFrame m ([.ref o, .int x1, .int x2, .int x3] : List Value).toArray 5 from by rw [ha], lg_entry_eq]
  generalize (lg_sl ([.ref o, .int x1, .int x2, .int x3]) ++ List.replicate (5 - (lg_sl ([.ref o, .int x1, .int x2, .int x3])).length) Slot.unset).toArray = ls at hl ⊢
  generalize hQ : MQ below (va_Qi (fun r u => (r, u) = out) (fun (u : FI × FV) t => xA D cs A (w_M cs o h u.1 u.2) t) A) args s 0 0 A = Q
  have hret : ∀ (v : Int32) (Im9 : FI) (Vm9 : FV) (H : Heap) (locs : List Loc) (pc : Nat) (ls : Array Slot), some (v, Im9, Vm9) = some out → va_P D vwCl (w_M cs o h Im9 Vm9) H → va_D A (w_M cs o h Im9 Vm9) → va_S A s.heap H locs → decode cX10_enough pc = .ok (.ireturn, 1) → W p l e rm_M_enough s m args below meth c H locs 0 0 Q (F0 m pc ls [.int v]) := by
    intro v Im9 Vm9 H locs pc ls hf hP hD hS hd
    rw [← hQ]
    exact W.iret (v := v) hx hb hr (fun t ht hW => ⟨⟨v, (Im9, Vm9), rfl, Option.some.inj hf, by show va_P D vwCl (w_M cs o h Im9 Vm9) t.heap; rw [ht]; exact hP, va_K.moved hW.alike hK, hD⟩, hS.F ht⟩) hS.2.2 hd
  exact v_M_enough hf hx hb hml hown hts in_X10 g_92 w_noOne_151 k_204 w_in_99 k_225 w_layAskers_210 w_enoughBy_213 w_wholeOf_217 hA hP hD hK hret ls hl
