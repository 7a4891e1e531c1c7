def M_owesAll_L4 {ρ : Type} (f : Nat) (I : FI) (V : FV) (x1 : Int32) (k_4 : Int32 → Option ρ) : Nat → Int32 → Int32 → Option ρ
  | 0, _, _ => none
  | n_4 + 1, x2_4, x3_4 => (if (I 9) ≤ x3_4 then (k_4 x2_4) else if x3_4 < 0 ∨ 12 ≤ x3_4.toNatClampNeg then none else ((nm (fun (t1_33 : Int32) => (M_owesAll_L4 f I V x1 k_4 n_4 (x2_4 + t1_33) (x3_4 + 1))) (fun j33 => (if ((V 11) x3_4.toNatClampNeg) = x1 then if x3_4 < 0 ∨ 12 ≤ x3_4.toNatClampNeg then none else ((j33 ((V 12) x3_4.toNatClampNeg))) else (j33 0))))))
def M_owesAll (f : Nat) (x1 : Int32) (I : FI) (V : FV) : Option (Int32) := (M_owesAll_L4 f I V x1 (fun (x2_4 : Int32) => some x2_4) f 0 0)
abbrev rm_M_owesAll : Room := { frames := 0, cells := 0, slots := 0, locals := 0 }
set_option maxHeartbeats 4000000 in
set_option maxRecDepth 100000 in
theorem v_M_owesAll {l : Launch} {p : Program} {e : Env} {s : State} {m : MethodId} {args : Array Value} {below : List Frame} {meth : Method} {c : Code} {Q : State → Prop} {D : va_G} {cs : Nat → ClassId} {o : Nat} {h : Nat → Nat} {I : FI} {V : FV} {x1 : Int32} {f : Nat} {out : Int32} (hf : M_owesAll f x1 I V = some out) (hx : p.tables.exec = Jvm.exec) (hb : c.code = cX10_owesAll) (hml : c.maxLocals = 4) (hown : s.vm.findClass RX10 = some m.cls) (hts : ∀ w ∈ wsX10_owesAll, w.before args s = true) (in_X10 : ∀ w ∈ u_ws RX10 TX10 38, w ∈ wsX10_owesAll) (g_135 : (Cond.fieldLink RX10 135 "DaysLentModel" "debts" "I").before args s = true) (g_29 : (Cond.fieldLink RX10 29 "DaysLentModel" "owes" "[I").before args s = true) (g_32 : (Cond.fieldLink RX10 32 "DaysLentModel" "much" "[I").before args s = true) (hP : va_P D vwCl (w_M cs o h I V) s.heap) (hK : va_K D vwCl (tyA cs) s) (hret : ∀ (v : Int32) (pc : Nat) (ls : Array Slot), some v = some out → decode cX10_owesAll pc = .ok (.ireturn, 1) → W p l e rm_M_owesAll s m args below meth c s.heap [] 0 0 Q (F0 m pc ls [.int v])) : ∀ ls : Array Slot, lv_has ls 4 [(0, .ref o), (1, .int x1)] → W p l e rm_M_owesAll s m args below meth c s.heap [] 0 0 Q (F0 m 0 ls []) := by
  intro ls hl
  unfold M_owesAll at hf
  refine lv_iconst (v := 0) hx hb dX10_owesAll_0 (by decide) ?_
  refine lv_istore_n (lv' := [(2, .int 0), (0, .ref o), (1, .int x1)]) hx hb dX10_owesAll_1 rfl hl (by decide) rfl (fun ls hl => ?_)
  refine lv_iconst (v := 0) hx hb dX10_owesAll_2 (by decide) ?_
  refine lv_istore_n (lv' := [(3, .int 0), (2, .int 0), (0, .ref o), (1, .int x1)]) hx hb dX10_owesAll_3 rfl hl (by decide) rfl (fun ls hl => ?_)
  have L4 : ∀ (k_4 : Int32 → Option (Int32)) (hk_4 : ∀ (x2_4 : Int32), k_4 x2_4 = some out → ∀ ls : Array Slot, lv_has ls 4 [(2, .int x2_4)] → W p l e rm_M_owesAll s m args below meth c s.heap [] 0 0 Q (F0 m 41 ls [])), ∀ (n_4 : Nat) (x2_4 : Int32) (x3_4 : Int32), M_owesAll_L4 f I V x1 k_4 n_4 x2_4 x3_4 = some out → ∀ ls : Array Slot, lv_has ls 4 [(0, .ref o), (1, .int x1), (2, .int x2_4), (3, .int x3_4)] → W p l e rm_M_owesAll s m args below meth c s.heap [] 0 0 Q (F0 m 4 ls []) := by
    intro k_4 hk_4 n_4
    induction n_4 with
    | zero => intro x2_4 x3_4 hf; rw [M_owesAll_L4] at hf; cases hf
    | succ n_4 ih_4 =>
      intro x2_4 x3_4 hf ls hl
      rw [M_owesAll_L4] at hf
      refine lv_iload_n hx hb dX10_owesAll_4 rfl (lv_at hl 3 rfl) ?_
      refine lv_aload_n hx hb dX10_owesAll_5 rfl (lv_at hl 0 rfl) ?_
      refine va_get (D := D) (ci := 10) (v := .int (I 9)) (C := RX10) (T := TX10) (N := 38) hx hb hts in_X10 hown hK hP 0 rfl rfl 9 (by decide) g_135 (fun _ h9 => h9) rfl dX10_owesAll_6 ?_
      refine lv_icmp_ge (tgt := 41) hx hb dX10_owesAll_9 (by decide) (fun c9 => ?_) (fun c9 => ?_)
      · replace hf := ip c9 hf
        exact hk_4 x2_4 hf _ (lv_sub hl [2] rfl)
      · replace hf := im c9 hf
        refine lv_iload_n hx hb dX10_owesAll_12 rfl (lv_at hl 2 rfl) ?_
        refine lv_aload_n hx hb dX10_owesAll_13 rfl (lv_at hl 0 rfl) ?_
        refine va_get (D := D) (ci := 10) (v := .ref (h 11)) (C := RX10) (T := TX10) (N := 38) hx hb hts in_X10 hown hK hP 0 rfl rfl 11 (by decide) g_29 (fun _ h9 => h9) rfl dX10_owesAll_14 ?_
        refine lv_iload_n hx hb dX10_owesAll_17 rfl (lv_at hl 3 rfl) ?_
        obtain ⟨c18, hf⟩ := gd hf
        refine va_iald (f := (V 11)) hx hb hK hP 7 0 rfl rfl c18 dX10_owesAll_18 ?_
        refine lv_iload_n hx hb dX10_owesAll_19 rfl (lv_at hl 1 rfl) ?_
        obtain ⟨j33, ej33, hf⟩ := nme hf
        have J33 : ∀ (t1_33 : Int32), j33 t1_33 = some out → ∀ ls : Array Slot, lv_has ls 4 [(0, .ref o), (1, .int x1), (3, .int x3_4)] → W p l e rm_M_owesAll s m args below meth c s.heap [] 0 0 Q (F0 m 33 ls [.int t1_33, .int x2_4]) := by
          intro t1_33 hf ls hl
          rw [ej33] at hf
          refine lv_iadd hx hb dX10_owesAll_33 ?_
          refine lv_istore_n (lv' := [(2, .int (x2_4 + t1_33)), (0, .ref o), (1, .int x1), (3, .int x3_4)]) hx hb dX10_owesAll_34 rfl hl (by decide) rfl (fun ls hl => ?_)
          refine lv_iinc (v := (x3_4 + 1)) (lv' := [(3, .int (x3_4 + 1)), (2, .int (x2_4 + t1_33)), (0, .ref o), (1, .int x1)]) hx hb dX10_owesAll_35 hl (k := 3) rfl (by rfl) (by decide) rfl (fun ls hl => ?_)
          refine lv_goto (tgt := 4) hx hb dX10_owesAll_38 (by decide) ?_
          exact ih_4 (x2_4 + t1_33) (x3_4 + 1) hf _ (lv_sub hl [2, 3, 1, 0] rfl)
        refine lv_icmp_ne (tgt := 32) hx hb dX10_owesAll_20 (by decide) (fun c20 => ?_) (fun c20 => ?_)
        · replace hf := im c20 hf
          refine lv_iconst (v := 0) hx hb dX10_owesAll_32 (by decide) ?_
          exact J33 0 hf _ (lv_sub hl [0, 1, 3] rfl)
        · replace hf := ip c20 hf
          refine lv_aload_n hx hb dX10_owesAll_23 rfl (lv_at hl 0 rfl) ?_
          refine va_get (D := D) (ci := 10) (v := .ref (h 12)) (C := RX10) (T := TX10) (N := 38) hx hb hts in_X10 hown hK hP 0 rfl rfl 12 (by decide) g_32 (fun _ h9 => h9) rfl dX10_owesAll_24 ?_
          refine lv_iload_n hx hb dX10_owesAll_27 rfl (lv_at hl 3 rfl) ?_
          obtain ⟨c28, hf⟩ := gd hf
          refine va_iald (f := (V 12)) hx hb hK hP 8 0 rfl rfl c28 dX10_owesAll_28 ?_
          refine lv_goto (tgt := 33) hx hb dX10_owesAll_29 (by decide) ?_
          exact J33 ((V 12) x3_4.toNatClampNeg) hf _ (lv_sub hl [0, 1, 3] rfl)
  refine L4 _ (fun x2_4 hf ls hl => ?_) f 0 0 hf _ (lv_sub hl [2, 3, 1, 0] rfl)
  refine lv_iload_n hx hb dX10_owesAll_41 rfl (lv_at hl 0 rfl) ?_
  exact hret x2_4 42 _ hf dX10_owesAll_42
set_option maxHeartbeats 4000000 in
set_option maxRecDepth 100000 in
theorem c_M_owesAll (l : Launch) (D : va_G) (cs : Nat → ClassId) (o : Nat) (h : Nat → Nat) (I : FI) (V : FV) (x1 : Int32) (f : Nat) (out : Int32) (hf : M_owesAll f x1 I V = some out) : Met l yX10_owesAll wsX10_owesAll rm_M_owesAll (va_Pc [.ref o, .int x1] (xR D cs (w_M cs o h I V))) (vp_Si (fun r => r = out)) 0 0 (fun _ => False) := by
  refine Met.ofW (cc := cX10_owesAll) (maxL := 4) (ret := (some .int)) (by decide) rfl ?_
  intro p e s m args below meth c s₁ B hml hv
  obtain ⟨ha, hP, hK⟩ := hv
  have hx := B.exec
  have hb := B.bytes
  have hr := B.returns
  have hts := atoms_spec (ws := wsX10_owesAll) B.pre
  have hown : s.vm.findClass RX10 = some m.cls := findClass_of_methodNamed B.named
  have hlocks := B.notSynchronized
  have in_X10 : ∀ w ∈ u_ws RX10 TX10 38, w ∈ wsX10_owesAll := fun w h => List.mem_cons_of_mem _ (List.mem_append_right _ h)
  have g_135 := hts (Cond.fieldLink RX10 135 "DaysLentModel" "debts" "I") (by decide +kernel)
  have g_29 := hts (Cond.fieldLink RX10 29 "DaysLentModel" "owes" "[I") (by decide +kernel)
  have g_32 := hts (Cond.fieldLink RX10 32 "DaysLentModel" "much" "[I") (by decide +kernel)
  have hl := lv_entry ([.ref o, .int x1]) (n := 4) (Nat.le_of_ble_eq_true rfl)
  rw [show entryFrame m args 4 = entryFrame m ([.ref o, .int x1] : List Value).toArray 4 from by rw [ha], lg_entry_eq]
  generalize (lg_sl ([.ref o, .int x1]) ++ List.replicate (4 - (lg_sl ([.ref o, .int x1])).length) Slot.unset).toArray = ls at hl ⊢
  generalize hQ : MQ below (vp_Si (fun r => r = out)) args s 0 0 (fun _ => False) = Q
  have hret : ∀ (v : Int32) (pc : Nat) (ls : Array Slot), some v = some out → decode cX10_owesAll pc = .ok (.ireturn, 1) → W p l e rm_M_owesAll s m args below meth c s.heap [] 0 0 Q (F0 m pc ls [.int v]) := by
    intro v pc ls hf hd
    rw [← hQ]
    exact W.iret (v := v) hx hb hr (fun t ht hW => ⟨v, rfl, Option.some.inj hf, ht⟩) (fun q h => by cases h) hd
  exact v_M_owesAll hf hx hb hml hown hts in_X10 g_135 g_29 g_32 hP hK hret ls hl
def M_owedAll_L4 {ρ : Type} (f : Nat) (I : FI) (V : FV) (x1 : Int32) (k_4 : Int32 → Option ρ) : Nat → Int32 → Int32 → Option ρ
  | 0, _, _ => none
  | n_4 + 1, x2_4, x3_4 => (if (I 9) ≤ x3_4 then (k_4 x2_4) else if x3_4 < 0 ∨ 12 ≤ x3_4.toNatClampNeg then none else ((nm (fun (t1_33 : Int32) => (M_owedAll_L4 f I V x1 k_4 n_4 (x2_4 + t1_33) (x3_4 + 1))) (fun j33 => (if ((V 10) x3_4.toNatClampNeg) = x1 then if x3_4 < 0 ∨ 12 ≤ x3_4.toNatClampNeg then none else ((j33 ((V 12) x3_4.toNatClampNeg))) else (j33 0))))))
def M_owedAll (f : Nat) (x1 : Int32) (I : FI) (V : FV) : Option (Int32) := (M_owedAll_L4 f I V x1 (fun (x2_4 : Int32) => some x2_4) f 0 0)
abbrev rm_M_owedAll : Room := { frames := 0, cells := 0, slots := 0, locals := 0 }
set_option maxHeartbeats 4000000 in
set_option maxRecDepth 100000 in
theorem v_M_owedAll {l : Launch} {p : Program} {e : Env} {s : State} {m : MethodId} {args : Array Value} {below : List Frame} {meth : Method} {c : Code} {Q : State → Prop} {D : va_G} {cs : Nat → ClassId} {o : Nat} {h : Nat → Nat} {I : FI} {V : FV} {x1 : Int32} {f : Nat} {out : Int32} (hf : M_owedAll f x1 I V = some out) (hx : p.tables.exec = Jvm.exec) (hb : c.code = cX10_owedAll) (hml : c.maxLocals = 4) (hown : s.vm.findClass RX10 = some m.cls) (hts : ∀ w ∈ wsX10_owedAll, w.before args s = true) (in_X10 : ∀ w ∈ u_ws RX10 TX10 38, w ∈ wsX10_owedAll) (g_135 : (Cond.fieldLink RX10 135 "DaysLentModel" "debts" "I").before args s = true) (g_26 : (Cond.fieldLink RX10 26 "DaysLentModel" "owed" "[I").before args s = true) (g_32 : (Cond.fieldLink RX10 32 "DaysLentModel" "much" "[I").before args s = true) (hP : va_P D vwCl (w_M cs o h I V) s.heap) (hK : va_K D vwCl (tyA cs) s) (hret : ∀ (v : Int32) (pc : Nat) (ls : Array Slot), some v = some out → decode cX10_owedAll pc = .ok (.ireturn, 1) → W p l e rm_M_owedAll s m args below meth c s.heap [] 0 0 Q (F0 m pc ls [.int v])) : ∀ ls : Array Slot, lv_has ls 4 [(0, .ref o), (1, .int x1)] → W p l e rm_M_owedAll s m args below meth c s.heap [] 0 0 Q (F0 m 0 ls []) := by
  intro ls hl
  unfold M_owedAll at hf
  refine lv_iconst (v := 0) hx hb dX10_owedAll_0 (by decide) ?_
  refine lv_istore_n (lv' := [(2, .int 0), (0, .ref o), (1, .int x1)]) hx hb dX10_owedAll_1 rfl hl (by decide) rfl (fun ls hl => ?_)
  refine lv_iconst (v := 0) hx hb dX10_owedAll_2 (by decide) ?_
  refine lv_istore_n (lv' := [(3, .int 0), (2, .int 0), (0, .ref o), (1, .int x1)]) hx hb dX10_owedAll_3 rfl hl (by decide) rfl (fun ls hl => ?_)
  have L4 : ∀ (k_4 : Int32 → Option (Int32)) (hk_4 : ∀ (x2_4 : Int32), k_4 x2_4 = some out → ∀ ls : Array Slot, lv_has ls 4 [(2, .int x2_4)] → W p l e rm_M_owedAll s m args below meth c s.heap [] 0 0 Q (F0 m 41 ls [])), ∀ (n_4 : Nat) (x2_4 : Int32) (x3_4 : Int32), M_owedAll_L4 f I V x1 k_4 n_4 x2_4 x3_4 = some out → ∀ ls : Array Slot, lv_has ls 4 [(0, .ref o), (1, .int x1), (2, .int x2_4), (3, .int x3_4)] → W p l e rm_M_owedAll s m args below meth c s.heap [] 0 0 Q (F0 m 4 ls []) := by
    intro k_4 hk_4 n_4
    induction n_4 with
    | zero => intro x2_4 x3_4 hf; rw [M_owedAll_L4] at hf; cases hf
    | succ n_4 ih_4 =>
      intro x2_4 x3_4 hf ls hl
      rw [M_owedAll_L4] at hf
      refine lv_iload_n hx hb dX10_owedAll_4 rfl (lv_at hl 3 rfl) ?_
      refine lv_aload_n hx hb dX10_owedAll_5 rfl (lv_at hl 0 rfl) ?_
      refine va_get (D := D) (ci := 10) (v := .int (I 9)) (C := RX10) (T := TX10) (N := 38) hx hb hts in_X10 hown hK hP 0 rfl rfl 9 (by decide) g_135 (fun _ h9 => h9) rfl dX10_owedAll_6 ?_
      refine lv_icmp_ge (tgt := 41) hx hb dX10_owedAll_9 (by decide) (fun c9 => ?_) (fun c9 => ?_)
      · replace hf := ip c9 hf
        exact hk_4 x2_4 hf _ (lv_sub hl [2] rfl)
      · replace hf := im c9 hf
        refine lv_iload_n hx hb dX10_owedAll_12 rfl (lv_at hl 2 rfl) ?_
        refine lv_aload_n hx hb dX10_owedAll_13 rfl (lv_at hl 0 rfl) ?_
        refine va_get (D := D) (ci := 10) (v := .ref (h 10)) (C := RX10) (T := TX10) (N := 38) hx hb hts in_X10 hown hK hP 0 rfl rfl 10 (by decide) g_26 (fun _ h9 => h9) rfl dX10_owedAll_14 ?_
        refine lv_iload_n hx hb dX10_owedAll_17 rfl (lv_at hl 3 rfl) ?_
        obtain ⟨c18, hf⟩ := gd hf
        refine va_iald (f := (V 10)) hx hb hK hP 6 0 rfl rfl c18 dX10_owedAll_18 ?_
        refine lv_iload_n hx hb dX10_owedAll_19 rfl (lv_at hl 1 rfl) ?_
        obtain ⟨j33, ej33, hf⟩ := nme hf
        have J33 : ∀ (t1_33 : Int32), j33 t1_33 = some out → ∀ ls : Array Slot, lv_has ls 4 [(0, .ref o), (1, .int x1), (3, .int x3_4)] → W p l e rm_M_owedAll s m args below meth c s.heap [] 0 0 Q (F0 m 33 ls [.int t1_33, .int x2_4]) := by
          intro t1_33 hf ls hl
          rw [ej33] at hf
          refine lv_iadd hx hb dX10_owedAll_33 ?_
          refine lv_istore_n (lv' := [(2, .int (x2_4 + t1_33)), (0, .ref o), (1, .int x1), (3, .int x3_4)]) hx hb dX10_owedAll_34 rfl hl (by decide) rfl (fun ls hl => ?_)
          refine lv_iinc (v := (x3_4 + 1)) (lv' := [(3, .int (x3_4 + 1)), (2, .int (x2_4 + t1_33)), (0, .ref o), (1, .int x1)]) hx hb dX10_owedAll_35 hl (k := 3) rfl (by rfl) (by decide) rfl (fun ls hl => ?_)
          refine lv_goto (tgt := 4) hx hb dX10_owedAll_38 (by decide) ?_
          exact ih_4 (x2_4 + t1_33) (x3_4 + 1) hf _ (lv_sub hl [2, 3, 1, 0] rfl)
        refine lv_icmp_ne (tgt := 32) hx hb dX10_owedAll_20 (by decide) (fun c20 => ?_) (fun c20 => ?_)
        · replace hf := im c20 hf
          refine lv_iconst (v := 0) hx hb dX10_owedAll_32 (by decide) ?_
          exact J33 0 hf _ (lv_sub hl [0, 1, 3] rfl)
        · replace hf := ip c20 hf
          refine lv_aload_n hx hb dX10_owedAll_23 rfl (lv_at hl 0 rfl) ?_
          refine va_get (D := D) (ci := 10) (v := .ref (h 12)) (C := RX10) (T := TX10) (N := 38) hx hb hts in_X10 hown hK hP 0 rfl rfl 12 (by decide) g_32 (fun _ h9 => h9) rfl dX10_owedAll_24 ?_
          refine lv_iload_n hx hb dX10_owedAll_27 rfl (lv_at hl 3 rfl) ?_
          obtain ⟨c28, hf⟩ := gd hf
          refine va_iald (f := (V 12)) hx hb hK hP 8 0 rfl rfl c28 dX10_owedAll_28 ?_
          refine lv_goto (tgt := 33) hx hb dX10_owedAll_29 (by decide) ?_
          exact J33 ((V 12) x3_4.toNatClampNeg) hf _ (lv_sub hl [0, 1, 3] rfl)
  refine L4 _ (fun x2_4 hf ls hl => ?_) f 0 0 hf _ (lv_sub hl [2, 3, 1, 0] rfl)
  refine lv_iload_n hx hb dX10_owedAll_41 rfl (lv_at hl 0 rfl) ?_
  exact hret x2_4 42 _ hf dX10_owedAll_42
set_option maxHeartbeats 4000000 in
set_option maxRecDepth 100000 in
theorem c_M_owedAll (l : Launch) (D : va_G) (cs : Nat → ClassId) (o : Nat) (h : Nat → Nat) (I : FI) (V : FV) (x1 : Int32) (f : Nat) (out : Int32) (hf : M_owedAll f x1 I V = some out) : Met l yX10_owedAll wsX10_owedAll rm_M_owedAll (va_Pc [.ref o, .int x1] (xR D cs (w_M cs o h I V))) (vp_Si (fun r => r = out)) 0 0 (fun _ => False) := by
  refine Met.ofW (cc := cX10_owedAll) (maxL := 4) (ret := (some .int)) (by decide) rfl ?_
  intro p e s m args below meth c s₁ B hml hv
  obtain ⟨ha, hP, hK⟩ := hv
  have hx := B.exec
  have hb := B.bytes
  have hr := B.returns
  have hts := atoms_spec (ws := wsX10_owedAll) B.pre
  have hown : s.vm.findClass RX10 = some m.cls := findClass_of_methodNamed B.named
  have hlocks := B.notSynchronized
  have in_X10 : ∀ w ∈ u_ws RX10 TX10 38, w ∈ wsX10_owedAll := fun w h => List.mem_cons_of_mem _ (List.mem_append_right _ h)
  have g_135 := hts (Cond.fieldLink RX10 135 "DaysLentModel" "debts" "I") (by decide +kernel)
  have g_26 := hts (Cond.fieldLink RX10 26 "DaysLentModel" "owed" "[I") (by decide +kernel)
  have g_32 := hts (Cond.fieldLink RX10 32 "DaysLentModel" "much" "[I") (by decide +kernel)
  have hl := lv_entry ([.ref o, .int x1]) (n := 4) (Nat.le_of_ble_eq_true rfl)
  rw [show entryFrame m args 4 = entryFrame m ([.ref o, .int x1] : List Value).toArray 4 from by rw [ha], lg_entry_eq]
  generalize (lg_sl ([.ref o, .int x1]) ++ List.replicate (4 - (lg_sl ([.ref o, .int x1])).length) Slot.unset).toArray = ls at hl ⊢
  generalize hQ : MQ below (vp_Si (fun r => r = out)) args s 0 0 (fun _ => False) = Q
  have hret : ∀ (v : Int32) (pc : Nat) (ls : Array Slot), some v = some out → decode cX10_owedAll pc = .ok (.ireturn, 1) → W p l e rm_M_owedAll s m args below meth c s.heap [] 0 0 Q (F0 m pc ls [.int v]) := by
    intro v pc ls hf hd
    rw [← hQ]
    exact W.iret (v := v) hx hb hr (fun t ht hW => ⟨v, rfl, Option.some.inj hf, ht⟩) (fun q h => by cases h) hd
  exact v_M_owedAll hf hx hb hml hown hts in_X10 g_135 g_26 g_32 hP hK hret ls hl
def M_about_L18 {ρ : Type} (f : Nat) (I1 : FI) (V : FV) (k_18 : Int32 → Int32 → Int32 → Int32 → Option ρ) : Nat → Int32 → Int32 → Int32 → Int32 → Int32 → Option ρ
  | 0, _, _, _, _, _ => none
  | n_18 + 1, x2_18, x3_18, x4_18, x5_18, x6_18 => (if (I1 4) ≤ x6_18 then (k_18 x2_18 x3_18 x4_18 x5_18) else if x6_18 < 0 ∨ 6 ≤ x6_18.toNatClampNeg then none else ((nm (fun (t1_46 : Int32) => if x6_18 < 0 ∨ 6 ≤ x6_18.toNatClampNeg then none else ((nm (fun (t1_67 : Int32) => if x6_18 < 0 ∨ 6 ≤ x6_18.toNatClampNeg then none else (nm (x4_18 + ((V 5) x6_18.toNatClampNeg)) (fun y2 => ob1 (M_owesAll f x6_18 I1 V) (fun zr3 => (M_about_L18 f I1 V k_18 n_18 (x2_18 ||| t1_46) (x3_18 ||| t1_67) y2 (x5_18 + zr3) (x6_18 + 1)))))) (fun j67 => (if ((V 8) x6_18.toNatClampNeg) = 0 then (j67 0) else (j67 (1 <<< (x6_18 &&& 31)))))))) (fun j46 => (if ((V 7) x6_18.toNatClampNeg) = 0 then (j46 (1 <<< (x6_18 &&& 31))) else (j46 0))))))
def M_about (f : Nat) (x1 : Int32) (I : FI) (V : FV) : Option (Int32 × FI × FV) := nm (va_up I 0 0) (fun I1 => (M_about_L18 f I1 V (fun (x2_18 : Int32) (x3_18 : Int32) (x4_18 : Int32) (x5_18 : Int32) => (if x1 = 0 then some ((I1 4), I1, V) else if x1 = 1 then some ((I1 9), I1, V) else if x1 = 2 then some ((I1 14), I1, V) else if x1 = 3 then some ((I1 24), I1, V) else if x1 = 4 then some (x2_18, I1, V) else if x1 = 5 then some (x3_18, I1, V) else if x1 = 6 then some (x4_18, I1, V) else if x1 = 7 then some (x5_18, I1, V) else if x1 = 8 then some ((I1 27), I1, V) else if x1 = 9 then some ((I1 2), I1, V) else some ((-2), I1, V))) f 0 0 0 0 0))
abbrev rm_M_about : Room := { frames := 1, cells := 0, slots := 0, locals := 23 }
set_option maxHeartbeats 4000000 in
set_option maxRecDepth 100000 in
theorem v_M_about {l : Launch} {p : Program} {e : Env} {s : State} {m : MethodId} {args : Array Value} {below : List Frame} {meth : Method} {c : Code} {Q : State → Prop} {D : va_G} {cs : Nat → ClassId} {o : Nat} {h : Nat → Nat} {A : Nat → Prop} {I : FI} {V : FV} {x1 : Int32} {f : Nat} {out : Int32 × FI × FV} (hf : M_about f x1 I V = some out) (hx : p.tables.exec = Jvm.exec) (hb : c.code = cX10_about) (hml : c.maxLocals = 7) (hown : s.vm.findClass RX10 = some m.cls) (hts : ∀ w ∈ wsX10_about, w.before args s = true) (in_X10 : ∀ w ∈ u_ws RX10 TX10 38, w ∈ wsX10_about) (g_92 : (Cond.fieldLink RX10 92 "DaysLentModel" "thrown" "I").before args s = true) (g_96 : (Cond.fieldLink RX10 96 "DaysLentModel" "people" "I").before args s = true) (g_19 : (Cond.fieldLink RX10 19 "DaysLentModel" "dead" "[Z").before args s = true) (g_23 : (Cond.fieldLink RX10 23 "DaysLentModel" "broken" "[Z").before args s = true) (g_13 : (Cond.fieldLink RX10 13 "DaysLentModel" "mornings" "[I").before args s = true) (w_owesAll_144 : CallW rm_M_about s args RX10 RX10 144 yX10_owesAll cX10_owesAll 4 (some .int) wsX10_owesAll rm_M_owesAll 0 0 1) (g_135 : (Cond.fieldLink RX10 135 "DaysLentModel" "debts" "I").before args s = true) (g_138 : (Cond.fieldLink RX10 138 "DaysLentModel" "week" "I").before args s = true) (g_141 : (Cond.fieldLink RX10 141 "DaysLentModel" "acts" "I").before args s = true) (g_148 : (Cond.fieldLink RX10 148 "DaysLentModel" "days" "I").before args s = true) (g_105 : (Cond.fieldLink RX10 105 "DaysLentModel" "textSize" "I").before args s = true) (hA : ∀ q : Nat, s.heap.size ≤ q → A q) (hP : va_P D vwCl (w_M cs o h I V) s.heap) (hD : va_D A (w_M cs o h I V)) (hK : va_K D vwCl (tyA cs) s) (hret : ∀ (v : Int32) (Im9 : FI) (Vm9 : FV) (H : Heap) (locs : List Loc) (pc : Nat) (ls : Array Slot), some (v, Im9, Vm9) = some out → va_P D vwCl (w_M cs o h Im9 Vm9) H → va_D A (w_M cs o h Im9 Vm9) → va_S A s.heap H locs → decode cX10_about pc = .ok (.ireturn, 1) → W p l e rm_M_about s m args below meth c H locs 0 0 Q (F0 m pc ls [.int v])) : ∀ ls : Array Slot, lv_has ls 7 [(0, .ref o), (1, .int x1)] → W p l e rm_M_about s m args below meth c s.heap [] 0 0 Q (F0 m 0 ls []) := by
  intro ls hl
  have hS : va_S A s.heap s.heap [] := va_S.rf
  unfold M_about at hf
  refine lv_aload_n hx hb dX10_about_0 rfl (lv_at hl 0 rfl) ?_
  refine lv_iconst (v := 0) hx hb dX10_about_1 (by decide) ?_
  refine va_put (D := D) (ci := 10) (v := .int 0) (ty := .int) (C := RX10) (T := TX10) (N := 38) hx hb hts in_X10 tyX10 tyX10_ok nmX10 hown hK hP hD hS 0 rfl rfl 0 (by decide) g_92 (fun _ h9 => h9) rfl (by decide +kernel) rfl rfl (Nat.le_of_ble_eq_true rfl) dX10_about_2 (fun H locs hP hD hS => ?_)
  obtain ⟨I1, eI1, hf⟩ := nme hf
  have hP : va_P D vwCl (w_M cs o h I1 V) H := by rw [eI1]; exact hP
  have hD : va_D A (w_M cs o h I1 V) := by rw [eI1]; exact hD
  refine lv_iconst (v := 0) hx hb dX10_about_5 (by decide) ?_
  refine lv_istore_n (lv' := [(2, .int 0), (0, .ref o), (1, .int x1)]) hx hb dX10_about_6 rfl hl (by decide) rfl (fun ls hl => ?_)
  refine lv_iconst (v := 0) hx hb dX10_about_7 (by decide) ?_
  refine lv_istore_n (lv' := [(3, .int 0), (2, .int 0), (0, .ref o), (1, .int x1)]) hx hb dX10_about_8 rfl hl (by decide) rfl (fun ls hl => ?_)
  refine lv_iconst (v := 0) hx hb dX10_about_9 (by decide) ?_
  refine lv_istore (lv' := [(4, .int 0), (3, .int 0), (2, .int 0), (0, .ref o), (1, .int x1)]) hx hb dX10_about_10 hl (by decide) rfl (fun ls hl => ?_)
  refine lv_iconst (v := 0) hx hb dX10_about_12 (by decide) ?_
  refine lv_istore (lv' := [(5, .int 0), (4, .int 0), (3, .int 0), (2, .int 0), (0, .ref o), (1, .int x1)]) hx hb dX10_about_13 hl (by decide) rfl (fun ls hl => ?_)
  refine lv_iconst (v := 0) hx hb dX10_about_15 (by decide) ?_
  refine lv_istore (lv' := [(6, .int 0), (5, .int 0), (4, .int 0), (3, .int 0), (2, .int 0), (0, .ref o), (1, .int x1)]) hx hb dX10_about_16 hl (by decide) rfl (fun ls hl => ?_)
  have L18 : ∀ (k_18 : Int32 → Int32 → Int32 → Int32 → Option (Int32 × FI × FV)) (hk_18 : ∀ (x2_18 : Int32) (x3_18 : Int32) (x4_18 : Int32) (x5_18 : Int32), k_18 x2_18 x3_18 x4_18 x5_18 = some out → ∀ (H : Heap) (locs : List Loc), va_P D vwCl (w_M cs o h I1 V) H → va_D A (w_M cs o h I1 V) → va_S A s.heap H locs → ∀ ls : Array Slot, lv_has ls 7 [(0, .ref o), (1, .int x1), (2, .int x2_18), (3, .int x3_18), (4, .int x4_18), (5, .int x5_18)] → W p l e rm_M_about s m args below meth c H locs 0 0 Q (F0 m 98 ls [])), ∀ (n_18 : Nat) (x2_18 : Int32) (x3_18 : Int32) (x4_18 : Int32) (x5_18 : Int32) (x6_18 : Int32), M_about_L18 f I1 V k_18 n_18 x2_18 x3_18 x4_18 x5_18 x6_18 = some out → ∀ (H : Heap) (locs : List Loc), va_P D vwCl (w_M cs o h I1 V) H → va_D A (w_M cs o h I1 V) → va_S A s.heap H locs → ∀ ls : Array Slot, lv_has ls 7 [(0, .ref o), (1, .int x1), (2, .int x2_18), (3, .int x3_18), (4, .int x4_18), (5, .int x5_18), (6, .int x6_18)] → W p l e rm_M_about s m args below meth c H locs 0 0 Q (F0 m 18 ls []) := by
    intro k_18 hk_18 n_18
    induction n_18 with
    | zero => intro x2_18 x3_18 x4_18 x5_18 x6_18 hf; rw [M_about_L18] at hf; cases hf
    | succ n_18 ih_18 =>
      intro x2_18 x3_18 x4_18 x5_18 x6_18 hf H locs hP hD hS ls hl
      rw [M_about_L18] at hf
      refine lv_iload hx hb dX10_about_18 (lv_at hl 6 rfl) ?_
      refine lv_aload_n hx hb dX10_about_20 rfl (lv_at hl 0 rfl) ?_
      refine va_get (D := D) (ci := 10) (v := .int (I1 4)) (C := RX10) (T := TX10) (N := 38) hx hb hts in_X10 hown hK hP 0 rfl rfl 4 (by decide) g_96 (fun _ h9 => h9) rfl dX10_about_21 ?_
      refine lv_icmp_ge (tgt := 98) hx hb dX10_about_24 (by decide) (fun c24 => ?_) (fun c24 => ?_)
      · replace hf := ip c24 hf
        exact hk_18 x2_18 x3_18 x4_18 x5_18 hf _ _ hP hD hS _ (lv_sub hl [0, 1, 2, 3, 4, 5] rfl)
      · replace hf := im c24 hf
        refine lv_iload_n hx hb dX10_about_27 rfl (lv_at hl 2 rfl) ?_
        refine lv_aload_n hx hb dX10_about_28 rfl (lv_at hl 0 rfl) ?_
        refine va_get (D := D) (ci := 10) (v := .ref (h 7)) (C := RX10) (T := TX10) (N := 38) hx hb hts in_X10 hown hK hP 0 rfl rfl 7 (by decide) g_19 (fun _ h9 => h9) rfl dX10_about_29 ?_
        refine lv_iload hx hb dX10_about_32 (lv_at hl 6 rfl) ?_
        obtain ⟨c34, hf⟩ := gd hf
        refine va_zald (f := (V 7)) hx hb hK hP 4 1 rfl rfl c34 dX10_about_34 ?_
        obtain ⟨j46, ej46, hf⟩ := nme hf
        have J46 : ∀ (t1_46 : Int32), j46 t1_46 = some out → ∀ (H : Heap) (locs : List Loc), va_P D vwCl (w_M cs o h I1 V) H → va_D A (w_M cs o h I1 V) → va_S A s.heap H locs → ∀ ls : Array Slot, lv_has ls 7 [(0, .ref o), (1, .int x1), (3, .int x3_18), (4, .int x4_18), (5, .int x5_18), (6, .int x6_18)] → W p l e rm_M_about s m args below meth c H locs 0 0 Q (F0 m 46 ls [.int t1_46, .int x2_18]) := by
          intro t1_46 hf H locs hP hD hS ls hl
          rw [ej46] at hf
          refine lv_ior hx hb dX10_about_46 ?_
          refine lv_istore_n (lv' := [(2, .int (x2_18 ||| t1_46)), (0, .ref o), (1, .int x1), (3, .int x3_18), (4, .int x4_18), (5, .int x5_18), (6, .int x6_18)]) hx hb dX10_about_47 rfl hl (by decide) rfl (fun ls hl => ?_)
          refine lv_iload_n hx hb dX10_about_48 rfl (lv_at hl 3 rfl) ?_
          refine lv_aload_n hx hb dX10_about_49 rfl (lv_at hl 1 rfl) ?_
          refine va_get (D := D) (ci := 10) (v := .ref (h 8)) (C := RX10) (T := TX10) (N := 38) hx hb hts in_X10 hown hK hP 0 rfl rfl 8 (by decide) g_23 (fun _ h9 => h9) rfl dX10_about_50 ?_
          refine lv_iload hx hb dX10_about_53 (lv_at hl 6 rfl) ?_
          obtain ⟨c55, hf⟩ := gd hf
          refine va_zald (f := (V 8)) hx hb hK hP 5 1 rfl rfl c55 dX10_about_55 ?_
          obtain ⟨j67, ej67, hf⟩ := nme hf
          have J67 : ∀ (t1_67 : Int32), j67 t1_67 = some out → ∀ (H : Heap) (locs : List Loc), va_P D vwCl (w_M cs o h I1 V) H → va_D A (w_M cs o h I1 V) → va_S A s.heap H locs → ∀ ls : Array Slot, lv_has ls 7 [(0, .ref o), (1, .int x1), (2, .int (x2_18 ||| t1_46)), (4, .int x4_18), (5, .int x5_18), (6, .int x6_18)] → W p l e rm_M_about s m args below meth c H locs 0 0 Q (F0 m 67 ls [.int t1_67, .int x3_18]) := by
            intro t1_67 hf H locs hP hD hS ls hl
            rw [ej67] at hf
            refine lv_ior hx hb dX10_about_67 ?_
            refine lv_istore_n (lv' := [(3, .int (x3_18 ||| t1_67)), (0, .ref o), (1, .int x1), (2, .int (x2_18 ||| t1_46)), (4, .int x4_18), (5, .int x5_18), (6, .int x6_18)]) hx hb dX10_about_68 rfl hl (by decide) rfl (fun ls hl => ?_)
            refine lv_iload hx hb dX10_about_69 (lv_at hl 4 rfl) ?_
            refine lv_aload_n hx hb dX10_about_71 rfl (lv_at hl 1 rfl) ?_
            refine va_get (D := D) (ci := 10) (v := .ref (h 5)) (C := RX10) (T := TX10) (N := 38) hx hb hts in_X10 hown hK hP 0 rfl rfl 5 (by decide) g_13 (fun _ h9 => h9) rfl dX10_about_72 ?_
            refine lv_iload hx hb dX10_about_75 (lv_at hl 6 rfl) ?_
            obtain ⟨c77, hf⟩ := gd hf
            refine va_iald (f := (V 5)) hx hb hK hP 2 0 rfl rfl c77 dX10_about_77 ?_
            refine lv_iadd hx hb dX10_about_78 ?_
            refine lv_topi (fun y2 ey2 => ?_)
            replace hf := nmd hf ey2
            refine lv_istore (lv' := [(4, .int y2), (3, .int (x3_18 ||| t1_67)), (0, .ref o), (1, .int x1), (2, .int (x2_18 ||| t1_46)), (5, .int x5_18), (6, .int x6_18)]) hx hb dX10_about_79 hl (by decide) rfl (fun ls hl => ?_)
            refine lv_iload hx hb dX10_about_81 (lv_at hl 5 rfl) ?_
            refine lv_aload_n hx hb dX10_about_83 rfl (lv_at hl 2 rfl) ?_
            refine lv_iload hx hb dX10_about_84 (lv_at hl 6 rfl) ?_
            obtain ⟨zr3, qr3, hf⟩ := bd1 hf
            refine vp_callSi (va_Run.run (va_runV (As := [.int x6_18]) (rest := [.int x5_18]) ⟨hx, hb, hml, hown, hts⟩ (c_M_owesAll l D cs o h I1 V x6_18 f zr3 qr3) w_owesAll_144 ⟨xR_moved, va_recv hK hP (ci := 10) (q0 := 0) rfl rfl, fun U hU hW => ⟨rfl, by rw [hU]; exact hP, va_K.moved hW.alike hK⟩⟩ rfl rfl hl.1 rfl (lv_room (Nat.le_of_ble_eq_true rfl)) dX10_about_86 ⟨Nat.zero_le _, Nat.zero_le _⟩)) (fun r3 er3 => ?_)
            rw [er3]
            refine lv_iadd hx hb dX10_about_89 ?_
            refine lv_istore (lv' := [(5, .int (x5_18 + zr3)), (4, .int y2), (3, .int (x3_18 ||| t1_67)), (0, .ref o), (1, .int x1), (2, .int (x2_18 ||| t1_46)), (6, .int x6_18)]) hx hb dX10_about_90 hl (by decide) rfl (fun ls hl => ?_)
            refine lv_iinc (v := (x6_18 + 1)) (lv' := [(6, .int (x6_18 + 1)), (5, .int (x5_18 + zr3)), (4, .int y2), (3, .int (x3_18 ||| t1_67)), (0, .ref o), (1, .int x1), (2, .int (x2_18 ||| t1_46))]) hx hb dX10_about_92 hl (k := 6) rfl (by rfl) (by decide) rfl (fun ls hl => ?_)
            refine lv_goto (tgt := 18) hx hb dX10_about_95 (by decide) ?_
            exact ih_18 (x2_18 ||| t1_46) (x3_18 ||| t1_67) y2 (x5_18 + zr3) (x6_18 + 1) hf _ _ hP hD hS _ (lv_sub hl [4, 5, 6, 3, 2, 1, 0] rfl)
          refine lv_if_eq (tgt := 66) hx hb dX10_about_56 (by decide) (fun c56 => ?_) (fun c56 => ?_)
          · replace hf := ip c56 hf
            refine lv_iconst (v := 0) hx hb dX10_about_66 (by decide) ?_
            exact J67 0 hf _ _ hP hD hS _ (lv_sub hl [1, 2, 0, 4, 5, 6] rfl)
          · replace hf := im c56 hf
            refine lv_iconst (v := 1) hx hb dX10_about_59 (by decide) ?_
            refine lv_iload hx hb dX10_about_60 (lv_at hl 6 rfl) ?_
            refine lv_ishl hx hb dX10_about_62 ?_
            refine lv_goto (tgt := 67) hx hb dX10_about_63 (by decide) ?_
            exact J67 (1 <<< (x6_18 &&& 31)) hf _ _ hP hD hS _ (lv_sub hl [1, 2, 0, 4, 5, 6] rfl)
        refine lv_if_eq (tgt := 42) hx hb dX10_about_35 (by decide) (fun c35 => ?_) (fun c35 => ?_)
        · replace hf := ip c35 hf
          refine lv_iconst (v := 1) hx hb dX10_about_42 (by decide) ?_
          refine lv_iload hx hb dX10_about_43 (lv_at hl 6 rfl) ?_
          refine lv_ishl hx hb dX10_about_45 ?_
          exact J46 (1 <<< (x6_18 &&& 31)) hf _ _ hP hD hS _ (lv_sub hl [0, 1, 3, 4, 5, 6] rfl)
        · replace hf := im c35 hf
          refine lv_iconst (v := 0) hx hb dX10_about_38 (by decide) ?_
          refine lv_goto (tgt := 46) hx hb dX10_about_39 (by decide) ?_
          exact J46 0 hf _ _ hP hD hS _ (lv_sub hl [0, 1, 3, 4, 5, 6] rfl)
  refine L18 _ (fun x2_18 x3_18 x4_18 x5_18 hf H locs hP hD hS ls hl => ?_) f 0 0 0 0 0 hf _ _ hP hD hS _ (lv_sub hl [5, 6, 4, 3, 2, 1, 0] rfl)
  refine lv_iload_n hx hb dX10_about_98 rfl (lv_at hl 1 rfl) ?_
  by_cases c99_0 : x1 = 0
  · replace hf := ip c99_0 hf
    refine lv_tableIn (tgt := 152) hx hb dX10_about_99 (by rw [c99_0]; decide) (by rw [c99_0]; decide) (by rw [c99_0]; rfl) (by decide) ?_
    refine lv_aload_n hx hb dX10_about_152 rfl (lv_at hl 0 rfl) ?_
    refine va_get (D := D) (ci := 10) (v := .int (I1 4)) (C := RX10) (T := TX10) (N := 38) hx hb hts in_X10 hown hK hP 0 rfl rfl 4 (by decide) g_96 (fun _ h9 => h9) rfl dX10_about_153 ?_
    exact hret (I1 4) I1 V _ _ 156 _ hf hP hD hS dX10_about_156
  replace hf := im c99_0 hf
  by_cases c99_1 : x1 = 1
  · replace hf := ip c99_1 hf
    refine lv_tableIn (tgt := 157) hx hb dX10_about_99 (by rw [c99_1]; decide) (by rw [c99_1]; decide) (by rw [c99_1]; rfl) (by decide) ?_
    refine lv_aload_n hx hb dX10_about_157 rfl (lv_at hl 0 rfl) ?_
    refine va_get (D := D) (ci := 10) (v := .int (I1 9)) (C := RX10) (T := TX10) (N := 38) hx hb hts in_X10 hown hK hP 0 rfl rfl 9 (by decide) g_135 (fun _ h9 => h9) rfl dX10_about_158 ?_
    exact hret (I1 9) I1 V _ _ 161 _ hf hP hD hS dX10_about_161
  replace hf := im c99_1 hf
  by_cases c99_2 : x1 = 2
  · replace hf := ip c99_2 hf
    refine lv_tableIn (tgt := 162) hx hb dX10_about_99 (by rw [c99_2]; decide) (by rw [c99_2]; decide) (by rw [c99_2]; rfl) (by decide) ?_
    refine lv_aload_n hx hb dX10_about_162 rfl (lv_at hl 0 rfl) ?_
    refine va_get (D := D) (ci := 10) (v := .int (I1 14)) (C := RX10) (T := TX10) (N := 38) hx hb hts in_X10 hown hK hP 0 rfl rfl 14 (by decide) g_138 (fun _ h9 => h9) rfl dX10_about_163 ?_
    exact hret (I1 14) I1 V _ _ 166 _ hf hP hD hS dX10_about_166
  replace hf := im c99_2 hf
  by_cases c99_3 : x1 = 3
  · replace hf := ip c99_3 hf
    refine lv_tableIn (tgt := 167) hx hb dX10_about_99 (by rw [c99_3]; decide) (by rw [c99_3]; decide) (by rw [c99_3]; rfl) (by decide) ?_
    refine lv_aload_n hx hb dX10_about_167 rfl (lv_at hl 0 rfl) ?_
    refine va_get (D := D) (ci := 10) (v := .int (I1 24)) (C := RX10) (T := TX10) (N := 38) hx hb hts in_X10 hown hK hP 0 rfl rfl 24 (by decide) g_141 (fun _ h9 => h9) rfl dX10_about_168 ?_
    exact hret (I1 24) I1 V _ _ 171 _ hf hP hD hS dX10_about_171
  replace hf := im c99_3 hf
  by_cases c99_4 : x1 = 4
  · replace hf := ip c99_4 hf
    refine lv_tableIn (tgt := 172) hx hb dX10_about_99 (by rw [c99_4]; decide) (by rw [c99_4]; decide) (by rw [c99_4]; rfl) (by decide) ?_
    refine lv_iload_n hx hb dX10_about_172 rfl (lv_at hl 2 rfl) ?_
    exact hret x2_18 I1 V _ _ 173 _ hf hP hD hS dX10_about_173
  replace hf := im c99_4 hf
  by_cases c99_5 : x1 = 5
  · replace hf := ip c99_5 hf
    refine lv_tableIn (tgt := 174) hx hb dX10_about_99 (by rw [c99_5]; decide) (by rw [c99_5]; decide) (by rw [c99_5]; rfl) (by decide) ?_
    refine lv_iload_n hx hb dX10_about_174 rfl (lv_at hl 3 rfl) ?_
    exact hret x3_18 I1 V _ _ 175 _ hf hP hD hS dX10_about_175
  replace hf := im c99_5 hf
  by_cases c99_6 : x1 = 6
  · replace hf := ip c99_6 hf
    refine lv_tableIn (tgt := 176) hx hb dX10_about_99 (by rw [c99_6]; decide) (by rw [c99_6]; decide) (by rw [c99_6]; rfl) (by decide) ?_
    refine lv_iload hx hb dX10_about_176 (lv_at hl 4 rfl) ?_
    exact hret x4_18 I1 V _ _ 178 _ hf hP hD hS dX10_about_178
  replace hf := im c99_6 hf
  by_cases c99_7 : x1 = 7
  · replace hf := ip c99_7 hf
    refine lv_tableIn (tgt := 179) hx hb dX10_about_99 (by rw [c99_7]; decide) (by rw [c99_7]; decide) (by rw [c99_7]; rfl) (by decide) ?_
    refine lv_iload hx hb dX10_about_179 (lv_at hl 5 rfl) ?_
    exact hret x5_18 I1 V _ _ 181 _ hf hP hD hS dX10_about_181
  replace hf := im c99_7 hf
  by_cases c99_8 : x1 = 8
  · replace hf := ip c99_8 hf
    refine lv_tableIn (tgt := 182) hx hb dX10_about_99 (by rw [c99_8]; decide) (by rw [c99_8]; decide) (by rw [c99_8]; rfl) (by decide) ?_
    refine lv_aload_n hx hb dX10_about_182 rfl (lv_at hl 0 rfl) ?_
    refine va_get (D := D) (ci := 10) (v := .int (I1 27)) (C := RX10) (T := TX10) (N := 38) hx hb hts in_X10 hown hK hP 0 rfl rfl 27 (by decide) g_148 (fun _ h9 => h9) rfl dX10_about_183 ?_
    exact hret (I1 27) I1 V _ _ 186 _ hf hP hD hS dX10_about_186
  replace hf := im c99_8 hf
  by_cases c99_9 : x1 = 9
  · replace hf := ip c99_9 hf
    refine lv_tableIn (tgt := 187) hx hb dX10_about_99 (by rw [c99_9]; decide) (by rw [c99_9]; decide) (by rw [c99_9]; rfl) (by decide) ?_
    refine lv_aload_n hx hb dX10_about_187 rfl (lv_at hl 0 rfl) ?_
    refine va_get (D := D) (ci := 10) (v := .int (I1 2)) (C := RX10) (T := TX10) (N := 38) hx hb hts in_X10 hown hK hP 0 rfl rfl 2 (by decide) g_105 (fun _ h9 => h9) rfl dX10_about_188 ?_
    exact hret (I1 2) I1 V _ _ 191 _ hf hP hD hS dX10_about_191
  replace hf := im c99_9 hf
  refine lv_tableOut (tgt := 192) hx hb dX10_about_99 (by have nc99_0 := lv_neT (a := 0) c99_0 rfl; have nc99_1 := lv_neT (a := 1) c99_1 rfl; have nc99_2 := lv_neT (a := 2) c99_2 rfl; have nc99_3 := lv_neT (a := 3) c99_3 rfl; have nc99_4 := lv_neT (a := 4) c99_4 rfl; have nc99_5 := lv_neT (a := 5) c99_5 rfl; have nc99_6 := lv_neT (a := 6) c99_6 rfl; have nc99_7 := lv_neT (a := 7) c99_7 rfl; have nc99_8 := lv_neT (a := 8) c99_8 rfl; have nc99_9 := lv_neT (a := 9) c99_9 rfl; omega) (by decide) ?_
  refine lv_bipush (v := (-2)) hx hb dX10_about_192 (by decide) ?_
  exact hret (-2) I1 V _ _ 194 _ hf hP hD hS dX10_about_194
set_option maxHeartbeats 4000000 in
set_option maxRecDepth 100000 in
theorem c_M_about (l : Launch) (D : va_G) (cs : Nat → ClassId) (o : Nat) (h : Nat → Nat) (sz : Nat) (I : FI) (V : FV) (x1 : Int32) (f : Nat) (out : Int32 × FI × FV) (hf : M_about f x1 I V = some out) : Met l yX10_about wsX10_about rm_M_about (va_Pc [.ref o, .int x1] (xP D cs (w_M cs o h I V) sz)) (va_Qi (fun r u => (r, u) = out) (fun (u : FI × FV) t => xA D cs (va_A (w_M cs o h I V) sz) (w_M cs o h u.1 u.2) t) (va_A (w_M cs o h I V) sz)) 0 0 (va_A (w_M cs o h I V) sz) := by
  refine Met.ofW (cc := cX10_about) (maxL := 7) (ret := (some .int)) (by decide) rfl ?_
  intro p e s m args below meth c s₁ B hml hv
  obtain ⟨ha, hsz, hP, hK, hD0⟩ := hv
  have hx := B.exec
  have hb := B.bytes
  have hr := B.returns
  have hts := atoms_spec (ws := wsX10_about) B.pre
  have hown : s.vm.findClass RX10 = some m.cls := findClass_of_methodNamed B.named
  have hlocks := B.notSynchronized
  have in_X10 : ∀ w ∈ u_ws RX10 TX10 38, w ∈ wsX10_about := fun w h => List.mem_cons_of_mem _ (List.mem_append_right _ h)
  have g_92 := hts (Cond.fieldLink RX10 92 "DaysLentModel" "thrown" "I") (by decide +kernel)
  have g_96 := hts (Cond.fieldLink RX10 96 "DaysLentModel" "people" "I") (by decide +kernel)
  have g_19 := hts (Cond.fieldLink RX10 19 "DaysLentModel" "dead" "[Z") (by decide +kernel)
  have g_23 := hts (Cond.fieldLink RX10 23 "DaysLentModel" "broken" "[Z") (by decide +kernel)
  have g_13 := hts (Cond.fieldLink RX10 13 "DaysLentModel" "mornings" "[I") (by decide +kernel)
  have w_owesAll_144 := cwV (R := rm_M_about) (s := s) (args := args) (rm := rm_M_owesAll) (mc := 0) (ms := 0) 1 hts gX10_about_X10_owesAll rfl rfl rfl (by decide +kernel) ⟨Nat.le_of_ble_eq_true rfl, Nat.le_of_ble_eq_true rfl⟩
  have g_135 := hts (Cond.fieldLink RX10 135 "DaysLentModel" "debts" "I") (by decide +kernel)
  have g_138 := hts (Cond.fieldLink RX10 138 "DaysLentModel" "week" "I") (by decide +kernel)
  have g_141 := hts (Cond.fieldLink RX10 141 "DaysLentModel" "acts" "I") (by decide +kernel)
  have g_148 := hts (Cond.fieldLink RX10 148 "DaysLentModel" "days" "I") (by decide +kernel)
  have g_105 := hts (Cond.fieldLink RX10 105 "DaysLentModel" "textSize" "I") (by decide +kernel)
  subst hsz
  have hD := hD0.self (sz := s.heap.size)
  generalize hAe : va_A (w_M cs o h I V) s.heap.size = A at hD ⊢
  have hA : ∀ q : Nat, s.heap.size ≤ q → A q := fun q h => by rw [← hAe]; exact Or.inr h
  have hl := lv_entry ([.ref o, .int x1]) (n := 7) (Nat.le_of_ble_eq_true rfl)
  rw [show entryFrame m args 7 = entryFrame m ([.ref o, .int x1] : List Value).toArray 7 from by rw [ha], lg_entry_eq]
  generalize (lg_sl ([.ref o, .int x1]) ++ List.replicate (7 - (lg_sl ([.ref o, .int x1])).length) Slot.unset).toArray = ls at hl ⊢
  generalize hQ : MQ below (va_Qi (fun r u => (r, u) = out) (fun (u : FI × FV) t => xA D cs A (w_M cs o h u.1 u.2) t) A) args s 0 0 A = Q
  have hret : ∀ (v : Int32) (Im9 : FI) (Vm9 : FV) (H : Heap) (locs : List Loc) (pc : Nat) (ls : Array Slot), some (v, Im9, Vm9) = some out → va_P D vwCl (w_M cs o h Im9 Vm9) H → va_D A (w_M cs o h Im9 Vm9) → va_S A s.heap H locs → decode cX10_about pc = .ok (.ireturn, 1) → W p l e rm_M_about s m args below meth c H locs 0 0 Q (F0 m pc ls [.int v]) := by
    intro v Im9 Vm9 H locs pc ls hf hP hD hS hd
    rw [← hQ]
    exact W.iret (v := v) hx hb hr (fun t ht hW => ⟨⟨v, (Im9, Vm9), rfl, Option.some.inj hf, by show va_P D vwCl (w_M cs o h Im9 Vm9) t.heap; rw [ht]; exact hP, va_K.moved hW.alike hK, hD⟩, hS.F ht⟩) hS.2.2 hd
  exact v_M_about hf hx hb hml hown hts in_X10 g_92 g_96 g_19 g_23 g_13 w_owesAll_144 g_135 g_138 g_141 g_148 g_105 hA hP hD hK hret ls hl
def M_person (f : Nat) (x1 : Int32) (x2 : Int32) (I : FI) (V : FV) : Option (Int32 × FI × FV) := nm (va_up I 0 0) (fun I1 => ob1 (M_noOne f x1 I1 V) (fun zr2 => (if zr2 = 0 then (if x2 = 0 then if x1 < 0 ∨ 6 ≤ x1.toNatClampNeg then none else (some (((V 5) x1.toNatClampNeg), I1, V)) else if x2 = 1 then if x1 < 0 ∨ 6 ≤ x1.toNatClampNeg then none else (some (((V 6) x1.toNatClampNeg), I1, V)) else if x2 = 2 then if x1 < 0 ∨ 6 ≤ x1.toNatClampNeg then none else ((if ((V 7) x1.toNatClampNeg) = 0 then some (1, I1, V) else some (0, I1, V))) else if x2 = 3 then if x1 < 0 ∨ 6 ≤ x1.toNatClampNeg then none else ((if ((V 8) x1.toNatClampNeg) = 0 then some (0, I1, V) else some (1, I1, V))) else if x2 = 4 then ob1 (M_owesAll f x1 I1 V) (fun zr3 => some (zr3, I1, V)) else if x2 = 5 then ob1 (M_owedAll f x1 I1 V) (fun zr4 => some (zr4, I1, V)) else if x2 = 6 then ob1 (M_owedAll f x1 I1 V) (fun zr5 => ob1 (M_owesAll f x1 I1 V) (fun zr6 => some (((10000 + zr5) - zr6), I1, V))) else some ((-2), I1, V)) else some ((-1), I1, V))))
abbrev rm_M_person : Room := { frames := 2, cells := 0, slots := 0, locals := 46 }
set_option maxHeartbeats 4000000 in
set_option maxRecDepth 100000 in
theorem v_M_person {l : Launch} {p : Program} {e : Env} {s : State} {m : MethodId} {args : Array Value} {below : List Frame} {meth : Method} {c : Code} {Q : State → Prop} {D : va_G} {cs : Nat → ClassId} {o : Nat} {h : Nat → Nat} {A : Nat → Prop} {I : FI} {V : FV} {x1 : Int32} {x2 : Int32} {f : Nat} {out : Int32 × FI × FV} (hf : M_person f x1 x2 I V = some out) (hx : p.tables.exec = Jvm.exec) (hb : c.code = cX10_person) (hml : c.maxLocals = 3) (hown : s.vm.findClass RX10 = some m.cls) (hts : ∀ w ∈ wsX10_person, w.before args s = true) (in_X10 : ∀ w ∈ u_ws RX10 TX10 38, w ∈ wsX10_person) (g_92 : (Cond.fieldLink RX10 92 "DaysLentModel" "thrown" "I").before args s = true) (w_noOne_151 : CallW rm_M_person s args RX10 RX10 151 yX10_noOne cX10_noOne 2 (some .boolean) wsX10_noOne rm_M_noOne 0 0 1) (g_13 : (Cond.fieldLink RX10 13 "DaysLentModel" "mornings" "[I").before args s = true) (g_16 : (Cond.fieldLink RX10 16 "DaysLentModel" "asks" "[I").before args s = true) (g_19 : (Cond.fieldLink RX10 19 "DaysLentModel" "dead" "[Z").before args s = true) (g_23 : (Cond.fieldLink RX10 23 "DaysLentModel" "broken" "[Z").before args s = true) (w_owesAll_144 : CallW rm_M_person s args RX10 RX10 144 yX10_owesAll cX10_owesAll 4 (some .int) wsX10_owesAll rm_M_owesAll 0 0 1) (w_owedAll_155 : CallW rm_M_person s args RX10 RX10 155 yX10_owedAll cX10_owedAll 4 (some .int) wsX10_owedAll rm_M_owedAll 0 0 1) (hA : ∀ q : Nat, s.heap.size ≤ q → A q) (hP : va_P D vwCl (w_M cs o h I V) s.heap) (hD : va_D A (w_M cs o h I V)) (hK : va_K D vwCl (tyA cs) s) (hret : ∀ (v : Int32) (Im9 : FI) (Vm9 : FV) (H : Heap) (locs : List Loc) (pc : Nat) (ls : Array Slot), some (v, Im9, Vm9) = some out → va_P D vwCl (w_M cs o h Im9 Vm9) H → va_D A (w_M cs o h Im9 Vm9) → va_S A s.heap H locs → decode cX10_person pc = .ok (.ireturn, 1) → W p l e rm_M_person s m args below meth c H locs 0 0 Q (F0 m pc ls [.int v])) : ∀ ls : Array Slot, lv_has ls 3 [(0, .ref o), (1, .int x1), (2, .int x2)] → W p l e rm_M_person s m args below meth c s.heap [] 0 0 Q (F0 m 0 ls []) := by
  intro ls hl
  have hS : va_S A s.heap s.heap [] := va_S.rf
  unfold M_person at hf
  refine lv_aload_n hx hb dX10_person_0 rfl (lv_at hl 0 rfl) ?_
  refine lv_iconst (v := 0) hx hb dX10_person_1 (by decide) ?_
  refine va_put (D := D) (ci := 10) (v := .int 0) (ty := .int) (C := RX10) (T := TX10) (N := 38) hx hb hts in_X10 tyX10 tyX10_ok nmX10 hown hK hP hD hS 0 rfl rfl 0 (by decide) g_92 (fun _ h9 => h9) rfl (by decide +kernel) rfl rfl (Nat.le_of_ble_eq_true rfl) dX10_person_2 (fun H locs hP hD hS => ?_)
  obtain ⟨I1, eI1, hf⟩ := nme hf
  have hP : va_P D vwCl (w_M cs o h I1 V) H := by rw [eI1]; exact hP
  have hD : va_D A (w_M cs o h I1 V) := by rw [eI1]; exact hD
  refine lv_aload_n hx hb dX10_person_5 rfl (lv_at hl 0 rfl) ?_
  refine lv_iload_n hx hb dX10_person_6 rfl (lv_at hl 1 rfl) ?_
  obtain ⟨zr2, qr2, hf⟩ := bd1 hf
  refine vp_callSi (va_Run.run (va_runV (As := [.int x1]) (rest := []) ⟨hx, hb, hml, hown, hts⟩ (c_M_noOne l D cs o h I1 V x1 f zr2 qr2) w_noOne_151 ⟨xR_moved, va_recv hK hP (ci := 10) (q0 := 0) rfl rfl, fun U hU hW => ⟨rfl, by rw [hU]; exact hP, va_K.moved hW.alike hK⟩⟩ rfl rfl hl.1 rfl (lv_room (Nat.le_of_ble_eq_true rfl)) dX10_person_7 ⟨Nat.zero_le _, Nat.zero_le _⟩)) (fun r2 er2 => ?_)
  rw [er2]
  refine lv_if_eq (tgt := 15) hx hb dX10_person_10 (by decide) (fun c10 => ?_) (fun c10 => ?_)
  · replace hf := ip c10 hf
    refine lv_iload_n hx hb dX10_person_15 rfl (lv_at hl 2 rfl) ?_
    by_cases c16_0 : x2 = 0
    · replace hf := ip c16_0 hf
      refine lv_tableIn (tgt := 60) hx hb dX10_person_16 (by rw [c16_0]; decide) (by rw [c16_0]; decide) (by rw [c16_0]; rfl) (by decide) ?_
      refine lv_aload_n hx hb dX10_person_60 rfl (lv_at hl 0 rfl) ?_
      refine va_get (D := D) (ci := 10) (v := .ref (h 5)) (C := RX10) (T := TX10) (N := 38) hx hb hts in_X10 hown hK hP 0 rfl rfl 5 (by decide) g_13 (fun _ h9 => h9) rfl dX10_person_61 ?_
      refine lv_iload_n hx hb dX10_person_64 rfl (lv_at hl 1 rfl) ?_
      obtain ⟨c65, hf⟩ := gd hf
      refine va_iald (f := (V 5)) hx hb hK hP 2 0 rfl rfl c65 dX10_person_65 ?_
      exact hret ((V 5) x1.toNatClampNeg) I1 V _ _ 66 _ hf hP hD hS dX10_person_66
    replace hf := im c16_0 hf
    by_cases c16_1 : x2 = 1
    · replace hf := ip c16_1 hf
      refine lv_tableIn (tgt := 67) hx hb dX10_person_16 (by rw [c16_1]; decide) (by rw [c16_1]; decide) (by rw [c16_1]; rfl) (by decide) ?_
      refine lv_aload_n hx hb dX10_person_67 rfl (lv_at hl 0 rfl) ?_
      refine va_get (D := D) (ci := 10) (v := .ref (h 6)) (C := RX10) (T := TX10) (N := 38) hx hb hts in_X10 hown hK hP 0 rfl rfl 6 (by decide) g_16 (fun _ h9 => h9) rfl dX10_person_68 ?_
      refine lv_iload_n hx hb dX10_person_71 rfl (lv_at hl 1 rfl) ?_
      obtain ⟨c72, hf⟩ := gd hf
      refine va_iald (f := (V 6)) hx hb hK hP 3 0 rfl rfl c72 dX10_person_72 ?_
      exact hret ((V 6) x1.toNatClampNeg) I1 V _ _ 73 _ hf hP hD hS dX10_person_73
    replace hf := im c16_1 hf
    by_cases c16_2 : x2 = 2
    · replace hf := ip c16_2 hf
      refine lv_tableIn (tgt := 74) hx hb dX10_person_16 (by rw [c16_2]; decide) (by rw [c16_2]; decide) (by rw [c16_2]; rfl) (by decide) ?_
      refine lv_aload_n hx hb dX10_person_74 rfl (lv_at hl 0 rfl) ?_
      refine va_get (D := D) (ci := 10) (v := .ref (h 7)) (C := RX10) (T := TX10) (N := 38) hx hb hts in_X10 hown hK hP 0 rfl rfl 7 (by decide) g_19 (fun _ h9 => h9) rfl dX10_person_75 ?_
      refine lv_iload_n hx hb dX10_person_78 rfl (lv_at hl 1 rfl) ?_
      obtain ⟨c79, hf⟩ := gd hf
      refine va_zald (f := (V 7)) hx hb hK hP 4 1 rfl rfl c79 dX10_person_79 ?_
      refine lv_if_eq (tgt := 87) hx hb dX10_person_80 (by decide) (fun c80 => ?_) (fun c80 => ?_)
      · replace hf := ip c80 hf
        refine lv_iconst (v := 1) hx hb dX10_person_87 (by decide) ?_
        exact hret 1 I1 V _ _ 88 _ hf hP hD hS dX10_person_88
      · replace hf := im c80 hf
        refine lv_iconst (v := 0) hx hb dX10_person_83 (by decide) ?_
        refine lv_goto (tgt := 88) hx hb dX10_person_84 (by decide) ?_
        exact hret 0 I1 V _ _ 88 _ hf hP hD hS dX10_person_88
    replace hf := im c16_2 hf
    by_cases c16_3 : x2 = 3
    · replace hf := ip c16_3 hf
      refine lv_tableIn (tgt := 89) hx hb dX10_person_16 (by rw [c16_3]; decide) (by rw [c16_3]; decide) (by rw [c16_3]; rfl) (by decide) ?_
      refine lv_aload_n hx hb dX10_person_89 rfl (lv_at hl 0 rfl) ?_
      refine va_get (D := D) (ci := 10) (v := .ref (h 8)) (C := RX10) (T := TX10) (N := 38) hx hb hts in_X10 hown hK hP 0 rfl rfl 8 (by decide) g_23 (fun _ h9 => h9) rfl dX10_person_90 ?_
      refine lv_iload_n hx hb dX10_person_93 rfl (lv_at hl 1 rfl) ?_
      obtain ⟨c94, hf⟩ := gd hf
      refine va_zald (f := (V 8)) hx hb hK hP 5 1 rfl rfl c94 dX10_person_94 ?_
      refine lv_if_eq (tgt := 102) hx hb dX10_person_95 (by decide) (fun c95 => ?_) (fun c95 => ?_)
      · replace hf := ip c95 hf
        refine lv_iconst (v := 0) hx hb dX10_person_102 (by decide) ?_
        exact hret 0 I1 V _ _ 103 _ hf hP hD hS dX10_person_103
      · replace hf := im c95 hf
        refine lv_iconst (v := 1) hx hb dX10_person_98 (by decide) ?_
        refine lv_goto (tgt := 103) hx hb dX10_person_99 (by decide) ?_
        exact hret 1 I1 V _ _ 103 _ hf hP hD hS dX10_person_103
    replace hf := im c16_3 hf
    by_cases c16_4 : x2 = 4
    · replace hf := ip c16_4 hf
      refine lv_tableIn (tgt := 104) hx hb dX10_person_16 (by rw [c16_4]; decide) (by rw [c16_4]; decide) (by rw [c16_4]; rfl) (by decide) ?_
      refine lv_aload_n hx hb dX10_person_104 rfl (lv_at hl 0 rfl) ?_
      refine lv_iload_n hx hb dX10_person_105 rfl (lv_at hl 1 rfl) ?_
      obtain ⟨zr3, qr3, hf⟩ := bd1 hf
      refine vp_callSi (va_Run.run (va_runV (As := [.int x1]) (rest := []) ⟨hx, hb, hml, hown, hts⟩ (c_M_owesAll l D cs o h I1 V x1 f zr3 qr3) w_owesAll_144 ⟨xR_moved, va_recv hK hP (ci := 10) (q0 := 0) rfl rfl, fun U hU hW => ⟨rfl, by rw [hU]; exact hP, va_K.moved hW.alike hK⟩⟩ rfl rfl hl.1 rfl (lv_room (Nat.le_of_ble_eq_true rfl)) dX10_person_106 ⟨Nat.zero_le _, Nat.zero_le _⟩)) (fun r3 er3 => ?_)
      rw [er3]
      exact hret zr3 I1 V _ _ 109 _ hf hP hD hS dX10_person_109
    replace hf := im c16_4 hf
    by_cases c16_5 : x2 = 5
    · replace hf := ip c16_5 hf
      refine lv_tableIn (tgt := 110) hx hb dX10_person_16 (by rw [c16_5]; decide) (by rw [c16_5]; decide) (by rw [c16_5]; rfl) (by decide) ?_
      refine lv_aload_n hx hb dX10_person_110 rfl (lv_at hl 0 rfl) ?_
      refine lv_iload_n hx hb dX10_person_111 rfl (lv_at hl 1 rfl) ?_
      obtain ⟨zr4, qr4, hf⟩ := bd1 hf
      refine vp_callSi (va_Run.run (va_runV (As := [.int x1]) (rest := []) ⟨hx, hb, hml, hown, hts⟩ (c_M_owedAll l D cs o h I1 V x1 f zr4 qr4) w_owedAll_155 ⟨xR_moved, va_recv hK hP (ci := 10) (q0 := 0) rfl rfl, fun U hU hW => ⟨rfl, by rw [hU]; exact hP, va_K.moved hW.alike hK⟩⟩ rfl rfl hl.1 rfl (lv_room (Nat.le_of_ble_eq_true rfl)) dX10_person_112 ⟨Nat.zero_le _, Nat.zero_le _⟩)) (fun r4 er4 => ?_)
      rw [er4]
      exact hret zr4 I1 V _ _ 115 _ hf hP hD hS dX10_person_115
    replace hf := im c16_5 hf
    by_cases c16_6 : x2 = 6
    · replace hf := ip c16_6 hf
      refine lv_tableIn (tgt := 116) hx hb dX10_person_16 (by rw [c16_6]; decide) (by rw [c16_6]; decide) (by rw [c16_6]; rfl) (by decide) ?_
      refine lv_sipush (v := 10000) hx hb dX10_person_116 (by decide) ?_
      refine lv_aload_n hx hb dX10_person_119 rfl (lv_at hl 0 rfl) ?_
      refine lv_iload_n hx hb dX10_person_120 rfl (lv_at hl 1 rfl) ?_
      obtain ⟨zr5, qr5, hf⟩ := bd1 hf
      refine vp_callSi (va_Run.run (va_runV (As := [.int x1]) (rest := [.int 10000]) ⟨hx, hb, hml, hown, hts⟩ (c_M_owedAll l D cs o h I1 V x1 f zr5 qr5) w_owedAll_155 ⟨xR_moved, va_recv hK hP (ci := 10) (q0 := 0) rfl rfl, fun U hU hW => ⟨rfl, by rw [hU]; exact hP, va_K.moved hW.alike hK⟩⟩ rfl rfl hl.1 rfl (lv_room (Nat.le_of_ble_eq_true rfl)) dX10_person_121 ⟨Nat.zero_le _, Nat.zero_le _⟩)) (fun r5 er5 => ?_)
      rw [er5]
      refine lv_iadd hx hb dX10_person_124 ?_
      refine lv_aload_n hx hb dX10_person_125 rfl (lv_at hl 0 rfl) ?_
      refine lv_iload_n hx hb dX10_person_126 rfl (lv_at hl 1 rfl) ?_
      obtain ⟨zr6, qr6, hf⟩ := bd1 hf
      refine vp_callSi (va_Run.run (va_runV (As := [.int x1]) (rest := [.int (10000 + zr5)]) ⟨hx, hb, hml, hown, hts⟩ (c_M_owesAll l D cs o h I1 V x1 f zr6 qr6) w_owesAll_144 ⟨xR_moved, va_recv hK hP (ci := 10) (q0 := 0) rfl rfl, fun U hU hW => ⟨rfl, by rw [hU]; exact hP, va_K.moved hW.alike hK⟩⟩ rfl rfl hl.1 rfl (lv_room (Nat.le_of_ble_eq_true rfl)) dX10_person_127 ⟨Nat.zero_le _, Nat.zero_le _⟩)) (fun r6 er6 => ?_)
      rw [er6]
      refine lv_isub hx hb dX10_person_130 ?_
      exact hret ((10000 + zr5) - zr6) I1 V _ _ 131 _ hf hP hD hS dX10_person_131
    replace hf := im c16_6 hf
    refine lv_tableOut (tgt := 132) hx hb dX10_person_16 (by have nc16_0 := lv_neT (a := 0) c16_0 rfl; have nc16_1 := lv_neT (a := 1) c16_1 rfl; have nc16_2 := lv_neT (a := 2) c16_2 rfl; have nc16_3 := lv_neT (a := 3) c16_3 rfl; have nc16_4 := lv_neT (a := 4) c16_4 rfl; have nc16_5 := lv_neT (a := 5) c16_5 rfl; have nc16_6 := lv_neT (a := 6) c16_6 rfl; omega) (by decide) ?_
    refine lv_bipush (v := (-2)) hx hb dX10_person_132 (by decide) ?_
    exact hret (-2) I1 V _ _ 134 _ hf hP hD hS dX10_person_134
  · replace hf := im c10 hf
    refine lv_iconst (v := (-1)) hx hb dX10_person_13 (by decide) ?_
    exact hret (-1) I1 V _ _ 14 _ hf hP hD hS dX10_person_14
set_option maxHeartbeats 4000000 in
set_option maxRecDepth 100000 in
theorem c_M_person (l : Launch) (D : va_G) (cs : Nat → ClassId) (o : Nat) (h : Nat → Nat) (sz : Nat) (I : FI) (V : FV) (x1 : Int32) (x2 : Int32) (f : Nat) (out : Int32 × FI × FV) (hf : M_person f x1 x2 I V = some out) : Met l yX10_person wsX10_person rm_M_person (va_Pc [.ref o, .int x1, .int x2] (xP D cs (w_M cs o h I V) sz)) (va_Qi (fun r u => (r, u) = out) (fun (u : FI × FV) t => xA D cs (va_A (w_M cs o h I V) sz) (w_M cs o h u.1 u.2) t) (va_A (w_M cs o h I V) sz)) 0 0 (va_A (w_M cs o h I V) sz) := by
  refine Met.ofW (cc := cX10_person) (maxL := 3) (ret := (some .int)) (by decide) rfl ?_
  intro p e s m args below meth c s₁ B hml hv
  obtain ⟨ha, hsz, hP, hK, hD0⟩ := hv
  have hx := B.exec
  have hb := B.bytes
  have hr := B.returns
  have hts := atoms_spec (ws := wsX10_person) B.pre
  have hown : s.vm.findClass RX10 = some m.cls := findClass_of_methodNamed B.named
  have hlocks := B.notSynchronized
  have in_X10 : ∀ w ∈ u_ws RX10 TX10 38, w ∈ wsX10_person := fun w h => List.mem_cons_of_mem _ (List.mem_append_right _ h)
  have g_92 := hts (Cond.fieldLink RX10 92 "DaysLentModel" "thrown" "I") (by decide +kernel)
  have w_noOne_151 := cwV (R := rm_M_person) (s := s) (args := args) (rm := rm_M_noOne) (mc := 0) (ms := 0) 1 hts gX10_person_X10_noOne rfl rfl rfl (by decide +kernel) ⟨Nat.le_of_ble_eq_true rfl, Nat.le_of_ble_eq_true rfl⟩
  have g_13 := hts (Cond.fieldLink RX10 13 "DaysLentModel" "mornings" "[I") (by decide +kernel)
  have g_16 := hts (Cond.fieldLink RX10 16 "DaysLentModel" "asks" "[I") (by decide +kernel)
  have g_19 := hts (Cond.fieldLink RX10 19 "DaysLentModel" "dead" "[Z") (by decide +kernel)
  have g_23 := hts (Cond.fieldLink RX10 23 "DaysLentModel" "broken" "[Z") (by decide +kernel)
  have w_owesAll_144 := cwV (R := rm_M_person) (s := s) (args := args) (rm := rm_M_owesAll) (mc := 0) (ms := 0) 1 hts gX10_person_X10_owesAll rfl rfl rfl (by decide +kernel) ⟨Nat.le_of_ble_eq_true rfl, Nat.le_of_ble_eq_true rfl⟩
  have w_owedAll_155 := cwV (R := rm_M_person) (s := s) (args := args) (rm := rm_M_owedAll) (mc := 0) (ms := 0) 1 hts gX10_person_X10_owedAll rfl rfl rfl (by decide +kernel) ⟨Nat.le_of_ble_eq_true rfl, Nat.le_of_ble_eq_true rfl⟩
  subst hsz
  have hD := hD0.self (sz := s.heap.size)
  generalize hAe : va_A (w_M cs o h I V) s.heap.size = A at hD ⊢
  have hA : ∀ q : Nat, s.heap.size ≤ q → A q := fun q h => by rw [← hAe]; exact Or.inr h
  have hl := lv_entry ([.ref o, .int x1, .int x2]) (n := 3) (Nat.le_of_ble_eq_true rfl)
  rw [show entryFrame m args 3 = entryFrame m ([.ref o, .int x1, .int x2] : List Value).toArray 3 from by rw [ha], lg_entry_eq]
  generalize (lg_sl ([.ref o, .int x1, .int x2]) ++ List.replicate (3 - (lg_sl ([.ref o, .int x1, .int x2])).length) Slot.unset).toArray = ls at hl ⊢
  generalize hQ : MQ below (va_Qi (fun r u => (r, u) = out) (fun (u : FI × FV) t => xA D cs A (w_M cs o h u.1 u.2) t) A) args s 0 0 A = Q
  have hret : ∀ (v : Int32) (Im9 : FI) (Vm9 : FV) (H : Heap) (locs : List Loc) (pc : Nat) (ls : Array Slot), some (v, Im9, Vm9) = some out → va_P D vwCl (w_M cs o h Im9 Vm9) H → va_D A (w_M cs o h Im9 Vm9) → va_S A s.heap H locs → decode cX10_person pc = .ok (.ireturn, 1) → W p l e rm_M_person s m args below meth c H locs 0 0 Q (F0 m pc ls [.int v]) := by
    intro v Im9 Vm9 H locs pc ls hf hP hD hS hd
    rw [← hQ]
    exact W.iret (v := v) hx hb hr (fun t ht hW => ⟨⟨v, (Im9, Vm9), rfl, Option.some.inj hf, by show va_P D vwCl (w_M cs o h Im9 Vm9) t.heap; rw [ht]; exact hP, va_K.moved hW.alike hK, hD⟩, hS.F ht⟩) hS.2.2 hd
  exact v_M_person hf hx hb hml hown hts in_X10 g_92 w_noOne_151 g_13 g_16 g_19 g_23 w_owesAll_144 w_owedAll_155 hA hP hD hK hret ls hl
def M_debt (f : Nat) (x1 : Int32) (x2 : Int32) (I : FI) (V : FV) : Option (Int32 × FI × FV) := nm (va_up I 0 0) (fun I1 => ob1 (M_in f (x1.toInt64) 0 (((I1 9) - 1).toInt64)) (fun zr2 => (if zr2 = 0 then some ((-1), I1, V) else (if x2 = 0 then if x1 < 0 ∨ 12 ≤ x1.toNatClampNeg then none else (some (((V 10) x1.toNatClampNeg), I1, V)) else (if x2 = 1 then if x1 < 0 ∨ 12 ≤ x1.toNatClampNeg then none else (some (((V 11) x1.toNatClampNeg), I1, V)) else (if x2 = 2 then if x1 < 0 ∨ 12 ≤ x1.toNatClampNeg then none else (some (((V 12) x1.toNatClampNeg), I1, V)) else (if x2 = 3 then if x1 < 0 ∨ 12 ≤ x1.toNatClampNeg then none else (some (((V 13) x1.toNatClampNeg), I1, V)) else some ((-2), I1, V))))))))
abbrev rm_M_debt : Room := { frames := 1, cells := 0, slots := 0, locals := 25 }
set_option maxHeartbeats 4000000 in
set_option maxRecDepth 100000 in
theorem v_M_debt {l : Launch} {p : Program} {e : Env} {s : State} {m : MethodId} {args : Array Value} {below : List Frame} {meth : Method} {c : Code} {Q : State → Prop} {D : va_G} {cs : Nat → ClassId} {o : Nat} {h : Nat → Nat} {A : Nat → Prop} {I : FI} {V : FV} {x1 : Int32} {x2 : Int32} {f : Nat} {out : Int32 × FI × FV} (hf : M_debt f x1 x2 I V = some out) (hx : p.tables.exec = Jvm.exec) (hb : c.code = cX10_debt) (hml : c.maxLocals = 3) (hown : s.vm.findClass RX10 = some m.cls) (hts : ∀ w ∈ wsX10_debt, w.before args s = true) (in_X10 : ∀ w ∈ u_ws RX10 TX10 38, w ∈ wsX10_debt) (g_92 : (Cond.fieldLink RX10 92 "DaysLentModel" "thrown" "I").before args s = true) (g_135 : (Cond.fieldLink RX10 135 "DaysLentModel" "debts" "I").before args s = true) (w_in_99 : CallB rm_M_debt s args RX10 99 yX10_in cX10_in 6 (some .boolean) wsX10_in rm_M_in 0 0 3 ∧ (Cond.static yX10_in).before args s = true) (g_26 : (Cond.fieldLink RX10 26 "DaysLentModel" "owed" "[I").before args s = true) (g_29 : (Cond.fieldLink RX10 29 "DaysLentModel" "owes" "[I").before args s = true) (g_32 : (Cond.fieldLink RX10 32 "DaysLentModel" "much" "[I").before args s = true) (g_35 : (Cond.fieldLink RX10 35 "DaysLentModel" "due" "[I").before args s = true) (hA : ∀ q : Nat, s.heap.size ≤ q → A q) (hP : va_P D vwCl (w_M cs o h I V) s.heap) (hD : va_D A (w_M cs o h I V)) (hK : va_K D vwCl (tyA cs) s) (hret : ∀ (v : Int32) (Im9 : FI) (Vm9 : FV) (H : Heap) (locs : List Loc) (pc : Nat) (ls : Array Slot), some (v, Im9, Vm9) = some out → va_P D vwCl (w_M cs o h Im9 Vm9) H → va_D A (w_M cs o h Im9 Vm9) → va_S A s.heap H locs → decode cX10_debt pc = .ok (.ireturn, 1) → W p l e rm_M_debt s m args below meth c H locs 0 0 Q (F0 m pc ls [.int v])) : ∀ ls : Array Slot, lv_has ls 3 [(0, .ref o), (1, .int x1), (2, .int x2)] → W p l e rm_M_debt s m args below meth c s.heap [] 0 0 Q (F0 m 0 ls []) := by
  intro ls hl
  have hS : va_S A s.heap s.heap [] := va_S.rf
  unfold M_debt at hf
  refine lv_aload_n hx hb dX10_debt_0 rfl (lv_at hl 0 rfl) ?_
  refine lv_iconst (v := 0) hx hb dX10_debt_1 (by decide) ?_
  refine va_put (D := D) (ci := 10) (v := .int 0) (ty := .int) (C := RX10) (T := TX10) (N := 38) hx hb hts in_X10 tyX10 tyX10_ok nmX10 hown hK hP hD hS 0 rfl rfl 0 (by decide) g_92 (fun _ h9 => h9) rfl (by decide +kernel) rfl rfl (Nat.le_of_ble_eq_true rfl) dX10_debt_2 (fun H locs hP hD hS => ?_)
  obtain ⟨I1, eI1, hf⟩ := nme hf
  have hP : va_P D vwCl (w_M cs o h I1 V) H := by rw [eI1]; exact hP
  have hD : va_D A (w_M cs o h I1 V) := by rw [eI1]; exact hD
  refine lv_iload_n hx hb dX10_debt_5 rfl (lv_at hl 1 rfl) ?_
  refine lv_i2l (v := x1.toInt64) hx hb dX10_debt_6 rfl ?_
  refine lv_lconst (v := 0) hx hb dX10_debt_7 (by decide) ?_
  refine lv_aload_n hx hb dX10_debt_8 rfl (lv_at hl 0 rfl) ?_
  refine va_get (D := D) (ci := 10) (v := .int (I1 9)) (C := RX10) (T := TX10) (N := 38) hx hb hts in_X10 hown hK hP 0 rfl rfl 9 (by decide) g_135 (fun _ h9 => h9) rfl dX10_debt_9 ?_
  refine lv_iconst (v := 1) hx hb dX10_debt_12 (by decide) ?_
  refine lv_isub hx hb dX10_debt_13 ?_
  refine lv_i2l (v := ((I1 9) - 1).toInt64) hx hb dX10_debt_14 rfl ?_
  obtain ⟨zr2, qr2, hf⟩ := bd1 hf
  refine vp_callSi (va_Run.run (va_runS (As := [.long (x1.toInt64), .long 0, .long (((I1 9) - 1).toInt64)]) (rest := []) ⟨hx, hb, hml, hown, hts⟩ (c_M_in l (x1.toInt64) 0 (((I1 9) - 1).toInt64) f zr2 qr2) w_in_99 ⟨fun a U g mk q => q, fun U hU hW => ⟨rfl, trivial⟩⟩ rfl rfl hl.1 rfl (lv_room (Nat.le_of_ble_eq_true rfl)) dX10_debt_15 ⟨Nat.zero_le _, Nat.zero_le _⟩)) (fun r2 er2 => ?_)
  rw [er2]
  refine lv_if_ne (tgt := 23) hx hb dX10_debt_18 (by decide) (fun c18 => ?_) (fun c18 => ?_)
  · replace hf := im c18 hf
    refine lv_iload_n hx hb dX10_debt_23 rfl (lv_at hl 2 rfl) ?_
    refine lv_if_ne (tgt := 36) hx hb dX10_debt_24 (by decide) (fun c24 => ?_) (fun c24 => ?_)
    · replace hf := im c24 hf
      refine lv_iload_n hx hb dX10_debt_36 rfl (lv_at hl 2 rfl) ?_
      refine lv_iconst (v := 1) hx hb dX10_debt_37 (by decide) ?_
      refine lv_icmp_ne (tgt := 50) hx hb dX10_debt_38 (by decide) (fun c38 => ?_) (fun c38 => ?_)
      · replace hf := im c38 hf
        refine lv_iload_n hx hb dX10_debt_50 rfl (lv_at hl 2 rfl) ?_
        refine lv_iconst (v := 2) hx hb dX10_debt_51 (by decide) ?_
        refine lv_icmp_ne (tgt := 64) hx hb dX10_debt_52 (by decide) (fun c52 => ?_) (fun c52 => ?_)
        · replace hf := im c52 hf
          refine lv_iload_n hx hb dX10_debt_64 rfl (lv_at hl 2 rfl) ?_
          refine lv_iconst (v := 3) hx hb dX10_debt_65 (by decide) ?_
          refine lv_icmp_ne (tgt := 78) hx hb dX10_debt_66 (by decide) (fun c66 => ?_) (fun c66 => ?_)
          · replace hf := im c66 hf
            refine lv_bipush (v := (-2)) hx hb dX10_debt_78 (by decide) ?_
            exact hret (-2) I1 V _ _ 80 _ hf hP hD hS dX10_debt_80
          · replace hf := ip c66 hf
            refine lv_aload_n hx hb dX10_debt_69 rfl (lv_at hl 0 rfl) ?_
            refine va_get (D := D) (ci := 10) (v := .ref (h 13)) (C := RX10) (T := TX10) (N := 38) hx hb hts in_X10 hown hK hP 0 rfl rfl 13 (by decide) g_35 (fun _ h9 => h9) rfl dX10_debt_70 ?_
            refine lv_iload_n hx hb dX10_debt_73 rfl (lv_at hl 1 rfl) ?_
            obtain ⟨c74, hf⟩ := gd hf
            refine va_iald (f := (V 13)) hx hb hK hP 9 0 rfl rfl c74 dX10_debt_74 ?_
            refine lv_goto (tgt := 80) hx hb dX10_debt_75 (by decide) ?_
            exact hret ((V 13) x1.toNatClampNeg) I1 V _ _ 80 _ hf hP hD hS dX10_debt_80
        · replace hf := ip c52 hf
          refine lv_aload_n hx hb dX10_debt_55 rfl (lv_at hl 0 rfl) ?_
          refine va_get (D := D) (ci := 10) (v := .ref (h 12)) (C := RX10) (T := TX10) (N := 38) hx hb hts in_X10 hown hK hP 0 rfl rfl 12 (by decide) g_32 (fun _ h9 => h9) rfl dX10_debt_56 ?_
          refine lv_iload_n hx hb dX10_debt_59 rfl (lv_at hl 1 rfl) ?_
          obtain ⟨c60, hf⟩ := gd hf
          refine va_iald (f := (V 12)) hx hb hK hP 8 0 rfl rfl c60 dX10_debt_60 ?_
          refine lv_goto (tgt := 80) hx hb dX10_debt_61 (by decide) ?_
          exact hret ((V 12) x1.toNatClampNeg) I1 V _ _ 80 _ hf hP hD hS dX10_debt_80
      · replace hf := ip c38 hf
        refine lv_aload_n hx hb dX10_debt_41 rfl (lv_at hl 0 rfl) ?_
        refine va_get (D := D) (ci := 10) (v := .ref (h 11)) (C := RX10) (T := TX10) (N := 38) hx hb hts in_X10 hown hK hP 0 rfl rfl 11 (by decide) g_29 (fun _ h9 => h9) rfl dX10_debt_42 ?_
        refine lv_iload_n hx hb dX10_debt_45 rfl (lv_at hl 1 rfl) ?_
        obtain ⟨c46, hf⟩ := gd hf
        refine va_iald (f := (V 11)) hx hb hK hP 7 0 rfl rfl c46 dX10_debt_46 ?_
        refine lv_goto (tgt := 80) hx hb dX10_debt_47 (by decide) ?_
        exact hret ((V 11) x1.toNatClampNeg) I1 V _ _ 80 _ hf hP hD hS dX10_debt_80
    · replace hf := ip c24 hf
      refine lv_aload_n hx hb dX10_debt_27 rfl (lv_at hl 0 rfl) ?_
      refine va_get (D := D) (ci := 10) (v := .ref (h 10)) (C := RX10) (T := TX10) (N := 38) hx hb hts in_X10 hown hK hP 0 rfl rfl 10 (by decide) g_26 (fun _ h9 => h9) rfl dX10_debt_28 ?_
      refine lv_iload_n hx hb dX10_debt_31 rfl (lv_at hl 1 rfl) ?_
      obtain ⟨c32, hf⟩ := gd hf
      refine va_iald (f := (V 10)) hx hb hK hP 6 0 rfl rfl c32 dX10_debt_32 ?_
      refine lv_goto (tgt := 80) hx hb dX10_debt_33 (by decide) ?_
      exact hret ((V 10) x1.toNatClampNeg) I1 V _ _ 80 _ hf hP hD hS dX10_debt_80
  · replace hf := ip c18 hf
    refine lv_iconst (v := (-1)) hx hb dX10_debt_21 (by decide) ?_
    exact hret (-1) I1 V _ _ 22 _ hf hP hD hS dX10_debt_22
set_option maxHeartbeats 4000000 in
set_option maxRecDepth 100000 in
theorem c_M_debt (l : Launch) (D : va_G) (cs : Nat → ClassId) (o : Nat) (h : Nat → Nat) (sz : Nat) (I : FI) (V : FV) (x1 : Int32) (x2 : Int32) (f : Nat) (out : Int32 × FI × FV) (hf : M_debt f x1 x2 I V = some out) : Met l yX10_debt wsX10_debt rm_M_debt (va_Pc [.ref o, .int x1, .int x2] (xP D cs (w_M cs o h I V) sz)) (va_Qi (fun r u => (r, u) = out) (fun (u : FI × FV) t => xA D cs (va_A (w_M cs o h I V) sz) (w_M cs o h u.1 u.2) t) (va_A (w_M cs o h I V) sz)) 0 0 (va_A (w_M cs o h I V) sz) := by
  refine Met.ofW (cc := cX10_debt) (maxL := 3) (ret := (some .int)) (by decide) rfl ?_
  intro p e s m args below meth c s₁ B hml hv
  obtain ⟨ha, hsz, hP, hK, hD0⟩ := hv
  have hx := B.exec
  have hb := B.bytes
  have hr := B.returns
  have hts := atoms_spec (ws := wsX10_debt) B.pre
  have hown : s.vm.findClass RX10 = some m.cls := findClass_of_methodNamed B.named
  have hlocks := B.notSynchronized
  have in_X10 : ∀ w ∈ u_ws RX10 TX10 38, w ∈ wsX10_debt := fun w h => List.mem_cons_of_mem _ (List.mem_append_right _ h)
  have g_92 := hts (Cond.fieldLink RX10 92 "DaysLentModel" "thrown" "I") (by decide +kernel)
  have g_135 := hts (Cond.fieldLink RX10 135 "DaysLentModel" "debts" "I") (by decide +kernel)
  have w_in_99 := va_cwS (R := rm_M_debt) (s := s) (args := args) (rm := rm_M_in) (mc := 0) (ms := 0) 3 hts gX10_debt_X10_in rfl rfl rfl (by decide +kernel) ⟨Nat.le_of_ble_eq_true rfl, Nat.le_of_ble_eq_true rfl⟩
  have g_26 := hts (Cond.fieldLink RX10 26 "DaysLentModel" "owed" "[I") (by decide +kernel)
  have g_29 := hts (Cond.fieldLink RX10 29 "DaysLentModel" "owes" "[I") (by decide +kernel)
  have g_32 := hts (Cond.fieldLink RX10 32 "DaysLentModel" "much" "[I") (by decide +kernel)
  have g_35 := hts (Cond.fieldLink RX10 35 "DaysLentModel" "due" "[I") (by decide +kernel)
  subst hsz
  have hD := hD0.self (sz := s.heap.size)
  generalize hAe : va_A (w_M cs o h I V) s.heap.size = A at hD ⊢
  have hA : ∀ q : Nat, s.heap.size ≤ q → A q := fun q h => by rw [← hAe]; exact Or.inr h
  have hl := lv_entry ([.ref o, .int x1, .int x2]) (n := 3) (Nat.le_of_ble_eq_true rfl)
  rw [show entryFrame m args 3 = entryFrame m ([.ref o, .int x1, .int x2] : List Value).toArray 3 from by rw [ha], lg_entry_eq]
  generalize (lg_sl ([.ref o, .int x1, .int x2]) ++ List.replicate (3 - (lg_sl ([.ref o, .int x1, .int x2])).length) Slot.unset).toArray = ls at hl ⊢
  generalize hQ : MQ below (va_Qi (fun r u => (r, u) = out) (fun (u : FI × FV) t => xA D cs A (w_M cs o h u.1 u.2) t) A) args s 0 0 A = Q
  have hret : ∀ (v : Int32) (Im9 : FI) (Vm9 : FV) (H : Heap) (locs : List Loc) (pc : Nat) (ls : Array Slot), some (v, Im9, Vm9) = some out → va_P D vwCl (w_M cs o h Im9 Vm9) H → va_D A (w_M cs o h Im9 Vm9) → va_S A s.heap H locs → decode cX10_debt pc = .ok (.ireturn, 1) → W p l e rm_M_debt s m args below meth c H locs 0 0 Q (F0 m pc ls [.int v]) := by
    intro v Im9 Vm9 H locs pc ls hf hP hD hS hd
    rw [← hQ]
    exact W.iret (v := v) hx hb hr (fun t ht hW => ⟨⟨v, (Im9, Vm9), rfl, Option.some.inj hf, by show va_P D vwCl (w_M cs o h Im9 Vm9) t.heap; rw [ht]; exact hP, va_K.moved hW.alike hK, hD⟩, hS.F ht⟩) hS.2.2 hd
  exact v_M_debt hf hx hb hml hown hts in_X10 g_92 g_135 w_in_99 g_26 g_29 g_32 g_35 hA hP hD hK hret ls hl
def M_ask (f : Nat) (x1 : Int32) (x2 : Int32) (I : FI) (V : FV) : Option (Int32 × FI × FV) := nm (va_up I 0 0) (fun I1 => ob1 (M_noOne f x1 I1 V) (fun zr2 => (if zr2 = 0 then ob1 (M_in f (x2.toInt64) 0 9) (fun zr3 => (if zr3 = 0 then some ((-2), I1, V) else if x1 < 0 ∨ 6 ≤ x1.toNatClampNeg then none else (nm ((V 6) x1.toNatClampNeg) (fun y4 => if x1 < 0 ∨ 6 ≤ x1.toNatClampNeg then none else (nm (va_up V 6 (upd (V 6) x1.toNatClampNeg x2)) (fun V5 => some (y4, I1, V5))))))) else some ((-1), I1, V))))
abbrev rm_M_ask : Room := { frames := 2, cells := 0, slots := 0, locals := 46 }
set_option maxHeartbeats 4000000 in
set_option maxRecDepth 100000 in
theorem v_M_ask {l : Launch} {p : Program} {e : Env} {s : State} {m : MethodId} {args : Array Value} {below : List Frame} {meth : Method} {c : Code} {Q : State → Prop} {D : va_G} {cs : Nat → ClassId} {o : Nat} {h : Nat → Nat} {A : Nat → Prop} {I : FI} {V : FV} {x1 : Int32} {x2 : Int32} {f : Nat} {out : Int32 × FI × FV} (hf : M_ask f x1 x2 I V = some out) (hx : p.tables.exec = Jvm.exec) (hb : c.code = cX10_ask) (hml : c.maxLocals = 4) (hown : s.vm.findClass RX10 = some m.cls) (hts : ∀ w ∈ wsX10_ask, w.before args s = true) (in_X10 : ∀ w ∈ u_ws RX10 TX10 38, w ∈ wsX10_ask) (g_92 : (Cond.fieldLink RX10 92 "DaysLentModel" "thrown" "I").before args s = true) (w_noOne_151 : CallW rm_M_ask s args RX10 RX10 151 yX10_noOne cX10_noOne 2 (some .boolean) wsX10_noOne rm_M_noOne 0 0 1) (k_158 : (Cond.constantLong RX10 158 (9)).before args s = true) (w_in_99 : CallB rm_M_ask s args RX10 99 yX10_in cX10_in 6 (some .boolean) wsX10_in rm_M_in 0 0 3 ∧ (Cond.static yX10_in).before args s = true) (g_16 : (Cond.fieldLink RX10 16 "DaysLentModel" "asks" "[I").before args s = true) (hA : ∀ q : Nat, s.heap.size ≤ q → A q) (hP : va_P D vwCl (w_M cs o h I V) s.heap) (hD : va_D A (w_M cs o h I V)) (hK : va_K D vwCl (tyA cs) s) (hret : ∀ (v : Int32) (Im9 : FI) (Vm9 : FV) (H : Heap) (locs : List Loc) (pc : Nat) (ls : Array Slot), some (v, Im9, Vm9) = some out → va_P D vwCl (w_M cs o h Im9 Vm9) H → va_D A (w_M cs o h Im9 Vm9) → va_S A s.heap H locs → decode cX10_ask pc = .ok (.ireturn, 1) → W p l e rm_M_ask s m args below meth c H locs 0 0 Q (F0 m pc ls [.int v])) : ∀ ls : Array Slot, lv_has ls 4 [(0, .ref o), (1, .int x1), (2, .int x2)] → W p l e rm_M_ask s m args below meth c s.heap [] 0 0 Q (F0 m 0 ls []) := by
  intro ls hl
  have hS : va_S A s.heap s.heap [] := va_S.rf
  unfold M_ask at hf
  refine lv_aload_n hx hb dX10_ask_0 rfl (lv_at hl 0 rfl) ?_
  refine lv_iconst (v := 0) hx hb dX10_ask_1 (by decide) ?_
  refine va_put (D := D) (ci := 10) (v := .int 0) (ty := .int) (C := RX10) (T := TX10) (N := 38) hx hb hts in_X10 tyX10 tyX10_ok nmX10 hown hK hP hD hS 0 rfl rfl 0 (by decide) g_92 (fun _ h9 => h9) rfl (by decide +kernel) rfl rfl (Nat.le_of_ble_eq_true rfl) dX10_ask_2 (fun H locs hP hD hS => ?_)
  obtain ⟨I1, eI1, hf⟩ := nme hf
  have hP : va_P D vwCl (w_M cs o h I1 V) H := by rw [eI1]; exact hP
  have hD : va_D A (w_M cs o h I1 V) := by rw [eI1]; exact hD
  refine lv_aload_n hx hb dX10_ask_5 rfl (lv_at hl 0 rfl) ?_
  refine lv_iload_n hx hb dX10_ask_6 rfl (lv_at hl 1 rfl) ?_
  obtain ⟨zr2, qr2, hf⟩ := bd1 hf
  refine vp_callSi (va_Run.run (va_runV (As := [.int x1]) (rest := []) ⟨hx, hb, hml, hown, hts⟩ (c_M_noOne l D cs o h I1 V x1 f zr2 qr2) w_noOne_151 ⟨xR_moved, va_recv hK hP (ci := 10) (q0 := 0) rfl rfl, fun U hU hW => ⟨rfl, by rw [hU]; exact hP, va_K.moved hW.alike hK⟩⟩ rfl rfl hl.1 rfl (lv_room (Nat.le_of_ble_eq_true rfl)) dX10_ask_7 ⟨Nat.zero_le _, Nat.zero_le _⟩)) (fun r2 er2 => ?_)
  rw [er2]
  refine lv_if_eq (tgt := 15) hx hb dX10_ask_10 (by decide) (fun c10 => ?_) (fun c10 => ?_)
  · replace hf := ip c10 hf
    refine lv_iload_n hx hb dX10_ask_15 rfl (lv_at hl 2 rfl) ?_
    refine lv_i2l (v := x2.toInt64) hx hb dX10_ask_16 rfl ?_
    refine lv_lconst (v := 0) hx hb dX10_ask_17 (by decide) ?_
    refine lv_ldc2 (v := 9) hx hb hown k_158 dX10_ask_18 ?_
    obtain ⟨zr3, qr3, hf⟩ := bd1 hf
    refine vp_callSi (va_Run.run (va_runS (As := [.long (x2.toInt64), .long 0, .long 9]) (rest := []) ⟨hx, hb, hml, hown, hts⟩ (c_M_in l (x2.toInt64) 0 9 f zr3 qr3) w_in_99 ⟨fun a U g mk q => q, fun U hU hW => ⟨rfl, trivial⟩⟩ rfl rfl hl.1 rfl (lv_room (Nat.le_of_ble_eq_true rfl)) dX10_ask_21 ⟨Nat.zero_le _, Nat.zero_le _⟩)) (fun r3 er3 => ?_)
    rw [er3]
    refine lv_if_ne (tgt := 30) hx hb dX10_ask_24 (by decide) (fun c24 => ?_) (fun c24 => ?_)
    · replace hf := im c24 hf
      refine lv_aload_n hx hb dX10_ask_30 rfl (lv_at hl 0 rfl) ?_
      refine va_get (D := D) (ci := 10) (v := .ref (h 6)) (C := RX10) (T := TX10) (N := 38) hx hb hts in_X10 hown hK hP 0 rfl rfl 6 (by decide) g_16 (fun _ h9 => h9) rfl dX10_ask_31 ?_
      refine lv_iload_n hx hb dX10_ask_34 rfl (lv_at hl 1 rfl) ?_
      obtain ⟨c35, hf⟩ := gd hf
      refine va_iald (f := (V 6)) hx hb hK hP 3 0 rfl rfl c35 dX10_ask_35 ?_
      refine lv_topi (fun y4 ey4 => ?_)
      replace hf := nmd hf ey4
      refine lv_istore_n (lv' := [(3, .int y4), (0, .ref o), (1, .int x1), (2, .int x2)]) hx hb dX10_ask_36 rfl hl (by decide) rfl (fun ls hl => ?_)
      refine lv_aload_n hx hb dX10_ask_37 rfl (lv_at hl 1 rfl) ?_
      refine va_get (D := D) (ci := 10) (v := .ref (h 6)) (C := RX10) (T := TX10) (N := 38) hx hb hts in_X10 hown hK hP 0 rfl rfl 6 (by decide) g_16 (fun _ h9 => h9) rfl dX10_ask_38 ?_
      refine lv_iload_n hx hb dX10_ask_41 rfl (lv_at hl 2 rfl) ?_
      refine lv_iload_n hx hb dX10_ask_42 rfl (lv_at hl 3 rfl) ?_
      obtain ⟨c43, hf⟩ := gd hf
      refine va_iast (f := (V 6)) hx hb hK hP hD hS 3 0 rfl rfl c43 dX10_ask_43 (fun H locs hP hD hS => ?_)
      obtain ⟨V5, eV5, hf⟩ := nme hf
      have hP : va_P D vwCl (w_M cs o h I1 V5) H := by rw [eV5]; exact hP
      have hD : va_D A (w_M cs o h I1 V5) := by rw [eV5]; exact hD
      refine lv_iload_n hx hb dX10_ask_44 rfl (lv_at hl 0 rfl) ?_
      exact hret y4 I1 V5 _ _ 45 _ hf hP hD hS dX10_ask_45
    · replace hf := ip c24 hf
      refine lv_bipush (v := (-2)) hx hb dX10_ask_27 (by decide) ?_
      exact hret (-2) I1 V _ _ 29 _ hf hP hD hS dX10_ask_29
  · replace hf := im c10 hf
    refine lv_iconst (v := (-1)) hx hb dX10_ask_13 (by decide) ?_
    exact hret (-1) I1 V _ _ 14 _ hf hP hD hS dX10_ask_14
set_option maxHeartbeats 4000000 in
set_option maxRecDepth 100000 in
theorem c_M_ask (l : Launch) (D : va_G) (cs : Nat → ClassId) (o : Nat) (h : Nat → Nat) (sz : Nat) (I : FI) (V : FV) (x1 : Int32) (x2 : Int32) (f : Nat) (out : Int32 × FI × FV) (hf : M_ask f x1 x2 I V = some out) : Met l yX10_ask wsX10_ask rm_M_ask (va_Pc [.ref o, .int x1, .int x2] (xP D cs (w_M cs o h I V) sz)) (va_Qi (fun r u => (r, u) = out) (fun (u : FI × FV) t => xA D cs (va_A (w_M cs o h I V) sz) (w_M cs o h u.1 u.2) t) (va_A (w_M cs o h I V) sz)) 0 0 (va_A (w_M cs o h I V) sz) := by
  refine Met.ofW (cc := cX10_ask) (maxL := 4) (ret := (some .int)) (by decide) rfl ?_
  intro p e s m args below meth c s₁ B hml hv
  obtain ⟨ha, hsz, hP, hK, hD0⟩ := hv
  have hx := B.exec
  have hb := B.bytes
  have hr := B.returns
  have hts := atoms_spec (ws := wsX10_ask) B.pre
  have hown : s.vm.findClass RX10 = some m.cls := findClass_of_methodNamed B.named
  have hlocks := B.notSynchronized
  have in_X10 : ∀ w ∈ u_ws RX10 TX10 38, w ∈ wsX10_ask := fun w h => List.mem_cons_of_mem _ (List.mem_append_right _ h)
  have g_92 := hts (Cond.fieldLink RX10 92 "DaysLentModel" "thrown" "I") (by decide +kernel)
  have w_noOne_151 := cwV (R := rm_M_ask) (s := s) (args := args) (rm := rm_M_noOne) (mc := 0) (ms := 0) 1 hts gX10_ask_X10_noOne rfl rfl rfl (by decide +kernel) ⟨Nat.le_of_ble_eq_true rfl, Nat.le_of_ble_eq_true rfl⟩
  have k_158 := hts (Cond.constantLong RX10 158 (9)) (by decide +kernel)
  have w_in_99 := va_cwS (R := rm_M_ask) (s := s) (args := args) (rm := rm_M_in) (mc := 0) (ms := 0) 3 hts gX10_ask_X10_in rfl rfl rfl (by decide +kernel) ⟨Nat.le_of_ble_eq_true rfl, Nat.le_of_ble_eq_true rfl⟩
  have g_16 := hts (Cond.fieldLink RX10 16 "DaysLentModel" "asks" "[I") (by decide +kernel)
  subst hsz
  have hD := hD0.self (sz := s.heap.size)
  generalize hAe : va_A (w_M cs o h I V) s.heap.size = A at hD ⊢
  have hA : ∀ q : Nat, s.heap.size ≤ q → A q := fun q h => by rw [← hAe]; exact Or.inr h
  have hl := lv_entry ([.ref o, .int x1, .int x2]) (n := 4) (Nat.le_of_ble_eq_true rfl)
  rw [show entryFrame m args 4 = entryFrame m ([.ref o, .int x1, .int x2] : List Value).toArray 4 from by rw [ha], lg_entry_eq]
  generalize (lg_sl ([.ref o, .int x1, .int x2]) ++ List.replicate (4 - (lg_sl ([.ref o, .int x1, .int x2])).length) Slot.unset).toArray = ls at hl ⊢
  generalize hQ : MQ below (va_Qi (fun r u => (r, u) = out) (fun (u : FI × FV) t => xA D cs A (w_M cs o h u.1 u.2) t) A) args s 0 0 A = Q
  have hret : ∀ (v : Int32) (Im9 : FI) (Vm9 : FV) (H : Heap) (locs : List Loc) (pc : Nat) (ls : Array Slot), some (v, Im9, Vm9) = some out → va_P D vwCl (w_M cs o h Im9 Vm9) H → va_D A (w_M cs o h Im9 Vm9) → va_S A s.heap H locs → decode cX10_ask pc = .ok (.ireturn, 1) → W p l e rm_M_ask s m args below meth c H locs 0 0 Q (F0 m pc ls [.int v]) := by
    intro v Im9 Vm9 H locs pc ls hf hP hD hS hd
    rw [← hQ]
    exact W.iret (v := v) hx hb hr (fun t ht hW => ⟨⟨v, (Im9, Vm9), rfl, Option.some.inj hf, by show va_P D vwCl (w_M cs o h Im9 Vm9) t.heap; rw [ht]; exact hP, va_K.moved hW.alike hK, hD⟩, hS.F ht⟩) hS.2.2 hd
  exact v_M_ask hf hx hb hml hown hts in_X10 g_92 w_noOne_151 k_158 w_in_99 g_16 hA hP hD hK hret ls hl
