/-! ===== constructors that make objects ===== -/
theorem flat_snoc (bs : List va_W) (c : va_W) : bs.flatten ++ c = (bs ++ [c]).flatten := by simp
def va_AOA (ty : FieldType) (U : State) : Prop := (Cond.arrayOver (.array ty)).before #[] U = true
theorem va_AOA.use {ty : FieldType} {A : Array Value} {U : State} (h : va_AOA ty U) : (Cond.arrayOver (.array ty)).before A U = true := h
theorem va_AOA.of {ty : FieldType} {A : Array Value} {U : State} (h : (Cond.arrayOver (.array ty)).before A U = true) : va_AOA ty U := h
theorem va_AOA.moved {ty : FieldType} {u U : State} (hvm : u.vm.Alike U.vm) (h : va_AOA ty u) : va_AOA ty U := by
  unfold va_AOA Cond.before Cond.holds at h ⊢
  simp only [Cond.value, beq_iff_eq] at h ⊢
  cases hc : u.vm.findClass (FieldType.array ty).toString with
  | none => simp [hc] at h
  | some comp =>
    simp only [hc, Option.bind_some, Option.bind_eq_some_iff, Option.map_eq_some_iff] at h
    obtain ⟨c, hi, k, hk, hb⟩ := h
    obtain ⟨k', hk', he⟩ := hvm.2.2 _ _ hk
    have hi' : (U.vm.classes.findIdx? fun (x : Class) => match x.kind with | .array component _ => component == comp | _ => false) = some c := by
      refine (va_idx_bare U.vm comp).symm.trans ?_
      first | rw [hvm.bare_eq] | rw [← hvm.bare_eq]
      exact (va_idx_bare u.vm comp).trans hi
    have hkind : k'.kind = k.kind := by rw [he]
    have f1 : U.vm.findClass (FieldType.array ty).toString = some comp := by rw [hvm.findClass]; exact hc
    simp only [f1, Option.bind_some, Option.bind_eq_some_iff, Option.map_eq_some_iff]
    refine ⟨c, hi', k', hk', ?_⟩
    rw [hkind, hvm.findClass]
    exact hb
theorem pool_push (cs : Nat → ClassId) (la : Nat → Nat) (lh : Nat → Nat → Nat) (i q : Nat) (h : Nat → Nat) : (w_Led cs q h (fun _ => 0) (fun _ _ => 0) ++ w_Pool cs la lh (fun _ _ => 0) (fun _ _ _ => 0) i).Perm (w_Pool cs (va_up la i q) (va_up lh i h) (fun _ _ => 0) (fun _ _ _ => 0) (i + 1)) := by
  have e : w_Pool cs (va_up la i q) (va_up lh i h) (fun _ _ => 0) (fun _ _ _ => 0) (i + 1) = w_Pool cs la lh (fun _ _ => 0) (fun _ _ _ => 0) i ++ w_Led cs q h (fun _ => 0) (fun _ _ => 0) := by
    unfold w_Pool
    rw [List.range_succ, List.flatMap_append, List.flatMap_cons, List.flatMap_nil, List.append_nil, va_up_self, va_up_self]
    refine congrArg (· ++ _) ?_
    rw [List.flatMap_def, List.flatMap_def]
    refine congrArg List.flatten (List.map_congr_left fun j hj => ?_)
    have hne : j ≠ i := Nat.ne_of_lt (List.mem_range.mp hj)
    rw [va_up_ne _ _ hne, va_up_ne _ _ hne]
  rw [e]
  exact List.perm_append_comm
theorem pool_fill (la : Nat → Nat) (i q : Nat) : va_up (fun j => if j < i then some (la j) else none) i (some q) = fun j => if j < i + 1 then some (va_up la i q j) else none := by
  funext j
  by_cases e : j = i
  · subst e
    rw [va_up_self, if_pos (Nat.lt_succ_self j), va_up_self]
  · rw [va_up_ne _ _ e, va_up_ne _ _ e]
    by_cases h : j < i
    · rw [if_pos h, if_pos (Nat.lt_succ_of_lt h)]
    · rw [if_neg h, if_neg (by omega)]
abbrev zN (U : State) : Prop := va_Nw (.methodLinkNest RX9 9 yX8_init "DaysLent") U ∧ va_Nw (.methodLinkNest RX9 18 yX3_init "DaysLent") U ∧ va_Nw (.methodLinkNest RX0 24 yX3_init "DaysLent") U ∧ va_Nw (.methodLinkNest RX7 21 yX3_init "DaysLent") U ∧ va_Nw (.methodLinkNest RX9 39 yX2_init "DaysLent") U ∧ va_Nw (.methodLinkNest RX9 46 yX6_init "DaysLent") U ∧ va_Nw (.methodLinkNest RX9 53 yX5_init "DaysLent") U ∧ va_Nw (.methodLinkNest RX9 60 yX4_init "DaysLent") U ∧ va_Nw (.methodLinkNest RX9 67 yX1_init "DaysLent") U ∧ va_AO "DaysLent$Ledger" U ∧ va_AOA .int U
theorem zN_warm {s U : State} (hW : s.WarmedH U.vm) (h : zN s) : zN U := ⟨va_Nw.warmM hW h.1, va_Nw.warmM hW h.2.1, va_Nw.warmM hW h.2.2.1, va_Nw.warmM hW h.2.2.2.1, va_Nw.warmM hW h.2.2.2.2.1, va_Nw.warmM hW h.2.2.2.2.2.1, va_Nw.warmM hW h.2.2.2.2.2.2.1, va_Nw.warmM hW h.2.2.2.2.2.2.2.1, va_Nw.warmM hW h.2.2.2.2.2.2.2.2.1, va_AO.moved hW.alike h.2.2.2.2.2.2.2.2.2.1, va_AOA.moved hW.alike h.2.2.2.2.2.2.2.2.2.2⟩
theorem zN_same {u U : State} (e : u.vm = U.vm) (h : zN u) : zN U := ⟨va_Nw.same rfl e h.1, va_Nw.same rfl e h.2.1, va_Nw.same rfl e h.2.2.1, va_Nw.same rfl e h.2.2.2.1, va_Nw.same rfl e h.2.2.2.2.1, va_Nw.same rfl e h.2.2.2.2.2.1, va_Nw.same rfl e h.2.2.2.2.2.2.1, va_Nw.same rfl e h.2.2.2.2.2.2.2.1, va_Nw.same rfl e h.2.2.2.2.2.2.2.2.1, va_AO.moved (by rw [e]; exact Vm.Alike.refl _) h.2.2.2.2.2.2.2.2.2.1, va_AOA.moved (by rw [e]; exact Vm.Alike.refl _) h.2.2.2.2.2.2.2.2.2.2⟩
abbrev zP (D : va_G) (cs : Nat → ClassId) (w : va_W) (sz : Nat) : State → Prop := fun U => U.heap.size = sz ∧ va_P D vwCl w U.heap ∧ va_K D vwCl (tyA cs) U ∧ zN U ∧ va_D (fun _ => True) w
theorem zP_moved {D : va_G} {cs : Nat → ClassId} {w : va_W} {sz : Nat} {av : List Value} : FrameBlind (va_Pc av (zP D cs w sz)) := fun a U g mk q => ⟨q.1, q.2.1, q.2.2.1, va_K.moved (u := U) (U := U.calling g mk a) (Vm.Alike.refl U.vm) q.2.2.2.1, zN_same (u := U) (U := U.calling g mk a) rfl q.2.2.2.2.1, q.2.2.2.2.2⟩
/-- f, but v at every address of l -/
def vr_up {α : Type} (f : Nat → α) (l : List Nat) (v : α) : Nat → α := fun a => if a ∈ l then v else f a
theorem vr_up_in {α : Type} {f : Nat → α} {l : List Nat} {v : α} {a : Nat} (h : a ∈ l) : vr_up f l v a = v := if_pos h
theorem vr_up_ne {α : Type} {f : Nat → α} {l : List Nat} {v : α} {a : Nat} (h : a ∉ l) : vr_up f l v a = f a := if_neg h
theorem vr_rows {L l : List Nat} {f : Nat → va_E} {e : va_E} (h : ∀ a, a ∈ l → a ∉ L) : va_pl L f ++ l.map (fun a => (a, e)) = va_pl (L ++ l) (vr_up f l e) := by
  unfold va_pl
  rw [List.map_append]
  congr 1
  · apply List.map_congr_left
    intro a ha
    rw [vr_up_ne (fun q => h a q ha)]
  · apply List.map_congr_left
    intro a ha
    rw [vr_up_in ha]
theorem vr_lay {X rows : va_W} {x : Nat × va_E} {pl : va_W} {D : va_G} {cl : List vw_C} {H : Heap} (hP : va_P D cl (((X ++ pl) ++ [x]) ++ rows) H) : va_P D cl ((X ++ [x]) ++ (pl ++ rows)) H := by
  rw [List.append_assoc (X ++ pl)] at hP
  have h := va_P.swap hP
  rw [← List.append_assoc X] at h
  have h2 := va_P.swap h
  rw [List.append_assoc (X ++ [x])] at h2
  exact h2
theorem vr_layD {X rows : va_W} {x : Nat × va_E} {pl : va_W} {A : Nat → Prop} (hD : va_D A (((X ++ pl) ++ [x]) ++ rows)) : va_D A ((X ++ [x]) ++ (pl ++ rows)) := by
  rw [List.append_assoc (X ++ pl)] at hD
  have h := va_D.swap hD
  rw [← List.append_assoc X] at h
  have h2 := va_D.swap h
  rw [List.append_assoc (X ++ [x])] at h2
  exact h2
theorem vr_outer (c : ClassId) (N h0 : Nat) : ∀ i : Nat, Jvm.Free.Multi.outerC c N h0 i = arrV c N (fun j => va_rf (if j < i then some (h0 + 1 + j) else none))
  | 0 => by
    show ({ cls := c, slots := Array.replicate N .null, vm := .none } : Cell) = _
    rw [arrV_new]
    refine congrArg (arrV c N) (funext fun j => ?_)
    simp [va_rf]
  | i + 1 => by
    show (Jvm.Free.Multi.outerC c N h0 i).setSlot i (.ref (h0 + 1 + i)) = _
    rw [vr_outer c N h0 i, arrV_store]
    refine congrArg (arrV c N) (funext fun j => ?_)
    by_cases e : j = i
    · subst e
      simp [updV, va_rf]
    · by_cases h : j < i
      · simp [updV, e, h, Nat.lt_succ_of_lt h]
      · simp [updV, e, h, show ¬ j < i + 1 by omega]
section VGM
variable {p : Program} {l : Launch} {e : Env} {R : Room} {s : State} {m : MethodId} {args : Array Value} {below : List Frame} {meth : Method} {c : Code} {H : Heap} {locs : List Loc} {cells slots : Nat} {Q : State → Prop}
variable {cc : ByteArray} {pc : Nat} {ls : Array Slot} {rest : List Value} {D : va_G} {cl : List vw_C} {A : Nat → Prop} {a : Nat} {tys : List (ClassId × FieldType)} {ws : va_W} {H0 : Heap}
theorem va_mna {X : va_W} {L : List Nat} {f : Nat → va_E} {cc : ByteArray} (hexec : p.tables.exec = Jvm.exec) (hb : c.code = cc) {own : String} {index : Nat} {ty : FieldType} {cy : ClassId} (hown : s.vm.findClass own = some m.cls) (hclink : (Cond.classLink own index ("[" ++ (FieldType.array ty).toString)).before args s = true) (hover : va_AOA ty s) (harr : (Cond.arrayClass ty).before args s = true) (hcy : s.vm.findClass (FieldType.array ty).toString = some cy)
    (hK : va_K D cl tys s) (hP : va_P D cl (X ++ va_pl L f) H) (hD : va_D A (X ++ va_pl L f)) (hS : va_S A H0 H locs) (hA : ∀ q, H0.size ≤ q → A q) {n k : Int32} {N' K' : Nat} {z : vp_A} (hn : ¬ n < 0) (hk : ¬ k < 0) (hN : n.toNatClampNeg = N') (hM : k.toNatClampNeg = K')
    (hb1 : N' * 4 ≤ 536870912) (hb2 : K' * componentBytes ty ≤ 536870912) (hb3 : K' ≤ 536870912) (hdf : fits ty (defaultValue ty) = true) (hdd : (defaultValue ty).isDefault = true) (hcells : cells + (1 + N') ≤ R.cells) (hslots : slots + (N' + N' * K') ≤ R.slots) (hz : ∀ c : ClassId, Jvm.Free.Multi.innerC c K' (defaultValue ty) = vp_cell c z) (hdg : decode cc pc = .ok (.multianewarray index 2, 4))
    (kk : ∀ (q : Nat) (r : Nat → Nat) (cA : ClassId) (H1 : Heap), (∀ i j : Nat, i < N' → j < N' → r i = r j → i = j) → (∀ i : Nat, i < N' → r i ∉ L) → va_K D cl (tys ++ [(cA, .array ty)]) s →
      va_P D cl ((X ++ [(q, .inl (cA, N', .inr (.inr (.inr (.inr (fun i => if i < N' then some (r i) else none))))))]) ++ va_pl (L ++ (List.range N').map r) (vr_up f ((List.range N').map r) (.inl (cy, z)))) H1 → va_D A ((X ++ [(q, .inl (cA, N', .inr (.inr (.inr (.inr (fun i => if i < N' then some (r i) else none))))))]) ++ va_pl (L ++ (List.range N').map r) (vr_up f ((List.range N').map r) (.inl (cy, z)))) → va_S A H0 H1 locs →
      W p l e R s m args below meth c H1 locs (cells + 1 + N') (slots + N' + N' * K') Q (F0 m (pc + 4) ls (.ref q :: rest))) : W p l e R s m args below meth c H locs cells slots Q (F0 m pc ls (.int k :: .int n :: rest)) := by
  subst hN
  subst hM
  intro T hT Xs
  obtain ⟨vm₁, cA, comp, -, fA, fC, hO, -, X', step⟩ := Xs.multianewarray2F hexec hown hclink (va_AOA.use hover) harr (g := F0 m pc ls (.int k :: .int n :: rest)) rfl (by rw [hb]; exact hdg) rfl hn hk hb1 hb2 hb3 hdf hdd hcells hslots
  have ec : some cy = some comp := hcy.symm.trans fC
  cases ec
  generalize hF : Jvm.Free.Multi.fill (T.setVm vm₁) cA cy n.toNatClampNeg k.toNatClampNeg (defaultValue ty) n.toNatClampNeg = F at X' step
  have hTh : (T.setVm vm₁).heap = H := hT
  obtain ⟨f1, f2, -, -⟩ := Jvm.Free.Multi.fill_facts (T.setVm vm₁) cA cy n.toNatClampNeg k.toNatClampNeg (defaultValue ty) n.toNatClampNeg
  rw [hF, hTh] at f1 f2
  have hold : ∀ x : Nat, x < H.size → F.heap[x]? = H[x]? := fun x hx => by
    have := Jvm.Free.Multi.fill_old (T.setVm vm₁) cA cy n.toNatClampNeg k.toNatClampNeg (defaultValue ty) (a := x) (by rw [hTh]; exact hx) n.toNatClampNeg
    rw [hF, hTh] at this
    exact this
  have hrow : ∀ j : Nat, j < n.toNatClampNeg → F.heap[H.size + 1 + j]? = some (vp_cell cy z) := fun j hj => by
    have := Jvm.Free.Multi.fill_inner (T.setVm vm₁) cA cy n.toNatClampNeg k.toNatClampNeg (defaultValue ty) n.toNatClampNeg j hj
    rw [hF, hTh, hz] at this
    exact this
  have hout : Jvm.Free.Multi.outerC cA n.toNatClampNeg H.size n.toNatClampNeg = vp_cell cA (n.toNatClampNeg, .inr (.inr (.inr (.inr (fun i => if i < n.toNatClampNeg then some (H.size + 1 + i) else none))))) := by
    rw [vp_cell_q]
    exact vr_outer cA n.toNatClampNeg H.size n.toNatClampNeg
  rw [hout] at f2
  have hlt : ∀ a, a ∈ L → a < H.size := fun a ha => by
    obtain ⟨k9, hk9⟩ := va_pl_get (X := X) (f := f) ha
    exact (hP k9 _ hk9).lt
  have hnl : ∀ i : Nat, i < n.toNatClampNeg → H.size + 1 + i ∉ L := fun i _ h => by
    have := hlt _ h
    omega
  have hnm : ∀ a, a ∈ (List.range n.toNatClampNeg).map (fun i => H.size + 1 + i) → a ∉ L := fun a ha h => by
    obtain ⟨i, -, rfl⟩ := List.mem_map.mp ha
    have := hlt _ h
    omega
  have hP0 : va_P D cl (X ++ va_pl L f) F.heap := hP.kept (fun k9 x hx => hold x.1 ((hP k9 x hx).lt))
  have hP1 : va_P D cl ((X ++ va_pl L f) ++ [(H.size, .inl (cA, n.toNatClampNeg, .inr (.inr (.inr (.inr (fun i => if i < n.toNatClampNeg then some (H.size + 1 + i) else none))))))]) F.heap := hP0.app (fun k9 x hx => by
    have h0 : k9 < 1 := (List.getElem?_eq_some_iff.mp hx).1
    rw [show k9 = 0 by omega] at hx
    cases hx
    exact f2)
  have hP2 : va_P D cl (((X ++ va_pl L f) ++ [(H.size, .inl (cA, n.toNatClampNeg, .inr (.inr (.inr (.inr (fun i => if i < n.toNatClampNeg then some (H.size + 1 + i) else none))))))]) ++ ((List.range n.toNatClampNeg).map (fun i => H.size + 1 + i)).map (fun a => (a, .inl (cy, z)))) F.heap := hP1.app (fun k9 x hx => by
    obtain ⟨a, ha, rfl⟩ := List.mem_map.mp (List.mem_of_getElem? hx)
    obtain ⟨i, hi, rfl⟩ := List.mem_map.mp ha
    exact hrow i (List.mem_range.mp hi))
  have hD2 : va_D A (((X ++ va_pl L f) ++ [(H.size, .inl (cA, n.toNatClampNeg, .inr (.inr (.inr (.inr (fun i => if i < n.toNatClampNeg then some (H.size + 1 + i) else none))))))]) ++ ((List.range n.toNatClampNeg).map (fun i => H.size + 1 + i)).map (fun a => (a, .inl (cy, z)))) := by
    have hD1 := hD.push (e := .inl (cA, n.toNatClampNeg, .inr (.inr (.inr (.inr (fun i => if i < n.toNatClampNeg then some (H.size + 1 + i) else none)))))) hP rfl (hA _ hS.1)
    generalize hW1 : (X ++ va_pl L f) ++ [(H.size, .inl (cA, n.toNatClampNeg, .inr (.inr (.inr (.inr (fun i => if i < n.toNatClampNeg then some (H.size + 1 + i) else none))))))] = W1 at hD1 hP1 ⊢
    have hle : ∀ (k9 : Nat) (x : Nat × va_E), W1[k9]? = some x → x.1 ≤ H.size := fun k9 x hx => by
      rw [← hW1] at hx
      by_cases hl : k9 < (X ++ va_pl L f).length
      · rw [List.getElem?_append_left hl] at hx
        exact Nat.le_of_lt ((hP k9 x hx).lt)
      · rw [List.getElem?_append_right (by omega)] at hx
        have h0 : k9 - (X ++ va_pl L f).length < 1 := (List.getElem?_eq_some_iff.mp hx).1
        rw [show k9 - (X ++ va_pl L f).length = 0 by omega] at hx
        cases hx
        exact Nat.le_refl _
    have hr : ∀ (k9 : Nat) (x : Nat × va_E), (((List.range n.toNatClampNeg).map (fun i => H.size + 1 + i)).map (fun a => ((a, .inl (cy, z)) : Nat × va_E)))[k9]? = some x → x.1 = H.size + 1 + k9 := fun k9 x hx => by
      rw [List.getElem?_map, List.getElem?_map] at hx
      by_cases h9 : k9 < n.toNatClampNeg
      · rw [List.getElem?_range h9] at hx
        cases hx
        rfl
      · have hn0 : (List.range n.toNatClampNeg)[k9]? = none := List.getElem?_eq_none (by rw [List.length_range]; omega)
        rw [hn0] at hx
        cases hx
    refine ⟨fun i j x y hi hj hxy => ?_, fun k9 x hx => ?_⟩
    · by_cases h1 : i < W1.length <;> by_cases h2 : j < W1.length
      · rw [List.getElem?_append_left h1] at hi
        rw [List.getElem?_append_left h2] at hj
        exact hD1.1 i j x y hi hj hxy
      · rw [List.getElem?_append_left h1] at hi
        rw [List.getElem?_append_right (by omega)] at hj
        have := hle _ _ hi
        have := hr _ _ hj
        omega
      · rw [List.getElem?_append_right (by omega)] at hi
        rw [List.getElem?_append_left h2] at hj
        have := hle _ _ hj
        have := hr _ _ hi
        omega
      · rw [List.getElem?_append_right (by omega)] at hi hj
        have := hr _ _ hi
        have := hr _ _ hj
        omega
    · by_cases h1 : k9 < W1.length
      · rw [List.getElem?_append_left h1] at hx
        exact hD1.2 k9 x hx
      · rw [List.getElem?_append_right (by omega)] at hx
        have := hr _ _ hx
        exact hA _ (by have := hS.1; omega)
  have hAr : ArrOfT s cA (.array ty) := fun N9 z9 => by
    obtain ⟨-, k9, hk9, cm9, hkk9⟩ := (hO 0 0 0).1
    exact ⟨(fun q hq => by cases hq), k9, hk9, cm9, hkk9⟩
  have hK2 : va_K D cl (tys ++ [(cA, .array ty)]) s := ⟨hK.1, fun k9 x hx => by
    by_cases hl : k9 < tys.length
    · rw [List.getElem?_append_left hl] at hx
      exact hK.2 k9 x hx
    · rw [List.getElem?_append_right (by omega)] at hx
      have h0 : k9 - tys.length < 1 := (List.getElem?_eq_some_iff.mp hx).1
      rw [show k9 - tys.length = 0 by omega] at hx
      cases hx
      exact ⟨hAr, fA⟩⟩
  obtain ⟨t, a1, b1⟩ := kk H.size (fun i => H.size + 1 + i) cA F.heap (fun i j _ _ h => by have h9 : H.size + 1 + i = H.size + 1 + j := h; omega) hnl hK2 (by rw [← vr_rows hnm]; exact vr_lay hP2) (by rw [← vr_rows hnm]; exact vr_layD hD2) ⟨by rw [f1]; have := hS.1; omega, fun x h1 h2 => (hold x (Nat.lt_of_lt_of_le h1 hS.1)).trans (hS.2.1 x h1 h2), hS.2.2⟩ F rfl X'
  refine ⟨t, step t ?_, b1⟩
  have e : T.heap.size = H.size := by rw [hT]
  rw [e]
  exact a1
end VGM
abbrev rm_Act_init : Room := { frames := 2, cells := 71, slots := 720, locals := 60 }
set_option maxHeartbeats 4000000 in
set_option maxRecDepth 100000 in
theorem c_Act_init (l : Launch) (D : va_G) (cs : Nat → ClassId) (o : Nat) (sz : Nat) : Met l yX0_init wsX0_init rm_Act_init (va_Pc [.ref o] (zP D cs [(o, .inr (0, [.null, .int 0, .int 0]))] sz)) (va_Qv (fun _ : (Nat → Nat) × (Nat → Nat) × (Nat → Nat → Nat) => True) (fun u t => xA D cs (va_A [(o, .inr (0, [.null, .int 0, .int 0]))] sz) (List.flatten [w_Act cs o u.1 u.2.1 (fun _ => 0) (fun _ _ => 0), w_Pool cs u.2.1 u.2.2 (fun _ _ => 0) (fun _ _ _ => 0) 10]) t) (va_A [(o, .inr (0, [.null, .int 0, .int 0]))] sz)) 71 720 (va_A [(o, .inr (0, [.null, .int 0, .int 0]))] sz) := by
  refine Met.ofW (cc := cX0_init) (maxL := 2) (ret := none) (by decide) rfl ?_
  intro p e s m args below meth c s₁ B hml hv
  obtain ⟨ha, hsz, hP, hK, hN, hD0⟩ := hv
  have hx := B.exec
  have hb := B.bytes
  have hr := B.returns
  have hts := atoms_spec (ws := wsX0_init) B.pre
  have hown : s.vm.findClass RX0 = some m.cls := findClass_of_methodNamed B.named
  have hlocks := B.notSynchronized
  have hin : meth.name = "<init>" := (name_of_methodNamed B.named B.method).1
  subst hsz
  have hD := hD0.self (sz := s.heap.size)
  generalize hAe : va_A [(o, .inr (0, [.null, .int 0, .int 0]))] s.heap.size = A at hD ⊢
  have hA : ∀ q : Nat, s.heap.size ≤ q → A q := fun q h => by rw [← hAe]; exact Or.inr h
  have hS : va_S A s.heap s.heap [] := va_S.rf
  have hl := lv_entry ([.ref o]) (n := 2) (Nat.le_of_ble_eq_true rfl)
  rw [show entryFrame m args 2 = entryFrame m ([.ref o] : List Value).toArray 2 from by rw [ha], lg_entry_eq]
  generalize (lg_sl ([.ref o]) ++ List.replicate (2 - (lg_sl ([.ref o])).length) Slot.unset).toArray = ls at hl ⊢
  have hl : lv_has ls 2 [(0, .ref o)] := hl
  generalize hQ : MQ below (va_Qv (fun _ : (Nat → Nat) × (Nat → Nat) × (Nat → Nat → Nat) => True) (fun u t => xA D cs A (List.flatten [w_Act cs o u.1 u.2.1 (fun _ => 0) (fun _ _ => 0), w_Pool cs u.2.1 u.2.2 (fun _ _ => 0) (fun _ _ _ => 0) 10]) t) A) args s 71 720 A = Q
  show W p l e rm_Act_init s m args below meth c s.heap [] 0 0 Q (F0 m 0 ls [])
  have in_X0 : ∀ w ∈ u_ws RX0 TX0 3, w ∈ wsX0_init := fun w h => List.mem_cons_of_mem _ (List.mem_append_left _ (List.mem_append_right _ h))
  have in_X3 : ∀ w ∈ u_ws RX3 TX3 11, w ∈ wsX0_init := fun w h => List.mem_cons_of_mem _ (List.mem_append_right _ h)
  have hret : ∀ (la : Nat → Nat) (lh : Nat → Nat → Nat) (hh : Nat → Nat) (H : Heap) (locs : List Loc) (pc : Nat) (ls : Array Slot), va_P D vwCl (List.flatten [w_Act cs o hh la (fun _ => 0) (fun _ _ => 0), w_Pool cs la lh (fun _ _ => 0) (fun _ _ _ => 0) 10]) H → va_D A (List.flatten [w_Act cs o hh la (fun _ => 0) (fun _ _ => 0), w_Pool cs la lh (fun _ _ => 0) (fun _ _ _ => 0) 10]) → va_S A s.heap H locs → decode cX0_init pc = .ok (.return_, 1) → W p l e rm_Act_init s m args below meth c H locs 71 720 Q (F0 m pc ls []) := by
    intro la lh hh H locs pc ls hP hD hS hd
    rw [← hQ]
    exact W.vret hx hb hr (fun t ht hW => ⟨⟨(hh, la, lh), rfl, trivial, by show va_P D vwCl (List.flatten [w_Act cs o hh la (fun _ => 0) (fun _ _ => 0), w_Pool cs la lh (fun _ _ => 0) (fun _ _ _ => 0) 10]) t.heap; rw [ht]; exact hP, va_K.moved hW.alike hK, hD⟩, hS.F ht⟩) hS.2.2 hd
  refine lv_aload_n hx hb dX0_init_0 rfl (lv_at hl 0 rfl) ?_
  refine W.objInit hx hb hown (hts (.methodLink RX0 3 objectInit) (by decide +kernel)) (hts (.instanceMethod objectInit) (by decide +kernel)) (hts (.code objectInit ⟨#[0xb1]⟩ 1 none) (by decide +kernel)) rfl (by rw [hml]; exact hl.1) rfl dX0_init_1 (Nat.le_of_ble_eq_true rfl) (Nat.le_of_ble_eq_true rfl) ?_
  refine W.eq (g2 := F0 m 4 ls []) rfl ?_
  refine lv_aload_n hx hb dX0_init_4 rfl (lv_at hl 0 rfl) ?_
  refine lv_bipush (v := 10) hx hb dX0_init_5 (by decide) ?_
  refine xnewq (C := "DaysLent$Ledger") (N' := 10) hx hb hown (hts (.classLink RX0 9 RX3) (by decide +kernel)) hN.2.2.2.2.2.2.2.2.2.1 hK hP hD hS hA 3 rfl (by decide) (by decide) (by decide) (Nat.le_of_ble_eq_true rfl) (Nat.le_of_ble_eq_true rfl) dX0_init_7 (fun qb H hP hD hS => ?_)
  have hP : va_P D vwCl [(o, .inr (0, [.null, .int 0, .int 0])), (qb, .inl (cs 3, 10, .inr (.inr (.inr (.inr (fun _ => none))))))] H := hP
  have hD : va_D A [(o, .inr (0, [.null, .int 0, .int 0])), (qb, .inl (cs 3, 10, .inr (.inr (.inr (.inr (fun _ => none))))))] := hD
  refine W.widen (k := 1) (n := 10) (by decide) (by decide) ?_
  refine va_putF (D := D) (ci := 0) (v := .ref qb) (ty := (.array (.object "DaysLent$Ledger"))) (C := RX0) (T := TX0) (N := 3) hx hb hts in_X0 tyX0 tyX0_ok nmX0 hown hK hP hD hS 0 rfl rfl 0 (by decide) (hts (.fieldLink RX0 11 "DaysLent$Acts" "before" "[LDaysLent$Ledger;") (by decide +kernel)) (fun _ h9 => h9) rfl hin rfl (by decide +kernel) rfl rfl (Nat.le_of_ble_eq_true rfl) dX0_init_10 (fun H locs hP hD hS => ?_)
  have hP : va_P D vwCl [(o, .inr (0, [.ref qb, .int 0, .int 0])), (qb, .inl (cs 3, 10, .inr (.inr (.inr (.inr (fun _ => none))))))] H := hP
  have hD : va_D A [(o, .inr (0, [.ref qb, .int 0, .int 0])), (qb, .inl (cs 3, 10, .inr (.inr (.inr (.inr (fun _ => none))))))] := hD
  refine lv_aload_n hx hb dX0_init_13 rfl (lv_at hl 0 rfl) ?_
  refine lv_iconst (v := 0) hx hb dX0_init_14 (by decide) ?_
  refine va_put (D := D) (ci := 0) (v := .int 0) (ty := .int) (C := RX0) (T := TX0) (N := 3) hx hb hts in_X0 tyX0 tyX0_ok nmX0 hown hK hP hD hS 0 rfl rfl 1 (by decide) (hts (.fieldLink RX0 17 "DaysLent$Acts" "first" "I") (by decide +kernel)) (fun _ h9 => h9) rfl (by decide +kernel) rfl rfl (Nat.le_of_ble_eq_true rfl) dX0_init_15 (fun H locs hP hD hS => ?_)
  have hP : va_P D vwCl [(o, .inr (0, [.ref qb, .int 0, .int 0])), (qb, .inl (cs 3, 10, .inr (.inr (.inr (.inr (fun _ => none))))))] H := hP
  have hD : va_D A [(o, .inr (0, [.ref qb, .int 0, .int 0])), (qb, .inl (cs 3, 10, .inr (.inr (.inr (.inr (fun _ => none))))))] := hD
  refine lv_aload_n hx hb dX0_init_18 rfl (lv_at hl 0 rfl) ?_
  refine lv_iconst (v := 0) hx hb dX0_init_19 (by decide) ?_
  refine va_put (D := D) (ci := 0) (v := .int 0) (ty := .int) (C := RX0) (T := TX0) (N := 3) hx hb hts in_X0 tyX0 tyX0_ok nmX0 hown hK hP hD hS 0 rfl rfl 2 (by decide) (hts (.fieldLink RX0 21 "DaysLent$Acts" "count" "I") (by decide +kernel)) (fun _ h9 => h9) rfl (by decide +kernel) rfl rfl (Nat.le_of_ble_eq_true rfl) dX0_init_20 (fun H locs hP hD hS => ?_)
  have hP : va_P D vwCl [(o, .inr (0, [.ref qb, .int 0, .int 0])), (qb, .inl (cs 3, 10, .inr (.inr (.inr (.inr (fun _ => none))))))] H := hP
  have hD : va_D A [(o, .inr (0, [.ref qb, .int 0, .int 0])), (qb, .inl (cs 3, 10, .inr (.inr (.inr (.inr (fun _ => none))))))] := hD
  refine lv_iconst (v := 0) hx hb dX0_init_23 (by decide) ?_
  refine lv_istore_n (lv' := [(1, .int 0), (0, .ref o)]) hx hb dX0_init_24 rfl hl (by decide) rfl (fun ls hl => ?_)
  have LP : ∀ (n i : Nat) (la : Nat → Nat) (lh : Nat → Nat → Nat) (H : Heap) (locs : List Loc), i ≤ 10 → 10 - i < n → va_P D vwCl (List.flatten [[(o, .inr (0, [.ref qb, .int 0, .int 0])), (qb, .inl (cs 3, 10, .inr (.inr (.inr (.inr (fun j => if j < i then some (la j) else none))))))], w_Pool cs la lh (fun _ _ => 0) (fun _ _ _ => 0) i]) H → va_D A (List.flatten [[(o, .inr (0, [.ref qb, .int 0, .int 0])), (qb, .inl (cs 3, 10, .inr (.inr (.inr (.inr (fun j => if j < i then some (la j) else none))))))], w_Pool cs la lh (fun _ _ => 0) (fun _ _ _ => 0) i]) → va_S A s.heap H locs → ∀ ls : Array Slot, lv_has ls 2 [(0, .ref o), (1, .int (nI i))] → W p l e rm_Act_init s m args below meth c H locs (1 + 7 * i) (10 + 71 * i) Q (F0 m 25 ls []) := by
    intro n
    induction n with
    | zero => intro i la lh H locs h1 h2; omega
    | succ n ih =>
      intro i la lh H locs hi hn hP hD hS ls hl
      refine lv_iload_n hx hb dX0_init_25 rfl (lv_at hl 1 rfl) ?_
      refine lv_bipush (v := 10) hx hb dX0_init_26 (by decide) ?_
      refine lv_icmp_ge (tgt := 50) hx hb dX0_init_28 (by decide) (fun c9 => ?_) (fun c9 => ?_)
      · have e9 : i = 10 := by
          rcases Nat.lt_or_ge i 10 with q | q
          · exact absurd c9 (nI_ge q (by decide))
          · omega
        subst e9
        exact hret la lh (fun k => [qb, 0, 0].getD k 0) H locs 50 _ hP hD hS dX0_init_50
      · have hlt : i < 10 := by
          rcases Nat.lt_or_ge i 10 with q | q
          · exact q
          · exact absurd (by have := nI_le (a := 10) (b := i) q (by omega); exact this) c9
        have hiI : (nI i).toNatClampNeg = i := nI_clamp (by omega)
        refine lv_aload_n hx hb dX0_init_31 rfl (lv_at hl 0 rfl) ?_
        refine va_get (D := D) (ci := 0) (v := .ref qb) (C := RX0) (T := TX0) (N := 3) hx hb hts in_X0 hown hK hP 0 rfl rfl 0 (by decide) (hts (.fieldLink RX0 11 "DaysLent$Acts" "before" "[LDaysLent$Ledger;") (by decide +kernel)) (fun _ h9 => h9) rfl dX0_init_32 ?_
        refine lv_iload_n hx hb dX0_init_35 rfl (lv_at hl 1 rfl) ?_
        have hC1 : 1 + 7 * i + 1 ≤ rm_Act_init.cells := by show 1 + 7 * i + 1 ≤ 71; omega
        have hS1 : 10 + 71 * i + 11 ≤ rm_Act_init.slots := by show 10 + 71 * i + 11 ≤ 720; omega
        refine va_new (ci := 3) (fs := [.int 0, .int 0, .int 0, .int 0, .int 0, .null, .null, .null, .null, .null, .null]) (C := RX3) (T := TX3) (N := 11) hx hb hts in_X3 tyX3 tyX3_ok hown (hts (.classLink RX0 9 RX3) (by decide +kernel)) (hts (.instantiable RX3 11) (by decide +kernel)) (hts (.initialized RX3) (by decide +kernel)) hK hP hD hS hA rfl (fun j hj => by rcases (show j = 0 ∨ j = 1 ∨ j = 2 ∨ j = 3 ∨ j = 4 ∨ j = 5 ∨ j = 6 ∨ j = 7 ∨ j = 8 ∨ j = 9 ∨ j = 10 by omega) with rfl | rfl | rfl | rfl | rfl | rfl | rfl | rfl | rfl | rfl | rfl <;> rfl) hC1 hS1 dX0_init_36 (fun q H hP hD hS => ?_)
        rw [flat_snoc] at hP hD
        have hP : va_P D vwCl (List.flatten [[(o, .inr (0, [.ref qb, .int 0, .int 0])), (qb, .inl (cs 3, 10, .inr (.inr (.inr (.inr (fun j => if j < i then some (la j) else none))))))], w_Pool cs la lh (fun _ _ => 0) (fun _ _ _ => 0) i, [(q, .inr (3, [.int 0, .int 0, .int 0, .int 0, .int 0, .null, .null, .null, .null, .null, .null]))]]) H := hP
        have hD : va_D A (List.flatten [[(o, .inr (0, [.ref qb, .int 0, .int 0])), (qb, .inl (cs 3, 10, .inr (.inr (.inr (.inr (fun j => if j < i then some (la j) else none))))))], w_Pool cs la lh (fun _ _ => 0) (fun _ _ _ => 0) i, [(q, .inr (3, [.int 0, .int 0, .int 0, .int 0, .int 0, .null, .null, .null, .null, .null, .null]))]]) := hD
        refine lv_dup hx hb dX0_init_39 rfl ?_
        have hPc := subB (bs := [[(o, .inr (0, [.ref qb, .int 0, .int 0])), (qb, .inl (cs 3, 10, .inr (.inr (.inr (.inr (fun j => if j < i then some (la j) else none))))))], w_Pool cs la lh (fun _ _ => 0) (fun _ _ _ => 0) i, [(q, .inr (3, [.int 0, .int 0, .int 0, .int 0, .int 0, .null, .null, .null, .null, .null, .null]))]]) (ca := [[(q, .inr (3, [.int 0, .int 0, .int 0, .int 0, .int 0, .null, .null, .null, .null, .null, .null]))]]) (ra := [[(o, .inr (0, [.ref qb, .int 0, .int 0])), (qb, .inl (cs 3, 10, .inr (.inr (.inr (.inr (fun j => if j < i then some (la j) else none))))))], w_Pool cs la lh (fun _ _ => 0) (fun _ _ _ => 0) i]) [2, 0, 1] (by decide) rfl rfl hP
        have hDc := subD (bs := [[(o, .inr (0, [.ref qb, .int 0, .int 0])), (qb, .inl (cs 3, 10, .inr (.inr (.inr (.inr (fun j => if j < i then some (la j) else none))))))], w_Pool cs la lh (fun _ _ => 0) (fun _ _ _ => 0) i, [(q, .inr (3, [.int 0, .int 0, .int 0, .int 0, .int 0, .null, .null, .null, .null, .null, .null]))]]) (ca := [[(q, .inr (3, [.int 0, .int 0, .int 0, .int 0, .int 0, .null, .null, .null, .null, .null, .null]))]]) (ra := [[(o, .inr (0, [.ref qb, .int 0, .int 0])), (qb, .inl (cs 3, 10, .inr (.inr (.inr (.inr (fun j => if j < i then some (la j) else none))))))], w_Pool cs la lh (fun _ _ => 0) (fun _ _ _ => 0) i]) [2, 0, 1] (by decide) rfl rfl hD
        have hFc := xfree hDc hS hA
        have wI : va_CN rm_Act_init s args RX0 24 yX3_init "DaysLent" cX3_init 1 none wsX3_init rm_Led_init 6 60 0 := va_cnB (R := rm_Act_init) (s := s) (args := args) (rm := rm_Led_init) (mc := 6) (ms := 60) 0 hts gX0_init_X3_init_n24 rfl rfl rfl hN.2.2.1 (hts (.initialized RX3) (by decide +kernel)) (by decide +kernel) ⟨Nat.le_of_ble_eq_true rfl, Nat.le_of_ble_eq_true rfl⟩
        refine va_callv (va_runIN (As := []) (rest := [.ref q, .int (nI i), .ref qb]) ⟨hx, hb, hml, hown, hts⟩ (c_Led_init l D cs q _) ⟨wI, rfl, hts (.instanceMethod yX3_init) (by decide +kernel)⟩ ⟨xP_moved, fun U hU hW => ⟨rfl, by rw [hU], by rw [hU]; exact hPc, va_K.moved hW.alike hK, hDc.weaken (fun _ _ _ _ => trivial)⟩⟩ rfl rfl hl.1 rfl (lv_room (Nat.le_of_ble_eq_true rfl)) dX0_init_40 ⟨by show 1 + 7 * i + 1 + 6 ≤ 71; omega, by show 10 + 71 * i + 11 + 60 ≤ 720; omega⟩) hS (fun q _ h9 => hFc q h9) hFc (fun u t H1 locs ht hvm hw hB hz1 hk1 hS => ?_)
        obtain ⟨hP1, hK1, hD1⟩ := hB
        rw [ht] at hP1
        obtain ⟨hP, hD⟩ := joinB (bs := [[(o, .inr (0, [.ref qb, .int 0, .int 0])), (qb, .inl (cs 3, 10, .inr (.inr (.inr (.inr (fun j => if j < i then some (la j) else none))))))], w_Pool cs la lh (fun _ _ => 0) (fun _ _ _ => 0) i, [(q, .inr (3, [.int 0, .int 0, .int 0, .int 0, .int 0, .null, .null, .null, .null, .null, .null]))]]) (ca := [[(q, .inr (3, [.int 0, .int 0, .int 0, .int 0, .int 0, .null, .null, .null, .null, .null, .null]))]]) (ra := [[(o, .inr (0, [.ref qb, .int 0, .int 0])), (qb, .inl (cs 3, 10, .inr (.inr (.inr (.inr (fun j => if j < i then some (la j) else none))))))], w_Pool cs la lh (fun _ _ => 0) (fun _ _ _ => 0) i]) [2, 0, 1] (by decide) rfl rfl hP hD hk1 hFc (cb := [w_Led cs q u (fun _ => 0) (fun _ _ => 0)]) hP1 hD1 (be := [[(o, .inr (0, [.ref qb, .int 0, .int 0])), (qb, .inl (cs 3, 10, .inr (.inr (.inr (.inr (fun j => if j < i then some (la j) else none))))))], w_Led cs q u (fun _ => 0) (fun _ _ => 0), w_Pool cs la lh (fun _ _ => 0) (fun _ _ _ => 0) i]) [1, 0, 2] (by decide) rfl rfl
        refine va_astq (r := (RX3, TX3, 11)) (f := fun j => if j < i then some (la j) else none) hx hb hK hP hD hS 1 3 2 3 rfl rfl rfl rfl (vp_in_nI hlt (by decide)) dX0_init_43 (fun H locs hP hD hS => ?_)
        rw [hiI, pool_fill] at hP hD
        have hP : va_P D vwCl (List.flatten [[(o, .inr (0, [.ref qb, .int 0, .int 0])), (qb, .inl (cs 3, 10, .inr (.inr (.inr (.inr (fun j => if j < (i + 1) then some ((va_up la i q) j) else none))))))], w_Led cs q u (fun _ => 0) (fun _ _ => 0), w_Pool cs la lh (fun _ _ => 0) (fun _ _ _ => 0) i]) H := hP
        have hD : va_D A (List.flatten [[(o, .inr (0, [.ref qb, .int 0, .int 0])), (qb, .inl (cs 3, 10, .inr (.inr (.inr (.inr (fun j => if j < (i + 1) then some ((va_up la i q) j) else none))))))], w_Led cs q u (fun _ => 0) (fun _ _ => 0), w_Pool cs la lh (fun _ _ => 0) (fun _ _ _ => 0) i]) := hD
        have hpp : (List.flatten [[(o, .inr (0, [.ref qb, .int 0, .int 0])), (qb, .inl (cs 3, 10, .inr (.inr (.inr (.inr (fun j => if j < (i + 1) then some ((va_up la i q) j) else none))))))], w_Led cs q u (fun _ => 0) (fun _ _ => 0), w_Pool cs la lh (fun _ _ => 0) (fun _ _ _ => 0) i]).Perm (List.flatten [[(o, .inr (0, [.ref qb, .int 0, .int 0])), (qb, .inl (cs 3, 10, .inr (.inr (.inr (.inr (fun j => if j < (i + 1) then some ((va_up la i q) j) else none))))))], w_Pool cs (va_up la i q) (va_up lh i u) (fun _ _ => 0) (fun _ _ _ => 0) (i + 1)]) := by
          simp only [List.flatten_cons, List.flatten_nil, List.append_nil]
          exact (pool_push cs la lh i q u).append_left _
        have hP := pPerm hpp hP
        have hD := dPerm hpp hD
        refine lv_iinc (v := nI (i + 1)) (lv' := [(1, .int (nI (i + 1))), (0, .ref o)]) hx hb dX0_init_44 hl (k := 1) rfl (nI_1 i) (by decide) rfl (fun ls hl => ?_)
        refine lv_goto (tgt := 25) hx hb dX0_init_47 (by decide) ?_
        refine W.widen (k := 1 + 7 * (i + 1)) (n := 10 + 71 * (i + 1)) (by omega) (by omega) ?_
        exact ih (i + 1) _ _ _ _ (by omega) (by omega) hP hD hS _ (lv_sub hl [1, 0] rfl)
  have e0 : (fun _ : Nat => (none : Option Nat)) = fun j => if j < 0 then some ((fun _ => 0) j) else none := by funext j; rw [if_neg (Nat.not_lt_zero j)]
  rw [e0] at hP hD
  refine LP 11 0 (fun _ => 0) (fun _ _ => 0) _ _ (Nat.zero_le _) (by decide) ?_ ?_ hS _ (lv_sub hl [1, 0] rfl)
  · exact hP
  · exact hD
abbrev rm_Slt_init : Room := { frames := 2, cells := 16, slots := 146, locals := 60 }
set_option maxHeartbeats 4000000 in
set_option maxRecDepth 100000 in
theorem c_Slt_init (l : Launch) (D : va_G) (cs : Nat → ClassId) (o : Nat) (sz : Nat) : Met l yX7_init wsX7_init rm_Slt_init (va_Pc [.ref o] (zP D cs [(o, .inr (7, [.null, .null]))] sz)) (va_Qv (fun _ : (Nat → Nat) × (Nat → Nat) × (Nat → Nat → Nat) => True) (fun u t => xA D cs (va_A [(o, .inr (7, [.null, .null]))] sz) (List.flatten [w_Slt cs o u.1 u.2.1 (fun _ => 0) (fun _ _ => 0), w_Pool cs u.2.1 u.2.2 (fun _ _ => 0) (fun _ _ _ => 0) 2]) t) (va_A [(o, .inr (7, [.null, .null]))] sz)) 16 146 (va_A [(o, .inr (7, [.null, .null]))] sz) := by
  refine Met.ofW (cc := cX7_init) (maxL := 2) (ret := none) (by decide) rfl ?_
  intro p e s m args below meth c s₁ B hml hv
  obtain ⟨ha, hsz, hP, hK, hN, hD0⟩ := hv
  have hx := B.exec
  have hb := B.bytes
  have hr := B.returns
  have hts := atoms_spec (ws := wsX7_init) B.pre
  have hown : s.vm.findClass RX7 = some m.cls := findClass_of_methodNamed B.named
  have hlocks := B.notSynchronized
  have hin : meth.name = "<init>" := (name_of_methodNamed B.named B.method).1
  subst hsz
  have hD := hD0.self (sz := s.heap.size)
  generalize hAe : va_A [(o, .inr (7, [.null, .null]))] s.heap.size = A at hD ⊢
  have hA : ∀ q : Nat, s.heap.size ≤ q → A q := fun q h => by rw [← hAe]; exact Or.inr h
  have hS : va_S A s.heap s.heap [] := va_S.rf
  have hl := lv_entry ([.ref o]) (n := 2) (Nat.le_of_ble_eq_true rfl)
  rw [show entryFrame m args 2 = entryFrame m ([.ref o] : List Value).toArray 2 from by rw [ha], lg_entry_eq]
  generalize (lg_sl ([.ref o]) ++ List.replicate (2 - (lg_sl ([.ref o])).length) Slot.unset).toArray = ls at hl ⊢
  have hl : lv_has ls 2 [(0, .ref o)] := hl
  generalize hQ : MQ below (va_Qv (fun _ : (Nat → Nat) × (Nat → Nat) × (Nat → Nat → Nat) => True) (fun u t => xA D cs A (List.flatten [w_Slt cs o u.1 u.2.1 (fun _ => 0) (fun _ _ => 0), w_Pool cs u.2.1 u.2.2 (fun _ _ => 0) (fun _ _ _ => 0) 2]) t) A) args s 16 146 A = Q
  show W p l e rm_Slt_init s m args below meth c s.heap [] 0 0 Q (F0 m 0 ls [])
  have in_X7 : ∀ w ∈ u_ws RX7 TX7 2, w ∈ wsX7_init := fun w h => List.mem_cons_of_mem _ (List.mem_append_left _ (List.mem_append_right _ h))
  have in_X3 : ∀ w ∈ u_ws RX3 TX3 11, w ∈ wsX7_init := fun w h => List.mem_cons_of_mem _ (List.mem_append_right _ h)
  have hret : ∀ (la : Nat → Nat) (lh : Nat → Nat → Nat) (hh : Nat → Nat) (H : Heap) (locs : List Loc) (pc : Nat) (ls : Array Slot), va_P D vwCl (List.flatten [w_Slt cs o hh la (fun _ => 0) (fun _ _ => 0), w_Pool cs la lh (fun _ _ => 0) (fun _ _ _ => 0) 2]) H → va_D A (List.flatten [w_Slt cs o hh la (fun _ => 0) (fun _ _ => 0), w_Pool cs la lh (fun _ _ => 0) (fun _ _ _ => 0) 2]) → va_S A s.heap H locs → decode cX7_init pc = .ok (.return_, 1) → W p l e rm_Slt_init s m args below meth c H locs 16 146 Q (F0 m pc ls []) := by
    intro la lh hh H locs pc ls hP hD hS hd
    rw [← hQ]
    exact W.vret hx hb hr (fun t ht hW => ⟨⟨(hh, la, lh), rfl, trivial, by show va_P D vwCl (List.flatten [w_Slt cs o hh la (fun _ => 0) (fun _ _ => 0), w_Pool cs la lh (fun _ _ => 0) (fun _ _ _ => 0) 2]) t.heap; rw [ht]; exact hP, va_K.moved hW.alike hK, hD⟩, hS.F ht⟩) hS.2.2 hd
  refine lv_aload_n hx hb dX7_init_0 rfl (lv_at hl 0 rfl) ?_
  refine W.objInit hx hb hown (hts (.methodLink RX7 3 objectInit) (by decide +kernel)) (hts (.instanceMethod objectInit) (by decide +kernel)) (hts (.code objectInit ⟨#[0xb1]⟩ 1 none) (by decide +kernel)) rfl (by rw [hml]; exact hl.1) rfl dX7_init_1 (Nat.le_of_ble_eq_true rfl) (Nat.le_of_ble_eq_true rfl) ?_
  refine W.eq (g2 := F0 m 4 ls []) rfl ?_
  refine lv_aload_n hx hb dX7_init_4 rfl (lv_at hl 0 rfl) ?_
  refine lv_iconst (v := 2) hx hb dX7_init_5 (by decide) ?_
  refine xnewq (C := "DaysLent$Ledger") (N' := 2) hx hb hown (hts (.classLink RX7 9 RX3) (by decide +kernel)) hN.2.2.2.2.2.2.2.2.2.1 hK hP hD hS hA 3 rfl (by decide) (by decide) (by decide) (Nat.le_of_ble_eq_true rfl) (Nat.le_of_ble_eq_true rfl) dX7_init_6 (fun qb H hP hD hS => ?_)
  have hP : va_P D vwCl [(o, .inr (7, [.null, .null])), (qb, .inl (cs 3, 2, .inr (.inr (.inr (.inr (fun _ => none))))))] H := hP
  have hD : va_D A [(o, .inr (7, [.null, .null])), (qb, .inl (cs 3, 2, .inr (.inr (.inr (.inr (fun _ => none))))))] := hD
  refine W.widen (k := 1) (n := 2) (by decide) (by decide) ?_
  refine va_putF (D := D) (ci := 7) (v := .ref qb) (ty := (.array (.object "DaysLent$Ledger"))) (C := RX7) (T := TX7) (N := 2) hx hb hts in_X7 tyX7 tyX7_ok nmX7 hown hK hP hD hS 0 rfl rfl 0 (by decide) (hts (.fieldLink RX7 11 "DaysLent$Slots" "kept" "[LDaysLent$Ledger;") (by decide +kernel)) (fun _ h9 => h9) rfl hin rfl (by decide +kernel) rfl rfl (Nat.le_of_ble_eq_true rfl) dX7_init_9 (fun H locs hP hD hS => ?_)
  have hP : va_P D vwCl [(o, .inr (7, [.ref qb, .null])), (qb, .inl (cs 3, 2, .inr (.inr (.inr (.inr (fun _ => none))))))] H := hP
  have hD : va_D A [(o, .inr (7, [.ref qb, .null])), (qb, .inl (cs 3, 2, .inr (.inr (.inr (.inr (fun _ => none))))))] := hD
  refine lv_aload_n hx hb dX7_init_12 rfl (lv_at hl 0 rfl) ?_
  refine lv_iconst (v := 2) hx hb dX7_init_13 (by decide) ?_
  refine xnewa (atype := .boolean) (ty := .boolean) (N' := 2) (a0 := (2, .inl (fun _ => 0))) hx hb (hts (.arrayClass .boolean) (by decide +kernel)) rfl hK hP hD hS hA 1 rfl (fun _ h1 h2 => Option.some.inj (Eq.trans (Eq.symm h1) h2)) (fun _ => rfl) (by decide) (by decide) (by decide) (Nat.le_of_ble_eq_true rfl) (Nat.le_of_ble_eq_true rfl) dX7_init_14 (fun q14 H hP hD hS => ?_)
  have hP : va_P D vwCl [(o, .inr (7, [.ref qb, .null])), (qb, .inl (cs 3, 2, .inr (.inr (.inr (.inr (fun _ => none)))))), (q14, .inl (cs 1, 2, .inl (fun _ => 0)))] H := hP
  have hD : va_D A [(o, .inr (7, [.ref qb, .null])), (qb, .inl (cs 3, 2, .inr (.inr (.inr (.inr (fun _ => none)))))), (q14, .inl (cs 1, 2, .inl (fun _ => 0)))] := hD
  refine W.widen (k := 2) (n := 4) (by decide) (by decide) ?_
  refine va_putF (D := D) (ci := 7) (v := .ref q14) (ty := (.array .boolean)) (C := RX7) (T := TX7) (N := 2) hx hb hts in_X7 tyX7 tyX7_ok nmX7 hown hK hP hD hS 0 rfl rfl 1 (by decide) (hts (.fieldLink RX7 17 "DaysLent$Slots" "used" "[Z") (by decide +kernel)) (fun _ h9 => h9) rfl hin rfl (by decide +kernel) rfl rfl (Nat.le_of_ble_eq_true rfl) dX7_init_16 (fun H locs hP hD hS => ?_)
  have hP : va_P D vwCl [(o, .inr (7, [.ref qb, .ref q14])), (qb, .inl (cs 3, 2, .inr (.inr (.inr (.inr (fun _ => none)))))), (q14, .inl (cs 1, 2, .inl (fun _ => 0)))] H := hP
  have hD : va_D A [(o, .inr (7, [.ref qb, .ref q14])), (qb, .inl (cs 3, 2, .inr (.inr (.inr (.inr (fun _ => none)))))), (q14, .inl (cs 1, 2, .inl (fun _ => 0)))] := hD
  refine lv_iconst (v := 0) hx hb dX7_init_19 (by decide) ?_
  refine lv_istore_n (lv' := [(1, .int 0), (0, .ref o)]) hx hb dX7_init_20 rfl hl (by decide) rfl (fun ls hl => ?_)
  have LP : ∀ (n i : Nat) (la : Nat → Nat) (lh : Nat → Nat → Nat) (H : Heap) (locs : List Loc), i ≤ 2 → 2 - i < n → va_P D vwCl (List.flatten [[(o, .inr (7, [.ref qb, .ref q14])), (qb, .inl (cs 3, 2, .inr (.inr (.inr (.inr (fun j => if j < i then some (la j) else none)))))), (q14, .inl (cs 1, 2, .inl (fun _ => 0)))], w_Pool cs la lh (fun _ _ => 0) (fun _ _ _ => 0) i]) H → va_D A (List.flatten [[(o, .inr (7, [.ref qb, .ref q14])), (qb, .inl (cs 3, 2, .inr (.inr (.inr (.inr (fun j => if j < i then some (la j) else none)))))), (q14, .inl (cs 1, 2, .inl (fun _ => 0)))], w_Pool cs la lh (fun _ _ => 0) (fun _ _ _ => 0) i]) → va_S A s.heap H locs → ∀ ls : Array Slot, lv_has ls 2 [(0, .ref o), (1, .int (nI i))] → W p l e rm_Slt_init s m args below meth c H locs (2 + 7 * i) (4 + 71 * i) Q (F0 m 21 ls []) := by
    intro n
    induction n with
    | zero => intro i la lh H locs h1 h2; omega
    | succ n ih =>
      intro i la lh H locs hi hn hP hD hS ls hl
      refine lv_iload_n hx hb dX7_init_21 rfl (lv_at hl 1 rfl) ?_
      refine lv_iconst (v := 2) hx hb dX7_init_22 (by decide) ?_
      refine lv_icmp_ge (tgt := 45) hx hb dX7_init_23 (by decide) (fun c9 => ?_) (fun c9 => ?_)
      · have e9 : i = 2 := by
          rcases Nat.lt_or_ge i 2 with q | q
          · exact absurd c9 (nI_ge q (by decide))
          · omega
        subst e9
        exact hret la lh (fun k => [qb, q14].getD k 0) H locs 45 _ hP hD hS dX7_init_45
      · have hlt : i < 2 := by
          rcases Nat.lt_or_ge i 2 with q | q
          · exact q
          · exact absurd (by have := nI_le (a := 2) (b := i) q (by omega); exact this) c9
        have hiI : (nI i).toNatClampNeg = i := nI_clamp (by omega)
        refine lv_aload_n hx hb dX7_init_26 rfl (lv_at hl 0 rfl) ?_
        refine va_get (D := D) (ci := 7) (v := .ref qb) (C := RX7) (T := TX7) (N := 2) hx hb hts in_X7 hown hK hP 0 rfl rfl 0 (by decide) (hts (.fieldLink RX7 11 "DaysLent$Slots" "kept" "[LDaysLent$Ledger;") (by decide +kernel)) (fun _ h9 => h9) rfl dX7_init_27 ?_
        refine lv_iload_n hx hb dX7_init_30 rfl (lv_at hl 1 rfl) ?_
        have hC1 : 2 + 7 * i + 1 ≤ rm_Slt_init.cells := by show 2 + 7 * i + 1 ≤ 16; omega
        have hS1 : 4 + 71 * i + 11 ≤ rm_Slt_init.slots := by show 4 + 71 * i + 11 ≤ 146; omega
        refine va_new (ci := 3) (fs := [.int 0, .int 0, .int 0, .int 0, .int 0, .null, .null, .null, .null, .null, .null]) (C := RX3) (T := TX3) (N := 11) hx hb hts in_X3 tyX3 tyX3_ok hown (hts (.classLink RX7 9 RX3) (by decide +kernel)) (hts (.instantiable RX3 11) (by decide +kernel)) (hts (.initialized RX3) (by decide +kernel)) hK hP hD hS hA rfl (fun j hj => by rcases (show j = 0 ∨ j = 1 ∨ j = 2 ∨ j = 3 ∨ j = 4 ∨ j = 5 ∨ j = 6 ∨ j = 7 ∨ j = 8 ∨ j = 9 ∨ j = 10 by omega) with rfl | rfl | rfl | rfl | rfl | rfl | rfl | rfl | rfl | rfl | rfl <;> rfl) hC1 hS1 dX7_init_31 (fun q H hP hD hS => ?_)
        rw [flat_snoc] at hP hD
        have hP : va_P D vwCl (List.flatten [[(o, .inr (7, [.ref qb, .ref q14])), (qb, .inl (cs 3, 2, .inr (.inr (.inr (.inr (fun j => if j < i then some (la j) else none)))))), (q14, .inl (cs 1, 2, .inl (fun _ => 0)))], w_Pool cs la lh (fun _ _ => 0) (fun _ _ _ => 0) i, [(q, .inr (3, [.int 0, .int 0, .int 0, .int 0, .int 0, .null, .null, .null, .null, .null, .null]))]]) H := hP
        have hD : va_D A (List.flatten [[(o, .inr (7, [.ref qb, .ref q14])), (qb, .inl (cs 3, 2, .inr (.inr (.inr (.inr (fun j => if j < i then some (la j) else none)))))), (q14, .inl (cs 1, 2, .inl (fun _ => 0)))], w_Pool cs la lh (fun _ _ => 0) (fun _ _ _ => 0) i, [(q, .inr (3, [.int 0, .int 0, .int 0, .int 0, .int 0, .null, .null, .null, .null, .null, .null]))]]) := hD
        refine lv_dup hx hb dX7_init_34 rfl ?_
        have hPc := subB (bs := [[(o, .inr (7, [.ref qb, .ref q14])), (qb, .inl (cs 3, 2, .inr (.inr (.inr (.inr (fun j => if j < i then some (la j) else none)))))), (q14, .inl (cs 1, 2, .inl (fun _ => 0)))], w_Pool cs la lh (fun _ _ => 0) (fun _ _ _ => 0) i, [(q, .inr (3, [.int 0, .int 0, .int 0, .int 0, .int 0, .null, .null, .null, .null, .null, .null]))]]) (ca := [[(q, .inr (3, [.int 0, .int 0, .int 0, .int 0, .int 0, .null, .null, .null, .null, .null, .null]))]]) (ra := [[(o, .inr (7, [.ref qb, .ref q14])), (qb, .inl (cs 3, 2, .inr (.inr (.inr (.inr (fun j => if j < i then some (la j) else none)))))), (q14, .inl (cs 1, 2, .inl (fun _ => 0)))], w_Pool cs la lh (fun _ _ => 0) (fun _ _ _ => 0) i]) [2, 0, 1] (by decide) rfl rfl hP
        have hDc := subD (bs := [[(o, .inr (7, [.ref qb, .ref q14])), (qb, .inl (cs 3, 2, .inr (.inr (.inr (.inr (fun j => if j < i then some (la j) else none)))))), (q14, .inl (cs 1, 2, .inl (fun _ => 0)))], w_Pool cs la lh (fun _ _ => 0) (fun _ _ _ => 0) i, [(q, .inr (3, [.int 0, .int 0, .int 0, .int 0, .int 0, .null, .null, .null, .null, .null, .null]))]]) (ca := [[(q, .inr (3, [.int 0, .int 0, .int 0, .int 0, .int 0, .null, .null, .null, .null, .null, .null]))]]) (ra := [[(o, .inr (7, [.ref qb, .ref q14])), (qb, .inl (cs 3, 2, .inr (.inr (.inr (.inr (fun j => if j < i then some (la j) else none)))))), (q14, .inl (cs 1, 2, .inl (fun _ => 0)))], w_Pool cs la lh (fun _ _ => 0) (fun _ _ _ => 0) i]) [2, 0, 1] (by decide) rfl rfl hD
        have hFc := xfree hDc hS hA
        have wI : va_CN rm_Slt_init s args RX7 21 yX3_init "DaysLent" cX3_init 1 none wsX3_init rm_Led_init 6 60 0 := va_cnB (R := rm_Slt_init) (s := s) (args := args) (rm := rm_Led_init) (mc := 6) (ms := 60) 0 hts gX7_init_X3_init_n21 rfl rfl rfl hN.2.2.2.1 (hts (.initialized RX3) (by decide +kernel)) (by decide +kernel) ⟨Nat.le_of_ble_eq_true rfl, Nat.le_of_ble_eq_true rfl⟩
        refine va_callv (va_runIN (As := []) (rest := [.ref q, .int (nI i), .ref qb]) ⟨hx, hb, hml, hown, hts⟩ (c_Led_init l D cs q _) ⟨wI, rfl, hts (.instanceMethod yX3_init) (by decide +kernel)⟩ ⟨xP_moved, fun U hU hW => ⟨rfl, by rw [hU], by rw [hU]; exact hPc, va_K.moved hW.alike hK, hDc.weaken (fun _ _ _ _ => trivial)⟩⟩ rfl rfl hl.1 rfl (lv_room (Nat.le_of_ble_eq_true rfl)) dX7_init_35 ⟨by show 2 + 7 * i + 1 + 6 ≤ 16; omega, by show 4 + 71 * i + 11 + 60 ≤ 146; omega⟩) hS (fun q _ h9 => hFc q h9) hFc (fun u t H1 locs ht hvm hw hB hz1 hk1 hS => ?_)
        obtain ⟨hP1, hK1, hD1⟩ := hB
        rw [ht] at hP1
        obtain ⟨hP, hD⟩ := joinB (bs := [[(o, .inr (7, [.ref qb, .ref q14])), (qb, .inl (cs 3, 2, .inr (.inr (.inr (.inr (fun j => if j < i then some (la j) else none)))))), (q14, .inl (cs 1, 2, .inl (fun _ => 0)))], w_Pool cs la lh (fun _ _ => 0) (fun _ _ _ => 0) i, [(q, .inr (3, [.int 0, .int 0, .int 0, .int 0, .int 0, .null, .null, .null, .null, .null, .null]))]]) (ca := [[(q, .inr (3, [.int 0, .int 0, .int 0, .int 0, .int 0, .null, .null, .null, .null, .null, .null]))]]) (ra := [[(o, .inr (7, [.ref qb, .ref q14])), (qb, .inl (cs 3, 2, .inr (.inr (.inr (.inr (fun j => if j < i then some (la j) else none)))))), (q14, .inl (cs 1, 2, .inl (fun _ => 0)))], w_Pool cs la lh (fun _ _ => 0) (fun _ _ _ => 0) i]) [2, 0, 1] (by decide) rfl rfl hP hD hk1 hFc (cb := [w_Led cs q u (fun _ => 0) (fun _ _ => 0)]) hP1 hD1 (be := [[(o, .inr (7, [.ref qb, .ref q14])), (qb, .inl (cs 3, 2, .inr (.inr (.inr (.inr (fun j => if j < i then some (la j) else none)))))), (q14, .inl (cs 1, 2, .inl (fun _ => 0)))], w_Led cs q u (fun _ => 0) (fun _ _ => 0), w_Pool cs la lh (fun _ _ => 0) (fun _ _ _ => 0) i]) [1, 0, 2] (by decide) rfl rfl
        refine va_astq (r := (RX3, TX3, 11)) (f := fun j => if j < i then some (la j) else none) hx hb hK hP hD hS 1 3 3 3 rfl rfl rfl rfl (vp_in_nI hlt (by decide)) dX7_init_38 (fun H locs hP hD hS => ?_)
        rw [hiI, pool_fill] at hP hD
        have hP : va_P D vwCl (List.flatten [[(o, .inr (7, [.ref qb, .ref q14])), (qb, .inl (cs 3, 2, .inr (.inr (.inr (.inr (fun j => if j < (i + 1) then some ((va_up la i q) j) else none)))))), (q14, .inl (cs 1, 2, .inl (fun _ => 0)))], w_Led cs q u (fun _ => 0) (fun _ _ => 0), w_Pool cs la lh (fun _ _ => 0) (fun _ _ _ => 0) i]) H := hP
        have hD : va_D A (List.flatten [[(o, .inr (7, [.ref qb, .ref q14])), (qb, .inl (cs 3, 2, .inr (.inr (.inr (.inr (fun j => if j < (i + 1) then some ((va_up la i q) j) else none)))))), (q14, .inl (cs 1, 2, .inl (fun _ => 0)))], w_Led cs q u (fun _ => 0) (fun _ _ => 0), w_Pool cs la lh (fun _ _ => 0) (fun _ _ _ => 0) i]) := hD
        have hpp : (List.flatten [[(o, .inr (7, [.ref qb, .ref q14])), (qb, .inl (cs 3, 2, .inr (.inr (.inr (.inr (fun j => if j < (i + 1) then some ((va_up la i q) j) else none)))))), (q14, .inl (cs 1, 2, .inl (fun _ => 0)))], w_Led cs q u (fun _ => 0) (fun _ _ => 0), w_Pool cs la lh (fun _ _ => 0) (fun _ _ _ => 0) i]).Perm (List.flatten [[(o, .inr (7, [.ref qb, .ref q14])), (qb, .inl (cs 3, 2, .inr (.inr (.inr (.inr (fun j => if j < (i + 1) then some ((va_up la i q) j) else none)))))), (q14, .inl (cs 1, 2, .inl (fun _ => 0)))], w_Pool cs (va_up la i q) (va_up lh i u) (fun _ _ => 0) (fun _ _ _ => 0) (i + 1)]) := by
          simp only [List.flatten_cons, List.flatten_nil, List.append_nil]
          exact (pool_push cs la lh i q u).append_left _
        have hP := pPerm hpp hP
        have hD := dPerm hpp hD
        refine lv_iinc (v := nI (i + 1)) (lv' := [(1, .int (nI (i + 1))), (0, .ref o)]) hx hb dX7_init_39 hl (k := 1) rfl (nI_1 i) (by decide) rfl (fun ls hl => ?_)
        refine lv_goto (tgt := 21) hx hb dX7_init_42 (by decide) ?_
        refine W.widen (k := 2 + 7 * (i + 1)) (n := 4 + 71 * (i + 1)) (by omega) (by omega) ?_
        exact ih (i + 1) _ _ _ _ (by omega) (by omega) hP hD hS _ (lv_sub hl [1, 0] rfl)
  have e0 : (fun _ : Nat => (none : Option Nat)) = fun j => if j < 0 then some ((fun _ => 0) j) else none := by funext j; rw [if_neg (Nat.not_lt_zero j)]
  rw [e0] at hP hD
  refine LP 3 0 (fun _ => 0) (fun _ _ => 0) _ _ (Nat.zero_le _) (by decide) ?_ ?_ hS _ (lv_sub hl [1, 0] rfl)
  · exact hP
  · exact hD
