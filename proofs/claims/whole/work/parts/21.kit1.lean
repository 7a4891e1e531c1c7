/-! ===== worlds of several blocks: by permutation of blocks ===== -/
theorem pPerm {D : va_G} {cl : List vw_C} {ws ws' : va_W} {H : Heap} (h : ws.Perm ws') (hP : va_P D cl ws H) : va_P D cl ws' H := by
  intro k q hk
  obtain ⟨i, hi⟩ := List.mem_iff_getElem?.mp (h.mem_iff.mpr (List.mem_of_getElem? hk))
  exact hP i q hi
theorem dN {A : Nat → Prop} {ws : va_W} : va_D A ws ↔ (ws.map Prod.fst).Nodup ∧ ∀ q ∈ ws, A q.1 := by
  constructor
  · intro h
    obtain ⟨h1, h2⟩ := h
    refine ⟨?_, fun q hq => ?_⟩
    · rw [List.Nodup, List.pairwise_iff_getElem]
      intro i j hi hj hij he
      rw [List.length_map] at hi hj
      have h3 := h1 i j ws[i] ws[j] (List.getElem?_eq_getElem hi) (List.getElem?_eq_getElem hj) (by simpa using he)
      omega
    · obtain ⟨i, hi⟩ := List.mem_iff_getElem?.mp hq
      exact h2 i q hi
  · intro h
    obtain ⟨h1, h2⟩ := h
    rw [List.Nodup, List.pairwise_iff_getElem] at h1
    refine ⟨fun i j p q hi hj he => ?_, fun k q hk => h2 q (List.mem_of_getElem? hk)⟩
    obtain ⟨hi', rfl⟩ := List.getElem?_eq_some_iff.mp hi
    obtain ⟨hj', rfl⟩ := List.getElem?_eq_some_iff.mp hj
    rcases Nat.lt_trichotomy i j with h | h | h
    · exact absurd he (by have h9 := h1 i j (by simpa using hi') (by simpa using hj') h; simpa using h9)
    · exact h
    · exact absurd he.symm (by have h9 := h1 j i (by simpa using hj') (by simpa using hi') h; simpa using h9)
theorem dPerm {A : Nat → Prop} {ws ws' : va_W} (h : ws.Perm ws') (hD : va_D A ws) : va_D A ws' := by
  rw [dN] at hD ⊢
  exact ⟨(h.map Prod.fst).nodup_iff.mp hD.1, fun q hq => hD.2 q (h.mem_iff.mpr hq)⟩
theorem pLeft {D : va_G} {cl : List vw_C} {a b : va_W} {H : Heap} (hP : va_P D cl (a ++ b) H) : va_P D cl a H := by
  intro k q hk
  obtain ⟨hlt, -⟩ := List.getElem?_eq_some_iff.mp hk
  exact hP k q (by rw [List.getElem?_append_left hlt]; exact hk)
theorem dLeft {A : Nat → Prop} {a b : va_W} (hD : va_D A (a ++ b)) : va_D A a := by
  rw [dN] at hD ⊢
  rw [List.map_append] at hD
  exact ⟨(List.nodup_append.mp hD.1).1, fun q hq => hD.2 q (List.mem_append_left _ hq)⟩
theorem blkPerm (bs : List va_W) (is : List Nat) (hp : (List.range bs.length).Perm is) : bs.flatten.Perm (is.map (fun i => bs.getD i [])).flatten := by
  have e : (List.range bs.length).map (fun i => bs.getD i []) = bs := by
    apply List.ext_getElem
    · simp
    · intro i h1 h2
      simp [h2]
  have h := (hp.map (fun i => bs.getD i [])).flatten
  rw [e] at h
  exact h
theorem subB {D : va_G} {cl : List vw_C} {H : Heap} {bs ca ra : List va_W} (is : List Nat) (hp : (List.range is.length).Perm is) (hl : bs.length = is.length) (e : is.map (fun i => bs.getD i []) = ca ++ ra) (hP : va_P D cl bs.flatten H) : va_P D cl ca.flatten H := by
  have h := blkPerm bs is (by rw [hl]; exact hp)
  rw [e, List.flatten_append] at h
  exact pLeft (pPerm h hP)
theorem subD {A : Nat → Prop} {bs ca ra : List va_W} (is : List Nat) (hp : (List.range is.length).Perm is) (hl : bs.length = is.length) (e : is.map (fun i => bs.getD i []) = ca ++ ra) (hD : va_D A bs.flatten) : va_D A ca.flatten := by
  have h := blkPerm bs is (by rw [hl]; exact hp)
  rw [e, List.flatten_append] at h
  exact dLeft (dPerm h hD)
theorem joinB {D : va_G} {cl : List vw_C} {A0 : Nat → Prop} {H H1 : Heap} {bs ca ra cb be : List va_W} (is : List Nat) (hp : (List.range is.length).Perm is) (hl : bs.length = is.length) (e : is.map (fun i => bs.getD i []) = ca ++ ra) (hP : va_P D cl bs.flatten H) (hD : va_D A0 bs.flatten)
    (hk : ∀ q : Nat, q < H.size → ¬ va_A ca.flatten H.size q → H1[q]? = H[q]?) (hF : ∀ q, va_A ca.flatten H.size q → A0 q) (hP1 : va_P D cl cb.flatten H1) (hD1 : va_D (va_A ca.flatten H.size) cb.flatten) (js : List Nat) (hp2 : (List.range js.length).Perm js) (hl2 : (cb ++ ra).length = js.length) (e2 : js.map (fun i => (cb ++ ra).getD i []) = be) : va_P D cl be.flatten H1 ∧ va_D A0 be.flatten := by
  have h := blkPerm bs is (by rw [hl]; exact hp)
  rw [e, List.flatten_append] at h
  have hPa := pPerm h hP
  have hDa := dPerm h hD
  have h2 := blkPerm (cb ++ ra) js (by rw [hl2]; exact hp2)
  rw [e2, List.flatten_append] at h2
  rw [dN, List.map_append, List.nodup_append] at hDa
  obtain ⟨⟨n1, n2, n3⟩, hA0⟩ := hDa
  have hr : ∀ q ∈ ra.flatten, q.1 < H.size ∧ ¬ va_A ca.flatten H.size q.1 ∧ va_at D cl q H := by
    intro q hq
    obtain ⟨i, hi⟩ := List.mem_iff_getElem?.mp (List.mem_append_right ca.flatten hq)
    have ha := hPa i q hi
    refine ⟨ha.lt, fun hv => ?_, ha⟩
    rcases hv with ⟨k, e9, hk9⟩ | hv
    · exact n3 q.1 (List.mem_map.mpr ⟨_, List.mem_of_getElem? hk9, rfl⟩) q.1 (List.mem_map.mpr ⟨_, hq, rfl⟩) rfl
    · exact absurd ha.lt (Nat.not_lt.mpr hv)
  have hPn : va_P D cl (cb.flatten ++ ra.flatten) H1 := by
    intro k q hq
    rcases List.mem_append.mp (List.mem_of_getElem? hq) with hm | hm
    · obtain ⟨i, hi⟩ := List.mem_iff_getElem?.mp hm
      exact hP1 i q hi
    · obtain ⟨g1, g2, g3⟩ := hr q hm
      exact g3.kept (hk q.1 g1 g2)
  have hDn : va_D A0 (cb.flatten ++ ra.flatten) := by
    rw [dN] at hD1 ⊢
    rw [List.map_append, List.nodup_append]
    refine ⟨⟨hD1.1, n2, ?_⟩, ?_⟩
    · intro a ha b hb hab
      obtain ⟨x, hx, rfl⟩ := List.mem_map.mp ha
      obtain ⟨y, hy, rfl⟩ := List.mem_map.mp hb
      exact (hr y hy).2.1 (hab ▸ hD1.2 x hx)
    · intro q hq
      rcases List.mem_append.mp hq with hm | hm
      · exact hF q.1 (hD1.2 q hm)
      · exact hA0 q (List.mem_append_right _ hm)
  exact ⟨pPerm h2 hPn, dPerm h2 hDn⟩
def w_Led (cs : Nat → ClassId) (o : Nat) (h : Nat → Nat) (I : FI) (V : FV) : va_W := [(o, .inr (3, [.int (I 0), .int (I 1), .int (I 2), .int (I 3), .int (I 4), .ref (h 5), .ref (h 6), .ref (h 7), .ref (h 8), .ref (h 9), .ref (h 10)])),
  (h 5, .inl (cs 0, 6, .inl (V 5))),
  (h 6, .inl (cs 0, 6, .inl (V 6))),
  (h 7, .inl (cs 0, 12, .inl (V 7))),
  (h 8, .inl (cs 0, 12, .inl (V 8))),
  (h 9, .inl (cs 0, 12, .inl (V 9))),
  (h 10, .inl (cs 0, 12, .inl (V 10)))]
def w_Txt (cs : Nat → ClassId) (o : Nat) (h : Nat → Nat) (I : FI) (V : FV) : va_W := [(o, .inr (8, [.ref (h 0), .int (I 1)])),
  (h 0, .inl (cs 2, 80, .inl (V 0)))]
def w_Day (cs : Nat → ClassId) (o : Nat) (h : Nat → Nat) (I : FI) (V : FV) : va_W := [(o, .inr (2, [.ref (h 0), .ref (h 1), .ref (h 2), .int (I 3)])),
  (h 0, .inl (cs 0, 12, .inl (V 0))),
  (h 1, .inl (cs 0, 12, .inl (V 1))),
  (h 2, .inl (cs 1, 12, .inl (V 2)))]
def w_Set (cs : Nat → ClassId) (o : Nat) (h : Nat → Nat) (I : FI) (V : FV) : va_W := [(o, .inr (6, [.ref (h 0), .ref (h 1)])),
  (h 0, .inl (cs 0, 64, .inl (V 0))),
  (h 1, .inl (cs 0, 64, .inl (V 1)))]
def w_Rng (cs : Nat → ClassId) (o : Nat) (h : Nat → Nat) (I : FI) (V : FV) : va_W := [(o, .inr (5, [.ref (h 0)])),
  (h 0, .inl (cs 0, 6, .inl (V 0)))]
def w_Crd (cs : Nat → ClassId) (o : Nat) (h : Nat → Nat) (I : FI) (V : FV) : va_W := [(o, .inr (1, [.ref (h 0), .ref (h 1), .int (I 2), .int (I 3)])),
  (h 0, .inl (cs 0, 64, .inl (V 0))),
  (h 1, .inl (cs 0, 64, .inl (V 1)))]
def w_Act (cs : Nat → ClassId) (o : Nat) (h : Nat → Nat) (la : Nat → Nat) (I : FI) (V : FV) : va_W := [(o, .inr (0, [.ref (h 0), .int (I 1), .int (I 2)])),
  (h 0, .inl (cs 3, 10, .inr (.inr (.inr (.inr (fun i => if i < 10 then some (la i) else none))))))]
def w_Slt (cs : Nat → ClassId) (o : Nat) (h : Nat → Nat) (la : Nat → Nat) (I : FI) (V : FV) : va_W := [(o, .inr (7, [.ref (h 0), .ref (h 1)])),
  (h 0, .inl (cs 3, 2, .inr (.inr (.inr (.inr (fun i => if i < 2 then some (la i) else none)))))),
  (h 1, .inl (cs 1, 2, .inl (V 1)))]
def w_Lnd (cs : Nat → ClassId) (o : Nat) (h : Nat → Nat) (I : FI) (V : FV) : va_W := [(o, .inr (4, [.ref (h 0), .ref (h 1)])),
  (h 0, .inl (cs 4, 7, .inr (.inr (.inr (.inr (fun i => if i < 7 then some (h (10 + i)) else none)))))),
  (h 1, .inl (cs 0, 6, .inl (V 1))),
  (h 10, .inl (cs 0, 100, .inl (V 10))),
  (h 11, .inl (cs 0, 100, .inl (V 11))),
  (h 12, .inl (cs 0, 100, .inl (V 12))),
  (h 13, .inl (cs 0, 100, .inl (V 13))),
  (h 14, .inl (cs 0, 100, .inl (V 14))),
  (h 15, .inl (cs 0, 100, .inl (V 15))),
  (h 16, .inl (cs 0, 100, .inl (V 16)))]
def w_X (cs : Nat → ClassId) (o : Nat) (h : Nat → Nat) (I : FI) (V : FV) : va_W := [(o, .inr (9, [.ref (h 0), .ref (h 1), .ref (h 2), .ref (h 3), .ref (h 4), .ref (h 5), .ref (h 6), .ref (h 7), .ref (h 8)]))]
/-! ===== pools of ledgers ===== -/
def w_Pool (cs : Nat → ClassId) (la : Nat → Nat) (lh : Nat → Nat → Nat) (LI : Nat → FI) (LV : Nat → FV) (n : Nat) : va_W := (List.range n).flatMap (fun i => w_Led cs (la i) (lh i) (LI i) (LV i))
def w_PoolX (cs : Nat → ClassId) (la : Nat → Nat) (lh : Nat → Nat → Nat) (LI : Nat → FI) (LV : Nat → FV) (n i : Nat) : va_W := ((List.range n).erase i).flatMap (fun i => w_Led cs (la i) (lh i) (LI i) (LV i))
theorem poolP (cs : Nat → ClassId) (la : Nat → Nat) (lh : Nat → Nat → Nat) (LI : Nat → FI) (LV : Nat → FV) {n i : Nat} (h : i < n) : (w_Pool cs la lh LI LV n).Perm (w_Led cs (la i) (lh i) (LI i) (LV i) ++ w_PoolX cs la lh LI LV n i) := by
  have h1 := List.perm_cons_erase (List.mem_range.mpr h)
  have h2 := h1.flatMap_right (fun i => w_Led cs (la i) (lh i) (LI i) (LV i))
  rw [List.flatMap_cons] at h2
  exact h2
theorem poolU (cs : Nat → ClassId) (la : Nat → Nat) (lh : Nat → Nat → Nat) (LI : Nat → FI) (LV : Nat → FV) {n i : Nat} (h : i < n) (I : FI) (V : FV) : (w_Led cs (la i) (lh i) I V ++ w_PoolX cs la lh LI LV n i).Perm (w_Pool cs la lh (va_up LI i I) (va_up LV i V) n) := by
  have h1 := (poolP cs la lh (va_up LI i I) (va_up LV i V) h).symm
  rw [va_up_self, va_up_self] at h1
  have e : w_PoolX cs la lh (va_up LI i I) (va_up LV i V) n i = w_PoolX cs la lh LI LV n i := by
    unfold w_PoolX
    rw [List.flatMap_def, List.flatMap_def]
    refine congrArg List.flatten (List.map_congr_left fun j hj => ?_)
    have hne : j ≠ i := ((List.Nodup.mem_erase_iff List.nodup_range).mp hj).1
    rw [va_up_ne _ _ hne, va_up_ne _ _ hne]
  rw [e] at h1
  exact h1
theorem pool_out {A B : List va_W} {cs : Nat → ClassId} {la : Nat → Nat} {lh : Nat → Nat → Nat} {LI : Nat → FI} {LV : Nat → FV} {n i : Nat} (h : i < n) : (A ++ w_Pool cs la lh LI LV n :: B).flatten.Perm (A ++ w_Led cs (la i) (lh i) (LI i) (LV i) :: w_PoolX cs la lh LI LV n i :: B).flatten := by
  rw [List.flatten_append, List.flatten_append, List.flatten_cons, List.flatten_cons, List.flatten_cons, ← List.append_assoc (w_Led cs (la i) (lh i) (LI i) (LV i))]
  exact ((poolP cs la lh LI LV h).append_right _).append_left _
theorem pool_in {A B : List va_W} {cs : Nat → ClassId} {la : Nat → Nat} {lh : Nat → Nat → Nat} {LI : Nat → FI} {LV : Nat → FV} {n i : Nat} {I : FI} {V : FV} (h : i < n) : (A ++ w_Led cs (la i) (lh i) I V :: w_PoolX cs la lh LI LV n i :: B).flatten.Perm (A ++ w_Pool cs la lh (va_up LI i I) (va_up LV i V) n :: B).flatten := by
  rw [List.flatten_append, List.flatten_append, List.flatten_cons, List.flatten_cons, List.flatten_cons, ← List.append_assoc (w_Led cs (la i) (lh i) I V)]
  exact ((poolU cs la lh LI LV h I V).append_right _).append_left _
/-! ===== the class's own words ===== -/
abbrev yN (U : State) : Prop := va_Nw (.methodLinkNest RX3 60 yX9_isIn "DaysLent") U ∧ va_Nw (.methodLinkNest RX3 81 yX9_askedFor "DaysLent") U ∧ va_Nw (.methodLinkNest RX4 41 yX9_askedFor "DaysLent") U ∧ va_Nw (.methodLinkNest RX6 32 yX9_isIn "DaysLent") U
theorem yN_warm {s U : State} (hW : s.WarmedH U.vm) (h : yN s) : yN U := ⟨va_Nw.warmM hW h.1, va_Nw.warmM hW h.2.1, va_Nw.warmM hW h.2.2.1, va_Nw.warmM hW h.2.2.2⟩
theorem yN_same {u U : State} (e : u.vm = U.vm) (h : yN u) : yN U := ⟨va_Nw.same rfl e h.1, va_Nw.same rfl e h.2.1, va_Nw.same rfl e h.2.2.1, va_Nw.same rfl e h.2.2.2⟩
abbrev yP (D : va_G) (cs : Nat → ClassId) (w : va_W) (sz : Nat) : State → Prop := fun U => U.heap.size = sz ∧ va_P D vwCl w U.heap ∧ va_K D vwCl (tyA cs) U ∧ yN U ∧ va_D (fun _ => True) w
abbrev yR (D : va_G) (cs : Nat → ClassId) (w : va_W) : State → Prop := fun U => va_P D vwCl w U.heap ∧ va_K D vwCl (tyA cs) U ∧ yN U
theorem yP_moved {D : va_G} {cs : Nat → ClassId} {w : va_W} {sz : Nat} {av : List Value} : FrameBlind (va_Pc av (yP D cs w sz)) := fun a U g mk q => ⟨q.1, q.2.1, q.2.2.1, va_K.moved (u := U) (U := U.calling g mk a) (Vm.Alike.refl U.vm) q.2.2.2.1, yN_same (u := U) (U := U.calling g mk a) rfl q.2.2.2.2.1, q.2.2.2.2.2⟩
theorem yR_moved {D : va_G} {cs : Nat → ClassId} {w : va_W} {av : List Value} : FrameBlind (va_Pc av (yR D cs w)) := fun a U g mk q => ⟨q.1, q.2.1, va_K.moved (u := U) (U := U.calling g mk a) (Vm.Alike.refl U.vm) q.2.2.1, yN_same (u := U) (U := U.calling g mk a) rfl q.2.2.2⟩
section XA
variable {p : Program} {l : Launch} {e : Env} {R : Room} {s : State} {m : MethodId} {args : Array Value} {below : List Frame} {meth : Method} {c : Code} {H : Heap} {locs : List Loc} {cells slots : Nat} {Q : State → Prop}
variable {cc : ByteArray} {pc : Nat} {ls : Array Slot} {rest : List Value} {D : va_G} {cl : List vw_C} {A : Nat → Prop} {a : Nat} {tys : List (ClassId × FieldType)} {ws : va_W} {H0 : Heap}
theorem xaldA (hexec : p.tables.exec = Jvm.exec) (hb : c.code = cc) (hK : va_K D cl tys s) (hP : va_P D cl ws H) (q0 t0 : Nat) {cA : ClassId} {n : Nat} {f : Nat → Option Nat} (ha : ws[q0]? = some (a, .inl (cA, n, .inr (.inr (.inr (.inr f)))))) (ht : tys[t0]? = some (cA, .array .int)) {i : Int32} (hin : vp_in i n) (hdg : decode cc pc = .ok (.aaload, 1))
    (kk : W p l e R s m args below meth c H locs cells slots Q (F0 m (pc + 1) ls (va_rf (f i.toNatClampNeg) :: rest))) : W p l e R s m args below meth c H locs cells slots Q (F0 m pc ls (.int i :: .ref a :: rest)) := by
  have hlt : i.toNatClampNeg < n := Nat.not_le.mp fun q => hin (Or.inr q)
  exact W.aald (v := va_rf (f i.toNatClampNeg)) (ty := .array .int) hexec hb (hP q0 _ ha) ((hK.2 t0 _ ht).1 n (fun j => va_rf (f j))) rfl (fun q => by cases q) (by show ¬ (i < 0 ∨ (arrV _ _ _).slots.size ≤ _); rw [arrV_size]; exact hin) (by show (arrV _ _ _).slots[_]? = _; rw [arrV_read _ _ hlt]) rfl rfl hdg kk
end XA
