set_option maxHeartbeats 4000000 in
set_option maxRecDepth 100000 in
theorem law_fewest {Rel : (Nat → FI) → (Nat → FV) → (Nat → FI) → (Nat → FV) → (Nat → FI) → (Nat → FV) → FI → FV → Prop} {f : Nat} (S : Sim_fewest Rel f) {p : Program} {l : Launch} {e : Env} {s : State} {m : MethodId} {below : List Frame} {meth : Method} {c : Code} {b L : Nat} {xs : Nat → Int32} {D : va_G} {cs : Nat → ClassId} {o : Nat} {hX : Nat → Nat} {hs : Nat → Nat → Nat} {laa : Nat → Nat} {lah : Nat → Nat → Nat} {lsa : Nat → Nat} {lsh : Nat → Nat → Nat} {mo : Nat} {mh : Nat → Nat} (hx : p.tables.exec = Jvm.exec) (hb : c.code = code) (hml : c.maxLocals = 4) (hown : s.vm.findClass RL = some m.cls) (hts : ∀ w ∈ wsL_law, w.before #[Value.ref b] s = true) (hXs : va_X b L xs s s.heap) (hbl : b < s.heap.size) (hK : va_K D vwCl (tyA cs) s) (hN : yN s) {j : Nat} (hj : j + 5 ≤ L) (hL : L ≤ 2560) (SI : Nat → FI) (SV : Nat → FV) (LaI : Nat → FI) (LaV : Nat → FV) (LsI : Nat → FI) (LsV : Nat → FV) (I : FI) (V : FV) (hRel : Rel SI SV LaI LaV LsI LsV I V) (H : Heap) (locs : List Loc) (hP : va_P D vwCl (List.flatten (lwW cs o hX hs laa lah lsa lsh mo mh SI SV LaI LaV LsI LsV I V)) H) (hD : va_D (fun q : Nat => s.heap.size ≤ q) (List.flatten (lwW cs o hX hs laa lah lsa lsh mo mh SI SV LaI LaV LsI LsV I V))) (hS : va_S (fun q : Nat => s.heap.size ≤ q) s.heap H locs) (ls : Array Slot) (hl : lv_has ls 4 [(0, .ref b), (1, .ref o), (2, .ref mo), (3, .int (nI j))]) (K : ∀ (SI : Nat → FI) (SV : Nat → FV) (LaI : Nat → FI) (LaV : Nat → FV) (LsI : Nat → FI) (LsV : Nat → FV) (I : FI) (V : FV), Rel SI SV LaI LaV LsI LsV I V → ∀ (H : Heap) (locs : List Loc), va_P D vwCl (List.flatten (lwW cs o hX hs laa lah lsa lsh mo mh SI SV LaI LaV LsI LsV I V)) H → va_D (fun q : Nat => s.heap.size ≤ q) (List.flatten (lwW cs o hX hs laa lah lsa lsh mo mh SI SV LaI LaV LsI LsV I V)) → va_S (fun q : Nat => s.heap.size ≤ q) s.heap H locs → ∀ ls : Array Slot, lv_has ls 4 [(0, .ref b), (1, .ref o), (2, .ref mo), (3, .int (nI j))] → W p l e room_1 s m #[Value.ref b] below meth c H locs 149 4007 (lw_Z below #[Value.ref b] s) (F0 m 893 ls [])) : W p l e room_1 s m #[Value.ref b] below meth c H locs 149 4007 (lw_Z below #[Value.ref b] s) (F0 m 501 ls []) := by
  have hA : ∀ q : Nat, s.heap.size ≤ q → (fun q : Nat => s.heap.size ≤ q) q := fun _ h => h
  have hbA : ¬ (fun q : Nat => s.heap.size ≤ q) b := Nat.not_le.mpr hbl
  have h_1 : vp_in (nI j + 1) L := by rw [show (nI j + 1 : Int32) = nI (j + 1) from nI_add j 1]; exact vp_in_nI (by omega) (by omega)
  have h_2 : vp_in (nI j + 2) L := by rw [show (nI j + 2 : Int32) = nI (j + 2) from nI_add j 2]; exact vp_in_nI (by omega) (by omega)
  have h_3 : vp_in (nI j + 3) L := by rw [show (nI j + 3 : Int32) = nI (j + 3) from nI_add j 3]; exact vp_in_nI (by omega) (by omega)
  have h_4 : vp_in (nI j + 4) L := by rw [show (nI j + 4 : Int32) = nI (j + 4) from nI_add j 4]; exact vp_in_nI (by omega) (by omega)
  refine lv_aload_n hx hb dL_law_501 rfl (lv_at hl 1 rfl) ?_
  obtain ⟨r, nVset, I', V', q1, q2, hRel2⟩ := S SI SV LaI LaV LsI LsV I V  hRel 
  have hPc := subB (bs := lwW cs o hX hs laa lah lsa lsh mo mh SI SV LaI LaV LsI LsV I V) (ca := [w_X cs o hX (SI 99) (SV 99), w_Set cs (hX 5) (hs 5) (SI 5) (SV 5), w_Led cs (hX 1) (hs 1) (SI 1) (SV 1)]) (ra := [w_Txt cs (hX 0) (hs 0) (SI 0) (SV 0), w_Act cs (hX 2) (hs 2) laa (SI 2) (SV 2), w_Pool cs laa lah LaI LaV 10, w_Slt cs (hX 3) (hs 3) lsa (SI 3) (SV 3), w_Pool cs lsa lsh LsI LsV 2, w_Day cs (hX 4) (hs 4) (SI 4) (SV 4), w_Rng cs (hX 6) (hs 6) (SI 6) (SV 6), w_Lnd cs (hX 7) (hs 7) (SI 7) (SV 7), w_Crd cs (hX 8) (hs 8) (SI 8) (SV 8), w_M cs mo mh I V]) [0, 8, 2, 1, 3, 4, 5, 6, 7, 9, 10, 11, 12] (by decide) rfl rfl hP
  have wX := cwV (R := room_1) (s := s) (args := #[Value.ref b]) (rm := rm_X_fewest) (mc := 0) (ms := 0) 0 hts gL_law_X9_fewest rfl rfl rfl (by decide +kernel) ⟨Nat.le_of_ble_eq_true rfl, Nat.le_of_ble_eq_true rfl⟩
  have hDc := subD (bs := lwW cs o hX hs laa lah lsa lsh mo mh SI SV LaI LaV LsI LsV I V) (ca := [w_X cs o hX (SI 99) (SV 99), w_Set cs (hX 5) (hs 5) (SI 5) (SV 5), w_Led cs (hX 1) (hs 1) (SI 1) (SV 1)]) (ra := [w_Txt cs (hX 0) (hs 0) (SI 0) (SV 0), w_Act cs (hX 2) (hs 2) laa (SI 2) (SV 2), w_Pool cs laa lah LaI LaV 10, w_Slt cs (hX 3) (hs 3) lsa (SI 3) (SV 3), w_Pool cs lsa lsh LsI LsV 2, w_Day cs (hX 4) (hs 4) (SI 4) (SV 4), w_Rng cs (hX 6) (hs 6) (SI 6) (SV 6), w_Lnd cs (hX 7) (hs 7) (SI 7) (SV 7), w_Crd cs (hX 8) (hs 8) (SI 8) (SV 8), w_M cs mo mh I V]) [0, 8, 2, 1, 3, 4, 5, 6, 7, 9, 10, 11, 12] (by decide) rfl rfl hD
  have hFc := xfree hDc hS hA
  refine va_calli (va_runV (As := []) (rest := []) ⟨hx, hb, hml, hown, hts⟩ (c_X_fewest l D cs o hX (hs 5) (hs 1) _ (SI 99) (SV 99) (SI 5) (SV 5) (SI 1) (SV 1)  f _ q1) wX ⟨yP_moved, va_recv hK hPc (ci := 9) (q0 := 0) rfl rfl, fun U hU hW => ⟨rfl, by rw [hU], by rw [hU]; exact hPc, va_K.moved hW.alike hK, yN_warm hW hN, hDc.weaken (fun _ _ _ _ => trivial)⟩⟩ rfl rfl hl.1 rfl (lv_room (Nat.le_of_ble_eq_true rfl)) dL_law_502 ⟨Nat.le_of_ble_eq_true rfl, Nat.le_of_ble_eq_true rfl⟩) hS (fun q _ h9 => hFc q h9) hFc (fun r0 u t H1 locs ht hvm hw hB hz1 hk1 hS => ?_)
  have er0 := congrArg Prod.fst hw
  have eu := congrArg Prod.snd hw
  dsimp only at er0 eu
  rw [er0]
  rw [eu] at hB
  obtain ⟨hP1, hK1, hD1⟩ := hB
  rw [ht] at hP1
  obtain ⟨hP, hD⟩ := joinB (bs := lwW cs o hX hs laa lah lsa lsh mo mh SI SV LaI LaV LsI LsV I V) (ca := [w_X cs o hX (SI 99) (SV 99), w_Set cs (hX 5) (hs 5) (SI 5) (SV 5), w_Led cs (hX 1) (hs 1) (SI 1) (SV 1)]) (ra := [w_Txt cs (hX 0) (hs 0) (SI 0) (SV 0), w_Act cs (hX 2) (hs 2) laa (SI 2) (SV 2), w_Pool cs laa lah LaI LaV 10, w_Slt cs (hX 3) (hs 3) lsa (SI 3) (SV 3), w_Pool cs lsa lsh LsI LsV 2, w_Day cs (hX 4) (hs 4) (SI 4) (SV 4), w_Rng cs (hX 6) (hs 6) (SI 6) (SV 6), w_Lnd cs (hX 7) (hs 7) (SI 7) (SV 7), w_Crd cs (hX 8) (hs 8) (SI 8) (SV 8), w_M cs mo mh I V]) [0, 8, 2, 1, 3, 4, 5, 6, 7, 9, 10, 11, 12] (by decide) rfl rfl hP hD hk1 hFc (cb := [w_X cs o hX (SI 99) (SV 99), w_Set cs (hX 5) (hs 5) (SI 5) nVset, w_Led cs (hX 1) (hs 1) (SI 1) (SV 1)]) hP1 hD1 (be := lwW cs o hX hs laa lah lsa lsh mo mh SI (va_up SV 5 nVset) LaI LaV LsI LsV I V) [0, 3, 2, 4, 5, 6, 7, 8, 1, 9, 10, 11, 12] (by decide) rfl rfl
  refine lv_aload_n hx hb dL_law_505 rfl (lv_at hl 2 rfl) ?_
  have hPm := subB (bs := lwW cs o hX hs laa lah lsa lsh mo mh SI (va_up SV 5 nVset) LaI LaV LsI LsV I V) (ca := [w_M cs mo mh I V]) (ra := [w_X cs o hX (SI 99) (SV 99), w_Txt cs (hX 0) (hs 0) (SI 0) (SV 0), w_Led cs (hX 1) (hs 1) (SI 1) (SV 1), w_Act cs (hX 2) (hs 2) laa (SI 2) (SV 2), w_Pool cs laa lah LaI LaV 10, w_Slt cs (hX 3) (hs 3) lsa (SI 3) (SV 3), w_Pool cs lsa lsh LsI LsV 2, w_Day cs (hX 4) (hs 4) (SI 4) (SV 4), w_Set cs (hX 5) (hs 5) (SI 5) nVset, w_Rng cs (hX 6) (hs 6) (SI 6) (SV 6), w_Lnd cs (hX 7) (hs 7) (SI 7) (SV 7), w_Crd cs (hX 8) (hs 8) (SI 8) (SV 8)]) [12, 0, 1, 2, 3, 4, 5, 6, 7, 8, 9, 10, 11] (by decide) rfl rfl hP
  have hDm := subD (bs := lwW cs o hX hs laa lah lsa lsh mo mh SI (va_up SV 5 nVset) LaI LaV LsI LsV I V) (ca := [w_M cs mo mh I V]) (ra := [w_X cs o hX (SI 99) (SV 99), w_Txt cs (hX 0) (hs 0) (SI 0) (SV 0), w_Led cs (hX 1) (hs 1) (SI 1) (SV 1), w_Act cs (hX 2) (hs 2) laa (SI 2) (SV 2), w_Pool cs laa lah LaI LaV 10, w_Slt cs (hX 3) (hs 3) lsa (SI 3) (SV 3), w_Pool cs lsa lsh LsI LsV 2, w_Day cs (hX 4) (hs 4) (SI 4) (SV 4), w_Set cs (hX 5) (hs 5) (SI 5) nVset, w_Rng cs (hX 6) (hs 6) (SI 6) (SV 6), w_Lnd cs (hX 7) (hs 7) (SI 7) (SV 7), w_Crd cs (hX 8) (hs 8) (SI 8) (SV 8)]) [12, 0, 1, 2, 3, 4, 5, 6, 7, 8, 9, 10, 11] (by decide) rfl rfl hD
  have hPm : va_P D vwCl (w_M cs mo mh I V) _ := hPm
  have hDm : va_D (fun q : Nat => s.heap.size ≤ q) (w_M cs mo mh I V) := hDm
  have hFm := xfree hDm hS hA
  have wM := cwV (R := room_1) (s := s) (args := #[Value.ref b]) (rm := rm_M_fewest) (mc := 0) (ms := 0) 0 hts gL_law_X10_fewest rfl rfl rfl (by decide +kernel) ⟨Nat.le_of_ble_eq_true rfl, Nat.le_of_ble_eq_true rfl⟩
  refine va_calli (va_runV (As := []) (rest := [.int r]) ⟨hx, hb, hml, hown, hts⟩ (c_M_fewest l D cs mo mh _ I V  f _ q2) wM ⟨xP_moved, va_recv hK hPm (ci := 10) (q0 := 0) rfl rfl, fun U hU hW => ⟨rfl, by rw [hU], by rw [hU]; exact hPm, va_K.moved hW.alike hK, hDm.weaken (fun _ _ _ _ => trivial)⟩⟩ rfl rfl hl.1 rfl (lv_room (Nat.le_of_ble_eq_true rfl)) dL_law_506 ⟨Nat.le_of_ble_eq_true rfl, Nat.le_of_ble_eq_true rfl⟩) hS (fun q _ h9 => hFm q h9) hFm (fun r0 u t H1 locs ht hvm hw hB hz1 hk1 hS => ?_)
  have er0 := congrArg Prod.fst hw
  have eu := congrArg Prod.snd hw
  dsimp only at er0 eu
  rw [er0]
  rw [eu] at hB
  obtain ⟨hP1, hK1, hD1⟩ := hB
  rw [ht] at hP1
  have hP1 : va_P D vwCl (List.flatten [w_M cs mo mh I' V']) _ := hP1
  have hD1 : va_D (va_A (List.flatten [w_M cs mo mh I V]) _) (List.flatten [w_M cs mo mh I' V']) := hD1
  obtain ⟨hP, hD⟩ := joinB (bs := lwW cs o hX hs laa lah lsa lsh mo mh SI (va_up SV 5 nVset) LaI LaV LsI LsV I V) (ca := [w_M cs mo mh I V]) (ra := [w_X cs o hX (SI 99) (SV 99), w_Txt cs (hX 0) (hs 0) (SI 0) (SV 0), w_Led cs (hX 1) (hs 1) (SI 1) (SV 1), w_Act cs (hX 2) (hs 2) laa (SI 2) (SV 2), w_Pool cs laa lah LaI LaV 10, w_Slt cs (hX 3) (hs 3) lsa (SI 3) (SV 3), w_Pool cs lsa lsh LsI LsV 2, w_Day cs (hX 4) (hs 4) (SI 4) (SV 4), w_Set cs (hX 5) (hs 5) (SI 5) nVset, w_Rng cs (hX 6) (hs 6) (SI 6) (SV 6), w_Lnd cs (hX 7) (hs 7) (SI 7) (SV 7), w_Crd cs (hX 8) (hs 8) (SI 8) (SV 8)]) [12, 0, 1, 2, 3, 4, 5, 6, 7, 8, 9, 10, 11] (by decide) rfl rfl hP hD hk1 hFm (cb := [w_M cs mo mh I' V']) hP1 hD1 (be := lwW cs o hX hs laa lah lsa lsh mo mh SI (va_up SV 5 nVset) LaI LaV LsI LsV I' V') [1, 2, 3, 4, 5, 6, 7, 8, 9, 10, 11, 12, 0] (by decide) rfl rfl
  refine lv_icmp_eq (tgt := 893) hx hb dL_law_509 (by decide) (fun _ => ?_) (fun c9 => absurd rfl c9)
  exact K SI (va_up SV 5 nVset) LaI LaV LsI LsV I' V' hRel2 _ _ hP hD hS _ hl
set_option maxHeartbeats 4000000 in
set_option maxRecDepth 100000 in
theorem law_falls {Rel : (Nat → FI) → (Nat → FV) → (Nat → FI) → (Nat → FV) → (Nat → FI) → (Nat → FV) → FI → FV → Prop} {f : Nat} (S : Sim_falls Rel f) {p : Program} {l : Launch} {e : Env} {s : State} {m : MethodId} {below : List Frame} {meth : Method} {c : Code} {b L : Nat} {xs : Nat → Int32} {D : va_G} {cs : Nat → ClassId} {o : Nat} {hX : Nat → Nat} {hs : Nat → Nat → Nat} {laa : Nat → Nat} {lah : Nat → Nat → Nat} {lsa : Nat → Nat} {lsh : Nat → Nat → Nat} {mo : Nat} {mh : Nat → Nat} (hx : p.tables.exec = Jvm.exec) (hb : c.code = code) (hml : c.maxLocals = 4) (hown : s.vm.findClass RL = some m.cls) (hts : ∀ w ∈ wsL_law, w.before #[Value.ref b] s = true) (hXs : va_X b L xs s s.heap) (hbl : b < s.heap.size) (hK : va_K D vwCl (tyA cs) s) (hN : yN s) {j : Nat} (hj : j + 5 ≤ L) (hL : L ≤ 2560) (SI : Nat → FI) (SV : Nat → FV) (LaI : Nat → FI) (LaV : Nat → FV) (LsI : Nat → FI) (LsV : Nat → FV) (I : FI) (V : FV) (hRel : Rel SI SV LaI LaV LsI LsV I V) (H : Heap) (locs : List Loc) (hP : va_P D vwCl (List.flatten (lwW cs o hX hs laa lah lsa lsh mo mh SI SV LaI LaV LsI LsV I V)) H) (hD : va_D (fun q : Nat => s.heap.size ≤ q) (List.flatten (lwW cs o hX hs laa lah lsa lsh mo mh SI SV LaI LaV LsI LsV I V))) (hS : va_S (fun q : Nat => s.heap.size ≤ q) s.heap H locs) (ls : Array Slot) (hl : lv_has ls 4 [(0, .ref b), (1, .ref o), (2, .ref mo), (3, .int (nI j))]) (K : ∀ (SI : Nat → FI) (SV : Nat → FV) (LaI : Nat → FI) (LaV : Nat → FV) (LsI : Nat → FI) (LsV : Nat → FV) (I : FI) (V : FV), Rel SI SV LaI LaV LsI LsV I V → ∀ (H : Heap) (locs : List Loc), va_P D vwCl (List.flatten (lwW cs o hX hs laa lah lsa lsh mo mh SI SV LaI LaV LsI LsV I V)) H → va_D (fun q : Nat => s.heap.size ≤ q) (List.flatten (lwW cs o hX hs laa lah lsa lsh mo mh SI SV LaI LaV LsI LsV I V)) → va_S (fun q : Nat => s.heap.size ≤ q) s.heap H locs → ∀ ls : Array Slot, lv_has ls 4 [(0, .ref b), (1, .ref o), (2, .ref mo), (3, .int (nI j))] → W p l e room_1 s m #[Value.ref b] below meth c H locs 149 4007 (lw_Z below #[Value.ref b] s) (F0 m 893 ls [])) : W p l e room_1 s m #[Value.ref b] below meth c H locs 149 4007 (lw_Z below #[Value.ref b] s) (F0 m 514 ls []) := by
  have hA : ∀ q : Nat, s.heap.size ≤ q → (fun q : Nat => s.heap.size ≤ q) q := fun _ h => h
  have hbA : ¬ (fun q : Nat => s.heap.size ≤ q) b := Nat.not_le.mpr hbl
  have h_1 : vp_in (nI j + 1) L := by rw [show (nI j + 1 : Int32) = nI (j + 1) from nI_add j 1]; exact vp_in_nI (by omega) (by omega)
  have h_2 : vp_in (nI j + 2) L := by rw [show (nI j + 2 : Int32) = nI (j + 2) from nI_add j 2]; exact vp_in_nI (by omega) (by omega)
  have h_3 : vp_in (nI j + 3) L := by rw [show (nI j + 3 : Int32) = nI (j + 3) from nI_add j 3]; exact vp_in_nI (by omega) (by omega)
  have h_4 : vp_in (nI j + 4) L := by rw [show (nI j + 4 : Int32) = nI (j + 4) from nI_add j 4]; exact vp_in_nI (by omega) (by omega)
  refine lv_aload_n hx hb dL_law_514 rfl (lv_at hl 1 rfl) ?_
  refine lv_aload_n hx hb dL_law_515 rfl (lv_at hl 0 rfl) ?_
  refine lv_iload_n hx hb dL_law_516 rfl (lv_at hl 3 rfl) ?_
  refine lv_iconst (v := 1) hx hb dL_law_517 (by decide) ?_
  refine lv_iadd hx hb dL_law_518 ?_
  refine va_sld hx hb hXs hbl hbA hS h_1 dL_law_519 ?_
  obtain ⟨r, I', V', q1, q2, hRel2⟩ := S SI SV LaI LaV LsI LsV I V (xs ((nI j) + 1).toNatClampNeg) hRel 
  have hPc := subB (bs := lwW cs o hX hs laa lah lsa lsh mo mh SI SV LaI LaV LsI LsV I V) (ca := [w_X cs o hX (SI 99) (SV 99), w_Led cs (hX 1) (hs 1) (SI 1) (SV 1), w_Set cs (hX 5) (hs 5) (SI 5) (SV 5)]) (ra := [w_Txt cs (hX 0) (hs 0) (SI 0) (SV 0), w_Act cs (hX 2) (hs 2) laa (SI 2) (SV 2), w_Pool cs laa lah LaI LaV 10, w_Slt cs (hX 3) (hs 3) lsa (SI 3) (SV 3), w_Pool cs lsa lsh LsI LsV 2, w_Day cs (hX 4) (hs 4) (SI 4) (SV 4), w_Rng cs (hX 6) (hs 6) (SI 6) (SV 6), w_Lnd cs (hX 7) (hs 7) (SI 7) (SV 7), w_Crd cs (hX 8) (hs 8) (SI 8) (SV 8), w_M cs mo mh I V]) [0, 2, 8, 1, 3, 4, 5, 6, 7, 9, 10, 11, 12] (by decide) rfl rfl hP
  have wX := cwV (R := room_1) (s := s) (args := #[Value.ref b]) (rm := rm_X_falls) (mc := 0) (ms := 0) 1 hts gL_law_X9_falls rfl rfl rfl (by decide +kernel) ⟨Nat.le_of_ble_eq_true rfl, Nat.le_of_ble_eq_true rfl⟩
  refine vp_callSi (va_Run.run (va_runV (As := [.int (xs ((nI j) + 1).toNatClampNeg)]) (rest := []) ⟨hx, hb, hml, hown, hts⟩ (c_X_falls l D cs o hX (hs 1) (hs 5) (SI 99) (SV 99) (SI 1) (SV 1) (SI 5) (SV 5) (xs ((nI j) + 1).toNatClampNeg) f _ q1) wX ⟨yR_moved, va_recv hK hPc (ci := 9) (q0 := 0) rfl rfl, fun U hU hW => ⟨rfl, by rw [hU]; exact hPc, va_K.moved hW.alike hK, yN_warm hW hN⟩⟩ rfl rfl hl.1 rfl (lv_room (Nat.le_of_ble_eq_true rfl)) dL_law_520 ⟨Nat.le_of_ble_eq_true rfl, Nat.le_of_ble_eq_true rfl⟩)) (fun r0 er0 => ?_)
  rw [er0]
  refine lv_aload_n hx hb dL_law_523 rfl (lv_at hl 2 rfl) ?_
  refine lv_aload_n hx hb dL_law_524 rfl (lv_at hl 0 rfl) ?_
  refine lv_iload_n hx hb dL_law_525 rfl (lv_at hl 3 rfl) ?_
  refine lv_iconst (v := 1) hx hb dL_law_526 (by decide) ?_
  refine lv_iadd hx hb dL_law_527 ?_
  refine va_sld hx hb hXs hbl hbA hS h_1 dL_law_528 ?_
  have hPm := subB (bs := lwW cs o hX hs laa lah lsa lsh mo mh SI SV LaI LaV LsI LsV I V) (ca := [w_M cs mo mh I V]) (ra := [w_X cs o hX (SI 99) (SV 99), w_Txt cs (hX 0) (hs 0) (SI 0) (SV 0), w_Led cs (hX 1) (hs 1) (SI 1) (SV 1), w_Act cs (hX 2) (hs 2) laa (SI 2) (SV 2), w_Pool cs laa lah LaI LaV 10, w_Slt cs (hX 3) (hs 3) lsa (SI 3) (SV 3), w_Pool cs lsa lsh LsI LsV 2, w_Day cs (hX 4) (hs 4) (SI 4) (SV 4), w_Set cs (hX 5) (hs 5) (SI 5) (SV 5), w_Rng cs (hX 6) (hs 6) (SI 6) (SV 6), w_Lnd cs (hX 7) (hs 7) (SI 7) (SV 7), w_Crd cs (hX 8) (hs 8) (SI 8) (SV 8)]) [12, 0, 1, 2, 3, 4, 5, 6, 7, 8, 9, 10, 11] (by decide) rfl rfl hP
  have hDm := subD (bs := lwW cs o hX hs laa lah lsa lsh mo mh SI SV LaI LaV LsI LsV I V) (ca := [w_M cs mo mh I V]) (ra := [w_X cs o hX (SI 99) (SV 99), w_Txt cs (hX 0) (hs 0) (SI 0) (SV 0), w_Led cs (hX 1) (hs 1) (SI 1) (SV 1), w_Act cs (hX 2) (hs 2) laa (SI 2) (SV 2), w_Pool cs laa lah LaI LaV 10, w_Slt cs (hX 3) (hs 3) lsa (SI 3) (SV 3), w_Pool cs lsa lsh LsI LsV 2, w_Day cs (hX 4) (hs 4) (SI 4) (SV 4), w_Set cs (hX 5) (hs 5) (SI 5) (SV 5), w_Rng cs (hX 6) (hs 6) (SI 6) (SV 6), w_Lnd cs (hX 7) (hs 7) (SI 7) (SV 7), w_Crd cs (hX 8) (hs 8) (SI 8) (SV 8)]) [12, 0, 1, 2, 3, 4, 5, 6, 7, 8, 9, 10, 11] (by decide) rfl rfl hD
  have hPm : va_P D vwCl (w_M cs mo mh I V) _ := hPm
  have hDm : va_D (fun q : Nat => s.heap.size ≤ q) (w_M cs mo mh I V) := hDm
  have hFm := xfree hDm hS hA
  have wM := cwV (R := room_1) (s := s) (args := #[Value.ref b]) (rm := rm_M_falls) (mc := 0) (ms := 0) 1 hts gL_law_X10_falls rfl rfl rfl (by decide +kernel) ⟨Nat.le_of_ble_eq_true rfl, Nat.le_of_ble_eq_true rfl⟩
  refine va_calli (va_runV (As := [.int (xs ((nI j) + 1).toNatClampNeg)]) (rest := [.int r]) ⟨hx, hb, hml, hown, hts⟩ (c_M_falls l D cs mo mh _ I V (xs ((nI j) + 1).toNatClampNeg) f _ q2) wM ⟨xP_moved, va_recv hK hPm (ci := 10) (q0 := 0) rfl rfl, fun U hU hW => ⟨rfl, by rw [hU], by rw [hU]; exact hPm, va_K.moved hW.alike hK, hDm.weaken (fun _ _ _ _ => trivial)⟩⟩ rfl rfl hl.1 rfl (lv_room (Nat.le_of_ble_eq_true rfl)) dL_law_529 ⟨Nat.le_of_ble_eq_true rfl, Nat.le_of_ble_eq_true rfl⟩) hS (fun q _ h9 => hFm q h9) hFm (fun r0 u t H1 locs ht hvm hw hB hz1 hk1 hS => ?_)
  have er0 := congrArg Prod.fst hw
  have eu := congrArg Prod.snd hw
  dsimp only at er0 eu
  rw [er0]
  rw [eu] at hB
  obtain ⟨hP1, hK1, hD1⟩ := hB
  rw [ht] at hP1
  have hP1 : va_P D vwCl (List.flatten [w_M cs mo mh I' V']) _ := hP1
  have hD1 : va_D (va_A (List.flatten [w_M cs mo mh I V]) _) (List.flatten [w_M cs mo mh I' V']) := hD1
  obtain ⟨hP, hD⟩ := joinB (bs := lwW cs o hX hs laa lah lsa lsh mo mh SI SV LaI LaV LsI LsV I V) (ca := [w_M cs mo mh I V]) (ra := [w_X cs o hX (SI 99) (SV 99), w_Txt cs (hX 0) (hs 0) (SI 0) (SV 0), w_Led cs (hX 1) (hs 1) (SI 1) (SV 1), w_Act cs (hX 2) (hs 2) laa (SI 2) (SV 2), w_Pool cs laa lah LaI LaV 10, w_Slt cs (hX 3) (hs 3) lsa (SI 3) (SV 3), w_Pool cs lsa lsh LsI LsV 2, w_Day cs (hX 4) (hs 4) (SI 4) (SV 4), w_Set cs (hX 5) (hs 5) (SI 5) (SV 5), w_Rng cs (hX 6) (hs 6) (SI 6) (SV 6), w_Lnd cs (hX 7) (hs 7) (SI 7) (SV 7), w_Crd cs (hX 8) (hs 8) (SI 8) (SV 8)]) [12, 0, 1, 2, 3, 4, 5, 6, 7, 8, 9, 10, 11] (by decide) rfl rfl hP hD hk1 hFm (cb := [w_M cs mo mh I' V']) hP1 hD1 (be := lwW cs o hX hs laa lah lsa lsh mo mh SI SV LaI LaV LsI LsV I' V') [1, 2, 3, 4, 5, 6, 7, 8, 9, 10, 11, 12, 0] (by decide) rfl rfl
  refine lv_icmp_eq (tgt := 893) hx hb dL_law_532 (by decide) (fun _ => ?_) (fun c9 => absurd rfl c9)
  exact K SI SV LaI LaV LsI LsV I' V' hRel2 _ _ hP hD hS _ hl
set_option maxHeartbeats 4000000 in
set_option maxRecDepth 100000 in
theorem law_ring {Rel : (Nat → FI) → (Nat → FV) → (Nat → FI) → (Nat → FV) → (Nat → FI) → (Nat → FV) → FI → FV → Prop} {f : Nat} (S : Sim_ring Rel f) {p : Program} {l : Launch} {e : Env} {s : State} {m : MethodId} {below : List Frame} {meth : Method} {c : Code} {b L : Nat} {xs : Nat → Int32} {D : va_G} {cs : Nat → ClassId} {o : Nat} {hX : Nat → Nat} {hs : Nat → Nat → Nat} {laa : Nat → Nat} {lah : Nat → Nat → Nat} {lsa : Nat → Nat} {lsh : Nat → Nat → Nat} {mo : Nat} {mh : Nat → Nat} (hx : p.tables.exec = Jvm.exec) (hb : c.code = code) (hml : c.maxLocals = 4) (hown : s.vm.findClass RL = some m.cls) (hts : ∀ w ∈ wsL_law, w.before #[Value.ref b] s = true) (hXs : va_X b L xs s s.heap) (hbl : b < s.heap.size) (hK : va_K D vwCl (tyA cs) s) (hN : yN s) {j : Nat} (hj : j + 5 ≤ L) (hL : L ≤ 2560) (SI : Nat → FI) (SV : Nat → FV) (LaI : Nat → FI) (LaV : Nat → FV) (LsI : Nat → FI) (LsV : Nat → FV) (I : FI) (V : FV) (hRel : Rel SI SV LaI LaV LsI LsV I V) (H : Heap) (locs : List Loc) (hP : va_P D vwCl (List.flatten (lwW cs o hX hs laa lah lsa lsh mo mh SI SV LaI LaV LsI LsV I V)) H) (hD : va_D (fun q : Nat => s.heap.size ≤ q) (List.flatten (lwW cs o hX hs laa lah lsa lsh mo mh SI SV LaI LaV LsI LsV I V))) (hS : va_S (fun q : Nat => s.heap.size ≤ q) s.heap H locs) (ls : Array Slot) (hl : lv_has ls 4 [(0, .ref b), (1, .ref o), (2, .ref mo), (3, .int (nI j))]) (K : ∀ (SI : Nat → FI) (SV : Nat → FV) (LaI : Nat → FI) (LaV : Nat → FV) (LsI : Nat → FI) (LsV : Nat → FV) (I : FI) (V : FV), Rel SI SV LaI LaV LsI LsV I V → ∀ (H : Heap) (locs : List Loc), va_P D vwCl (List.flatten (lwW cs o hX hs laa lah lsa lsh mo mh SI SV LaI LaV LsI LsV I V)) H → va_D (fun q : Nat => s.heap.size ≤ q) (List.flatten (lwW cs o hX hs laa lah lsa lsh mo mh SI SV LaI LaV LsI LsV I V)) → va_S (fun q : Nat => s.heap.size ≤ q) s.heap H locs → ∀ ls : Array Slot, lv_has ls 4 [(0, .ref b), (1, .ref o), (2, .ref mo), (3, .int (nI j))] → W p l e room_1 s m #[Value.ref b] below meth c H locs 149 4007 (lw_Z below #[Value.ref b] s) (F0 m 893 ls [])) : W p l e room_1 s m #[Value.ref b] below meth c H locs 149 4007 (lw_Z below #[Value.ref b] s) (F0 m 537 ls []) := by
  have hA : ∀ q : Nat, s.heap.size ≤ q → (fun q : Nat => s.heap.size ≤ q) q := fun _ h => h
  have hbA : ¬ (fun q : Nat => s.heap.size ≤ q) b := Nat.not_le.mpr hbl
  have h_1 : vp_in (nI j + 1) L := by rw [show (nI j + 1 : Int32) = nI (j + 1) from nI_add j 1]; exact vp_in_nI (by omega) (by omega)
  have h_2 : vp_in (nI j + 2) L := by rw [show (nI j + 2 : Int32) = nI (j + 2) from nI_add j 2]; exact vp_in_nI (by omega) (by omega)
  have h_3 : vp_in (nI j + 3) L := by rw [show (nI j + 3 : Int32) = nI (j + 3) from nI_add j 3]; exact vp_in_nI (by omega) (by omega)
  have h_4 : vp_in (nI j + 4) L := by rw [show (nI j + 4 : Int32) = nI (j + 4) from nI_add j 4]; exact vp_in_nI (by omega) (by omega)
  refine lv_aload_n hx hb dL_law_537 rfl (lv_at hl 1 rfl) ?_
  refine lv_aload_n hx hb dL_law_538 rfl (lv_at hl 0 rfl) ?_
  refine lv_iload_n hx hb dL_law_539 rfl (lv_at hl 3 rfl) ?_
  refine lv_iconst (v := 1) hx hb dL_law_540 (by decide) ?_
  refine lv_iadd hx hb dL_law_541 ?_
  refine va_sld hx hb hXs hbl hbA hS h_1 dL_law_542 ?_
  obtain ⟨r, nVrng, I', V', q1, q2, hRel2⟩ := S SI SV LaI LaV LsI LsV I V (xs ((nI j) + 1).toNatClampNeg) hRel 
  have hPc := subB (bs := lwW cs o hX hs laa lah lsa lsh mo mh SI SV LaI LaV LsI LsV I V) (ca := [w_X cs o hX (SI 99) (SV 99), w_Led cs (hX 1) (hs 1) (SI 1) (SV 1), w_Rng cs (hX 6) (hs 6) (SI 6) (SV 6)]) (ra := [w_Txt cs (hX 0) (hs 0) (SI 0) (SV 0), w_Act cs (hX 2) (hs 2) laa (SI 2) (SV 2), w_Pool cs laa lah LaI LaV 10, w_Slt cs (hX 3) (hs 3) lsa (SI 3) (SV 3), w_Pool cs lsa lsh LsI LsV 2, w_Day cs (hX 4) (hs 4) (SI 4) (SV 4), w_Set cs (hX 5) (hs 5) (SI 5) (SV 5), w_Lnd cs (hX 7) (hs 7) (SI 7) (SV 7), w_Crd cs (hX 8) (hs 8) (SI 8) (SV 8), w_M cs mo mh I V]) [0, 2, 9, 1, 3, 4, 5, 6, 7, 8, 10, 11, 12] (by decide) rfl rfl hP
  have wX := cwV (R := room_1) (s := s) (args := #[Value.ref b]) (rm := rm_X_ring) (mc := 0) (ms := 0) 1 hts gL_law_X9_ring rfl rfl rfl (by decide +kernel) ⟨Nat.le_of_ble_eq_true rfl, Nat.le_of_ble_eq_true rfl⟩
  have hDc := subD (bs := lwW cs o hX hs laa lah lsa lsh mo mh SI SV LaI LaV LsI LsV I V) (ca := [w_X cs o hX (SI 99) (SV 99), w_Led cs (hX 1) (hs 1) (SI 1) (SV 1), w_Rng cs (hX 6) (hs 6) (SI 6) (SV 6)]) (ra := [w_Txt cs (hX 0) (hs 0) (SI 0) (SV 0), w_Act cs (hX 2) (hs 2) laa (SI 2) (SV 2), w_Pool cs laa lah LaI LaV 10, w_Slt cs (hX 3) (hs 3) lsa (SI 3) (SV 3), w_Pool cs lsa lsh LsI LsV 2, w_Day cs (hX 4) (hs 4) (SI 4) (SV 4), w_Set cs (hX 5) (hs 5) (SI 5) (SV 5), w_Lnd cs (hX 7) (hs 7) (SI 7) (SV 7), w_Crd cs (hX 8) (hs 8) (SI 8) (SV 8), w_M cs mo mh I V]) [0, 2, 9, 1, 3, 4, 5, 6, 7, 8, 10, 11, 12] (by decide) rfl rfl hD
  have hFc := xfree hDc hS hA
  refine va_calli (va_runV (As := [.int (xs ((nI j) + 1).toNatClampNeg)]) (rest := []) ⟨hx, hb, hml, hown, hts⟩ (c_X_ring l D cs o hX (hs 1) (hs 6) _ (SI 99) (SV 99) (SI 1) (SV 1) (SI 6) (SV 6) (xs ((nI j) + 1).toNatClampNeg) f _ q1) wX ⟨yP_moved, va_recv hK hPc (ci := 9) (q0 := 0) rfl rfl, fun U hU hW => ⟨rfl, by rw [hU], by rw [hU]; exact hPc, va_K.moved hW.alike hK, yN_warm hW hN, hDc.weaken (fun _ _ _ _ => trivial)⟩⟩ rfl rfl hl.1 rfl (lv_room (Nat.le_of_ble_eq_true rfl)) dL_law_543 ⟨Nat.le_of_ble_eq_true rfl, Nat.le_of_ble_eq_true rfl⟩) hS (fun q _ h9 => hFc q h9) hFc (fun r0 u t H1 locs ht hvm hw hB hz1 hk1 hS => ?_)
  have er0 := congrArg Prod.fst hw
  have eu := congrArg Prod.snd hw
  dsimp only at er0 eu
  rw [er0]
  rw [eu] at hB
  obtain ⟨hP1, hK1, hD1⟩ := hB
  rw [ht] at hP1
  obtain ⟨hP, hD⟩ := joinB (bs := lwW cs o hX hs laa lah lsa lsh mo mh SI SV LaI LaV LsI LsV I V) (ca := [w_X cs o hX (SI 99) (SV 99), w_Led cs (hX 1) (hs 1) (SI 1) (SV 1), w_Rng cs (hX 6) (hs 6) (SI 6) (SV 6)]) (ra := [w_Txt cs (hX 0) (hs 0) (SI 0) (SV 0), w_Act cs (hX 2) (hs 2) laa (SI 2) (SV 2), w_Pool cs laa lah LaI LaV 10, w_Slt cs (hX 3) (hs 3) lsa (SI 3) (SV 3), w_Pool cs lsa lsh LsI LsV 2, w_Day cs (hX 4) (hs 4) (SI 4) (SV 4), w_Set cs (hX 5) (hs 5) (SI 5) (SV 5), w_Lnd cs (hX 7) (hs 7) (SI 7) (SV 7), w_Crd cs (hX 8) (hs 8) (SI 8) (SV 8), w_M cs mo mh I V]) [0, 2, 9, 1, 3, 4, 5, 6, 7, 8, 10, 11, 12] (by decide) rfl rfl hP hD hk1 hFc (cb := [w_X cs o hX (SI 99) (SV 99), w_Led cs (hX 1) (hs 1) (SI 1) (SV 1), w_Rng cs (hX 6) (hs 6) (SI 6) nVrng]) hP1 hD1 (be := lwW cs o hX hs laa lah lsa lsh mo mh SI (va_up SV 6 nVrng) LaI LaV LsI LsV I V) [0, 3, 1, 4, 5, 6, 7, 8, 9, 2, 10, 11, 12] (by decide) rfl rfl
  refine lv_aload_n hx hb dL_law_546 rfl (lv_at hl 2 rfl) ?_
  refine lv_aload_n hx hb dL_law_547 rfl (lv_at hl 0 rfl) ?_
  refine lv_iload_n hx hb dL_law_548 rfl (lv_at hl 3 rfl) ?_
  refine lv_iconst (v := 1) hx hb dL_law_549 (by decide) ?_
  refine lv_iadd hx hb dL_law_550 ?_
  refine va_sld hx hb hXs hbl hbA hS h_1 dL_law_551 ?_
  have hPm := subB (bs := lwW cs o hX hs laa lah lsa lsh mo mh SI (va_up SV 6 nVrng) LaI LaV LsI LsV I V) (ca := [w_M cs mo mh I V]) (ra := [w_X cs o hX (SI 99) (SV 99), w_Txt cs (hX 0) (hs 0) (SI 0) (SV 0), w_Led cs (hX 1) (hs 1) (SI 1) (SV 1), w_Act cs (hX 2) (hs 2) laa (SI 2) (SV 2), w_Pool cs laa lah LaI LaV 10, w_Slt cs (hX 3) (hs 3) lsa (SI 3) (SV 3), w_Pool cs lsa lsh LsI LsV 2, w_Day cs (hX 4) (hs 4) (SI 4) (SV 4), w_Set cs (hX 5) (hs 5) (SI 5) (SV 5), w_Rng cs (hX 6) (hs 6) (SI 6) nVrng, w_Lnd cs (hX 7) (hs 7) (SI 7) (SV 7), w_Crd cs (hX 8) (hs 8) (SI 8) (SV 8)]) [12, 0, 1, 2, 3, 4, 5, 6, 7, 8, 9, 10, 11] (by decide) rfl rfl hP
  have hDm := subD (bs := lwW cs o hX hs laa lah lsa lsh mo mh SI (va_up SV 6 nVrng) LaI LaV LsI LsV I V) (ca := [w_M cs mo mh I V]) (ra := [w_X cs o hX (SI 99) (SV 99), w_Txt cs (hX 0) (hs 0) (SI 0) (SV 0), w_Led cs (hX 1) (hs 1) (SI 1) (SV 1), w_Act cs (hX 2) (hs 2) laa (SI 2) (SV 2), w_Pool cs laa lah LaI LaV 10, w_Slt cs (hX 3) (hs 3) lsa (SI 3) (SV 3), w_Pool cs lsa lsh LsI LsV 2, w_Day cs (hX 4) (hs 4) (SI 4) (SV 4), w_Set cs (hX 5) (hs 5) (SI 5) (SV 5), w_Rng cs (hX 6) (hs 6) (SI 6) nVrng, w_Lnd cs (hX 7) (hs 7) (SI 7) (SV 7), w_Crd cs (hX 8) (hs 8) (SI 8) (SV 8)]) [12, 0, 1, 2, 3, 4, 5, 6, 7, 8, 9, 10, 11] (by decide) rfl rfl hD
  have hPm : va_P D vwCl (w_M cs mo mh I V) _ := hPm
  have hDm : va_D (fun q : Nat => s.heap.size ≤ q) (w_M cs mo mh I V) := hDm
  have hFm := xfree hDm hS hA
  have wM := cwV (R := room_1) (s := s) (args := #[Value.ref b]) (rm := rm_M_ring) (mc := 0) (ms := 0) 1 hts gL_law_X10_ring rfl rfl rfl (by decide +kernel) ⟨Nat.le_of_ble_eq_true rfl, Nat.le_of_ble_eq_true rfl⟩
  refine va_calli (va_runV (As := [.int (xs ((nI j) + 1).toNatClampNeg)]) (rest := [.int r]) ⟨hx, hb, hml, hown, hts⟩ (c_M_ring l D cs mo mh _ I V (xs ((nI j) + 1).toNatClampNeg) f _ q2) wM ⟨xP_moved, va_recv hK hPm (ci := 10) (q0 := 0) rfl rfl, fun U hU hW => ⟨rfl, by rw [hU], by rw [hU]; exact hPm, va_K.moved hW.alike hK, hDm.weaken (fun _ _ _ _ => trivial)⟩⟩ rfl rfl hl.1 rfl (lv_room (Nat.le_of_ble_eq_true rfl)) dL_law_552 ⟨Nat.le_of_ble_eq_true rfl, Nat.le_of_ble_eq_true rfl⟩) hS (fun q _ h9 => hFm q h9) hFm (fun r0 u t H1 locs ht hvm hw hB hz1 hk1 hS => ?_)
  have er0 := congrArg Prod.fst hw
  have eu := congrArg Prod.snd hw
  dsimp only at er0 eu
  rw [er0]
  rw [eu] at hB
  obtain ⟨hP1, hK1, hD1⟩ := hB
  rw [ht] at hP1
  have hP1 : va_P D vwCl (List.flatten [w_M cs mo mh I' V']) _ := hP1
  have hD1 : va_D (va_A (List.flatten [w_M cs mo mh I V]) _) (List.flatten [w_M cs mo mh I' V']) := hD1
  obtain ⟨hP, hD⟩ := joinB (bs := lwW cs o hX hs laa lah lsa lsh mo mh SI (va_up SV 6 nVrng) LaI LaV LsI LsV I V) (ca := [w_M cs mo mh I V]) (ra := [w_X cs o hX (SI 99) (SV 99), w_Txt cs (hX 0) (hs 0) (SI 0) (SV 0), w_Led cs (hX 1) (hs 1) (SI 1) (SV 1), w_Act cs (hX 2) (hs 2) laa (SI 2) (SV 2), w_Pool cs laa lah LaI LaV 10, w_Slt cs (hX 3) (hs 3) lsa (SI 3) (SV 3), w_Pool cs lsa lsh LsI LsV 2, w_Day cs (hX 4) (hs 4) (SI 4) (SV 4), w_Set cs (hX 5) (hs 5) (SI 5) (SV 5), w_Rng cs (hX 6) (hs 6) (SI 6) nVrng, w_Lnd cs (hX 7) (hs 7) (SI 7) (SV 7), w_Crd cs (hX 8) (hs 8) (SI 8) (SV 8)]) [12, 0, 1, 2, 3, 4, 5, 6, 7, 8, 9, 10, 11] (by decide) rfl rfl hP hD hk1 hFm (cb := [w_M cs mo mh I' V']) hP1 hD1 (be := lwW cs o hX hs laa lah lsa lsh mo mh SI (va_up SV 6 nVrng) LaI LaV LsI LsV I' V') [1, 2, 3, 4, 5, 6, 7, 8, 9, 10, 11, 12, 0] (by decide) rfl rfl
  refine lv_icmp_eq (tgt := 893) hx hb dL_law_555 (by decide) (fun _ => ?_) (fun c9 => absurd rfl c9)
  exact K SI (va_up SV 6 nVrng) LaI LaV LsI LsV I' V' hRel2 _ _ hP hD hS _ hl
set_option maxHeartbeats 4000000 in
set_option maxRecDepth 100000 in
theorem law_room {Rel : (Nat → FI) → (Nat → FV) → (Nat → FI) → (Nat → FV) → (Nat → FI) → (Nat → FV) → FI → FV → Prop} {f : Nat} (S : Sim_room Rel f) {p : Program} {l : Launch} {e : Env} {s : State} {m : MethodId} {below : List Frame} {meth : Method} {c : Code} {b L : Nat} {xs : Nat → Int32} {D : va_G} {cs : Nat → ClassId} {o : Nat} {hX : Nat → Nat} {hs : Nat → Nat → Nat} {laa : Nat → Nat} {lah : Nat → Nat → Nat} {lsa : Nat → Nat} {lsh : Nat → Nat → Nat} {mo : Nat} {mh : Nat → Nat} (hx : p.tables.exec = Jvm.exec) (hb : c.code = code) (hml : c.maxLocals = 4) (hown : s.vm.findClass RL = some m.cls) (hts : ∀ w ∈ wsL_law, w.before #[Value.ref b] s = true) (hXs : va_X b L xs s s.heap) (hbl : b < s.heap.size) (hK : va_K D vwCl (tyA cs) s) (hN : yN s) {j : Nat} (hj : j + 5 ≤ L) (hL : L ≤ 2560) (SI : Nat → FI) (SV : Nat → FV) (LaI : Nat → FI) (LaV : Nat → FV) (LsI : Nat → FI) (LsV : Nat → FV) (I : FI) (V : FV) (hRel : Rel SI SV LaI LaV LsI LsV I V) (H : Heap) (locs : List Loc) (hP : va_P D vwCl (List.flatten (lwW cs o hX hs laa lah lsa lsh mo mh SI SV LaI LaV LsI LsV I V)) H) (hD : va_D (fun q : Nat => s.heap.size ≤ q) (List.flatten (lwW cs o hX hs laa lah lsa lsh mo mh SI SV LaI LaV LsI LsV I V))) (hS : va_S (fun q : Nat => s.heap.size ≤ q) s.heap H locs) (ls : Array Slot) (hl : lv_has ls 4 [(0, .ref b), (1, .ref o), (2, .ref mo), (3, .int (nI j))]) (K : ∀ (SI : Nat → FI) (SV : Nat → FV) (LaI : Nat → FI) (LaV : Nat → FV) (LsI : Nat → FI) (LsV : Nat → FV) (I : FI) (V : FV), Rel SI SV LaI LaV LsI LsV I V → ∀ (H : Heap) (locs : List Loc), va_P D vwCl (List.flatten (lwW cs o hX hs laa lah lsa lsh mo mh SI SV LaI LaV LsI LsV I V)) H → va_D (fun q : Nat => s.heap.size ≤ q) (List.flatten (lwW cs o hX hs laa lah lsa lsh mo mh SI SV LaI LaV LsI LsV I V)) → va_S (fun q : Nat => s.heap.size ≤ q) s.heap H locs → ∀ ls : Array Slot, lv_has ls 4 [(0, .ref b), (1, .ref o), (2, .ref mo), (3, .int (nI j))] → W p l e room_1 s m #[Value.ref b] below meth c H locs 149 4007 (lw_Z below #[Value.ref b] s) (F0 m 893 ls [])) : W p l e room_1 s m #[Value.ref b] below meth c H locs 149 4007 (lw_Z below #[Value.ref b] s) (F0 m 560 ls []) := by
  have hA : ∀ q : Nat, s.heap.size ≤ q → (fun q : Nat => s.heap.size ≤ q) q := fun _ h => h
  have hbA : ¬ (fun q : Nat => s.heap.size ≤ q) b := Nat.not_le.mpr hbl
  have h_1 : vp_in (nI j + 1) L := by rw [show (nI j + 1 : Int32) = nI (j + 1) from nI_add j 1]; exact vp_in_nI (by omega) (by omega)
  have h_2 : vp_in (nI j + 2) L := by rw [show (nI j + 2 : Int32) = nI (j + 2) from nI_add j 2]; exact vp_in_nI (by omega) (by omega)
  have h_3 : vp_in (nI j + 3) L := by rw [show (nI j + 3 : Int32) = nI (j + 3) from nI_add j 3]; exact vp_in_nI (by omega) (by omega)
  have h_4 : vp_in (nI j + 4) L := by rw [show (nI j + 4 : Int32) = nI (j + 4) from nI_add j 4]; exact vp_in_nI (by omega) (by omega)
  refine lv_aload_n hx hb dL_law_560 rfl (lv_at hl 1 rfl) ?_
  refine lv_aload_n hx hb dL_law_561 rfl (lv_at hl 0 rfl) ?_
  refine lv_iload_n hx hb dL_law_562 rfl (lv_at hl 3 rfl) ?_
  refine lv_iconst (v := 1) hx hb dL_law_563 (by decide) ?_
  refine lv_iadd hx hb dL_law_564 ?_
  refine va_sld hx hb hXs hbl hbA hS h_1 dL_law_565 ?_
  obtain ⟨r, nVrng, I', V', q1, q2, hRel2⟩ := S SI SV LaI LaV LsI LsV I V (xs ((nI j) + 1).toNatClampNeg) hRel 
  have hPc := subB (bs := lwW cs o hX hs laa lah lsa lsh mo mh SI SV LaI LaV LsI LsV I V) (ca := [w_X cs o hX (SI 99) (SV 99), w_Led cs (hX 1) (hs 1) (SI 1) (SV 1), w_Rng cs (hX 6) (hs 6) (SI 6) (SV 6)]) (ra := [w_Txt cs (hX 0) (hs 0) (SI 0) (SV 0), w_Act cs (hX 2) (hs 2) laa (SI 2) (SV 2), w_Pool cs laa lah LaI LaV 10, w_Slt cs (hX 3) (hs 3) lsa (SI 3) (SV 3), w_Pool cs lsa lsh LsI LsV 2, w_Day cs (hX 4) (hs 4) (SI 4) (SV 4), w_Set cs (hX 5) (hs 5) (SI 5) (SV 5), w_Lnd cs (hX 7) (hs 7) (SI 7) (SV 7), w_Crd cs (hX 8) (hs 8) (SI 8) (SV 8), w_M cs mo mh I V]) [0, 2, 9, 1, 3, 4, 5, 6, 7, 8, 10, 11, 12] (by decide) rfl rfl hP
  have wX := cwV (R := room_1) (s := s) (args := #[Value.ref b]) (rm := rm_X_room) (mc := 0) (ms := 0) 1 hts gL_law_X9_room rfl rfl rfl (by decide +kernel) ⟨Nat.le_of_ble_eq_true rfl, Nat.le_of_ble_eq_true rfl⟩
  have hDc := subD (bs := lwW cs o hX hs laa lah lsa lsh mo mh SI SV LaI LaV LsI LsV I V) (ca := [w_X cs o hX (SI 99) (SV 99), w_Led cs (hX 1) (hs 1) (SI 1) (SV 1), w_Rng cs (hX 6) (hs 6) (SI 6) (SV 6)]) (ra := [w_Txt cs (hX 0) (hs 0) (SI 0) (SV 0), w_Act cs (hX 2) (hs 2) laa (SI 2) (SV 2), w_Pool cs laa lah LaI LaV 10, w_Slt cs (hX 3) (hs 3) lsa (SI 3) (SV 3), w_Pool cs lsa lsh LsI LsV 2, w_Day cs (hX 4) (hs 4) (SI 4) (SV 4), w_Set cs (hX 5) (hs 5) (SI 5) (SV 5), w_Lnd cs (hX 7) (hs 7) (SI 7) (SV 7), w_Crd cs (hX 8) (hs 8) (SI 8) (SV 8), w_M cs mo mh I V]) [0, 2, 9, 1, 3, 4, 5, 6, 7, 8, 10, 11, 12] (by decide) rfl rfl hD
  have hFc := xfree hDc hS hA
  refine va_calli (va_runV (As := [.int (xs ((nI j) + 1).toNatClampNeg)]) (rest := []) ⟨hx, hb, hml, hown, hts⟩ (c_X_room l D cs o hX (hs 1) (hs 6) _ (SI 99) (SV 99) (SI 1) (SV 1) (SI 6) (SV 6) (xs ((nI j) + 1).toNatClampNeg) f _ q1) wX ⟨yP_moved, va_recv hK hPc (ci := 9) (q0 := 0) rfl rfl, fun U hU hW => ⟨rfl, by rw [hU], by rw [hU]; exact hPc, va_K.moved hW.alike hK, yN_warm hW hN, hDc.weaken (fun _ _ _ _ => trivial)⟩⟩ rfl rfl hl.1 rfl (lv_room (Nat.le_of_ble_eq_true rfl)) dL_law_566 ⟨Nat.le_of_ble_eq_true rfl, Nat.le_of_ble_eq_true rfl⟩) hS (fun q _ h9 => hFc q h9) hFc (fun r0 u t H1 locs ht hvm hw hB hz1 hk1 hS => ?_)
  have er0 := congrArg Prod.fst hw
  have eu := congrArg Prod.snd hw
  dsimp only at er0 eu
  rw [er0]
  rw [eu] at hB
  obtain ⟨hP1, hK1, hD1⟩ := hB
  rw [ht] at hP1
  obtain ⟨hP, hD⟩ := joinB (bs := lwW cs o hX hs laa lah lsa lsh mo mh SI SV LaI LaV LsI LsV I V) (ca := [w_X cs o hX (SI 99) (SV 99), w_Led cs (hX 1) (hs 1) (SI 1) (SV 1), w_Rng cs (hX 6) (hs 6) (SI 6) (SV 6)]) (ra := [w_Txt cs (hX 0) (hs 0) (SI 0) (SV 0), w_Act cs (hX 2) (hs 2) laa (SI 2) (SV 2), w_Pool cs laa lah LaI LaV 10, w_Slt cs (hX 3) (hs 3) lsa (SI 3) (SV 3), w_Pool cs lsa lsh LsI LsV 2, w_Day cs (hX 4) (hs 4) (SI 4) (SV 4), w_Set cs (hX 5) (hs 5) (SI 5) (SV 5), w_Lnd cs (hX 7) (hs 7) (SI 7) (SV 7), w_Crd cs (hX 8) (hs 8) (SI 8) (SV 8), w_M cs mo mh I V]) [0, 2, 9, 1, 3, 4, 5, 6, 7, 8, 10, 11, 12] (by decide) rfl rfl hP hD hk1 hFc (cb := [w_X cs o hX (SI 99) (SV 99), w_Led cs (hX 1) (hs 1) (SI 1) (SV 1), w_Rng cs (hX 6) (hs 6) (SI 6) nVrng]) hP1 hD1 (be := lwW cs o hX hs laa lah lsa lsh mo mh SI (va_up SV 6 nVrng) LaI LaV LsI LsV I V) [0, 3, 1, 4, 5, 6, 7, 8, 9, 2, 10, 11, 12] (by decide) rfl rfl
  refine lv_aload_n hx hb dL_law_569 rfl (lv_at hl 2 rfl) ?_
  refine lv_aload_n hx hb dL_law_570 rfl (lv_at hl 0 rfl) ?_
  refine lv_iload_n hx hb dL_law_571 rfl (lv_at hl 3 rfl) ?_
  refine lv_iconst (v := 1) hx hb dL_law_572 (by decide) ?_
  refine lv_iadd hx hb dL_law_573 ?_
  refine va_sld hx hb hXs hbl hbA hS h_1 dL_law_574 ?_
  have hPm := subB (bs := lwW cs o hX hs laa lah lsa lsh mo mh SI (va_up SV 6 nVrng) LaI LaV LsI LsV I V) (ca := [w_M cs mo mh I V]) (ra := [w_X cs o hX (SI 99) (SV 99), w_Txt cs (hX 0) (hs 0) (SI 0) (SV 0), w_Led cs (hX 1) (hs 1) (SI 1) (SV 1), w_Act cs (hX 2) (hs 2) laa (SI 2) (SV 2), w_Pool cs laa lah LaI LaV 10, w_Slt cs (hX 3) (hs 3) lsa (SI 3) (SV 3), w_Pool cs lsa lsh LsI LsV 2, w_Day cs (hX 4) (hs 4) (SI 4) (SV 4), w_Set cs (hX 5) (hs 5) (SI 5) (SV 5), w_Rng cs (hX 6) (hs 6) (SI 6) nVrng, w_Lnd cs (hX 7) (hs 7) (SI 7) (SV 7), w_Crd cs (hX 8) (hs 8) (SI 8) (SV 8)]) [12, 0, 1, 2, 3, 4, 5, 6, 7, 8, 9, 10, 11] (by decide) rfl rfl hP
  have hDm := subD (bs := lwW cs o hX hs laa lah lsa lsh mo mh SI (va_up SV 6 nVrng) LaI LaV LsI LsV I V) (ca := [w_M cs mo mh I V]) (ra := [w_X cs o hX (SI 99) (SV 99), w_Txt cs (hX 0) (hs 0) (SI 0) (SV 0), w_Led cs (hX 1) (hs 1) (SI 1) (SV 1), w_Act cs (hX 2) (hs 2) laa (SI 2) (SV 2), w_Pool cs laa lah LaI LaV 10, w_Slt cs (hX 3) (hs 3) lsa (SI 3) (SV 3), w_Pool cs lsa lsh LsI LsV 2, w_Day cs (hX 4) (hs 4) (SI 4) (SV 4), w_Set cs (hX 5) (hs 5) (SI 5) (SV 5), w_Rng cs (hX 6) (hs 6) (SI 6) nVrng, w_Lnd cs (hX 7) (hs 7) (SI 7) (SV 7), w_Crd cs (hX 8) (hs 8) (SI 8) (SV 8)]) [12, 0, 1, 2, 3, 4, 5, 6, 7, 8, 9, 10, 11] (by decide) rfl rfl hD
  have hPm : va_P D vwCl (w_M cs mo mh I V) _ := hPm
  have hDm : va_D (fun q : Nat => s.heap.size ≤ q) (w_M cs mo mh I V) := hDm
  have hFm := xfree hDm hS hA
  have wM := cwV (R := room_1) (s := s) (args := #[Value.ref b]) (rm := rm_M_room) (mc := 0) (ms := 0) 1 hts gL_law_X10_room rfl rfl rfl (by decide +kernel) ⟨Nat.le_of_ble_eq_true rfl, Nat.le_of_ble_eq_true rfl⟩
  refine va_calli (va_runV (As := [.int (xs ((nI j) + 1).toNatClampNeg)]) (rest := [.int r]) ⟨hx, hb, hml, hown, hts⟩ (c_M_room l D cs mo mh _ I V (xs ((nI j) + 1).toNatClampNeg) f _ q2) wM ⟨xP_moved, va_recv hK hPm (ci := 10) (q0 := 0) rfl rfl, fun U hU hW => ⟨rfl, by rw [hU], by rw [hU]; exact hPm, va_K.moved hW.alike hK, hDm.weaken (fun _ _ _ _ => trivial)⟩⟩ rfl rfl hl.1 rfl (lv_room (Nat.le_of_ble_eq_true rfl)) dL_law_575 ⟨Nat.le_of_ble_eq_true rfl, Nat.le_of_ble_eq_true rfl⟩) hS (fun q _ h9 => hFm q h9) hFm (fun r0 u t H1 locs ht hvm hw hB hz1 hk1 hS => ?_)
  have er0 := congrArg Prod.fst hw
  have eu := congrArg Prod.snd hw
  dsimp only at er0 eu
  rw [er0]
  rw [eu] at hB
  obtain ⟨hP1, hK1, hD1⟩ := hB
  rw [ht] at hP1
  have hP1 : va_P D vwCl (List.flatten [w_M cs mo mh I' V']) _ := hP1
  have hD1 : va_D (va_A (List.flatten [w_M cs mo mh I V]) _) (List.flatten [w_M cs mo mh I' V']) := hD1
  obtain ⟨hP, hD⟩ := joinB (bs := lwW cs o hX hs laa lah lsa lsh mo mh SI (va_up SV 6 nVrng) LaI LaV LsI LsV I V) (ca := [w_M cs mo mh I V]) (ra := [w_X cs o hX (SI 99) (SV 99), w_Txt cs (hX 0) (hs 0) (SI 0) (SV 0), w_Led cs (hX 1) (hs 1) (SI 1) (SV 1), w_Act cs (hX 2) (hs 2) laa (SI 2) (SV 2), w_Pool cs laa lah LaI LaV 10, w_Slt cs (hX 3) (hs 3) lsa (SI 3) (SV 3), w_Pool cs lsa lsh LsI LsV 2, w_Day cs (hX 4) (hs 4) (SI 4) (SV 4), w_Set cs (hX 5) (hs 5) (SI 5) (SV 5), w_Rng cs (hX 6) (hs 6) (SI 6) nVrng, w_Lnd cs (hX 7) (hs 7) (SI 7) (SV 7), w_Crd cs (hX 8) (hs 8) (SI 8) (SV 8)]) [12, 0, 1, 2, 3, 4, 5, 6, 7, 8, 9, 10, 11] (by decide) rfl rfl hP hD hk1 hFm (cb := [w_M cs mo mh I' V']) hP1 hD1 (be := lwW cs o hX hs laa lah lsa lsh mo mh SI (va_up SV 6 nVrng) LaI LaV LsI LsV I' V') [1, 2, 3, 4, 5, 6, 7, 8, 9, 10, 11, 12, 0] (by decide) rfl rfl
  refine lv_icmp_eq (tgt := 893) hx hb dL_law_578 (by decide) (fun _ => ?_) (fun c9 => absurd rfl c9)
  exact K SI (va_up SV 6 nVrng) LaI LaV LsI LsV I' V' hRel2 _ _ hP hD hS _ hl
set_option maxHeartbeats 4000000 in
set_option maxRecDepth 100000 in
theorem law_wish {Rel : (Nat → FI) → (Nat → FV) → (Nat → FI) → (Nat → FV) → (Nat → FI) → (Nat → FV) → FI → FV → Prop} {f : Nat} (S : Sim_wish Rel f) {p : Program} {l : Launch} {e : Env} {s : State} {m : MethodId} {below : List Frame} {meth : Method} {c : Code} {b L : Nat} {xs : Nat → Int32} {D : va_G} {cs : Nat → ClassId} {o : Nat} {hX : Nat → Nat} {hs : Nat → Nat → Nat} {laa : Nat → Nat} {lah : Nat → Nat → Nat} {lsa : Nat → Nat} {lsh : Nat → Nat → Nat} {mo : Nat} {mh : Nat → Nat} (hx : p.tables.exec = Jvm.exec) (hb : c.code = code) (hml : c.maxLocals = 4) (hown : s.vm.findClass RL = some m.cls) (hts : ∀ w ∈ wsL_law, w.before #[Value.ref b] s = true) (hXs : va_X b L xs s s.heap) (hbl : b < s.heap.size) (hK : va_K D vwCl (tyA cs) s) (hN : yN s) {j : Nat} (hj : j + 5 ≤ L) (hL : L ≤ 2560) (SI : Nat → FI) (SV : Nat → FV) (LaI : Nat → FI) (LaV : Nat → FV) (LsI : Nat → FI) (LsV : Nat → FV) (I : FI) (V : FV) (hRel : Rel SI SV LaI LaV LsI LsV I V) (H : Heap) (locs : List Loc) (hP : va_P D vwCl (List.flatten (lwW cs o hX hs laa lah lsa lsh mo mh SI SV LaI LaV LsI LsV I V)) H) (hD : va_D (fun q : Nat => s.heap.size ≤ q) (List.flatten (lwW cs o hX hs laa lah lsa lsh mo mh SI SV LaI LaV LsI LsV I V))) (hS : va_S (fun q : Nat => s.heap.size ≤ q) s.heap H locs) (ls : Array Slot) (hl : lv_has ls 4 [(0, .ref b), (1, .ref o), (2, .ref mo), (3, .int (nI j))]) (K : ∀ (SI : Nat → FI) (SV : Nat → FV) (LaI : Nat → FI) (LaV : Nat → FV) (LsI : Nat → FI) (LsV : Nat → FV) (I : FI) (V : FV), Rel SI SV LaI LaV LsI LsV I V → ∀ (H : Heap) (locs : List Loc), va_P D vwCl (List.flatten (lwW cs o hX hs laa lah lsa lsh mo mh SI SV LaI LaV LsI LsV I V)) H → va_D (fun q : Nat => s.heap.size ≤ q) (List.flatten (lwW cs o hX hs laa lah lsa lsh mo mh SI SV LaI LaV LsI LsV I V)) → va_S (fun q : Nat => s.heap.size ≤ q) s.heap H locs → ∀ ls : Array Slot, lv_has ls 4 [(0, .ref b), (1, .ref o), (2, .ref mo), (3, .int (nI j))] → W p l e room_1 s m #[Value.ref b] below meth c H locs 149 4007 (lw_Z below #[Value.ref b] s) (F0 m 893 ls [])) : W p l e room_1 s m #[Value.ref b] below meth c H locs 149 4007 (lw_Z below #[Value.ref b] s) (F0 m 583 ls []) := by
  have hA : ∀ q : Nat, s.heap.size ≤ q → (fun q : Nat => s.heap.size ≤ q) q := fun _ h => h
  have hbA : ¬ (fun q : Nat => s.heap.size ≤ q) b := Nat.not_le.mpr hbl
  have h_1 : vp_in (nI j + 1) L := by rw [show (nI j + 1 : Int32) = nI (j + 1) from nI_add j 1]; exact vp_in_nI (by omega) (by omega)
  have h_2 : vp_in (nI j + 2) L := by rw [show (nI j + 2 : Int32) = nI (j + 2) from nI_add j 2]; exact vp_in_nI (by omega) (by omega)
  have h_3 : vp_in (nI j + 3) L := by rw [show (nI j + 3 : Int32) = nI (j + 3) from nI_add j 3]; exact vp_in_nI (by omega) (by omega)
  have h_4 : vp_in (nI j + 4) L := by rw [show (nI j + 4 : Int32) = nI (j + 4) from nI_add j 4]; exact vp_in_nI (by omega) (by omega)
  refine lv_aload_n hx hb dL_law_583 rfl (lv_at hl 1 rfl) ?_
  refine lv_aload_n hx hb dL_law_584 rfl (lv_at hl 0 rfl) ?_
  refine lv_iload_n hx hb dL_law_585 rfl (lv_at hl 3 rfl) ?_
  refine lv_iconst (v := 1) hx hb dL_law_586 (by decide) ?_
  refine lv_iadd hx hb dL_law_587 ?_
  refine va_sld hx hb hXs hbl hbA hS h_1 dL_law_588 ?_
  refine lv_aload_n hx hb dL_law_589 rfl (lv_at hl 0 rfl) ?_
  refine lv_iload_n hx hb dL_law_590 rfl (lv_at hl 3 rfl) ?_
  refine lv_iconst (v := 2) hx hb dL_law_591 (by decide) ?_
  refine lv_iadd hx hb dL_law_592 ?_
  refine va_sld hx hb hXs hbl hbA hS h_2 dL_law_593 ?_
  obtain ⟨r, nVlnd, I', V', q1, q2, hRel2⟩ := S SI SV LaI LaV LsI LsV I V (xs ((nI j) + 1).toNatClampNeg) (xs ((nI j) + 2).toNatClampNeg) hRel 
  have hPc := subB (bs := lwW cs o hX hs laa lah lsa lsh mo mh SI SV LaI LaV LsI LsV I V) (ca := [w_X cs o hX (SI 99) (SV 99), w_Led cs (hX 1) (hs 1) (SI 1) (SV 1), w_Lnd cs (hX 7) (hs 7) (SI 7) (SV 7)]) (ra := [w_Txt cs (hX 0) (hs 0) (SI 0) (SV 0), w_Act cs (hX 2) (hs 2) laa (SI 2) (SV 2), w_Pool cs laa lah LaI LaV 10, w_Slt cs (hX 3) (hs 3) lsa (SI 3) (SV 3), w_Pool cs lsa lsh LsI LsV 2, w_Day cs (hX 4) (hs 4) (SI 4) (SV 4), w_Set cs (hX 5) (hs 5) (SI 5) (SV 5), w_Rng cs (hX 6) (hs 6) (SI 6) (SV 6), w_Crd cs (hX 8) (hs 8) (SI 8) (SV 8), w_M cs mo mh I V]) [0, 2, 10, 1, 3, 4, 5, 6, 7, 8, 9, 11, 12] (by decide) rfl rfl hP
  have wX := cwV (R := room_1) (s := s) (args := #[Value.ref b]) (rm := rm_X_wish) (mc := 0) (ms := 0) 2 hts gL_law_X9_wish rfl rfl rfl (by decide +kernel) ⟨Nat.le_of_ble_eq_true rfl, Nat.le_of_ble_eq_true rfl⟩
  have hDc := subD (bs := lwW cs o hX hs laa lah lsa lsh mo mh SI SV LaI LaV LsI LsV I V) (ca := [w_X cs o hX (SI 99) (SV 99), w_Led cs (hX 1) (hs 1) (SI 1) (SV 1), w_Lnd cs (hX 7) (hs 7) (SI 7) (SV 7)]) (ra := [w_Txt cs (hX 0) (hs 0) (SI 0) (SV 0), w_Act cs (hX 2) (hs 2) laa (SI 2) (SV 2), w_Pool cs laa lah LaI LaV 10, w_Slt cs (hX 3) (hs 3) lsa (SI 3) (SV 3), w_Pool cs lsa lsh LsI LsV 2, w_Day cs (hX 4) (hs 4) (SI 4) (SV 4), w_Set cs (hX 5) (hs 5) (SI 5) (SV 5), w_Rng cs (hX 6) (hs 6) (SI 6) (SV 6), w_Crd cs (hX 8) (hs 8) (SI 8) (SV 8), w_M cs mo mh I V]) [0, 2, 10, 1, 3, 4, 5, 6, 7, 8, 9, 11, 12] (by decide) rfl rfl hD
  have hFc := xfree hDc hS hA
  refine va_calli (va_runV (As := [.int (xs ((nI j) + 1).toNatClampNeg), .int (xs ((nI j) + 2).toNatClampNeg)]) (rest := []) ⟨hx, hb, hml, hown, hts⟩ (c_X_wish l D cs o hX (hs 1) (hs 7) _ (SI 99) (SV 99) (SI 1) (SV 1) (SI 7) (SV 7) (xs ((nI j) + 1).toNatClampNeg) (xs ((nI j) + 2).toNatClampNeg) f _ q1) wX ⟨yP_moved, va_recv hK hPc (ci := 9) (q0 := 0) rfl rfl, fun U hU hW => ⟨rfl, by rw [hU], by rw [hU]; exact hPc, va_K.moved hW.alike hK, yN_warm hW hN, hDc.weaken (fun _ _ _ _ => trivial)⟩⟩ rfl rfl hl.1 rfl (lv_room (Nat.le_of_ble_eq_true rfl)) dL_law_594 ⟨Nat.le_of_ble_eq_true rfl, Nat.le_of_ble_eq_true rfl⟩) hS (fun q _ h9 => hFc q h9) hFc (fun r0 u t H1 locs ht hvm hw hB hz1 hk1 hS => ?_)
  have er0 := congrArg Prod.fst hw
  have eu := congrArg Prod.snd hw
  dsimp only at er0 eu
  rw [er0]
  rw [eu] at hB
  obtain ⟨hP1, hK1, hD1⟩ := hB
  rw [ht] at hP1
  obtain ⟨hP, hD⟩ := joinB (bs := lwW cs o hX hs laa lah lsa lsh mo mh SI SV LaI LaV LsI LsV I V) (ca := [w_X cs o hX (SI 99) (SV 99), w_Led cs (hX 1) (hs 1) (SI 1) (SV 1), w_Lnd cs (hX 7) (hs 7) (SI 7) (SV 7)]) (ra := [w_Txt cs (hX 0) (hs 0) (SI 0) (SV 0), w_Act cs (hX 2) (hs 2) laa (SI 2) (SV 2), w_Pool cs laa lah LaI LaV 10, w_Slt cs (hX 3) (hs 3) lsa (SI 3) (SV 3), w_Pool cs lsa lsh LsI LsV 2, w_Day cs (hX 4) (hs 4) (SI 4) (SV 4), w_Set cs (hX 5) (hs 5) (SI 5) (SV 5), w_Rng cs (hX 6) (hs 6) (SI 6) (SV 6), w_Crd cs (hX 8) (hs 8) (SI 8) (SV 8), w_M cs mo mh I V]) [0, 2, 10, 1, 3, 4, 5, 6, 7, 8, 9, 11, 12] (by decide) rfl rfl hP hD hk1 hFc (cb := [w_X cs o hX (SI 99) (SV 99), w_Led cs (hX 1) (hs 1) (SI 1) (SV 1), w_Lnd cs (hX 7) (hs 7) (SI 7) nVlnd]) hP1 hD1 (be := lwW cs o hX hs laa lah lsa lsh mo mh SI (va_up SV 7 nVlnd) LaI LaV LsI LsV I V) [0, 3, 1, 4, 5, 6, 7, 8, 9, 10, 2, 11, 12] (by decide) rfl rfl
  refine lv_aload_n hx hb dL_law_597 rfl (lv_at hl 2 rfl) ?_
  refine lv_aload_n hx hb dL_law_598 rfl (lv_at hl 0 rfl) ?_
  refine lv_iload_n hx hb dL_law_599 rfl (lv_at hl 3 rfl) ?_
  refine lv_iconst (v := 1) hx hb dL_law_600 (by decide) ?_
  refine lv_iadd hx hb dL_law_601 ?_
  refine va_sld hx hb hXs hbl hbA hS h_1 dL_law_602 ?_
  refine lv_aload_n hx hb dL_law_603 rfl (lv_at hl 0 rfl) ?_
  refine lv_iload_n hx hb dL_law_604 rfl (lv_at hl 3 rfl) ?_
  refine lv_iconst (v := 2) hx hb dL_law_605 (by decide) ?_
  refine lv_iadd hx hb dL_law_606 ?_
  refine va_sld hx hb hXs hbl hbA hS h_2 dL_law_607 ?_
  have hPm := subB (bs := lwW cs o hX hs laa lah lsa lsh mo mh SI (va_up SV 7 nVlnd) LaI LaV LsI LsV I V) (ca := [w_M cs mo mh I V]) (ra := [w_X cs o hX (SI 99) (SV 99), w_Txt cs (hX 0) (hs 0) (SI 0) (SV 0), w_Led cs (hX 1) (hs 1) (SI 1) (SV 1), w_Act cs (hX 2) (hs 2) laa (SI 2) (SV 2), w_Pool cs laa lah LaI LaV 10, w_Slt cs (hX 3) (hs 3) lsa (SI 3) (SV 3), w_Pool cs lsa lsh LsI LsV 2, w_Day cs (hX 4) (hs 4) (SI 4) (SV 4), w_Set cs (hX 5) (hs 5) (SI 5) (SV 5), w_Rng cs (hX 6) (hs 6) (SI 6) (SV 6), w_Lnd cs (hX 7) (hs 7) (SI 7) nVlnd, w_Crd cs (hX 8) (hs 8) (SI 8) (SV 8)]) [12, 0, 1, 2, 3, 4, 5, 6, 7, 8, 9, 10, 11] (by decide) rfl rfl hP
  have hDm := subD (bs := lwW cs o hX hs laa lah lsa lsh mo mh SI (va_up SV 7 nVlnd) LaI LaV LsI LsV I V) (ca := [w_M cs mo mh I V]) (ra := [w_X cs o hX (SI 99) (SV 99), w_Txt cs (hX 0) (hs 0) (SI 0) (SV 0), w_Led cs (hX 1) (hs 1) (SI 1) (SV 1), w_Act cs (hX 2) (hs 2) laa (SI 2) (SV 2), w_Pool cs laa lah LaI LaV 10, w_Slt cs (hX 3) (hs 3) lsa (SI 3) (SV 3), w_Pool cs lsa lsh LsI LsV 2, w_Day cs (hX 4) (hs 4) (SI 4) (SV 4), w_Set cs (hX 5) (hs 5) (SI 5) (SV 5), w_Rng cs (hX 6) (hs 6) (SI 6) (SV 6), w_Lnd cs (hX 7) (hs 7) (SI 7) nVlnd, w_Crd cs (hX 8) (hs 8) (SI 8) (SV 8)]) [12, 0, 1, 2, 3, 4, 5, 6, 7, 8, 9, 10, 11] (by decide) rfl rfl hD
  have hPm : va_P D vwCl (w_M cs mo mh I V) _ := hPm
  have hDm : va_D (fun q : Nat => s.heap.size ≤ q) (w_M cs mo mh I V) := hDm
  have hFm := xfree hDm hS hA
  have wM := cwV (R := room_1) (s := s) (args := #[Value.ref b]) (rm := rm_M_wish) (mc := 0) (ms := 0) 2 hts gL_law_X10_wish rfl rfl rfl (by decide +kernel) ⟨Nat.le_of_ble_eq_true rfl, Nat.le_of_ble_eq_true rfl⟩
  refine va_calli (va_runV (As := [.int (xs ((nI j) + 1).toNatClampNeg), .int (xs ((nI j) + 2).toNatClampNeg)]) (rest := [.int r]) ⟨hx, hb, hml, hown, hts⟩ (c_M_wish l D cs mo mh _ I V (xs ((nI j) + 1).toNatClampNeg) (xs ((nI j) + 2).toNatClampNeg) f _ q2) wM ⟨xP_moved, va_recv hK hPm (ci := 10) (q0 := 0) rfl rfl, fun U hU hW => ⟨rfl, by rw [hU], by rw [hU]; exact hPm, va_K.moved hW.alike hK, hDm.weaken (fun _ _ _ _ => trivial)⟩⟩ rfl rfl hl.1 rfl (lv_room (Nat.le_of_ble_eq_true rfl)) dL_law_608 ⟨Nat.le_of_ble_eq_true rfl, Nat.le_of_ble_eq_true rfl⟩) hS (fun q _ h9 => hFm q h9) hFm (fun r0 u t H1 locs ht hvm hw hB hz1 hk1 hS => ?_)
  have er0 := congrArg Prod.fst hw
  have eu := congrArg Prod.snd hw
  dsimp only at er0 eu
  rw [er0]
  rw [eu] at hB
  obtain ⟨hP1, hK1, hD1⟩ := hB
  rw [ht] at hP1
  have hP1 : va_P D vwCl (List.flatten [w_M cs mo mh I' V']) _ := hP1
  have hD1 : va_D (va_A (List.flatten [w_M cs mo mh I V]) _) (List.flatten [w_M cs mo mh I' V']) := hD1
  obtain ⟨hP, hD⟩ := joinB (bs := lwW cs o hX hs laa lah lsa lsh mo mh SI (va_up SV 7 nVlnd) LaI LaV LsI LsV I V) (ca := [w_M cs mo mh I V]) (ra := [w_X cs o hX (SI 99) (SV 99), w_Txt cs (hX 0) (hs 0) (SI 0) (SV 0), w_Led cs (hX 1) (hs 1) (SI 1) (SV 1), w_Act cs (hX 2) (hs 2) laa (SI 2) (SV 2), w_Pool cs laa lah LaI LaV 10, w_Slt cs (hX 3) (hs 3) lsa (SI 3) (SV 3), w_Pool cs lsa lsh LsI LsV 2, w_Day cs (hX 4) (hs 4) (SI 4) (SV 4), w_Set cs (hX 5) (hs 5) (SI 5) (SV 5), w_Rng cs (hX 6) (hs 6) (SI 6) (SV 6), w_Lnd cs (hX 7) (hs 7) (SI 7) nVlnd, w_Crd cs (hX 8) (hs 8) (SI 8) (SV 8)]) [12, 0, 1, 2, 3, 4, 5, 6, 7, 8, 9, 10, 11] (by decide) rfl rfl hP hD hk1 hFm (cb := [w_M cs mo mh I' V']) hP1 hD1 (be := lwW cs o hX hs laa lah lsa lsh mo mh SI (va_up SV 7 nVlnd) LaI LaV LsI LsV I' V') [1, 2, 3, 4, 5, 6, 7, 8, 9, 10, 11, 12, 0] (by decide) rfl rfl
  refine lv_icmp_eq (tgt := 893) hx hb dL_law_611 (by decide) (fun _ => ?_) (fun c9 => absurd rfl c9)
  exact K SI (va_up SV 7 nVlnd) LaI LaV LsI LsV I' V' hRel2 _ _ hP hD hS _ hl
set_option maxHeartbeats 4000000 in
set_option maxRecDepth 100000 in
theorem law_wishBy {Rel : (Nat → FI) → (Nat → FV) → (Nat → FI) → (Nat → FV) → (Nat → FI) → (Nat → FV) → FI → FV → Prop} {f : Nat} (S : Sim_wishBy Rel f) {p : Program} {l : Launch} {e : Env} {s : State} {m : MethodId} {below : List Frame} {meth : Method} {c : Code} {b L : Nat} {xs : Nat → Int32} {D : va_G} {cs : Nat → ClassId} {o : Nat} {hX : Nat → Nat} {hs : Nat → Nat → Nat} {laa : Nat → Nat} {lah : Nat → Nat → Nat} {lsa : Nat → Nat} {lsh : Nat → Nat → Nat} {mo : Nat} {mh : Nat → Nat} (hx : p.tables.exec = Jvm.exec) (hb : c.code = code) (hml : c.maxLocals = 4) (hown : s.vm.findClass RL = some m.cls) (hts : ∀ w ∈ wsL_law, w.before #[Value.ref b] s = true) (hXs : va_X b L xs s s.heap) (hbl : b < s.heap.size) (hK : va_K D vwCl (tyA cs) s) (hN : yN s) {j : Nat} (hj : j + 5 ≤ L) (hL : L ≤ 2560) (SI : Nat → FI) (SV : Nat → FV) (LaI : Nat → FI) (LaV : Nat → FV) (LsI : Nat → FI) (LsV : Nat → FV) (I : FI) (V : FV) (hRel : Rel SI SV LaI LaV LsI LsV I V) (H : Heap) (locs : List Loc) (hP : va_P D vwCl (List.flatten (lwW cs o hX hs laa lah lsa lsh mo mh SI SV LaI LaV LsI LsV I V)) H) (hD : va_D (fun q : Nat => s.heap.size ≤ q) (List.flatten (lwW cs o hX hs laa lah lsa lsh mo mh SI SV LaI LaV LsI LsV I V))) (hS : va_S (fun q : Nat => s.heap.size ≤ q) s.heap H locs) (ls : Array Slot) (hl : lv_has ls 4 [(0, .ref b), (1, .ref o), (2, .ref mo), (3, .int (nI j))]) (K : ∀ (SI : Nat → FI) (SV : Nat → FV) (LaI : Nat → FI) (LaV : Nat → FV) (LsI : Nat → FI) (LsV : Nat → FV) (I : FI) (V : FV), Rel SI SV LaI LaV LsI LsV I V → ∀ (H : Heap) (locs : List Loc), va_P D vwCl (List.flatten (lwW cs o hX hs laa lah lsa lsh mo mh SI SV LaI LaV LsI LsV I V)) H → va_D (fun q : Nat => s.heap.size ≤ q) (List.flatten (lwW cs o hX hs laa lah lsa lsh mo mh SI SV LaI LaV LsI LsV I V)) → va_S (fun q : Nat => s.heap.size ≤ q) s.heap H locs → ∀ ls : Array Slot, lv_has ls 4 [(0, .ref b), (1, .ref o), (2, .ref mo), (3, .int (nI j))] → W p l e room_1 s m #[Value.ref b] below meth c H locs 149 4007 (lw_Z below #[Value.ref b] s) (F0 m 893 ls [])) : W p l e room_1 s m #[Value.ref b] below meth c H locs 149 4007 (lw_Z below #[Value.ref b] s) (F0 m 616 ls []) := by
  have hA : ∀ q : Nat, s.heap.size ≤ q → (fun q : Nat => s.heap.size ≤ q) q := fun _ h => h
  have hbA : ¬ (fun q : Nat => s.heap.size ≤ q) b := Nat.not_le.mpr hbl
  have h_1 : vp_in (nI j + 1) L := by rw [show (nI j + 1 : Int32) = nI (j + 1) from nI_add j 1]; exact vp_in_nI (by omega) (by omega)
  have h_2 : vp_in (nI j + 2) L := by rw [show (nI j + 2 : Int32) = nI (j + 2) from nI_add j 2]; exact vp_in_nI (by omega) (by omega)
  have h_3 : vp_in (nI j + 3) L := by rw [show (nI j + 3 : Int32) = nI (j + 3) from nI_add j 3]; exact vp_in_nI (by omega) (by omega)
  have h_4 : vp_in (nI j + 4) L := by rw [show (nI j + 4 : Int32) = nI (j + 4) from nI_add j 4]; exact vp_in_nI (by omega) (by omega)
  refine lv_aload_n hx hb dL_law_616 rfl (lv_at hl 1 rfl) ?_
  refine lv_aload_n hx hb dL_law_617 rfl (lv_at hl 0 rfl) ?_
  refine lv_iload_n hx hb dL_law_618 rfl (lv_at hl 3 rfl) ?_
  refine lv_iconst (v := 1) hx hb dL_law_619 (by decide) ?_
  refine lv_iadd hx hb dL_law_620 ?_
  refine va_sld hx hb hXs hbl hbA hS h_1 dL_law_621 ?_
  refine lv_aload_n hx hb dL_law_622 rfl (lv_at hl 0 rfl) ?_
  refine lv_iload_n hx hb dL_law_623 rfl (lv_at hl 3 rfl) ?_
  refine lv_iconst (v := 2) hx hb dL_law_624 (by decide) ?_
  refine lv_iadd hx hb dL_law_625 ?_
  refine va_sld hx hb hXs hbl hbA hS h_2 dL_law_626 ?_
  refine lv_aload_n hx hb dL_law_627 rfl (lv_at hl 0 rfl) ?_
  refine lv_iload_n hx hb dL_law_628 rfl (lv_at hl 3 rfl) ?_
  refine lv_iconst (v := 3) hx hb dL_law_629 (by decide) ?_
  refine lv_iadd hx hb dL_law_630 ?_
  refine va_sld hx hb hXs hbl hbA hS h_3 dL_law_631 ?_
  obtain ⟨r, nVlnd, I', V', q1, q2, hRel2⟩ := S SI SV LaI LaV LsI LsV I V (xs ((nI j) + 1).toNatClampNeg) (xs ((nI j) + 2).toNatClampNeg) (xs ((nI j) + 3).toNatClampNeg) hRel 
  have hPc := subB (bs := lwW cs o hX hs laa lah lsa lsh mo mh SI SV LaI LaV LsI LsV I V) (ca := [w_X cs o hX (SI 99) (SV 99), w_Led cs (hX 1) (hs 1) (SI 1) (SV 1), w_Lnd cs (hX 7) (hs 7) (SI 7) (SV 7)]) (ra := [w_Txt cs (hX 0) (hs 0) (SI 0) (SV 0), w_Act cs (hX 2) (hs 2) laa (SI 2) (SV 2), w_Pool cs laa lah LaI LaV 10, w_Slt cs (hX 3) (hs 3) lsa (SI 3) (SV 3), w_Pool cs lsa lsh LsI LsV 2, w_Day cs (hX 4) (hs 4) (SI 4) (SV 4), w_Set cs (hX 5) (hs 5) (SI 5) (SV 5), w_Rng cs (hX 6) (hs 6) (SI 6) (SV 6), w_Crd cs (hX 8) (hs 8) (SI 8) (SV 8), w_M cs mo mh I V]) [0, 2, 10, 1, 3, 4, 5, 6, 7, 8, 9, 11, 12] (by decide) rfl rfl hP
  have wX := cwV (R := room_1) (s := s) (args := #[Value.ref b]) (rm := rm_X_wishBy) (mc := 0) (ms := 0) 3 hts gL_law_X9_wishBy rfl rfl rfl (by decide +kernel) ⟨Nat.le_of_ble_eq_true rfl, Nat.le_of_ble_eq_true rfl⟩
  have hDc := subD (bs := lwW cs o hX hs laa lah lsa lsh mo mh SI SV LaI LaV LsI LsV I V) (ca := [w_X cs o hX (SI 99) (SV 99), w_Led cs (hX 1) (hs 1) (SI 1) (SV 1), w_Lnd cs (hX 7) (hs 7) (SI 7) (SV 7)]) (ra := [w_Txt cs (hX 0) (hs 0) (SI 0) (SV 0), w_Act cs (hX 2) (hs 2) laa (SI 2) (SV 2), w_Pool cs laa lah LaI LaV 10, w_Slt cs (hX 3) (hs 3) lsa (SI 3) (SV 3), w_Pool cs lsa lsh LsI LsV 2, w_Day cs (hX 4) (hs 4) (SI 4) (SV 4), w_Set cs (hX 5) (hs 5) (SI 5) (SV 5), w_Rng cs (hX 6) (hs 6) (SI 6) (SV 6), w_Crd cs (hX 8) (hs 8) (SI 8) (SV 8), w_M cs mo mh I V]) [0, 2, 10, 1, 3, 4, 5, 6, 7, 8, 9, 11, 12] (by decide) rfl rfl hD
  have hFc := xfree hDc hS hA
  refine va_calli (va_runV (As := [.int (xs ((nI j) + 1).toNatClampNeg), .int (xs ((nI j) + 2).toNatClampNeg), .int (xs ((nI j) + 3).toNatClampNeg)]) (rest := []) ⟨hx, hb, hml, hown, hts⟩ (c_X_wishBy l D cs o hX (hs 1) (hs 7) _ (SI 99) (SV 99) (SI 1) (SV 1) (SI 7) (SV 7) (xs ((nI j) + 1).toNatClampNeg) (xs ((nI j) + 2).toNatClampNeg) (xs ((nI j) + 3).toNatClampNeg) f _ q1) wX ⟨yP_moved, va_recv hK hPc (ci := 9) (q0 := 0) rfl rfl, fun U hU hW => ⟨rfl, by rw [hU], by rw [hU]; exact hPc, va_K.moved hW.alike hK, yN_warm hW hN, hDc.weaken (fun _ _ _ _ => trivial)⟩⟩ rfl rfl hl.1 rfl (lv_room (Nat.le_of_ble_eq_true rfl)) dL_law_632 ⟨Nat.le_of_ble_eq_true rfl, Nat.le_of_ble_eq_true rfl⟩) hS (fun q _ h9 => hFc q h9) hFc (fun r0 u t H1 locs ht hvm hw hB hz1 hk1 hS => ?_)
  have er0 := congrArg Prod.fst hw
  have eu := congrArg Prod.snd hw
  dsimp only at er0 eu
  rw [er0]
  rw [eu] at hB
  obtain ⟨hP1, hK1, hD1⟩ := hB
  rw [ht] at hP1
  obtain ⟨hP, hD⟩ := joinB (bs := lwW cs o hX hs laa lah lsa lsh mo mh SI SV LaI LaV LsI LsV I V) (ca := [w_X cs o hX (SI 99) (SV 99), w_Led cs (hX 1) (hs 1) (SI 1) (SV 1), w_Lnd cs (hX 7) (hs 7) (SI 7) (SV 7)]) (ra := [w_Txt cs (hX 0) (hs 0) (SI 0) (SV 0), w_Act cs (hX 2) (hs 2) laa (SI 2) (SV 2), w_Pool cs laa lah LaI LaV 10, w_Slt cs (hX 3) (hs 3) lsa (SI 3) (SV 3), w_Pool cs lsa lsh LsI LsV 2, w_Day cs (hX 4) (hs 4) (SI 4) (SV 4), w_Set cs (hX 5) (hs 5) (SI 5) (SV 5), w_Rng cs (hX 6) (hs 6) (SI 6) (SV 6), w_Crd cs (hX 8) (hs 8) (SI 8) (SV 8), w_M cs mo mh I V]) [0, 2, 10, 1, 3, 4, 5, 6, 7, 8, 9, 11, 12] (by decide) rfl rfl hP hD hk1 hFc (cb := [w_X cs o hX (SI 99) (SV 99), w_Led cs (hX 1) (hs 1) (SI 1) (SV 1), w_Lnd cs (hX 7) (hs 7) (SI 7) nVlnd]) hP1 hD1 (be := lwW cs o hX hs laa lah lsa lsh mo mh SI (va_up SV 7 nVlnd) LaI LaV LsI LsV I V) [0, 3, 1, 4, 5, 6, 7, 8, 9, 10, 2, 11, 12] (by decide) rfl rfl
  refine lv_aload_n hx hb dL_law_635 rfl (lv_at hl 2 rfl) ?_
  refine lv_aload_n hx hb dL_law_636 rfl (lv_at hl 0 rfl) ?_
  refine lv_iload_n hx hb dL_law_637 rfl (lv_at hl 3 rfl) ?_
  refine lv_iconst (v := 1) hx hb dL_law_638 (by decide) ?_
  refine lv_iadd hx hb dL_law_639 ?_
  refine va_sld hx hb hXs hbl hbA hS h_1 dL_law_640 ?_
  refine lv_aload_n hx hb dL_law_641 rfl (lv_at hl 0 rfl) ?_
  refine lv_iload_n hx hb dL_law_642 rfl (lv_at hl 3 rfl) ?_
  refine lv_iconst (v := 2) hx hb dL_law_643 (by decide) ?_
  refine lv_iadd hx hb dL_law_644 ?_
  refine va_sld hx hb hXs hbl hbA hS h_2 dL_law_645 ?_
  refine lv_aload_n hx hb dL_law_646 rfl (lv_at hl 0 rfl) ?_
  refine lv_iload_n hx hb dL_law_647 rfl (lv_at hl 3 rfl) ?_
  refine lv_iconst (v := 3) hx hb dL_law_648 (by decide) ?_
  refine lv_iadd hx hb dL_law_649 ?_
  refine va_sld hx hb hXs hbl hbA hS h_3 dL_law_650 ?_
  have hPm := subB (bs := lwW cs o hX hs laa lah lsa lsh mo mh SI (va_up SV 7 nVlnd) LaI LaV LsI LsV I V) (ca := [w_M cs mo mh I V]) (ra := [w_X cs o hX (SI 99) (SV 99), w_Txt cs (hX 0) (hs 0) (SI 0) (SV 0), w_Led cs (hX 1) (hs 1) (SI 1) (SV 1), w_Act cs (hX 2) (hs 2) laa (SI 2) (SV 2), w_Pool cs laa lah LaI LaV 10, w_Slt cs (hX 3) (hs 3) lsa (SI 3) (SV 3), w_Pool cs lsa lsh LsI LsV 2, w_Day cs (hX 4) (hs 4) (SI 4) (SV 4), w_Set cs (hX 5) (hs 5) (SI 5) (SV 5), w_Rng cs (hX 6) (hs 6) (SI 6) (SV 6), w_Lnd cs (hX 7) (hs 7) (SI 7) nVlnd, w_Crd cs (hX 8) (hs 8) (SI 8) (SV 8)]) [12, 0, 1, 2, 3, 4, 5, 6, 7, 8, 9, 10, 11] (by decide) rfl rfl hP
  have hDm := subD (bs := lwW cs o hX hs laa lah lsa lsh mo mh SI (va_up SV 7 nVlnd) LaI LaV LsI LsV I V) (ca := [w_M cs mo mh I V]) (ra := [w_X cs o hX (SI 99) (SV 99), w_Txt cs (hX 0) (hs 0) (SI 0) (SV 0), w_Led cs (hX 1) (hs 1) (SI 1) (SV 1), w_Act cs (hX 2) (hs 2) laa (SI 2) (SV 2), w_Pool cs laa lah LaI LaV 10, w_Slt cs (hX 3) (hs 3) lsa (SI 3) (SV 3), w_Pool cs lsa lsh LsI LsV 2, w_Day cs (hX 4) (hs 4) (SI 4) (SV 4), w_Set cs (hX 5) (hs 5) (SI 5) (SV 5), w_Rng cs (hX 6) (hs 6) (SI 6) (SV 6), w_Lnd cs (hX 7) (hs 7) (SI 7) nVlnd, w_Crd cs (hX 8) (hs 8) (SI 8) (SV 8)]) [12, 0, 1, 2, 3, 4, 5, 6, 7, 8, 9, 10, 11] (by decide) rfl rfl hD
  have hPm : va_P D vwCl (w_M cs mo mh I V) _ := hPm
  have hDm : va_D (fun q : Nat => s.heap.size ≤ q) (w_M cs mo mh I V) := hDm
  have hFm := xfree hDm hS hA
  have wM := cwV (R := room_1) (s := s) (args := #[Value.ref b]) (rm := rm_M_wishBy) (mc := 0) (ms := 0) 3 hts gL_law_X10_wishBy rfl rfl rfl (by decide +kernel) ⟨Nat.le_of_ble_eq_true rfl, Nat.le_of_ble_eq_true rfl⟩
  refine va_calli (va_runV (As := [.int (xs ((nI j) + 1).toNatClampNeg), .int (xs ((nI j) + 2).toNatClampNeg), .int (xs ((nI j) + 3).toNatClampNeg)]) (rest := [.int r]) ⟨hx, hb, hml, hown, hts⟩ (c_M_wishBy l D cs mo mh _ I V (xs ((nI j) + 1).toNatClampNeg) (xs ((nI j) + 2).toNatClampNeg) (xs ((nI j) + 3).toNatClampNeg) f _ q2) wM ⟨xP_moved, va_recv hK hPm (ci := 10) (q0 := 0) rfl rfl, fun U hU hW => ⟨rfl, by rw [hU], by rw [hU]; exact hPm, va_K.moved hW.alike hK, hDm.weaken (fun _ _ _ _ => trivial)⟩⟩ rfl rfl hl.1 rfl (lv_room (Nat.le_of_ble_eq_true rfl)) dL_law_651 ⟨Nat.le_of_ble_eq_true rfl, Nat.le_of_ble_eq_true rfl⟩) hS (fun q _ h9 => hFm q h9) hFm (fun r0 u t H1 locs ht hvm hw hB hz1 hk1 hS => ?_)
  have er0 := congrArg Prod.fst hw
  have eu := congrArg Prod.snd hw
  dsimp only at er0 eu
  rw [er0]
  rw [eu] at hB
  obtain ⟨hP1, hK1, hD1⟩ := hB
  rw [ht] at hP1
  have hP1 : va_P D vwCl (List.flatten [w_M cs mo mh I' V']) _ := hP1
  have hD1 : va_D (va_A (List.flatten [w_M cs mo mh I V]) _) (List.flatten [w_M cs mo mh I' V']) := hD1
  obtain ⟨hP, hD⟩ := joinB (bs := lwW cs o hX hs laa lah lsa lsh mo mh SI (va_up SV 7 nVlnd) LaI LaV LsI LsV I V) (ca := [w_M cs mo mh I V]) (ra := [w_X cs o hX (SI 99) (SV 99), w_Txt cs (hX 0) (hs 0) (SI 0) (SV 0), w_Led cs (hX 1) (hs 1) (SI 1) (SV 1), w_Act cs (hX 2) (hs 2) laa (SI 2) (SV 2), w_Pool cs laa lah LaI LaV 10, w_Slt cs (hX 3) (hs 3) lsa (SI 3) (SV 3), w_Pool cs lsa lsh LsI LsV 2, w_Day cs (hX 4) (hs 4) (SI 4) (SV 4), w_Set cs (hX 5) (hs 5) (SI 5) (SV 5), w_Rng cs (hX 6) (hs 6) (SI 6) (SV 6), w_Lnd cs (hX 7) (hs 7) (SI 7) nVlnd, w_Crd cs (hX 8) (hs 8) (SI 8) (SV 8)]) [12, 0, 1, 2, 3, 4, 5, 6, 7, 8, 9, 10, 11] (by decide) rfl rfl hP hD hk1 hFm (cb := [w_M cs mo mh I' V']) hP1 hD1 (be := lwW cs o hX hs laa lah lsa lsh mo mh SI (va_up SV 7 nVlnd) LaI LaV LsI LsV I' V') [1, 2, 3, 4, 5, 6, 7, 8, 9, 10, 11, 12, 0] (by decide) rfl rfl
  refine lv_icmp_eq (tgt := 893) hx hb dL_law_654 (by decide) (fun _ => ?_) (fun c9 => absurd rfl c9)
  exact K SI (va_up SV 7 nVlnd) LaI LaV LsI LsV I' V' hRel2 _ _ hP hD hS _ hl
set_option maxHeartbeats 4000000 in
set_option maxRecDepth 100000 in
theorem law_run {Rel : (Nat → FI) → (Nat → FV) → (Nat → FI) → (Nat → FV) → (Nat → FI) → (Nat → FV) → FI → FV → Prop} {f : Nat} (S : Sim_run Rel f) {p : Program} {l : Launch} {e : Env} {s : State} {m : MethodId} {below : List Frame} {meth : Method} {c : Code} {b L : Nat} {xs : Nat → Int32} {D : va_G} {cs : Nat → ClassId} {o : Nat} {hX : Nat → Nat} {hs : Nat → Nat → Nat} {laa : Nat → Nat} {lah : Nat → Nat → Nat} {lsa : Nat → Nat} {lsh : Nat → Nat → Nat} {mo : Nat} {mh : Nat → Nat} (hx : p.tables.exec = Jvm.exec) (hb : c.code = code) (hml : c.maxLocals = 4) (hown : s.vm.findClass RL = some m.cls) (hts : ∀ w ∈ wsL_law, w.before #[Value.ref b] s = true) (hXs : va_X b L xs s s.heap) (hbl : b < s.heap.size) (hK : va_K D vwCl (tyA cs) s) (hN : yN s) {j : Nat} (hj : j + 5 ≤ L) (hL : L ≤ 2560) (SI : Nat → FI) (SV : Nat → FV) (LaI : Nat → FI) (LaV : Nat → FV) (LsI : Nat → FI) (LsV : Nat → FV) (I : FI) (V : FV) (hRel : Rel SI SV LaI LaV LsI LsV I V) (H : Heap) (locs : List Loc) (hP : va_P D vwCl (List.flatten (lwW cs o hX hs laa lah lsa lsh mo mh SI SV LaI LaV LsI LsV I V)) H) (hD : va_D (fun q : Nat => s.heap.size ≤ q) (List.flatten (lwW cs o hX hs laa lah lsa lsh mo mh SI SV LaI LaV LsI LsV I V))) (hS : va_S (fun q : Nat => s.heap.size ≤ q) s.heap H locs) (ls : Array Slot) (hl : lv_has ls 4 [(0, .ref b), (1, .ref o), (2, .ref mo), (3, .int (nI j))]) (K : ∀ (SI : Nat → FI) (SV : Nat → FV) (LaI : Nat → FI) (LaV : Nat → FV) (LsI : Nat → FI) (LsV : Nat → FV) (I : FI) (V : FV), Rel SI SV LaI LaV LsI LsV I V → ∀ (H : Heap) (locs : List Loc), va_P D vwCl (List.flatten (lwW cs o hX hs laa lah lsa lsh mo mh SI SV LaI LaV LsI LsV I V)) H → va_D (fun q : Nat => s.heap.size ≤ q) (List.flatten (lwW cs o hX hs laa lah lsa lsh mo mh SI SV LaI LaV LsI LsV I V)) → va_S (fun q : Nat => s.heap.size ≤ q) s.heap H locs → ∀ ls : Array Slot, lv_has ls 4 [(0, .ref b), (1, .ref o), (2, .ref mo), (3, .int (nI j))] → W p l e room_1 s m #[Value.ref b] below meth c H locs 149 4007 (lw_Z below #[Value.ref b] s) (F0 m 893 ls [])) : W p l e room_1 s m #[Value.ref b] below meth c H locs 149 4007 (lw_Z below #[Value.ref b] s) (F0 m 659 ls []) := by
  have hA : ∀ q : Nat, s.heap.size ≤ q → (fun q : Nat => s.heap.size ≤ q) q := fun _ h => h
  have hbA : ¬ (fun q : Nat => s.heap.size ≤ q) b := Nat.not_le.mpr hbl
  have h_1 : vp_in (nI j + 1) L := by rw [show (nI j + 1 : Int32) = nI (j + 1) from nI_add j 1]; exact vp_in_nI (by omega) (by omega)
  have h_2 : vp_in (nI j + 2) L := by rw [show (nI j + 2 : Int32) = nI (j + 2) from nI_add j 2]; exact vp_in_nI (by omega) (by omega)
  have h_3 : vp_in (nI j + 3) L := by rw [show (nI j + 3 : Int32) = nI (j + 3) from nI_add j 3]; exact vp_in_nI (by omega) (by omega)
  have h_4 : vp_in (nI j + 4) L := by rw [show (nI j + 4 : Int32) = nI (j + 4) from nI_add j 4]; exact vp_in_nI (by omega) (by omega)
  by_cases hz : xs (nI j + 3).toNatClampNeg = 0
  · skip
    refine lv_aload_n hx hb dL_law_659 rfl (lv_at hl 1 rfl) ?_
    refine lv_aload_n hx hb dL_law_660 rfl (lv_at hl 0 rfl) ?_
    refine lv_iload_n hx hb dL_law_661 rfl (lv_at hl 3 rfl) ?_
    refine lv_iconst (v := 1) hx hb dL_law_662 (by decide) ?_
    refine lv_iadd hx hb dL_law_663 ?_
    refine va_sld hx hb hXs hbl hbA hS h_1 dL_law_664 ?_
    refine lv_aload_n hx hb dL_law_665 rfl (lv_at hl 0 rfl) ?_
    refine lv_iload_n hx hb dL_law_666 rfl (lv_at hl 3 rfl) ?_
    refine lv_iconst (v := 2) hx hb dL_law_667 (by decide) ?_
    refine lv_iadd hx hb dL_law_668 ?_
    refine va_sld hx hb hXs hbl hbA hS h_2 dL_law_669 ?_
    refine lv_aload_n hx hb dL_law_670 rfl (lv_at hl 0 rfl) ?_
    refine lv_iload_n hx hb dL_law_671 rfl (lv_at hl 3 rfl) ?_
    refine lv_iconst (v := 3) hx hb dL_law_672 (by decide) ?_
    refine lv_iadd hx hb dL_law_673 ?_
    refine va_sld hx hb hXs hbl hbA hS h_3 dL_law_674 ?_
    refine lv_if_eq (tgt := 682) hx hb dL_law_675 (by decide) (fun _ => ?_) (fun c9 => absurd hz c9)
    refine lv_iconst (v := 0) hx hb dL_law_682 (by decide) ?_
    obtain ⟨r, nIcrd, nVcrd, I', V', q1, q2, hRel2⟩ := S SI SV LaI LaV LsI LsV I V (xs ((nI j) + 1).toNatClampNeg) (xs ((nI j) + 2).toNatClampNeg) 0 hRel (Or.inl rfl)
    have hPc := subB (bs := lwW cs o hX hs laa lah lsa lsh mo mh SI SV LaI LaV LsI LsV I V) (ca := [w_X cs o hX (SI 99) (SV 99), w_Led cs (hX 1) (hs 1) (SI 1) (SV 1), w_Crd cs (hX 8) (hs 8) (SI 8) (SV 8)]) (ra := [w_Txt cs (hX 0) (hs 0) (SI 0) (SV 0), w_Act cs (hX 2) (hs 2) laa (SI 2) (SV 2), w_Pool cs laa lah LaI LaV 10, w_Slt cs (hX 3) (hs 3) lsa (SI 3) (SV 3), w_Pool cs lsa lsh LsI LsV 2, w_Day cs (hX 4) (hs 4) (SI 4) (SV 4), w_Set cs (hX 5) (hs 5) (SI 5) (SV 5), w_Rng cs (hX 6) (hs 6) (SI 6) (SV 6), w_Lnd cs (hX 7) (hs 7) (SI 7) (SV 7), w_M cs mo mh I V]) [0, 2, 11, 1, 3, 4, 5, 6, 7, 8, 9, 10, 12] (by decide) rfl rfl hP
    have wX := cwV (R := room_1) (s := s) (args := #[Value.ref b]) (rm := rm_X_run) (mc := 0) (ms := 0) 3 hts gL_law_X9_run rfl rfl rfl (by decide +kernel) ⟨Nat.le_of_ble_eq_true rfl, Nat.le_of_ble_eq_true rfl⟩
    have hDc := subD (bs := lwW cs o hX hs laa lah lsa lsh mo mh SI SV LaI LaV LsI LsV I V) (ca := [w_X cs o hX (SI 99) (SV 99), w_Led cs (hX 1) (hs 1) (SI 1) (SV 1), w_Crd cs (hX 8) (hs 8) (SI 8) (SV 8)]) (ra := [w_Txt cs (hX 0) (hs 0) (SI 0) (SV 0), w_Act cs (hX 2) (hs 2) laa (SI 2) (SV 2), w_Pool cs laa lah LaI LaV 10, w_Slt cs (hX 3) (hs 3) lsa (SI 3) (SV 3), w_Pool cs lsa lsh LsI LsV 2, w_Day cs (hX 4) (hs 4) (SI 4) (SV 4), w_Set cs (hX 5) (hs 5) (SI 5) (SV 5), w_Rng cs (hX 6) (hs 6) (SI 6) (SV 6), w_Lnd cs (hX 7) (hs 7) (SI 7) (SV 7), w_M cs mo mh I V]) [0, 2, 11, 1, 3, 4, 5, 6, 7, 8, 9, 10, 12] (by decide) rfl rfl hD
    have hFc := xfree hDc hS hA
    refine va_calll (va_runV (As := [.int (xs ((nI j) + 1).toNatClampNeg), .int (xs ((nI j) + 2).toNatClampNeg), .int 0]) (rest := []) ⟨hx, hb, hml, hown, hts⟩ (c_X_run l D cs o hX (hs 1) (hs 8) _ (SI 99) (SV 99) (SI 1) (SV 1) (SI 8) (SV 8) (xs ((nI j) + 1).toNatClampNeg) (xs ((nI j) + 2).toNatClampNeg) 0 f _ q1) wX ⟨yP_moved, va_recv hK hPc (ci := 9) (q0 := 0) rfl rfl, fun U hU hW => ⟨rfl, by rw [hU], by rw [hU]; exact hPc, va_K.moved hW.alike hK, yN_warm hW hN, hDc.weaken (fun _ _ _ _ => trivial)⟩⟩ rfl rfl hl.1 rfl (lv_room (Nat.le_of_ble_eq_true rfl)) dL_law_683 ⟨Nat.le_of_ble_eq_true rfl, Nat.le_of_ble_eq_true rfl⟩) hS (fun q _ h9 => hFc q h9) hFc (fun r0 u t H1 locs ht hvm hw hB hz1 hk1 hS => ?_)
    have er0 := congrArg Prod.fst hw
    have eu := congrArg Prod.snd hw
    dsimp only at er0 eu
    rw [er0]
    rw [eu] at hB
    obtain ⟨hP1, hK1, hD1⟩ := hB
    rw [ht] at hP1
    obtain ⟨hP, hD⟩ := joinB (bs := lwW cs o hX hs laa lah lsa lsh mo mh SI SV LaI LaV LsI LsV I V) (ca := [w_X cs o hX (SI 99) (SV 99), w_Led cs (hX 1) (hs 1) (SI 1) (SV 1), w_Crd cs (hX 8) (hs 8) (SI 8) (SV 8)]) (ra := [w_Txt cs (hX 0) (hs 0) (SI 0) (SV 0), w_Act cs (hX 2) (hs 2) laa (SI 2) (SV 2), w_Pool cs laa lah LaI LaV 10, w_Slt cs (hX 3) (hs 3) lsa (SI 3) (SV 3), w_Pool cs lsa lsh LsI LsV 2, w_Day cs (hX 4) (hs 4) (SI 4) (SV 4), w_Set cs (hX 5) (hs 5) (SI 5) (SV 5), w_Rng cs (hX 6) (hs 6) (SI 6) (SV 6), w_Lnd cs (hX 7) (hs 7) (SI 7) (SV 7), w_M cs mo mh I V]) [0, 2, 11, 1, 3, 4, 5, 6, 7, 8, 9, 10, 12] (by decide) rfl rfl hP hD hk1 hFc (cb := [w_X cs o hX (SI 99) (SV 99), w_Led cs (hX 1) (hs 1) (SI 1) (SV 1), w_Crd cs (hX 8) (hs 8) nIcrd nVcrd]) hP1 hD1 (be := lwW cs o hX hs laa lah lsa lsh mo mh (va_up SI 8 nIcrd) (va_up SV 8 nVcrd) LaI LaV LsI LsV I V) [0, 3, 1, 4, 5, 6, 7, 8, 9, 10, 11, 2, 12] (by decide) rfl rfl
    refine lv_aload_n hx hb dL_law_686 rfl (lv_at hl 2 rfl) ?_
    refine lv_aload_n hx hb dL_law_687 rfl (lv_at hl 0 rfl) ?_
    refine lv_iload_n hx hb dL_law_688 rfl (lv_at hl 3 rfl) ?_
    refine lv_iconst (v := 1) hx hb dL_law_689 (by decide) ?_
    refine lv_iadd hx hb dL_law_690 ?_
    refine va_sld hx hb hXs hbl hbA hS h_1 dL_law_691 ?_
    refine lv_aload_n hx hb dL_law_692 rfl (lv_at hl 0 rfl) ?_
    refine lv_iload_n hx hb dL_law_693 rfl (lv_at hl 3 rfl) ?_
    refine lv_iconst (v := 2) hx hb dL_law_694 (by decide) ?_
    refine lv_iadd hx hb dL_law_695 ?_
    refine va_sld hx hb hXs hbl hbA hS h_2 dL_law_696 ?_
    refine lv_aload_n hx hb dL_law_697 rfl (lv_at hl 0 rfl) ?_
    refine lv_iload_n hx hb dL_law_698 rfl (lv_at hl 3 rfl) ?_
    refine lv_iconst (v := 3) hx hb dL_law_699 (by decide) ?_
    refine lv_iadd hx hb dL_law_700 ?_
    refine va_sld hx hb hXs hbl hbA hS h_3 dL_law_701 ?_
    refine lv_if_eq (tgt := 709) hx hb dL_law_702 (by decide) (fun _ => ?_) (fun c9 => absurd hz c9)
    refine lv_iconst (v := 0) hx hb dL_law_709 (by decide) ?_
    have hPm := subB (bs := lwW cs o hX hs laa lah lsa lsh mo mh (va_up SI 8 nIcrd) (va_up SV 8 nVcrd) LaI LaV LsI LsV I V) (ca := [w_M cs mo mh I V]) (ra := [w_X cs o hX (SI 99) (SV 99), w_Txt cs (hX 0) (hs 0) (SI 0) (SV 0), w_Led cs (hX 1) (hs 1) (SI 1) (SV 1), w_Act cs (hX 2) (hs 2) laa (SI 2) (SV 2), w_Pool cs laa lah LaI LaV 10, w_Slt cs (hX 3) (hs 3) lsa (SI 3) (SV 3), w_Pool cs lsa lsh LsI LsV 2, w_Day cs (hX 4) (hs 4) (SI 4) (SV 4), w_Set cs (hX 5) (hs 5) (SI 5) (SV 5), w_Rng cs (hX 6) (hs 6) (SI 6) (SV 6), w_Lnd cs (hX 7) (hs 7) (SI 7) (SV 7), w_Crd cs (hX 8) (hs 8) nIcrd nVcrd]) [12, 0, 1, 2, 3, 4, 5, 6, 7, 8, 9, 10, 11] (by decide) rfl rfl hP
    have hDm := subD (bs := lwW cs o hX hs laa lah lsa lsh mo mh (va_up SI 8 nIcrd) (va_up SV 8 nVcrd) LaI LaV LsI LsV I V) (ca := [w_M cs mo mh I V]) (ra := [w_X cs o hX (SI 99) (SV 99), w_Txt cs (hX 0) (hs 0) (SI 0) (SV 0), w_Led cs (hX 1) (hs 1) (SI 1) (SV 1), w_Act cs (hX 2) (hs 2) laa (SI 2) (SV 2), w_Pool cs laa lah LaI LaV 10, w_Slt cs (hX 3) (hs 3) lsa (SI 3) (SV 3), w_Pool cs lsa lsh LsI LsV 2, w_Day cs (hX 4) (hs 4) (SI 4) (SV 4), w_Set cs (hX 5) (hs 5) (SI 5) (SV 5), w_Rng cs (hX 6) (hs 6) (SI 6) (SV 6), w_Lnd cs (hX 7) (hs 7) (SI 7) (SV 7), w_Crd cs (hX 8) (hs 8) nIcrd nVcrd]) [12, 0, 1, 2, 3, 4, 5, 6, 7, 8, 9, 10, 11] (by decide) rfl rfl hD
    have hPm : va_P D vwCl (w_M cs mo mh I V) _ := hPm
    have hDm : va_D (fun q : Nat => s.heap.size ≤ q) (w_M cs mo mh I V) := hDm
    have hFm := xfree hDm hS hA
    have wM := cwV (R := room_1) (s := s) (args := #[Value.ref b]) (rm := rm_M_run) (mc := 0) (ms := 0) 3 hts gL_law_X10_run rfl rfl rfl (by decide +kernel) ⟨Nat.le_of_ble_eq_true rfl, Nat.le_of_ble_eq_true rfl⟩
    refine va_calll (va_runV (As := [.int (xs ((nI j) + 1).toNatClampNeg), .int (xs ((nI j) + 2).toNatClampNeg), .int 0]) (rest := [.long r]) ⟨hx, hb, hml, hown, hts⟩ (c_M_run l D cs mo mh _ I V (xs ((nI j) + 1).toNatClampNeg) (xs ((nI j) + 2).toNatClampNeg) 0 f _ q2) wM ⟨xP_moved, va_recv hK hPm (ci := 10) (q0 := 0) rfl rfl, fun U hU hW => ⟨rfl, by rw [hU], by rw [hU]; exact hPm, va_K.moved hW.alike hK, hDm.weaken (fun _ _ _ _ => trivial)⟩⟩ rfl rfl hl.1 rfl (lv_room (Nat.le_of_ble_eq_true rfl)) dL_law_710 ⟨Nat.le_of_ble_eq_true rfl, Nat.le_of_ble_eq_true rfl⟩) hS (fun q _ h9 => hFm q h9) hFm (fun r0 u t H1 locs ht hvm hw hB hz1 hk1 hS => ?_)
    have er0 := congrArg Prod.fst hw
    have eu := congrArg Prod.snd hw
    dsimp only at er0 eu
    rw [er0]
    rw [eu] at hB
    obtain ⟨hP1, hK1, hD1⟩ := hB
    rw [ht] at hP1
    have hP1 : va_P D vwCl (List.flatten [w_M cs mo mh I' V']) _ := hP1
    have hD1 : va_D (va_A (List.flatten [w_M cs mo mh I V]) _) (List.flatten [w_M cs mo mh I' V']) := hD1
    obtain ⟨hP, hD⟩ := joinB (bs := lwW cs o hX hs laa lah lsa lsh mo mh (va_up SI 8 nIcrd) (va_up SV 8 nVcrd) LaI LaV LsI LsV I V) (ca := [w_M cs mo mh I V]) (ra := [w_X cs o hX (SI 99) (SV 99), w_Txt cs (hX 0) (hs 0) (SI 0) (SV 0), w_Led cs (hX 1) (hs 1) (SI 1) (SV 1), w_Act cs (hX 2) (hs 2) laa (SI 2) (SV 2), w_Pool cs laa lah LaI LaV 10, w_Slt cs (hX 3) (hs 3) lsa (SI 3) (SV 3), w_Pool cs lsa lsh LsI LsV 2, w_Day cs (hX 4) (hs 4) (SI 4) (SV 4), w_Set cs (hX 5) (hs 5) (SI 5) (SV 5), w_Rng cs (hX 6) (hs 6) (SI 6) (SV 6), w_Lnd cs (hX 7) (hs 7) (SI 7) (SV 7), w_Crd cs (hX 8) (hs 8) nIcrd nVcrd]) [12, 0, 1, 2, 3, 4, 5, 6, 7, 8, 9, 10, 11] (by decide) rfl rfl hP hD hk1 hFm (cb := [w_M cs mo mh I' V']) hP1 hD1 (be := lwW cs o hX hs laa lah lsa lsh mo mh (va_up SI 8 nIcrd) (va_up SV 8 nVcrd) LaI LaV LsI LsV I' V') [1, 2, 3, 4, 5, 6, 7, 8, 9, 10, 11, 12, 0] (by decide) rfl rfl
    refine W.lcmp hx hb dL_law_713 ?_
    rw [lg_same]
    refine lv_if_eq (tgt := 893) hx hb dL_law_714 (by decide) (fun _ => ?_) (fun c9 => absurd rfl c9)
    exact K (va_up SI 8 nIcrd) (va_up SV 8 nVcrd) LaI LaV LsI LsV I' V' hRel2 _ _ hP hD hS _ hl
  · skip
    refine lv_aload_n hx hb dL_law_659 rfl (lv_at hl 1 rfl) ?_
    refine lv_aload_n hx hb dL_law_660 rfl (lv_at hl 0 rfl) ?_
    refine lv_iload_n hx hb dL_law_661 rfl (lv_at hl 3 rfl) ?_
    refine lv_iconst (v := 1) hx hb dL_law_662 (by decide) ?_
    refine lv_iadd hx hb dL_law_663 ?_
    refine va_sld hx hb hXs hbl hbA hS h_1 dL_law_664 ?_
    refine lv_aload_n hx hb dL_law_665 rfl (lv_at hl 0 rfl) ?_
    refine lv_iload_n hx hb dL_law_666 rfl (lv_at hl 3 rfl) ?_
    refine lv_iconst (v := 2) hx hb dL_law_667 (by decide) ?_
    refine lv_iadd hx hb dL_law_668 ?_
    refine va_sld hx hb hXs hbl hbA hS h_2 dL_law_669 ?_
    refine lv_aload_n hx hb dL_law_670 rfl (lv_at hl 0 rfl) ?_
    refine lv_iload_n hx hb dL_law_671 rfl (lv_at hl 3 rfl) ?_
    refine lv_iconst (v := 3) hx hb dL_law_672 (by decide) ?_
    refine lv_iadd hx hb dL_law_673 ?_
    refine va_sld hx hb hXs hbl hbA hS h_3 dL_law_674 ?_
    refine lv_if_eq (tgt := 682) hx hb dL_law_675 (by decide) (fun c9 => absurd c9 hz) (fun _ => ?_)
    refine lv_iconst (v := 1) hx hb dL_law_678 (by decide) ?_
    refine lv_goto (tgt := 683) hx hb dL_law_679 (by decide) ?_
    obtain ⟨r, nIcrd, nVcrd, I', V', q1, q2, hRel2⟩ := S SI SV LaI LaV LsI LsV I V (xs ((nI j) + 1).toNatClampNeg) (xs ((nI j) + 2).toNatClampNeg) 1 hRel (Or.inr rfl)
    have hPc := subB (bs := lwW cs o hX hs laa lah lsa lsh mo mh SI SV LaI LaV LsI LsV I V) (ca := [w_X cs o hX (SI 99) (SV 99), w_Led cs (hX 1) (hs 1) (SI 1) (SV 1), w_Crd cs (hX 8) (hs 8) (SI 8) (SV 8)]) (ra := [w_Txt cs (hX 0) (hs 0) (SI 0) (SV 0), w_Act cs (hX 2) (hs 2) laa (SI 2) (SV 2), w_Pool cs laa lah LaI LaV 10, w_Slt cs (hX 3) (hs 3) lsa (SI 3) (SV 3), w_Pool cs lsa lsh LsI LsV 2, w_Day cs (hX 4) (hs 4) (SI 4) (SV 4), w_Set cs (hX 5) (hs 5) (SI 5) (SV 5), w_Rng cs (hX 6) (hs 6) (SI 6) (SV 6), w_Lnd cs (hX 7) (hs 7) (SI 7) (SV 7), w_M cs mo mh I V]) [0, 2, 11, 1, 3, 4, 5, 6, 7, 8, 9, 10, 12] (by decide) rfl rfl hP
    have wX := cwV (R := room_1) (s := s) (args := #[Value.ref b]) (rm := rm_X_run) (mc := 0) (ms := 0) 3 hts gL_law_X9_run rfl rfl rfl (by decide +kernel) ⟨Nat.le_of_ble_eq_true rfl, Nat.le_of_ble_eq_true rfl⟩
    have hDc := subD (bs := lwW cs o hX hs laa lah lsa lsh mo mh SI SV LaI LaV LsI LsV I V) (ca := [w_X cs o hX (SI 99) (SV 99), w_Led cs (hX 1) (hs 1) (SI 1) (SV 1), w_Crd cs (hX 8) (hs 8) (SI 8) (SV 8)]) (ra := [w_Txt cs (hX 0) (hs 0) (SI 0) (SV 0), w_Act cs (hX 2) (hs 2) laa (SI 2) (SV 2), w_Pool cs laa lah LaI LaV 10, w_Slt cs (hX 3) (hs 3) lsa (SI 3) (SV 3), w_Pool cs lsa lsh LsI LsV 2, w_Day cs (hX 4) (hs 4) (SI 4) (SV 4), w_Set cs (hX 5) (hs 5) (SI 5) (SV 5), w_Rng cs (hX 6) (hs 6) (SI 6) (SV 6), w_Lnd cs (hX 7) (hs 7) (SI 7) (SV 7), w_M cs mo mh I V]) [0, 2, 11, 1, 3, 4, 5, 6, 7, 8, 9, 10, 12] (by decide) rfl rfl hD
    have hFc := xfree hDc hS hA
    refine va_calll (va_runV (As := [.int (xs ((nI j) + 1).toNatClampNeg), .int (xs ((nI j) + 2).toNatClampNeg), .int 1]) (rest := []) ⟨hx, hb, hml, hown, hts⟩ (c_X_run l D cs o hX (hs 1) (hs 8) _ (SI 99) (SV 99) (SI 1) (SV 1) (SI 8) (SV 8) (xs ((nI j) + 1).toNatClampNeg) (xs ((nI j) + 2).toNatClampNeg) 1 f _ q1) wX ⟨yP_moved, va_recv hK hPc (ci := 9) (q0 := 0) rfl rfl, fun U hU hW => ⟨rfl, by rw [hU], by rw [hU]; exact hPc, va_K.moved hW.alike hK, yN_warm hW hN, hDc.weaken (fun _ _ _ _ => trivial)⟩⟩ rfl rfl hl.1 rfl (lv_room (Nat.le_of_ble_eq_true rfl)) dL_law_683 ⟨Nat.le_of_ble_eq_true rfl, Nat.le_of_ble_eq_true rfl⟩) hS (fun q _ h9 => hFc q h9) hFc (fun r0 u t H1 locs ht hvm hw hB hz1 hk1 hS => ?_)
    have er0 := congrArg Prod.fst hw
    have eu := congrArg Prod.snd hw
    dsimp only at er0 eu
    rw [er0]
    rw [eu] at hB
    obtain ⟨hP1, hK1, hD1⟩ := hB
    rw [ht] at hP1
    obtain ⟨hP, hD⟩ := joinB (bs := lwW cs o hX hs laa lah lsa lsh mo mh SI SV LaI LaV LsI LsV I V) (ca := [w_X cs o hX (SI 99) (SV 99), w_Led cs (hX 1) (hs 1) (SI 1) (SV 1), w_Crd cs (hX 8) (hs 8) (SI 8) (SV 8)]) (ra := [w_Txt cs (hX 0) (hs 0) (SI 0) (SV 0), w_Act cs (hX 2) (hs 2) laa (SI 2) (SV 2), w_Pool cs laa lah LaI LaV 10, w_Slt cs (hX 3) (hs 3) lsa (SI 3) (SV 3), w_Pool cs lsa lsh LsI LsV 2, w_Day cs (hX 4) (hs 4) (SI 4) (SV 4), w_Set cs (hX 5) (hs 5) (SI 5) (SV 5), w_Rng cs (hX 6) (hs 6) (SI 6) (SV 6), w_Lnd cs (hX 7) (hs 7) (SI 7) (SV 7), w_M cs mo mh I V]) [0, 2, 11, 1, 3, 4, 5, 6, 7, 8, 9, 10, 12] (by decide) rfl rfl hP hD hk1 hFc (cb := [w_X cs o hX (SI 99) (SV 99), w_Led cs (hX 1) (hs 1) (SI 1) (SV 1), w_Crd cs (hX 8) (hs 8) nIcrd nVcrd]) hP1 hD1 (be := lwW cs o hX hs laa lah lsa lsh mo mh (va_up SI 8 nIcrd) (va_up SV 8 nVcrd) LaI LaV LsI LsV I V) [0, 3, 1, 4, 5, 6, 7, 8, 9, 10, 11, 2, 12] (by decide) rfl rfl
    refine lv_aload_n hx hb dL_law_686 rfl (lv_at hl 2 rfl) ?_
    refine lv_aload_n hx hb dL_law_687 rfl (lv_at hl 0 rfl) ?_
    refine lv_iload_n hx hb dL_law_688 rfl (lv_at hl 3 rfl) ?_
    refine lv_iconst (v := 1) hx hb dL_law_689 (by decide) ?_
    refine lv_iadd hx hb dL_law_690 ?_
    refine va_sld hx hb hXs hbl hbA hS h_1 dL_law_691 ?_
    refine lv_aload_n hx hb dL_law_692 rfl (lv_at hl 0 rfl) ?_
    refine lv_iload_n hx hb dL_law_693 rfl (lv_at hl 3 rfl) ?_
    refine lv_iconst (v := 2) hx hb dL_law_694 (by decide) ?_
    refine lv_iadd hx hb dL_law_695 ?_
    refine va_sld hx hb hXs hbl hbA hS h_2 dL_law_696 ?_
    refine lv_aload_n hx hb dL_law_697 rfl (lv_at hl 0 rfl) ?_
    refine lv_iload_n hx hb dL_law_698 rfl (lv_at hl 3 rfl) ?_
    refine lv_iconst (v := 3) hx hb dL_law_699 (by decide) ?_
    refine lv_iadd hx hb dL_law_700 ?_
    refine va_sld hx hb hXs hbl hbA hS h_3 dL_law_701 ?_
    refine lv_if_eq (tgt := 709) hx hb dL_law_702 (by decide) (fun c9 => absurd c9 hz) (fun _ => ?_)
    refine lv_iconst (v := 1) hx hb dL_law_705 (by decide) ?_
    refine lv_goto (tgt := 710) hx hb dL_law_706 (by decide) ?_
    have hPm := subB (bs := lwW cs o hX hs laa lah lsa lsh mo mh (va_up SI 8 nIcrd) (va_up SV 8 nVcrd) LaI LaV LsI LsV I V) (ca := [w_M cs mo mh I V]) (ra := [w_X cs o hX (SI 99) (SV 99), w_Txt cs (hX 0) (hs 0) (SI 0) (SV 0), w_Led cs (hX 1) (hs 1) (SI 1) (SV 1), w_Act cs (hX 2) (hs 2) laa (SI 2) (SV 2), w_Pool cs laa lah LaI LaV 10, w_Slt cs (hX 3) (hs 3) lsa (SI 3) (SV 3), w_Pool cs lsa lsh LsI LsV 2, w_Day cs (hX 4) (hs 4) (SI 4) (SV 4), w_Set cs (hX 5) (hs 5) (SI 5) (SV 5), w_Rng cs (hX 6) (hs 6) (SI 6) (SV 6), w_Lnd cs (hX 7) (hs 7) (SI 7) (SV 7), w_Crd cs (hX 8) (hs 8) nIcrd nVcrd]) [12, 0, 1, 2, 3, 4, 5, 6, 7, 8, 9, 10, 11] (by decide) rfl rfl hP
    have hDm := subD (bs := lwW cs o hX hs laa lah lsa lsh mo mh (va_up SI 8 nIcrd) (va_up SV 8 nVcrd) LaI LaV LsI LsV I V) (ca := [w_M cs mo mh I V]) (ra := [w_X cs o hX (SI 99) (SV 99), w_Txt cs (hX 0) (hs 0) (SI 0) (SV 0), w_Led cs (hX 1) (hs 1) (SI 1) (SV 1), w_Act cs (hX 2) (hs 2) laa (SI 2) (SV 2), w_Pool cs laa lah LaI LaV 10, w_Slt cs (hX 3) (hs 3) lsa (SI 3) (SV 3), w_Pool cs lsa lsh LsI LsV 2, w_Day cs (hX 4) (hs 4) (SI 4) (SV 4), w_Set cs (hX 5) (hs 5) (SI 5) (SV 5), w_Rng cs (hX 6) (hs 6) (SI 6) (SV 6), w_Lnd cs (hX 7) (hs 7) (SI 7) (SV 7), w_Crd cs (hX 8) (hs 8) nIcrd nVcrd]) [12, 0, 1, 2, 3, 4, 5, 6, 7, 8, 9, 10, 11] (by decide) rfl rfl hD
    have hPm : va_P D vwCl (w_M cs mo mh I V) _ := hPm
    have hDm : va_D (fun q : Nat => s.heap.size ≤ q) (w_M cs mo mh I V) := hDm
    have hFm := xfree hDm hS hA
    have wM := cwV (R := room_1) (s := s) (args := #[Value.ref b]) (rm := rm_M_run) (mc := 0) (ms := 0) 3 hts gL_law_X10_run rfl rfl rfl (by decide +kernel) ⟨Nat.le_of_ble_eq_true rfl, Nat.le_of_ble_eq_true rfl⟩
    refine va_calll (va_runV (As := [.int (xs ((nI j) + 1).toNatClampNeg), .int (xs ((nI j) + 2).toNatClampNeg), .int 1]) (rest := [.long r]) ⟨hx, hb, hml, hown, hts⟩ (c_M_run l D cs mo mh _ I V (xs ((nI j) + 1).toNatClampNeg) (xs ((nI j) + 2).toNatClampNeg) 1 f _ q2) wM ⟨xP_moved, va_recv hK hPm (ci := 10) (q0 := 0) rfl rfl, fun U hU hW => ⟨rfl, by rw [hU], by rw [hU]; exact hPm, va_K.moved hW.alike hK, hDm.weaken (fun _ _ _ _ => trivial)⟩⟩ rfl rfl hl.1 rfl (lv_room (Nat.le_of_ble_eq_true rfl)) dL_law_710 ⟨Nat.le_of_ble_eq_true rfl, Nat.le_of_ble_eq_true rfl⟩) hS (fun q _ h9 => hFm q h9) hFm (fun r0 u t H1 locs ht hvm hw hB hz1 hk1 hS => ?_)
    have er0 := congrArg Prod.fst hw
    have eu := congrArg Prod.snd hw
    dsimp only at er0 eu
    rw [er0]
    rw [eu] at hB
    obtain ⟨hP1, hK1, hD1⟩ := hB
    rw [ht] at hP1
    have hP1 : va_P D vwCl (List.flatten [w_M cs mo mh I' V']) _ := hP1
    have hD1 : va_D (va_A (List.flatten [w_M cs mo mh I V]) _) (List.flatten [w_M cs mo mh I' V']) := hD1
    obtain ⟨hP, hD⟩ := joinB (bs := lwW cs o hX hs laa lah lsa lsh mo mh (va_up SI 8 nIcrd) (va_up SV 8 nVcrd) LaI LaV LsI LsV I V) (ca := [w_M cs mo mh I V]) (ra := [w_X cs o hX (SI 99) (SV 99), w_Txt cs (hX 0) (hs 0) (SI 0) (SV 0), w_Led cs (hX 1) (hs 1) (SI 1) (SV 1), w_Act cs (hX 2) (hs 2) laa (SI 2) (SV 2), w_Pool cs laa lah LaI LaV 10, w_Slt cs (hX 3) (hs 3) lsa (SI 3) (SV 3), w_Pool cs lsa lsh LsI LsV 2, w_Day cs (hX 4) (hs 4) (SI 4) (SV 4), w_Set cs (hX 5) (hs 5) (SI 5) (SV 5), w_Rng cs (hX 6) (hs 6) (SI 6) (SV 6), w_Lnd cs (hX 7) (hs 7) (SI 7) (SV 7), w_Crd cs (hX 8) (hs 8) nIcrd nVcrd]) [12, 0, 1, 2, 3, 4, 5, 6, 7, 8, 9, 10, 11] (by decide) rfl rfl hP hD hk1 hFm (cb := [w_M cs mo mh I' V']) hP1 hD1 (be := lwW cs o hX hs laa lah lsa lsh mo mh (va_up SI 8 nIcrd) (va_up SV 8 nVcrd) LaI LaV LsI LsV I' V') [1, 2, 3, 4, 5, 6, 7, 8, 9, 10, 11, 12, 0] (by decide) rfl rfl
    refine W.lcmp hx hb dL_law_713 ?_
    rw [lg_same]
    refine lv_if_eq (tgt := 893) hx hb dL_law_714 (by decide) (fun _ => ?_) (fun c9 => absurd rfl c9)
    exact K (va_up SI 8 nIcrd) (va_up SV 8 nVcrd) LaI LaV LsI LsV I' V' hRel2 _ _ hP hD hS _ hl
set_option maxHeartbeats 4000000 in
set_option maxRecDepth 100000 in
theorem law_enough {Rel : (Nat → FI) → (Nat → FV) → (Nat → FI) → (Nat → FV) → (Nat → FI) → (Nat → FV) → FI → FV → Prop} {f : Nat} (S : Sim_enough Rel f) {p : Program} {l : Launch} {e : Env} {s : State} {m : MethodId} {below : List Frame} {meth : Method} {c : Code} {b L : Nat} {xs : Nat → Int32} {D : va_G} {cs : Nat → ClassId} {o : Nat} {hX : Nat → Nat} {hs : Nat → Nat → Nat} {laa : Nat → Nat} {lah : Nat → Nat → Nat} {lsa : Nat → Nat} {lsh : Nat → Nat → Nat} {mo : Nat} {mh : Nat → Nat} (hx : p.tables.exec = Jvm.exec) (hb : c.code = code) (hml : c.maxLocals = 4) (hown : s.vm.findClass RL = some m.cls) (hts : ∀ w ∈ wsL_law, w.before #[Value.ref b] s = true) (hXs : va_X b L xs s s.heap) (hbl : b < s.heap.size) (hK : va_K D vwCl (tyA cs) s) (hN : yN s) {j : Nat} (hj : j + 5 ≤ L) (hL : L ≤ 2560) (SI : Nat → FI) (SV : Nat → FV) (LaI : Nat → FI) (LaV : Nat → FV) (LsI : Nat → FI) (LsV : Nat → FV) (I : FI) (V : FV) (hRel : Rel SI SV LaI LaV LsI LsV I V) (H : Heap) (locs : List Loc) (hP : va_P D vwCl (List.flatten (lwW cs o hX hs laa lah lsa lsh mo mh SI SV LaI LaV LsI LsV I V)) H) (hD : va_D (fun q : Nat => s.heap.size ≤ q) (List.flatten (lwW cs o hX hs laa lah lsa lsh mo mh SI SV LaI LaV LsI LsV I V))) (hS : va_S (fun q : Nat => s.heap.size ≤ q) s.heap H locs) (ls : Array Slot) (hl : lv_has ls 4 [(0, .ref b), (1, .ref o), (2, .ref mo), (3, .int (nI j))]) (K : ∀ (SI : Nat → FI) (SV : Nat → FV) (LaI : Nat → FI) (LaV : Nat → FV) (LsI : Nat → FI) (LsV : Nat → FV) (I : FI) (V : FV), Rel SI SV LaI LaV LsI LsV I V → ∀ (H : Heap) (locs : List Loc), va_P D vwCl (List.flatten (lwW cs o hX hs laa lah lsa lsh mo mh SI SV LaI LaV LsI LsV I V)) H → va_D (fun q : Nat => s.heap.size ≤ q) (List.flatten (lwW cs o hX hs laa lah lsa lsh mo mh SI SV LaI LaV LsI LsV I V)) → va_S (fun q : Nat => s.heap.size ≤ q) s.heap H locs → ∀ ls : Array Slot, lv_has ls 4 [(0, .ref b), (1, .ref o), (2, .ref mo), (3, .int (nI j))] → W p l e room_1 s m #[Value.ref b] below meth c H locs 149 4007 (lw_Z below #[Value.ref b] s) (F0 m 893 ls [])) : W p l e room_1 s m #[Value.ref b] below meth c H locs 149 4007 (lw_Z below #[Value.ref b] s) (F0 m 719 ls []) := by
  have hA : ∀ q : Nat, s.heap.size ≤ q → (fun q : Nat => s.heap.size ≤ q) q := fun _ h => h
  have hbA : ¬ (fun q : Nat => s.heap.size ≤ q) b := Nat.not_le.mpr hbl
  have h_1 : vp_in (nI j + 1) L := by rw [show (nI j + 1 : Int32) = nI (j + 1) from nI_add j 1]; exact vp_in_nI (by omega) (by omega)
  have h_2 : vp_in (nI j + 2) L := by rw [show (nI j + 2 : Int32) = nI (j + 2) from nI_add j 2]; exact vp_in_nI (by omega) (by omega)
  have h_3 : vp_in (nI j + 3) L := by rw [show (nI j + 3 : Int32) = nI (j + 3) from nI_add j 3]; exact vp_in_nI (by omega) (by omega)
  have h_4 : vp_in (nI j + 4) L := by rw [show (nI j + 4 : Int32) = nI (j + 4) from nI_add j 4]; exact vp_in_nI (by omega) (by omega)
  refine lv_aload_n hx hb dL_law_719 rfl (lv_at hl 1 rfl) ?_
  refine lv_aload_n hx hb dL_law_720 rfl (lv_at hl 0 rfl) ?_
  refine lv_iload_n hx hb dL_law_721 rfl (lv_at hl 3 rfl) ?_
  refine lv_iconst (v := 1) hx hb dL_law_722 (by decide) ?_
  refine lv_iadd hx hb dL_law_723 ?_
  refine va_sld hx hb hXs hbl hbA hS h_1 dL_law_724 ?_
  refine lv_aload_n hx hb dL_law_725 rfl (lv_at hl 0 rfl) ?_
  refine lv_iload_n hx hb dL_law_726 rfl (lv_at hl 3 rfl) ?_
  refine lv_iconst (v := 2) hx hb dL_law_727 (by decide) ?_
  refine lv_iadd hx hb dL_law_728 ?_
  refine va_sld hx hb hXs hbl hbA hS h_2 dL_law_729 ?_
  refine lv_aload_n hx hb dL_law_730 rfl (lv_at hl 0 rfl) ?_
  refine lv_iload_n hx hb dL_law_731 rfl (lv_at hl 3 rfl) ?_
  refine lv_iconst (v := 3) hx hb dL_law_732 (by decide) ?_
  refine lv_iadd hx hb dL_law_733 ?_
  refine va_sld hx hb hXs hbl hbA hS h_3 dL_law_734 ?_
  obtain ⟨r, nIcrd, nVcrd, I', V', q1, q2, hRel2⟩ := S SI SV LaI LaV LsI LsV I V (xs ((nI j) + 1).toNatClampNeg) (xs ((nI j) + 2).toNatClampNeg) (xs ((nI j) + 3).toNatClampNeg) hRel 
  have hPc := subB (bs := lwW cs o hX hs laa lah lsa lsh mo mh SI SV LaI LaV LsI LsV I V) (ca := [w_X cs o hX (SI 99) (SV 99), w_Led cs (hX 1) (hs 1) (SI 1) (SV 1), w_Crd cs (hX 8) (hs 8) (SI 8) (SV 8)]) (ra := [w_Txt cs (hX 0) (hs 0) (SI 0) (SV 0), w_Act cs (hX 2) (hs 2) laa (SI 2) (SV 2), w_Pool cs laa lah LaI LaV 10, w_Slt cs (hX 3) (hs 3) lsa (SI 3) (SV 3), w_Pool cs lsa lsh LsI LsV 2, w_Day cs (hX 4) (hs 4) (SI 4) (SV 4), w_Set cs (hX 5) (hs 5) (SI 5) (SV 5), w_Rng cs (hX 6) (hs 6) (SI 6) (SV 6), w_Lnd cs (hX 7) (hs 7) (SI 7) (SV 7), w_M cs mo mh I V]) [0, 2, 11, 1, 3, 4, 5, 6, 7, 8, 9, 10, 12] (by decide) rfl rfl hP
  have wX := cwV (R := room_1) (s := s) (args := #[Value.ref b]) (rm := rm_X_enough) (mc := 0) (ms := 0) 3 hts gL_law_X9_enough rfl rfl rfl (by decide +kernel) ⟨Nat.le_of_ble_eq_true rfl, Nat.le_of_ble_eq_true rfl⟩
  have hDc := subD (bs := lwW cs o hX hs laa lah lsa lsh mo mh SI SV LaI LaV LsI LsV I V) (ca := [w_X cs o hX (SI 99) (SV 99), w_Led cs (hX 1) (hs 1) (SI 1) (SV 1), w_Crd cs (hX 8) (hs 8) (SI 8) (SV 8)]) (ra := [w_Txt cs (hX 0) (hs 0) (SI 0) (SV 0), w_Act cs (hX 2) (hs 2) laa (SI 2) (SV 2), w_Pool cs laa lah LaI LaV 10, w_Slt cs (hX 3) (hs 3) lsa (SI 3) (SV 3), w_Pool cs lsa lsh LsI LsV 2, w_Day cs (hX 4) (hs 4) (SI 4) (SV 4), w_Set cs (hX 5) (hs 5) (SI 5) (SV 5), w_Rng cs (hX 6) (hs 6) (SI 6) (SV 6), w_Lnd cs (hX 7) (hs 7) (SI 7) (SV 7), w_M cs mo mh I V]) [0, 2, 11, 1, 3, 4, 5, 6, 7, 8, 9, 10, 12] (by decide) rfl rfl hD
  have hFc := xfree hDc hS hA
  refine va_calli (va_runV (As := [.int (xs ((nI j) + 1).toNatClampNeg), .int (xs ((nI j) + 2).toNatClampNeg), .int (xs ((nI j) + 3).toNatClampNeg)]) (rest := []) ⟨hx, hb, hml, hown, hts⟩ (c_X_enough l D cs o hX (hs 1) (hs 8) _ (SI 99) (SV 99) (SI 1) (SV 1) (SI 8) (SV 8) (xs ((nI j) + 1).toNatClampNeg) (xs ((nI j) + 2).toNatClampNeg) (xs ((nI j) + 3).toNatClampNeg) f _ q1) wX ⟨yP_moved, va_recv hK hPc (ci := 9) (q0 := 0) rfl rfl, fun U hU hW => ⟨rfl, by rw [hU], by rw [hU]; exact hPc, va_K.moved hW.alike hK, yN_warm hW hN, hDc.weaken (fun _ _ _ _ => trivial)⟩⟩ rfl rfl hl.1 rfl (lv_room (Nat.le_of_ble_eq_true rfl)) dL_law_735 ⟨Nat.le_of_ble_eq_true rfl, Nat.le_of_ble_eq_true rfl⟩) hS (fun q _ h9 => hFc q h9) hFc (fun r0 u t H1 locs ht hvm hw hB hz1 hk1 hS => ?_)
  have er0 := congrArg Prod.fst hw
  have eu := congrArg Prod.snd hw
  dsimp only at er0 eu
  rw [er0]
  rw [eu] at hB
  obtain ⟨hP1, hK1, hD1⟩ := hB
  rw [ht] at hP1
  obtain ⟨hP, hD⟩ := joinB (bs := lwW cs o hX hs laa lah lsa lsh mo mh SI SV LaI LaV LsI LsV I V) (ca := [w_X cs o hX (SI 99) (SV 99), w_Led cs (hX 1) (hs 1) (SI 1) (SV 1), w_Crd cs (hX 8) (hs 8) (SI 8) (SV 8)]) (ra := [w_Txt cs (hX 0) (hs 0) (SI 0) (SV 0), w_Act cs (hX 2) (hs 2) laa (SI 2) (SV 2), w_Pool cs laa lah LaI LaV 10, w_Slt cs (hX 3) (hs 3) lsa (SI 3) (SV 3), w_Pool cs lsa lsh LsI LsV 2, w_Day cs (hX 4) (hs 4) (SI 4) (SV 4), w_Set cs (hX 5) (hs 5) (SI 5) (SV 5), w_Rng cs (hX 6) (hs 6) (SI 6) (SV 6), w_Lnd cs (hX 7) (hs 7) (SI 7) (SV 7), w_M cs mo mh I V]) [0, 2, 11, 1, 3, 4, 5, 6, 7, 8, 9, 10, 12] (by decide) rfl rfl hP hD hk1 hFc (cb := [w_X cs o hX (SI 99) (SV 99), w_Led cs (hX 1) (hs 1) (SI 1) (SV 1), w_Crd cs (hX 8) (hs 8) nIcrd nVcrd]) hP1 hD1 (be := lwW cs o hX hs laa lah lsa lsh mo mh (va_up SI 8 nIcrd) (va_up SV 8 nVcrd) LaI LaV LsI LsV I V) [0, 3, 1, 4, 5, 6, 7, 8, 9, 10, 11, 2, 12] (by decide) rfl rfl
  refine lv_aload_n hx hb dL_law_738 rfl (lv_at hl 2 rfl) ?_
  refine lv_aload_n hx hb dL_law_739 rfl (lv_at hl 0 rfl) ?_
  refine lv_iload_n hx hb dL_law_740 rfl (lv_at hl 3 rfl) ?_
  refine lv_iconst (v := 1) hx hb dL_law_741 (by decide) ?_
  refine lv_iadd hx hb dL_law_742 ?_
  refine va_sld hx hb hXs hbl hbA hS h_1 dL_law_743 ?_
  refine lv_aload_n hx hb dL_law_744 rfl (lv_at hl 0 rfl) ?_
  refine lv_iload_n hx hb dL_law_745 rfl (lv_at hl 3 rfl) ?_
  refine lv_iconst (v := 2) hx hb dL_law_746 (by decide) ?_
  refine lv_iadd hx hb dL_law_747 ?_
  refine va_sld hx hb hXs hbl hbA hS h_2 dL_law_748 ?_
  refine lv_aload_n hx hb dL_law_749 rfl (lv_at hl 0 rfl) ?_
  refine lv_iload_n hx hb dL_law_750 rfl (lv_at hl 3 rfl) ?_
  refine lv_iconst (v := 3) hx hb dL_law_751 (by decide) ?_
  refine lv_iadd hx hb dL_law_752 ?_
  refine va_sld hx hb hXs hbl hbA hS h_3 dL_law_753 ?_
  have hPm := subB (bs := lwW cs o hX hs laa lah lsa lsh mo mh (va_up SI 8 nIcrd) (va_up SV 8 nVcrd) LaI LaV LsI LsV I V) (ca := [w_M cs mo mh I V]) (ra := [w_X cs o hX (SI 99) (SV 99), w_Txt cs (hX 0) (hs 0) (SI 0) (SV 0), w_Led cs (hX 1) (hs 1) (SI 1) (SV 1), w_Act cs (hX 2) (hs 2) laa (SI 2) (SV 2), w_Pool cs laa lah LaI LaV 10, w_Slt cs (hX 3) (hs 3) lsa (SI 3) (SV 3), w_Pool cs lsa lsh LsI LsV 2, w_Day cs (hX 4) (hs 4) (SI 4) (SV 4), w_Set cs (hX 5) (hs 5) (SI 5) (SV 5), w_Rng cs (hX 6) (hs 6) (SI 6) (SV 6), w_Lnd cs (hX 7) (hs 7) (SI 7) (SV 7), w_Crd cs (hX 8) (hs 8) nIcrd nVcrd]) [12, 0, 1, 2, 3, 4, 5, 6, 7, 8, 9, 10, 11] (by decide) rfl rfl hP
  have hDm := subD (bs := lwW cs o hX hs laa lah lsa lsh mo mh (va_up SI 8 nIcrd) (va_up SV 8 nVcrd) LaI LaV LsI LsV I V) (ca := [w_M cs mo mh I V]) (ra := [w_X cs o hX (SI 99) (SV 99), w_Txt cs (hX 0) (hs 0) (SI 0) (SV 0), w_Led cs (hX 1) (hs 1) (SI 1) (SV 1), w_Act cs (hX 2) (hs 2) laa (SI 2) (SV 2), w_Pool cs laa lah LaI LaV 10, w_Slt cs (hX 3) (hs 3) lsa (SI 3) (SV 3), w_Pool cs lsa lsh LsI LsV 2, w_Day cs (hX 4) (hs 4) (SI 4) (SV 4), w_Set cs (hX 5) (hs 5) (SI 5) (SV 5), w_Rng cs (hX 6) (hs 6) (SI 6) (SV 6), w_Lnd cs (hX 7) (hs 7) (SI 7) (SV 7), w_Crd cs (hX 8) (hs 8) nIcrd nVcrd]) [12, 0, 1, 2, 3, 4, 5, 6, 7, 8, 9, 10, 11] (by decide) rfl rfl hD
  have hPm : va_P D vwCl (w_M cs mo mh I V) _ := hPm
  have hDm : va_D (fun q : Nat => s.heap.size ≤ q) (w_M cs mo mh I V) := hDm
  have hFm := xfree hDm hS hA
  have wM := cwV (R := room_1) (s := s) (args := #[Value.ref b]) (rm := rm_M_enough) (mc := 0) (ms := 0) 3 hts gL_law_X10_enough rfl rfl rfl (by decide +kernel) ⟨Nat.le_of_ble_eq_true rfl, Nat.le_of_ble_eq_true rfl⟩
  refine va_calli (va_runV (As := [.int (xs ((nI j) + 1).toNatClampNeg), .int (xs ((nI j) + 2).toNatClampNeg), .int (xs ((nI j) + 3).toNatClampNeg)]) (rest := [.int r]) ⟨hx, hb, hml, hown, hts⟩ (c_M_enough l D cs mo mh _ I V (xs ((nI j) + 1).toNatClampNeg) (xs ((nI j) + 2).toNatClampNeg) (xs ((nI j) + 3).toNatClampNeg) f _ q2) wM ⟨xP_moved, va_recv hK hPm (ci := 10) (q0 := 0) rfl rfl, fun U hU hW => ⟨rfl, by rw [hU], by rw [hU]; exact hPm, va_K.moved hW.alike hK, hDm.weaken (fun _ _ _ _ => trivial)⟩⟩ rfl rfl hl.1 rfl (lv_room (Nat.le_of_ble_eq_true rfl)) dL_law_754 ⟨Nat.le_of_ble_eq_true rfl, Nat.le_of_ble_eq_true rfl⟩) hS (fun q _ h9 => hFm q h9) hFm (fun r0 u t H1 locs ht hvm hw hB hz1 hk1 hS => ?_)
  have er0 := congrArg Prod.fst hw
  have eu := congrArg Prod.snd hw
  dsimp only at er0 eu
  rw [er0]
  rw [eu] at hB
  obtain ⟨hP1, hK1, hD1⟩ := hB
  rw [ht] at hP1
  have hP1 : va_P D vwCl (List.flatten [w_M cs mo mh I' V']) _ := hP1
  have hD1 : va_D (va_A (List.flatten [w_M cs mo mh I V]) _) (List.flatten [w_M cs mo mh I' V']) := hD1
  obtain ⟨hP, hD⟩ := joinB (bs := lwW cs o hX hs laa lah lsa lsh mo mh (va_up SI 8 nIcrd) (va_up SV 8 nVcrd) LaI LaV LsI LsV I V) (ca := [w_M cs mo mh I V]) (ra := [w_X cs o hX (SI 99) (SV 99), w_Txt cs (hX 0) (hs 0) (SI 0) (SV 0), w_Led cs (hX 1) (hs 1) (SI 1) (SV 1), w_Act cs (hX 2) (hs 2) laa (SI 2) (SV 2), w_Pool cs laa lah LaI LaV 10, w_Slt cs (hX 3) (hs 3) lsa (SI 3) (SV 3), w_Pool cs lsa lsh LsI LsV 2, w_Day cs (hX 4) (hs 4) (SI 4) (SV 4), w_Set cs (hX 5) (hs 5) (SI 5) (SV 5), w_Rng cs (hX 6) (hs 6) (SI 6) (SV 6), w_Lnd cs (hX 7) (hs 7) (SI 7) (SV 7), w_Crd cs (hX 8) (hs 8) nIcrd nVcrd]) [12, 0, 1, 2, 3, 4, 5, 6, 7, 8, 9, 10, 11] (by decide) rfl rfl hP hD hk1 hFm (cb := [w_M cs mo mh I' V']) hP1 hD1 (be := lwW cs o hX hs laa lah lsa lsh mo mh (va_up SI 8 nIcrd) (va_up SV 8 nVcrd) LaI LaV LsI LsV I' V') [1, 2, 3, 4, 5, 6, 7, 8, 9, 10, 11, 12, 0] (by decide) rfl rfl
  refine lv_icmp_eq (tgt := 893) hx hb dL_law_757 (by decide) (fun _ => ?_) (fun c9 => absurd rfl c9)
  exact K (va_up SI 8 nIcrd) (va_up SV 8 nVcrd) LaI LaV LsI LsV I' V' hRel2 _ _ hP hD hS _ hl
set_option maxHeartbeats 4000000 in
set_option maxRecDepth 100000 in
theorem law_day {Rel : (Nat → FI) → (Nat → FV) → (Nat → FI) → (Nat → FV) → (Nat → FI) → (Nat → FV) → FI → FV → Prop} {f : Nat} (S : Sim_day Rel f) {p : Program} {l : Launch} {e : Env} {s : State} {m : MethodId} {below : List Frame} {meth : Method} {c : Code} {b L : Nat} {xs : Nat → Int32} {D : va_G} {cs : Nat → ClassId} {o : Nat} {hX : Nat → Nat} {hs : Nat → Nat → Nat} {laa : Nat → Nat} {lah : Nat → Nat → Nat} {lsa : Nat → Nat} {lsh : Nat → Nat → Nat} {mo : Nat} {mh : Nat → Nat} (hx : p.tables.exec = Jvm.exec) (hb : c.code = code) (hml : c.maxLocals = 4) (hown : s.vm.findClass RL = some m.cls) (hts : ∀ w ∈ wsL_law, w.before #[Value.ref b] s = true) (hXs : va_X b L xs s s.heap) (hbl : b < s.heap.size) (hK : va_K D vwCl (tyA cs) s) (hN : yN s) {j : Nat} (hj : j + 5 ≤ L) (hL : L ≤ 2560) (SI : Nat → FI) (SV : Nat → FV) (LaI : Nat → FI) (LaV : Nat → FV) (LsI : Nat → FI) (LsV : Nat → FV) (I : FI) (V : FV) (hRel : Rel SI SV LaI LaV LsI LsV I V) (H : Heap) (locs : List Loc) (hP : va_P D vwCl (List.flatten (lwW cs o hX hs laa lah lsa lsh mo mh SI SV LaI LaV LsI LsV I V)) H) (hD : va_D (fun q : Nat => s.heap.size ≤ q) (List.flatten (lwW cs o hX hs laa lah lsa lsh mo mh SI SV LaI LaV LsI LsV I V))) (hS : va_S (fun q : Nat => s.heap.size ≤ q) s.heap H locs) (ls : Array Slot) (hl : lv_has ls 4 [(0, .ref b), (1, .ref o), (2, .ref mo), (3, .int (nI j))]) (K : ∀ (SI : Nat → FI) (SV : Nat → FV) (LaI : Nat → FI) (LaV : Nat → FV) (LsI : Nat → FI) (LsV : Nat → FV) (I : FI) (V : FV), Rel SI SV LaI LaV LsI LsV I V → ∀ (H : Heap) (locs : List Loc), va_P D vwCl (List.flatten (lwW cs o hX hs laa lah lsa lsh mo mh SI SV LaI LaV LsI LsV I V)) H → va_D (fun q : Nat => s.heap.size ≤ q) (List.flatten (lwW cs o hX hs laa lah lsa lsh mo mh SI SV LaI LaV LsI LsV I V)) → va_S (fun q : Nat => s.heap.size ≤ q) s.heap H locs → ∀ ls : Array Slot, lv_has ls 4 [(0, .ref b), (1, .ref o), (2, .ref mo), (3, .int (nI j))] → W p l e room_1 s m #[Value.ref b] below meth c H locs 149 4007 (lw_Z below #[Value.ref b] s) (F0 m 893 ls [])) : W p l e room_1 s m #[Value.ref b] below meth c H locs 149 4007 (lw_Z below #[Value.ref b] s) (F0 m 762 ls []) := by
  have hA : ∀ q : Nat, s.heap.size ≤ q → (fun q : Nat => s.heap.size ≤ q) q := fun _ h => h
  have hbA : ¬ (fun q : Nat => s.heap.size ≤ q) b := Nat.not_le.mpr hbl
  have h_1 : vp_in (nI j + 1) L := by rw [show (nI j + 1 : Int32) = nI (j + 1) from nI_add j 1]; exact vp_in_nI (by omega) (by omega)
  have h_2 : vp_in (nI j + 2) L := by rw [show (nI j + 2 : Int32) = nI (j + 2) from nI_add j 2]; exact vp_in_nI (by omega) (by omega)
  have h_3 : vp_in (nI j + 3) L := by rw [show (nI j + 3 : Int32) = nI (j + 3) from nI_add j 3]; exact vp_in_nI (by omega) (by omega)
  have h_4 : vp_in (nI j + 4) L := by rw [show (nI j + 4 : Int32) = nI (j + 4) from nI_add j 4]; exact vp_in_nI (by omega) (by omega)
  by_cases hz : xs (nI j + 3).toNatClampNeg = 0
  · skip
    refine lv_aload_n hx hb dL_law_762 rfl (lv_at hl 1 rfl) ?_
    refine lv_aload_n hx hb dL_law_763 rfl (lv_at hl 0 rfl) ?_
    refine lv_iload_n hx hb dL_law_764 rfl (lv_at hl 3 rfl) ?_
    refine lv_iconst (v := 1) hx hb dL_law_765 (by decide) ?_
    refine lv_iadd hx hb dL_law_766 ?_
    refine va_sld hx hb hXs hbl hbA hS h_1 dL_law_767 ?_
    refine lv_aload_n hx hb dL_law_768 rfl (lv_at hl 0 rfl) ?_
    refine lv_iload_n hx hb dL_law_769 rfl (lv_at hl 3 rfl) ?_
    refine lv_iconst (v := 2) hx hb dL_law_770 (by decide) ?_
    refine lv_iadd hx hb dL_law_771 ?_
    refine va_sld hx hb hXs hbl hbA hS h_2 dL_law_772 ?_
    refine lv_aload_n hx hb dL_law_773 rfl (lv_at hl 0 rfl) ?_
    refine lv_iload_n hx hb dL_law_774 rfl (lv_at hl 3 rfl) ?_
    refine lv_iconst (v := 3) hx hb dL_law_775 (by decide) ?_
    refine lv_iadd hx hb dL_law_776 ?_
    refine va_sld hx hb hXs hbl hbA hS h_3 dL_law_777 ?_
    refine lv_if_eq (tgt := 785) hx hb dL_law_778 (by decide) (fun _ => ?_) (fun c9 => absurd hz c9)
    refine lv_iconst (v := 0) hx hb dL_law_785 (by decide) ?_
    obtain ⟨r, nIday, nVday, I', V', q1, q2, hRel2⟩ := S SI SV LaI LaV LsI LsV I V (xs ((nI j) + 1).toNatClampNeg) (xs ((nI j) + 2).toNatClampNeg) 0 hRel (Or.inl rfl)
    have hPc := subB (bs := lwW cs o hX hs laa lah lsa lsh mo mh SI SV LaI LaV LsI LsV I V) (ca := [w_X cs o hX (SI 99) (SV 99), w_Led cs (hX 1) (hs 1) (SI 1) (SV 1), w_Day cs (hX 4) (hs 4) (SI 4) (SV 4)]) (ra := [w_Txt cs (hX 0) (hs 0) (SI 0) (SV 0), w_Act cs (hX 2) (hs 2) laa (SI 2) (SV 2), w_Pool cs laa lah LaI LaV 10, w_Slt cs (hX 3) (hs 3) lsa (SI 3) (SV 3), w_Pool cs lsa lsh LsI LsV 2, w_Set cs (hX 5) (hs 5) (SI 5) (SV 5), w_Rng cs (hX 6) (hs 6) (SI 6) (SV 6), w_Lnd cs (hX 7) (hs 7) (SI 7) (SV 7), w_Crd cs (hX 8) (hs 8) (SI 8) (SV 8), w_M cs mo mh I V]) [0, 2, 7, 1, 3, 4, 5, 6, 8, 9, 10, 11, 12] (by decide) rfl rfl hP
    have wX := cwV (R := room_1) (s := s) (args := #[Value.ref b]) (rm := rm_X_day) (mc := 0) (ms := 0) 3 hts gL_law_X9_day rfl rfl rfl (by decide +kernel) ⟨Nat.le_of_ble_eq_true rfl, Nat.le_of_ble_eq_true rfl⟩
    have hDc := subD (bs := lwW cs o hX hs laa lah lsa lsh mo mh SI SV LaI LaV LsI LsV I V) (ca := [w_X cs o hX (SI 99) (SV 99), w_Led cs (hX 1) (hs 1) (SI 1) (SV 1), w_Day cs (hX 4) (hs 4) (SI 4) (SV 4)]) (ra := [w_Txt cs (hX 0) (hs 0) (SI 0) (SV 0), w_Act cs (hX 2) (hs 2) laa (SI 2) (SV 2), w_Pool cs laa lah LaI LaV 10, w_Slt cs (hX 3) (hs 3) lsa (SI 3) (SV 3), w_Pool cs lsa lsh LsI LsV 2, w_Set cs (hX 5) (hs 5) (SI 5) (SV 5), w_Rng cs (hX 6) (hs 6) (SI 6) (SV 6), w_Lnd cs (hX 7) (hs 7) (SI 7) (SV 7), w_Crd cs (hX 8) (hs 8) (SI 8) (SV 8), w_M cs mo mh I V]) [0, 2, 7, 1, 3, 4, 5, 6, 8, 9, 10, 11, 12] (by decide) rfl rfl hD
    have hFc := xfree hDc hS hA
    refine va_calli (va_runV (As := [.int (xs ((nI j) + 1).toNatClampNeg), .int (xs ((nI j) + 2).toNatClampNeg), .int 0]) (rest := []) ⟨hx, hb, hml, hown, hts⟩ (c_X_day l D cs o hX (hs 1) (hs 4) _ (SI 99) (SV 99) (SI 1) (SV 1) (SI 4) (SV 4) (xs ((nI j) + 1).toNatClampNeg) (xs ((nI j) + 2).toNatClampNeg) 0 f _ q1) wX ⟨yP_moved, va_recv hK hPc (ci := 9) (q0 := 0) rfl rfl, fun U hU hW => ⟨rfl, by rw [hU], by rw [hU]; exact hPc, va_K.moved hW.alike hK, yN_warm hW hN, hDc.weaken (fun _ _ _ _ => trivial)⟩⟩ rfl rfl hl.1 rfl (lv_room (Nat.le_of_ble_eq_true rfl)) dL_law_786 ⟨Nat.le_of_ble_eq_true rfl, Nat.le_of_ble_eq_true rfl⟩) hS (fun q _ h9 => hFc q h9) hFc (fun r0 u t H1 locs ht hvm hw hB hz1 hk1 hS => ?_)
    have er0 := congrArg Prod.fst hw
    have eu := congrArg Prod.snd hw
    dsimp only at er0 eu
    rw [er0]
    rw [eu] at hB
    obtain ⟨hP1, hK1, hD1⟩ := hB
    rw [ht] at hP1
    obtain ⟨hP, hD⟩ := joinB (bs := lwW cs o hX hs laa lah lsa lsh mo mh SI SV LaI LaV LsI LsV I V) (ca := [w_X cs o hX (SI 99) (SV 99), w_Led cs (hX 1) (hs 1) (SI 1) (SV 1), w_Day cs (hX 4) (hs 4) (SI 4) (SV 4)]) (ra := [w_Txt cs (hX 0) (hs 0) (SI 0) (SV 0), w_Act cs (hX 2) (hs 2) laa (SI 2) (SV 2), w_Pool cs laa lah LaI LaV 10, w_Slt cs (hX 3) (hs 3) lsa (SI 3) (SV 3), w_Pool cs lsa lsh LsI LsV 2, w_Set cs (hX 5) (hs 5) (SI 5) (SV 5), w_Rng cs (hX 6) (hs 6) (SI 6) (SV 6), w_Lnd cs (hX 7) (hs 7) (SI 7) (SV 7), w_Crd cs (hX 8) (hs 8) (SI 8) (SV 8), w_M cs mo mh I V]) [0, 2, 7, 1, 3, 4, 5, 6, 8, 9, 10, 11, 12] (by decide) rfl rfl hP hD hk1 hFc (cb := [w_X cs o hX (SI 99) (SV 99), w_Led cs (hX 1) (hs 1) (SI 1) (SV 1), w_Day cs (hX 4) (hs 4) nIday nVday]) hP1 hD1 (be := lwW cs o hX hs laa lah lsa lsh mo mh (va_up SI 4 nIday) (va_up SV 4 nVday) LaI LaV LsI LsV I V) [0, 3, 1, 4, 5, 6, 7, 2, 8, 9, 10, 11, 12] (by decide) rfl rfl
    refine lv_aload_n hx hb dL_law_789 rfl (lv_at hl 2 rfl) ?_
    refine lv_aload_n hx hb dL_law_790 rfl (lv_at hl 0 rfl) ?_
    refine lv_iload_n hx hb dL_law_791 rfl (lv_at hl 3 rfl) ?_
    refine lv_iconst (v := 1) hx hb dL_law_792 (by decide) ?_
    refine lv_iadd hx hb dL_law_793 ?_
    refine va_sld hx hb hXs hbl hbA hS h_1 dL_law_794 ?_
    refine lv_aload_n hx hb dL_law_795 rfl (lv_at hl 0 rfl) ?_
    refine lv_iload_n hx hb dL_law_796 rfl (lv_at hl 3 rfl) ?_
    refine lv_iconst (v := 2) hx hb dL_law_797 (by decide) ?_
    refine lv_iadd hx hb dL_law_798 ?_
    refine va_sld hx hb hXs hbl hbA hS h_2 dL_law_799 ?_
    refine lv_aload_n hx hb dL_law_800 rfl (lv_at hl 0 rfl) ?_
    refine lv_iload_n hx hb dL_law_801 rfl (lv_at hl 3 rfl) ?_
    refine lv_iconst (v := 3) hx hb dL_law_802 (by decide) ?_
    refine lv_iadd hx hb dL_law_803 ?_
    refine va_sld hx hb hXs hbl hbA hS h_3 dL_law_804 ?_
    refine lv_if_eq (tgt := 812) hx hb dL_law_805 (by decide) (fun _ => ?_) (fun c9 => absurd hz c9)
    refine lv_iconst (v := 0) hx hb dL_law_812 (by decide) ?_
    have hPm := subB (bs := lwW cs o hX hs laa lah lsa lsh mo mh (va_up SI 4 nIday) (va_up SV 4 nVday) LaI LaV LsI LsV I V) (ca := [w_M cs mo mh I V]) (ra := [w_X cs o hX (SI 99) (SV 99), w_Txt cs (hX 0) (hs 0) (SI 0) (SV 0), w_Led cs (hX 1) (hs 1) (SI 1) (SV 1), w_Act cs (hX 2) (hs 2) laa (SI 2) (SV 2), w_Pool cs laa lah LaI LaV 10, w_Slt cs (hX 3) (hs 3) lsa (SI 3) (SV 3), w_Pool cs lsa lsh LsI LsV 2, w_Day cs (hX 4) (hs 4) nIday nVday, w_Set cs (hX 5) (hs 5) (SI 5) (SV 5), w_Rng cs (hX 6) (hs 6) (SI 6) (SV 6), w_Lnd cs (hX 7) (hs 7) (SI 7) (SV 7), w_Crd cs (hX 8) (hs 8) (SI 8) (SV 8)]) [12, 0, 1, 2, 3, 4, 5, 6, 7, 8, 9, 10, 11] (by decide) rfl rfl hP
    have hDm := subD (bs := lwW cs o hX hs laa lah lsa lsh mo mh (va_up SI 4 nIday) (va_up SV 4 nVday) LaI LaV LsI LsV I V) (ca := [w_M cs mo mh I V]) (ra := [w_X cs o hX (SI 99) (SV 99), w_Txt cs (hX 0) (hs 0) (SI 0) (SV 0), w_Led cs (hX 1) (hs 1) (SI 1) (SV 1), w_Act cs (hX 2) (hs 2) laa (SI 2) (SV 2), w_Pool cs laa lah LaI LaV 10, w_Slt cs (hX 3) (hs 3) lsa (SI 3) (SV 3), w_Pool cs lsa lsh LsI LsV 2, w_Day cs (hX 4) (hs 4) nIday nVday, w_Set cs (hX 5) (hs 5) (SI 5) (SV 5), w_Rng cs (hX 6) (hs 6) (SI 6) (SV 6), w_Lnd cs (hX 7) (hs 7) (SI 7) (SV 7), w_Crd cs (hX 8) (hs 8) (SI 8) (SV 8)]) [12, 0, 1, 2, 3, 4, 5, 6, 7, 8, 9, 10, 11] (by decide) rfl rfl hD
    have hPm : va_P D vwCl (w_M cs mo mh I V) _ := hPm
    have hDm : va_D (fun q : Nat => s.heap.size ≤ q) (w_M cs mo mh I V) := hDm
    have hFm := xfree hDm hS hA
    have wM := cwV (R := room_1) (s := s) (args := #[Value.ref b]) (rm := rm_M_day) (mc := 0) (ms := 0) 3 hts gL_law_X10_day rfl rfl rfl (by decide +kernel) ⟨Nat.le_of_ble_eq_true rfl, Nat.le_of_ble_eq_true rfl⟩
    refine va_calli (va_runV (As := [.int (xs ((nI j) + 1).toNatClampNeg), .int (xs ((nI j) + 2).toNatClampNeg), .int 0]) (rest := [.int r]) ⟨hx, hb, hml, hown, hts⟩ (c_M_day l D cs mo mh _ I V (xs ((nI j) + 1).toNatClampNeg) (xs ((nI j) + 2).toNatClampNeg) 0 f _ q2) wM ⟨xP_moved, va_recv hK hPm (ci := 10) (q0 := 0) rfl rfl, fun U hU hW => ⟨rfl, by rw [hU], by rw [hU]; exact hPm, va_K.moved hW.alike hK, hDm.weaken (fun _ _ _ _ => trivial)⟩⟩ rfl rfl hl.1 rfl (lv_room (Nat.le_of_ble_eq_true rfl)) dL_law_813 ⟨Nat.le_of_ble_eq_true rfl, Nat.le_of_ble_eq_true rfl⟩) hS (fun q _ h9 => hFm q h9) hFm (fun r0 u t H1 locs ht hvm hw hB hz1 hk1 hS => ?_)
    have er0 := congrArg Prod.fst hw
    have eu := congrArg Prod.snd hw
    dsimp only at er0 eu
    rw [er0]
    rw [eu] at hB
    obtain ⟨hP1, hK1, hD1⟩ := hB
    rw [ht] at hP1
    have hP1 : va_P D vwCl (List.flatten [w_M cs mo mh I' V']) _ := hP1
    have hD1 : va_D (va_A (List.flatten [w_M cs mo mh I V]) _) (List.flatten [w_M cs mo mh I' V']) := hD1
    obtain ⟨hP, hD⟩ := joinB (bs := lwW cs o hX hs laa lah lsa lsh mo mh (va_up SI 4 nIday) (va_up SV 4 nVday) LaI LaV LsI LsV I V) (ca := [w_M cs mo mh I V]) (ra := [w_X cs o hX (SI 99) (SV 99), w_Txt cs (hX 0) (hs 0) (SI 0) (SV 0), w_Led cs (hX 1) (hs 1) (SI 1) (SV 1), w_Act cs (hX 2) (hs 2) laa (SI 2) (SV 2), w_Pool cs laa lah LaI LaV 10, w_Slt cs (hX 3) (hs 3) lsa (SI 3) (SV 3), w_Pool cs lsa lsh LsI LsV 2, w_Day cs (hX 4) (hs 4) nIday nVday, w_Set cs (hX 5) (hs 5) (SI 5) (SV 5), w_Rng cs (hX 6) (hs 6) (SI 6) (SV 6), w_Lnd cs (hX 7) (hs 7) (SI 7) (SV 7), w_Crd cs (hX 8) (hs 8) (SI 8) (SV 8)]) [12, 0, 1, 2, 3, 4, 5, 6, 7, 8, 9, 10, 11] (by decide) rfl rfl hP hD hk1 hFm (cb := [w_M cs mo mh I' V']) hP1 hD1 (be := lwW cs o hX hs laa lah lsa lsh mo mh (va_up SI 4 nIday) (va_up SV 4 nVday) LaI LaV LsI LsV I' V') [1, 2, 3, 4, 5, 6, 7, 8, 9, 10, 11, 12, 0] (by decide) rfl rfl
    refine lv_icmp_eq (tgt := 893) hx hb dL_law_816 (by decide) (fun _ => ?_) (fun c9 => absurd rfl c9)
    exact K (va_up SI 4 nIday) (va_up SV 4 nVday) LaI LaV LsI LsV I' V' hRel2 _ _ hP hD hS _ hl
  · skip
    refine lv_aload_n hx hb dL_law_762 rfl (lv_at hl 1 rfl) ?_
    refine lv_aload_n hx hb dL_law_763 rfl (lv_at hl 0 rfl) ?_
    refine lv_iload_n hx hb dL_law_764 rfl (lv_at hl 3 rfl) ?_
    refine lv_iconst (v := 1) hx hb dL_law_765 (by decide) ?_
    refine lv_iadd hx hb dL_law_766 ?_
    refine va_sld hx hb hXs hbl hbA hS h_1 dL_law_767 ?_
    refine lv_aload_n hx hb dL_law_768 rfl (lv_at hl 0 rfl) ?_
    refine lv_iload_n hx hb dL_law_769 rfl (lv_at hl 3 rfl) ?_
    refine lv_iconst (v := 2) hx hb dL_law_770 (by decide) ?_
    refine lv_iadd hx hb dL_law_771 ?_
    refine va_sld hx hb hXs hbl hbA hS h_2 dL_law_772 ?_
    refine lv_aload_n hx hb dL_law_773 rfl (lv_at hl 0 rfl) ?_
    refine lv_iload_n hx hb dL_law_774 rfl (lv_at hl 3 rfl) ?_
    refine lv_iconst (v := 3) hx hb dL_law_775 (by decide) ?_
    refine lv_iadd hx hb dL_law_776 ?_
    refine va_sld hx hb hXs hbl hbA hS h_3 dL_law_777 ?_
    refine lv_if_eq (tgt := 785) hx hb dL_law_778 (by decide) (fun c9 => absurd c9 hz) (fun _ => ?_)
    refine lv_iconst (v := 1) hx hb dL_law_781 (by decide) ?_
    refine lv_goto (tgt := 786) hx hb dL_law_782 (by decide) ?_
    obtain ⟨r, nIday, nVday, I', V', q1, q2, hRel2⟩ := S SI SV LaI LaV LsI LsV I V (xs ((nI j) + 1).toNatClampNeg) (xs ((nI j) + 2).toNatClampNeg) 1 hRel (Or.inr rfl)
    have hPc := subB (bs := lwW cs o hX hs laa lah lsa lsh mo mh SI SV LaI LaV LsI LsV I V) (ca := [w_X cs o hX (SI 99) (SV 99), w_Led cs (hX 1) (hs 1) (SI 1) (SV 1), w_Day cs (hX 4) (hs 4) (SI 4) (SV 4)]) (ra := [w_Txt cs (hX 0) (hs 0) (SI 0) (SV 0), w_Act cs (hX 2) (hs 2) laa (SI 2) (SV 2), w_Pool cs laa lah LaI LaV 10, w_Slt cs (hX 3) (hs 3) lsa (SI 3) (SV 3), w_Pool cs lsa lsh LsI LsV 2, w_Set cs (hX 5) (hs 5) (SI 5) (SV 5), w_Rng cs (hX 6) (hs 6) (SI 6) (SV 6), w_Lnd cs (hX 7) (hs 7) (SI 7) (SV 7), w_Crd cs (hX 8) (hs 8) (SI 8) (SV 8), w_M cs mo mh I V]) [0, 2, 7, 1, 3, 4, 5, 6, 8, 9, 10, 11, 12] (by decide) rfl rfl hP
    have wX := cwV (R := room_1) (s := s) (args := #[Value.ref b]) (rm := rm_X_day) (mc := 0) (ms := 0) 3 hts gL_law_X9_day rfl rfl rfl (by decide +kernel) ⟨Nat.le_of_ble_eq_true rfl, Nat.le_of_ble_eq_true rfl⟩
    have hDc := subD (bs := lwW cs o hX hs laa lah lsa lsh mo mh SI SV LaI LaV LsI LsV I V) (ca := [w_X cs o hX (SI 99) (SV 99), w_Led cs (hX 1) (hs 1) (SI 1) (SV 1), w_Day cs (hX 4) (hs 4) (SI 4) (SV 4)]) (ra := [w_Txt cs (hX 0) (hs 0) (SI 0) (SV 0), w_Act cs (hX 2) (hs 2) laa (SI 2) (SV 2), w_Pool cs laa lah LaI LaV 10, w_Slt cs (hX 3) (hs 3) lsa (SI 3) (SV 3), w_Pool cs lsa lsh LsI LsV 2, w_Set cs (hX 5) (hs 5) (SI 5) (SV 5), w_Rng cs (hX 6) (hs 6) (SI 6) (SV 6), w_Lnd cs (hX 7) (hs 7) (SI 7) (SV 7), w_Crd cs (hX 8) (hs 8) (SI 8) (SV 8), w_M cs mo mh I V]) [0, 2, 7, 1, 3, 4, 5, 6, 8, 9, 10, 11, 12] (by decide) rfl rfl hD
    have hFc := xfree hDc hS hA
    refine va_calli (va_runV (As := [.int (xs ((nI j) + 1).toNatClampNeg), .int (xs ((nI j) + 2).toNatClampNeg), .int 1]) (rest := []) ⟨hx, hb, hml, hown, hts⟩ (c_X_day l D cs o hX (hs 1) (hs 4) _ (SI 99) (SV 99) (SI 1) (SV 1) (SI 4) (SV 4) (xs ((nI j) + 1).toNatClampNeg) (xs ((nI j) + 2).toNatClampNeg) 1 f _ q1) wX ⟨yP_moved, va_recv hK hPc (ci := 9) (q0 := 0) rfl rfl, fun U hU hW => ⟨rfl, by rw [hU], by rw [hU]; exact hPc, va_K.moved hW.alike hK, yN_warm hW hN, hDc.weaken (fun _ _ _ _ => trivial)⟩⟩ rfl rfl hl.1 rfl (lv_room (Nat.le_of_ble_eq_true rfl)) dL_law_786 ⟨Nat.le_of_ble_eq_true rfl, Nat.le_of_ble_eq_true rfl⟩) hS (fun q _ h9 => hFc q h9) hFc (fun r0 u t H1 locs ht hvm hw hB hz1 hk1 hS => ?_)
    have er0 := congrArg Prod.fst hw
    have eu := congrArg Prod.snd hw
    dsimp only at er0 eu
    rw [er0]
    rw [eu] at hB
    obtain ⟨hP1, hK1, hD1⟩ := hB
    rw [ht] at hP1
    obtain ⟨hP, hD⟩ := joinB (bs := lwW cs o hX hs laa lah lsa lsh mo mh SI SV LaI LaV LsI LsV I V) (ca := [w_X cs o hX (SI 99) (SV 99), w_Led cs (hX 1) (hs 1) (SI 1) (SV 1), w_Day cs (hX 4) (hs 4) (SI 4) (SV 4)]) (ra := [w_Txt cs (hX 0) (hs 0) (SI 0) (SV 0), w_Act cs (hX 2) (hs 2) laa (SI 2) (SV 2), w_Pool cs laa lah LaI LaV 10, w_Slt cs (hX 3) (hs 3) lsa (SI 3) (SV 3), w_Pool cs lsa lsh LsI LsV 2, w_Set cs (hX 5) (hs 5) (SI 5) (SV 5), w_Rng cs (hX 6) (hs 6) (SI 6) (SV 6), w_Lnd cs (hX 7) (hs 7) (SI 7) (SV 7), w_Crd cs (hX 8) (hs 8) (SI 8) (SV 8), w_M cs mo mh I V]) [0, 2, 7, 1, 3, 4, 5, 6, 8, 9, 10, 11, 12] (by decide) rfl rfl hP hD hk1 hFc (cb := [w_X cs o hX (SI 99) (SV 99), w_Led cs (hX 1) (hs 1) (SI 1) (SV 1), w_Day cs (hX 4) (hs 4) nIday nVday]) hP1 hD1 (be := lwW cs o hX hs laa lah lsa lsh mo mh (va_up SI 4 nIday) (va_up SV 4 nVday) LaI LaV LsI LsV I V) [0, 3, 1, 4, 5, 6, 7, 2, 8, 9, 10, 11, 12] (by decide) rfl rfl
    refine lv_aload_n hx hb dL_law_789 rfl (lv_at hl 2 rfl) ?_
    refine lv_aload_n hx hb dL_law_790 rfl (lv_at hl 0 rfl) ?_
    refine lv_iload_n hx hb dL_law_791 rfl (lv_at hl 3 rfl) ?_
    refine lv_iconst (v := 1) hx hb dL_law_792 (by decide) ?_
    refine lv_iadd hx hb dL_law_793 ?_
    refine va_sld hx hb hXs hbl hbA hS h_1 dL_law_794 ?_
    refine lv_aload_n hx hb dL_law_795 rfl (lv_at hl 0 rfl) ?_
    refine lv_iload_n hx hb dL_law_796 rfl (lv_at hl 3 rfl) ?_
    refine lv_iconst (v := 2) hx hb dL_law_797 (by decide) ?_
    refine lv_iadd hx hb dL_law_798 ?_
    refine va_sld hx hb hXs hbl hbA hS h_2 dL_law_799 ?_
    refine lv_aload_n hx hb dL_law_800 rfl (lv_at hl 0 rfl) ?_
    refine lv_iload_n hx hb dL_law_801 rfl (lv_at hl 3 rfl) ?_
    refine lv_iconst (v := 3) hx hb dL_law_802 (by decide) ?_
    refine lv_iadd hx hb dL_law_803 ?_
    refine va_sld hx hb hXs hbl hbA hS h_3 dL_law_804 ?_
    refine lv_if_eq (tgt := 812) hx hb dL_law_805 (by decide) (fun c9 => absurd c9 hz) (fun _ => ?_)
    refine lv_iconst (v := 1) hx hb dL_law_808 (by decide) ?_
    refine lv_goto (tgt := 813) hx hb dL_law_809 (by decide) ?_
    have hPm := subB (bs := lwW cs o hX hs laa lah lsa lsh mo mh (va_up SI 4 nIday) (va_up SV 4 nVday) LaI LaV LsI LsV I V) (ca := [w_M cs mo mh I V]) (ra := [w_X cs o hX (SI 99) (SV 99), w_Txt cs (hX 0) (hs 0) (SI 0) (SV 0), w_Led cs (hX 1) (hs 1) (SI 1) (SV 1), w_Act cs (hX 2) (hs 2) laa (SI 2) (SV 2), w_Pool cs laa lah LaI LaV 10, w_Slt cs (hX 3) (hs 3) lsa (SI 3) (SV 3), w_Pool cs lsa lsh LsI LsV 2, w_Day cs (hX 4) (hs 4) nIday nVday, w_Set cs (hX 5) (hs 5) (SI 5) (SV 5), w_Rng cs (hX 6) (hs 6) (SI 6) (SV 6), w_Lnd cs (hX 7) (hs 7) (SI 7) (SV 7), w_Crd cs (hX 8) (hs 8) (SI 8) (SV 8)]) [12, 0, 1, 2, 3, 4, 5, 6, 7, 8, 9, 10, 11] (by decide) rfl rfl hP
    have hDm := subD (bs := lwW cs o hX hs laa lah lsa lsh mo mh (va_up SI 4 nIday) (va_up SV 4 nVday) LaI LaV LsI LsV I V) (ca := [w_M cs mo mh I V]) (ra := [w_X cs o hX (SI 99) (SV 99), w_Txt cs (hX 0) (hs 0) (SI 0) (SV 0), w_Led cs (hX 1) (hs 1) (SI 1) (SV 1), w_Act cs (hX 2) (hs 2) laa (SI 2) (SV 2), w_Pool cs laa lah LaI LaV 10, w_Slt cs (hX 3) (hs 3) lsa (SI 3) (SV 3), w_Pool cs lsa lsh LsI LsV 2, w_Day cs (hX 4) (hs 4) nIday nVday, w_Set cs (hX 5) (hs 5) (SI 5) (SV 5), w_Rng cs (hX 6) (hs 6) (SI 6) (SV 6), w_Lnd cs (hX 7) (hs 7) (SI 7) (SV 7), w_Crd cs (hX 8) (hs 8) (SI 8) (SV 8)]) [12, 0, 1, 2, 3, 4, 5, 6, 7, 8, 9, 10, 11] (by decide) rfl rfl hD
    have hPm : va_P D vwCl (w_M cs mo mh I V) _ := hPm
    have hDm : va_D (fun q : Nat => s.heap.size ≤ q) (w_M cs mo mh I V) := hDm
    have hFm := xfree hDm hS hA
    have wM := cwV (R := room_1) (s := s) (args := #[Value.ref b]) (rm := rm_M_day) (mc := 0) (ms := 0) 3 hts gL_law_X10_day rfl rfl rfl (by decide +kernel) ⟨Nat.le_of_ble_eq_true rfl, Nat.le_of_ble_eq_true rfl⟩
    refine va_calli (va_runV (As := [.int (xs ((nI j) + 1).toNatClampNeg), .int (xs ((nI j) + 2).toNatClampNeg), .int 1]) (rest := [.int r]) ⟨hx, hb, hml, hown, hts⟩ (c_M_day l D cs mo mh _ I V (xs ((nI j) + 1).toNatClampNeg) (xs ((nI j) + 2).toNatClampNeg) 1 f _ q2) wM ⟨xP_moved, va_recv hK hPm (ci := 10) (q0 := 0) rfl rfl, fun U hU hW => ⟨rfl, by rw [hU], by rw [hU]; exact hPm, va_K.moved hW.alike hK, hDm.weaken (fun _ _ _ _ => trivial)⟩⟩ rfl rfl hl.1 rfl (lv_room (Nat.le_of_ble_eq_true rfl)) dL_law_813 ⟨Nat.le_of_ble_eq_true rfl, Nat.le_of_ble_eq_true rfl⟩) hS (fun q _ h9 => hFm q h9) hFm (fun r0 u t H1 locs ht hvm hw hB hz1 hk1 hS => ?_)
    have er0 := congrArg Prod.fst hw
    have eu := congrArg Prod.snd hw
    dsimp only at er0 eu
    rw [er0]
    rw [eu] at hB
    obtain ⟨hP1, hK1, hD1⟩ := hB
    rw [ht] at hP1
    have hP1 : va_P D vwCl (List.flatten [w_M cs mo mh I' V']) _ := hP1
    have hD1 : va_D (va_A (List.flatten [w_M cs mo mh I V]) _) (List.flatten [w_M cs mo mh I' V']) := hD1
    obtain ⟨hP, hD⟩ := joinB (bs := lwW cs o hX hs laa lah lsa lsh mo mh (va_up SI 4 nIday) (va_up SV 4 nVday) LaI LaV LsI LsV I V) (ca := [w_M cs mo mh I V]) (ra := [w_X cs o hX (SI 99) (SV 99), w_Txt cs (hX 0) (hs 0) (SI 0) (SV 0), w_Led cs (hX 1) (hs 1) (SI 1) (SV 1), w_Act cs (hX 2) (hs 2) laa (SI 2) (SV 2), w_Pool cs laa lah LaI LaV 10, w_Slt cs (hX 3) (hs 3) lsa (SI 3) (SV 3), w_Pool cs lsa lsh LsI LsV 2, w_Day cs (hX 4) (hs 4) nIday nVday, w_Set cs (hX 5) (hs 5) (SI 5) (SV 5), w_Rng cs (hX 6) (hs 6) (SI 6) (SV 6), w_Lnd cs (hX 7) (hs 7) (SI 7) (SV 7), w_Crd cs (hX 8) (hs 8) (SI 8) (SV 8)]) [12, 0, 1, 2, 3, 4, 5, 6, 7, 8, 9, 10, 11] (by decide) rfl rfl hP hD hk1 hFm (cb := [w_M cs mo mh I' V']) hP1 hD1 (be := lwW cs o hX hs laa lah lsa lsh mo mh (va_up SI 4 nIday) (va_up SV 4 nVday) LaI LaV LsI LsV I' V') [1, 2, 3, 4, 5, 6, 7, 8, 9, 10, 11, 12, 0] (by decide) rfl rfl
    refine lv_icmp_eq (tgt := 893) hx hb dL_law_816 (by decide) (fun _ => ?_) (fun c9 => absurd rfl c9)
    exact K (va_up SI 4 nIday) (va_up SV 4 nVday) LaI LaV LsI LsV I' V' hRel2 _ _ hP hD hS _ hl
set_option maxHeartbeats 4000000 in
set_option maxRecDepth 100000 in
theorem law_forget {Rel : (Nat → FI) → (Nat → FV) → (Nat → FI) → (Nat → FV) → (Nat → FI) → (Nat → FV) → FI → FV → Prop} {f : Nat} (S : Sim_forget Rel f) {p : Program} {l : Launch} {e : Env} {s : State} {m : MethodId} {below : List Frame} {meth : Method} {c : Code} {b L : Nat} {xs : Nat → Int32} {D : va_G} {cs : Nat → ClassId} {o : Nat} {hX : Nat → Nat} {hs : Nat → Nat → Nat} {laa : Nat → Nat} {lah : Nat → Nat → Nat} {lsa : Nat → Nat} {lsh : Nat → Nat → Nat} {mo : Nat} {mh : Nat → Nat} (hx : p.tables.exec = Jvm.exec) (hb : c.code = code) (hml : c.maxLocals = 4) (hown : s.vm.findClass RL = some m.cls) (hts : ∀ w ∈ wsL_law, w.before #[Value.ref b] s = true) (hXs : va_X b L xs s s.heap) (hbl : b < s.heap.size) (hK : va_K D vwCl (tyA cs) s) (hN : yN s) {j : Nat} (hj : j + 5 ≤ L) (hL : L ≤ 2560) (SI : Nat → FI) (SV : Nat → FV) (LaI : Nat → FI) (LaV : Nat → FV) (LsI : Nat → FI) (LsV : Nat → FV) (I : FI) (V : FV) (hRel : Rel SI SV LaI LaV LsI LsV I V) (H : Heap) (locs : List Loc) (hP : va_P D vwCl (List.flatten (lwW cs o hX hs laa lah lsa lsh mo mh SI SV LaI LaV LsI LsV I V)) H) (hD : va_D (fun q : Nat => s.heap.size ≤ q) (List.flatten (lwW cs o hX hs laa lah lsa lsh mo mh SI SV LaI LaV LsI LsV I V))) (hS : va_S (fun q : Nat => s.heap.size ≤ q) s.heap H locs) (ls : Array Slot) (hl : lv_has ls 4 [(0, .ref b), (1, .ref o), (2, .ref mo), (3, .int (nI j))]) (K : ∀ (SI : Nat → FI) (SV : Nat → FV) (LaI : Nat → FI) (LaV : Nat → FV) (LsI : Nat → FI) (LsV : Nat → FV) (I : FI) (V : FV), Rel SI SV LaI LaV LsI LsV I V → ∀ (H : Heap) (locs : List Loc), va_P D vwCl (List.flatten (lwW cs o hX hs laa lah lsa lsh mo mh SI SV LaI LaV LsI LsV I V)) H → va_D (fun q : Nat => s.heap.size ≤ q) (List.flatten (lwW cs o hX hs laa lah lsa lsh mo mh SI SV LaI LaV LsI LsV I V)) → va_S (fun q : Nat => s.heap.size ≤ q) s.heap H locs → ∀ ls : Array Slot, lv_has ls 4 [(0, .ref b), (1, .ref o), (2, .ref mo), (3, .int (nI j))] → W p l e room_1 s m #[Value.ref b] below meth c H locs 149 4007 (lw_Z below #[Value.ref b] s) (F0 m 893 ls [])) : W p l e room_1 s m #[Value.ref b] below meth c H locs 149 4007 (lw_Z below #[Value.ref b] s) (F0 m 821 ls []) := by
  have hA : ∀ q : Nat, s.heap.size ≤ q → (fun q : Nat => s.heap.size ≤ q) q := fun _ h => h
  have hbA : ¬ (fun q : Nat => s.heap.size ≤ q) b := Nat.not_le.mpr hbl
  have h_1 : vp_in (nI j + 1) L := by rw [show (nI j + 1 : Int32) = nI (j + 1) from nI_add j 1]; exact vp_in_nI (by omega) (by omega)
  have h_2 : vp_in (nI j + 2) L := by rw [show (nI j + 2 : Int32) = nI (j + 2) from nI_add j 2]; exact vp_in_nI (by omega) (by omega)
  have h_3 : vp_in (nI j + 3) L := by rw [show (nI j + 3 : Int32) = nI (j + 3) from nI_add j 3]; exact vp_in_nI (by omega) (by omega)
  have h_4 : vp_in (nI j + 4) L := by rw [show (nI j + 4 : Int32) = nI (j + 4) from nI_add j 4]; exact vp_in_nI (by omega) (by omega)
  refine lv_aload_n hx hb dL_law_821 rfl (lv_at hl 1 rfl) ?_
  obtain ⟨r, nIday, I', V', q1, q2, hRel2⟩ := S SI SV LaI LaV LsI LsV I V  hRel 
  have hPc := subB (bs := lwW cs o hX hs laa lah lsa lsh mo mh SI SV LaI LaV LsI LsV I V) (ca := [w_X cs o hX (SI 99) (SV 99), w_Day cs (hX 4) (hs 4) (SI 4) (SV 4)]) (ra := [w_Txt cs (hX 0) (hs 0) (SI 0) (SV 0), w_Led cs (hX 1) (hs 1) (SI 1) (SV 1), w_Act cs (hX 2) (hs 2) laa (SI 2) (SV 2), w_Pool cs laa lah LaI LaV 10, w_Slt cs (hX 3) (hs 3) lsa (SI 3) (SV 3), w_Pool cs lsa lsh LsI LsV 2, w_Set cs (hX 5) (hs 5) (SI 5) (SV 5), w_Rng cs (hX 6) (hs 6) (SI 6) (SV 6), w_Lnd cs (hX 7) (hs 7) (SI 7) (SV 7), w_Crd cs (hX 8) (hs 8) (SI 8) (SV 8), w_M cs mo mh I V]) [0, 7, 1, 2, 3, 4, 5, 6, 8, 9, 10, 11, 12] (by decide) rfl rfl hP
  have wX := cwV (R := room_1) (s := s) (args := #[Value.ref b]) (rm := rm_X_forget) (mc := 0) (ms := 0) 0 hts gL_law_X9_forget rfl rfl rfl (by decide +kernel) ⟨Nat.le_of_ble_eq_true rfl, Nat.le_of_ble_eq_true rfl⟩
  have hDc := subD (bs := lwW cs o hX hs laa lah lsa lsh mo mh SI SV LaI LaV LsI LsV I V) (ca := [w_X cs o hX (SI 99) (SV 99), w_Day cs (hX 4) (hs 4) (SI 4) (SV 4)]) (ra := [w_Txt cs (hX 0) (hs 0) (SI 0) (SV 0), w_Led cs (hX 1) (hs 1) (SI 1) (SV 1), w_Act cs (hX 2) (hs 2) laa (SI 2) (SV 2), w_Pool cs laa lah LaI LaV 10, w_Slt cs (hX 3) (hs 3) lsa (SI 3) (SV 3), w_Pool cs lsa lsh LsI LsV 2, w_Set cs (hX 5) (hs 5) (SI 5) (SV 5), w_Rng cs (hX 6) (hs 6) (SI 6) (SV 6), w_Lnd cs (hX 7) (hs 7) (SI 7) (SV 7), w_Crd cs (hX 8) (hs 8) (SI 8) (SV 8), w_M cs mo mh I V]) [0, 7, 1, 2, 3, 4, 5, 6, 8, 9, 10, 11, 12] (by decide) rfl rfl hD
  have hFc := xfree hDc hS hA
  refine va_calli (va_runV (As := []) (rest := []) ⟨hx, hb, hml, hown, hts⟩ (c_X_forget l D cs o hX (hs 4) _ (SI 99) (SV 99) (SI 4) (SV 4)  f _ q1) wX ⟨yP_moved, va_recv hK hPc (ci := 9) (q0 := 0) rfl rfl, fun U hU hW => ⟨rfl, by rw [hU], by rw [hU]; exact hPc, va_K.moved hW.alike hK, yN_warm hW hN, hDc.weaken (fun _ _ _ _ => trivial)⟩⟩ rfl rfl hl.1 rfl (lv_room (Nat.le_of_ble_eq_true rfl)) dL_law_822 ⟨Nat.le_of_ble_eq_true rfl, Nat.le_of_ble_eq_true rfl⟩) hS (fun q _ h9 => hFc q h9) hFc (fun r0 u t H1 locs ht hvm hw hB hz1 hk1 hS => ?_)
  have er0 := congrArg Prod.fst hw
  have eu := congrArg Prod.snd hw
  dsimp only at er0 eu
  rw [er0]
  rw [eu] at hB
  obtain ⟨hP1, hK1, hD1⟩ := hB
  rw [ht] at hP1
  obtain ⟨hP, hD⟩ := joinB (bs := lwW cs o hX hs laa lah lsa lsh mo mh SI SV LaI LaV LsI LsV I V) (ca := [w_X cs o hX (SI 99) (SV 99), w_Day cs (hX 4) (hs 4) (SI 4) (SV 4)]) (ra := [w_Txt cs (hX 0) (hs 0) (SI 0) (SV 0), w_Led cs (hX 1) (hs 1) (SI 1) (SV 1), w_Act cs (hX 2) (hs 2) laa (SI 2) (SV 2), w_Pool cs laa lah LaI LaV 10, w_Slt cs (hX 3) (hs 3) lsa (SI 3) (SV 3), w_Pool cs lsa lsh LsI LsV 2, w_Set cs (hX 5) (hs 5) (SI 5) (SV 5), w_Rng cs (hX 6) (hs 6) (SI 6) (SV 6), w_Lnd cs (hX 7) (hs 7) (SI 7) (SV 7), w_Crd cs (hX 8) (hs 8) (SI 8) (SV 8), w_M cs mo mh I V]) [0, 7, 1, 2, 3, 4, 5, 6, 8, 9, 10, 11, 12] (by decide) rfl rfl hP hD hk1 hFc (cb := [w_X cs o hX (SI 99) (SV 99), w_Day cs (hX 4) (hs 4) nIday (SV 4)]) hP1 hD1 (be := lwW cs o hX hs laa lah lsa lsh mo mh (va_up SI 4 nIday) SV LaI LaV LsI LsV I V) [0, 2, 3, 4, 5, 6, 7, 1, 8, 9, 10, 11, 12] (by decide) rfl rfl
  refine lv_aload_n hx hb dL_law_825 rfl (lv_at hl 2 rfl) ?_
  have hPm := subB (bs := lwW cs o hX hs laa lah lsa lsh mo mh (va_up SI 4 nIday) SV LaI LaV LsI LsV I V) (ca := [w_M cs mo mh I V]) (ra := [w_X cs o hX (SI 99) (SV 99), w_Txt cs (hX 0) (hs 0) (SI 0) (SV 0), w_Led cs (hX 1) (hs 1) (SI 1) (SV 1), w_Act cs (hX 2) (hs 2) laa (SI 2) (SV 2), w_Pool cs laa lah LaI LaV 10, w_Slt cs (hX 3) (hs 3) lsa (SI 3) (SV 3), w_Pool cs lsa lsh LsI LsV 2, w_Day cs (hX 4) (hs 4) nIday (SV 4), w_Set cs (hX 5) (hs 5) (SI 5) (SV 5), w_Rng cs (hX 6) (hs 6) (SI 6) (SV 6), w_Lnd cs (hX 7) (hs 7) (SI 7) (SV 7), w_Crd cs (hX 8) (hs 8) (SI 8) (SV 8)]) [12, 0, 1, 2, 3, 4, 5, 6, 7, 8, 9, 10, 11] (by decide) rfl rfl hP
  have hDm := subD (bs := lwW cs o hX hs laa lah lsa lsh mo mh (va_up SI 4 nIday) SV LaI LaV LsI LsV I V) (ca := [w_M cs mo mh I V]) (ra := [w_X cs o hX (SI 99) (SV 99), w_Txt cs (hX 0) (hs 0) (SI 0) (SV 0), w_Led cs (hX 1) (hs 1) (SI 1) (SV 1), w_Act cs (hX 2) (hs 2) laa (SI 2) (SV 2), w_Pool cs laa lah LaI LaV 10, w_Slt cs (hX 3) (hs 3) lsa (SI 3) (SV 3), w_Pool cs lsa lsh LsI LsV 2, w_Day cs (hX 4) (hs 4) nIday (SV 4), w_Set cs (hX 5) (hs 5) (SI 5) (SV 5), w_Rng cs (hX 6) (hs 6) (SI 6) (SV 6), w_Lnd cs (hX 7) (hs 7) (SI 7) (SV 7), w_Crd cs (hX 8) (hs 8) (SI 8) (SV 8)]) [12, 0, 1, 2, 3, 4, 5, 6, 7, 8, 9, 10, 11] (by decide) rfl rfl hD
  have hPm : va_P D vwCl (w_M cs mo mh I V) _ := hPm
  have hDm : va_D (fun q : Nat => s.heap.size ≤ q) (w_M cs mo mh I V) := hDm
  have hFm := xfree hDm hS hA
  have wM := cwV (R := room_1) (s := s) (args := #[Value.ref b]) (rm := rm_M_forget) (mc := 0) (ms := 0) 0 hts gL_law_X10_forget rfl rfl rfl (by decide +kernel) ⟨Nat.le_of_ble_eq_true rfl, Nat.le_of_ble_eq_true rfl⟩
  refine va_calli (va_runV (As := []) (rest := [.int r]) ⟨hx, hb, hml, hown, hts⟩ (c_M_forget l D cs mo mh _ I V  f _ q2) wM ⟨xP_moved, va_recv hK hPm (ci := 10) (q0 := 0) rfl rfl, fun U hU hW => ⟨rfl, by rw [hU], by rw [hU]; exact hPm, va_K.moved hW.alike hK, hDm.weaken (fun _ _ _ _ => trivial)⟩⟩ rfl rfl hl.1 rfl (lv_room (Nat.le_of_ble_eq_true rfl)) dL_law_826 ⟨Nat.le_of_ble_eq_true rfl, Nat.le_of_ble_eq_true rfl⟩) hS (fun q _ h9 => hFm q h9) hFm (fun r0 u t H1 locs ht hvm hw hB hz1 hk1 hS => ?_)
  have er0 := congrArg Prod.fst hw
  have eu := congrArg Prod.snd hw
  dsimp only at er0 eu
  rw [er0]
  rw [eu] at hB
  obtain ⟨hP1, hK1, hD1⟩ := hB
  rw [ht] at hP1
  have hP1 : va_P D vwCl (List.flatten [w_M cs mo mh I' V']) _ := hP1
  have hD1 : va_D (va_A (List.flatten [w_M cs mo mh I V]) _) (List.flatten [w_M cs mo mh I' V']) := hD1
  obtain ⟨hP, hD⟩ := joinB (bs := lwW cs o hX hs laa lah lsa lsh mo mh (va_up SI 4 nIday) SV LaI LaV LsI LsV I V) (ca := [w_M cs mo mh I V]) (ra := [w_X cs o hX (SI 99) (SV 99), w_Txt cs (hX 0) (hs 0) (SI 0) (SV 0), w_Led cs (hX 1) (hs 1) (SI 1) (SV 1), w_Act cs (hX 2) (hs 2) laa (SI 2) (SV 2), w_Pool cs laa lah LaI LaV 10, w_Slt cs (hX 3) (hs 3) lsa (SI 3) (SV 3), w_Pool cs lsa lsh LsI LsV 2, w_Day cs (hX 4) (hs 4) nIday (SV 4), w_Set cs (hX 5) (hs 5) (SI 5) (SV 5), w_Rng cs (hX 6) (hs 6) (SI 6) (SV 6), w_Lnd cs (hX 7) (hs 7) (SI 7) (SV 7), w_Crd cs (hX 8) (hs 8) (SI 8) (SV 8)]) [12, 0, 1, 2, 3, 4, 5, 6, 7, 8, 9, 10, 11] (by decide) rfl rfl hP hD hk1 hFm (cb := [w_M cs mo mh I' V']) hP1 hD1 (be := lwW cs o hX hs laa lah lsa lsh mo mh (va_up SI 4 nIday) SV LaI LaV LsI LsV I' V') [1, 2, 3, 4, 5, 6, 7, 8, 9, 10, 11, 12, 0] (by decide) rfl rfl
  refine lv_icmp_eq (tgt := 893) hx hb dL_law_829 (by decide) (fun _ => ?_) (fun c9 => absurd rfl c9)
  exact K (va_up SI 4 nIday) SV LaI LaV LsI LsV I' V' hRel2 _ _ hP hD hS _ hl
set_option maxHeartbeats 4000000 in
set_option maxRecDepth 100000 in
theorem law_cheats {Rel : (Nat → FI) → (Nat → FV) → (Nat → FI) → (Nat → FV) → (Nat → FI) → (Nat → FV) → FI → FV → Prop} {f : Nat} (S : Sim_cheats Rel f) {p : Program} {l : Launch} {e : Env} {s : State} {m : MethodId} {below : List Frame} {meth : Method} {c : Code} {b L : Nat} {xs : Nat → Int32} {D : va_G} {cs : Nat → ClassId} {o : Nat} {hX : Nat → Nat} {hs : Nat → Nat → Nat} {laa : Nat → Nat} {lah : Nat → Nat → Nat} {lsa : Nat → Nat} {lsh : Nat → Nat → Nat} {mo : Nat} {mh : Nat → Nat} (hx : p.tables.exec = Jvm.exec) (hb : c.code = code) (hml : c.maxLocals = 4) (hown : s.vm.findClass RL = some m.cls) (hts : ∀ w ∈ wsL_law, w.before #[Value.ref b] s = true) (hXs : va_X b L xs s s.heap) (hbl : b < s.heap.size) (hK : va_K D vwCl (tyA cs) s) (hN : yN s) {j : Nat} (hj : j + 5 ≤ L) (hL : L ≤ 2560) (SI : Nat → FI) (SV : Nat → FV) (LaI : Nat → FI) (LaV : Nat → FV) (LsI : Nat → FI) (LsV : Nat → FV) (I : FI) (V : FV) (hRel : Rel SI SV LaI LaV LsI LsV I V) (H : Heap) (locs : List Loc) (hP : va_P D vwCl (List.flatten (lwW cs o hX hs laa lah lsa lsh mo mh SI SV LaI LaV LsI LsV I V)) H) (hD : va_D (fun q : Nat => s.heap.size ≤ q) (List.flatten (lwW cs o hX hs laa lah lsa lsh mo mh SI SV LaI LaV LsI LsV I V))) (hS : va_S (fun q : Nat => s.heap.size ≤ q) s.heap H locs) (ls : Array Slot) (hl : lv_has ls 4 [(0, .ref b), (1, .ref o), (2, .ref mo), (3, .int (nI j))]) (K : ∀ (SI : Nat → FI) (SV : Nat → FV) (LaI : Nat → FI) (LaV : Nat → FV) (LsI : Nat → FI) (LsV : Nat → FV) (I : FI) (V : FV), Rel SI SV LaI LaV LsI LsV I V → ∀ (H : Heap) (locs : List Loc), va_P D vwCl (List.flatten (lwW cs o hX hs laa lah lsa lsh mo mh SI SV LaI LaV LsI LsV I V)) H → va_D (fun q : Nat => s.heap.size ≤ q) (List.flatten (lwW cs o hX hs laa lah lsa lsh mo mh SI SV LaI LaV LsI LsV I V)) → va_S (fun q : Nat => s.heap.size ≤ q) s.heap H locs → ∀ ls : Array Slot, lv_has ls 4 [(0, .ref b), (1, .ref o), (2, .ref mo), (3, .int (nI j))] → W p l e room_1 s m #[Value.ref b] below meth c H locs 149 4007 (lw_Z below #[Value.ref b] s) (F0 m 893 ls [])) : W p l e room_1 s m #[Value.ref b] below meth c H locs 149 4007 (lw_Z below #[Value.ref b] s) (F0 m 834 ls []) := by
  have hA : ∀ q : Nat, s.heap.size ≤ q → (fun q : Nat => s.heap.size ≤ q) q := fun _ h => h
  have hbA : ¬ (fun q : Nat => s.heap.size ≤ q) b := Nat.not_le.mpr hbl
  have h_1 : vp_in (nI j + 1) L := by rw [show (nI j + 1 : Int32) = nI (j + 1) from nI_add j 1]; exact vp_in_nI (by omega) (by omega)
  have h_2 : vp_in (nI j + 2) L := by rw [show (nI j + 2 : Int32) = nI (j + 2) from nI_add j 2]; exact vp_in_nI (by omega) (by omega)
  have h_3 : vp_in (nI j + 3) L := by rw [show (nI j + 3 : Int32) = nI (j + 3) from nI_add j 3]; exact vp_in_nI (by omega) (by omega)
  have h_4 : vp_in (nI j + 4) L := by rw [show (nI j + 4 : Int32) = nI (j + 4) from nI_add j 4]; exact vp_in_nI (by omega) (by omega)
  refine lv_aload_n hx hb dL_law_834 rfl (lv_at hl 1 rfl) ?_
  obtain ⟨r, I', V', q1, q2, hRel2⟩ := S SI SV LaI LaV LsI LsV I V  hRel 
  have hPc := subB (bs := lwW cs o hX hs laa lah lsa lsh mo mh SI SV LaI LaV LsI LsV I V) (ca := [w_X cs o hX (SI 99) (SV 99), w_Day cs (hX 4) (hs 4) (SI 4) (SV 4), w_Led cs (hX 1) (hs 1) (SI 1) (SV 1)]) (ra := [w_Txt cs (hX 0) (hs 0) (SI 0) (SV 0), w_Act cs (hX 2) (hs 2) laa (SI 2) (SV 2), w_Pool cs laa lah LaI LaV 10, w_Slt cs (hX 3) (hs 3) lsa (SI 3) (SV 3), w_Pool cs lsa lsh LsI LsV 2, w_Set cs (hX 5) (hs 5) (SI 5) (SV 5), w_Rng cs (hX 6) (hs 6) (SI 6) (SV 6), w_Lnd cs (hX 7) (hs 7) (SI 7) (SV 7), w_Crd cs (hX 8) (hs 8) (SI 8) (SV 8), w_M cs mo mh I V]) [0, 7, 2, 1, 3, 4, 5, 6, 8, 9, 10, 11, 12] (by decide) rfl rfl hP
  have wX := cwV (R := room_1) (s := s) (args := #[Value.ref b]) (rm := rm_X_cheats) (mc := 0) (ms := 0) 0 hts gL_law_X9_cheats rfl rfl rfl (by decide +kernel) ⟨Nat.le_of_ble_eq_true rfl, Nat.le_of_ble_eq_true rfl⟩
  refine vp_callSi (va_Run.run (va_runV (As := []) (rest := []) ⟨hx, hb, hml, hown, hts⟩ (c_X_cheats l D cs o hX (hs 4) (hs 1) (SI 99) (SV 99) (SI 4) (SV 4) (SI 1) (SV 1)  f _ q1) wX ⟨yR_moved, va_recv hK hPc (ci := 9) (q0 := 0) rfl rfl, fun U hU hW => ⟨rfl, by rw [hU]; exact hPc, va_K.moved hW.alike hK, yN_warm hW hN⟩⟩ rfl rfl hl.1 rfl (lv_room (Nat.le_of_ble_eq_true rfl)) dL_law_835 ⟨Nat.le_of_ble_eq_true rfl, Nat.le_of_ble_eq_true rfl⟩)) (fun r0 er0 => ?_)
  rw [er0]
  refine lv_aload_n hx hb dL_law_838 rfl (lv_at hl 2 rfl) ?_
  have hPm := subB (bs := lwW cs o hX hs laa lah lsa lsh mo mh SI SV LaI LaV LsI LsV I V) (ca := [w_M cs mo mh I V]) (ra := [w_X cs o hX (SI 99) (SV 99), w_Txt cs (hX 0) (hs 0) (SI 0) (SV 0), w_Led cs (hX 1) (hs 1) (SI 1) (SV 1), w_Act cs (hX 2) (hs 2) laa (SI 2) (SV 2), w_Pool cs laa lah LaI LaV 10, w_Slt cs (hX 3) (hs 3) lsa (SI 3) (SV 3), w_Pool cs lsa lsh LsI LsV 2, w_Day cs (hX 4) (hs 4) (SI 4) (SV 4), w_Set cs (hX 5) (hs 5) (SI 5) (SV 5), w_Rng cs (hX 6) (hs 6) (SI 6) (SV 6), w_Lnd cs (hX 7) (hs 7) (SI 7) (SV 7), w_Crd cs (hX 8) (hs 8) (SI 8) (SV 8)]) [12, 0, 1, 2, 3, 4, 5, 6, 7, 8, 9, 10, 11] (by decide) rfl rfl hP
  have hDm := subD (bs := lwW cs o hX hs laa lah lsa lsh mo mh SI SV LaI LaV LsI LsV I V) (ca := [w_M cs mo mh I V]) (ra := [w_X cs o hX (SI 99) (SV 99), w_Txt cs (hX 0) (hs 0) (SI 0) (SV 0), w_Led cs (hX 1) (hs 1) (SI 1) (SV 1), w_Act cs (hX 2) (hs 2) laa (SI 2) (SV 2), w_Pool cs laa lah LaI LaV 10, w_Slt cs (hX 3) (hs 3) lsa (SI 3) (SV 3), w_Pool cs lsa lsh LsI LsV 2, w_Day cs (hX 4) (hs 4) (SI 4) (SV 4), w_Set cs (hX 5) (hs 5) (SI 5) (SV 5), w_Rng cs (hX 6) (hs 6) (SI 6) (SV 6), w_Lnd cs (hX 7) (hs 7) (SI 7) (SV 7), w_Crd cs (hX 8) (hs 8) (SI 8) (SV 8)]) [12, 0, 1, 2, 3, 4, 5, 6, 7, 8, 9, 10, 11] (by decide) rfl rfl hD
  have hPm : va_P D vwCl (w_M cs mo mh I V) _ := hPm
  have hDm : va_D (fun q : Nat => s.heap.size ≤ q) (w_M cs mo mh I V) := hDm
  have hFm := xfree hDm hS hA
  have wM := cwV (R := room_1) (s := s) (args := #[Value.ref b]) (rm := rm_M_cheats) (mc := 0) (ms := 0) 0 hts gL_law_X10_cheats rfl rfl rfl (by decide +kernel) ⟨Nat.le_of_ble_eq_true rfl, Nat.le_of_ble_eq_true rfl⟩
  refine va_calli (va_runV (As := []) (rest := [.int r]) ⟨hx, hb, hml, hown, hts⟩ (c_M_cheats l D cs mo mh _ I V  f _ q2) wM ⟨xP_moved, va_recv hK hPm (ci := 10) (q0 := 0) rfl rfl, fun U hU hW => ⟨rfl, by rw [hU], by rw [hU]; exact hPm, va_K.moved hW.alike hK, hDm.weaken (fun _ _ _ _ => trivial)⟩⟩ rfl rfl hl.1 rfl (lv_room (Nat.le_of_ble_eq_true rfl)) dL_law_839 ⟨Nat.le_of_ble_eq_true rfl, Nat.le_of_ble_eq_true rfl⟩) hS (fun q _ h9 => hFm q h9) hFm (fun r0 u t H1 locs ht hvm hw hB hz1 hk1 hS => ?_)
  have er0 := congrArg Prod.fst hw
  have eu := congrArg Prod.snd hw
  dsimp only at er0 eu
  rw [er0]
  rw [eu] at hB
  obtain ⟨hP1, hK1, hD1⟩ := hB
  rw [ht] at hP1
  have hP1 : va_P D vwCl (List.flatten [w_M cs mo mh I' V']) _ := hP1
  have hD1 : va_D (va_A (List.flatten [w_M cs mo mh I V]) _) (List.flatten [w_M cs mo mh I' V']) := hD1
  obtain ⟨hP, hD⟩ := joinB (bs := lwW cs o hX hs laa lah lsa lsh mo mh SI SV LaI LaV LsI LsV I V) (ca := [w_M cs mo mh I V]) (ra := [w_X cs o hX (SI 99) (SV 99), w_Txt cs (hX 0) (hs 0) (SI 0) (SV 0), w_Led cs (hX 1) (hs 1) (SI 1) (SV 1), w_Act cs (hX 2) (hs 2) laa (SI 2) (SV 2), w_Pool cs laa lah LaI LaV 10, w_Slt cs (hX 3) (hs 3) lsa (SI 3) (SV 3), w_Pool cs lsa lsh LsI LsV 2, w_Day cs (hX 4) (hs 4) (SI 4) (SV 4), w_Set cs (hX 5) (hs 5) (SI 5) (SV 5), w_Rng cs (hX 6) (hs 6) (SI 6) (SV 6), w_Lnd cs (hX 7) (hs 7) (SI 7) (SV 7), w_Crd cs (hX 8) (hs 8) (SI 8) (SV 8)]) [12, 0, 1, 2, 3, 4, 5, 6, 7, 8, 9, 10, 11] (by decide) rfl rfl hP hD hk1 hFm (cb := [w_M cs mo mh I' V']) hP1 hD1 (be := lwW cs o hX hs laa lah lsa lsh mo mh SI SV LaI LaV LsI LsV I' V') [1, 2, 3, 4, 5, 6, 7, 8, 9, 10, 11, 12, 0] (by decide) rfl rfl
  refine lv_icmp_eq (tgt := 893) hx hb dL_law_842 (by decide) (fun _ => ?_) (fun c9 => absurd rfl c9)
  exact K SI SV LaI LaV LsI LsV I' V' hRel2 _ _ hP hD hS _ hl
set_option maxHeartbeats 4000000 in
set_option maxRecDepth 100000 in
theorem law_keep {Rel : (Nat → FI) → (Nat → FV) → (Nat → FI) → (Nat → FV) → (Nat → FI) → (Nat → FV) → FI → FV → Prop} {f : Nat} (S : Sim_keep Rel f) {p : Program} {l : Launch} {e : Env} {s : State} {m : MethodId} {below : List Frame} {meth : Method} {c : Code} {b L : Nat} {xs : Nat → Int32} {D : va_G} {cs : Nat → ClassId} {o : Nat} {hX : Nat → Nat} {hs : Nat → Nat → Nat} {laa : Nat → Nat} {lah : Nat → Nat → Nat} {lsa : Nat → Nat} {lsh : Nat → Nat → Nat} {mo : Nat} {mh : Nat → Nat} (hx : p.tables.exec = Jvm.exec) (hb : c.code = code) (hml : c.maxLocals = 4) (hown : s.vm.findClass RL = some m.cls) (hts : ∀ w ∈ wsL_law, w.before #[Value.ref b] s = true) (hXs : va_X b L xs s s.heap) (hbl : b < s.heap.size) (hK : va_K D vwCl (tyA cs) s) (hN : yN s) {j : Nat} (hj : j + 5 ≤ L) (hL : L ≤ 2560) (SI : Nat → FI) (SV : Nat → FV) (LaI : Nat → FI) (LaV : Nat → FV) (LsI : Nat → FI) (LsV : Nat → FV) (I : FI) (V : FV) (hRel : Rel SI SV LaI LaV LsI LsV I V) (H : Heap) (locs : List Loc) (hP : va_P D vwCl (List.flatten (lwW cs o hX hs laa lah lsa lsh mo mh SI SV LaI LaV LsI LsV I V)) H) (hD : va_D (fun q : Nat => s.heap.size ≤ q) (List.flatten (lwW cs o hX hs laa lah lsa lsh mo mh SI SV LaI LaV LsI LsV I V))) (hS : va_S (fun q : Nat => s.heap.size ≤ q) s.heap H locs) (ls : Array Slot) (hl : lv_has ls 4 [(0, .ref b), (1, .ref o), (2, .ref mo), (3, .int (nI j))]) (K : ∀ (SI : Nat → FI) (SV : Nat → FV) (LaI : Nat → FI) (LaV : Nat → FV) (LsI : Nat → FI) (LsV : Nat → FV) (I : FI) (V : FV), Rel SI SV LaI LaV LsI LsV I V → ∀ (H : Heap) (locs : List Loc), va_P D vwCl (List.flatten (lwW cs o hX hs laa lah lsa lsh mo mh SI SV LaI LaV LsI LsV I V)) H → va_D (fun q : Nat => s.heap.size ≤ q) (List.flatten (lwW cs o hX hs laa lah lsa lsh mo mh SI SV LaI LaV LsI LsV I V)) → va_S (fun q : Nat => s.heap.size ≤ q) s.heap H locs → ∀ ls : Array Slot, lv_has ls 4 [(0, .ref b), (1, .ref o), (2, .ref mo), (3, .int (nI j))] → W p l e room_1 s m #[Value.ref b] below meth c H locs 149 4007 (lw_Z below #[Value.ref b] s) (F0 m 893 ls [])) : W p l e room_1 s m #[Value.ref b] below meth c H locs 149 4007 (lw_Z below #[Value.ref b] s) (F0 m 847 ls []) := by
  have hA : ∀ q : Nat, s.heap.size ≤ q → (fun q : Nat => s.heap.size ≤ q) q := fun _ h => h
  have hbA : ¬ (fun q : Nat => s.heap.size ≤ q) b := Nat.not_le.mpr hbl
  have h_1 : vp_in (nI j + 1) L := by rw [show (nI j + 1 : Int32) = nI (j + 1) from nI_add j 1]; exact vp_in_nI (by omega) (by omega)
  have h_2 : vp_in (nI j + 2) L := by rw [show (nI j + 2 : Int32) = nI (j + 2) from nI_add j 2]; exact vp_in_nI (by omega) (by omega)
  have h_3 : vp_in (nI j + 3) L := by rw [show (nI j + 3 : Int32) = nI (j + 3) from nI_add j 3]; exact vp_in_nI (by omega) (by omega)
  have h_4 : vp_in (nI j + 4) L := by rw [show (nI j + 4 : Int32) = nI (j + 4) from nI_add j 4]; exact vp_in_nI (by omega) (by omega)
  refine lv_aload_n hx hb dL_law_847 rfl (lv_at hl 1 rfl) ?_
  refine lv_aload_n hx hb dL_law_848 rfl (lv_at hl 0 rfl) ?_
  refine lv_iload_n hx hb dL_law_849 rfl (lv_at hl 3 rfl) ?_
  refine lv_iconst (v := 1) hx hb dL_law_850 (by decide) ?_
  refine lv_iadd hx hb dL_law_851 ?_
  refine va_sld hx hb hXs hbl hbA hS h_1 dL_law_852 ?_
  obtain ⟨r, nVslt, nIps, nVps, I', V', q1, q2, hRel2⟩ := S SI SV LaI LaV LsI LsV I V (xs ((nI j) + 1).toNatClampNeg) hRel 
  have hPc := subB (bs := lwW cs o hX hs laa lah lsa lsh mo mh SI SV LaI LaV LsI LsV I V) (ca := [w_X cs o hX (SI 99) (SV 99), w_Slt cs (hX 3) (hs 3) lsa (SI 3) (SV 3), w_Led cs (hX 1) (hs 1) (SI 1) (SV 1), w_Pool cs lsa lsh LsI LsV 2]) (ra := [w_Txt cs (hX 0) (hs 0) (SI 0) (SV 0), w_Act cs (hX 2) (hs 2) laa (SI 2) (SV 2), w_Pool cs laa lah LaI LaV 10, w_Day cs (hX 4) (hs 4) (SI 4) (SV 4), w_Set cs (hX 5) (hs 5) (SI 5) (SV 5), w_Rng cs (hX 6) (hs 6) (SI 6) (SV 6), w_Lnd cs (hX 7) (hs 7) (SI 7) (SV 7), w_Crd cs (hX 8) (hs 8) (SI 8) (SV 8), w_M cs mo mh I V]) [0, 5, 2, 6, 1, 3, 4, 7, 8, 9, 10, 11, 12] (by decide) rfl rfl hP
  have wX := cwV (R := room_1) (s := s) (args := #[Value.ref b]) (rm := rm_X_keep) (mc := 0) (ms := 0) 1 hts gL_law_X9_keep rfl rfl rfl (by decide +kernel) ⟨Nat.le_of_ble_eq_true rfl, Nat.le_of_ble_eq_true rfl⟩
  have hDc := subD (bs := lwW cs o hX hs laa lah lsa lsh mo mh SI SV LaI LaV LsI LsV I V) (ca := [w_X cs o hX (SI 99) (SV 99), w_Slt cs (hX 3) (hs 3) lsa (SI 3) (SV 3), w_Led cs (hX 1) (hs 1) (SI 1) (SV 1), w_Pool cs lsa lsh LsI LsV 2]) (ra := [w_Txt cs (hX 0) (hs 0) (SI 0) (SV 0), w_Act cs (hX 2) (hs 2) laa (SI 2) (SV 2), w_Pool cs laa lah LaI LaV 10, w_Day cs (hX 4) (hs 4) (SI 4) (SV 4), w_Set cs (hX 5) (hs 5) (SI 5) (SV 5), w_Rng cs (hX 6) (hs 6) (SI 6) (SV 6), w_Lnd cs (hX 7) (hs 7) (SI 7) (SV 7), w_Crd cs (hX 8) (hs 8) (SI 8) (SV 8), w_M cs mo mh I V]) [0, 5, 2, 6, 1, 3, 4, 7, 8, 9, 10, 11, 12] (by decide) rfl rfl hD
  have hFc := xfree hDc hS hA
  refine va_calli (va_runV (As := [.int (xs ((nI j) + 1).toNatClampNeg)]) (rest := []) ⟨hx, hb, hml, hown, hts⟩ (c_X_keep l D cs o hX (hs 3) lsa (hs 1) lsh _ (SI 99) (SV 99) (SI 3) (SV 3) (SI 1) (SV 1) LsI LsV (xs ((nI j) + 1).toNatClampNeg) f _ q1) wX ⟨yP_moved, va_recv hK hPc (ci := 9) (q0 := 0) rfl rfl, fun U hU hW => ⟨rfl, by rw [hU], by rw [hU]; exact hPc, va_K.moved hW.alike hK, yN_warm hW hN, hDc.weaken (fun _ _ _ _ => trivial)⟩⟩ rfl rfl hl.1 rfl (lv_room (Nat.le_of_ble_eq_true rfl)) dL_law_853 ⟨Nat.le_of_ble_eq_true rfl, Nat.le_of_ble_eq_true rfl⟩) hS (fun q _ h9 => hFc q h9) hFc (fun r0 u t H1 locs ht hvm hw hB hz1 hk1 hS => ?_)
  have er0 := congrArg Prod.fst hw
  have eu := congrArg Prod.snd hw
  dsimp only at er0 eu
  rw [er0]
  rw [eu] at hB
  obtain ⟨hP1, hK1, hD1⟩ := hB
  rw [ht] at hP1
  obtain ⟨hP, hD⟩ := joinB (bs := lwW cs o hX hs laa lah lsa lsh mo mh SI SV LaI LaV LsI LsV I V) (ca := [w_X cs o hX (SI 99) (SV 99), w_Slt cs (hX 3) (hs 3) lsa (SI 3) (SV 3), w_Led cs (hX 1) (hs 1) (SI 1) (SV 1), w_Pool cs lsa lsh LsI LsV 2]) (ra := [w_Txt cs (hX 0) (hs 0) (SI 0) (SV 0), w_Act cs (hX 2) (hs 2) laa (SI 2) (SV 2), w_Pool cs laa lah LaI LaV 10, w_Day cs (hX 4) (hs 4) (SI 4) (SV 4), w_Set cs (hX 5) (hs 5) (SI 5) (SV 5), w_Rng cs (hX 6) (hs 6) (SI 6) (SV 6), w_Lnd cs (hX 7) (hs 7) (SI 7) (SV 7), w_Crd cs (hX 8) (hs 8) (SI 8) (SV 8), w_M cs mo mh I V]) [0, 5, 2, 6, 1, 3, 4, 7, 8, 9, 10, 11, 12] (by decide) rfl rfl hP hD hk1 hFc (cb := [w_X cs o hX (SI 99) (SV 99), w_Slt cs (hX 3) (hs 3) lsa (SI 3) nVslt, w_Led cs (hX 1) (hs 1) (SI 1) (SV 1), w_Pool cs lsa lsh nIps nVps 2]) hP1 hD1 (be := lwW cs o hX hs laa lah lsa lsh mo mh SI (va_up SV 3 nVslt) LaI LaV nIps nVps I V) [0, 4, 2, 5, 6, 1, 3, 7, 8, 9, 10, 11, 12] (by decide) rfl rfl
  refine lv_aload_n hx hb dL_law_856 rfl (lv_at hl 2 rfl) ?_
  refine lv_aload_n hx hb dL_law_857 rfl (lv_at hl 0 rfl) ?_
  refine lv_iload_n hx hb dL_law_858 rfl (lv_at hl 3 rfl) ?_
  refine lv_iconst (v := 1) hx hb dL_law_859 (by decide) ?_
  refine lv_iadd hx hb dL_law_860 ?_
  refine va_sld hx hb hXs hbl hbA hS h_1 dL_law_861 ?_
  have hPm := subB (bs := lwW cs o hX hs laa lah lsa lsh mo mh SI (va_up SV 3 nVslt) LaI LaV nIps nVps I V) (ca := [w_M cs mo mh I V]) (ra := [w_X cs o hX (SI 99) (SV 99), w_Txt cs (hX 0) (hs 0) (SI 0) (SV 0), w_Led cs (hX 1) (hs 1) (SI 1) (SV 1), w_Act cs (hX 2) (hs 2) laa (SI 2) (SV 2), w_Pool cs laa lah LaI LaV 10, w_Slt cs (hX 3) (hs 3) lsa (SI 3) nVslt, w_Pool cs lsa lsh nIps nVps 2, w_Day cs (hX 4) (hs 4) (SI 4) (SV 4), w_Set cs (hX 5) (hs 5) (SI 5) (SV 5), w_Rng cs (hX 6) (hs 6) (SI 6) (SV 6), w_Lnd cs (hX 7) (hs 7) (SI 7) (SV 7), w_Crd cs (hX 8) (hs 8) (SI 8) (SV 8)]) [12, 0, 1, 2, 3, 4, 5, 6, 7, 8, 9, 10, 11] (by decide) rfl rfl hP
  have hDm := subD (bs := lwW cs o hX hs laa lah lsa lsh mo mh SI (va_up SV 3 nVslt) LaI LaV nIps nVps I V) (ca := [w_M cs mo mh I V]) (ra := [w_X cs o hX (SI 99) (SV 99), w_Txt cs (hX 0) (hs 0) (SI 0) (SV 0), w_Led cs (hX 1) (hs 1) (SI 1) (SV 1), w_Act cs (hX 2) (hs 2) laa (SI 2) (SV 2), w_Pool cs laa lah LaI LaV 10, w_Slt cs (hX 3) (hs 3) lsa (SI 3) nVslt, w_Pool cs lsa lsh nIps nVps 2, w_Day cs (hX 4) (hs 4) (SI 4) (SV 4), w_Set cs (hX 5) (hs 5) (SI 5) (SV 5), w_Rng cs (hX 6) (hs 6) (SI 6) (SV 6), w_Lnd cs (hX 7) (hs 7) (SI 7) (SV 7), w_Crd cs (hX 8) (hs 8) (SI 8) (SV 8)]) [12, 0, 1, 2, 3, 4, 5, 6, 7, 8, 9, 10, 11] (by decide) rfl rfl hD
  have hPm : va_P D vwCl (w_M cs mo mh I V) _ := hPm
  have hDm : va_D (fun q : Nat => s.heap.size ≤ q) (w_M cs mo mh I V) := hDm
  have hFm := xfree hDm hS hA
  have wM := cwV (R := room_1) (s := s) (args := #[Value.ref b]) (rm := rm_M_keep) (mc := 0) (ms := 0) 1 hts gL_law_X10_keep rfl rfl rfl (by decide +kernel) ⟨Nat.le_of_ble_eq_true rfl, Nat.le_of_ble_eq_true rfl⟩
  refine va_calli (va_runV (As := [.int (xs ((nI j) + 1).toNatClampNeg)]) (rest := [.int r]) ⟨hx, hb, hml, hown, hts⟩ (c_M_keep l D cs mo mh _ I V (xs ((nI j) + 1).toNatClampNeg) f _ q2) wM ⟨xP_moved, va_recv hK hPm (ci := 10) (q0 := 0) rfl rfl, fun U hU hW => ⟨rfl, by rw [hU], by rw [hU]; exact hPm, va_K.moved hW.alike hK, hDm.weaken (fun _ _ _ _ => trivial)⟩⟩ rfl rfl hl.1 rfl (lv_room (Nat.le_of_ble_eq_true rfl)) dL_law_862 ⟨Nat.le_of_ble_eq_true rfl, Nat.le_of_ble_eq_true rfl⟩) hS (fun q _ h9 => hFm q h9) hFm (fun r0 u t H1 locs ht hvm hw hB hz1 hk1 hS => ?_)
  have er0 := congrArg Prod.fst hw
  have eu := congrArg Prod.snd hw
  dsimp only at er0 eu
  rw [er0]
  rw [eu] at hB
  obtain ⟨hP1, hK1, hD1⟩ := hB
  rw [ht] at hP1
  have hP1 : va_P D vwCl (List.flatten [w_M cs mo mh I' V']) _ := hP1
  have hD1 : va_D (va_A (List.flatten [w_M cs mo mh I V]) _) (List.flatten [w_M cs mo mh I' V']) := hD1
  obtain ⟨hP, hD⟩ := joinB (bs := lwW cs o hX hs laa lah lsa lsh mo mh SI (va_up SV 3 nVslt) LaI LaV nIps nVps I V) (ca := [w_M cs mo mh I V]) (ra := [w_X cs o hX (SI 99) (SV 99), w_Txt cs (hX 0) (hs 0) (SI 0) (SV 0), w_Led cs (hX 1) (hs 1) (SI 1) (SV 1), w_Act cs (hX 2) (hs 2) laa (SI 2) (SV 2), w_Pool cs laa lah LaI LaV 10, w_Slt cs (hX 3) (hs 3) lsa (SI 3) nVslt, w_Pool cs lsa lsh nIps nVps 2, w_Day cs (hX 4) (hs 4) (SI 4) (SV 4), w_Set cs (hX 5) (hs 5) (SI 5) (SV 5), w_Rng cs (hX 6) (hs 6) (SI 6) (SV 6), w_Lnd cs (hX 7) (hs 7) (SI 7) (SV 7), w_Crd cs (hX 8) (hs 8) (SI 8) (SV 8)]) [12, 0, 1, 2, 3, 4, 5, 6, 7, 8, 9, 10, 11] (by decide) rfl rfl hP hD hk1 hFm (cb := [w_M cs mo mh I' V']) hP1 hD1 (be := lwW cs o hX hs laa lah lsa lsh mo mh SI (va_up SV 3 nVslt) LaI LaV nIps nVps I' V') [1, 2, 3, 4, 5, 6, 7, 8, 9, 10, 11, 12, 0] (by decide) rfl rfl
  refine lv_icmp_eq (tgt := 893) hx hb dL_law_865 (by decide) (fun _ => ?_) (fun c9 => absurd rfl c9)
  exact K SI (va_up SV 3 nVslt) LaI LaV nIps nVps I' V' hRel2 _ _ hP hD hS _ hl
set_option maxHeartbeats 4000000 in
set_option maxRecDepth 100000 in
theorem law_again {Rel : (Nat → FI) → (Nat → FV) → (Nat → FI) → (Nat → FV) → (Nat → FI) → (Nat → FV) → FI → FV → Prop} {f : Nat} (S : Sim_again Rel f) {p : Program} {l : Launch} {e : Env} {s : State} {m : MethodId} {below : List Frame} {meth : Method} {c : Code} {b L : Nat} {xs : Nat → Int32} {D : va_G} {cs : Nat → ClassId} {o : Nat} {hX : Nat → Nat} {hs : Nat → Nat → Nat} {laa : Nat → Nat} {lah : Nat → Nat → Nat} {lsa : Nat → Nat} {lsh : Nat → Nat → Nat} {mo : Nat} {mh : Nat → Nat} (hx : p.tables.exec = Jvm.exec) (hb : c.code = code) (hml : c.maxLocals = 4) (hown : s.vm.findClass RL = some m.cls) (hts : ∀ w ∈ wsL_law, w.before #[Value.ref b] s = true) (hXs : va_X b L xs s s.heap) (hbl : b < s.heap.size) (hK : va_K D vwCl (tyA cs) s) (hN : yN s) {j : Nat} (hj : j + 5 ≤ L) (hL : L ≤ 2560) (SI : Nat → FI) (SV : Nat → FV) (LaI : Nat → FI) (LaV : Nat → FV) (LsI : Nat → FI) (LsV : Nat → FV) (I : FI) (V : FV) (hRel : Rel SI SV LaI LaV LsI LsV I V) (H : Heap) (locs : List Loc) (hP : va_P D vwCl (List.flatten (lwW cs o hX hs laa lah lsa lsh mo mh SI SV LaI LaV LsI LsV I V)) H) (hD : va_D (fun q : Nat => s.heap.size ≤ q) (List.flatten (lwW cs o hX hs laa lah lsa lsh mo mh SI SV LaI LaV LsI LsV I V))) (hS : va_S (fun q : Nat => s.heap.size ≤ q) s.heap H locs) (ls : Array Slot) (hl : lv_has ls 4 [(0, .ref b), (1, .ref o), (2, .ref mo), (3, .int (nI j))]) (K : ∀ (SI : Nat → FI) (SV : Nat → FV) (LaI : Nat → FI) (LaV : Nat → FV) (LsI : Nat → FI) (LsV : Nat → FV) (I : FI) (V : FV), Rel SI SV LaI LaV LsI LsV I V → ∀ (H : Heap) (locs : List Loc), va_P D vwCl (List.flatten (lwW cs o hX hs laa lah lsa lsh mo mh SI SV LaI LaV LsI LsV I V)) H → va_D (fun q : Nat => s.heap.size ≤ q) (List.flatten (lwW cs o hX hs laa lah lsa lsh mo mh SI SV LaI LaV LsI LsV I V)) → va_S (fun q : Nat => s.heap.size ≤ q) s.heap H locs → ∀ ls : Array Slot, lv_has ls 4 [(0, .ref b), (1, .ref o), (2, .ref mo), (3, .int (nI j))] → W p l e room_1 s m #[Value.ref b] below meth c H locs 149 4007 (lw_Z below #[Value.ref b] s) (F0 m 893 ls [])) : W p l e room_1 s m #[Value.ref b] below meth c H locs 149 4007 (lw_Z below #[Value.ref b] s) (F0 m 870 ls []) := by
  have hA : ∀ q : Nat, s.heap.size ≤ q → (fun q : Nat => s.heap.size ≤ q) q := fun _ h => h
  have hbA : ¬ (fun q : Nat => s.heap.size ≤ q) b := Nat.not_le.mpr hbl
  have h_1 : vp_in (nI j + 1) L := by rw [show (nI j + 1 : Int32) = nI (j + 1) from nI_add j 1]; exact vp_in_nI (by omega) (by omega)
  have h_2 : vp_in (nI j + 2) L := by rw [show (nI j + 2 : Int32) = nI (j + 2) from nI_add j 2]; exact vp_in_nI (by omega) (by omega)
  have h_3 : vp_in (nI j + 3) L := by rw [show (nI j + 3 : Int32) = nI (j + 3) from nI_add j 3]; exact vp_in_nI (by omega) (by omega)
  have h_4 : vp_in (nI j + 4) L := by rw [show (nI j + 4 : Int32) = nI (j + 4) from nI_add j 4]; exact vp_in_nI (by omega) (by omega)
  refine lv_aload_n hx hb dL_law_870 rfl (lv_at hl 1 rfl) ?_
  refine lv_aload_n hx hb dL_law_871 rfl (lv_at hl 0 rfl) ?_
  refine lv_iload_n hx hb dL_law_872 rfl (lv_at hl 3 rfl) ?_
  refine lv_iconst (v := 1) hx hb dL_law_873 (by decide) ?_
  refine lv_iadd hx hb dL_law_874 ?_
  refine va_sld hx hb hXs hbl hbA hS h_1 dL_law_875 ?_
  obtain ⟨r, nInow, nVnow, nIact, I', V', q1, q2, hRel2⟩ := S SI SV LaI LaV LsI LsV I V (xs ((nI j) + 1).toNatClampNeg) hRel 
  have hPc := subB (bs := lwW cs o hX hs laa lah lsa lsh mo mh SI SV LaI LaV LsI LsV I V) (ca := [w_X cs o hX (SI 99) (SV 99), w_Slt cs (hX 3) (hs 3) lsa (SI 3) (SV 3), w_Led cs (hX 1) (hs 1) (SI 1) (SV 1), w_Pool cs lsa lsh LsI LsV 2, w_Act cs (hX 2) (hs 2) laa (SI 2) (SV 2)]) (ra := [w_Txt cs (hX 0) (hs 0) (SI 0) (SV 0), w_Pool cs laa lah LaI LaV 10, w_Day cs (hX 4) (hs 4) (SI 4) (SV 4), w_Set cs (hX 5) (hs 5) (SI 5) (SV 5), w_Rng cs (hX 6) (hs 6) (SI 6) (SV 6), w_Lnd cs (hX 7) (hs 7) (SI 7) (SV 7), w_Crd cs (hX 8) (hs 8) (SI 8) (SV 8), w_M cs mo mh I V]) [0, 5, 2, 6, 3, 1, 4, 7, 8, 9, 10, 11, 12] (by decide) rfl rfl hP
  have wX := cwV (R := room_1) (s := s) (args := #[Value.ref b]) (rm := rm_X_again) (mc := 0) (ms := 0) 1 hts gL_law_X9_again rfl rfl rfl (by decide +kernel) ⟨Nat.le_of_ble_eq_true rfl, Nat.le_of_ble_eq_true rfl⟩
  have hDc := subD (bs := lwW cs o hX hs laa lah lsa lsh mo mh SI SV LaI LaV LsI LsV I V) (ca := [w_X cs o hX (SI 99) (SV 99), w_Slt cs (hX 3) (hs 3) lsa (SI 3) (SV 3), w_Led cs (hX 1) (hs 1) (SI 1) (SV 1), w_Pool cs lsa lsh LsI LsV 2, w_Act cs (hX 2) (hs 2) laa (SI 2) (SV 2)]) (ra := [w_Txt cs (hX 0) (hs 0) (SI 0) (SV 0), w_Pool cs laa lah LaI LaV 10, w_Day cs (hX 4) (hs 4) (SI 4) (SV 4), w_Set cs (hX 5) (hs 5) (SI 5) (SV 5), w_Rng cs (hX 6) (hs 6) (SI 6) (SV 6), w_Lnd cs (hX 7) (hs 7) (SI 7) (SV 7), w_Crd cs (hX 8) (hs 8) (SI 8) (SV 8), w_M cs mo mh I V]) [0, 5, 2, 6, 3, 1, 4, 7, 8, 9, 10, 11, 12] (by decide) rfl rfl hD
  have hFc := xfree hDc hS hA
  refine va_calli (va_runV (As := [.int (xs ((nI j) + 1).toNatClampNeg)]) (rest := []) ⟨hx, hb, hml, hown, hts⟩ (c_X_again l D cs o hX (hs 3) lsa (hs 1) lsh (hs 2) laa _ (SI 99) (SV 99) (SI 3) (SV 3) (SI 1) (SV 1) LsI LsV (SI 2) (SV 2) (xs ((nI j) + 1).toNatClampNeg) f _ q1) wX ⟨yP_moved, va_recv hK hPc (ci := 9) (q0 := 0) rfl rfl, fun U hU hW => ⟨rfl, by rw [hU], by rw [hU]; exact hPc, va_K.moved hW.alike hK, yN_warm hW hN, hDc.weaken (fun _ _ _ _ => trivial)⟩⟩ rfl rfl hl.1 rfl (lv_room (Nat.le_of_ble_eq_true rfl)) dL_law_876 ⟨Nat.le_of_ble_eq_true rfl, Nat.le_of_ble_eq_true rfl⟩) hS (fun q _ h9 => hFc q h9) hFc (fun r0 u t H1 locs ht hvm hw hB hz1 hk1 hS => ?_)
  have er0 := congrArg Prod.fst hw
  have eu := congrArg Prod.snd hw
  dsimp only at er0 eu
  rw [er0]
  rw [eu] at hB
  obtain ⟨hP1, hK1, hD1⟩ := hB
  rw [ht] at hP1
  obtain ⟨hP, hD⟩ := joinB (bs := lwW cs o hX hs laa lah lsa lsh mo mh SI SV LaI LaV LsI LsV I V) (ca := [w_X cs o hX (SI 99) (SV 99), w_Slt cs (hX 3) (hs 3) lsa (SI 3) (SV 3), w_Led cs (hX 1) (hs 1) (SI 1) (SV 1), w_Pool cs lsa lsh LsI LsV 2, w_Act cs (hX 2) (hs 2) laa (SI 2) (SV 2)]) (ra := [w_Txt cs (hX 0) (hs 0) (SI 0) (SV 0), w_Pool cs laa lah LaI LaV 10, w_Day cs (hX 4) (hs 4) (SI 4) (SV 4), w_Set cs (hX 5) (hs 5) (SI 5) (SV 5), w_Rng cs (hX 6) (hs 6) (SI 6) (SV 6), w_Lnd cs (hX 7) (hs 7) (SI 7) (SV 7), w_Crd cs (hX 8) (hs 8) (SI 8) (SV 8), w_M cs mo mh I V]) [0, 5, 2, 6, 3, 1, 4, 7, 8, 9, 10, 11, 12] (by decide) rfl rfl hP hD hk1 hFc (cb := [w_X cs o hX (SI 99) (SV 99), w_Slt cs (hX 3) (hs 3) lsa (SI 3) (SV 3), w_Led cs (hX 1) (hs 1) nInow nVnow, w_Pool cs lsa lsh LsI LsV 2, w_Act cs (hX 2) (hs 2) laa nIact (SV 2)]) hP1 hD1 (be := lwW cs o hX hs laa lah lsa lsh mo mh (va_up (va_up SI 1 nInow) 2 nIact) (va_up SV 1 nVnow) LaI LaV LsI LsV I V) [0, 5, 2, 4, 6, 1, 3, 7, 8, 9, 10, 11, 12] (by decide) rfl rfl
  refine lv_aload_n hx hb dL_law_879 rfl (lv_at hl 2 rfl) ?_
  refine lv_aload_n hx hb dL_law_880 rfl (lv_at hl 0 rfl) ?_
  refine lv_iload_n hx hb dL_law_881 rfl (lv_at hl 3 rfl) ?_
  refine lv_iconst (v := 1) hx hb dL_law_882 (by decide) ?_
  refine lv_iadd hx hb dL_law_883 ?_
  refine va_sld hx hb hXs hbl hbA hS h_1 dL_law_884 ?_
  have hPm := subB (bs := lwW cs o hX hs laa lah lsa lsh mo mh (va_up (va_up SI 1 nInow) 2 nIact) (va_up SV 1 nVnow) LaI LaV LsI LsV I V) (ca := [w_M cs mo mh I V]) (ra := [w_X cs o hX (SI 99) (SV 99), w_Txt cs (hX 0) (hs 0) (SI 0) (SV 0), w_Led cs (hX 1) (hs 1) nInow nVnow, w_Act cs (hX 2) (hs 2) laa nIact (SV 2), w_Pool cs laa lah LaI LaV 10, w_Slt cs (hX 3) (hs 3) lsa (SI 3) (SV 3), w_Pool cs lsa lsh LsI LsV 2, w_Day cs (hX 4) (hs 4) (SI 4) (SV 4), w_Set cs (hX 5) (hs 5) (SI 5) (SV 5), w_Rng cs (hX 6) (hs 6) (SI 6) (SV 6), w_Lnd cs (hX 7) (hs 7) (SI 7) (SV 7), w_Crd cs (hX 8) (hs 8) (SI 8) (SV 8)]) [12, 0, 1, 2, 3, 4, 5, 6, 7, 8, 9, 10, 11] (by decide) rfl rfl hP
  have hDm := subD (bs := lwW cs o hX hs laa lah lsa lsh mo mh (va_up (va_up SI 1 nInow) 2 nIact) (va_up SV 1 nVnow) LaI LaV LsI LsV I V) (ca := [w_M cs mo mh I V]) (ra := [w_X cs o hX (SI 99) (SV 99), w_Txt cs (hX 0) (hs 0) (SI 0) (SV 0), w_Led cs (hX 1) (hs 1) nInow nVnow, w_Act cs (hX 2) (hs 2) laa nIact (SV 2), w_Pool cs laa lah LaI LaV 10, w_Slt cs (hX 3) (hs 3) lsa (SI 3) (SV 3), w_Pool cs lsa lsh LsI LsV 2, w_Day cs (hX 4) (hs 4) (SI 4) (SV 4), w_Set cs (hX 5) (hs 5) (SI 5) (SV 5), w_Rng cs (hX 6) (hs 6) (SI 6) (SV 6), w_Lnd cs (hX 7) (hs 7) (SI 7) (SV 7), w_Crd cs (hX 8) (hs 8) (SI 8) (SV 8)]) [12, 0, 1, 2, 3, 4, 5, 6, 7, 8, 9, 10, 11] (by decide) rfl rfl hD
  have hPm : va_P D vwCl (w_M cs mo mh I V) _ := hPm
  have hDm : va_D (fun q : Nat => s.heap.size ≤ q) (w_M cs mo mh I V) := hDm
  have hFm := xfree hDm hS hA
  have wM := cwV (R := room_1) (s := s) (args := #[Value.ref b]) (rm := rm_M_again) (mc := 0) (ms := 0) 1 hts gL_law_X10_again rfl rfl rfl (by decide +kernel) ⟨Nat.le_of_ble_eq_true rfl, Nat.le_of_ble_eq_true rfl⟩
  refine va_calli (va_runV (As := [.int (xs ((nI j) + 1).toNatClampNeg)]) (rest := [.int r]) ⟨hx, hb, hml, hown, hts⟩ (c_M_again l D cs mo mh _ I V (xs ((nI j) + 1).toNatClampNeg) f _ q2) wM ⟨xP_moved, va_recv hK hPm (ci := 10) (q0 := 0) rfl rfl, fun U hU hW => ⟨rfl, by rw [hU], by rw [hU]; exact hPm, va_K.moved hW.alike hK, hDm.weaken (fun _ _ _ _ => trivial)⟩⟩ rfl rfl hl.1 rfl (lv_room (Nat.le_of_ble_eq_true rfl)) dL_law_885 ⟨Nat.le_of_ble_eq_true rfl, Nat.le_of_ble_eq_true rfl⟩) hS (fun q _ h9 => hFm q h9) hFm (fun r0 u t H1 locs ht hvm hw hB hz1 hk1 hS => ?_)
  have er0 := congrArg Prod.fst hw
  have eu := congrArg Prod.snd hw
  dsimp only at er0 eu
  rw [er0]
  rw [eu] at hB
  obtain ⟨hP1, hK1, hD1⟩ := hB
  rw [ht] at hP1
  have hP1 : va_P D vwCl (List.flatten [w_M cs mo mh I' V']) _ := hP1
  have hD1 : va_D (va_A (List.flatten [w_M cs mo mh I V]) _) (List.flatten [w_M cs mo mh I' V']) := hD1
  obtain ⟨hP, hD⟩ := joinB (bs := lwW cs o hX hs laa lah lsa lsh mo mh (va_up (va_up SI 1 nInow) 2 nIact) (va_up SV 1 nVnow) LaI LaV LsI LsV I V) (ca := [w_M cs mo mh I V]) (ra := [w_X cs o hX (SI 99) (SV 99), w_Txt cs (hX 0) (hs 0) (SI 0) (SV 0), w_Led cs (hX 1) (hs 1) nInow nVnow, w_Act cs (hX 2) (hs 2) laa nIact (SV 2), w_Pool cs laa lah LaI LaV 10, w_Slt cs (hX 3) (hs 3) lsa (SI 3) (SV 3), w_Pool cs lsa lsh LsI LsV 2, w_Day cs (hX 4) (hs 4) (SI 4) (SV 4), w_Set cs (hX 5) (hs 5) (SI 5) (SV 5), w_Rng cs (hX 6) (hs 6) (SI 6) (SV 6), w_Lnd cs (hX 7) (hs 7) (SI 7) (SV 7), w_Crd cs (hX 8) (hs 8) (SI 8) (SV 8)]) [12, 0, 1, 2, 3, 4, 5, 6, 7, 8, 9, 10, 11] (by decide) rfl rfl hP hD hk1 hFm (cb := [w_M cs mo mh I' V']) hP1 hD1 (be := lwW cs o hX hs laa lah lsa lsh mo mh (va_up (va_up SI 1 nInow) 2 nIact) (va_up SV 1 nVnow) LaI LaV LsI LsV I' V') [1, 2, 3, 4, 5, 6, 7, 8, 9, 10, 11, 12, 0] (by decide) rfl rfl
  refine lv_icmp_eq (tgt := 893) hx hb dL_law_888 (by decide) (fun _ => ?_) (fun c9 => absurd rfl c9)
  exact K (va_up (va_up SI 1 nInow) 2 nIact) (va_up SV 1 nVnow) LaI LaV LsI LsV I' V' hRel2 _ _ hP hD hS _ hl

