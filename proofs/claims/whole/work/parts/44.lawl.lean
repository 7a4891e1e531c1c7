set_option maxHeartbeats 4000000 in
set_option maxRecDepth 100000 in
theorem law_loop {Rel : (Nat → FI) → (Nat → FV) → (Nat → FI) → (Nat → FV) → (Nat → FI) → (Nat → FV) → FI → FV → Prop} {f : Nat} (S_write : Sim_write Rel f) (S_wipe : Sim_wipe Rel f) (S_fault : Sim_fault Rel f) (S_book : Sim_book Rel f) (S_about : Sim_about Rel f) (S_person : Sim_person Rel f) (S_debt : Sim_debt Rel f) (S_ask : Sim_ask Rel f) (S_lend : Sim_lend Rel f) (S_week : Sim_week Rel f) (S_heirs : Sim_heirs Rel f) (S_jubilee : Sim_jubilee Rel f) (S_undo : Sim_undo Rel f) (S_fewest : Sim_fewest Rel f) (S_falls : Sim_falls Rel f) (S_ring : Sim_ring Rel f) (S_room : Sim_room Rel f) (S_wish : Sim_wish Rel f) (S_wishBy : Sim_wishBy Rel f) (S_run : Sim_run Rel f) (S_enough : Sim_enough Rel f) (S_day : Sim_day Rel f) (S_forget : Sim_forget Rel f) (S_cheats : Sim_cheats Rel f) (S_keep : Sim_keep Rel f) (S_again : Sim_again Rel f) {p : Program} {l : Launch} {e : Env} {s : State} {m : MethodId} {below : List Frame} {meth : Method} {c : Code} {b L : Nat} {xs : Nat → Int32} {D : va_G} {cs : Nat → ClassId} {o : Nat} {hX : Nat → Nat} {hs : Nat → Nat → Nat} {laa : Nat → Nat} {lah : Nat → Nat → Nat} {lsa : Nat → Nat} {lsh : Nat → Nat → Nat} {mo : Nat} {mh : Nat → Nat} (hx : p.tables.exec = Jvm.exec) (hb : c.code = code) (hml : c.maxLocals = 4) (hown : s.vm.findClass RL = some m.cls) (hts : ∀ w ∈ wsL_law, w.before #[Value.ref b] s = true) (hXs : va_X b L xs s s.heap) (hbl : b < s.heap.size) (hK : va_K D vwCl (tyA cs) s) (hN : yN s) (hr : meth.sig.returnType = ret) (hlocks : meth.locks = false) (hL : L ≤ 2560) : ∀ (n j : Nat), j ≤ L → L < j + 5 * n → ∀ (SI : Nat → FI) (SV : Nat → FV) (LaI : Nat → FI) (LaV : Nat → FV) (LsI : Nat → FI) (LsV : Nat → FV) (I : FI) (V : FV), Rel SI SV LaI LaV LsI LsV I V → ∀ (H : Heap) (locs : List Loc), va_P D vwCl (List.flatten (lwW cs o hX hs laa lah lsa lsh mo mh SI SV LaI LaV LsI LsV I V)) H → va_D (fun q : Nat => s.heap.size ≤ q) (List.flatten (lwW cs o hX hs laa lah lsa lsh mo mh SI SV LaI LaV LsI LsV I V)) → va_S (fun q : Nat => s.heap.size ≤ q) s.heap H locs → ∀ ls : Array Slot, lv_has ls 4 [(0, .ref b), (1, .ref o), (2, .ref mo), (3, .int (nI j))] → W p l e room_1 s m #[Value.ref b] below meth c H locs 149 4007 (lw_Z below #[Value.ref b] s) (F0 m 18 ls []) := by
  have hA : ∀ q : Nat, s.heap.size ≤ q → (fun q : Nat => s.heap.size ≤ q) q := fun _ h => h
  have hbA : ¬ (fun q : Nat => s.heap.size ≤ q) b := Nat.not_le.mpr hbl
  intro n
  induction n with
  | zero => intro j h1 h2; omega
  | succ n ih =>
    intro j hjL hn SI SV LaI LaV LsI LsV I V hRel H locs hP hD hS ls hl
    refine lv_iload_n hx hb dL_law_18 rfl (lv_at hl 3 rfl) ?_
    refine lv_aload_n hx hb dL_law_19 rfl (lv_at hl 0 rfl) ?_
    refine va_slen hx hb hXs hbl hbA hS dL_law_20 ?_
    refine lv_iconst (v := 5) hx hb dL_law_21 (by decide) ?_
    refine lv_isub hx hb dL_law_22 ?_
    have e5 : ((Int32.ofNat L - 5 : Int32)).toInt = (L : Int) - 5 := pk_sub_toInt (a := L) (b := 5) (by omega) (by decide)
    have ej : (nI j).toInt = (j : Int) := nI_toInt (by omega)
    refine lv_icmp_gt (tgt := 899) hx hb dL_law_23 (by decide) (fun c9 => ?_) (fun c9 => ?_)
    · refine lv_iconst (v := 1) hx hb dL_law_899 (by decide) ?_
      refine va_forget (fun q hq => hS.2.2 q hq) ?_
      refine W.widen (k := 600000) (n := 7302250) (by decide) (by decide) ?_
      exact lw_ret hx hb hr hlocks dL_law_900
    · have hj5 : j + 5 ≤ L := by
        rw [Int32.lt_iff_toInt_lt, e5, ej] at c9
        omega
      have h_0 : vp_in (nI j) L := vp_in_nI (by omega) (by omega)
      have K : ∀ (SI : Nat → FI) (SV : Nat → FV) (LaI : Nat → FI) (LaV : Nat → FV) (LsI : Nat → FI) (LsV : Nat → FV) (I : FI) (V : FV), Rel SI SV LaI LaV LsI LsV I V → ∀ (H : Heap) (locs : List Loc), va_P D vwCl (List.flatten (lwW cs o hX hs laa lah lsa lsh mo mh SI SV LaI LaV LsI LsV I V)) H → va_D (fun q : Nat => s.heap.size ≤ q) (List.flatten (lwW cs o hX hs laa lah lsa lsh mo mh SI SV LaI LaV LsI LsV I V)) → va_S (fun q : Nat => s.heap.size ≤ q) s.heap H locs → ∀ ls : Array Slot, lv_has ls 4 [(0, .ref b), (1, .ref o), (2, .ref mo), (3, .int (nI j))] → W p l e room_1 s m #[Value.ref b] below meth c H locs 149 4007 (lw_Z below #[Value.ref b] s) (F0 m 893 ls []) := by
        intro SI SV LaI LaV LsI LsV I V hRel H locs hP hD hS ls hl
        refine lv_iinc (v := nI (j + 5)) (lv' := [(3, .int (nI (j + 5))), (0, .ref b), (1, .ref o), (2, .ref mo)]) hx hb dL_law_893 hl (k := 3) rfl (nI_add j 5) (by decide) rfl (fun ls hl => ?_)
        refine lv_goto (tgt := 18) hx hb dL_law_896 (by decide) ?_
        exact ih (j + 5) hj5 (by omega) SI SV LaI LaV LsI LsV I V hRel H locs hP hD hS _ (lv_sub hl [1, 2, 3, 0] rfl)
      refine lv_aload_n hx hb dL_law_26 rfl (lv_at hl 0 rfl) ?_
      refine lv_iload_n hx hb dL_law_27 rfl (lv_at hl 3 rfl) ?_
      refine va_sld hx hb hXs hbl hbA hS h_0 dL_law_28 ?_
      refine lv_bipush (v := 31) hx hb dL_law_29 (by decide) ?_
      refine lv_iand hx hb dL_law_31 ?_
      refine lv_topi (fun v ev => ?_)
      by_cases c_0 : v = 0
      · refine lv_tableIn (tgt := 152) hx hb dL_law_32 (by rw [c_0]; decide) (by rw [c_0]; decide) (by rw [c_0]; rfl) (by decide) ?_
        exact law_write S_write hx hb hml hown hts hXs hbl hK hN hj5 hL SI SV LaI LaV LsI LsV I V hRel H locs hP hD hS _ hl K
      by_cases c_1 : v = 1
      · refine lv_tableIn (tgt := 215) hx hb dL_law_32 (by rw [c_1]; decide) (by rw [c_1]; decide) (by rw [c_1]; rfl) (by decide) ?_
        exact law_wipe S_wipe hx hb hml hown hts hXs hbl hK hN hj5 hL SI SV LaI LaV LsI LsV I V hRel H locs hP hD hS _ hl K
      by_cases c_2 : v = 2
      · refine lv_tableIn (tgt := 228) hx hb dL_law_32 (by rw [c_2]; decide) (by rw [c_2]; decide) (by rw [c_2]; rfl) (by decide) ?_
        exact law_fault S_fault hx hb hml hown hts hXs hbl hK hN hj5 hL SI SV LaI LaV LsI LsV I V hRel H locs hP hD hS _ hl K
      by_cases c_3 : v = 3
      · refine lv_tableIn (tgt := 241) hx hb dL_law_32 (by rw [c_3]; decide) (by rw [c_3]; decide) (by rw [c_3]; rfl) (by decide) ?_
        exact law_book S_book hx hb hml hown hts hXs hbl hK hN hj5 hL SI SV LaI LaV LsI LsV I V hRel H locs hP hD hS _ hl K
      by_cases c_4 : v = 4
      · refine lv_tableIn (tgt := 254) hx hb dL_law_32 (by rw [c_4]; decide) (by rw [c_4]; decide) (by rw [c_4]; rfl) (by decide) ?_
        exact law_about S_about hx hb hml hown hts hXs hbl hK hN hj5 hL SI SV LaI LaV LsI LsV I V hRel H locs hP hD hS _ hl K
      by_cases c_5 : v = 5
      · refine lv_tableIn (tgt := 277) hx hb dL_law_32 (by rw [c_5]; decide) (by rw [c_5]; decide) (by rw [c_5]; rfl) (by decide) ?_
        exact law_person S_person hx hb hml hown hts hXs hbl hK hN hj5 hL SI SV LaI LaV LsI LsV I V hRel H locs hP hD hS _ hl K
      by_cases c_6 : v = 6
      · refine lv_tableIn (tgt := 310) hx hb dL_law_32 (by rw [c_6]; decide) (by rw [c_6]; decide) (by rw [c_6]; rfl) (by decide) ?_
        exact law_debt S_debt hx hb hml hown hts hXs hbl hK hN hj5 hL SI SV LaI LaV LsI LsV I V hRel H locs hP hD hS _ hl K
      by_cases c_7 : v = 7
      · refine lv_tableIn (tgt := 343) hx hb dL_law_32 (by rw [c_7]; decide) (by rw [c_7]; decide) (by rw [c_7]; rfl) (by decide) ?_
        exact law_ask S_ask hx hb hml hown hts hXs hbl hK hN hj5 hL SI SV LaI LaV LsI LsV I V hRel H locs hP hD hS _ hl K
      by_cases c_8 : v = 8
      · refine lv_tableIn (tgt := 376) hx hb dL_law_32 (by rw [c_8]; decide) (by rw [c_8]; decide) (by rw [c_8]; rfl) (by decide) ?_
        exact law_lend S_lend hx hb hml hown hts hXs hbl hK hN hj5 hL SI SV LaI LaV LsI LsV I V hRel H locs hP hD hS _ hl K
      by_cases c_9 : v = 9
      · refine lv_tableIn (tgt := 429) hx hb dL_law_32 (by rw [c_9]; decide) (by rw [c_9]; decide) (by rw [c_9]; rfl) (by decide) ?_
        exact law_week S_week hx hb hml hown hts hXs hbl hK hN hj5 hL SI SV LaI LaV LsI LsV I V hRel H locs hP hD hS _ hl K
      by_cases c_10 : v = 10
      · refine lv_tableIn (tgt := 442) hx hb dL_law_32 (by rw [c_10]; decide) (by rw [c_10]; decide) (by rw [c_10]; rfl) (by decide) ?_
        exact law_heirs S_heirs hx hb hml hown hts hXs hbl hK hN hj5 hL SI SV LaI LaV LsI LsV I V hRel H locs hP hD hS _ hl K
      by_cases c_11 : v = 11
      · refine lv_tableIn (tgt := 475) hx hb dL_law_32 (by rw [c_11]; decide) (by rw [c_11]; decide) (by rw [c_11]; rfl) (by decide) ?_
        exact law_jubilee S_jubilee hx hb hml hown hts hXs hbl hK hN hj5 hL SI SV LaI LaV LsI LsV I V hRel H locs hP hD hS _ hl K
      by_cases c_12 : v = 12
      · refine lv_tableIn (tgt := 488) hx hb dL_law_32 (by rw [c_12]; decide) (by rw [c_12]; decide) (by rw [c_12]; rfl) (by decide) ?_
        exact law_undo S_undo hx hb hml hown hts hXs hbl hK hN hj5 hL SI SV LaI LaV LsI LsV I V hRel H locs hP hD hS _ hl K
      by_cases c_13 : v = 13
      · refine lv_tableIn (tgt := 501) hx hb dL_law_32 (by rw [c_13]; decide) (by rw [c_13]; decide) (by rw [c_13]; rfl) (by decide) ?_
        exact law_fewest S_fewest hx hb hml hown hts hXs hbl hK hN hj5 hL SI SV LaI LaV LsI LsV I V hRel H locs hP hD hS _ hl K
      by_cases c_14 : v = 14
      · refine lv_tableIn (tgt := 514) hx hb dL_law_32 (by rw [c_14]; decide) (by rw [c_14]; decide) (by rw [c_14]; rfl) (by decide) ?_
        exact law_falls S_falls hx hb hml hown hts hXs hbl hK hN hj5 hL SI SV LaI LaV LsI LsV I V hRel H locs hP hD hS _ hl K
      by_cases c_15 : v = 15
      · refine lv_tableIn (tgt := 537) hx hb dL_law_32 (by rw [c_15]; decide) (by rw [c_15]; decide) (by rw [c_15]; rfl) (by decide) ?_
        exact law_ring S_ring hx hb hml hown hts hXs hbl hK hN hj5 hL SI SV LaI LaV LsI LsV I V hRel H locs hP hD hS _ hl K
      by_cases c_16 : v = 16
      · refine lv_tableIn (tgt := 560) hx hb dL_law_32 (by rw [c_16]; decide) (by rw [c_16]; decide) (by rw [c_16]; rfl) (by decide) ?_
        exact law_room S_room hx hb hml hown hts hXs hbl hK hN hj5 hL SI SV LaI LaV LsI LsV I V hRel H locs hP hD hS _ hl K
      by_cases c_17 : v = 17
      · refine lv_tableIn (tgt := 583) hx hb dL_law_32 (by rw [c_17]; decide) (by rw [c_17]; decide) (by rw [c_17]; rfl) (by decide) ?_
        exact law_wish S_wish hx hb hml hown hts hXs hbl hK hN hj5 hL SI SV LaI LaV LsI LsV I V hRel H locs hP hD hS _ hl K
      by_cases c_18 : v = 18
      · refine lv_tableIn (tgt := 616) hx hb dL_law_32 (by rw [c_18]; decide) (by rw [c_18]; decide) (by rw [c_18]; rfl) (by decide) ?_
        exact law_wishBy S_wishBy hx hb hml hown hts hXs hbl hK hN hj5 hL SI SV LaI LaV LsI LsV I V hRel H locs hP hD hS _ hl K
      by_cases c_19 : v = 19
      · refine lv_tableIn (tgt := 659) hx hb dL_law_32 (by rw [c_19]; decide) (by rw [c_19]; decide) (by rw [c_19]; rfl) (by decide) ?_
        exact law_run S_run hx hb hml hown hts hXs hbl hK hN hj5 hL SI SV LaI LaV LsI LsV I V hRel H locs hP hD hS _ hl K
      by_cases c_20 : v = 20
      · refine lv_tableIn (tgt := 719) hx hb dL_law_32 (by rw [c_20]; decide) (by rw [c_20]; decide) (by rw [c_20]; rfl) (by decide) ?_
        exact law_enough S_enough hx hb hml hown hts hXs hbl hK hN hj5 hL SI SV LaI LaV LsI LsV I V hRel H locs hP hD hS _ hl K
      by_cases c_21 : v = 21
      · refine lv_tableIn (tgt := 762) hx hb dL_law_32 (by rw [c_21]; decide) (by rw [c_21]; decide) (by rw [c_21]; rfl) (by decide) ?_
        exact law_day S_day hx hb hml hown hts hXs hbl hK hN hj5 hL SI SV LaI LaV LsI LsV I V hRel H locs hP hD hS _ hl K
      by_cases c_22 : v = 22
      · refine lv_tableIn (tgt := 821) hx hb dL_law_32 (by rw [c_22]; decide) (by rw [c_22]; decide) (by rw [c_22]; rfl) (by decide) ?_
        exact law_forget S_forget hx hb hml hown hts hXs hbl hK hN hj5 hL SI SV LaI LaV LsI LsV I V hRel H locs hP hD hS _ hl K
      by_cases c_23 : v = 23
      · refine lv_tableIn (tgt := 834) hx hb dL_law_32 (by rw [c_23]; decide) (by rw [c_23]; decide) (by rw [c_23]; rfl) (by decide) ?_
        exact law_cheats S_cheats hx hb hml hown hts hXs hbl hK hN hj5 hL SI SV LaI LaV LsI LsV I V hRel H locs hP hD hS _ hl K
      by_cases c_24 : v = 24
      · refine lv_tableIn (tgt := 847) hx hb dL_law_32 (by rw [c_24]; decide) (by rw [c_24]; decide) (by rw [c_24]; rfl) (by decide) ?_
        exact law_keep S_keep hx hb hml hown hts hXs hbl hK hN hj5 hL SI SV LaI LaV LsI LsV I V hRel H locs hP hD hS _ hl K
      by_cases c_25 : v = 25
      · refine lv_tableIn (tgt := 870) hx hb dL_law_32 (by rw [c_25]; decide) (by rw [c_25]; decide) (by rw [c_25]; rfl) (by decide) ?_
        exact law_again S_again hx hb hml hown hts hXs hbl hK hN hj5 hL SI SV LaI LaV LsI LsV I V hRel H locs hP hD hS _ hl K
      refine lv_tableOut (tgt := 893) hx hb dL_law_32 (by have nc_0 := lv_neT (a := 0) c_0 rfl; have nc_1 := lv_neT (a := 1) c_1 rfl; have nc_2 := lv_neT (a := 2) c_2 rfl; have nc_3 := lv_neT (a := 3) c_3 rfl; have nc_4 := lv_neT (a := 4) c_4 rfl; have nc_5 := lv_neT (a := 5) c_5 rfl; have nc_6 := lv_neT (a := 6) c_6 rfl; have nc_7 := lv_neT (a := 7) c_7 rfl; have nc_8 := lv_neT (a := 8) c_8 rfl; have nc_9 := lv_neT (a := 9) c_9 rfl; have nc_10 := lv_neT (a := 10) c_10 rfl; have nc_11 := lv_neT (a := 11) c_11 rfl; have nc_12 := lv_neT (a := 12) c_12 rfl; have nc_13 := lv_neT (a := 13) c_13 rfl; have nc_14 := lv_neT (a := 14) c_14 rfl; have nc_15 := lv_neT (a := 15) c_15 rfl; have nc_16 := lv_neT (a := 16) c_16 rfl; have nc_17 := lv_neT (a := 17) c_17 rfl; have nc_18 := lv_neT (a := 18) c_18 rfl; have nc_19 := lv_neT (a := 19) c_19 rfl; have nc_20 := lv_neT (a := 20) c_20 rfl; have nc_21 := lv_neT (a := 21) c_21 rfl; have nc_22 := lv_neT (a := 22) c_22 rfl; have nc_23 := lv_neT (a := 23) c_23 rfl; have nc_24 := lv_neT (a := 24) c_24 rfl; have nc_25 := lv_neT (a := 25) c_25 rfl; omega) (by decide) ?_
      exact K SI SV LaI LaV LsI LsV I V hRel H locs hP hD hS _ hl
