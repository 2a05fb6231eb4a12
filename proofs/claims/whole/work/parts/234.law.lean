set_option maxHeartbeats 4000000 in
set_option maxRecDepth 100000 in
theorem eS_13_cellW (g : eh_P) (w : eh_W) (s : eh_F) (p1 : Int32) : eh_Sim g eM_13_cell (eh_R 1 0 0) (fun v => (some (.int v), w)) 0 0 0 (eh_en 2 [.ref (eh_SB + 4), .int p1]) [] w (eF_13_cell g s p1) := by
  unfold eF_13_cell
  refine ef_top (L := [some (.ref (eh_SB + 4)), some (.int p1)]) rfl ?_
  refine es_blk (pc' := 2) (L' := [some (.ref (eh_SB + 4)), some (.int p1)]) (st' := [.ref (eh_SB + 4), .int p1]) [(.iload_n 1, 0), (.aload_n 0, 0)] (by decide +kernel) rfl rfl ?_
  refine er_xlenS (by decide +kernel) ?_
  refine ef_J (X := fun j1 => ∀ (a2 : Int32), eh_Sim g eM_13_cell (eh_R 1 0 0) (fun v => (some (.int v), w)) 0 0 13 [none, none] [.int a2] w ((j1 a2).bind some)) ?_ (fun j1 Hj1 => ?_)
  · intro a2
    exact es_ret rfl rfl rfl ⟨by decide +kernel, _, rfl, rfl⟩ (Nat.le_refl _) (Nat.le_refl _)
  refine es_ige (tgt := 12) (off := (9)) (by decide +kernel) (by decide) (fun h3 => ?_) (fun h3 => ?_)
  · refine es_blk (pc' := 8) (L' := [some (.ref (eh_SB + 4)), some (.int p1)]) (st' := [.int p1, .ref (eh_SB + 4)]) [(.aload_n 0, 0), (.iload_n 1, 0)] (by decide +kernel) rfl rfl ?_
    refine ef_xld (by decide +kernel) (fun _ => ?_)
    refine es_goto (tgt := 13) (off := (4)) (by decide +kernel) (by decide) ?_
    refine ef_drop (L2 := [none, none]) [false, false] rfl rfl ?_
    exact Hj1 _
  refine es_blk (pc' := 13) (L' := [some (.ref (eh_SB + 4)), some (.int p1)]) (st' := [.int 0]) [(.iconst 0, 0)] (by decide +kernel) rfl rfl ?_
  refine ef_drop (L2 := [none, none]) [false, false] rfl rfl ?_
  exact Hj1 _
set_option maxHeartbeats 4000000 in
set_option maxRecDepth 100000 in
theorem eB_loop (g : eh_P) (s : eh_F) : eh_Sim g eM_13_law room_1 eh_eI 600000 7302250 28 [some (.ref (eh_SB + 4)), some (.ref 0), some (.ref 127), some (.int 1)] [] (eh_FW s) (eb_loop g s) := by
  unfold eb_loop
  refine ef_top (L := [some (.ref (eh_SB + 4)), some (.ref 0), some (.ref 127), some (.int 1)]) rfl ?_
  refine ef_loopR (n := eh_FU) (i := (1, s)) (px := 1112) (fun (t1 : Int32 × eh_F) => [some (.ref (eh_SB + 4)), some (.ref 0), some (.ref 127), some (.int t1.1)]) (fun (t1 : Int32 × eh_F) => []) (fun (t1 : Int32 × eh_F) => eh_FW t1.2) (fun (e2 : eh_F) => [none, none, none, none]) (fun (e2 : eh_F) => []) (fun (e2 : eh_F) => eh_FW e2) (fun e2 => ?_) (fun K3 Hret HxK3_0 r4 Hr4 t1 => ?_)
  · refine es_blk (pc' := 1113) (L' := [none, none, none, none]) (st' := [.int 1]) [(.iconst 1, 1)] (by decide +kernel) rfl rfl ?_
    exact es_ret rfl rfl rfl ⟨by decide +kernel, _, rfl, eh_narZ (Or.inr rfl)⟩ (Nat.le_refl _) (Nat.le_refl _)
  · refine es_blk (pc' := 30) (L' := [some (.ref (eh_SB + 4)), some (.ref 0), some (.ref 127), some (.int t1.1)]) (st' := [.ref (eh_SB + 4), .int t1.1]) [(.iload_n 3, 0), (.aload_n 0, 0)] (by decide +kernel) rfl rfl ?_
    refine er_xlenS (by decide +kernel) ?_
    refine es_blk (pc' := 34) (L' := [some (.ref (eh_SB + 4)), some (.ref 0), some (.ref 127), some (.int t1.1)]) (st' := [.int ((Int32.ofNat (eh_n g)) - 7), .int t1.1]) [(.bipush 7, 7), (.isub, 0)] (by decide +kernel) rfl rfl ?_
    refine es_igt (tgt := 1112) (off := (1078)) (by decide +kernel) (by decide) (fun h5 => ?_) (fun h5 => ?_)
    · refine ef_drop (L2 := [none, none, none, none]) [false, false, false, false] rfl rfl ?_
      exact HxK3_0 t1.2
    refine es_blk (pc' := 39) (L' := [some (.ref (eh_SB + 4)), some (.ref 0), some (.ref 127), some (.int t1.1)]) (st' := [.int t1.1, .ref (eh_SB + 4)]) [(.aload_n 0, 0), (.iload_n 3, 0)] (by decide +kernel) rfl rfl ?_
    refine ef_xld (by decide +kernel) (fun _ => ?_)
    refine es_blk (pc' := 43) (L' := [some (.ref (eh_SB + 4)), some (.ref 0), some (.ref 127), some (.int t1.1)]) (st' := [.int ((eh_x g (eh_ix t1.1)) &&& 31)]) [(.bipush 31, 31), (.iand, 0)] (by decide +kernel) rfl rfl ?_
    refine ef_V (fun _ => [some (.ref (eh_SB + 4)), some (.ref 0), some (.ref 127), some (.int t1.1)]) (fun x6 => [.int x6]) (fun _ => eh_FW t1.2) (fun x6 => ?_)
    refine ef_J (X := fun j7 => ∀ (s8 : eh_F), eh_Sim g eM_13_law room_1 eh_eI 600000 7302250 1106 [some (.ref (eh_SB + 4)), some (.ref 0), some (.ref 127), some (.int t1.1)] [] (eh_FW s8) ((j7 s8).bind K3)) ?_ (fun j7 Hj7 => ?_)
    · intro s8
      refine es_blk (pc' := 1109) (L' := [some (.ref (eh_SB + 4)), some (.ref 0), some (.ref 127), some (.int (t1.1 + 7))]) (st' := []) [(.iinc 3 7, 7)] (by decide +kernel) rfl rfl ?_
      refine ef_V (fun x9 => [some (.ref (eh_SB + 4)), some (.ref 0), some (.ref 127), some (.int x9)]) (fun _ => []) (fun _ => eh_FW s8) (fun x9 => ?_)
      refine es_goto (tgt := 28) (off := (-1081)) (by decide +kernel) (by decide) ?_
      exact Hr4 (x9, s8)
    have hs10 : decode eM_13_law.2.1 43 = .ok (.tableswitch (1063) (0) (26) #[(121), (144), (219), (242), (265), (308), (351), (384), (417), (460), (503), (536), (611), (634), (657), (680), (719), (752), (785), (818), (861), (894), (917), (960), (1003), (1026), (1040)], 121) := by decide +kernel
    refine es_ifc (fun h11 => ?_) (fun h11 => ?_)
    · refine es_tsw (off := (121)) (tgt := 164) hs10 0 h11 (by decide) ?_
      refine es_blk (pc' := 169) (L' := [some (.ref (eh_SB + 4)), some (.ref 0), some (.ref 127), some (.int t1.1)]) (st' := [.int (t1.1 + 1), .ref (eh_SB + 4), .ref 0]) [(.aload_n 1, 0), (.aload_n 0, 0), (.iload_n 3, 0), (.iconst 1, 1), (.iadd, 0)] (by decide +kernel) rfl rfl ?_
      refine ef_xld (by decide +kernel) (fun _ => ?_)
      refine ef_veI (d := 5) (k := 0) (As := [.int (eh_x g (eh_ix (t1.1 + 1)))]) (st := []) eV_11_boot eK_13_21 (eS_11_boot g t1.2 (eh_x g (eh_ix (t1.1 + 1)))) rfl rfl (Nat.le_of_ble_eq_true rfl) rfl (Nat.le_of_ble_eq_true rfl) ⟨Nat.le_of_ble_eq_true rfl, Nat.le_of_ble_eq_true rfl⟩ ⟨Nat.le_refl _, Nat.le_refl _⟩ (by decide +kernel) (fun q12 _ => ?_)
      refine es_blk (pc' := 178) (L' := [some (.ref (eh_SB + 4)), some (.ref 0), some (.ref 127), some (.int t1.1)]) (st' := [.int (t1.1 + 1), .ref (eh_SB + 4), .ref 127, .int q12.1]) [(.aload_n 2, 0), (.aload_n 0, 0), (.iload_n 3, 0), (.iconst 1, 1), (.iadd, 0)] (by decide +kernel) rfl rfl ?_
      refine ef_xld (by decide +kernel) (fun _ => ?_)
      refine ef_veI (d := 6) (k := 127) (As := [.int (eh_x g (eh_ix (t1.1 + 1)))]) (st := [.int q12.1]) eV_12_boot eK_13_25 (eS_12_boot g q12.2 (eh_x g (eh_ix (t1.1 + 1)))) rfl rfl (Nat.le_of_ble_eq_true rfl) rfl (Nat.le_of_ble_eq_true rfl) ⟨Nat.le_of_ble_eq_true rfl, Nat.le_of_ble_eq_true rfl⟩ ⟨Nat.le_refl _, Nat.le_refl _⟩ (by decide +kernel) (fun q13 _ => ?_)
      refine es_ieq (tgt := 1106) (off := (924)) (by decide +kernel) (by decide) (fun h14 => ?_) (fun h14 => ?_)
      · exact Hj7 _
      refine es_blk (pc' := 186) (L' := [some (.ref (eh_SB + 4)), some (.ref 0), some (.ref 127), some (.int t1.1)]) (st' := [.int 0]) [(.iconst 0, 0)] (by decide +kernel) rfl rfl ?_
      exact es_ret (Hret _) rfl rfl ⟨by decide +kernel, _, rfl, eh_narZ (Or.inl rfl)⟩ (Nat.le_refl _) (Nat.le_refl _)
    refine es_ifc (fun h15 => ?_) (fun h15 => ?_)
    · refine es_tsw (off := (144)) (tgt := 187) hs10 1 h15 (by decide) ?_
      refine es_blk (pc' := 192) (L' := [some (.ref (eh_SB + 4)), some (.ref 0), some (.ref 127), some (.int t1.1)]) (st' := [.int (t1.1 + 1), .ref (eh_SB + 4), .ref 0]) [(.aload_n 1, 0), (.aload_n 0, 0), (.iload_n 3, 0), (.iconst 1, 1), (.iadd, 0)] (by decide +kernel) rfl rfl ?_
      refine ef_xld (by decide +kernel) (fun _ => ?_)
      refine es_blk (pc' := 197) (L' := [some (.ref (eh_SB + 4)), some (.ref 0), some (.ref 127), some (.int t1.1)]) (st' := [.int (t1.1 + 2), .ref (eh_SB + 4), .int (eh_x g (eh_ix (t1.1 + 1))), .ref 0]) [(.aload_n 0, 0), (.iload_n 3, 0), (.iconst 2, 2), (.iadd, 0)] (by decide +kernel) rfl rfl ?_
      refine ef_xld (by decide +kernel) (fun _ => ?_)
      refine es_blk (pc' := 202) (L' := [some (.ref (eh_SB + 4)), some (.ref 0), some (.ref 127), some (.int t1.1)]) (st' := [.int (t1.1 + 3), .ref (eh_SB + 4), .int (eh_x g (eh_ix (t1.1 + 2))), .int (eh_x g (eh_ix (t1.1 + 1))), .ref 0]) [(.aload_n 0, 0), (.iload_n 3, 0), (.iconst 3, 3), (.iadd, 0)] (by decide +kernel) rfl rfl ?_
      refine ef_xld (by decide +kernel) (fun _ => ?_)
      refine es_blk (pc' := 207) (L' := [some (.ref (eh_SB + 4)), some (.ref 0), some (.ref 127), some (.int t1.1)]) (st' := [.int (t1.1 + 4), .ref (eh_SB + 4), .int (eh_x g (eh_ix (t1.1 + 3))), .int (eh_x g (eh_ix (t1.1 + 2))), .int (eh_x g (eh_ix (t1.1 + 1))), .ref 0]) [(.aload_n 0, 0), (.iload_n 3, 0), (.iconst 4, 4), (.iadd, 0)] (by decide +kernel) rfl rfl ?_
      refine ef_xld (by decide +kernel) (fun _ => ?_)
      refine es_blk (pc' := 212) (L' := [some (.ref (eh_SB + 4)), some (.ref 0), some (.ref 127), some (.int t1.1)]) (st' := [.int (t1.1 + 5), .ref (eh_SB + 4), .int (eh_x g (eh_ix (t1.1 + 4))), .int (eh_x g (eh_ix (t1.1 + 3))), .int (eh_x g (eh_ix (t1.1 + 2))), .int (eh_x g (eh_ix (t1.1 + 1))), .ref 0]) [(.aload_n 0, 0), (.iload_n 3, 0), (.iconst 5, 5), (.iadd, 0)] (by decide +kernel) rfl rfl ?_
      refine ef_xld (by decide +kernel) (fun _ => ?_)
      refine es_blk (pc' := 218) (L' := [some (.ref (eh_SB + 4)), some (.ref 0), some (.ref 127), some (.int t1.1)]) (st' := [.int (t1.1 + 6), .ref (eh_SB + 4), .int (eh_x g (eh_ix (t1.1 + 5))), .int (eh_x g (eh_ix (t1.1 + 4))), .int (eh_x g (eh_ix (t1.1 + 3))), .int (eh_x g (eh_ix (t1.1 + 2))), .int (eh_x g (eh_ix (t1.1 + 1))), .ref 0]) [(.aload_n 0, 0), (.iload_n 3, 0), (.bipush 6, 6), (.iadd, 0)] (by decide +kernel) rfl rfl ?_
      refine ef_xld (by decide +kernel) (fun _ => ?_)
      refine ef_veI (d := 3) (k := 0) (As := [.int (eh_x g (eh_ix (t1.1 + 1))), .int (eh_x g (eh_ix (t1.1 + 2))), .int (eh_x g (eh_ix (t1.1 + 3))), .int (eh_x g (eh_ix (t1.1 + 4))), .int (eh_x g (eh_ix (t1.1 + 5))), .int (eh_x g (eh_ix (t1.1 + 6)))]) (st := []) eV_11_poke eK_13_26 (eS_11_poke g t1.2 (eh_x g (eh_ix (t1.1 + 1))) (eh_x g (eh_ix (t1.1 + 2))) (eh_x g (eh_ix (t1.1 + 3))) (eh_x g (eh_ix (t1.1 + 4))) (eh_x g (eh_ix (t1.1 + 5))) (eh_x g (eh_ix (t1.1 + 6)))) rfl rfl (Nat.le_of_ble_eq_true rfl) rfl (Nat.le_of_ble_eq_true rfl) ⟨Nat.le_of_ble_eq_true rfl, Nat.le_of_ble_eq_true rfl⟩ ⟨Nat.le_refl _, Nat.le_refl _⟩ (by decide +kernel) (fun q16 _ => ?_)
      refine es_blk (pc' := 227) (L' := [some (.ref (eh_SB + 4)), some (.ref 0), some (.ref 127), some (.int t1.1)]) (st' := [.int (t1.1 + 1), .ref (eh_SB + 4), .ref 127, .int q16.1]) [(.aload_n 2, 0), (.aload_n 0, 0), (.iload_n 3, 0), (.iconst 1, 1), (.iadd, 0)] (by decide +kernel) rfl rfl ?_
      refine ef_xld (by decide +kernel) (fun _ => ?_)
      refine es_blk (pc' := 232) (L' := [some (.ref (eh_SB + 4)), some (.ref 0), some (.ref 127), some (.int t1.1)]) (st' := [.int (t1.1 + 2), .ref (eh_SB + 4), .int (eh_x g (eh_ix (t1.1 + 1))), .ref 127, .int q16.1]) [(.aload_n 0, 0), (.iload_n 3, 0), (.iconst 2, 2), (.iadd, 0)] (by decide +kernel) rfl rfl ?_
      refine ef_xld (by decide +kernel) (fun _ => ?_)
      refine es_blk (pc' := 237) (L' := [some (.ref (eh_SB + 4)), some (.ref 0), some (.ref 127), some (.int t1.1)]) (st' := [.int (t1.1 + 3), .ref (eh_SB + 4), .int (eh_x g (eh_ix (t1.1 + 2))), .int (eh_x g (eh_ix (t1.1 + 1))), .ref 127, .int q16.1]) [(.aload_n 0, 0), (.iload_n 3, 0), (.iconst 3, 3), (.iadd, 0)] (by decide +kernel) rfl rfl ?_
      refine ef_xld (by decide +kernel) (fun _ => ?_)
      refine es_blk (pc' := 242) (L' := [some (.ref (eh_SB + 4)), some (.ref 0), some (.ref 127), some (.int t1.1)]) (st' := [.int (t1.1 + 4), .ref (eh_SB + 4), .int (eh_x g (eh_ix (t1.1 + 3))), .int (eh_x g (eh_ix (t1.1 + 2))), .int (eh_x g (eh_ix (t1.1 + 1))), .ref 127, .int q16.1]) [(.aload_n 0, 0), (.iload_n 3, 0), (.iconst 4, 4), (.iadd, 0)] (by decide +kernel) rfl rfl ?_
      refine ef_xld (by decide +kernel) (fun _ => ?_)
      refine es_blk (pc' := 247) (L' := [some (.ref (eh_SB + 4)), some (.ref 0), some (.ref 127), some (.int t1.1)]) (st' := [.int (t1.1 + 5), .ref (eh_SB + 4), .int (eh_x g (eh_ix (t1.1 + 4))), .int (eh_x g (eh_ix (t1.1 + 3))), .int (eh_x g (eh_ix (t1.1 + 2))), .int (eh_x g (eh_ix (t1.1 + 1))), .ref 127, .int q16.1]) [(.aload_n 0, 0), (.iload_n 3, 0), (.iconst 5, 5), (.iadd, 0)] (by decide +kernel) rfl rfl ?_
      refine ef_xld (by decide +kernel) (fun _ => ?_)
      refine es_blk (pc' := 253) (L' := [some (.ref (eh_SB + 4)), some (.ref 0), some (.ref 127), some (.int t1.1)]) (st' := [.int (t1.1 + 6), .ref (eh_SB + 4), .int (eh_x g (eh_ix (t1.1 + 5))), .int (eh_x g (eh_ix (t1.1 + 4))), .int (eh_x g (eh_ix (t1.1 + 3))), .int (eh_x g (eh_ix (t1.1 + 2))), .int (eh_x g (eh_ix (t1.1 + 1))), .ref 127, .int q16.1]) [(.aload_n 0, 0), (.iload_n 3, 0), (.bipush 6, 6), (.iadd, 0)] (by decide +kernel) rfl rfl ?_
      refine ef_xld (by decide +kernel) (fun _ => ?_)
      refine ef_veI (d := 2) (k := 127) (As := [.int (eh_x g (eh_ix (t1.1 + 1))), .int (eh_x g (eh_ix (t1.1 + 2))), .int (eh_x g (eh_ix (t1.1 + 3))), .int (eh_x g (eh_ix (t1.1 + 4))), .int (eh_x g (eh_ix (t1.1 + 5))), .int (eh_x g (eh_ix (t1.1 + 6)))]) (st := [.int q16.1]) eV_12_poke eK_13_30 (eS_12_poke g q16.2 (eh_x g (eh_ix (t1.1 + 1))) (eh_x g (eh_ix (t1.1 + 2))) (eh_x g (eh_ix (t1.1 + 3))) (eh_x g (eh_ix (t1.1 + 4))) (eh_x g (eh_ix (t1.1 + 5))) (eh_x g (eh_ix (t1.1 + 6)))) rfl rfl (Nat.le_of_ble_eq_true rfl) rfl (Nat.le_of_ble_eq_true rfl) ⟨Nat.le_of_ble_eq_true rfl, Nat.le_of_ble_eq_true rfl⟩ ⟨Nat.le_refl _, Nat.le_refl _⟩ (by decide +kernel) (fun q17 _ => ?_)
      refine es_ieq (tgt := 1106) (off := (849)) (by decide +kernel) (by decide) (fun h18 => ?_) (fun h18 => ?_)
      · exact Hj7 _
      refine es_blk (pc' := 261) (L' := [some (.ref (eh_SB + 4)), some (.ref 0), some (.ref 127), some (.int t1.1)]) (st' := [.int 0]) [(.iconst 0, 0)] (by decide +kernel) rfl rfl ?_
      exact es_ret (Hret _) rfl rfl ⟨by decide +kernel, _, rfl, eh_narZ (Or.inl rfl)⟩ (Nat.le_refl _) (Nat.le_refl _)
    refine es_ifc (fun h19 => ?_) (fun h19 => ?_)
    · refine es_tsw (off := (219)) (tgt := 262) hs10 2 h19 (by decide) ?_
      refine es_blk (pc' := 267) (L' := [some (.ref (eh_SB + 4)), some (.ref 0), some (.ref 127), some (.int t1.1)]) (st' := [.int (t1.1 + 1), .ref (eh_SB + 4), .ref 0]) [(.aload_n 1, 0), (.aload_n 0, 0), (.iload_n 3, 0), (.iconst 1, 1), (.iadd, 0)] (by decide +kernel) rfl rfl ?_
      refine ef_xld (by decide +kernel) (fun _ => ?_)
      refine ef_vpI (d := 2) (k := 0) (As := [.int (eh_x g (eh_ix (t1.1 + 1)))]) (st := []) eV_11_word eK_13_31 (eS_11_word g t1.2 (eh_x g (eh_ix (t1.1 + 1)))) rfl rfl (Nat.le_of_ble_eq_true rfl) rfl (Nat.le_of_ble_eq_true rfl) ⟨Nat.le_of_ble_eq_true rfl, Nat.le_of_ble_eq_true rfl⟩ ⟨Nat.le_refl _, Nat.le_refl _⟩ (by decide +kernel) (fun q20 _ => ?_)
      refine es_blk (pc' := 276) (L' := [some (.ref (eh_SB + 4)), some (.ref 0), some (.ref 127), some (.int t1.1)]) (st' := [.int (t1.1 + 1), .ref (eh_SB + 4), .ref 127, .int q20]) [(.aload_n 2, 0), (.aload_n 0, 0), (.iload_n 3, 0), (.iconst 1, 1), (.iadd, 0)] (by decide +kernel) rfl rfl ?_
      refine ef_xld (by decide +kernel) (fun _ => ?_)
      refine ef_vpI (d := 2) (k := 127) (As := [.int (eh_x g (eh_ix (t1.1 + 1)))]) (st := [.int q20]) eV_12_word eK_13_34 (eS_12_word g t1.2 (eh_x g (eh_ix (t1.1 + 1)))) rfl rfl (Nat.le_of_ble_eq_true rfl) rfl (Nat.le_of_ble_eq_true rfl) ⟨Nat.le_of_ble_eq_true rfl, Nat.le_of_ble_eq_true rfl⟩ ⟨Nat.le_refl _, Nat.le_refl _⟩ (by decide +kernel) (fun q21 _ => ?_)
      refine es_ieq (tgt := 1106) (off := (826)) (by decide +kernel) (by decide) (fun h22 => ?_) (fun h22 => ?_)
      · exact Hj7 _
      refine es_blk (pc' := 284) (L' := [some (.ref (eh_SB + 4)), some (.ref 0), some (.ref 127), some (.int t1.1)]) (st' := [.int 0]) [(.iconst 0, 0)] (by decide +kernel) rfl rfl ?_
      exact es_ret (Hret _) rfl rfl ⟨by decide +kernel, _, rfl, eh_narZ (Or.inl rfl)⟩ (Nat.le_refl _) (Nat.le_refl _)
    refine es_ifc (fun h23 => ?_) (fun h23 => ?_)
    · refine es_tsw (off := (242)) (tgt := 285) hs10 3 h23 (by decide) ?_
      refine es_blk (pc' := 290) (L' := [some (.ref (eh_SB + 4)), some (.ref 0), some (.ref 127), some (.int t1.1)]) (st' := [.int (t1.1 + 1), .ref (eh_SB + 4), .ref 0]) [(.aload_n 1, 0), (.aload_n 0, 0), (.iload_n 3, 0), (.iconst 1, 1), (.iadd, 0)] (by decide +kernel) rfl rfl ?_
      refine ef_xld (by decide +kernel) (fun _ => ?_)
      refine ef_vpI (d := 2) (k := 0) (As := [.int (eh_x g (eh_ix (t1.1 + 1)))]) (st := []) eV_11_inner eK_13_35 (eS_11_inner g t1.2 (eh_x g (eh_ix (t1.1 + 1)))) rfl rfl (Nat.le_of_ble_eq_true rfl) rfl (Nat.le_of_ble_eq_true rfl) ⟨Nat.le_of_ble_eq_true rfl, Nat.le_of_ble_eq_true rfl⟩ ⟨Nat.le_refl _, Nat.le_refl _⟩ (by decide +kernel) (fun q24 _ => ?_)
      refine es_blk (pc' := 299) (L' := [some (.ref (eh_SB + 4)), some (.ref 0), some (.ref 127), some (.int t1.1)]) (st' := [.int (t1.1 + 1), .ref (eh_SB + 4), .ref 127, .int q24]) [(.aload_n 2, 0), (.aload_n 0, 0), (.iload_n 3, 0), (.iconst 1, 1), (.iadd, 0)] (by decide +kernel) rfl rfl ?_
      refine ef_xld (by decide +kernel) (fun _ => ?_)
      refine ef_vpI (d := 2) (k := 127) (As := [.int (eh_x g (eh_ix (t1.1 + 1)))]) (st := [.int q24]) eV_12_inner eK_13_38 (eS_12_inner g t1.2 (eh_x g (eh_ix (t1.1 + 1)))) rfl rfl (Nat.le_of_ble_eq_true rfl) rfl (Nat.le_of_ble_eq_true rfl) ⟨Nat.le_of_ble_eq_true rfl, Nat.le_of_ble_eq_true rfl⟩ ⟨Nat.le_refl _, Nat.le_refl _⟩ (by decide +kernel) (fun q25 _ => ?_)
      refine es_ieq (tgt := 1106) (off := (803)) (by decide +kernel) (by decide) (fun h26 => ?_) (fun h26 => ?_)
      · exact Hj7 _
      refine es_blk (pc' := 307) (L' := [some (.ref (eh_SB + 4)), some (.ref 0), some (.ref 127), some (.int t1.1)]) (st' := [.int 0]) [(.iconst 0, 0)] (by decide +kernel) rfl rfl ?_
      exact es_ret (Hret _) rfl rfl ⟨by decide +kernel, _, rfl, eh_narZ (Or.inl rfl)⟩ (Nat.le_refl _) (Nat.le_refl _)
    refine es_ifc (fun h27 => ?_) (fun h27 => ?_)
    · refine es_tsw (off := (265)) (tgt := 308) hs10 4 h27 (by decide) ?_
      refine es_blk (pc' := 313) (L' := [some (.ref (eh_SB + 4)), some (.ref 0), some (.ref 127), some (.int t1.1)]) (st' := [.int (t1.1 + 1), .ref (eh_SB + 4), .ref 0]) [(.aload_n 1, 0), (.aload_n 0, 0), (.iload_n 3, 0), (.iconst 1, 1), (.iadd, 0)] (by decide +kernel) rfl rfl ?_
      refine ef_xld (by decide +kernel) (fun _ => ?_)
      refine es_blk (pc' := 318) (L' := [some (.ref (eh_SB + 4)), some (.ref 0), some (.ref 127), some (.int t1.1)]) (st' := [.int (t1.1 + 2), .ref (eh_SB + 4), .int (eh_x g (eh_ix (t1.1 + 1))), .ref 0]) [(.aload_n 0, 0), (.iload_n 3, 0), (.iconst 2, 2), (.iadd, 0)] (by decide +kernel) rfl rfl ?_
      refine ef_xld (by decide +kernel) (fun _ => ?_)
      refine es_blk (pc' := 323) (L' := [some (.ref (eh_SB + 4)), some (.ref 0), some (.ref 127), some (.int t1.1)]) (st' := [.int (t1.1 + 3), .ref (eh_SB + 4), .int (eh_x g (eh_ix (t1.1 + 2))), .int (eh_x g (eh_ix (t1.1 + 1))), .ref 0]) [(.aload_n 0, 0), (.iload_n 3, 0), (.iconst 3, 3), (.iadd, 0)] (by decide +kernel) rfl rfl ?_
      refine ef_xld (by decide +kernel) (fun _ => ?_)
      refine ef_veI (d := 3) (k := 0) (As := [.int (eh_x g (eh_ix (t1.1 + 1))), .int (eh_x g (eh_ix (t1.1 + 2))), .int (eh_x g (eh_ix (t1.1 + 3)))]) (st := []) eV_11_secret eK_13_39 (eS_11_secret g t1.2 (eh_x g (eh_ix (t1.1 + 1))) (eh_x g (eh_ix (t1.1 + 2))) (eh_x g (eh_ix (t1.1 + 3)))) rfl rfl (Nat.le_of_ble_eq_true rfl) rfl (Nat.le_of_ble_eq_true rfl) ⟨Nat.le_of_ble_eq_true rfl, Nat.le_of_ble_eq_true rfl⟩ ⟨Nat.le_refl _, Nat.le_refl _⟩ (by decide +kernel) (fun q28 _ => ?_)
      refine es_blk (pc' := 332) (L' := [some (.ref (eh_SB + 4)), some (.ref 0), some (.ref 127), some (.int t1.1)]) (st' := [.int (t1.1 + 1), .ref (eh_SB + 4), .ref 127, .int q28.1]) [(.aload_n 2, 0), (.aload_n 0, 0), (.iload_n 3, 0), (.iconst 1, 1), (.iadd, 0)] (by decide +kernel) rfl rfl ?_
      refine ef_xld (by decide +kernel) (fun _ => ?_)
      refine es_blk (pc' := 337) (L' := [some (.ref (eh_SB + 4)), some (.ref 0), some (.ref 127), some (.int t1.1)]) (st' := [.int (t1.1 + 2), .ref (eh_SB + 4), .int (eh_x g (eh_ix (t1.1 + 1))), .ref 127, .int q28.1]) [(.aload_n 0, 0), (.iload_n 3, 0), (.iconst 2, 2), (.iadd, 0)] (by decide +kernel) rfl rfl ?_
      refine ef_xld (by decide +kernel) (fun _ => ?_)
      refine es_blk (pc' := 342) (L' := [some (.ref (eh_SB + 4)), some (.ref 0), some (.ref 127), some (.int t1.1)]) (st' := [.int (t1.1 + 3), .ref (eh_SB + 4), .int (eh_x g (eh_ix (t1.1 + 2))), .int (eh_x g (eh_ix (t1.1 + 1))), .ref 127, .int q28.1]) [(.aload_n 0, 0), (.iload_n 3, 0), (.iconst 3, 3), (.iadd, 0)] (by decide +kernel) rfl rfl ?_
      refine ef_xld (by decide +kernel) (fun _ => ?_)
      refine ef_veI (d := 2) (k := 127) (As := [.int (eh_x g (eh_ix (t1.1 + 1))), .int (eh_x g (eh_ix (t1.1 + 2))), .int (eh_x g (eh_ix (t1.1 + 3)))]) (st := [.int q28.1]) eV_12_secret eK_13_43 (eS_12_secret g q28.2 (eh_x g (eh_ix (t1.1 + 1))) (eh_x g (eh_ix (t1.1 + 2))) (eh_x g (eh_ix (t1.1 + 3)))) rfl rfl (Nat.le_of_ble_eq_true rfl) rfl (Nat.le_of_ble_eq_true rfl) ⟨Nat.le_of_ble_eq_true rfl, Nat.le_of_ble_eq_true rfl⟩ ⟨Nat.le_refl _, Nat.le_refl _⟩ (by decide +kernel) (fun q29 _ => ?_)
      refine es_ieq (tgt := 1106) (off := (760)) (by decide +kernel) (by decide) (fun h30 => ?_) (fun h30 => ?_)
      · exact Hj7 _
      refine es_blk (pc' := 350) (L' := [some (.ref (eh_SB + 4)), some (.ref 0), some (.ref 127), some (.int t1.1)]) (st' := [.int 0]) [(.iconst 0, 0)] (by decide +kernel) rfl rfl ?_
      exact es_ret (Hret _) rfl rfl ⟨by decide +kernel, _, rfl, eh_narZ (Or.inl rfl)⟩ (Nat.le_refl _) (Nat.le_refl _)
    refine es_ifc (fun h31 => ?_) (fun h31 => ?_)
    · refine es_tsw (off := (308)) (tgt := 351) hs10 5 h31 (by decide) ?_
      refine es_blk (pc' := 356) (L' := [some (.ref (eh_SB + 4)), some (.ref 0), some (.ref 127), some (.int t1.1)]) (st' := [.int (t1.1 + 1), .ref (eh_SB + 4), .ref 0]) [(.aload_n 1, 0), (.aload_n 0, 0), (.iload_n 3, 0), (.iconst 1, 1), (.iadd, 0)] (by decide +kernel) rfl rfl ?_
      refine ef_xld (by decide +kernel) (fun _ => ?_)
      refine es_blk (pc' := 361) (L' := [some (.ref (eh_SB + 4)), some (.ref 0), some (.ref 127), some (.int t1.1)]) (st' := [.int (t1.1 + 2), .ref (eh_SB + 4), .int (eh_x g (eh_ix (t1.1 + 1))), .ref 0]) [(.aload_n 0, 0), (.iload_n 3, 0), (.iconst 2, 2), (.iadd, 0)] (by decide +kernel) rfl rfl ?_
      refine ef_xld (by decide +kernel) (fun _ => ?_)
      refine es_blk (pc' := 366) (L' := [some (.ref (eh_SB + 4)), some (.ref 0), some (.ref 127), some (.int t1.1)]) (st' := [.int (t1.1 + 3), .ref (eh_SB + 4), .int (eh_x g (eh_ix (t1.1 + 2))), .int (eh_x g (eh_ix (t1.1 + 1))), .ref 0]) [(.aload_n 0, 0), (.iload_n 3, 0), (.iconst 3, 3), (.iadd, 0)] (by decide +kernel) rfl rfl ?_
      refine ef_xld (by decide +kernel) (fun _ => ?_)
      refine ef_veI (d := 3) (k := 0) (As := [.int (eh_x g (eh_ix (t1.1 + 1))), .int (eh_x g (eh_ix (t1.1 + 2))), .int (eh_x g (eh_ix (t1.1 + 3)))]) (st := []) eV_11_setRegister eK_13_44 (eS_11_setRegister g t1.2 (eh_x g (eh_ix (t1.1 + 1))) (eh_x g (eh_ix (t1.1 + 2))) (eh_x g (eh_ix (t1.1 + 3)))) rfl rfl (Nat.le_of_ble_eq_true rfl) rfl (Nat.le_of_ble_eq_true rfl) ⟨Nat.le_of_ble_eq_true rfl, Nat.le_of_ble_eq_true rfl⟩ ⟨Nat.le_refl _, Nat.le_refl _⟩ (by decide +kernel) (fun q32 _ => ?_)
      refine es_blk (pc' := 375) (L' := [some (.ref (eh_SB + 4)), some (.ref 0), some (.ref 127), some (.int t1.1)]) (st' := [.int (t1.1 + 1), .ref (eh_SB + 4), .ref 127, .int q32.1]) [(.aload_n 2, 0), (.aload_n 0, 0), (.iload_n 3, 0), (.iconst 1, 1), (.iadd, 0)] (by decide +kernel) rfl rfl ?_
      refine ef_xld (by decide +kernel) (fun _ => ?_)
      refine es_blk (pc' := 380) (L' := [some (.ref (eh_SB + 4)), some (.ref 0), some (.ref 127), some (.int t1.1)]) (st' := [.int (t1.1 + 2), .ref (eh_SB + 4), .int (eh_x g (eh_ix (t1.1 + 1))), .ref 127, .int q32.1]) [(.aload_n 0, 0), (.iload_n 3, 0), (.iconst 2, 2), (.iadd, 0)] (by decide +kernel) rfl rfl ?_
      refine ef_xld (by decide +kernel) (fun _ => ?_)
      refine es_blk (pc' := 385) (L' := [some (.ref (eh_SB + 4)), some (.ref 0), some (.ref 127), some (.int t1.1)]) (st' := [.int (t1.1 + 3), .ref (eh_SB + 4), .int (eh_x g (eh_ix (t1.1 + 2))), .int (eh_x g (eh_ix (t1.1 + 1))), .ref 127, .int q32.1]) [(.aload_n 0, 0), (.iload_n 3, 0), (.iconst 3, 3), (.iadd, 0)] (by decide +kernel) rfl rfl ?_
      refine ef_xld (by decide +kernel) (fun _ => ?_)
      refine ef_veI (d := 2) (k := 127) (As := [.int (eh_x g (eh_ix (t1.1 + 1))), .int (eh_x g (eh_ix (t1.1 + 2))), .int (eh_x g (eh_ix (t1.1 + 3)))]) (st := [.int q32.1]) eV_12_setRegister eK_13_47 (eS_12_setRegister g q32.2 (eh_x g (eh_ix (t1.1 + 1))) (eh_x g (eh_ix (t1.1 + 2))) (eh_x g (eh_ix (t1.1 + 3)))) rfl rfl (Nat.le_of_ble_eq_true rfl) rfl (Nat.le_of_ble_eq_true rfl) ⟨Nat.le_of_ble_eq_true rfl, Nat.le_of_ble_eq_true rfl⟩ ⟨Nat.le_refl _, Nat.le_refl _⟩ (by decide +kernel) (fun q33 _ => ?_)
      refine es_ieq (tgt := 1106) (off := (717)) (by decide +kernel) (by decide) (fun h34 => ?_) (fun h34 => ?_)
      · exact Hj7 _
      refine es_blk (pc' := 393) (L' := [some (.ref (eh_SB + 4)), some (.ref 0), some (.ref 127), some (.int t1.1)]) (st' := [.int 0]) [(.iconst 0, 0)] (by decide +kernel) rfl rfl ?_
      exact es_ret (Hret _) rfl rfl ⟨by decide +kernel, _, rfl, eh_narZ (Or.inl rfl)⟩ (Nat.le_refl _) (Nat.le_refl _)
    refine es_ifc (fun h35 => ?_) (fun h35 => ?_)
    · refine es_tsw (off := (351)) (tgt := 394) hs10 6 h35 (by decide) ?_
      refine es_blk (pc' := 399) (L' := [some (.ref (eh_SB + 4)), some (.ref 0), some (.ref 127), some (.int t1.1)]) (st' := [.int (t1.1 + 1), .ref (eh_SB + 4), .ref 0]) [(.aload_n 1, 0), (.aload_n 0, 0), (.iload_n 3, 0), (.iconst 1, 1), (.iadd, 0)] (by decide +kernel) rfl rfl ?_
      refine ef_xld (by decide +kernel) (fun _ => ?_)
      refine es_blk (pc' := 404) (L' := [some (.ref (eh_SB + 4)), some (.ref 0), some (.ref 127), some (.int t1.1)]) (st' := [.int (t1.1 + 2), .ref (eh_SB + 4), .int (eh_x g (eh_ix (t1.1 + 1))), .ref 0]) [(.aload_n 0, 0), (.iload_n 3, 0), (.iconst 2, 2), (.iadd, 0)] (by decide +kernel) rfl rfl ?_
      refine ef_xld (by decide +kernel) (fun _ => ?_)
      refine ef_vpI (d := 3) (k := 0) (As := [.int (eh_x g (eh_ix (t1.1 + 1))), .int (eh_x g (eh_ix (t1.1 + 2)))]) (st := []) eV_11_register eK_13_48 (eS_11_register g t1.2 (eh_x g (eh_ix (t1.1 + 1))) (eh_x g (eh_ix (t1.1 + 2)))) rfl rfl (Nat.le_of_ble_eq_true rfl) rfl (Nat.le_of_ble_eq_true rfl) ⟨Nat.le_of_ble_eq_true rfl, Nat.le_of_ble_eq_true rfl⟩ ⟨Nat.le_refl _, Nat.le_refl _⟩ (by decide +kernel) (fun q36 _ => ?_)
      refine es_blk (pc' := 413) (L' := [some (.ref (eh_SB + 4)), some (.ref 0), some (.ref 127), some (.int t1.1)]) (st' := [.int (t1.1 + 1), .ref (eh_SB + 4), .ref 127, .int q36]) [(.aload_n 2, 0), (.aload_n 0, 0), (.iload_n 3, 0), (.iconst 1, 1), (.iadd, 0)] (by decide +kernel) rfl rfl ?_
      refine ef_xld (by decide +kernel) (fun _ => ?_)
      refine es_blk (pc' := 418) (L' := [some (.ref (eh_SB + 4)), some (.ref 0), some (.ref 127), some (.int t1.1)]) (st' := [.int (t1.1 + 2), .ref (eh_SB + 4), .int (eh_x g (eh_ix (t1.1 + 1))), .ref 127, .int q36]) [(.aload_n 0, 0), (.iload_n 3, 0), (.iconst 2, 2), (.iadd, 0)] (by decide +kernel) rfl rfl ?_
      refine ef_xld (by decide +kernel) (fun _ => ?_)
      refine ef_vpI (d := 2) (k := 127) (As := [.int (eh_x g (eh_ix (t1.1 + 1))), .int (eh_x g (eh_ix (t1.1 + 2)))]) (st := [.int q36]) eV_12_register eK_13_52 (eS_12_register g t1.2 (eh_x g (eh_ix (t1.1 + 1))) (eh_x g (eh_ix (t1.1 + 2)))) rfl rfl (Nat.le_of_ble_eq_true rfl) rfl (Nat.le_of_ble_eq_true rfl) ⟨Nat.le_of_ble_eq_true rfl, Nat.le_of_ble_eq_true rfl⟩ ⟨Nat.le_refl _, Nat.le_refl _⟩ (by decide +kernel) (fun q37 _ => ?_)
      refine es_ieq (tgt := 1106) (off := (684)) (by decide +kernel) (by decide) (fun h38 => ?_) (fun h38 => ?_)
      · exact Hj7 _
      refine es_blk (pc' := 426) (L' := [some (.ref (eh_SB + 4)), some (.ref 0), some (.ref 127), some (.int t1.1)]) (st' := [.int 0]) [(.iconst 0, 0)] (by decide +kernel) rfl rfl ?_
      exact es_ret (Hret _) rfl rfl ⟨by decide +kernel, _, rfl, eh_narZ (Or.inl rfl)⟩ (Nat.le_refl _) (Nat.le_refl _)
    refine es_ifc (fun h39 => ?_) (fun h39 => ?_)
    · refine es_tsw (off := (384)) (tgt := 427) hs10 7 h39 (by decide) ?_
      refine es_blk (pc' := 432) (L' := [some (.ref (eh_SB + 4)), some (.ref 0), some (.ref 127), some (.int t1.1)]) (st' := [.int (t1.1 + 1), .ref (eh_SB + 4), .ref 0]) [(.aload_n 1, 0), (.aload_n 0, 0), (.iload_n 3, 0), (.iconst 1, 1), (.iadd, 0)] (by decide +kernel) rfl rfl ?_
      refine ef_xld (by decide +kernel) (fun _ => ?_)
      refine es_blk (pc' := 437) (L' := [some (.ref (eh_SB + 4)), some (.ref 0), some (.ref 127), some (.int t1.1)]) (st' := [.int (t1.1 + 2), .ref (eh_SB + 4), .int (eh_x g (eh_ix (t1.1 + 1))), .ref 0]) [(.aload_n 0, 0), (.iload_n 3, 0), (.iconst 2, 2), (.iadd, 0)] (by decide +kernel) rfl rfl ?_
      refine ef_xld (by decide +kernel) (fun _ => ?_)
      refine ef_vpI (d := 2) (k := 0) (As := [.int (eh_x g (eh_ix (t1.1 + 1))), .int (eh_x g (eh_ix (t1.1 + 2)))]) (st := []) eV_11_inside eK_13_53 (eS_11_inside g t1.2 (eh_x g (eh_ix (t1.1 + 1))) (eh_x g (eh_ix (t1.1 + 2)))) rfl rfl (Nat.le_of_ble_eq_true rfl) rfl (Nat.le_of_ble_eq_true rfl) ⟨Nat.le_of_ble_eq_true rfl, Nat.le_of_ble_eq_true rfl⟩ ⟨Nat.le_refl _, Nat.le_refl _⟩ (by decide +kernel) (fun q40 _ => ?_)
      refine es_blk (pc' := 446) (L' := [some (.ref (eh_SB + 4)), some (.ref 0), some (.ref 127), some (.int t1.1)]) (st' := [.int (t1.1 + 1), .ref (eh_SB + 4), .ref 127, .int q40]) [(.aload_n 2, 0), (.aload_n 0, 0), (.iload_n 3, 0), (.iconst 1, 1), (.iadd, 0)] (by decide +kernel) rfl rfl ?_
      refine ef_xld (by decide +kernel) (fun _ => ?_)
      refine es_blk (pc' := 451) (L' := [some (.ref (eh_SB + 4)), some (.ref 0), some (.ref 127), some (.int t1.1)]) (st' := [.int (t1.1 + 2), .ref (eh_SB + 4), .int (eh_x g (eh_ix (t1.1 + 1))), .ref 127, .int q40]) [(.aload_n 0, 0), (.iload_n 3, 0), (.iconst 2, 2), (.iadd, 0)] (by decide +kernel) rfl rfl ?_
      refine ef_xld (by decide +kernel) (fun _ => ?_)
      refine ef_vpI (d := 2) (k := 127) (As := [.int (eh_x g (eh_ix (t1.1 + 1))), .int (eh_x g (eh_ix (t1.1 + 2)))]) (st := [.int q40]) eV_12_inside eK_13_56 (eS_12_inside g t1.2 (eh_x g (eh_ix (t1.1 + 1))) (eh_x g (eh_ix (t1.1 + 2)))) rfl rfl (Nat.le_of_ble_eq_true rfl) rfl (Nat.le_of_ble_eq_true rfl) ⟨Nat.le_of_ble_eq_true rfl, Nat.le_of_ble_eq_true rfl⟩ ⟨Nat.le_refl _, Nat.le_refl _⟩ (by decide +kernel) (fun q41 _ => ?_)
      refine es_ieq (tgt := 1106) (off := (651)) (by decide +kernel) (by decide) (fun h42 => ?_) (fun h42 => ?_)
      · exact Hj7 _
      refine es_blk (pc' := 459) (L' := [some (.ref (eh_SB + 4)), some (.ref 0), some (.ref 127), some (.int t1.1)]) (st' := [.int 0]) [(.iconst 0, 0)] (by decide +kernel) rfl rfl ?_
      exact es_ret (Hret _) rfl rfl ⟨by decide +kernel, _, rfl, eh_narZ (Or.inl rfl)⟩ (Nat.le_refl _) (Nat.le_refl _)
    refine es_ifc (fun h43 => ?_) (fun h43 => ?_)
    · refine es_tsw (off := (417)) (tgt := 460) hs10 8 h43 (by decide) ?_
      refine es_blk (pc' := 465) (L' := [some (.ref (eh_SB + 4)), some (.ref 0), some (.ref 127), some (.int t1.1)]) (st' := [.int (t1.1 + 1), .ref (eh_SB + 4), .ref 0]) [(.aload_n 1, 0), (.aload_n 0, 0), (.iload_n 3, 0), (.iconst 1, 1), (.iadd, 0)] (by decide +kernel) rfl rfl ?_
      refine ef_xld (by decide +kernel) (fun _ => ?_)
      refine es_blk (pc' := 470) (L' := [some (.ref (eh_SB + 4)), some (.ref 0), some (.ref 127), some (.int t1.1)]) (st' := [.int (t1.1 + 2), .ref (eh_SB + 4), .int (eh_x g (eh_ix (t1.1 + 1))), .ref 0]) [(.aload_n 0, 0), (.iload_n 3, 0), (.iconst 2, 2), (.iadd, 0)] (by decide +kernel) rfl rfl ?_
      refine ef_xld (by decide +kernel) (fun _ => ?_)
      refine es_blk (pc' := 475) (L' := [some (.ref (eh_SB + 4)), some (.ref 0), some (.ref 127), some (.int t1.1)]) (st' := [.int (t1.1 + 3), .ref (eh_SB + 4), .int (eh_x g (eh_ix (t1.1 + 2))), .int (eh_x g (eh_ix (t1.1 + 1))), .ref 0]) [(.aload_n 0, 0), (.iload_n 3, 0), (.iconst 3, 3), (.iadd, 0)] (by decide +kernel) rfl rfl ?_
      refine ef_xld (by decide +kernel) (fun _ => ?_)
      refine ef_veI (d := 2) (k := 0) (As := [.int (eh_x g (eh_ix (t1.1 + 1))), .int (eh_x g (eh_ix (t1.1 + 2))), .int (eh_x g (eh_ix (t1.1 + 3)))]) (st := []) eV_11_place eK_13_57 (eS_11_place g t1.2 (eh_x g (eh_ix (t1.1 + 1))) (eh_x g (eh_ix (t1.1 + 2))) (eh_x g (eh_ix (t1.1 + 3)))) rfl rfl (Nat.le_of_ble_eq_true rfl) rfl (Nat.le_of_ble_eq_true rfl) ⟨Nat.le_of_ble_eq_true rfl, Nat.le_of_ble_eq_true rfl⟩ ⟨Nat.le_refl _, Nat.le_refl _⟩ (by decide +kernel) (fun q44 _ => ?_)
      refine es_blk (pc' := 484) (L' := [some (.ref (eh_SB + 4)), some (.ref 0), some (.ref 127), some (.int t1.1)]) (st' := [.int (t1.1 + 1), .ref (eh_SB + 4), .ref 127, .int q44.1]) [(.aload_n 2, 0), (.aload_n 0, 0), (.iload_n 3, 0), (.iconst 1, 1), (.iadd, 0)] (by decide +kernel) rfl rfl ?_
      refine ef_xld (by decide +kernel) (fun _ => ?_)
      refine es_blk (pc' := 489) (L' := [some (.ref (eh_SB + 4)), some (.ref 0), some (.ref 127), some (.int t1.1)]) (st' := [.int (t1.1 + 2), .ref (eh_SB + 4), .int (eh_x g (eh_ix (t1.1 + 1))), .ref 127, .int q44.1]) [(.aload_n 0, 0), (.iload_n 3, 0), (.iconst 2, 2), (.iadd, 0)] (by decide +kernel) rfl rfl ?_
      refine ef_xld (by decide +kernel) (fun _ => ?_)
      refine es_blk (pc' := 494) (L' := [some (.ref (eh_SB + 4)), some (.ref 0), some (.ref 127), some (.int t1.1)]) (st' := [.int (t1.1 + 3), .ref (eh_SB + 4), .int (eh_x g (eh_ix (t1.1 + 2))), .int (eh_x g (eh_ix (t1.1 + 1))), .ref 127, .int q44.1]) [(.aload_n 0, 0), (.iload_n 3, 0), (.iconst 3, 3), (.iadd, 0)] (by decide +kernel) rfl rfl ?_
      refine ef_xld (by decide +kernel) (fun _ => ?_)
      refine ef_veI (d := 2) (k := 127) (As := [.int (eh_x g (eh_ix (t1.1 + 1))), .int (eh_x g (eh_ix (t1.1 + 2))), .int (eh_x g (eh_ix (t1.1 + 3)))]) (st := [.int q44.1]) eV_12_place eK_13_60 (eS_12_place g q44.2 (eh_x g (eh_ix (t1.1 + 1))) (eh_x g (eh_ix (t1.1 + 2))) (eh_x g (eh_ix (t1.1 + 3)))) rfl rfl (Nat.le_of_ble_eq_true rfl) rfl (Nat.le_of_ble_eq_true rfl) ⟨Nat.le_of_ble_eq_true rfl, Nat.le_of_ble_eq_true rfl⟩ ⟨Nat.le_refl _, Nat.le_refl _⟩ (by decide +kernel) (fun q45 _ => ?_)
      refine es_ieq (tgt := 1106) (off := (608)) (by decide +kernel) (by decide) (fun h46 => ?_) (fun h46 => ?_)
      · exact Hj7 _
      refine es_blk (pc' := 502) (L' := [some (.ref (eh_SB + 4)), some (.ref 0), some (.ref 127), some (.int t1.1)]) (st' := [.int 0]) [(.iconst 0, 0)] (by decide +kernel) rfl rfl ?_
      exact es_ret (Hret _) rfl rfl ⟨by decide +kernel, _, rfl, eh_narZ (Or.inl rfl)⟩ (Nat.le_refl _) (Nat.le_refl _)
    refine es_ifc (fun h47 => ?_) (fun h47 => ?_)
    · refine es_tsw (off := (460)) (tgt := 503) hs10 9 h47 (by decide) ?_
      refine es_blk (pc' := 508) (L' := [some (.ref (eh_SB + 4)), some (.ref 0), some (.ref 127), some (.int t1.1)]) (st' := [.int (t1.1 + 1), .ref (eh_SB + 4), .ref 0]) [(.aload_n 1, 0), (.aload_n 0, 0), (.iload_n 3, 0), (.iconst 1, 1), (.iadd, 0)] (by decide +kernel) rfl rfl ?_
      refine ef_xld (by decide +kernel) (fun _ => ?_)
      refine es_blk (pc' := 513) (L' := [some (.ref (eh_SB + 4)), some (.ref 0), some (.ref 127), some (.int t1.1)]) (st' := [.int (t1.1 + 2), .ref (eh_SB + 4), .int (eh_x g (eh_ix (t1.1 + 1))), .ref 0]) [(.aload_n 0, 0), (.iload_n 3, 0), (.iconst 2, 2), (.iadd, 0)] (by decide +kernel) rfl rfl ?_
      refine ef_xld (by decide +kernel) (fun _ => ?_)
      refine es_blk (pc' := 518) (L' := [some (.ref (eh_SB + 4)), some (.ref 0), some (.ref 127), some (.int t1.1)]) (st' := [.int (t1.1 + 3), .ref (eh_SB + 4), .int (eh_x g (eh_ix (t1.1 + 2))), .int (eh_x g (eh_ix (t1.1 + 1))), .ref 0]) [(.aload_n 0, 0), (.iload_n 3, 0), (.iconst 3, 3), (.iadd, 0)] (by decide +kernel) rfl rfl ?_
      refine ef_xld (by decide +kernel) (fun _ => ?_)
      refine ef_veI (d := 2) (k := 0) (As := [.int (eh_x g (eh_ix (t1.1 + 1))), .int (eh_x g (eh_ix (t1.1 + 2))), .int (eh_x g (eh_ix (t1.1 + 3)))]) (st := []) eV_11_setControl eK_13_61 (eS_11_setControl g t1.2 (eh_x g (eh_ix (t1.1 + 1))) (eh_x g (eh_ix (t1.1 + 2))) (eh_x g (eh_ix (t1.1 + 3)))) rfl rfl (Nat.le_of_ble_eq_true rfl) rfl (Nat.le_of_ble_eq_true rfl) ⟨Nat.le_of_ble_eq_true rfl, Nat.le_of_ble_eq_true rfl⟩ ⟨Nat.le_refl _, Nat.le_refl _⟩ (by decide +kernel) (fun q48 _ => ?_)
      refine es_blk (pc' := 527) (L' := [some (.ref (eh_SB + 4)), some (.ref 0), some (.ref 127), some (.int t1.1)]) (st' := [.int (t1.1 + 1), .ref (eh_SB + 4), .ref 127, .int q48.1]) [(.aload_n 2, 0), (.aload_n 0, 0), (.iload_n 3, 0), (.iconst 1, 1), (.iadd, 0)] (by decide +kernel) rfl rfl ?_
      refine ef_xld (by decide +kernel) (fun _ => ?_)
      refine es_blk (pc' := 532) (L' := [some (.ref (eh_SB + 4)), some (.ref 0), some (.ref 127), some (.int t1.1)]) (st' := [.int (t1.1 + 2), .ref (eh_SB + 4), .int (eh_x g (eh_ix (t1.1 + 1))), .ref 127, .int q48.1]) [(.aload_n 0, 0), (.iload_n 3, 0), (.iconst 2, 2), (.iadd, 0)] (by decide +kernel) rfl rfl ?_
      refine ef_xld (by decide +kernel) (fun _ => ?_)
      refine es_blk (pc' := 537) (L' := [some (.ref (eh_SB + 4)), some (.ref 0), some (.ref 127), some (.int t1.1)]) (st' := [.int (t1.1 + 3), .ref (eh_SB + 4), .int (eh_x g (eh_ix (t1.1 + 2))), .int (eh_x g (eh_ix (t1.1 + 1))), .ref 127, .int q48.1]) [(.aload_n 0, 0), (.iload_n 3, 0), (.iconst 3, 3), (.iadd, 0)] (by decide +kernel) rfl rfl ?_
      refine ef_xld (by decide +kernel) (fun _ => ?_)
      refine ef_veI (d := 2) (k := 127) (As := [.int (eh_x g (eh_ix (t1.1 + 1))), .int (eh_x g (eh_ix (t1.1 + 2))), .int (eh_x g (eh_ix (t1.1 + 3)))]) (st := [.int q48.1]) eV_12_setControl eK_13_64 (eS_12_setControl g q48.2 (eh_x g (eh_ix (t1.1 + 1))) (eh_x g (eh_ix (t1.1 + 2))) (eh_x g (eh_ix (t1.1 + 3)))) rfl rfl (Nat.le_of_ble_eq_true rfl) rfl (Nat.le_of_ble_eq_true rfl) ⟨Nat.le_of_ble_eq_true rfl, Nat.le_of_ble_eq_true rfl⟩ ⟨Nat.le_refl _, Nat.le_refl _⟩ (by decide +kernel) (fun q49 _ => ?_)
      refine es_ieq (tgt := 1106) (off := (565)) (by decide +kernel) (by decide) (fun h50 => ?_) (fun h50 => ?_)
      · exact Hj7 _
      refine es_blk (pc' := 545) (L' := [some (.ref (eh_SB + 4)), some (.ref 0), some (.ref 127), some (.int t1.1)]) (st' := [.int 0]) [(.iconst 0, 0)] (by decide +kernel) rfl rfl ?_
      exact es_ret (Hret _) rfl rfl ⟨by decide +kernel, _, rfl, eh_narZ (Or.inl rfl)⟩ (Nat.le_refl _) (Nat.le_refl _)
    refine es_ifc (fun h51 => ?_) (fun h51 => ?_)
    · refine es_tsw (off := (503)) (tgt := 546) hs10 10 h51 (by decide) ?_
      refine es_blk (pc' := 551) (L' := [some (.ref (eh_SB + 4)), some (.ref 0), some (.ref 127), some (.int t1.1)]) (st' := [.int (t1.1 + 1), .ref (eh_SB + 4), .ref 0]) [(.aload_n 1, 0), (.aload_n 0, 0), (.iload_n 3, 0), (.iconst 1, 1), (.iadd, 0)] (by decide +kernel) rfl rfl ?_
      refine ef_xld (by decide +kernel) (fun _ => ?_)
      refine es_blk (pc' := 556) (L' := [some (.ref (eh_SB + 4)), some (.ref 0), some (.ref 127), some (.int t1.1)]) (st' := [.int (t1.1 + 2), .ref (eh_SB + 4), .int (eh_x g (eh_ix (t1.1 + 1))), .ref 0]) [(.aload_n 0, 0), (.iload_n 3, 0), (.iconst 2, 2), (.iadd, 0)] (by decide +kernel) rfl rfl ?_
      refine ef_xld (by decide +kernel) (fun _ => ?_)
      refine ef_vpI (d := 4) (k := 0) (As := [.int (eh_x g (eh_ix (t1.1 + 1))), .int (eh_x g (eh_ix (t1.1 + 2)))]) (st := []) eV_11_control eK_13_65 (eS_11_control g t1.2 (eh_x g (eh_ix (t1.1 + 1))) (eh_x g (eh_ix (t1.1 + 2)))) rfl rfl (Nat.le_of_ble_eq_true rfl) rfl (Nat.le_of_ble_eq_true rfl) ⟨Nat.le_of_ble_eq_true rfl, Nat.le_of_ble_eq_true rfl⟩ ⟨Nat.le_refl _, Nat.le_refl _⟩ (by decide +kernel) (fun q52 _ => ?_)
      refine es_blk (pc' := 565) (L' := [some (.ref (eh_SB + 4)), some (.ref 0), some (.ref 127), some (.int t1.1)]) (st' := [.int (t1.1 + 1), .ref (eh_SB + 4), .ref 127, .int q52]) [(.aload_n 2, 0), (.aload_n 0, 0), (.iload_n 3, 0), (.iconst 1, 1), (.iadd, 0)] (by decide +kernel) rfl rfl ?_
      refine ef_xld (by decide +kernel) (fun _ => ?_)
      refine es_blk (pc' := 570) (L' := [some (.ref (eh_SB + 4)), some (.ref 0), some (.ref 127), some (.int t1.1)]) (st' := [.int (t1.1 + 2), .ref (eh_SB + 4), .int (eh_x g (eh_ix (t1.1 + 1))), .ref 127, .int q52]) [(.aload_n 0, 0), (.iload_n 3, 0), (.iconst 2, 2), (.iadd, 0)] (by decide +kernel) rfl rfl ?_
      refine ef_xld (by decide +kernel) (fun _ => ?_)
      refine ef_vpI (d := 5) (k := 127) (As := [.int (eh_x g (eh_ix (t1.1 + 1))), .int (eh_x g (eh_ix (t1.1 + 2)))]) (st := [.int q52]) eV_12_control_2 eK_13_68 (eS_12_control_2 g t1.2 (eh_x g (eh_ix (t1.1 + 1))) (eh_x g (eh_ix (t1.1 + 2)))) rfl rfl (Nat.le_of_ble_eq_true rfl) rfl (Nat.le_of_ble_eq_true rfl) ⟨Nat.le_of_ble_eq_true rfl, Nat.le_of_ble_eq_true rfl⟩ ⟨Nat.le_refl _, Nat.le_refl _⟩ (by decide +kernel) (fun q53 _ => ?_)
      refine es_ieq (tgt := 1106) (off := (532)) (by decide +kernel) (by decide) (fun h54 => ?_) (fun h54 => ?_)
      · exact Hj7 _
      refine es_blk (pc' := 578) (L' := [some (.ref (eh_SB + 4)), some (.ref 0), some (.ref 127), some (.int t1.1)]) (st' := [.int 0]) [(.iconst 0, 0)] (by decide +kernel) rfl rfl ?_
      exact es_ret (Hret _) rfl rfl ⟨by decide +kernel, _, rfl, eh_narZ (Or.inl rfl)⟩ (Nat.le_refl _) (Nat.le_refl _)
    refine es_ifc (fun h55 => ?_) (fun h55 => ?_)
    · refine es_tsw (off := (536)) (tgt := 579) hs10 11 h55 (by decide) ?_
      refine es_blk (pc' := 584) (L' := [some (.ref (eh_SB + 4)), some (.ref 0), some (.ref 127), some (.int t1.1)]) (st' := [.int (t1.1 + 1), .ref (eh_SB + 4), .ref 0]) [(.aload_n 1, 0), (.aload_n 0, 0), (.iload_n 3, 0), (.iconst 1, 1), (.iadd, 0)] (by decide +kernel) rfl rfl ?_
      refine ef_xld (by decide +kernel) (fun _ => ?_)
      refine es_blk (pc' := 589) (L' := [some (.ref (eh_SB + 4)), some (.ref 0), some (.ref 127), some (.int t1.1)]) (st' := [.int (t1.1 + 2), .ref (eh_SB + 4), .int (eh_x g (eh_ix (t1.1 + 1))), .ref 0]) [(.aload_n 0, 0), (.iload_n 3, 0), (.iconst 2, 2), (.iadd, 0)] (by decide +kernel) rfl rfl ?_
      refine ef_xld (by decide +kernel) (fun _ => ?_)
      refine es_blk (pc' := 594) (L' := [some (.ref (eh_SB + 4)), some (.ref 0), some (.ref 127), some (.int t1.1)]) (st' := [.int (t1.1 + 3), .ref (eh_SB + 4), .int (eh_x g (eh_ix (t1.1 + 2))), .int (eh_x g (eh_ix (t1.1 + 1))), .ref 0]) [(.aload_n 0, 0), (.iload_n 3, 0), (.iconst 3, 3), (.iadd, 0)] (by decide +kernel) rfl rfl ?_
      refine ef_xld (by decide +kernel) (fun _ => ?_)
      refine es_blk (pc' := 599) (L' := [some (.ref (eh_SB + 4)), some (.ref 0), some (.ref 127), some (.int t1.1)]) (st' := [.int (t1.1 + 4), .ref (eh_SB + 4), .int (eh_x g (eh_ix (t1.1 + 3))), .int (eh_x g (eh_ix (t1.1 + 2))), .int (eh_x g (eh_ix (t1.1 + 1))), .ref 0]) [(.aload_n 0, 0), (.iload_n 3, 0), (.iconst 4, 4), (.iadd, 0)] (by decide +kernel) rfl rfl ?_
      refine ef_xld (by decide +kernel) (fun _ => ?_)
      refine es_blk (pc' := 604) (L' := [some (.ref (eh_SB + 4)), some (.ref 0), some (.ref 127), some (.int t1.1)]) (st' := [.int (t1.1 + 5), .ref (eh_SB + 4), .int (eh_x g (eh_ix (t1.1 + 4))), .int (eh_x g (eh_ix (t1.1 + 3))), .int (eh_x g (eh_ix (t1.1 + 2))), .int (eh_x g (eh_ix (t1.1 + 1))), .ref 0]) [(.aload_n 0, 0), (.iload_n 3, 0), (.iconst 5, 5), (.iadd, 0)] (by decide +kernel) rfl rfl ?_
      refine ef_xld (by decide +kernel) (fun _ => ?_)
      refine es_blk (pc' := 610) (L' := [some (.ref (eh_SB + 4)), some (.ref 0), some (.ref 127), some (.int t1.1)]) (st' := [.int (t1.1 + 6), .ref (eh_SB + 4), .int (eh_x g (eh_ix (t1.1 + 5))), .int (eh_x g (eh_ix (t1.1 + 4))), .int (eh_x g (eh_ix (t1.1 + 3))), .int (eh_x g (eh_ix (t1.1 + 2))), .int (eh_x g (eh_ix (t1.1 + 1))), .ref 0]) [(.aload_n 0, 0), (.iload_n 3, 0), (.bipush 6, 6), (.iadd, 0)] (by decide +kernel) rfl rfl ?_
      refine ef_xld (by decide +kernel) (fun _ => ?_)
      refine ef_veI (d := 7) (k := 0) (As := [.int (eh_x g (eh_ix (t1.1 + 1))), .int (eh_x g (eh_ix (t1.1 + 2))), .int (eh_x g (eh_ix (t1.1 + 3))), .int (eh_x g (eh_ix (t1.1 + 4))), .int (eh_x g (eh_ix (t1.1 + 5))), .int (eh_x g (eh_ix (t1.1 + 6)))]) (st := []) eV_11_call eK_13_69 (eS_11_call g t1.2 (eh_x g (eh_ix (t1.1 + 1))) (eh_x g (eh_ix (t1.1 + 2))) (eh_x g (eh_ix (t1.1 + 3))) (eh_x g (eh_ix (t1.1 + 4))) (eh_x g (eh_ix (t1.1 + 5))) (eh_x g (eh_ix (t1.1 + 6)))) rfl rfl (Nat.le_of_ble_eq_true rfl) rfl (Nat.le_of_ble_eq_true rfl) ⟨Nat.le_of_ble_eq_true rfl, Nat.le_of_ble_eq_true rfl⟩ ⟨Nat.le_refl _, Nat.le_refl _⟩ (by decide +kernel) (fun q56 _ => ?_)
      refine es_blk (pc' := 619) (L' := [some (.ref (eh_SB + 4)), some (.ref 0), some (.ref 127), some (.int t1.1)]) (st' := [.int (t1.1 + 1), .ref (eh_SB + 4), .ref 127, .int q56.1]) [(.aload_n 2, 0), (.aload_n 0, 0), (.iload_n 3, 0), (.iconst 1, 1), (.iadd, 0)] (by decide +kernel) rfl rfl ?_
      refine ef_xld (by decide +kernel) (fun _ => ?_)
      refine es_blk (pc' := 624) (L' := [some (.ref (eh_SB + 4)), some (.ref 0), some (.ref 127), some (.int t1.1)]) (st' := [.int (t1.1 + 2), .ref (eh_SB + 4), .int (eh_x g (eh_ix (t1.1 + 1))), .ref 127, .int q56.1]) [(.aload_n 0, 0), (.iload_n 3, 0), (.iconst 2, 2), (.iadd, 0)] (by decide +kernel) rfl rfl ?_
      refine ef_xld (by decide +kernel) (fun _ => ?_)
      refine es_blk (pc' := 629) (L' := [some (.ref (eh_SB + 4)), some (.ref 0), some (.ref 127), some (.int t1.1)]) (st' := [.int (t1.1 + 3), .ref (eh_SB + 4), .int (eh_x g (eh_ix (t1.1 + 2))), .int (eh_x g (eh_ix (t1.1 + 1))), .ref 127, .int q56.1]) [(.aload_n 0, 0), (.iload_n 3, 0), (.iconst 3, 3), (.iadd, 0)] (by decide +kernel) rfl rfl ?_
      refine ef_xld (by decide +kernel) (fun _ => ?_)
      refine es_blk (pc' := 634) (L' := [some (.ref (eh_SB + 4)), some (.ref 0), some (.ref 127), some (.int t1.1)]) (st' := [.int (t1.1 + 4), .ref (eh_SB + 4), .int (eh_x g (eh_ix (t1.1 + 3))), .int (eh_x g (eh_ix (t1.1 + 2))), .int (eh_x g (eh_ix (t1.1 + 1))), .ref 127, .int q56.1]) [(.aload_n 0, 0), (.iload_n 3, 0), (.iconst 4, 4), (.iadd, 0)] (by decide +kernel) rfl rfl ?_
      refine ef_xld (by decide +kernel) (fun _ => ?_)
      refine es_blk (pc' := 639) (L' := [some (.ref (eh_SB + 4)), some (.ref 0), some (.ref 127), some (.int t1.1)]) (st' := [.int (t1.1 + 5), .ref (eh_SB + 4), .int (eh_x g (eh_ix (t1.1 + 4))), .int (eh_x g (eh_ix (t1.1 + 3))), .int (eh_x g (eh_ix (t1.1 + 2))), .int (eh_x g (eh_ix (t1.1 + 1))), .ref 127, .int q56.1]) [(.aload_n 0, 0), (.iload_n 3, 0), (.iconst 5, 5), (.iadd, 0)] (by decide +kernel) rfl rfl ?_
      refine ef_xld (by decide +kernel) (fun _ => ?_)
      refine es_blk (pc' := 645) (L' := [some (.ref (eh_SB + 4)), some (.ref 0), some (.ref 127), some (.int t1.1)]) (st' := [.int (t1.1 + 6), .ref (eh_SB + 4), .int (eh_x g (eh_ix (t1.1 + 5))), .int (eh_x g (eh_ix (t1.1 + 4))), .int (eh_x g (eh_ix (t1.1 + 3))), .int (eh_x g (eh_ix (t1.1 + 2))), .int (eh_x g (eh_ix (t1.1 + 1))), .ref 127, .int q56.1]) [(.aload_n 0, 0), (.iload_n 3, 0), (.bipush 6, 6), (.iadd, 0)] (by decide +kernel) rfl rfl ?_
      refine ef_xld (by decide +kernel) (fun _ => ?_)
      refine ef_veI (d := 8) (k := 127) (As := [.int (eh_x g (eh_ix (t1.1 + 1))), .int (eh_x g (eh_ix (t1.1 + 2))), .int (eh_x g (eh_ix (t1.1 + 3))), .int (eh_x g (eh_ix (t1.1 + 4))), .int (eh_x g (eh_ix (t1.1 + 5))), .int (eh_x g (eh_ix (t1.1 + 6)))]) (st := [.int q56.1]) eV_12_call eK_13_72 (eS_12_call g q56.2 (eh_x g (eh_ix (t1.1 + 1))) (eh_x g (eh_ix (t1.1 + 2))) (eh_x g (eh_ix (t1.1 + 3))) (eh_x g (eh_ix (t1.1 + 4))) (eh_x g (eh_ix (t1.1 + 5))) (eh_x g (eh_ix (t1.1 + 6)))) rfl rfl (Nat.le_of_ble_eq_true rfl) rfl (Nat.le_of_ble_eq_true rfl) ⟨Nat.le_of_ble_eq_true rfl, Nat.le_of_ble_eq_true rfl⟩ ⟨Nat.le_refl _, Nat.le_refl _⟩ (by decide +kernel) (fun q57 _ => ?_)
      refine es_ieq (tgt := 1106) (off := (457)) (by decide +kernel) (by decide) (fun h58 => ?_) (fun h58 => ?_)
      · exact Hj7 _
      refine es_blk (pc' := 653) (L' := [some (.ref (eh_SB + 4)), some (.ref 0), some (.ref 127), some (.int t1.1)]) (st' := [.int 0]) [(.iconst 0, 0)] (by decide +kernel) rfl rfl ?_
      exact es_ret (Hret _) rfl rfl ⟨by decide +kernel, _, rfl, eh_narZ (Or.inl rfl)⟩ (Nat.le_refl _) (Nat.le_refl _)
    refine es_ifc (fun h59 => ?_) (fun h59 => ?_)
    · refine es_tsw (off := (611)) (tgt := 654) hs10 12 h59 (by decide) ?_
      refine es_blk (pc' := 659) (L' := [some (.ref (eh_SB + 4)), some (.ref 0), some (.ref 127), some (.int t1.1)]) (st' := [.int (t1.1 + 1), .ref (eh_SB + 4), .ref 0]) [(.aload_n 1, 0), (.aload_n 0, 0), (.iload_n 3, 0), (.iconst 1, 1), (.iadd, 0)] (by decide +kernel) rfl rfl ?_
      refine ef_xld (by decide +kernel) (fun _ => ?_)
      refine ef_veI (d := 8) (k := 0) (As := [.int (eh_x g (eh_ix (t1.1 + 1)))]) (st := []) eV_11_run eK_13_73 (eS_11_run g t1.2 (eh_x g (eh_ix (t1.1 + 1)))) rfl rfl (Nat.le_of_ble_eq_true rfl) rfl (Nat.le_of_ble_eq_true rfl) ⟨Nat.le_of_ble_eq_true rfl, Nat.le_of_ble_eq_true rfl⟩ ⟨Nat.le_refl _, Nat.le_refl _⟩ (by decide +kernel) (fun q60 _ => ?_)
      refine es_blk (pc' := 668) (L' := [some (.ref (eh_SB + 4)), some (.ref 0), some (.ref 127), some (.int t1.1)]) (st' := [.int (t1.1 + 1), .ref (eh_SB + 4), .ref 127, .int q60.1]) [(.aload_n 2, 0), (.aload_n 0, 0), (.iload_n 3, 0), (.iconst 1, 1), (.iadd, 0)] (by decide +kernel) rfl rfl ?_
      refine ef_xld (by decide +kernel) (fun _ => ?_)
      refine ef_veI (d := 14) (k := 127) (As := [.int (eh_x g (eh_ix (t1.1 + 1)))]) (st := [.int q60.1]) eV_12_run_2 eK_13_76 (eS_12_run_2 g q60.2 (eh_x g (eh_ix (t1.1 + 1)))) rfl rfl (Nat.le_of_ble_eq_true rfl) rfl (Nat.le_of_ble_eq_true rfl) ⟨Nat.le_of_ble_eq_true rfl, Nat.le_of_ble_eq_true rfl⟩ ⟨Nat.le_refl _, Nat.le_refl _⟩ (by decide +kernel) (fun q61 _ => ?_)
      refine es_ieq (tgt := 1106) (off := (434)) (by decide +kernel) (by decide) (fun h62 => ?_) (fun h62 => ?_)
      · exact Hj7 _
      refine es_blk (pc' := 676) (L' := [some (.ref (eh_SB + 4)), some (.ref 0), some (.ref 127), some (.int t1.1)]) (st' := [.int 0]) [(.iconst 0, 0)] (by decide +kernel) rfl rfl ?_
      exact es_ret (Hret _) rfl rfl ⟨by decide +kernel, _, rfl, eh_narZ (Or.inl rfl)⟩ (Nat.le_refl _) (Nat.le_refl _)
    refine es_ifc (fun h63 => ?_) (fun h63 => ?_)
    · refine es_tsw (off := (634)) (tgt := 677) hs10 13 h63 (by decide) ?_
      refine es_blk (pc' := 682) (L' := [some (.ref (eh_SB + 4)), some (.ref 0), some (.ref 127), some (.int t1.1)]) (st' := [.int (t1.1 + 1), .ref (eh_SB + 4), .ref 0]) [(.aload_n 1, 0), (.aload_n 0, 0), (.iload_n 3, 0), (.iconst 1, 1), (.iadd, 0)] (by decide +kernel) rfl rfl ?_
      refine ef_xld (by decide +kernel) (fun _ => ?_)
      refine ef_veI (d := 2) (k := 0) (As := [.int (eh_x g (eh_ix (t1.1 + 1)))]) (st := []) eV_11_type eK_13_77 (eS_11_type g t1.2 (eh_x g (eh_ix (t1.1 + 1)))) rfl rfl (Nat.le_of_ble_eq_true rfl) rfl (Nat.le_of_ble_eq_true rfl) ⟨Nat.le_of_ble_eq_true rfl, Nat.le_of_ble_eq_true rfl⟩ ⟨Nat.le_refl _, Nat.le_refl _⟩ (by decide +kernel) (fun q64 _ => ?_)
      refine es_blk (pc' := 691) (L' := [some (.ref (eh_SB + 4)), some (.ref 0), some (.ref 127), some (.int t1.1)]) (st' := [.int (t1.1 + 1), .ref (eh_SB + 4), .ref 127, .int q64.1]) [(.aload_n 2, 0), (.aload_n 0, 0), (.iload_n 3, 0), (.iconst 1, 1), (.iadd, 0)] (by decide +kernel) rfl rfl ?_
      refine ef_xld (by decide +kernel) (fun _ => ?_)
      refine ef_veI (d := 1) (k := 127) (As := [.int (eh_x g (eh_ix (t1.1 + 1)))]) (st := [.int q64.1]) eV_12_type eK_13_80 (eS_12_type g q64.2 (eh_x g (eh_ix (t1.1 + 1)))) rfl rfl (Nat.le_of_ble_eq_true rfl) rfl (Nat.le_of_ble_eq_true rfl) ⟨Nat.le_of_ble_eq_true rfl, Nat.le_of_ble_eq_true rfl⟩ ⟨Nat.le_refl _, Nat.le_refl _⟩ (by decide +kernel) (fun q65 _ => ?_)
      refine es_ieq (tgt := 1106) (off := (411)) (by decide +kernel) (by decide) (fun h66 => ?_) (fun h66 => ?_)
      · exact Hj7 _
      refine es_blk (pc' := 699) (L' := [some (.ref (eh_SB + 4)), some (.ref 0), some (.ref 127), some (.int t1.1)]) (st' := [.int 0]) [(.iconst 0, 0)] (by decide +kernel) rfl rfl ?_
      exact es_ret (Hret _) rfl rfl ⟨by decide +kernel, _, rfl, eh_narZ (Or.inl rfl)⟩ (Nat.le_refl _) (Nat.le_refl _)
    refine es_ifc (fun h67 => ?_) (fun h67 => ?_)
    · refine es_tsw (off := (657)) (tgt := 700) hs10 14 h67 (by decide) ?_
      refine es_blk (pc' := 705) (L' := [some (.ref (eh_SB + 4)), some (.ref 0), some (.ref 127), some (.int t1.1)]) (st' := [.int (t1.1 + 1), .ref (eh_SB + 4), .ref 0]) [(.aload_n 1, 0), (.aload_n 0, 0), (.iload_n 3, 0), (.iconst 1, 1), (.iadd, 0)] (by decide +kernel) rfl rfl ?_
      refine ef_xld (by decide +kernel) (fun _ => ?_)
      refine ef_vpI (d := 2) (k := 0) (As := [.int (eh_x g (eh_ix (t1.1 + 1)))]) (st := []) eV_11_panel eK_13_81 (eS_11_panel g t1.2 (eh_x g (eh_ix (t1.1 + 1)))) rfl rfl (Nat.le_of_ble_eq_true rfl) rfl (Nat.le_of_ble_eq_true rfl) ⟨Nat.le_of_ble_eq_true rfl, Nat.le_of_ble_eq_true rfl⟩ ⟨Nat.le_refl _, Nat.le_refl _⟩ (by decide +kernel) (fun q68 _ => ?_)
      refine es_blk (pc' := 714) (L' := [some (.ref (eh_SB + 4)), some (.ref 0), some (.ref 127), some (.int t1.1)]) (st' := [.int (t1.1 + 1), .ref (eh_SB + 4), .ref 127, .int q68]) [(.aload_n 2, 0), (.aload_n 0, 0), (.iload_n 3, 0), (.iconst 1, 1), (.iadd, 0)] (by decide +kernel) rfl rfl ?_
      refine ef_xld (by decide +kernel) (fun _ => ?_)
      refine ef_vpI (d := 1) (k := 127) (As := [.int (eh_x g (eh_ix (t1.1 + 1)))]) (st := [.int q68]) eV_12_panel eK_13_84 (eS_12_panel g t1.2 (eh_x g (eh_ix (t1.1 + 1)))) rfl rfl (Nat.le_of_ble_eq_true rfl) rfl (Nat.le_of_ble_eq_true rfl) ⟨Nat.le_of_ble_eq_true rfl, Nat.le_of_ble_eq_true rfl⟩ ⟨Nat.le_refl _, Nat.le_refl _⟩ (by decide +kernel) (fun q69 _ => ?_)
      refine es_ieq (tgt := 1106) (off := (388)) (by decide +kernel) (by decide) (fun h70 => ?_) (fun h70 => ?_)
      · exact Hj7 _
      refine es_blk (pc' := 722) (L' := [some (.ref (eh_SB + 4)), some (.ref 0), some (.ref 127), some (.int t1.1)]) (st' := [.int 0]) [(.iconst 0, 0)] (by decide +kernel) rfl rfl ?_
      exact es_ret (Hret _) rfl rfl ⟨by decide +kernel, _, rfl, eh_narZ (Or.inl rfl)⟩ (Nat.le_refl _) (Nat.le_refl _)
    refine es_ifc (fun h71 => ?_) (fun h71 => ?_)
    · refine es_tsw (off := (680)) (tgt := 723) hs10 15 h71 (by decide) ?_
      refine es_blk (pc' := 728) (L' := [some (.ref (eh_SB + 4)), some (.ref 0), some (.ref 127), some (.int t1.1)]) (st' := [.int (t1.1 + 1), .ref (eh_SB + 4), .ref 0]) [(.aload_n 1, 0), (.aload_n 0, 0), (.iload_n 3, 0), (.iconst 1, 1), (.iadd, 0)] (by decide +kernel) rfl rfl ?_
      refine ef_xld (by decide +kernel) (fun _ => ?_)
      refine ef_J (X := fun j72 => ∀ (a73 : Int32), eh_Sim g eM_13_law room_1 eh_eI 600000 7302250 737 [some (.ref (eh_SB + 4)), some (.ref 0), some (.ref 127), some (.int t1.1)] [.int a73, .ref 0] (eh_FW t1.2) ((j72 a73).bind K3)) ?_ (fun j72 Hj72 => ?_)
      · intro a73
        refine ef_veI (d := 1) (k := 0) (As := [.int a73]) (st := []) eV_11_line eK_13_85 (eS_11_line g t1.2 a73) rfl rfl (Nat.le_of_ble_eq_true rfl) rfl (Nat.le_of_ble_eq_true rfl) ⟨Nat.le_of_ble_eq_true rfl, Nat.le_of_ble_eq_true rfl⟩ ⟨Nat.le_refl _, Nat.le_refl _⟩ (by decide +kernel) (fun q74 _ => ?_)
        refine es_blk (pc' := 745) (L' := [some (.ref (eh_SB + 4)), some (.ref 0), some (.ref 127), some (.int t1.1)]) (st' := [.int (t1.1 + 1), .ref (eh_SB + 4), .ref 127, .int q74.1]) [(.aload_n 2, 0), (.aload_n 0, 0), (.iload_n 3, 0), (.iconst 1, 1), (.iadd, 0)] (by decide +kernel) rfl rfl ?_
        refine ef_xld (by decide +kernel) (fun _ => ?_)
        refine ef_J (X := fun j75 => ∀ (a76 : Int32), eh_Sim g eM_13_law room_1 eh_eI 600000 7302250 754 [some (.ref (eh_SB + 4)), some (.ref 0), some (.ref 127), some (.int t1.1)] [.int a76, .ref 127, .int q74.1] (eh_FW q74.2) ((j75 a76).bind K3)) ?_ (fun j75 Hj75 => ?_)
        · intro a76
          refine ef_veI (d := 1) (k := 127) (As := [.int a76]) (st := [.int q74.1]) eV_12_line eK_13_89 (eS_12_line g q74.2 a76) rfl rfl (Nat.le_of_ble_eq_true rfl) rfl (Nat.le_of_ble_eq_true rfl) ⟨Nat.le_of_ble_eq_true rfl, Nat.le_of_ble_eq_true rfl⟩ ⟨Nat.le_refl _, Nat.le_refl _⟩ (by decide +kernel) (fun q77 _ => ?_)
          refine es_ieq (tgt := 1106) (off := (349)) (by decide +kernel) (by decide) (fun h78 => ?_) (fun h78 => ?_)
          · exact Hj7 _
          refine es_blk (pc' := 761) (L' := [some (.ref (eh_SB + 4)), some (.ref 0), some (.ref 127), some (.int t1.1)]) (st' := [.int 0]) [(.iconst 0, 0)] (by decide +kernel) rfl rfl ?_
          exact es_ret (Hret _) rfl rfl ⟨by decide +kernel, _, rfl, eh_narZ (Or.inl rfl)⟩ (Nat.le_refl _) (Nat.le_refl _)
        refine es_eq (tgt := 753) (off := (7)) (by decide +kernel) (by decide) (fun h79 => ?_) (fun h79 => ?_)
        · refine es_blk (pc' := 754) (L' := [some (.ref (eh_SB + 4)), some (.ref 0), some (.ref 127), some (.int t1.1)]) (st' := [.int 0, .ref 127, .int q74.1]) [(.iconst 0, 0)] (by decide +kernel) rfl rfl ?_
          exact Hj75 _
        refine es_blk (pc' := 750) (L' := [some (.ref (eh_SB + 4)), some (.ref 0), some (.ref 127), some (.int t1.1)]) (st' := [.int 1, .ref 127, .int q74.1]) [(.iconst 1, 1)] (by decide +kernel) rfl rfl ?_
        refine es_goto (tgt := 754) (off := (4)) (by decide +kernel) (by decide) ?_
        exact Hj75 _
      refine es_eq (tgt := 736) (off := (7)) (by decide +kernel) (by decide) (fun h80 => ?_) (fun h80 => ?_)
      · refine es_blk (pc' := 737) (L' := [some (.ref (eh_SB + 4)), some (.ref 0), some (.ref 127), some (.int t1.1)]) (st' := [.int 0, .ref 0]) [(.iconst 0, 0)] (by decide +kernel) rfl rfl ?_
        exact Hj72 _
      refine es_blk (pc' := 733) (L' := [some (.ref (eh_SB + 4)), some (.ref 0), some (.ref 127), some (.int t1.1)]) (st' := [.int 1, .ref 0]) [(.iconst 1, 1)] (by decide +kernel) rfl rfl ?_
      refine es_goto (tgt := 737) (off := (4)) (by decide +kernel) (by decide) ?_
      exact Hj72 _
    refine es_ifc (fun h81 => ?_) (fun h81 => ?_)
    · refine es_tsw (off := (719)) (tgt := 762) hs10 16 h81 (by decide) ?_
      refine es_blk (pc' := 767) (L' := [some (.ref (eh_SB + 4)), some (.ref 0), some (.ref 127), some (.int t1.1)]) (st' := [.int (t1.1 + 1), .ref (eh_SB + 4), .ref 0]) [(.aload_n 1, 0), (.aload_n 0, 0), (.iload_n 3, 0), (.iconst 1, 1), (.iadd, 0)] (by decide +kernel) rfl rfl ?_
      refine ef_xld (by decide +kernel) (fun _ => ?_)
      refine es_blk (pc' := 772) (L' := [some (.ref (eh_SB + 4)), some (.ref 0), some (.ref 127), some (.int t1.1)]) (st' := [.int (t1.1 + 2), .ref (eh_SB + 4), .int (eh_x g (eh_ix (t1.1 + 1))), .ref 0]) [(.aload_n 0, 0), (.iload_n 3, 0), (.iconst 2, 2), (.iadd, 0)] (by decide +kernel) rfl rfl ?_
      refine ef_xld (by decide +kernel) (fun _ => ?_)
      refine ef_vpI (d := 2) (k := 0) (As := [.int (eh_x g (eh_ix (t1.1 + 1))), .int (eh_x g (eh_ix (t1.1 + 2)))]) (st := []) eV_11_enclave eK_13_90 (eS_11_enclave g t1.2 (eh_x g (eh_ix (t1.1 + 1))) (eh_x g (eh_ix (t1.1 + 2)))) rfl rfl (Nat.le_of_ble_eq_true rfl) rfl (Nat.le_of_ble_eq_true rfl) ⟨Nat.le_of_ble_eq_true rfl, Nat.le_of_ble_eq_true rfl⟩ ⟨Nat.le_refl _, Nat.le_refl _⟩ (by decide +kernel) (fun q82 _ => ?_)
      refine es_blk (pc' := 781) (L' := [some (.ref (eh_SB + 4)), some (.ref 0), some (.ref 127), some (.int t1.1)]) (st' := [.int (t1.1 + 1), .ref (eh_SB + 4), .ref 127, .int q82]) [(.aload_n 2, 0), (.aload_n 0, 0), (.iload_n 3, 0), (.iconst 1, 1), (.iadd, 0)] (by decide +kernel) rfl rfl ?_
      refine ef_xld (by decide +kernel) (fun _ => ?_)
      refine es_blk (pc' := 786) (L' := [some (.ref (eh_SB + 4)), some (.ref 0), some (.ref 127), some (.int t1.1)]) (st' := [.int (t1.1 + 2), .ref (eh_SB + 4), .int (eh_x g (eh_ix (t1.1 + 1))), .ref 127, .int q82]) [(.aload_n 0, 0), (.iload_n 3, 0), (.iconst 2, 2), (.iadd, 0)] (by decide +kernel) rfl rfl ?_
      refine ef_xld (by decide +kernel) (fun _ => ?_)
      refine ef_vpI (d := 2) (k := 127) (As := [.int (eh_x g (eh_ix (t1.1 + 1))), .int (eh_x g (eh_ix (t1.1 + 2)))]) (st := [.int q82]) eV_12_enclave eK_13_93 (eS_12_enclave g t1.2 (eh_x g (eh_ix (t1.1 + 1))) (eh_x g (eh_ix (t1.1 + 2)))) rfl rfl (Nat.le_of_ble_eq_true rfl) rfl (Nat.le_of_ble_eq_true rfl) ⟨Nat.le_of_ble_eq_true rfl, Nat.le_of_ble_eq_true rfl⟩ ⟨Nat.le_refl _, Nat.le_refl _⟩ (by decide +kernel) (fun q83 _ => ?_)
      refine es_ieq (tgt := 1106) (off := (316)) (by decide +kernel) (by decide) (fun h84 => ?_) (fun h84 => ?_)
      · exact Hj7 _
      refine es_blk (pc' := 794) (L' := [some (.ref (eh_SB + 4)), some (.ref 0), some (.ref 127), some (.int t1.1)]) (st' := [.int 0]) [(.iconst 0, 0)] (by decide +kernel) rfl rfl ?_
      exact es_ret (Hret _) rfl rfl ⟨by decide +kernel, _, rfl, eh_narZ (Or.inl rfl)⟩ (Nat.le_refl _) (Nat.le_refl _)
    refine es_ifc (fun h85 => ?_) (fun h85 => ?_)
    · refine es_tsw (off := (752)) (tgt := 795) hs10 17 h85 (by decide) ?_
      refine es_blk (pc' := 800) (L' := [some (.ref (eh_SB + 4)), some (.ref 0), some (.ref 127), some (.int t1.1)]) (st' := [.int (t1.1 + 1), .ref (eh_SB + 4), .ref 0]) [(.aload_n 1, 0), (.aload_n 0, 0), (.iload_n 3, 0), (.iconst 1, 1), (.iadd, 0)] (by decide +kernel) rfl rfl ?_
      refine ef_xld (by decide +kernel) (fun _ => ?_)
      refine es_blk (pc' := 805) (L' := [some (.ref (eh_SB + 4)), some (.ref 0), some (.ref 127), some (.int t1.1)]) (st' := [.int (t1.1 + 2), .ref (eh_SB + 4), .int (eh_x g (eh_ix (t1.1 + 1))), .ref 0]) [(.aload_n 0, 0), (.iload_n 3, 0), (.iconst 2, 2), (.iadd, 0)] (by decide +kernel) rfl rfl ?_
      refine ef_xld (by decide +kernel) (fun _ => ?_)
      refine ef_vpI (d := 1) (k := 0) (As := [.int (eh_x g (eh_ix (t1.1 + 1))), .int (eh_x g (eh_ix (t1.1 + 2)))]) (st := []) eV_11_thread eK_13_94 (eS_11_thread g t1.2 (eh_x g (eh_ix (t1.1 + 1))) (eh_x g (eh_ix (t1.1 + 2)))) rfl rfl (Nat.le_of_ble_eq_true rfl) rfl (Nat.le_of_ble_eq_true rfl) ⟨Nat.le_of_ble_eq_true rfl, Nat.le_of_ble_eq_true rfl⟩ ⟨Nat.le_refl _, Nat.le_refl _⟩ (by decide +kernel) (fun q86 _ => ?_)
      refine es_blk (pc' := 814) (L' := [some (.ref (eh_SB + 4)), some (.ref 0), some (.ref 127), some (.int t1.1)]) (st' := [.int (t1.1 + 1), .ref (eh_SB + 4), .ref 127, .int q86]) [(.aload_n 2, 0), (.aload_n 0, 0), (.iload_n 3, 0), (.iconst 1, 1), (.iadd, 0)] (by decide +kernel) rfl rfl ?_
      refine ef_xld (by decide +kernel) (fun _ => ?_)
      refine es_blk (pc' := 819) (L' := [some (.ref (eh_SB + 4)), some (.ref 0), some (.ref 127), some (.int t1.1)]) (st' := [.int (t1.1 + 2), .ref (eh_SB + 4), .int (eh_x g (eh_ix (t1.1 + 1))), .ref 127, .int q86]) [(.aload_n 0, 0), (.iload_n 3, 0), (.iconst 2, 2), (.iadd, 0)] (by decide +kernel) rfl rfl ?_
      refine ef_xld (by decide +kernel) (fun _ => ?_)
      refine ef_vpI (d := 1) (k := 127) (As := [.int (eh_x g (eh_ix (t1.1 + 1))), .int (eh_x g (eh_ix (t1.1 + 2)))]) (st := [.int q86]) eV_12_thread eK_13_97 (eS_12_thread g t1.2 (eh_x g (eh_ix (t1.1 + 1))) (eh_x g (eh_ix (t1.1 + 2)))) rfl rfl (Nat.le_of_ble_eq_true rfl) rfl (Nat.le_of_ble_eq_true rfl) ⟨Nat.le_of_ble_eq_true rfl, Nat.le_of_ble_eq_true rfl⟩ ⟨Nat.le_refl _, Nat.le_refl _⟩ (by decide +kernel) (fun q87 _ => ?_)
      refine es_ieq (tgt := 1106) (off := (283)) (by decide +kernel) (by decide) (fun h88 => ?_) (fun h88 => ?_)
      · exact Hj7 _
      refine es_blk (pc' := 827) (L' := [some (.ref (eh_SB + 4)), some (.ref 0), some (.ref 127), some (.int t1.1)]) (st' := [.int 0]) [(.iconst 0, 0)] (by decide +kernel) rfl rfl ?_
      exact es_ret (Hret _) rfl rfl ⟨by decide +kernel, _, rfl, eh_narZ (Or.inl rfl)⟩ (Nat.le_refl _) (Nat.le_refl _)
    refine es_ifc (fun h89 => ?_) (fun h89 => ?_)
    · refine es_tsw (off := (785)) (tgt := 828) hs10 18 h89 (by decide) ?_
      refine es_blk (pc' := 833) (L' := [some (.ref (eh_SB + 4)), some (.ref 0), some (.ref 127), some (.int t1.1)]) (st' := [.int (t1.1 + 1), .ref (eh_SB + 4), .ref 0]) [(.aload_n 1, 0), (.aload_n 0, 0), (.iload_n 3, 0), (.iconst 1, 1), (.iadd, 0)] (by decide +kernel) rfl rfl ?_
      refine ef_xld (by decide +kernel) (fun _ => ?_)
      refine es_blk (pc' := 838) (L' := [some (.ref (eh_SB + 4)), some (.ref 0), some (.ref 127), some (.int t1.1)]) (st' := [.int (t1.1 + 2), .ref (eh_SB + 4), .int (eh_x g (eh_ix (t1.1 + 1))), .ref 0]) [(.aload_n 0, 0), (.iload_n 3, 0), (.iconst 2, 2), (.iadd, 0)] (by decide +kernel) rfl rfl ?_
      refine ef_xld (by decide +kernel) (fun _ => ?_)
      refine ef_vpI (d := 1) (k := 0) (As := [.int (eh_x g (eh_ix (t1.1 + 1))), .int (eh_x g (eh_ix (t1.1 + 2)))]) (st := []) eV_11_region eK_13_98 (eS_11_region g t1.2 (eh_x g (eh_ix (t1.1 + 1))) (eh_x g (eh_ix (t1.1 + 2)))) rfl rfl (Nat.le_of_ble_eq_true rfl) rfl (Nat.le_of_ble_eq_true rfl) ⟨Nat.le_of_ble_eq_true rfl, Nat.le_of_ble_eq_true rfl⟩ ⟨Nat.le_refl _, Nat.le_refl _⟩ (by decide +kernel) (fun q90 _ => ?_)
      refine es_blk (pc' := 847) (L' := [some (.ref (eh_SB + 4)), some (.ref 0), some (.ref 127), some (.int t1.1)]) (st' := [.int (t1.1 + 1), .ref (eh_SB + 4), .ref 127, .int q90]) [(.aload_n 2, 0), (.aload_n 0, 0), (.iload_n 3, 0), (.iconst 1, 1), (.iadd, 0)] (by decide +kernel) rfl rfl ?_
      refine ef_xld (by decide +kernel) (fun _ => ?_)
      refine es_blk (pc' := 852) (L' := [some (.ref (eh_SB + 4)), some (.ref 0), some (.ref 127), some (.int t1.1)]) (st' := [.int (t1.1 + 2), .ref (eh_SB + 4), .int (eh_x g (eh_ix (t1.1 + 1))), .ref 127, .int q90]) [(.aload_n 0, 0), (.iload_n 3, 0), (.iconst 2, 2), (.iadd, 0)] (by decide +kernel) rfl rfl ?_
      refine ef_xld (by decide +kernel) (fun _ => ?_)
      refine ef_vpI (d := 1) (k := 127) (As := [.int (eh_x g (eh_ix (t1.1 + 1))), .int (eh_x g (eh_ix (t1.1 + 2)))]) (st := [.int q90]) eV_12_region eK_13_101 (eS_12_region g t1.2 (eh_x g (eh_ix (t1.1 + 1))) (eh_x g (eh_ix (t1.1 + 2)))) rfl rfl (Nat.le_of_ble_eq_true rfl) rfl (Nat.le_of_ble_eq_true rfl) ⟨Nat.le_of_ble_eq_true rfl, Nat.le_of_ble_eq_true rfl⟩ ⟨Nat.le_refl _, Nat.le_refl _⟩ (by decide +kernel) (fun q91 _ => ?_)
      refine es_ieq (tgt := 1106) (off := (250)) (by decide +kernel) (by decide) (fun h92 => ?_) (fun h92 => ?_)
      · exact Hj7 _
      refine es_blk (pc' := 860) (L' := [some (.ref (eh_SB + 4)), some (.ref 0), some (.ref 127), some (.int t1.1)]) (st' := [.int 0]) [(.iconst 0, 0)] (by decide +kernel) rfl rfl ?_
      exact es_ret (Hret _) rfl rfl ⟨by decide +kernel, _, rfl, eh_narZ (Or.inl rfl)⟩ (Nat.le_refl _) (Nat.le_refl _)
    refine es_ifc (fun h93 => ?_) (fun h93 => ?_)
    · refine es_tsw (off := (818)) (tgt := 861) hs10 19 h93 (by decide) ?_
      refine es_blk (pc' := 866) (L' := [some (.ref (eh_SB + 4)), some (.ref 0), some (.ref 127), some (.int t1.1)]) (st' := [.int (t1.1 + 1), .ref (eh_SB + 4), .ref 0]) [(.aload_n 1, 0), (.aload_n 0, 0), (.iload_n 3, 0), (.iconst 1, 1), (.iadd, 0)] (by decide +kernel) rfl rfl ?_
      refine ef_xld (by decide +kernel) (fun _ => ?_)
      refine es_blk (pc' := 871) (L' := [some (.ref (eh_SB + 4)), some (.ref 0), some (.ref 127), some (.int t1.1)]) (st' := [.int (t1.1 + 2), .ref (eh_SB + 4), .int (eh_x g (eh_ix (t1.1 + 1))), .ref 0]) [(.aload_n 0, 0), (.iload_n 3, 0), (.iconst 2, 2), (.iadd, 0)] (by decide +kernel) rfl rfl ?_
      refine ef_xld (by decide +kernel) (fun _ => ?_)
      refine es_blk (pc' := 876) (L' := [some (.ref (eh_SB + 4)), some (.ref 0), some (.ref 127), some (.int t1.1)]) (st' := [.int (t1.1 + 3), .ref (eh_SB + 4), .int (eh_x g (eh_ix (t1.1 + 2))), .int (eh_x g (eh_ix (t1.1 + 1))), .ref 0]) [(.aload_n 0, 0), (.iload_n 3, 0), (.iconst 3, 3), (.iadd, 0)] (by decide +kernel) rfl rfl ?_
      refine ef_xld (by decide +kernel) (fun _ => ?_)
      refine ef_vpI (d := 4) (k := 0) (As := [.int (eh_x g (eh_ix (t1.1 + 1))), .int (eh_x g (eh_ix (t1.1 + 2))), .int (eh_x g (eh_ix (t1.1 + 3)))]) (st := []) eV_11_entry eK_13_102 (eS_11_entry g t1.2 (eh_x g (eh_ix (t1.1 + 1))) (eh_x g (eh_ix (t1.1 + 2))) (eh_x g (eh_ix (t1.1 + 3)))) rfl rfl (Nat.le_of_ble_eq_true rfl) rfl (Nat.le_of_ble_eq_true rfl) ⟨Nat.le_of_ble_eq_true rfl, Nat.le_of_ble_eq_true rfl⟩ ⟨Nat.le_refl _, Nat.le_refl _⟩ (by decide +kernel) (fun q94 _ => ?_)
      refine es_blk (pc' := 885) (L' := [some (.ref (eh_SB + 4)), some (.ref 0), some (.ref 127), some (.int t1.1)]) (st' := [.int (t1.1 + 1), .ref (eh_SB + 4), .ref 127, .int q94]) [(.aload_n 2, 0), (.aload_n 0, 0), (.iload_n 3, 0), (.iconst 1, 1), (.iadd, 0)] (by decide +kernel) rfl rfl ?_
      refine ef_xld (by decide +kernel) (fun _ => ?_)
      refine es_blk (pc' := 890) (L' := [some (.ref (eh_SB + 4)), some (.ref 0), some (.ref 127), some (.int t1.1)]) (st' := [.int (t1.1 + 2), .ref (eh_SB + 4), .int (eh_x g (eh_ix (t1.1 + 1))), .ref 127, .int q94]) [(.aload_n 0, 0), (.iload_n 3, 0), (.iconst 2, 2), (.iadd, 0)] (by decide +kernel) rfl rfl ?_
      refine ef_xld (by decide +kernel) (fun _ => ?_)
      refine es_blk (pc' := 895) (L' := [some (.ref (eh_SB + 4)), some (.ref 0), some (.ref 127), some (.int t1.1)]) (st' := [.int (t1.1 + 3), .ref (eh_SB + 4), .int (eh_x g (eh_ix (t1.1 + 2))), .int (eh_x g (eh_ix (t1.1 + 1))), .ref 127, .int q94]) [(.aload_n 0, 0), (.iload_n 3, 0), (.iconst 3, 3), (.iadd, 0)] (by decide +kernel) rfl rfl ?_
      refine ef_xld (by decide +kernel) (fun _ => ?_)
      refine ef_veI (d := 3) (k := 127) (As := [.int (eh_x g (eh_ix (t1.1 + 1))), .int (eh_x g (eh_ix (t1.1 + 2))), .int (eh_x g (eh_ix (t1.1 + 3)))]) (st := [.int q94]) eV_12_entry eK_13_105 (eS_12_entry g t1.2 (eh_x g (eh_ix (t1.1 + 1))) (eh_x g (eh_ix (t1.1 + 2))) (eh_x g (eh_ix (t1.1 + 3)))) rfl rfl (Nat.le_of_ble_eq_true rfl) rfl (Nat.le_of_ble_eq_true rfl) ⟨Nat.le_of_ble_eq_true rfl, Nat.le_of_ble_eq_true rfl⟩ ⟨Nat.le_refl _, Nat.le_refl _⟩ (by decide +kernel) (fun q95 _ => ?_)
      refine es_ieq (tgt := 1106) (off := (207)) (by decide +kernel) (by decide) (fun h96 => ?_) (fun h96 => ?_)
      · exact Hj7 _
      refine es_blk (pc' := 903) (L' := [some (.ref (eh_SB + 4)), some (.ref 0), some (.ref 127), some (.int t1.1)]) (st' := [.int 0]) [(.iconst 0, 0)] (by decide +kernel) rfl rfl ?_
      exact es_ret (Hret _) rfl rfl ⟨by decide +kernel, _, rfl, eh_narZ (Or.inl rfl)⟩ (Nat.le_refl _) (Nat.le_refl _)
    refine es_ifc (fun h97 => ?_) (fun h97 => ?_)
    · refine es_tsw (off := (861)) (tgt := 904) hs10 20 h97 (by decide) ?_
      refine es_blk (pc' := 909) (L' := [some (.ref (eh_SB + 4)), some (.ref 0), some (.ref 127), some (.int t1.1)]) (st' := [.int (t1.1 + 1), .ref (eh_SB + 4), .ref 0]) [(.aload_n 1, 0), (.aload_n 0, 0), (.iload_n 3, 0), (.iconst 1, 1), (.iadd, 0)] (by decide +kernel) rfl rfl ?_
      refine ef_xld (by decide +kernel) (fun _ => ?_)
      refine es_blk (pc' := 914) (L' := [some (.ref (eh_SB + 4)), some (.ref 0), some (.ref 127), some (.int t1.1)]) (st' := [.int (t1.1 + 2), .ref (eh_SB + 4), .int (eh_x g (eh_ix (t1.1 + 1))), .ref 0]) [(.aload_n 0, 0), (.iload_n 3, 0), (.iconst 2, 2), (.iadd, 0)] (by decide +kernel) rfl rfl ?_
      refine ef_xld (by decide +kernel) (fun _ => ?_)
      refine ef_vpI (d := 2) (k := 0) (As := [.int (eh_x g (eh_ix (t1.1 + 1))), .int (eh_x g (eh_ix (t1.1 + 2)))]) (st := []) eV_11_event eK_13_106 (eS_11_event g t1.2 (eh_x g (eh_ix (t1.1 + 1))) (eh_x g (eh_ix (t1.1 + 2)))) rfl rfl (Nat.le_of_ble_eq_true rfl) rfl (Nat.le_of_ble_eq_true rfl) ⟨Nat.le_of_ble_eq_true rfl, Nat.le_of_ble_eq_true rfl⟩ ⟨Nat.le_refl _, Nat.le_refl _⟩ (by decide +kernel) (fun q98 _ => ?_)
      refine es_blk (pc' := 923) (L' := [some (.ref (eh_SB + 4)), some (.ref 0), some (.ref 127), some (.int t1.1)]) (st' := [.int (t1.1 + 1), .ref (eh_SB + 4), .ref 127, .int q98]) [(.aload_n 2, 0), (.aload_n 0, 0), (.iload_n 3, 0), (.iconst 1, 1), (.iadd, 0)] (by decide +kernel) rfl rfl ?_
      refine ef_xld (by decide +kernel) (fun _ => ?_)
      refine es_blk (pc' := 928) (L' := [some (.ref (eh_SB + 4)), some (.ref 0), some (.ref 127), some (.int t1.1)]) (st' := [.int (t1.1 + 2), .ref (eh_SB + 4), .int (eh_x g (eh_ix (t1.1 + 1))), .ref 127, .int q98]) [(.aload_n 0, 0), (.iload_n 3, 0), (.iconst 2, 2), (.iadd, 0)] (by decide +kernel) rfl rfl ?_
      refine ef_xld (by decide +kernel) (fun _ => ?_)
      refine ef_vpI (d := 2) (k := 127) (As := [.int (eh_x g (eh_ix (t1.1 + 1))), .int (eh_x g (eh_ix (t1.1 + 2)))]) (st := [.int q98]) eV_12_event eK_13_109 (eS_12_event g t1.2 (eh_x g (eh_ix (t1.1 + 1))) (eh_x g (eh_ix (t1.1 + 2)))) rfl rfl (Nat.le_of_ble_eq_true rfl) rfl (Nat.le_of_ble_eq_true rfl) ⟨Nat.le_of_ble_eq_true rfl, Nat.le_of_ble_eq_true rfl⟩ ⟨Nat.le_refl _, Nat.le_refl _⟩ (by decide +kernel) (fun q99 _ => ?_)
      refine es_ieq (tgt := 1106) (off := (174)) (by decide +kernel) (by decide) (fun h100 => ?_) (fun h100 => ?_)
      · exact Hj7 _
      refine es_blk (pc' := 936) (L' := [some (.ref (eh_SB + 4)), some (.ref 0), some (.ref 127), some (.int t1.1)]) (st' := [.int 0]) [(.iconst 0, 0)] (by decide +kernel) rfl rfl ?_
      exact es_ret (Hret _) rfl rfl ⟨by decide +kernel, _, rfl, eh_narZ (Or.inl rfl)⟩ (Nat.le_refl _) (Nat.le_refl _)
    refine es_ifc (fun h101 => ?_) (fun h101 => ?_)
    · refine es_tsw (off := (894)) (tgt := 937) hs10 21 h101 (by decide) ?_
      refine es_blk (pc' := 942) (L' := [some (.ref (eh_SB + 4)), some (.ref 0), some (.ref 127), some (.int t1.1)]) (st' := [.int (t1.1 + 1), .ref (eh_SB + 4), .ref 0]) [(.aload_n 1, 0), (.aload_n 0, 0), (.iload_n 3, 0), (.iconst 1, 1), (.iadd, 0)] (by decide +kernel) rfl rfl ?_
      refine ef_xld (by decide +kernel) (fun _ => ?_)
      refine ef_vpI (d := 2) (k := 0) (As := [.int (eh_x g (eh_ix (t1.1 + 1)))]) (st := []) eV_11_console eK_13_110 (eS_11_console g t1.2 (eh_x g (eh_ix (t1.1 + 1)))) rfl rfl (Nat.le_of_ble_eq_true rfl) rfl (Nat.le_of_ble_eq_true rfl) ⟨Nat.le_of_ble_eq_true rfl, Nat.le_of_ble_eq_true rfl⟩ ⟨Nat.le_refl _, Nat.le_refl _⟩ (by decide +kernel) (fun q102 _ => ?_)
      refine es_blk (pc' := 951) (L' := [some (.ref (eh_SB + 4)), some (.ref 0), some (.ref 127), some (.int t1.1)]) (st' := [.int (t1.1 + 1), .ref (eh_SB + 4), .ref 127, .int q102]) [(.aload_n 2, 0), (.aload_n 0, 0), (.iload_n 3, 0), (.iconst 1, 1), (.iadd, 0)] (by decide +kernel) rfl rfl ?_
      refine ef_xld (by decide +kernel) (fun _ => ?_)
      refine ef_vpI (d := 1) (k := 127) (As := [.int (eh_x g (eh_ix (t1.1 + 1)))]) (st := [.int q102]) eV_12_console eK_13_113 (eS_12_console g t1.2 (eh_x g (eh_ix (t1.1 + 1)))) rfl rfl (Nat.le_of_ble_eq_true rfl) rfl (Nat.le_of_ble_eq_true rfl) ⟨Nat.le_of_ble_eq_true rfl, Nat.le_of_ble_eq_true rfl⟩ ⟨Nat.le_refl _, Nat.le_refl _⟩ (by decide +kernel) (fun q103 _ => ?_)
      refine es_ieq (tgt := 1106) (off := (151)) (by decide +kernel) (by decide) (fun h104 => ?_) (fun h104 => ?_)
      · exact Hj7 _
      refine es_blk (pc' := 959) (L' := [some (.ref (eh_SB + 4)), some (.ref 0), some (.ref 127), some (.int t1.1)]) (st' := [.int 0]) [(.iconst 0, 0)] (by decide +kernel) rfl rfl ?_
      exact es_ret (Hret _) rfl rfl ⟨by decide +kernel, _, rfl, eh_narZ (Or.inl rfl)⟩ (Nat.le_refl _) (Nat.le_refl _)
    refine es_ifc (fun h105 => ?_) (fun h105 => ?_)
    · refine es_tsw (off := (917)) (tgt := 960) hs10 22 h105 (by decide) ?_
      refine es_blk (pc' := 965) (L' := [some (.ref (eh_SB + 4)), some (.ref 0), some (.ref 127), some (.int t1.1)]) (st' := [.int (t1.1 + 1), .ref (eh_SB + 4), .ref 0]) [(.aload_n 1, 0), (.aload_n 0, 0), (.iload_n 3, 0), (.iconst 1, 1), (.iadd, 0)] (by decide +kernel) rfl rfl ?_
      refine ef_xld (by decide +kernel) (fun _ => ?_)
      refine es_blk (pc' := 970) (L' := [some (.ref (eh_SB + 4)), some (.ref 0), some (.ref 127), some (.int t1.1)]) (st' := [.int (t1.1 + 2), .ref (eh_SB + 4), .int (eh_x g (eh_ix (t1.1 + 1))), .ref 0]) [(.aload_n 0, 0), (.iload_n 3, 0), (.iconst 2, 2), (.iadd, 0)] (by decide +kernel) rfl rfl ?_
      refine ef_xld (by decide +kernel) (fun _ => ?_)
      refine es_blk (pc' := 975) (L' := [some (.ref (eh_SB + 4)), some (.ref 0), some (.ref 127), some (.int t1.1)]) (st' := [.int (t1.1 + 3), .ref (eh_SB + 4), .int (eh_x g (eh_ix (t1.1 + 2))), .int (eh_x g (eh_ix (t1.1 + 1))), .ref 0]) [(.aload_n 0, 0), (.iload_n 3, 0), (.iconst 3, 3), (.iadd, 0)] (by decide +kernel) rfl rfl ?_
      refine ef_xld (by decide +kernel) (fun _ => ?_)
      refine ef_veI (d := 2) (k := 0) (As := [.int (eh_x g (eh_ix (t1.1 + 1))), .int (eh_x g (eh_ix (t1.1 + 2))), .int (eh_x g (eh_ix (t1.1 + 3)))]) (st := []) eV_11_disk eK_13_114 (eS_11_disk g t1.2 (eh_x g (eh_ix (t1.1 + 1))) (eh_x g (eh_ix (t1.1 + 2))) (eh_x g (eh_ix (t1.1 + 3)))) rfl rfl (Nat.le_of_ble_eq_true rfl) rfl (Nat.le_of_ble_eq_true rfl) ⟨Nat.le_of_ble_eq_true rfl, Nat.le_of_ble_eq_true rfl⟩ ⟨Nat.le_refl _, Nat.le_refl _⟩ (by decide +kernel) (fun q106 _ => ?_)
      refine es_blk (pc' := 984) (L' := [some (.ref (eh_SB + 4)), some (.ref 0), some (.ref 127), some (.int t1.1)]) (st' := [.int (t1.1 + 1), .ref (eh_SB + 4), .ref 127, .int q106.1]) [(.aload_n 2, 0), (.aload_n 0, 0), (.iload_n 3, 0), (.iconst 1, 1), (.iadd, 0)] (by decide +kernel) rfl rfl ?_
      refine ef_xld (by decide +kernel) (fun _ => ?_)
      refine es_blk (pc' := 989) (L' := [some (.ref (eh_SB + 4)), some (.ref 0), some (.ref 127), some (.int t1.1)]) (st' := [.int (t1.1 + 2), .ref (eh_SB + 4), .int (eh_x g (eh_ix (t1.1 + 1))), .ref 127, .int q106.1]) [(.aload_n 0, 0), (.iload_n 3, 0), (.iconst 2, 2), (.iadd, 0)] (by decide +kernel) rfl rfl ?_
      refine ef_xld (by decide +kernel) (fun _ => ?_)
      refine es_blk (pc' := 994) (L' := [some (.ref (eh_SB + 4)), some (.ref 0), some (.ref 127), some (.int t1.1)]) (st' := [.int (t1.1 + 3), .ref (eh_SB + 4), .int (eh_x g (eh_ix (t1.1 + 2))), .int (eh_x g (eh_ix (t1.1 + 1))), .ref 127, .int q106.1]) [(.aload_n 0, 0), (.iload_n 3, 0), (.iconst 3, 3), (.iadd, 0)] (by decide +kernel) rfl rfl ?_
      refine ef_xld (by decide +kernel) (fun _ => ?_)
      refine ef_veI (d := 1) (k := 127) (As := [.int (eh_x g (eh_ix (t1.1 + 1))), .int (eh_x g (eh_ix (t1.1 + 2))), .int (eh_x g (eh_ix (t1.1 + 3)))]) (st := [.int q106.1]) eV_12_disk eK_13_117 (eS_12_disk g q106.2 (eh_x g (eh_ix (t1.1 + 1))) (eh_x g (eh_ix (t1.1 + 2))) (eh_x g (eh_ix (t1.1 + 3)))) rfl rfl (Nat.le_of_ble_eq_true rfl) rfl (Nat.le_of_ble_eq_true rfl) ⟨Nat.le_of_ble_eq_true rfl, Nat.le_of_ble_eq_true rfl⟩ ⟨Nat.le_refl _, Nat.le_refl _⟩ (by decide +kernel) (fun q107 _ => ?_)
      refine es_ieq (tgt := 1106) (off := (108)) (by decide +kernel) (by decide) (fun h108 => ?_) (fun h108 => ?_)
      · exact Hj7 _
      refine es_blk (pc' := 1002) (L' := [some (.ref (eh_SB + 4)), some (.ref 0), some (.ref 127), some (.int t1.1)]) (st' := [.int 0]) [(.iconst 0, 0)] (by decide +kernel) rfl rfl ?_
      exact es_ret (Hret _) rfl rfl ⟨by decide +kernel, _, rfl, eh_narZ (Or.inl rfl)⟩ (Nat.le_refl _) (Nat.le_refl _)
    refine es_ifc (fun h109 => ?_) (fun h109 => ?_)
    · refine es_tsw (off := (960)) (tgt := 1003) hs10 23 h109 (by decide) ?_
      refine es_blk (pc' := 1008) (L' := [some (.ref (eh_SB + 4)), some (.ref 0), some (.ref 127), some (.int t1.1)]) (st' := [.int (t1.1 + 1), .ref (eh_SB + 4), .ref 0]) [(.aload_n 1, 0), (.aload_n 0, 0), (.iload_n 3, 0), (.iconst 1, 1), (.iadd, 0)] (by decide +kernel) rfl rfl ?_
      refine ef_xld (by decide +kernel) (fun _ => ?_)
      refine es_blk (pc' := 1013) (L' := [some (.ref (eh_SB + 4)), some (.ref 0), some (.ref 127), some (.int t1.1)]) (st' := [.int (t1.1 + 2), .ref (eh_SB + 4), .int (eh_x g (eh_ix (t1.1 + 1))), .ref 0]) [(.aload_n 0, 0), (.iload_n 3, 0), (.iconst 2, 2), (.iadd, 0)] (by decide +kernel) rfl rfl ?_
      refine ef_xld (by decide +kernel) (fun _ => ?_)
      refine es_blk (pc' := 1018) (L' := [some (.ref (eh_SB + 4)), some (.ref 0), some (.ref 127), some (.int t1.1)]) (st' := [.int (t1.1 + 3), .ref (eh_SB + 4), .int (eh_x g (eh_ix (t1.1 + 2))), .int (eh_x g (eh_ix (t1.1 + 1))), .ref 0]) [(.aload_n 0, 0), (.iload_n 3, 0), (.iconst 3, 3), (.iadd, 0)] (by decide +kernel) rfl rfl ?_
      refine ef_xld (by decide +kernel) (fun _ => ?_)
      refine ef_veI (d := 4) (k := 0) (As := [.int (eh_x g (eh_ix (t1.1 + 1))), .int (eh_x g (eh_ix (t1.1 + 2))), .int (eh_x g (eh_ix (t1.1 + 3)))]) (st := []) eV_11_digest eK_13_118 (eS_11_digest g t1.2 (eh_x g (eh_ix (t1.1 + 1))) (eh_x g (eh_ix (t1.1 + 2))) (eh_x g (eh_ix (t1.1 + 3)))) rfl rfl (Nat.le_of_ble_eq_true rfl) rfl (Nat.le_of_ble_eq_true rfl) ⟨Nat.le_of_ble_eq_true rfl, Nat.le_of_ble_eq_true rfl⟩ ⟨Nat.le_refl _, Nat.le_refl _⟩ (by decide +kernel) (fun q110 _ => ?_)
      refine es_blk (pc' := 1027) (L' := [some (.ref (eh_SB + 4)), some (.ref 0), some (.ref 127), some (.int t1.1)]) (st' := [.int (t1.1 + 1), .ref (eh_SB + 4), .ref 127, .int q110.1]) [(.aload_n 2, 0), (.aload_n 0, 0), (.iload_n 3, 0), (.iconst 1, 1), (.iadd, 0)] (by decide +kernel) rfl rfl ?_
      refine ef_xld (by decide +kernel) (fun _ => ?_)
      refine es_blk (pc' := 1032) (L' := [some (.ref (eh_SB + 4)), some (.ref 0), some (.ref 127), some (.int t1.1)]) (st' := [.int (t1.1 + 2), .ref (eh_SB + 4), .int (eh_x g (eh_ix (t1.1 + 1))), .ref 127, .int q110.1]) [(.aload_n 0, 0), (.iload_n 3, 0), (.iconst 2, 2), (.iadd, 0)] (by decide +kernel) rfl rfl ?_
      refine ef_xld (by decide +kernel) (fun _ => ?_)
      refine es_blk (pc' := 1037) (L' := [some (.ref (eh_SB + 4)), some (.ref 0), some (.ref 127), some (.int t1.1)]) (st' := [.int (t1.1 + 3), .ref (eh_SB + 4), .int (eh_x g (eh_ix (t1.1 + 2))), .int (eh_x g (eh_ix (t1.1 + 1))), .ref 127, .int q110.1]) [(.aload_n 0, 0), (.iload_n 3, 0), (.iconst 3, 3), (.iadd, 0)] (by decide +kernel) rfl rfl ?_
      refine ef_xld (by decide +kernel) (fun _ => ?_)
      refine ef_veI (d := 5) (k := 127) (As := [.int (eh_x g (eh_ix (t1.1 + 1))), .int (eh_x g (eh_ix (t1.1 + 2))), .int (eh_x g (eh_ix (t1.1 + 3)))]) (st := [.int q110.1]) eV_12_digest eK_13_121 (eS_12_digest g q110.2 (eh_x g (eh_ix (t1.1 + 1))) (eh_x g (eh_ix (t1.1 + 2))) (eh_x g (eh_ix (t1.1 + 3)))) rfl rfl (Nat.le_of_ble_eq_true rfl) rfl (Nat.le_of_ble_eq_true rfl) ⟨Nat.le_of_ble_eq_true rfl, Nat.le_of_ble_eq_true rfl⟩ ⟨Nat.le_refl _, Nat.le_refl _⟩ (by decide +kernel) (fun q111 _ => ?_)
      refine es_ieq (tgt := 1106) (off := (65)) (by decide +kernel) (by decide) (fun h112 => ?_) (fun h112 => ?_)
      · exact Hj7 _
      refine es_blk (pc' := 1045) (L' := [some (.ref (eh_SB + 4)), some (.ref 0), some (.ref 127), some (.int t1.1)]) (st' := [.int 0]) [(.iconst 0, 0)] (by decide +kernel) rfl rfl ?_
      exact es_ret (Hret _) rfl rfl ⟨by decide +kernel, _, rfl, eh_narZ (Or.inl rfl)⟩ (Nat.le_refl _) (Nat.le_refl _)
    refine es_ifc (fun h113 => ?_) (fun h113 => ?_)
    · refine es_tsw (off := (1003)) (tgt := 1046) hs10 24 h113 (by decide) ?_
      refine es_blk (pc' := 1051) (L' := [some (.ref (eh_SB + 4)), some (.ref 0), some (.ref 127), some (.int t1.1)]) (st' := [.int (t1.1 + 1), .ref (eh_SB + 4), .ref 0]) [(.aload_n 1, 0), (.aload_n 0, 0), (.iload_n 3, 0), (.iconst 1, 1), (.iadd, 0)] (by decide +kernel) rfl rfl ?_
      refine ef_xld (by decide +kernel) (fun _ => ?_)
      refine ef_veI (d := 5) (k := 0) (As := [.int (eh_x g (eh_ix (t1.1 + 1)))]) (st := []) eV_11_genuine eK_13_122 (eS_11_genuine g t1.2 (eh_x g (eh_ix (t1.1 + 1)))) rfl rfl (Nat.le_of_ble_eq_true rfl) rfl (Nat.le_of_ble_eq_true rfl) ⟨Nat.le_of_ble_eq_true rfl, Nat.le_of_ble_eq_true rfl⟩ ⟨Nat.le_refl _, Nat.le_refl _⟩ (by decide +kernel) (fun q114 _ => ?_)
      refine es_blk (pc' := 1060) (L' := [some (.ref (eh_SB + 4)), some (.ref 0), some (.ref 127), some (.int t1.1)]) (st' := [.int (t1.1 + 1), .ref (eh_SB + 4), .ref 127, .int q114.1]) [(.aload_n 2, 0), (.aload_n 0, 0), (.iload_n 3, 0), (.iconst 1, 1), (.iadd, 0)] (by decide +kernel) rfl rfl ?_
      refine ef_xld (by decide +kernel) (fun _ => ?_)
      refine ef_veI (d := 8) (k := 127) (As := [.int (eh_x g (eh_ix (t1.1 + 1)))]) (st := [.int q114.1]) eV_12_genuine eK_13_126 (eS_12_genuine g q114.2 (eh_x g (eh_ix (t1.1 + 1)))) rfl rfl (Nat.le_of_ble_eq_true rfl) rfl (Nat.le_of_ble_eq_true rfl) ⟨Nat.le_of_ble_eq_true rfl, Nat.le_of_ble_eq_true rfl⟩ ⟨Nat.le_refl _, Nat.le_refl _⟩ (by decide +kernel) (fun q115 _ => ?_)
      refine es_ieq (tgt := 1106) (off := (42)) (by decide +kernel) (by decide) (fun h116 => ?_) (fun h116 => ?_)
      · exact Hj7 _
      refine es_blk (pc' := 1068) (L' := [some (.ref (eh_SB + 4)), some (.ref 0), some (.ref 127), some (.int t1.1)]) (st' := [.int 0]) [(.iconst 0, 0)] (by decide +kernel) rfl rfl ?_
      exact es_ret (Hret _) rfl rfl ⟨by decide +kernel, _, rfl, eh_narZ (Or.inl rfl)⟩ (Nat.le_refl _) (Nat.le_refl _)
    refine es_ifc (fun h117 => ?_) (fun h117 => ?_)
    · refine es_tsw (off := (1026)) (tgt := 1069) hs10 25 h117 (by decide) ?_
      refine es_blk (pc' := 1070) (L' := [some (.ref (eh_SB + 4)), some (.ref 0), some (.ref 127), some (.int t1.1)]) (st' := [.ref 0]) [(.aload_n 1, 0)] (by decide +kernel) rfl rfl ?_
      refine ef_vpL (d := 4) (k := 0) (As := []) (st := []) eV_11_outside eK_13_127 (eS_11_outside g t1.2) rfl rfl (Nat.le_of_ble_eq_true rfl) rfl (Nat.le_of_ble_eq_true rfl) ⟨Nat.le_of_ble_eq_true rfl, Nat.le_of_ble_eq_true rfl⟩ ⟨Nat.le_refl _, Nat.le_refl _⟩ (by decide +kernel) (fun q118 _ => ?_)
      refine es_blk (pc' := 1074) (L' := [some (.ref (eh_SB + 4)), some (.ref 0), some (.ref 127), some (.int t1.1)]) (st' := [.ref 127, .long q118]) [(.aload_n 2, 0)] (by decide +kernel) rfl rfl ?_
      refine ef_vpL (d := 3) (k := 127) (As := []) (st := [.long q118]) eV_12_outside eK_13_131 (eS_12_outside g t1.2) rfl rfl (Nat.le_of_ble_eq_true rfl) rfl (Nat.le_of_ble_eq_true rfl) ⟨Nat.le_of_ble_eq_true rfl, Nat.le_of_ble_eq_true rfl⟩ ⟨Nat.le_refl _, Nat.le_refl _⟩ (by decide +kernel) (fun q119 _ => ?_)
      refine es_blk (pc' := 1078) (L' := [some (.ref (eh_SB + 4)), some (.ref 0), some (.ref 127), some (.int t1.1)]) (st' := [.int (lg_cmp q118 q119)]) [(.lcmp, 0)] (by decide +kernel) rfl rfl ?_
      refine es_eq (tgt := 1106) (off := (28)) (by decide +kernel) (by decide) (fun h120 => ?_) (fun h120 => ?_)
      · exact Hj7 _
      refine es_blk (pc' := 1082) (L' := [some (.ref (eh_SB + 4)), some (.ref 0), some (.ref 127), some (.int t1.1)]) (st' := [.int 0]) [(.iconst 0, 0)] (by decide +kernel) rfl rfl ?_
      exact es_ret (Hret _) rfl rfl ⟨by decide +kernel, _, rfl, eh_narZ (Or.inl rfl)⟩ (Nat.le_refl _) (Nat.le_refl _)
    refine es_ifc (fun h121 => ?_) (fun h121 => ?_)
    · refine es_tsw (off := (1040)) (tgt := 1083) hs10 26 h121 (by decide) ?_
      refine es_blk (pc' := 1088) (L' := [some (.ref (eh_SB + 4)), some (.ref 0), some (.ref 127), some (.int t1.1)]) (st' := [.int (t1.1 + 1), .ref (eh_SB + 4), .ref 0]) [(.aload_n 1, 0), (.aload_n 0, 0), (.iload_n 3, 0), (.iconst 1, 1), (.iadd, 0)] (by decide +kernel) rfl rfl ?_
      refine ef_xld (by decide +kernel) (fun _ => ?_)
      refine ef_vpI (d := 2) (k := 0) (As := [.int (eh_x g (eh_ix (t1.1 + 1)))]) (st := []) eV_11_count eK_13_132 (eS_11_count g t1.2 (eh_x g (eh_ix (t1.1 + 1)))) rfl rfl (Nat.le_of_ble_eq_true rfl) rfl (Nat.le_of_ble_eq_true rfl) ⟨Nat.le_of_ble_eq_true rfl, Nat.le_of_ble_eq_true rfl⟩ ⟨Nat.le_refl _, Nat.le_refl _⟩ (by decide +kernel) (fun q122 _ => ?_)
      refine es_blk (pc' := 1097) (L' := [some (.ref (eh_SB + 4)), some (.ref 0), some (.ref 127), some (.int t1.1)]) (st' := [.int (t1.1 + 1), .ref (eh_SB + 4), .ref 127, .int q122]) [(.aload_n 2, 0), (.aload_n 0, 0), (.iload_n 3, 0), (.iconst 1, 1), (.iadd, 0)] (by decide +kernel) rfl rfl ?_
      refine ef_xld (by decide +kernel) (fun _ => ?_)
      refine ef_vpI (d := 2) (k := 127) (As := [.int (eh_x g (eh_ix (t1.1 + 1)))]) (st := [.int q122]) eV_12_count_2 eK_13_135 (eS_12_count_2 g t1.2 (eh_x g (eh_ix (t1.1 + 1)))) rfl rfl (Nat.le_of_ble_eq_true rfl) rfl (Nat.le_of_ble_eq_true rfl) ⟨Nat.le_of_ble_eq_true rfl, Nat.le_of_ble_eq_true rfl⟩ ⟨Nat.le_refl _, Nat.le_refl _⟩ (by decide +kernel) (fun q123 _ => ?_)
      refine es_ieq (tgt := 1106) (off := (5)) (by decide +kernel) (by decide) (fun h124 => ?_) (fun h124 => ?_)
      · exact Hj7 _
      refine es_blk (pc' := 1105) (L' := [some (.ref (eh_SB + 4)), some (.ref 0), some (.ref 127), some (.int t1.1)]) (st' := [.int 0]) [(.iconst 0, 0)] (by decide +kernel) rfl rfl ?_
      exact es_ret (Hret _) rfl rfl ⟨by decide +kernel, _, rfl, eh_narZ (Or.inl rfl)⟩ (Nat.le_refl _) (Nat.le_refl _)
    refine es_tswD (tgt := 1106) hs10 [0, 1, 2, 3, 4, 5, 6, 7, 8, 9, 10, 11, 12, 13, 14, 15, 16, 17, 18, 19, 20, 21, 22, 23, 24, 25, 26] (List.forall_mem_cons.mpr ⟨eh_nei 0 0 (by decide) h11, (List.forall_mem_cons.mpr ⟨eh_nei 1 1 (by decide) h15, (List.forall_mem_cons.mpr ⟨eh_nei 2 2 (by decide) h19, (List.forall_mem_cons.mpr ⟨eh_nei 3 3 (by decide) h23, (List.forall_mem_cons.mpr ⟨eh_nei 4 4 (by decide) h27, (List.forall_mem_cons.mpr ⟨eh_nei 5 5 (by decide) h31, (List.forall_mem_cons.mpr ⟨eh_nei 6 6 (by decide) h35, (List.forall_mem_cons.mpr ⟨eh_nei 7 7 (by decide) h39, (List.forall_mem_cons.mpr ⟨eh_nei 8 8 (by decide) h43, (List.forall_mem_cons.mpr ⟨eh_nei 9 9 (by decide) h47, (List.forall_mem_cons.mpr ⟨eh_nei 10 10 (by decide) h51, (List.forall_mem_cons.mpr ⟨eh_nei 11 11 (by decide) h55, (List.forall_mem_cons.mpr ⟨eh_nei 12 12 (by decide) h59, (List.forall_mem_cons.mpr ⟨eh_nei 13 13 (by decide) h63, (List.forall_mem_cons.mpr ⟨eh_nei 14 14 (by decide) h67, (List.forall_mem_cons.mpr ⟨eh_nei 15 15 (by decide) h71, (List.forall_mem_cons.mpr ⟨eh_nei 16 16 (by decide) h81, (List.forall_mem_cons.mpr ⟨eh_nei 17 17 (by decide) h85, (List.forall_mem_cons.mpr ⟨eh_nei 18 18 (by decide) h89, (List.forall_mem_cons.mpr ⟨eh_nei 19 19 (by decide) h93, (List.forall_mem_cons.mpr ⟨eh_nei 20 20 (by decide) h97, (List.forall_mem_cons.mpr ⟨eh_nei 21 21 (by decide) h101, (List.forall_mem_cons.mpr ⟨eh_nei 22 22 (by decide) h105, (List.forall_mem_cons.mpr ⟨eh_nei 23 23 (by decide) h109, (List.forall_mem_cons.mpr ⟨eh_nei 24 24 (by decide) h113, (List.forall_mem_cons.mpr ⟨eh_nei 25 25 (by decide) h117, (List.forall_mem_cons.mpr ⟨eh_nei 26 26 (by decide) h121, (List.forall_mem_nil _)⟩)⟩)⟩)⟩)⟩)⟩)⟩)⟩)⟩)⟩)⟩)⟩)⟩)⟩)⟩)⟩)⟩)⟩)⟩)⟩)⟩)⟩)⟩)⟩)⟩)⟩)⟩) (by decide) (by decide) (by decide) ?_
    exact Hj7 _
set_option maxHeartbeats 4000000 in
set_option maxRecDepth 100000 in
theorem eB_law (g : eh_P) : eh_Sim g eM_13_law room_1 eh_eI 0 0 0 (eh_en 4 [.ref (eh_SB + 4)]) [] (eh_BW eh_I0 eh_J0 0 []) (eb_law g) := by
  unfold eb_law
  refine ef_top (L := [some (.ref (eh_SB + 4)), none, none, none]) rfl ?_
  refine eb_new (k := 0) (un' := [(0, 0), (0, 1), (0, 2)]) (ci := 11) [0, 1, 2] rfl rfl (by decide) eJ_13_7 eI_11 eD_11 (by decide +kernel) (by decide) rfl rfl rfl ⟨Nat.le_of_ble_eq_true rfl, Nat.le_of_ble_eq_true rfl⟩ (by decide +kernel) ?_
  refine es_blk (pc' := 6) (L' := [some (.ref (eh_SB + 4)), none, none, none]) (st' := [.int 0, .ref (eh_SB + 4), .ref 0, .ref 0]) [(.dup, 0), (.aload_n 0, 0), (.iconst 0, 0)] (by decide +kernel) rfl rfl ?_
  refine es_callS (d := 1) (mc := 0) (ms := 0) (As := [.ref (eh_SB + 4), .int 0]) (st := [.ref 0, .ref 0]) (eS_13_cellW g (eh_BW eh_I0 eh_J0 1 [(0, 0), (0, 1), (0, 2)]) eb_d 0) eV_13_cell.1 eV_13_cell.2 eK_13_9 rfl (Nat.le_of_ble_eq_true rfl) rfl (Nat.le_of_ble_eq_true rfl) ⟨Nat.le_of_ble_eq_true rfl, Nat.le_of_ble_eq_true rfl⟩ ⟨Nat.le_of_ble_eq_true rfl, Nat.le_of_ble_eq_true rfl⟩ (by decide +kernel) (fun v6 _ => ?_)
  refine eb_st (st2 := .int v6 :: [.ref 0, .ref 0]) rfl ?_
  refine eb_to (w2 := eh_BW eh_I0 eh_J0 1 [(0, 0), (0, 1), (0, 2)]) rfl ?_
  refine eb_ctorF (d := 6) (mc := 126) (ms := 46276) (k := 0) (As := [.int v6]) (st := [.ref 0]) (wf := fun s => eh_BW (eh_zr 0 s.1 123 4) (eh_zr 0 s.2.1 123 4) 127 []) (eB_EH g v6) eZ_11_init eK_13_15 (by decide) rfl (Nat.le_of_ble_eq_true rfl) rfl (Nat.le_of_ble_eq_true rfl) ⟨Nat.le_of_ble_eq_true rfl, Nat.le_of_ble_eq_true rfl⟩ ⟨Nat.le_of_ble_eq_true rfl, Nat.le_of_ble_eq_true rfl⟩ (by decide +kernel) (fun s _ => ?_)
  refine es_blk (pc' := 13) (L' := [some (.ref (eh_SB + 4)), some (.ref 0), none, none]) (st' := []) [(.astore_n 1, 0)] (by decide +kernel) rfl rfl ?_
  refine eb_newR (k := 123) (n := 4) (un' := [(127, 0), (127, 1), (127, 2), (127, 3), (127, 4), (127, 5), (127, 6), (127, 7), (127, 8), (127, 9), (127, 10), (127, 11), (127, 12), (127, 13), (127, 14), (127, 15), (127, 16), (127, 17), (127, 18), (127, 19), (127, 23), (127, 24), (127, 25), (127, 26), (127, 27), (127, 28), (127, 29), (127, 30), (127, 31), (127, 32), (127, 33), (127, 34), (127, 35), (127, 36), (127, 37), (127, 38), (127, 39), (127, 40), (127, 41), (127, 42), (127, 43), (127, 44), (127, 45), (127, 46), (127, 47), (127, 49), (127, 51), (127, 53), (127, 54), (127, 55), (127, 56), (127, 57), (127, 61), (127, 63), (127, 65), (127, 68), (127, 69), (127, 71), (127, 72), (127, 73), (127, 74), (127, 75), (127, 76), (127, 77), (127, 78), (127, 80), (127, 81), (127, 82)]) (ci := 12) [0, 1, 2, 3, 4, 5, 6, 7, 8, 9, 10, 11, 12, 13, 14, 15, 16, 17, 18, 19, 23, 24, 25, 26, 27, 28, 29, 30, 31, 32, 33, 34, 35, 36, 37, 38, 39, 40, 41, 42, 43, 44, 45, 46, 47, 49, 51, 53, 54, 55, 56, 57, 61, 63, 65, 68, 69, 71, 72, 73, 74, 75, 76, 77, 78, 80, 81, 82] rfl rfl (by decide) eJ_13_18 eI_12 eD_12 (by decide +kernel) (by decide) rfl ⟨Nat.le_of_ble_eq_true rfl, Nat.le_of_ble_eq_true rfl⟩ (by decide +kernel) ?_
  refine es_blk (pc' := 19) (L' := [some (.ref (eh_SB + 4)), some (.ref 0), none, none]) (st' := [.int 0, .ref (eh_SB + 4), .ref 127, .ref 127]) [(.dup, 0), (.aload_n 0, 0), (.iconst 0, 0)] (by decide +kernel) rfl rfl ?_
  refine es_callS (d := 1) (mc := 0) (ms := 0) (As := [.ref (eh_SB + 4), .int 0]) (st := [.ref 127, .ref 127]) (eS_13_cellW g (eh_BW (eh_zr 0 s.1 123 5) (eh_zr 0 s.2.1 123 5) 128 [(127, 0), (127, 1), (127, 2), (127, 3), (127, 4), (127, 5), (127, 6), (127, 7), (127, 8), (127, 9), (127, 10), (127, 11), (127, 12), (127, 13), (127, 14), (127, 15), (127, 16), (127, 17), (127, 18), (127, 19), (127, 23), (127, 24), (127, 25), (127, 26), (127, 27), (127, 28), (127, 29), (127, 30), (127, 31), (127, 32), (127, 33), (127, 34), (127, 35), (127, 36), (127, 37), (127, 38), (127, 39), (127, 40), (127, 41), (127, 42), (127, 43), (127, 44), (127, 45), (127, 46), (127, 47), (127, 49), (127, 51), (127, 53), (127, 54), (127, 55), (127, 56), (127, 57), (127, 61), (127, 63), (127, 65), (127, 68), (127, 69), (127, 71), (127, 72), (127, 73), (127, 74), (127, 75), (127, 76), (127, 77), (127, 78), (127, 80), (127, 81), (127, 82)]) eb_d 0) eV_13_cell.1 eV_13_cell.2 eK_13_9 rfl (Nat.le_of_ble_eq_true rfl) rfl (Nat.le_of_ble_eq_true rfl) ⟨Nat.le_of_ble_eq_true rfl, Nat.le_of_ble_eq_true rfl⟩ ⟨Nat.le_of_ble_eq_true rfl, Nat.le_of_ble_eq_true rfl⟩ (by decide +kernel) (fun v19 _ => ?_)
  refine eb_st (st2 := .int v19 :: [.ref 127, .ref 127]) rfl ?_
  refine eb_to (w2 := eh_BW (eh_zr 0 s.1 123 5) (eh_zr 0 s.2.1 123 5) 128 [(127, 0), (127, 1), (127, 2), (127, 3), (127, 4), (127, 5), (127, 6), (127, 7), (127, 8), (127, 9), (127, 10), (127, 11), (127, 12), (127, 13), (127, 14), (127, 15), (127, 16), (127, 17), (127, 18), (127, 19), (127, 23), (127, 24), (127, 25), (127, 26), (127, 27), (127, 28), (127, 29), (127, 30), (127, 31), (127, 32), (127, 33), (127, 34), (127, 35), (127, 36), (127, 37), (127, 38), (127, 39), (127, 40), (127, 41), (127, 42), (127, 43), (127, 44), (127, 45), (127, 46), (127, 47), (127, 49), (127, 51), (127, 53), (127, 54), (127, 55), (127, 56), (127, 57), (127, 61), (127, 63), (127, 65), (127, 68), (127, 69), (127, 71), (127, 72), (127, 73), (127, 74), (127, 75), (127, 76), (127, 77), (127, 78), (127, 80), (127, 81), (127, 82)]) rfl ?_
  refine eb_ctorF (d := 7) (mc := 68) (ms := 151387) (k := 127) (As := [.int v19]) (st := [.ref 127]) (wf := eh_FW) (eB_Mod g s v19) eZ_12_init eK_13_20 (by decide) rfl (Nat.le_of_ble_eq_true rfl) rfl (Nat.le_of_ble_eq_true rfl) ⟨Nat.le_of_ble_eq_true rfl, Nat.le_of_ble_eq_true rfl⟩ ⟨Nat.le_of_ble_eq_true rfl, Nat.le_of_ble_eq_true rfl⟩ (by decide +kernel) (fun s2 _ => ?_)
  refine es_blk (pc' := 28) (L' := [some (.ref (eh_SB + 4)), some (.ref 0), some (.ref 127), some (.int 1)]) (st' := []) [(.astore_n 2, 0), (.iconst 1, 1), (.istore_n 3, 0)] (by decide +kernel) rfl rfl ?_
  refine eb_widen (k := 600000) (n := 7302250) (Nat.le_of_ble_eq_true rfl) (Nat.le_of_ble_eq_true rfl) ?_
  exact eb_bind (eB_loop g s2)
