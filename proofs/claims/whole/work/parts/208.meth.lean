def eF_11_count (s : eh_F) (p0 : Int32) : Option (Int32) := eh_J (fun (u2 : Unit) => eh_J (fun (a4 : Int32) => some a4) (fun j3 => eh_J (fun (u6 : Unit) => j3 (-1)) (fun j5 => if p0 < 8 then (j5 ()) else (if 15 < p0 then (j5 ()) else (Option.bind (eF_11_countOfHart s p0) (fun q9 => j3 q9)))))) (fun j1 => if p0 = 0 then (some (s.1 12 0)) else if p0 = 1 then (eh_J (fun (a14 : Int32) => some a14) (fun j13 => if (s.1 1 10) = 0 then (j13 0) else (j13 1))) else if p0 = 2 then (Option.bind (eF_5_enclaveCount s) (fun q17 => some q17)) else if p0 = 3 then (Option.bind (eF_6_regionCount s) (fun q19 => some q19)) else if p0 = 4 then (Option.bind (eF_5_fibreCount s) (fun q21 => some q21)) else if p0 = 5 then (some (s.1 1 11)) else if p0 = 6 then (some (s.1 18 1)) else if p0 = 7 then (some (s.1 12 7)) else if p0 = 16 then (some (s.1 1 12)) else if p0 = 17 then (some (s.1 12 8)) else if p0 = 18 then (some (s.1 12 9)) else if p0 = 19 then (some (s.1 20 1)) else if p0 = 20 then (some (s.1 12 14)) else if p0 = 21 then (some (s.1 22 1)) else if p0 = 22 then (some (s.1 24 1)) else (j1 ()))
set_option maxHeartbeats 4000000 in
set_option maxRecDepth 100000 in
theorem eS_11_count (g : eh_P) (s : eh_F) (p0 : Int32) : eh_Sim g eM_11_count (eh_R 2 0 0) (eh_pI s) 0 0 0 (eh_en 3 [.ref 0, .int p0]) [] (eh_FW s) (eF_11_count s p0) := by
  unfold eF_11_count
  refine ef_top (L := [some (.ref 0), some (.int p0), none]) rfl ?_
  refine es_blk (pc' := 1) (L' := [some (.ref 0), some (.int p0), none]) (st' := [.ref 0]) [(.aload_n 0, 0)] (by decide +kernel) rfl rfl ?_
  refine ef_getP (k := 0) (j := 0) (q := 1) rfl eL_11_12 rfl rfl rfl (by decide +kernel) ?_
  refine ef_getP (k := 1) (j := 1) (q := 12) rfl eL_11_128 rfl rfl rfl (by decide +kernel) ?_
  refine es_blk (pc' := 9) (L' := [some (.ref 0), some (.int p0), some (.ref 12)]) (st' := [.int p0]) [(.astore_n 2, 0), (.iload_n 1, 0)] (by decide +kernel) rfl rfl ?_
  refine ef_J (X := fun j1 => ∀ (u2 : Unit), eh_Sim g eM_11_count (eh_R 2 0 0) (eh_pI s) 0 0 232 [some (.ref 0), some (.int p0), none] [] (eh_FW s) ((j1 u2).bind some)) ?_ (fun j1 Hj1 => ?_)
  · intro u2
    refine es_blk (pc' := 235) (L' := [some (.ref 0), some (.int p0), none]) (st' := [.int 8, .int p0]) [(.iload_n 1, 0), (.bipush 8, 8)] (by decide +kernel) rfl rfl ?_
    refine ef_J (X := fun j3 => ∀ (a4 : Int32), eh_Sim g eM_11_count (eh_R 2 0 0) (eh_pI s) 0 0 253 [none, none, none] [.int a4] (eh_FW s) ((j3 a4).bind some)) ?_ (fun j3 Hj3 => ?_)
    · intro a4
      exact es_ret rfl rfl rfl ⟨by decide +kernel, _, rfl, rfl⟩ (Nat.le_refl _) (Nat.le_refl _)
    refine ef_J (X := fun j5 => ∀ (u6 : Unit), eh_Sim g eM_11_count (eh_R 2 0 0) (eh_pI s) 0 0 252 [none, none, none] [] (eh_FW s) ((j5 u6).bind some)) ?_ (fun j5 Hj5 => ?_)
    · intro u6
      refine es_blk (pc' := 253) (L' := [none, none, none]) (st' := [.int (-1)]) [(.iconst (-1), (-1))] (by decide +kernel) rfl rfl ?_
      exact Hj3 _
    refine es_ilt (tgt := 252) (off := (17)) (by decide +kernel) (by decide) (fun h7 => ?_) (fun h7 => ?_)
    · refine ef_drop (L2 := [none, none, none]) [false, false, true] rfl rfl ?_
      exact Hj5 ()
    refine es_blk (pc' := 241) (L' := [some (.ref 0), some (.int p0), none]) (st' := [.int 15, .int p0]) [(.iload_n 1, 0), (.bipush 15, 15)] (by decide +kernel) rfl rfl ?_
    refine es_igt (tgt := 252) (off := (11)) (by decide +kernel) (by decide) (fun h8 => ?_) (fun h8 => ?_)
    · refine ef_drop (L2 := [none, none, none]) [false, false, true] rfl rfl ?_
      exact Hj5 ()
    refine es_blk (pc' := 246) (L' := [some (.ref 0), some (.int p0), none]) (st' := [.int p0, .ref 0]) [(.aload_n 0, 0), (.iload_n 1, 0)] (by decide +kernel) rfl rfl ?_
    refine ef_vpI (d := 1) (k := 0) (As := [.int p0]) (st := []) eV_11_countOfHart eK_11_313 (eS_11_countOfHart g s p0) rfl rfl (Nat.le_of_ble_eq_true rfl) rfl (Nat.le_of_ble_eq_true rfl) ⟨Nat.le_of_ble_eq_true rfl, Nat.le_of_ble_eq_true rfl⟩ ⟨Nat.le_refl _, Nat.le_refl _⟩ (by decide +kernel) (fun q9 _ => ?_)
    refine es_goto (tgt := 253) (off := (4)) (by decide +kernel) (by decide) ?_
    refine ef_drop (L2 := [none, none, none]) [false, false, true] rfl rfl ?_
    exact Hj3 _
  have hs10 : decode eM_11_count.2.1 9 = .ok (.tableswitch (223) (0) (22) #[(107), (112), (128), (136), (147), (155), (163), (171), (223), (223), (223), (223), (223), (223), (223), (223), (176), (184), (189), (194), (202), (207), (215)], 107) := by decide +kernel
  refine es_ifc (fun h11 => ?_) (fun h11 => ?_)
  · refine es_tsw (off := (107)) (tgt := 116) hs10 0 h11 (by decide) ?_
    refine es_blk (pc' := 117) (L' := [some (.ref 0), some (.int p0), some (.ref 12)]) (st' := [.ref 12]) [(.aload_n 2, 0)] (by decide +kernel) rfl rfl ?_
    refine ef_getI (k := 12) (j := 0) rfl eL_11_287 (by decide) (by decide +kernel) ?_
    exact es_ret rfl rfl rfl ⟨by decide +kernel, _, rfl, rfl⟩ (Nat.le_refl _) (Nat.le_refl _)
  refine es_ifc (fun h12 => ?_) (fun h12 => ?_)
  · refine es_tsw (off := (112)) (tgt := 121) hs10 1 h12 (by decide) ?_
    refine es_blk (pc' := 122) (L' := [some (.ref 0), some (.int p0), some (.ref 12)]) (st' := [.ref 0]) [(.aload_n 0, 0)] (by decide +kernel) rfl rfl ?_
    refine ef_getP (k := 0) (j := 0) (q := 1) rfl eL_11_12 rfl rfl rfl (by decide +kernel) ?_
    refine ef_getI (k := 1) (j := 10) rfl eL_11_136 (by decide) (by decide +kernel) ?_
    refine ef_J (X := fun j13 => ∀ (a14 : Int32), eh_Sim g eM_11_count (eh_R 2 0 0) (eh_pI s) 0 0 136 [none, none, none] [.int a14] (eh_FW s) ((j13 a14).bind some)) ?_ (fun j13 Hj13 => ?_)
    · intro a14
      exact es_ret rfl rfl rfl ⟨by decide +kernel, _, rfl, rfl⟩ (Nat.le_refl _) (Nat.le_refl _)
    refine es_eq (tgt := 135) (off := (7)) (by decide +kernel) (by decide) (fun h15 => ?_) (fun h15 => ?_)
    · refine es_blk (pc' := 136) (L' := [some (.ref 0), some (.int p0), some (.ref 12)]) (st' := [.int 0]) [(.iconst 0, 0)] (by decide +kernel) rfl rfl ?_
      refine ef_drop (L2 := [none, none, none]) [false, false, false] rfl rfl ?_
      exact Hj13 _
    refine es_blk (pc' := 132) (L' := [some (.ref 0), some (.int p0), some (.ref 12)]) (st' := [.int 1]) [(.iconst 1, 1)] (by decide +kernel) rfl rfl ?_
    refine es_goto (tgt := 136) (off := (4)) (by decide +kernel) (by decide) ?_
    refine ef_drop (L2 := [none, none, none]) [false, false, false] rfl rfl ?_
    exact Hj13 _
  refine es_ifc (fun h16 => ?_) (fun h16 => ?_)
  · refine es_tsw (off := (128)) (tgt := 137) hs10 2 h16 (by decide) ?_
    refine es_blk (pc' := 138) (L' := [some (.ref 0), some (.int p0), some (.ref 12)]) (st' := [.ref 0]) [(.aload_n 0, 0)] (by decide +kernel) rfl rfl ?_
    refine ef_getP (k := 0) (j := 0) (q := 1) rfl eL_11_12 rfl rfl rfl (by decide +kernel) ?_
    refine ef_vpI (d := 1) (k := 1) (As := []) (st := []) eV_5_enclaveCount eK_11_36 (eS_5_enclaveCount g s) rfl rfl (Nat.le_of_ble_eq_true rfl) rfl (Nat.le_of_ble_eq_true rfl) ⟨Nat.le_of_ble_eq_true rfl, Nat.le_of_ble_eq_true rfl⟩ ⟨Nat.le_refl _, Nat.le_refl _⟩ (by decide +kernel) (fun q17 _ => ?_)
    exact es_ret rfl rfl rfl ⟨by decide +kernel, _, rfl, rfl⟩ (Nat.le_refl _) (Nat.le_refl _)
  refine es_ifc (fun h18 => ?_) (fun h18 => ?_)
  · refine es_tsw (off := (136)) (tgt := 145) hs10 3 h18 (by decide) ?_
    refine es_blk (pc' := 146) (L' := [some (.ref 0), some (.int p0), some (.ref 12)]) (st' := [.ref 0]) [(.aload_n 0, 0)] (by decide +kernel) rfl rfl ?_
    refine ef_getP (k := 0) (j := 0) (q := 1) rfl eL_11_12 rfl rfl rfl (by decide +kernel) ?_
    refine ef_getP (k := 1) (j := 0) (q := 2) rfl eL_11_43 rfl rfl rfl (by decide +kernel) ?_
    refine ef_vpI (d := 1) (k := 2) (As := []) (st := []) eV_6_regionCount eK_11_290 (eS_6_regionCount g s) rfl rfl (Nat.le_of_ble_eq_true rfl) rfl (Nat.le_of_ble_eq_true rfl) ⟨Nat.le_of_ble_eq_true rfl, Nat.le_of_ble_eq_true rfl⟩ ⟨Nat.le_refl _, Nat.le_refl _⟩ (by decide +kernel) (fun q19 _ => ?_)
    exact es_ret rfl rfl rfl ⟨by decide +kernel, _, rfl, rfl⟩ (Nat.le_refl _) (Nat.le_refl _)
  refine es_ifc (fun h20 => ?_) (fun h20 => ?_)
  · refine es_tsw (off := (147)) (tgt := 156) hs10 4 h20 (by decide) ?_
    refine es_blk (pc' := 157) (L' := [some (.ref 0), some (.int p0), some (.ref 12)]) (st' := [.ref 0]) [(.aload_n 0, 0)] (by decide +kernel) rfl rfl ?_
    refine ef_getP (k := 0) (j := 0) (q := 1) rfl eL_11_12 rfl rfl rfl (by decide +kernel) ?_
    refine ef_vpI (d := 1) (k := 1) (As := []) (st := []) eV_5_fibreCount eK_11_293 (eS_5_fibreCount g s) rfl rfl (Nat.le_of_ble_eq_true rfl) rfl (Nat.le_of_ble_eq_true rfl) ⟨Nat.le_of_ble_eq_true rfl, Nat.le_of_ble_eq_true rfl⟩ ⟨Nat.le_refl _, Nat.le_refl _⟩ (by decide +kernel) (fun q21 _ => ?_)
    exact es_ret rfl rfl rfl ⟨by decide +kernel, _, rfl, rfl⟩ (Nat.le_refl _) (Nat.le_refl _)
  refine es_ifc (fun h22 => ?_) (fun h22 => ?_)
  · refine es_tsw (off := (155)) (tgt := 164) hs10 5 h22 (by decide) ?_
    refine es_blk (pc' := 165) (L' := [some (.ref 0), some (.int p0), some (.ref 12)]) (st' := [.ref 0]) [(.aload_n 0, 0)] (by decide +kernel) rfl rfl ?_
    refine ef_getP (k := 0) (j := 0) (q := 1) rfl eL_11_12 rfl rfl rfl (by decide +kernel) ?_
    refine ef_getI (k := 1) (j := 11) rfl eL_11_296 (by decide) (by decide +kernel) ?_
    exact es_ret rfl rfl rfl ⟨by decide +kernel, _, rfl, rfl⟩ (Nat.le_refl _) (Nat.le_refl _)
  refine es_ifc (fun h23 => ?_) (fun h23 => ?_)
  · refine es_tsw (off := (163)) (tgt := 172) hs10 6 h23 (by decide) ?_
    refine es_blk (pc' := 173) (L' := [some (.ref 0), some (.int p0), some (.ref 12)]) (st' := [.ref 12]) [(.aload_n 2, 0)] (by decide +kernel) rfl rfl ?_
    refine ef_getP (k := 12) (j := 10) (q := 18) rfl eL_11_243 rfl rfl rfl (by decide +kernel) ?_
    refine ef_getI (k := 18) (j := 1) rfl eL_11_299 (by decide) (by decide +kernel) ?_
    exact es_ret rfl rfl rfl ⟨by decide +kernel, _, rfl, rfl⟩ (Nat.le_refl _) (Nat.le_refl _)
  refine es_ifc (fun h24 => ?_) (fun h24 => ?_)
  · refine es_tsw (off := (171)) (tgt := 180) hs10 7 h24 (by decide) ?_
    refine es_blk (pc' := 181) (L' := [some (.ref 0), some (.int p0), some (.ref 12)]) (st' := [.ref 12]) [(.aload_n 2, 0)] (by decide +kernel) rfl rfl ?_
    refine ef_getI (k := 12) (j := 7) rfl eL_11_301 (by decide) (by decide +kernel) ?_
    exact es_ret rfl rfl rfl ⟨by decide +kernel, _, rfl, rfl⟩ (Nat.le_refl _) (Nat.le_refl _)
  refine es_ifc (fun h25 => ?_) (fun h25 => ?_)
  · refine es_tsw (off := (176)) (tgt := 185) hs10 16 h25 (by decide) ?_
    refine es_blk (pc' := 186) (L' := [some (.ref 0), some (.int p0), some (.ref 12)]) (st' := [.ref 0]) [(.aload_n 0, 0)] (by decide +kernel) rfl rfl ?_
    refine ef_getP (k := 0) (j := 0) (q := 1) rfl eL_11_12 rfl rfl rfl (by decide +kernel) ?_
    refine ef_getI (k := 1) (j := 12) rfl eL_11_304 (by decide) (by decide +kernel) ?_
    exact es_ret rfl rfl rfl ⟨by decide +kernel, _, rfl, rfl⟩ (Nat.le_refl _) (Nat.le_refl _)
  refine es_ifc (fun h26 => ?_) (fun h26 => ?_)
  · refine es_tsw (off := (184)) (tgt := 193) hs10 17 h26 (by decide) ?_
    refine es_blk (pc' := 194) (L' := [some (.ref 0), some (.int p0), some (.ref 12)]) (st' := [.ref 12]) [(.aload_n 2, 0)] (by decide +kernel) rfl rfl ?_
    refine ef_getI (k := 12) (j := 8) rfl eL_11_307 (by decide) (by decide +kernel) ?_
    exact es_ret rfl rfl rfl ⟨by decide +kernel, _, rfl, rfl⟩ (Nat.le_refl _) (Nat.le_refl _)
  refine es_ifc (fun h27 => ?_) (fun h27 => ?_)
  · refine es_tsw (off := (189)) (tgt := 198) hs10 18 h27 (by decide) ?_
    refine es_blk (pc' := 199) (L' := [some (.ref 0), some (.int p0), some (.ref 12)]) (st' := [.ref 12]) [(.aload_n 2, 0)] (by decide +kernel) rfl rfl ?_
    refine ef_getI (k := 12) (j := 9) rfl eL_11_310 (by decide) (by decide +kernel) ?_
    exact es_ret rfl rfl rfl ⟨by decide +kernel, _, rfl, rfl⟩ (Nat.le_refl _) (Nat.le_refl _)
  refine es_ifc (fun h28 => ?_) (fun h28 => ?_)
  · refine es_tsw (off := (194)) (tgt := 203) hs10 19 h28 (by decide) ?_
    refine es_blk (pc' := 204) (L' := [some (.ref 0), some (.int p0), some (.ref 12)]) (st' := [.ref 12]) [(.aload_n 2, 0)] (by decide +kernel) rfl rfl ?_
    refine ef_getP (k := 12) (j := 11) (q := 20) rfl eL_11_162 rfl rfl rfl (by decide +kernel) ?_
    refine ef_getI (k := 20) (j := 1) rfl eL_11_299 (by decide) (by decide +kernel) ?_
    exact es_ret rfl rfl rfl ⟨by decide +kernel, _, rfl, rfl⟩ (Nat.le_refl _) (Nat.le_refl _)
  refine es_ifc (fun h29 => ?_) (fun h29 => ?_)
  · refine es_tsw (off := (202)) (tgt := 211) hs10 20 h29 (by decide) ?_
    refine es_blk (pc' := 212) (L' := [some (.ref 0), some (.int p0), some (.ref 12)]) (st' := [.ref 12]) [(.aload_n 2, 0)] (by decide +kernel) rfl rfl ?_
    refine ef_getI (k := 12) (j := 14) rfl eL_11_155 (by decide) (by decide +kernel) ?_
    exact es_ret rfl rfl rfl ⟨by decide +kernel, _, rfl, rfl⟩ (Nat.le_refl _) (Nat.le_refl _)
  refine es_ifc (fun h30 => ?_) (fun h30 => ?_)
  · refine es_tsw (off := (207)) (tgt := 216) hs10 21 h30 (by decide) ?_
    refine es_blk (pc' := 217) (L' := [some (.ref 0), some (.int p0), some (.ref 12)]) (st' := [.ref 12]) [(.aload_n 2, 0)] (by decide +kernel) rfl rfl ?_
    refine ef_getP (k := 12) (j := 12) (q := 22) rfl eL_11_158 rfl rfl rfl (by decide +kernel) ?_
    refine ef_getI (k := 22) (j := 1) rfl eL_11_299 (by decide) (by decide +kernel) ?_
    exact es_ret rfl rfl rfl ⟨by decide +kernel, _, rfl, rfl⟩ (Nat.le_refl _) (Nat.le_refl _)
  refine es_ifc (fun h31 => ?_) (fun h31 => ?_)
  · refine es_tsw (off := (215)) (tgt := 224) hs10 22 h31 (by decide) ?_
    refine es_blk (pc' := 225) (L' := [some (.ref 0), some (.int p0), some (.ref 12)]) (st' := [.ref 12]) [(.aload_n 2, 0)] (by decide +kernel) rfl rfl ?_
    refine ef_getP (k := 12) (j := 13) (q := 24) rfl eL_11_170 rfl rfl rfl (by decide +kernel) ?_
    refine ef_getI (k := 24) (j := 1) rfl eL_11_299 (by decide) (by decide +kernel) ?_
    exact es_ret rfl rfl rfl ⟨by decide +kernel, _, rfl, rfl⟩ (Nat.le_refl _) (Nat.le_refl _)
  refine es_tswD (tgt := 232) hs10 [0, 1, 2, 3, 4, 5, 6, 7, 16, 17, 18, 19, 20, 21, 22] (List.forall_mem_cons.mpr ⟨eh_nei 0 0 (by decide) h11, (List.forall_mem_cons.mpr ⟨eh_nei 1 1 (by decide) h12, (List.forall_mem_cons.mpr ⟨eh_nei 2 2 (by decide) h16, (List.forall_mem_cons.mpr ⟨eh_nei 3 3 (by decide) h18, (List.forall_mem_cons.mpr ⟨eh_nei 4 4 (by decide) h20, (List.forall_mem_cons.mpr ⟨eh_nei 5 5 (by decide) h22, (List.forall_mem_cons.mpr ⟨eh_nei 6 6 (by decide) h23, (List.forall_mem_cons.mpr ⟨eh_nei 7 7 (by decide) h24, (List.forall_mem_cons.mpr ⟨eh_nei 16 16 (by decide) h25, (List.forall_mem_cons.mpr ⟨eh_nei 17 17 (by decide) h26, (List.forall_mem_cons.mpr ⟨eh_nei 18 18 (by decide) h27, (List.forall_mem_cons.mpr ⟨eh_nei 19 19 (by decide) h28, (List.forall_mem_cons.mpr ⟨eh_nei 20 20 (by decide) h29, (List.forall_mem_cons.mpr ⟨eh_nei 21 21 (by decide) h30, (List.forall_mem_cons.mpr ⟨eh_nei 22 22 (by decide) h31, (List.forall_mem_nil _)⟩)⟩)⟩)⟩)⟩)⟩)⟩)⟩)⟩)⟩)⟩)⟩)⟩)⟩)⟩) (by decide) (by decide) (by decide) ?_
  refine ef_drop (L2 := [some (.ref 0), some (.int p0), none]) [true, true, false] rfl rfl ?_
  exact Hj1 ()
def eF_11_registerOrZero (s : eh_F) (p0 : Int32) (p1 : Int32) : Option (Int32) := Option.bind (eF_11_isHart s p0) (fun q1 => eh_J (fun (a3 : Int32) => some a3) (fun j2 => eh_J (fun (u5 : Unit) => j2 0) (fun j4 => if q1 = 0 then (j4 ()) else (if p1 < 0 then (j4 ()) else (if p1 < 32 then (if eh_in p0 2 then if eh_in p1 32 then j2 (s.1 ((eh_hp p0) + 1) (eh_ix p1)) else none else none) else (j4 ()))))))
set_option maxHeartbeats 4000000 in
set_option maxRecDepth 100000 in
theorem eS_11_registerOrZero (g : eh_P) (s : eh_F) (p0 : Int32) (p1 : Int32) : eh_Sim g eM_11_registerOrZero (eh_R 2 0 0) (eh_pI s) 0 0 0 (eh_en 3 [.ref 0, .int p0, .int p1]) [] (eh_FW s) (eF_11_registerOrZero s p0 p1) := by
  unfold eF_11_registerOrZero
  refine ef_top (L := [some (.ref 0), some (.int p0), some (.int p1)]) rfl ?_
  refine es_blk (pc' := 1) (L' := [some (.ref 0), some (.int p0), some (.int p1)]) (st' := [.int p0]) [(.iload_n 1, 0)] (by decide +kernel) rfl rfl ?_
  refine ef_spI (d := 1) (As := [.int p0]) (st := []) eV_11_isHart eK_11_85 (eS_11_isHart g s p0) rfl (Nat.le_of_ble_eq_true rfl) rfl (Nat.le_of_ble_eq_true rfl) ⟨Nat.le_of_ble_eq_true rfl, Nat.le_of_ble_eq_true rfl⟩ ⟨Nat.le_refl _, Nat.le_refl _⟩ (by decide +kernel) (fun q1 _ => ?_)
  refine ef_J (X := fun j2 => ∀ (a3 : Int32), eh_Sim g eM_11_registerOrZero (eh_R 2 0 0) (eh_pI s) 0 0 35 [none, none, none] [.int a3] (eh_FW s) ((j2 a3).bind some)) ?_ (fun j2 Hj2 => ?_)
  · intro a3
    exact es_ret rfl rfl rfl ⟨by decide +kernel, _, rfl, rfl⟩ (Nat.le_refl _) (Nat.le_refl _)
  refine ef_J (X := fun j4 => ∀ (u5 : Unit), eh_Sim g eM_11_registerOrZero (eh_R 2 0 0) (eh_pI s) 0 0 34 [none, none, none] [] (eh_FW s) ((j4 u5).bind some)) ?_ (fun j4 Hj4 => ?_)
  · intro u5
    refine es_blk (pc' := 35) (L' := [none, none, none]) (st' := [.int 0]) [(.iconst 0, 0)] (by decide +kernel) rfl rfl ?_
    exact Hj2 _
  refine es_eq (tgt := 34) (off := (30)) (by decide +kernel) (by decide) (fun h6 => ?_) (fun h6 => ?_)
  · refine ef_drop (L2 := [none, none, none]) [false, false, false] rfl rfl ?_
    exact Hj4 ()
  refine es_blk (pc' := 8) (L' := [some (.ref 0), some (.int p0), some (.int p1)]) (st' := [.int p1]) [(.iload_n 2, 0)] (by decide +kernel) rfl rfl ?_
  refine es_lt (tgt := 34) (off := (26)) (by decide +kernel) (by decide) (fun h7 => ?_) (fun h7 => ?_)
  · refine ef_drop (L2 := [none, none, none]) [false, false, false] rfl rfl ?_
    exact Hj4 ()
  refine es_blk (pc' := 14) (L' := [some (.ref 0), some (.int p0), some (.int p1)]) (st' := [.int 32, .int p1]) [(.iload_n 2, 0), (.bipush 32, 32)] (by decide +kernel) rfl rfl ?_
  refine es_ige (tgt := 34) (off := (20)) (by decide +kernel) (by decide) (fun h8 => ?_) (fun h8 => ?_)
  · refine es_blk (pc' := 18) (L' := [some (.ref 0), some (.int p0), some (.int p1)]) (st' := [.ref 0]) [(.aload_n 0, 0)] (by decide +kernel) rfl rfl ?_
    refine ef_getP (k := 0) (j := 0) (q := 1) rfl eL_11_12 rfl rfl rfl (by decide +kernel) ?_
    refine ef_getP (k := 1) (j := 2) (q := 26) rfl eL_11_88 rfl rfl rfl (by decide +kernel) ?_
    refine es_blk (pc' := 25) (L' := [some (.ref 0), some (.int p0), some (.int p1)]) (st' := [.int p0, .ref 26]) [(.iload_n 1, 0)] (by decide +kernel) rfl rfl ?_
    refine ef_harts (by decide +kernel) (fun h9 => ?_)
    refine ef_getP (k := (eh_hp p0)) (j := 1) (q := ((eh_hp p0) + 1)) (eh_H0sh h9) eL_11_92 rfl (eh_Hx h9 _) (eh_H1sh h9) (by decide +kernel) ?_
    refine es_blk (pc' := 30) (L' := [some (.ref 0), some (.int p0), some (.int p1)]) (st' := [.int p1, .ref ((eh_hp p0) + 1)]) [(.iload_n 2, 0)] (by decide +kernel) rfl rfl ?_
    refine ef_ald (k := ((eh_hp p0) + 1)) (eh_H1sh h9) (Or.inl ⟨rfl, rfl⟩) (by decide +kernel) (fun _ => ?_)
    refine es_goto (tgt := 35) (off := (4)) (by decide +kernel) (by decide) ?_
    refine ef_drop (L2 := [none, none, none]) [false, false, false] rfl rfl ?_
    exact Hj2 _
  refine ef_drop (L2 := [none, none, none]) [false, false, false] rfl rfl ?_
  exact Hj4 ()
def eF_12_block (s : eh_F) (p0 : Int32) : Option (eh_F) := Option.bind (eh_loop (fun (r51 : (Int32 × eh_F) → Option (eh_F)) (t1 : Int32 × eh_F) => if t1.1 < 16 then (eh_V (((64 * p0) + (4 * t1.1)) : Int32) (fun x53 => if eh_in x53 512 then if eh_in (x53 + 1) 512 then if eh_in (x53 + 2) 512 then if eh_in (x53 + 3) 512 then if eh_in t1.1 64 then eh_V (eh_tI t1.2 191 (eh_ix t1.1) ((((eh_shl ((t1.2.1 189 (eh_ix x53)) &&& 255) 24) ||| (eh_shl ((t1.2.1 189 (eh_ix (x53 + 1))) &&& 255) 16)) ||| (eh_shl ((t1.2.1 189 (eh_ix (x53 + 2))) &&& 255) 8)) ||| ((t1.2.1 189 (eh_ix (x53 + 3))) &&& 255))) (fun s54 => eh_V ((t1.1 + 1) : Int32) (fun x55 => r51 (x55, s54))) else none else none else none else none else none)) else (some t1.2)) eh_FU (0, s)) (fun (e2 : eh_F) => Option.bind (eh_loop (fun (r38 : (Int32 × eh_F) → Option (eh_F)) (t3 : Int32 × eh_F) => if t3.1 < 64 then (if eh_in (t3.1 - 15) 64 then eh_V ((t3.2.1 191 (eh_ix (t3.1 - 15))) : Int32) (fun x40 => if eh_in (t3.1 - 2) 64 then eh_V ((t3.2.1 191 (eh_ix (t3.1 - 2))) : Int32) (fun x41 => Option.bind (eF_20_rotateRight t3.2 x40 7) (fun q42 => Option.bind (eF_20_rotateRight t3.2 x40 18) (fun q43 => eh_V (((q42 ^^^ q43) ^^^ (eh_ushr x40 3)) : Int32) (fun x44 => Option.bind (eF_20_rotateRight t3.2 x41 17) (fun q45 => Option.bind (eF_20_rotateRight t3.2 x41 19) (fun q46 => eh_V (((q45 ^^^ q46) ^^^ (eh_ushr x41 10)) : Int32) (fun x47 => if eh_in (t3.1 - 16) 64 then if eh_in (t3.1 - 7) 64 then if eh_in t3.1 64 then eh_V (eh_tI t3.2 191 (eh_ix t3.1) ((((t3.2.1 191 (eh_ix (t3.1 - 16))) + x44) + (t3.2.1 191 (eh_ix (t3.1 - 7)))) + x47)) (fun s48 => eh_V ((t3.1 + 1) : Int32) (fun x49 => r38 (x49, s48))) else none else none else none))))))) else none) else none) else (some t3.2)) eh_FU (16, e2)) (fun (e4 : eh_F) => if eh_in (8 * p0) 64 then eh_V ((e4.1 188 (eh_ix (8 * p0))) : Int32) (fun x5 => if eh_in ((8 * p0) + 1) 64 then eh_V ((e4.1 188 (eh_ix ((8 * p0) + 1))) : Int32) (fun x6 => if eh_in ((8 * p0) + 2) 64 then eh_V ((e4.1 188 (eh_ix ((8 * p0) + 2))) : Int32) (fun x7 => if eh_in ((8 * p0) + 3) 64 then eh_V ((e4.1 188 (eh_ix ((8 * p0) + 3))) : Int32) (fun x8 => if eh_in ((8 * p0) + 4) 64 then eh_V ((e4.1 188 (eh_ix ((8 * p0) + 4))) : Int32) (fun x9 => if eh_in ((8 * p0) + 5) 64 then eh_V ((e4.1 188 (eh_ix ((8 * p0) + 5))) : Int32) (fun x10 => if eh_in ((8 * p0) + 6) 64 then eh_V ((e4.1 188 (eh_ix ((8 * p0) + 6))) : Int32) (fun x11 => if eh_in ((8 * p0) + 7) 64 then eh_V ((e4.1 188 (eh_ix ((8 * p0) + 7))) : Int32) (fun x12 => Option.bind (eh_loop (fun (r24 : (Int32 × Int32 × Int32 × Int32 × Int32 × Int32 × Int32 × Int32 × Int32) → Option (Int32 × Int32 × Int32 × Int32 × Int32 × Int32 × Int32 × Int32)) (t13 : Int32 × Int32 × Int32 × Int32 × Int32 × Int32 × Int32 × Int32 × Int32) => if t13.2.2.2.2.2.2.2.2 < 64 then (Option.bind (eF_20_rotateRight e4 t13.2.2.2.2.1 6) (fun q26 => Option.bind (eF_20_rotateRight e4 t13.2.2.2.2.1 11) (fun q27 => Option.bind (eF_20_rotateRight e4 t13.2.2.2.2.1 25) (fun q28 => if eh_in t13.2.2.2.2.2.2.2.2 (eh_tn 3) then if eh_in t13.2.2.2.2.2.2.2.2 64 then eh_V (((((t13.2.2.2.2.2.2.2.1 + ((q26 ^^^ q27) ^^^ q28)) + ((t13.2.2.2.2.1 &&& t13.2.2.2.2.2.1) ^^^ ((t13.2.2.2.2.1 ^^^ (-1)) &&& t13.2.2.2.2.2.2.1))) + (eh_tt 3 (eh_ix t13.2.2.2.2.2.2.2.2))) + (e4.1 191 (eh_ix t13.2.2.2.2.2.2.2.2))) : Int32) (fun x29 => Option.bind (eF_20_rotateRight e4 t13.1 2) (fun q30 => Option.bind (eF_20_rotateRight e4 t13.1 13) (fun q31 => Option.bind (eF_20_rotateRight e4 t13.1 22) (fun q32 => eh_V ((((q30 ^^^ q31) ^^^ q32) + (((t13.1 &&& t13.2.1) ^^^ (t13.1 &&& t13.2.2.1)) ^^^ (t13.2.1 &&& t13.2.2.1))) : Int32) (fun x33 => eh_V ((t13.2.2.2.1 + x29) : Int32) (fun x34 => eh_V ((x29 + x33) : Int32) (fun x35 => eh_V ((t13.2.2.2.2.2.2.2.2 + 1) : Int32) (fun x36 => r24 (x35, t13.1, t13.2.1, t13.2.2.1, x34, t13.2.2.2.2.1, t13.2.2.2.2.2.1, t13.2.2.2.2.2.2.1, x36))))))))) else none else none)))) else (some (t13.1, t13.2.1, t13.2.2.1, t13.2.2.2.1, t13.2.2.2.2.1, t13.2.2.2.2.2.1, t13.2.2.2.2.2.2.1, t13.2.2.2.2.2.2.2.1))) eh_FU (x5, x6, x7, x8, x9, x10, x11, x12, 0)) (fun (e14 : Int32 × Int32 × Int32 × Int32 × Int32 × Int32 × Int32 × Int32) => if eh_in (8 * p0) 64 then if eh_in (8 * p0) 64 then eh_V (eh_tI e4 188 (eh_ix (8 * p0)) ((e4.1 188 (eh_ix (8 * p0))) + e14.1)) (fun s15 => if eh_in ((8 * p0) + 1) 64 then if eh_in ((8 * p0) + 1) 64 then eh_V (eh_tI s15 188 (eh_ix ((8 * p0) + 1)) ((s15.1 188 (eh_ix ((8 * p0) + 1))) + e14.2.1)) (fun s16 => if eh_in ((8 * p0) + 2) 64 then if eh_in ((8 * p0) + 2) 64 then eh_V (eh_tI s16 188 (eh_ix ((8 * p0) + 2)) ((s16.1 188 (eh_ix ((8 * p0) + 2))) + e14.2.2.1)) (fun s17 => if eh_in ((8 * p0) + 3) 64 then if eh_in ((8 * p0) + 3) 64 then eh_V (eh_tI s17 188 (eh_ix ((8 * p0) + 3)) ((s17.1 188 (eh_ix ((8 * p0) + 3))) + e14.2.2.2.1)) (fun s18 => if eh_in ((8 * p0) + 4) 64 then if eh_in ((8 * p0) + 4) 64 then eh_V (eh_tI s18 188 (eh_ix ((8 * p0) + 4)) ((s18.1 188 (eh_ix ((8 * p0) + 4))) + e14.2.2.2.2.1)) (fun s19 => if eh_in ((8 * p0) + 5) 64 then if eh_in ((8 * p0) + 5) 64 then eh_V (eh_tI s19 188 (eh_ix ((8 * p0) + 5)) ((s19.1 188 (eh_ix ((8 * p0) + 5))) + e14.2.2.2.2.2.1)) (fun s20 => if eh_in ((8 * p0) + 6) 64 then if eh_in ((8 * p0) + 6) 64 then eh_V (eh_tI s20 188 (eh_ix ((8 * p0) + 6)) ((s20.1 188 (eh_ix ((8 * p0) + 6))) + e14.2.2.2.2.2.2.1)) (fun s21 => if eh_in ((8 * p0) + 7) 64 then if eh_in ((8 * p0) + 7) 64 then eh_V (eh_tI s21 188 (eh_ix ((8 * p0) + 7)) ((s21.1 188 (eh_ix ((8 * p0) + 7))) + e14.2.2.2.2.2.2.2)) (fun s22 => some s22) else none else none) else none else none) else none else none) else none else none) else none else none) else none else none) else none else none) else none else none)) else none) else none) else none) else none) else none) else none) else none) else none))
set_option maxHeartbeats 4000000 in
set_option maxRecDepth 100000 in
theorem eS_12_block (g : eh_P) (s : eh_F) (p0 : Int32) : eh_Sim g eM_12_block (eh_R 2 0 0) eh_eV 0 0 0 (eh_en 13 [.ref 127, .int p0]) [] (eh_FW s) (eF_12_block s p0) := by
  unfold eF_12_block
  refine ef_top (L := [some (.ref 127), some (.int p0), none, none, none, none, none, none, none, none, none, none, none]) rfl ?_
  refine es_blk (pc' := 2) (L' := [some (.ref 127), some (.int p0), some (.int 0), none, none, none, none, none, none, none, none, none, none]) (st' := []) [(.iconst 0, 0), (.istore_n 2, 0)] (by decide +kernel) rfl rfl ?_
  refine ef_loop1 (n := eh_FU) (i := (0, s)) (px := 87) (fun (t1 : Int32 × eh_F) => [some (.ref 127), some (.int p0), some (.int t1.1), none, none, none, none, none, none, none, none, none, none]) (fun (t1 : Int32 × eh_F) => []) (fun (t1 : Int32 × eh_F) => eh_FW t1.2) (fun (e2 : eh_F) => [some (.ref 127), some (.int p0), none, none, none, none, none, none, none, none, none, none, none]) (fun (e2 : eh_F) => []) (fun (e2 : eh_F) => eh_FW e2) (fun e2 => ?_) (fun K50 HxK50_0 r51 Hr51 t1 => ?_)
  · refine es_blk (pc' := 90) (L' := [some (.ref 127), some (.int p0), some (.int 16), none, none, none, none, none, none, none, none, none, none]) (st' := []) [(.bipush 16, 16), (.istore_n 2, 0)] (by decide +kernel) rfl rfl ?_
    refine ef_loop1 (n := eh_FU) (i := (16, e2)) (px := 195) (fun (t3 : Int32 × eh_F) => [some (.ref 127), some (.int p0), some (.int t3.1), none, none, none, none, none, none, none, none, none, none]) (fun (t3 : Int32 × eh_F) => []) (fun (t3 : Int32 × eh_F) => eh_FW t3.2) (fun (e4 : eh_F) => [some (.ref 127), some (.int p0), none, none, none, none, none, none, none, none, none, none, none]) (fun (e4 : eh_F) => []) (fun (e4 : eh_F) => eh_FW e4) (fun e4 => ?_) (fun K37 HxK37_0 r38 Hr38 t3 => ?_)
    · refine es_blk (pc' := 196) (L' := [some (.ref 127), some (.int p0), none, none, none, none, none, none, none, none, none, none, none]) (st' := [.ref 127]) [(.aload_n 0, 0)] (by decide +kernel) rfl rfl ?_
      refine ef_getP (k := 127) (j := 74) (q := 188) rfl eL_12_193 rfl rfl rfl (by decide +kernel) ?_
      refine es_blk (pc' := 203) (L' := [some (.ref 127), some (.int p0), none, none, none, none, none, none, none, none, none, none, none]) (st' := [.int (8 * p0), .ref 188]) [(.bipush 8, 8), (.iload_n 1, 0), (.imul, 0)] (by decide +kernel) rfl rfl ?_
      refine ef_ald (k := 188) rfl (Or.inl ⟨rfl, rfl⟩) (by decide +kernel) (fun _ => ?_)
      refine es_blk (pc' := 205) (L' := [some (.ref 127), some (.int p0), some (.int (e4.1 188 (eh_ix (8 * p0)))), none, none, none, none, none, none, none, none, none, none]) (st' := []) [(.istore_n 2, 0)] (by decide +kernel) rfl rfl ?_
      refine ef_V (fun x5 => [some (.ref 127), some (.int p0), some (.int x5), none, none, none, none, none, none, none, none, none, none]) (fun _ => []) (fun _ => eh_FW e4) (fun x5 => ?_)
      refine es_blk (pc' := 206) (L' := [some (.ref 127), some (.int p0), some (.int x5), none, none, none, none, none, none, none, none, none, none]) (st' := [.ref 127]) [(.aload_n 0, 0)] (by decide +kernel) rfl rfl ?_
      refine ef_getP (k := 127) (j := 74) (q := 188) rfl eL_12_193 rfl rfl rfl (by decide +kernel) ?_
      refine es_blk (pc' := 215) (L' := [some (.ref 127), some (.int p0), some (.int x5), none, none, none, none, none, none, none, none, none, none]) (st' := [.int ((8 * p0) + 1), .ref 188]) [(.bipush 8, 8), (.iload_n 1, 0), (.imul, 0), (.iconst 1, 1), (.iadd, 0)] (by decide +kernel) rfl rfl ?_
      refine ef_ald (k := 188) rfl (Or.inl ⟨rfl, rfl⟩) (by decide +kernel) (fun _ => ?_)
      refine es_blk (pc' := 217) (L' := [some (.ref 127), some (.int p0), some (.int x5), some (.int (e4.1 188 (eh_ix ((8 * p0) + 1)))), none, none, none, none, none, none, none, none, none]) (st' := []) [(.istore_n 3, 0)] (by decide +kernel) rfl rfl ?_
      refine ef_V (fun x6 => [some (.ref 127), some (.int p0), some (.int x5), some (.int x6), none, none, none, none, none, none, none, none, none]) (fun _ => []) (fun _ => eh_FW e4) (fun x6 => ?_)
      refine es_blk (pc' := 218) (L' := [some (.ref 127), some (.int p0), some (.int x5), some (.int x6), none, none, none, none, none, none, none, none, none]) (st' := [.ref 127]) [(.aload_n 0, 0)] (by decide +kernel) rfl rfl ?_
      refine ef_getP (k := 127) (j := 74) (q := 188) rfl eL_12_193 rfl rfl rfl (by decide +kernel) ?_
      refine es_blk (pc' := 227) (L' := [some (.ref 127), some (.int p0), some (.int x5), some (.int x6), none, none, none, none, none, none, none, none, none]) (st' := [.int ((8 * p0) + 2), .ref 188]) [(.bipush 8, 8), (.iload_n 1, 0), (.imul, 0), (.iconst 2, 2), (.iadd, 0)] (by decide +kernel) rfl rfl ?_
      refine ef_ald (k := 188) rfl (Or.inl ⟨rfl, rfl⟩) (by decide +kernel) (fun _ => ?_)
      refine es_blk (pc' := 230) (L' := [some (.ref 127), some (.int p0), some (.int x5), some (.int x6), some (.int (e4.1 188 (eh_ix ((8 * p0) + 2)))), none, none, none, none, none, none, none, none]) (st' := []) [(.istore 4, 0)] (by decide +kernel) rfl rfl ?_
      refine ef_V (fun x7 => [some (.ref 127), some (.int p0), some (.int x5), some (.int x6), some (.int x7), none, none, none, none, none, none, none, none]) (fun _ => []) (fun _ => eh_FW e4) (fun x7 => ?_)
      refine es_blk (pc' := 231) (L' := [some (.ref 127), some (.int p0), some (.int x5), some (.int x6), some (.int x7), none, none, none, none, none, none, none, none]) (st' := [.ref 127]) [(.aload_n 0, 0)] (by decide +kernel) rfl rfl ?_
      refine ef_getP (k := 127) (j := 74) (q := 188) rfl eL_12_193 rfl rfl rfl (by decide +kernel) ?_
      refine es_blk (pc' := 240) (L' := [some (.ref 127), some (.int p0), some (.int x5), some (.int x6), some (.int x7), none, none, none, none, none, none, none, none]) (st' := [.int ((8 * p0) + 3), .ref 188]) [(.bipush 8, 8), (.iload_n 1, 0), (.imul, 0), (.iconst 3, 3), (.iadd, 0)] (by decide +kernel) rfl rfl ?_
      refine ef_ald (k := 188) rfl (Or.inl ⟨rfl, rfl⟩) (by decide +kernel) (fun _ => ?_)
      refine es_blk (pc' := 243) (L' := [some (.ref 127), some (.int p0), some (.int x5), some (.int x6), some (.int x7), some (.int (e4.1 188 (eh_ix ((8 * p0) + 3)))), none, none, none, none, none, none, none]) (st' := []) [(.istore 5, 0)] (by decide +kernel) rfl rfl ?_
      refine ef_V (fun x8 => [some (.ref 127), some (.int p0), some (.int x5), some (.int x6), some (.int x7), some (.int x8), none, none, none, none, none, none, none]) (fun _ => []) (fun _ => eh_FW e4) (fun x8 => ?_)
      refine es_blk (pc' := 244) (L' := [some (.ref 127), some (.int p0), some (.int x5), some (.int x6), some (.int x7), some (.int x8), none, none, none, none, none, none, none]) (st' := [.ref 127]) [(.aload_n 0, 0)] (by decide +kernel) rfl rfl ?_
      refine ef_getP (k := 127) (j := 74) (q := 188) rfl eL_12_193 rfl rfl rfl (by decide +kernel) ?_
      refine es_blk (pc' := 253) (L' := [some (.ref 127), some (.int p0), some (.int x5), some (.int x6), some (.int x7), some (.int x8), none, none, none, none, none, none, none]) (st' := [.int ((8 * p0) + 4), .ref 188]) [(.bipush 8, 8), (.iload_n 1, 0), (.imul, 0), (.iconst 4, 4), (.iadd, 0)] (by decide +kernel) rfl rfl ?_
      refine ef_ald (k := 188) rfl (Or.inl ⟨rfl, rfl⟩) (by decide +kernel) (fun _ => ?_)
      refine es_blk (pc' := 256) (L' := [some (.ref 127), some (.int p0), some (.int x5), some (.int x6), some (.int x7), some (.int x8), some (.int (e4.1 188 (eh_ix ((8 * p0) + 4)))), none, none, none, none, none, none]) (st' := []) [(.istore 6, 0)] (by decide +kernel) rfl rfl ?_
      refine ef_V (fun x9 => [some (.ref 127), some (.int p0), some (.int x5), some (.int x6), some (.int x7), some (.int x8), some (.int x9), none, none, none, none, none, none]) (fun _ => []) (fun _ => eh_FW e4) (fun x9 => ?_)
      refine es_blk (pc' := 257) (L' := [some (.ref 127), some (.int p0), some (.int x5), some (.int x6), some (.int x7), some (.int x8), some (.int x9), none, none, none, none, none, none]) (st' := [.ref 127]) [(.aload_n 0, 0)] (by decide +kernel) rfl rfl ?_
      refine ef_getP (k := 127) (j := 74) (q := 188) rfl eL_12_193 rfl rfl rfl (by decide +kernel) ?_
      refine es_blk (pc' := 266) (L' := [some (.ref 127), some (.int p0), some (.int x5), some (.int x6), some (.int x7), some (.int x8), some (.int x9), none, none, none, none, none, none]) (st' := [.int ((8 * p0) + 5), .ref 188]) [(.bipush 8, 8), (.iload_n 1, 0), (.imul, 0), (.iconst 5, 5), (.iadd, 0)] (by decide +kernel) rfl rfl ?_
      refine ef_ald (k := 188) rfl (Or.inl ⟨rfl, rfl⟩) (by decide +kernel) (fun _ => ?_)
      refine es_blk (pc' := 269) (L' := [some (.ref 127), some (.int p0), some (.int x5), some (.int x6), some (.int x7), some (.int x8), some (.int x9), some (.int (e4.1 188 (eh_ix ((8 * p0) + 5)))), none, none, none, none, none]) (st' := []) [(.istore 7, 0)] (by decide +kernel) rfl rfl ?_
      refine ef_V (fun x10 => [some (.ref 127), some (.int p0), some (.int x5), some (.int x6), some (.int x7), some (.int x8), some (.int x9), some (.int x10), none, none, none, none, none]) (fun _ => []) (fun _ => eh_FW e4) (fun x10 => ?_)
      refine es_blk (pc' := 270) (L' := [some (.ref 127), some (.int p0), some (.int x5), some (.int x6), some (.int x7), some (.int x8), some (.int x9), some (.int x10), none, none, none, none, none]) (st' := [.ref 127]) [(.aload_n 0, 0)] (by decide +kernel) rfl rfl ?_
      refine ef_getP (k := 127) (j := 74) (q := 188) rfl eL_12_193 rfl rfl rfl (by decide +kernel) ?_
      refine es_blk (pc' := 280) (L' := [some (.ref 127), some (.int p0), some (.int x5), some (.int x6), some (.int x7), some (.int x8), some (.int x9), some (.int x10), none, none, none, none, none]) (st' := [.int ((8 * p0) + 6), .ref 188]) [(.bipush 8, 8), (.iload_n 1, 0), (.imul, 0), (.bipush 6, 6), (.iadd, 0)] (by decide +kernel) rfl rfl ?_
      refine ef_ald (k := 188) rfl (Or.inl ⟨rfl, rfl⟩) (by decide +kernel) (fun _ => ?_)
      refine es_blk (pc' := 283) (L' := [some (.ref 127), some (.int p0), some (.int x5), some (.int x6), some (.int x7), some (.int x8), some (.int x9), some (.int x10), some (.int (e4.1 188 (eh_ix ((8 * p0) + 6)))), none, none, none, none]) (st' := []) [(.istore 8, 0)] (by decide +kernel) rfl rfl ?_
      refine ef_V (fun x11 => [some (.ref 127), some (.int p0), some (.int x5), some (.int x6), some (.int x7), some (.int x8), some (.int x9), some (.int x10), some (.int x11), none, none, none, none]) (fun _ => []) (fun _ => eh_FW e4) (fun x11 => ?_)
      refine es_blk (pc' := 284) (L' := [some (.ref 127), some (.int p0), some (.int x5), some (.int x6), some (.int x7), some (.int x8), some (.int x9), some (.int x10), some (.int x11), none, none, none, none]) (st' := [.ref 127]) [(.aload_n 0, 0)] (by decide +kernel) rfl rfl ?_
      refine ef_getP (k := 127) (j := 74) (q := 188) rfl eL_12_193 rfl rfl rfl (by decide +kernel) ?_
      refine es_blk (pc' := 294) (L' := [some (.ref 127), some (.int p0), some (.int x5), some (.int x6), some (.int x7), some (.int x8), some (.int x9), some (.int x10), some (.int x11), none, none, none, none]) (st' := [.int ((8 * p0) + 7), .ref 188]) [(.bipush 8, 8), (.iload_n 1, 0), (.imul, 0), (.bipush 7, 7), (.iadd, 0)] (by decide +kernel) rfl rfl ?_
      refine ef_ald (k := 188) rfl (Or.inl ⟨rfl, rfl⟩) (by decide +kernel) (fun _ => ?_)
      refine es_blk (pc' := 297) (L' := [some (.ref 127), some (.int p0), some (.int x5), some (.int x6), some (.int x7), some (.int x8), some (.int x9), some (.int x10), some (.int x11), some (.int (e4.1 188 (eh_ix ((8 * p0) + 7)))), none, none, none]) (st' := []) [(.istore 9, 0)] (by decide +kernel) rfl rfl ?_
      refine ef_V (fun x12 => [some (.ref 127), some (.int p0), some (.int x5), some (.int x6), some (.int x7), some (.int x8), some (.int x9), some (.int x10), some (.int x11), some (.int x12), none, none, none]) (fun _ => []) (fun _ => eh_FW e4) (fun x12 => ?_)
      refine es_blk (pc' := 300) (L' := [some (.ref 127), some (.int p0), some (.int x5), some (.int x6), some (.int x7), some (.int x8), some (.int x9), some (.int x10), some (.int x11), some (.int x12), some (.int 0), none, none]) (st' := []) [(.iconst 0, 0), (.istore 10, 0)] (by decide +kernel) rfl rfl ?_
      refine ef_loop1 (n := eh_FU) (i := (x5, x6, x7, x8, x9, x10, x11, x12, 0)) (px := 439) (fun (t13 : Int32 × Int32 × Int32 × Int32 × Int32 × Int32 × Int32 × Int32 × Int32) => [some (.ref 127), some (.int p0), some (.int t13.1), some (.int t13.2.1), some (.int t13.2.2.1), some (.int t13.2.2.2.1), some (.int t13.2.2.2.2.1), some (.int t13.2.2.2.2.2.1), some (.int t13.2.2.2.2.2.2.1), some (.int t13.2.2.2.2.2.2.2.1), some (.int t13.2.2.2.2.2.2.2.2), none, none]) (fun (t13 : Int32 × Int32 × Int32 × Int32 × Int32 × Int32 × Int32 × Int32 × Int32) => []) (fun (t13 : Int32 × Int32 × Int32 × Int32 × Int32 × Int32 × Int32 × Int32 × Int32) => eh_FW e4) (fun (e14 : Int32 × Int32 × Int32 × Int32 × Int32 × Int32 × Int32 × Int32) => [some (.ref 127), some (.int p0), some (.int e14.1), some (.int e14.2.1), some (.int e14.2.2.1), some (.int e14.2.2.2.1), some (.int e14.2.2.2.2.1), some (.int e14.2.2.2.2.2.1), some (.int e14.2.2.2.2.2.2.1), some (.int e14.2.2.2.2.2.2.2), none, none, none]) (fun (e14 : Int32 × Int32 × Int32 × Int32 × Int32 × Int32 × Int32 × Int32) => []) (fun (e14 : Int32 × Int32 × Int32 × Int32 × Int32 × Int32 × Int32 × Int32) => eh_FW e4) (fun e14 => ?_) (fun K23 HxK23_0 r24 Hr24 t13 => ?_)
      · refine es_blk (pc' := 440) (L' := [some (.ref 127), some (.int p0), some (.int e14.1), some (.int e14.2.1), some (.int e14.2.2.1), some (.int e14.2.2.2.1), some (.int e14.2.2.2.2.1), some (.int e14.2.2.2.2.2.1), some (.int e14.2.2.2.2.2.2.1), some (.int e14.2.2.2.2.2.2.2), none, none, none]) (st' := [.ref 127]) [(.aload_n 0, 0)] (by decide +kernel) rfl rfl ?_
        refine ef_getP (k := 127) (j := 74) (q := 188) rfl eL_12_193 rfl rfl rfl (by decide +kernel) ?_
        refine es_blk (pc' := 448) (L' := [some (.ref 127), some (.int p0), some (.int e14.1), some (.int e14.2.1), some (.int e14.2.2.1), some (.int e14.2.2.2.1), some (.int e14.2.2.2.2.1), some (.int e14.2.2.2.2.2.1), some (.int e14.2.2.2.2.2.2.1), some (.int e14.2.2.2.2.2.2.2), none, none, none]) (st' := [.int (8 * p0), .ref 188, .int (8 * p0), .ref 188]) [(.bipush 8, 8), (.iload_n 1, 0), (.imul, 0), (.dup2, 0)] (by decide +kernel) rfl rfl ?_
        refine ef_ald (k := 188) rfl (Or.inl ⟨rfl, rfl⟩) (by decide +kernel) (fun _ => ?_)
        refine es_blk (pc' := 451) (L' := [some (.ref 127), some (.int p0), some (.int e14.1), some (.int e14.2.1), some (.int e14.2.2.1), some (.int e14.2.2.2.1), some (.int e14.2.2.2.2.1), some (.int e14.2.2.2.2.2.1), some (.int e14.2.2.2.2.2.2.1), some (.int e14.2.2.2.2.2.2.2), none, none, none]) (st' := [.int ((e4.1 188 (eh_ix (8 * p0))) + e14.1), .int (8 * p0), .ref 188]) [(.iload_n 2, 0), (.iadd, 0)] (by decide +kernel) rfl rfl ?_
        refine ef_ast (k := 188) rfl (by decide +kernel) (fun _ => ?_)
        refine ef_V (fun _ => [some (.ref 127), some (.int p0), some (.int e14.1), some (.int e14.2.1), some (.int e14.2.2.1), some (.int e14.2.2.2.1), some (.int e14.2.2.2.2.1), some (.int e14.2.2.2.2.2.1), some (.int e14.2.2.2.2.2.2.1), some (.int e14.2.2.2.2.2.2.2), none, none, none]) (fun _ => []) (fun s15 => eh_FW s15) (fun s15 => ?_)
        refine es_blk (pc' := 453) (L' := [some (.ref 127), some (.int p0), some (.int e14.1), some (.int e14.2.1), some (.int e14.2.2.1), some (.int e14.2.2.2.1), some (.int e14.2.2.2.2.1), some (.int e14.2.2.2.2.2.1), some (.int e14.2.2.2.2.2.2.1), some (.int e14.2.2.2.2.2.2.2), none, none, none]) (st' := [.ref 127]) [(.aload_n 0, 0)] (by decide +kernel) rfl rfl ?_
        refine ef_getP (k := 127) (j := 74) (q := 188) rfl eL_12_193 rfl rfl rfl (by decide +kernel) ?_
        refine es_blk (pc' := 463) (L' := [some (.ref 127), some (.int p0), some (.int e14.1), some (.int e14.2.1), some (.int e14.2.2.1), some (.int e14.2.2.2.1), some (.int e14.2.2.2.2.1), some (.int e14.2.2.2.2.2.1), some (.int e14.2.2.2.2.2.2.1), some (.int e14.2.2.2.2.2.2.2), none, none, none]) (st' := [.int ((8 * p0) + 1), .ref 188, .int ((8 * p0) + 1), .ref 188]) [(.bipush 8, 8), (.iload_n 1, 0), (.imul, 0), (.iconst 1, 1), (.iadd, 0), (.dup2, 0)] (by decide +kernel) rfl rfl ?_
        refine ef_ald (k := 188) rfl (Or.inl ⟨rfl, rfl⟩) (by decide +kernel) (fun _ => ?_)
        refine es_blk (pc' := 466) (L' := [some (.ref 127), some (.int p0), some (.int e14.1), some (.int e14.2.1), some (.int e14.2.2.1), some (.int e14.2.2.2.1), some (.int e14.2.2.2.2.1), some (.int e14.2.2.2.2.2.1), some (.int e14.2.2.2.2.2.2.1), some (.int e14.2.2.2.2.2.2.2), none, none, none]) (st' := [.int ((s15.1 188 (eh_ix ((8 * p0) + 1))) + e14.2.1), .int ((8 * p0) + 1), .ref 188]) [(.iload_n 3, 0), (.iadd, 0)] (by decide +kernel) rfl rfl ?_
        refine ef_ast (k := 188) rfl (by decide +kernel) (fun _ => ?_)
        refine ef_V (fun _ => [some (.ref 127), some (.int p0), some (.int e14.1), some (.int e14.2.1), some (.int e14.2.2.1), some (.int e14.2.2.2.1), some (.int e14.2.2.2.2.1), some (.int e14.2.2.2.2.2.1), some (.int e14.2.2.2.2.2.2.1), some (.int e14.2.2.2.2.2.2.2), none, none, none]) (fun _ => []) (fun s16 => eh_FW s16) (fun s16 => ?_)
        refine es_blk (pc' := 468) (L' := [some (.ref 127), some (.int p0), some (.int e14.1), some (.int e14.2.1), some (.int e14.2.2.1), some (.int e14.2.2.2.1), some (.int e14.2.2.2.2.1), some (.int e14.2.2.2.2.2.1), some (.int e14.2.2.2.2.2.2.1), some (.int e14.2.2.2.2.2.2.2), none, none, none]) (st' := [.ref 127]) [(.aload_n 0, 0)] (by decide +kernel) rfl rfl ?_
        refine ef_getP (k := 127) (j := 74) (q := 188) rfl eL_12_193 rfl rfl rfl (by decide +kernel) ?_
        refine es_blk (pc' := 478) (L' := [some (.ref 127), some (.int p0), some (.int e14.1), some (.int e14.2.1), some (.int e14.2.2.1), some (.int e14.2.2.2.1), some (.int e14.2.2.2.2.1), some (.int e14.2.2.2.2.2.1), some (.int e14.2.2.2.2.2.2.1), some (.int e14.2.2.2.2.2.2.2), none, none, none]) (st' := [.int ((8 * p0) + 2), .ref 188, .int ((8 * p0) + 2), .ref 188]) [(.bipush 8, 8), (.iload_n 1, 0), (.imul, 0), (.iconst 2, 2), (.iadd, 0), (.dup2, 0)] (by decide +kernel) rfl rfl ?_
        refine ef_ald (k := 188) rfl (Or.inl ⟨rfl, rfl⟩) (by decide +kernel) (fun _ => ?_)
        refine es_blk (pc' := 482) (L' := [some (.ref 127), some (.int p0), some (.int e14.1), some (.int e14.2.1), some (.int e14.2.2.1), some (.int e14.2.2.2.1), some (.int e14.2.2.2.2.1), some (.int e14.2.2.2.2.2.1), some (.int e14.2.2.2.2.2.2.1), some (.int e14.2.2.2.2.2.2.2), none, none, none]) (st' := [.int ((s16.1 188 (eh_ix ((8 * p0) + 2))) + e14.2.2.1), .int ((8 * p0) + 2), .ref 188]) [(.iload 4, 0), (.iadd, 0)] (by decide +kernel) rfl rfl ?_
        refine ef_ast (k := 188) rfl (by decide +kernel) (fun _ => ?_)
        refine ef_V (fun _ => [some (.ref 127), some (.int p0), some (.int e14.1), some (.int e14.2.1), some (.int e14.2.2.1), some (.int e14.2.2.2.1), some (.int e14.2.2.2.2.1), some (.int e14.2.2.2.2.2.1), some (.int e14.2.2.2.2.2.2.1), some (.int e14.2.2.2.2.2.2.2), none, none, none]) (fun _ => []) (fun s17 => eh_FW s17) (fun s17 => ?_)
        refine es_blk (pc' := 484) (L' := [some (.ref 127), some (.int p0), some (.int e14.1), some (.int e14.2.1), some (.int e14.2.2.1), some (.int e14.2.2.2.1), some (.int e14.2.2.2.2.1), some (.int e14.2.2.2.2.2.1), some (.int e14.2.2.2.2.2.2.1), some (.int e14.2.2.2.2.2.2.2), none, none, none]) (st' := [.ref 127]) [(.aload_n 0, 0)] (by decide +kernel) rfl rfl ?_
        refine ef_getP (k := 127) (j := 74) (q := 188) rfl eL_12_193 rfl rfl rfl (by decide +kernel) ?_
        refine es_blk (pc' := 494) (L' := [some (.ref 127), some (.int p0), some (.int e14.1), some (.int e14.2.1), some (.int e14.2.2.1), some (.int e14.2.2.2.1), some (.int e14.2.2.2.2.1), some (.int e14.2.2.2.2.2.1), some (.int e14.2.2.2.2.2.2.1), some (.int e14.2.2.2.2.2.2.2), none, none, none]) (st' := [.int ((8 * p0) + 3), .ref 188, .int ((8 * p0) + 3), .ref 188]) [(.bipush 8, 8), (.iload_n 1, 0), (.imul, 0), (.iconst 3, 3), (.iadd, 0), (.dup2, 0)] (by decide +kernel) rfl rfl ?_
        refine ef_ald (k := 188) rfl (Or.inl ⟨rfl, rfl⟩) (by decide +kernel) (fun _ => ?_)
        refine es_blk (pc' := 498) (L' := [some (.ref 127), some (.int p0), some (.int e14.1), some (.int e14.2.1), some (.int e14.2.2.1), some (.int e14.2.2.2.1), some (.int e14.2.2.2.2.1), some (.int e14.2.2.2.2.2.1), some (.int e14.2.2.2.2.2.2.1), some (.int e14.2.2.2.2.2.2.2), none, none, none]) (st' := [.int ((s17.1 188 (eh_ix ((8 * p0) + 3))) + e14.2.2.2.1), .int ((8 * p0) + 3), .ref 188]) [(.iload 5, 0), (.iadd, 0)] (by decide +kernel) rfl rfl ?_
        refine ef_ast (k := 188) rfl (by decide +kernel) (fun _ => ?_)
        refine ef_V (fun _ => [some (.ref 127), some (.int p0), some (.int e14.1), some (.int e14.2.1), some (.int e14.2.2.1), some (.int e14.2.2.2.1), some (.int e14.2.2.2.2.1), some (.int e14.2.2.2.2.2.1), some (.int e14.2.2.2.2.2.2.1), some (.int e14.2.2.2.2.2.2.2), none, none, none]) (fun _ => []) (fun s18 => eh_FW s18) (fun s18 => ?_)
        refine es_blk (pc' := 500) (L' := [some (.ref 127), some (.int p0), some (.int e14.1), some (.int e14.2.1), some (.int e14.2.2.1), some (.int e14.2.2.2.1), some (.int e14.2.2.2.2.1), some (.int e14.2.2.2.2.2.1), some (.int e14.2.2.2.2.2.2.1), some (.int e14.2.2.2.2.2.2.2), none, none, none]) (st' := [.ref 127]) [(.aload_n 0, 0)] (by decide +kernel) rfl rfl ?_
        refine ef_getP (k := 127) (j := 74) (q := 188) rfl eL_12_193 rfl rfl rfl (by decide +kernel) ?_
        refine es_blk (pc' := 510) (L' := [some (.ref 127), some (.int p0), some (.int e14.1), some (.int e14.2.1), some (.int e14.2.2.1), some (.int e14.2.2.2.1), some (.int e14.2.2.2.2.1), some (.int e14.2.2.2.2.2.1), some (.int e14.2.2.2.2.2.2.1), some (.int e14.2.2.2.2.2.2.2), none, none, none]) (st' := [.int ((8 * p0) + 4), .ref 188, .int ((8 * p0) + 4), .ref 188]) [(.bipush 8, 8), (.iload_n 1, 0), (.imul, 0), (.iconst 4, 4), (.iadd, 0), (.dup2, 0)] (by decide +kernel) rfl rfl ?_
        refine ef_ald (k := 188) rfl (Or.inl ⟨rfl, rfl⟩) (by decide +kernel) (fun _ => ?_)
        refine es_blk (pc' := 514) (L' := [some (.ref 127), some (.int p0), some (.int e14.1), some (.int e14.2.1), some (.int e14.2.2.1), some (.int e14.2.2.2.1), some (.int e14.2.2.2.2.1), some (.int e14.2.2.2.2.2.1), some (.int e14.2.2.2.2.2.2.1), some (.int e14.2.2.2.2.2.2.2), none, none, none]) (st' := [.int ((s18.1 188 (eh_ix ((8 * p0) + 4))) + e14.2.2.2.2.1), .int ((8 * p0) + 4), .ref 188]) [(.iload 6, 0), (.iadd, 0)] (by decide +kernel) rfl rfl ?_
        refine ef_ast (k := 188) rfl (by decide +kernel) (fun _ => ?_)
        refine ef_V (fun _ => [some (.ref 127), some (.int p0), some (.int e14.1), some (.int e14.2.1), some (.int e14.2.2.1), some (.int e14.2.2.2.1), some (.int e14.2.2.2.2.1), some (.int e14.2.2.2.2.2.1), some (.int e14.2.2.2.2.2.2.1), some (.int e14.2.2.2.2.2.2.2), none, none, none]) (fun _ => []) (fun s19 => eh_FW s19) (fun s19 => ?_)
        refine es_blk (pc' := 516) (L' := [some (.ref 127), some (.int p0), some (.int e14.1), some (.int e14.2.1), some (.int e14.2.2.1), some (.int e14.2.2.2.1), some (.int e14.2.2.2.2.1), some (.int e14.2.2.2.2.2.1), some (.int e14.2.2.2.2.2.2.1), some (.int e14.2.2.2.2.2.2.2), none, none, none]) (st' := [.ref 127]) [(.aload_n 0, 0)] (by decide +kernel) rfl rfl ?_
        refine ef_getP (k := 127) (j := 74) (q := 188) rfl eL_12_193 rfl rfl rfl (by decide +kernel) ?_
        refine es_blk (pc' := 526) (L' := [some (.ref 127), some (.int p0), some (.int e14.1), some (.int e14.2.1), some (.int e14.2.2.1), some (.int e14.2.2.2.1), some (.int e14.2.2.2.2.1), some (.int e14.2.2.2.2.2.1), some (.int e14.2.2.2.2.2.2.1), some (.int e14.2.2.2.2.2.2.2), none, none, none]) (st' := [.int ((8 * p0) + 5), .ref 188, .int ((8 * p0) + 5), .ref 188]) [(.bipush 8, 8), (.iload_n 1, 0), (.imul, 0), (.iconst 5, 5), (.iadd, 0), (.dup2, 0)] (by decide +kernel) rfl rfl ?_
        refine ef_ald (k := 188) rfl (Or.inl ⟨rfl, rfl⟩) (by decide +kernel) (fun _ => ?_)
        refine es_blk (pc' := 530) (L' := [some (.ref 127), some (.int p0), some (.int e14.1), some (.int e14.2.1), some (.int e14.2.2.1), some (.int e14.2.2.2.1), some (.int e14.2.2.2.2.1), some (.int e14.2.2.2.2.2.1), some (.int e14.2.2.2.2.2.2.1), some (.int e14.2.2.2.2.2.2.2), none, none, none]) (st' := [.int ((s19.1 188 (eh_ix ((8 * p0) + 5))) + e14.2.2.2.2.2.1), .int ((8 * p0) + 5), .ref 188]) [(.iload 7, 0), (.iadd, 0)] (by decide +kernel) rfl rfl ?_
        refine ef_ast (k := 188) rfl (by decide +kernel) (fun _ => ?_)
        refine ef_V (fun _ => [some (.ref 127), some (.int p0), some (.int e14.1), some (.int e14.2.1), some (.int e14.2.2.1), some (.int e14.2.2.2.1), some (.int e14.2.2.2.2.1), some (.int e14.2.2.2.2.2.1), some (.int e14.2.2.2.2.2.2.1), some (.int e14.2.2.2.2.2.2.2), none, none, none]) (fun _ => []) (fun s20 => eh_FW s20) (fun s20 => ?_)
        refine es_blk (pc' := 532) (L' := [some (.ref 127), some (.int p0), some (.int e14.1), some (.int e14.2.1), some (.int e14.2.2.1), some (.int e14.2.2.2.1), some (.int e14.2.2.2.2.1), some (.int e14.2.2.2.2.2.1), some (.int e14.2.2.2.2.2.2.1), some (.int e14.2.2.2.2.2.2.2), none, none, none]) (st' := [.ref 127]) [(.aload_n 0, 0)] (by decide +kernel) rfl rfl ?_
        refine ef_getP (k := 127) (j := 74) (q := 188) rfl eL_12_193 rfl rfl rfl (by decide +kernel) ?_
        refine es_blk (pc' := 543) (L' := [some (.ref 127), some (.int p0), some (.int e14.1), some (.int e14.2.1), some (.int e14.2.2.1), some (.int e14.2.2.2.1), some (.int e14.2.2.2.2.1), some (.int e14.2.2.2.2.2.1), some (.int e14.2.2.2.2.2.2.1), some (.int e14.2.2.2.2.2.2.2), none, none, none]) (st' := [.int ((8 * p0) + 6), .ref 188, .int ((8 * p0) + 6), .ref 188]) [(.bipush 8, 8), (.iload_n 1, 0), (.imul, 0), (.bipush 6, 6), (.iadd, 0), (.dup2, 0)] (by decide +kernel) rfl rfl ?_
        refine ef_ald (k := 188) rfl (Or.inl ⟨rfl, rfl⟩) (by decide +kernel) (fun _ => ?_)
        refine es_blk (pc' := 547) (L' := [some (.ref 127), some (.int p0), some (.int e14.1), some (.int e14.2.1), some (.int e14.2.2.1), some (.int e14.2.2.2.1), some (.int e14.2.2.2.2.1), some (.int e14.2.2.2.2.2.1), some (.int e14.2.2.2.2.2.2.1), some (.int e14.2.2.2.2.2.2.2), none, none, none]) (st' := [.int ((s20.1 188 (eh_ix ((8 * p0) + 6))) + e14.2.2.2.2.2.2.1), .int ((8 * p0) + 6), .ref 188]) [(.iload 8, 0), (.iadd, 0)] (by decide +kernel) rfl rfl ?_
        refine ef_ast (k := 188) rfl (by decide +kernel) (fun _ => ?_)
        refine ef_V (fun _ => [some (.ref 127), some (.int p0), some (.int e14.1), some (.int e14.2.1), some (.int e14.2.2.1), some (.int e14.2.2.2.1), some (.int e14.2.2.2.2.1), some (.int e14.2.2.2.2.2.1), some (.int e14.2.2.2.2.2.2.1), some (.int e14.2.2.2.2.2.2.2), none, none, none]) (fun _ => []) (fun s21 => eh_FW s21) (fun s21 => ?_)
        refine es_blk (pc' := 549) (L' := [some (.ref 127), some (.int p0), some (.int e14.1), some (.int e14.2.1), some (.int e14.2.2.1), some (.int e14.2.2.2.1), some (.int e14.2.2.2.2.1), some (.int e14.2.2.2.2.2.1), some (.int e14.2.2.2.2.2.2.1), some (.int e14.2.2.2.2.2.2.2), none, none, none]) (st' := [.ref 127]) [(.aload_n 0, 0)] (by decide +kernel) rfl rfl ?_
        refine ef_getP (k := 127) (j := 74) (q := 188) rfl eL_12_193 rfl rfl rfl (by decide +kernel) ?_
        refine es_blk (pc' := 560) (L' := [some (.ref 127), some (.int p0), some (.int e14.1), some (.int e14.2.1), some (.int e14.2.2.1), some (.int e14.2.2.2.1), some (.int e14.2.2.2.2.1), some (.int e14.2.2.2.2.2.1), some (.int e14.2.2.2.2.2.2.1), some (.int e14.2.2.2.2.2.2.2), none, none, none]) (st' := [.int ((8 * p0) + 7), .ref 188, .int ((8 * p0) + 7), .ref 188]) [(.bipush 8, 8), (.iload_n 1, 0), (.imul, 0), (.bipush 7, 7), (.iadd, 0), (.dup2, 0)] (by decide +kernel) rfl rfl ?_
        refine ef_ald (k := 188) rfl (Or.inl ⟨rfl, rfl⟩) (by decide +kernel) (fun _ => ?_)
        refine es_blk (pc' := 564) (L' := [some (.ref 127), some (.int p0), some (.int e14.1), some (.int e14.2.1), some (.int e14.2.2.1), some (.int e14.2.2.2.1), some (.int e14.2.2.2.2.1), some (.int e14.2.2.2.2.2.1), some (.int e14.2.2.2.2.2.2.1), some (.int e14.2.2.2.2.2.2.2), none, none, none]) (st' := [.int ((s21.1 188 (eh_ix ((8 * p0) + 7))) + e14.2.2.2.2.2.2.2), .int ((8 * p0) + 7), .ref 188]) [(.iload 9, 0), (.iadd, 0)] (by decide +kernel) rfl rfl ?_
        refine ef_ast (k := 188) rfl (by decide +kernel) (fun _ => ?_)
        refine ef_V (fun _ => [some (.ref 127), some (.int p0), some (.int e14.1), some (.int e14.2.1), some (.int e14.2.2.1), some (.int e14.2.2.2.1), some (.int e14.2.2.2.2.1), some (.int e14.2.2.2.2.2.1), some (.int e14.2.2.2.2.2.2.1), some (.int e14.2.2.2.2.2.2.2), none, none, none]) (fun _ => []) (fun s22 => eh_FW s22) (fun s22 => ?_)
        exact es_ret rfl rfl rfl ⟨by decide +kernel, rfl⟩ (Nat.le_refl _) (Nat.le_refl _)
      · refine es_blk (pc' := 304) (L' := [some (.ref 127), some (.int p0), some (.int t13.1), some (.int t13.2.1), some (.int t13.2.2.1), some (.int t13.2.2.2.1), some (.int t13.2.2.2.2.1), some (.int t13.2.2.2.2.2.1), some (.int t13.2.2.2.2.2.2.1), some (.int t13.2.2.2.2.2.2.2.1), some (.int t13.2.2.2.2.2.2.2.2), none, none]) (st' := [.int 64, .int t13.2.2.2.2.2.2.2.2]) [(.iload 10, 0), (.bipush 64, 64)] (by decide +kernel) rfl rfl ?_
        refine es_ige (tgt := 439) (off := (135)) (by decide +kernel) (by decide) (fun h25 => ?_) (fun h25 => ?_)
        · refine es_blk (pc' := 313) (L' := [some (.ref 127), some (.int p0), some (.int t13.1), some (.int t13.2.1), some (.int t13.2.2.1), some (.int t13.2.2.2.1), some (.int t13.2.2.2.2.1), some (.int t13.2.2.2.2.2.1), some (.int t13.2.2.2.2.2.2.1), some (.int t13.2.2.2.2.2.2.2.1), some (.int t13.2.2.2.2.2.2.2.2), none, none]) (st' := [.int 6, .int t13.2.2.2.2.1, .int t13.2.2.2.2.2.2.2.1]) [(.iload 9, 0), (.iload 6, 0), (.bipush 6, 6)] (by decide +kernel) rfl rfl ?_
          refine ef_spI (d := 1) (As := [.int t13.2.2.2.2.1, .int 6]) (st := [.int t13.2.2.2.2.2.2.2.1]) eV_20_rotateRight eK_12_245 (eS_20_rotateRight g e4 t13.2.2.2.2.1 6) rfl (Nat.le_of_ble_eq_true rfl) rfl (Nat.le_of_ble_eq_true rfl) ⟨Nat.le_of_ble_eq_true rfl, Nat.le_of_ble_eq_true rfl⟩ ⟨Nat.le_refl _, Nat.le_refl _⟩ (by decide +kernel) (fun q26 _ => ?_)
          refine es_blk (pc' := 320) (L' := [some (.ref 127), some (.int p0), some (.int t13.1), some (.int t13.2.1), some (.int t13.2.2.1), some (.int t13.2.2.2.1), some (.int t13.2.2.2.2.1), some (.int t13.2.2.2.2.2.1), some (.int t13.2.2.2.2.2.2.1), some (.int t13.2.2.2.2.2.2.2.1), some (.int t13.2.2.2.2.2.2.2.2), none, none]) (st' := [.int 11, .int t13.2.2.2.2.1, .int q26, .int t13.2.2.2.2.2.2.2.1]) [(.iload 6, 0), (.bipush 11, 11)] (by decide +kernel) rfl rfl ?_
          refine ef_spI (d := 1) (As := [.int t13.2.2.2.2.1, .int 11]) (st := [.int q26, .int t13.2.2.2.2.2.2.2.1]) eV_20_rotateRight eK_12_245 (eS_20_rotateRight g e4 t13.2.2.2.2.1 11) rfl (Nat.le_of_ble_eq_true rfl) rfl (Nat.le_of_ble_eq_true rfl) ⟨Nat.le_of_ble_eq_true rfl, Nat.le_of_ble_eq_true rfl⟩ ⟨Nat.le_refl _, Nat.le_refl _⟩ (by decide +kernel) (fun q27 _ => ?_)
          refine es_blk (pc' := 328) (L' := [some (.ref 127), some (.int p0), some (.int t13.1), some (.int t13.2.1), some (.int t13.2.2.1), some (.int t13.2.2.2.1), some (.int t13.2.2.2.2.1), some (.int t13.2.2.2.2.2.1), some (.int t13.2.2.2.2.2.2.1), some (.int t13.2.2.2.2.2.2.2.1), some (.int t13.2.2.2.2.2.2.2.2), none, none]) (st' := [.int 25, .int t13.2.2.2.2.1, .int (q26 ^^^ q27), .int t13.2.2.2.2.2.2.2.1]) [(.ixor, 0), (.iload 6, 0), (.bipush 25, 25)] (by decide +kernel) rfl rfl ?_
          refine ef_spI (d := 1) (As := [.int t13.2.2.2.2.1, .int 25]) (st := [.int (q26 ^^^ q27), .int t13.2.2.2.2.2.2.2.1]) eV_20_rotateRight eK_12_245 (eS_20_rotateRight g e4 t13.2.2.2.2.1 25) rfl (Nat.le_of_ble_eq_true rfl) rfl (Nat.le_of_ble_eq_true rfl) ⟨Nat.le_of_ble_eq_true rfl, Nat.le_of_ble_eq_true rfl⟩ ⟨Nat.le_refl _, Nat.le_refl _⟩ (by decide +kernel) (fun q28 _ => ?_)
          refine es_blk (pc' := 347) (L' := [some (.ref 127), some (.int p0), some (.int t13.1), some (.int t13.2.1), some (.int t13.2.2.1), some (.int t13.2.2.2.1), some (.int t13.2.2.2.2.1), some (.int t13.2.2.2.2.2.1), some (.int t13.2.2.2.2.2.2.1), some (.int t13.2.2.2.2.2.2.2.1), some (.int t13.2.2.2.2.2.2.2.2), none, none]) (st' := [.int ((t13.2.2.2.2.2.2.2.1 + ((q26 ^^^ q27) ^^^ q28)) + ((t13.2.2.2.2.1 &&& t13.2.2.2.2.2.1) ^^^ ((t13.2.2.2.2.1 ^^^ (-1)) &&& t13.2.2.2.2.2.2.1)))]) [(.ixor, 0), (.iadd, 0), (.iload 6, 0), (.iload 7, 0), (.iand, 0), (.iload 6, 0), (.iconst (-1), (-1)), (.ixor, 0), (.iload 8, 0), (.iand, 0), (.ixor, 0), (.iadd, 0)] (by decide +kernel) rfl rfl ?_
          refine ef_stat (i := 3) (by decide) eG_12_251 (by decide +kernel) ?_
          refine es_blk (pc' := 352) (L' := [some (.ref 127), some (.int p0), some (.int t13.1), some (.int t13.2.1), some (.int t13.2.2.1), some (.int t13.2.2.2.1), some (.int t13.2.2.2.2.1), some (.int t13.2.2.2.2.2.1), some (.int t13.2.2.2.2.2.2.1), some (.int t13.2.2.2.2.2.2.2.1), some (.int t13.2.2.2.2.2.2.2.2), none, none]) (st' := [.int t13.2.2.2.2.2.2.2.2, .ref (eh_SB + 3), .int ((t13.2.2.2.2.2.2.2.1 + ((q26 ^^^ q27) ^^^ q28)) + ((t13.2.2.2.2.1 &&& t13.2.2.2.2.2.1) ^^^ ((t13.2.2.2.2.1 ^^^ (-1)) &&& t13.2.2.2.2.2.2.1)))]) [(.iload 10, 0)] (by decide +kernel) rfl rfl ?_
          refine ef_tld (i := 3) (by decide) (by decide +kernel) (fun _ => ?_)
          refine es_blk (pc' := 355) (L' := [some (.ref 127), some (.int p0), some (.int t13.1), some (.int t13.2.1), some (.int t13.2.2.1), some (.int t13.2.2.2.1), some (.int t13.2.2.2.2.1), some (.int t13.2.2.2.2.2.1), some (.int t13.2.2.2.2.2.2.1), some (.int t13.2.2.2.2.2.2.2.1), some (.int t13.2.2.2.2.2.2.2.2), none, none]) (st' := [.ref 127, .int (((t13.2.2.2.2.2.2.2.1 + ((q26 ^^^ q27) ^^^ q28)) + ((t13.2.2.2.2.1 &&& t13.2.2.2.2.2.1) ^^^ ((t13.2.2.2.2.1 ^^^ (-1)) &&& t13.2.2.2.2.2.2.1))) + (eh_tt 3 (eh_ix t13.2.2.2.2.2.2.2.2)))]) [(.iadd, 0), (.aload_n 0, 0)] (by decide +kernel) rfl rfl ?_
          refine ef_getP (k := 127) (j := 77) (q := 191) rfl eL_12_203 rfl rfl rfl (by decide +kernel) ?_
          refine es_blk (pc' := 360) (L' := [some (.ref 127), some (.int p0), some (.int t13.1), some (.int t13.2.1), some (.int t13.2.2.1), some (.int t13.2.2.2.1), some (.int t13.2.2.2.2.1), some (.int t13.2.2.2.2.2.1), some (.int t13.2.2.2.2.2.2.1), some (.int t13.2.2.2.2.2.2.2.1), some (.int t13.2.2.2.2.2.2.2.2), none, none]) (st' := [.int t13.2.2.2.2.2.2.2.2, .ref 191, .int (((t13.2.2.2.2.2.2.2.1 + ((q26 ^^^ q27) ^^^ q28)) + ((t13.2.2.2.2.1 &&& t13.2.2.2.2.2.1) ^^^ ((t13.2.2.2.2.1 ^^^ (-1)) &&& t13.2.2.2.2.2.2.1))) + (eh_tt 3 (eh_ix t13.2.2.2.2.2.2.2.2)))]) [(.iload 10, 0)] (by decide +kernel) rfl rfl ?_
          refine ef_ald (k := 191) rfl (Or.inl ⟨rfl, rfl⟩) (by decide +kernel) (fun _ => ?_)
          refine es_blk (pc' := 364) (L' := [some (.ref 127), some (.int p0), some (.int t13.1), some (.int t13.2.1), some (.int t13.2.2.1), some (.int t13.2.2.2.1), some (.int t13.2.2.2.2.1), some (.int t13.2.2.2.2.2.1), some (.int t13.2.2.2.2.2.2.1), some (.int t13.2.2.2.2.2.2.2.1), some (.int t13.2.2.2.2.2.2.2.2), some (.int ((((t13.2.2.2.2.2.2.2.1 + ((q26 ^^^ q27) ^^^ q28)) + ((t13.2.2.2.2.1 &&& t13.2.2.2.2.2.1) ^^^ ((t13.2.2.2.2.1 ^^^ (-1)) &&& t13.2.2.2.2.2.2.1))) + (eh_tt 3 (eh_ix t13.2.2.2.2.2.2.2.2))) + (e4.1 191 (eh_ix t13.2.2.2.2.2.2.2.2)))), none]) (st' := []) [(.iadd, 0), (.istore 11, 0)] (by decide +kernel) rfl rfl ?_
          refine ef_V (fun x29 => [some (.ref 127), some (.int p0), some (.int t13.1), some (.int t13.2.1), some (.int t13.2.2.1), some (.int t13.2.2.2.1), some (.int t13.2.2.2.2.1), some (.int t13.2.2.2.2.2.1), some (.int t13.2.2.2.2.2.2.1), some (.int t13.2.2.2.2.2.2.2.1), some (.int t13.2.2.2.2.2.2.2.2), some (.int x29), none]) (fun _ => []) (fun _ => eh_FW e4) (fun x29 => ?_)
          refine es_blk (pc' := 366) (L' := [some (.ref 127), some (.int p0), some (.int t13.1), some (.int t13.2.1), some (.int t13.2.2.1), some (.int t13.2.2.2.1), some (.int t13.2.2.2.2.1), some (.int t13.2.2.2.2.2.1), some (.int t13.2.2.2.2.2.2.1), some (.int t13.2.2.2.2.2.2.2.1), some (.int t13.2.2.2.2.2.2.2.2), some (.int x29), none]) (st' := [.int 2, .int t13.1]) [(.iload_n 2, 0), (.iconst 2, 2)] (by decide +kernel) rfl rfl ?_
          refine ef_spI (d := 1) (As := [.int t13.1, .int 2]) (st := []) eV_20_rotateRight eK_12_245 (eS_20_rotateRight g e4 t13.1 2) rfl (Nat.le_of_ble_eq_true rfl) rfl (Nat.le_of_ble_eq_true rfl) ⟨Nat.le_of_ble_eq_true rfl, Nat.le_of_ble_eq_true rfl⟩ ⟨Nat.le_refl _, Nat.le_refl _⟩ (by decide +kernel) (fun q30 _ => ?_)
          refine es_blk (pc' := 372) (L' := [some (.ref 127), some (.int p0), some (.int t13.1), some (.int t13.2.1), some (.int t13.2.2.1), some (.int t13.2.2.2.1), some (.int t13.2.2.2.2.1), some (.int t13.2.2.2.2.2.1), some (.int t13.2.2.2.2.2.2.1), some (.int t13.2.2.2.2.2.2.2.1), some (.int t13.2.2.2.2.2.2.2.2), some (.int x29), none]) (st' := [.int 13, .int t13.1, .int q30]) [(.iload_n 2, 0), (.bipush 13, 13)] (by decide +kernel) rfl rfl ?_
          refine ef_spI (d := 1) (As := [.int t13.1, .int 13]) (st := [.int q30]) eV_20_rotateRight eK_12_245 (eS_20_rotateRight g e4 t13.1 13) rfl (Nat.le_of_ble_eq_true rfl) rfl (Nat.le_of_ble_eq_true rfl) ⟨Nat.le_of_ble_eq_true rfl, Nat.le_of_ble_eq_true rfl⟩ ⟨Nat.le_refl _, Nat.le_refl _⟩ (by decide +kernel) (fun q31 _ => ?_)
          refine es_blk (pc' := 379) (L' := [some (.ref 127), some (.int p0), some (.int t13.1), some (.int t13.2.1), some (.int t13.2.2.1), some (.int t13.2.2.2.1), some (.int t13.2.2.2.2.1), some (.int t13.2.2.2.2.2.1), some (.int t13.2.2.2.2.2.2.1), some (.int t13.2.2.2.2.2.2.2.1), some (.int t13.2.2.2.2.2.2.2.2), some (.int x29), none]) (st' := [.int 22, .int t13.1, .int (q30 ^^^ q31)]) [(.ixor, 0), (.iload_n 2, 0), (.bipush 22, 22)] (by decide +kernel) rfl rfl ?_
          refine ef_spI (d := 1) (As := [.int t13.1, .int 22]) (st := [.int (q30 ^^^ q31)]) eV_20_rotateRight eK_12_245 (eS_20_rotateRight g e4 t13.1 22) rfl (Nat.le_of_ble_eq_true rfl) rfl (Nat.le_of_ble_eq_true rfl) ⟨Nat.le_of_ble_eq_true rfl, Nat.le_of_ble_eq_true rfl⟩ ⟨Nat.le_refl _, Nat.le_refl _⟩ (by decide +kernel) (fun q32 _ => ?_)
          refine es_blk (pc' := 399) (L' := [some (.ref 127), some (.int p0), some (.int t13.1), some (.int t13.2.1), some (.int t13.2.2.1), some (.int t13.2.2.2.1), some (.int t13.2.2.2.2.1), some (.int t13.2.2.2.2.2.1), some (.int t13.2.2.2.2.2.2.1), some (.int t13.2.2.2.2.2.2.2.1), some (.int t13.2.2.2.2.2.2.2.2), some (.int x29), some (.int (((q30 ^^^ q31) ^^^ q32) + (((t13.1 &&& t13.2.1) ^^^ (t13.1 &&& t13.2.2.1)) ^^^ (t13.2.1 &&& t13.2.2.1))))]) (st' := []) [(.ixor, 0), (.iload_n 2, 0), (.iload_n 3, 0), (.iand, 0), (.iload_n 2, 0), (.iload 4, 0), (.iand, 0), (.ixor, 0), (.iload_n 3, 0), (.iload 4, 0), (.iand, 0), (.ixor, 0), (.iadd, 0), (.istore 12, 0)] (by decide +kernel) rfl rfl ?_
          refine ef_V (fun x33 => [some (.ref 127), some (.int p0), some (.int t13.1), some (.int t13.2.1), some (.int t13.2.2.1), some (.int t13.2.2.2.1), some (.int t13.2.2.2.2.1), some (.int t13.2.2.2.2.2.1), some (.int t13.2.2.2.2.2.2.1), some (.int t13.2.2.2.2.2.2.2.1), some (.int t13.2.2.2.2.2.2.2.2), some (.int x29), some (.int x33)]) (fun _ => []) (fun _ => eh_FW e4) (fun x33 => ?_)
          refine es_blk (pc' := 418) (L' := [some (.ref 127), some (.int p0), some (.int t13.1), some (.int t13.2.1), some (.int t13.2.2.1), some (.int t13.2.2.2.1), some (.int (t13.2.2.2.1 + x29)), some (.int t13.2.2.2.2.1), some (.int t13.2.2.2.2.2.1), some (.int t13.2.2.2.2.2.2.1), some (.int t13.2.2.2.2.2.2.2.2), some (.int x29), some (.int x33)]) (st' := []) [(.iload 8, 0), (.istore 9, 0), (.iload 7, 0), (.istore 8, 0), (.iload 6, 0), (.istore 7, 0), (.iload 5, 0), (.iload 11, 0), (.iadd, 0), (.istore 6, 0)] (by decide +kernel) rfl rfl ?_
          refine ef_V (fun x34 => [some (.ref 127), some (.int p0), some (.int t13.1), some (.int t13.2.1), some (.int t13.2.2.1), some (.int t13.2.2.2.1), some (.int x34), some (.int t13.2.2.2.2.1), some (.int t13.2.2.2.2.2.1), some (.int t13.2.2.2.2.2.2.1), some (.int t13.2.2.2.2.2.2.2.2), some (.int x29), some (.int x33)]) (fun _ => []) (fun _ => eh_FW e4) (fun x34 => ?_)
          refine es_blk (pc' := 433) (L' := [some (.ref 127), some (.int p0), some (.int (x29 + x33)), some (.int t13.1), some (.int t13.2.1), some (.int t13.2.2.1), some (.int x34), some (.int t13.2.2.2.2.1), some (.int t13.2.2.2.2.2.1), some (.int t13.2.2.2.2.2.2.1), some (.int t13.2.2.2.2.2.2.2.2), some (.int x29), some (.int x33)]) (st' := []) [(.iload 4, 0), (.istore 5, 0), (.iload_n 3, 0), (.istore 4, 0), (.iload_n 2, 0), (.istore_n 3, 0), (.iload 11, 0), (.iload 12, 0), (.iadd, 0), (.istore_n 2, 0)] (by decide +kernel) rfl rfl ?_
          refine ef_V (fun x35 => [some (.ref 127), some (.int p0), some (.int x35), some (.int t13.1), some (.int t13.2.1), some (.int t13.2.2.1), some (.int x34), some (.int t13.2.2.2.2.1), some (.int t13.2.2.2.2.2.1), some (.int t13.2.2.2.2.2.2.1), some (.int t13.2.2.2.2.2.2.2.2), some (.int x29), some (.int x33)]) (fun _ => []) (fun _ => eh_FW e4) (fun x35 => ?_)
          refine es_blk (pc' := 436) (L' := [some (.ref 127), some (.int p0), some (.int x35), some (.int t13.1), some (.int t13.2.1), some (.int t13.2.2.1), some (.int x34), some (.int t13.2.2.2.2.1), some (.int t13.2.2.2.2.2.1), some (.int t13.2.2.2.2.2.2.1), some (.int (t13.2.2.2.2.2.2.2.2 + 1)), some (.int x29), some (.int x33)]) (st' := []) [(.iinc 10 1, 1)] (by decide +kernel) rfl rfl ?_
          refine ef_V (fun x36 => [some (.ref 127), some (.int p0), some (.int x35), some (.int t13.1), some (.int t13.2.1), some (.int t13.2.2.1), some (.int x34), some (.int t13.2.2.2.2.1), some (.int t13.2.2.2.2.2.1), some (.int t13.2.2.2.2.2.2.1), some (.int x36), some (.int x29), some (.int x33)]) (fun _ => []) (fun _ => eh_FW e4) (fun x36 => ?_)
          refine es_goto (tgt := 300) (off := (-136)) (by decide +kernel) (by decide) ?_
          refine ef_drop (L2 := [some (.ref 127), some (.int p0), some (.int x35), some (.int t13.1), some (.int t13.2.1), some (.int t13.2.2.1), some (.int x34), some (.int t13.2.2.2.2.1), some (.int t13.2.2.2.2.2.1), some (.int t13.2.2.2.2.2.2.1), some (.int x36), none, none]) [true, true, true, true, true, true, true, true, true, true, true, false, false] rfl rfl ?_
          exact Hr24 (x35, t13.1, t13.2.1, t13.2.2.1, x34, t13.2.2.2.2.1, t13.2.2.2.2.2.1, t13.2.2.2.2.2.2.1, x36)
        refine ef_drop (L2 := [some (.ref 127), some (.int p0), some (.int t13.1), some (.int t13.2.1), some (.int t13.2.2.1), some (.int t13.2.2.2.1), some (.int t13.2.2.2.2.1), some (.int t13.2.2.2.2.2.1), some (.int t13.2.2.2.2.2.2.1), some (.int t13.2.2.2.2.2.2.2.1), none, none, none]) [true, true, true, true, true, true, true, true, true, true, false, true, true] rfl rfl ?_
        exact HxK23_0 (t13.1, t13.2.1, t13.2.2.1, t13.2.2.2.1, t13.2.2.2.2.1, t13.2.2.2.2.2.1, t13.2.2.2.2.2.2.1, t13.2.2.2.2.2.2.2.1)
    · refine es_blk (pc' := 93) (L' := [some (.ref 127), some (.int p0), some (.int t3.1), none, none, none, none, none, none, none, none, none, none]) (st' := [.int 64, .int t3.1]) [(.iload_n 2, 0), (.bipush 64, 64)] (by decide +kernel) rfl rfl ?_
      refine es_ige (tgt := 195) (off := (102)) (by decide +kernel) (by decide) (fun h39 => ?_) (fun h39 => ?_)
      · refine es_blk (pc' := 97) (L' := [some (.ref 127), some (.int p0), some (.int t3.1), none, none, none, none, none, none, none, none, none, none]) (st' := [.ref 127]) [(.aload_n 0, 0)] (by decide +kernel) rfl rfl ?_
        refine ef_getP (k := 127) (j := 77) (q := 191) rfl eL_12_203 rfl rfl rfl (by decide +kernel) ?_
        refine es_blk (pc' := 104) (L' := [some (.ref 127), some (.int p0), some (.int t3.1), none, none, none, none, none, none, none, none, none, none]) (st' := [.int (t3.1 - 15), .ref 191]) [(.iload_n 2, 0), (.bipush 15, 15), (.isub, 0)] (by decide +kernel) rfl rfl ?_
        refine ef_ald (k := 191) rfl (Or.inl ⟨rfl, rfl⟩) (by decide +kernel) (fun _ => ?_)
        refine es_blk (pc' := 106) (L' := [some (.ref 127), some (.int p0), some (.int t3.1), some (.int (t3.2.1 191 (eh_ix (t3.1 - 15)))), none, none, none, none, none, none, none, none, none]) (st' := []) [(.istore_n 3, 0)] (by decide +kernel) rfl rfl ?_
        refine ef_V (fun x40 => [some (.ref 127), some (.int p0), some (.int t3.1), some (.int x40), none, none, none, none, none, none, none, none, none]) (fun _ => []) (fun _ => eh_FW t3.2) (fun x40 => ?_)
        refine es_blk (pc' := 107) (L' := [some (.ref 127), some (.int p0), some (.int t3.1), some (.int x40), none, none, none, none, none, none, none, none, none]) (st' := [.ref 127]) [(.aload_n 0, 0)] (by decide +kernel) rfl rfl ?_
        refine ef_getP (k := 127) (j := 77) (q := 191) rfl eL_12_203 rfl rfl rfl (by decide +kernel) ?_
        refine es_blk (pc' := 113) (L' := [some (.ref 127), some (.int p0), some (.int t3.1), some (.int x40), none, none, none, none, none, none, none, none, none]) (st' := [.int (t3.1 - 2), .ref 191]) [(.iload_n 2, 0), (.iconst 2, 2), (.isub, 0)] (by decide +kernel) rfl rfl ?_
        refine ef_ald (k := 191) rfl (Or.inl ⟨rfl, rfl⟩) (by decide +kernel) (fun _ => ?_)
        refine es_blk (pc' := 116) (L' := [some (.ref 127), some (.int p0), some (.int t3.1), some (.int x40), some (.int (t3.2.1 191 (eh_ix (t3.1 - 2)))), none, none, none, none, none, none, none, none]) (st' := []) [(.istore 4, 0)] (by decide +kernel) rfl rfl ?_
        refine ef_V (fun x41 => [some (.ref 127), some (.int p0), some (.int t3.1), some (.int x40), some (.int x41), none, none, none, none, none, none, none, none]) (fun _ => []) (fun _ => eh_FW t3.2) (fun x41 => ?_)
        refine es_blk (pc' := 119) (L' := [some (.ref 127), some (.int p0), some (.int t3.1), some (.int x40), some (.int x41), none, none, none, none, none, none, none, none]) (st' := [.int 7, .int x40]) [(.iload_n 3, 0), (.bipush 7, 7)] (by decide +kernel) rfl rfl ?_
        refine ef_spI (d := 1) (As := [.int x40, .int 7]) (st := []) eV_20_rotateRight eK_12_245 (eS_20_rotateRight g t3.2 x40 7) rfl (Nat.le_of_ble_eq_true rfl) rfl (Nat.le_of_ble_eq_true rfl) ⟨Nat.le_of_ble_eq_true rfl, Nat.le_of_ble_eq_true rfl⟩ ⟨Nat.le_refl _, Nat.le_refl _⟩ (by decide +kernel) (fun q42 _ => ?_)
        refine es_blk (pc' := 125) (L' := [some (.ref 127), some (.int p0), some (.int t3.1), some (.int x40), some (.int x41), none, none, none, none, none, none, none, none]) (st' := [.int 18, .int x40, .int q42]) [(.iload_n 3, 0), (.bipush 18, 18)] (by decide +kernel) rfl rfl ?_
        refine ef_spI (d := 1) (As := [.int x40, .int 18]) (st := [.int q42]) eV_20_rotateRight eK_12_245 (eS_20_rotateRight g t3.2 x40 18) rfl (Nat.le_of_ble_eq_true rfl) rfl (Nat.le_of_ble_eq_true rfl) ⟨Nat.le_of_ble_eq_true rfl, Nat.le_of_ble_eq_true rfl⟩ ⟨Nat.le_refl _, Nat.le_refl _⟩ (by decide +kernel) (fun q43 _ => ?_)
        refine es_blk (pc' := 135) (L' := [some (.ref 127), some (.int p0), some (.int t3.1), some (.int x40), some (.int x41), some (.int ((q42 ^^^ q43) ^^^ (eh_ushr x40 3))), none, none, none, none, none, none, none]) (st' := []) [(.ixor, 0), (.iload_n 3, 0), (.iconst 3, 3), (.iushr, 0), (.ixor, 0), (.istore 5, 0)] (by decide +kernel) rfl rfl ?_
        refine ef_V (fun x44 => [some (.ref 127), some (.int p0), some (.int t3.1), some (.int x40), some (.int x41), some (.int x44), none, none, none, none, none, none, none]) (fun _ => []) (fun _ => eh_FW t3.2) (fun x44 => ?_)
        refine es_blk (pc' := 139) (L' := [some (.ref 127), some (.int p0), some (.int t3.1), some (.int x40), some (.int x41), some (.int x44), none, none, none, none, none, none, none]) (st' := [.int 17, .int x41]) [(.iload 4, 0), (.bipush 17, 17)] (by decide +kernel) rfl rfl ?_
        refine ef_spI (d := 1) (As := [.int x41, .int 17]) (st := []) eV_20_rotateRight eK_12_245 (eS_20_rotateRight g t3.2 x41 17) rfl (Nat.le_of_ble_eq_true rfl) rfl (Nat.le_of_ble_eq_true rfl) ⟨Nat.le_of_ble_eq_true rfl, Nat.le_of_ble_eq_true rfl⟩ ⟨Nat.le_refl _, Nat.le_refl _⟩ (by decide +kernel) (fun q45 _ => ?_)
        refine es_blk (pc' := 146) (L' := [some (.ref 127), some (.int p0), some (.int t3.1), some (.int x40), some (.int x41), some (.int x44), none, none, none, none, none, none, none]) (st' := [.int 19, .int x41, .int q45]) [(.iload 4, 0), (.bipush 19, 19)] (by decide +kernel) rfl rfl ?_
        refine ef_spI (d := 1) (As := [.int x41, .int 19]) (st := [.int q45]) eV_20_rotateRight eK_12_245 (eS_20_rotateRight g t3.2 x41 19) rfl (Nat.le_of_ble_eq_true rfl) rfl (Nat.le_of_ble_eq_true rfl) ⟨Nat.le_of_ble_eq_true rfl, Nat.le_of_ble_eq_true rfl⟩ ⟨Nat.le_refl _, Nat.le_refl _⟩ (by decide +kernel) (fun q46 _ => ?_)
        refine es_blk (pc' := 158) (L' := [some (.ref 127), some (.int p0), some (.int t3.1), some (.int x40), some (.int x41), some (.int x44), some (.int ((q45 ^^^ q46) ^^^ (eh_ushr x41 10))), none, none, none, none, none, none]) (st' := []) [(.ixor, 0), (.iload 4, 0), (.bipush 10, 10), (.iushr, 0), (.ixor, 0), (.istore 6, 0)] (by decide +kernel) rfl rfl ?_
        refine ef_V (fun x47 => [some (.ref 127), some (.int p0), some (.int t3.1), some (.int x40), some (.int x41), some (.int x44), some (.int x47), none, none, none, none, none, none]) (fun _ => []) (fun _ => eh_FW t3.2) (fun x47 => ?_)
        refine es_blk (pc' := 159) (L' := [some (.ref 127), some (.int p0), some (.int t3.1), some (.int x40), some (.int x41), some (.int x44), some (.int x47), none, none, none, none, none, none]) (st' := [.ref 127]) [(.aload_n 0, 0)] (by decide +kernel) rfl rfl ?_
        refine ef_getP (k := 127) (j := 77) (q := 191) rfl eL_12_203 rfl rfl rfl (by decide +kernel) ?_
        refine es_blk (pc' := 164) (L' := [some (.ref 127), some (.int p0), some (.int t3.1), some (.int x40), some (.int x41), some (.int x44), some (.int x47), none, none, none, none, none, none]) (st' := [.ref 127, .int t3.1, .ref 191]) [(.iload_n 2, 0), (.aload_n 0, 0)] (by decide +kernel) rfl rfl ?_
        refine ef_getP (k := 127) (j := 77) (q := 191) rfl eL_12_203 rfl rfl rfl (by decide +kernel) ?_
        refine es_blk (pc' := 171) (L' := [some (.ref 127), some (.int p0), some (.int t3.1), some (.int x40), some (.int x41), some (.int x44), some (.int x47), none, none, none, none, none, none]) (st' := [.int (t3.1 - 16), .ref 191, .int t3.1, .ref 191]) [(.iload_n 2, 0), (.bipush 16, 16), (.isub, 0)] (by decide +kernel) rfl rfl ?_
        refine ef_ald (k := 191) rfl (Or.inl ⟨rfl, rfl⟩) (by decide +kernel) (fun _ => ?_)
        refine es_blk (pc' := 176) (L' := [some (.ref 127), some (.int p0), some (.int t3.1), some (.int x40), some (.int x41), some (.int x44), some (.int x47), none, none, none, none, none, none]) (st' := [.ref 127, .int ((t3.2.1 191 (eh_ix (t3.1 - 16))) + x44), .int t3.1, .ref 191]) [(.iload 5, 0), (.iadd, 0), (.aload_n 0, 0)] (by decide +kernel) rfl rfl ?_
        refine ef_getP (k := 127) (j := 77) (q := 191) rfl eL_12_203 rfl rfl rfl (by decide +kernel) ?_
        refine es_blk (pc' := 183) (L' := [some (.ref 127), some (.int p0), some (.int t3.1), some (.int x40), some (.int x41), some (.int x44), some (.int x47), none, none, none, none, none, none]) (st' := [.int (t3.1 - 7), .ref 191, .int ((t3.2.1 191 (eh_ix (t3.1 - 16))) + x44), .int t3.1, .ref 191]) [(.iload_n 2, 0), (.bipush 7, 7), (.isub, 0)] (by decide +kernel) rfl rfl ?_
        refine ef_ald (k := 191) rfl (Or.inl ⟨rfl, rfl⟩) (by decide +kernel) (fun _ => ?_)
        refine es_blk (pc' := 188) (L' := [some (.ref 127), some (.int p0), some (.int t3.1), some (.int x40), some (.int x41), some (.int x44), some (.int x47), none, none, none, none, none, none]) (st' := [.int ((((t3.2.1 191 (eh_ix (t3.1 - 16))) + x44) + (t3.2.1 191 (eh_ix (t3.1 - 7)))) + x47), .int t3.1, .ref 191]) [(.iadd, 0), (.iload 6, 0), (.iadd, 0)] (by decide +kernel) rfl rfl ?_
        refine ef_ast (k := 191) rfl (by decide +kernel) (fun _ => ?_)
        refine ef_V (fun _ => [some (.ref 127), some (.int p0), some (.int t3.1), some (.int x40), some (.int x41), some (.int x44), some (.int x47), none, none, none, none, none, none]) (fun _ => []) (fun s48 => eh_FW s48) (fun s48 => ?_)
        refine es_blk (pc' := 192) (L' := [some (.ref 127), some (.int p0), some (.int (t3.1 + 1)), some (.int x40), some (.int x41), some (.int x44), some (.int x47), none, none, none, none, none, none]) (st' := []) [(.iinc 2 1, 1)] (by decide +kernel) rfl rfl ?_
        refine ef_V (fun x49 => [some (.ref 127), some (.int p0), some (.int x49), some (.int x40), some (.int x41), some (.int x44), some (.int x47), none, none, none, none, none, none]) (fun _ => []) (fun _ => eh_FW s48) (fun x49 => ?_)
        refine es_goto (tgt := 90) (off := (-102)) (by decide +kernel) (by decide) ?_
        refine ef_drop (L2 := [some (.ref 127), some (.int p0), some (.int x49), none, none, none, none, none, none, none, none, none, none]) [true, true, true, false, false, false, false, true, true, true, true, true, true] rfl rfl ?_
        exact Hr38 (x49, s48)
      refine ef_drop (L2 := [some (.ref 127), some (.int p0), none, none, none, none, none, none, none, none, none, none, none]) [true, true, false, true, true, true, true, true, true, true, true, true, true] rfl rfl ?_
      exact HxK37_0 t3.2
  · refine es_blk (pc' := 5) (L' := [some (.ref 127), some (.int p0), some (.int t1.1), none, none, none, none, none, none, none, none, none, none]) (st' := [.int 16, .int t1.1]) [(.iload_n 2, 0), (.bipush 16, 16)] (by decide +kernel) rfl rfl ?_
    refine es_ige (tgt := 87) (off := (82)) (by decide +kernel) (by decide) (fun h52 => ?_) (fun h52 => ?_)
    · refine es_blk (pc' := 17) (L' := [some (.ref 127), some (.int p0), some (.int t1.1), some (.int ((64 * p0) + (4 * t1.1))), none, none, none, none, none, none, none, none, none]) (st' := []) [(.bipush 64, 64), (.iload_n 1, 0), (.imul, 0), (.iconst 4, 4), (.iload_n 2, 0), (.imul, 0), (.iadd, 0), (.istore_n 3, 0)] (by decide +kernel) rfl rfl ?_
      refine ef_V (fun x53 => [some (.ref 127), some (.int p0), some (.int t1.1), some (.int x53), none, none, none, none, none, none, none, none, none]) (fun _ => []) (fun _ => eh_FW t1.2) (fun x53 => ?_)
      refine es_blk (pc' := 18) (L' := [some (.ref 127), some (.int p0), some (.int t1.1), some (.int x53), none, none, none, none, none, none, none, none, none]) (st' := [.ref 127]) [(.aload_n 0, 0)] (by decide +kernel) rfl rfl ?_
      refine ef_getP (k := 127) (j := 77) (q := 191) rfl eL_12_203 rfl rfl rfl (by decide +kernel) ?_
      refine es_blk (pc' := 23) (L' := [some (.ref 127), some (.int p0), some (.int t1.1), some (.int x53), none, none, none, none, none, none, none, none, none]) (st' := [.ref 127, .int t1.1, .ref 191]) [(.iload_n 2, 0), (.aload_n 0, 0)] (by decide +kernel) rfl rfl ?_
      refine ef_getP (k := 127) (j := 75) (q := 189) rfl eL_12_196 rfl rfl rfl (by decide +kernel) ?_
      refine es_blk (pc' := 27) (L' := [some (.ref 127), some (.int p0), some (.int t1.1), some (.int x53), none, none, none, none, none, none, none, none, none]) (st' := [.int x53, .ref 189, .int t1.1, .ref 191]) [(.iload_n 3, 0)] (by decide +kernel) rfl rfl ?_
      refine ef_ald (k := 189) rfl (Or.inr ⟨Or.inl rfl, rfl⟩) (by decide +kernel) (fun _ => ?_)
      refine es_blk (pc' := 36) (L' := [some (.ref 127), some (.int p0), some (.int t1.1), some (.int x53), none, none, none, none, none, none, none, none, none]) (st' := [.ref 127, .int (eh_shl ((t1.2.1 189 (eh_ix x53)) &&& 255) 24), .int t1.1, .ref 191]) [(.sipush 255, 255), (.iand, 0), (.bipush 24, 24), (.ishl, 0), (.aload_n 0, 0)] (by decide +kernel) rfl rfl ?_
      refine ef_getP (k := 127) (j := 75) (q := 189) rfl eL_12_196 rfl rfl rfl (by decide +kernel) ?_
      refine es_blk (pc' := 42) (L' := [some (.ref 127), some (.int p0), some (.int t1.1), some (.int x53), none, none, none, none, none, none, none, none, none]) (st' := [.int (x53 + 1), .ref 189, .int (eh_shl ((t1.2.1 189 (eh_ix x53)) &&& 255) 24), .int t1.1, .ref 191]) [(.iload_n 3, 0), (.iconst 1, 1), (.iadd, 0)] (by decide +kernel) rfl rfl ?_
      refine ef_ald (k := 189) rfl (Or.inr ⟨Or.inl rfl, rfl⟩) (by decide +kernel) (fun _ => ?_)
      refine es_blk (pc' := 52) (L' := [some (.ref 127), some (.int p0), some (.int t1.1), some (.int x53), none, none, none, none, none, none, none, none, none]) (st' := [.ref 127, .int ((eh_shl ((t1.2.1 189 (eh_ix x53)) &&& 255) 24) ||| (eh_shl ((t1.2.1 189 (eh_ix (x53 + 1))) &&& 255) 16)), .int t1.1, .ref 191]) [(.sipush 255, 255), (.iand, 0), (.bipush 16, 16), (.ishl, 0), (.ior, 0), (.aload_n 0, 0)] (by decide +kernel) rfl rfl ?_
      refine ef_getP (k := 127) (j := 75) (q := 189) rfl eL_12_196 rfl rfl rfl (by decide +kernel) ?_
      refine es_blk (pc' := 58) (L' := [some (.ref 127), some (.int p0), some (.int t1.1), some (.int x53), none, none, none, none, none, none, none, none, none]) (st' := [.int (x53 + 2), .ref 189, .int ((eh_shl ((t1.2.1 189 (eh_ix x53)) &&& 255) 24) ||| (eh_shl ((t1.2.1 189 (eh_ix (x53 + 1))) &&& 255) 16)), .int t1.1, .ref 191]) [(.iload_n 3, 0), (.iconst 2, 2), (.iadd, 0)] (by decide +kernel) rfl rfl ?_
      refine ef_ald (k := 189) rfl (Or.inr ⟨Or.inl rfl, rfl⟩) (by decide +kernel) (fun _ => ?_)
      refine es_blk (pc' := 68) (L' := [some (.ref 127), some (.int p0), some (.int t1.1), some (.int x53), none, none, none, none, none, none, none, none, none]) (st' := [.ref 127, .int (((eh_shl ((t1.2.1 189 (eh_ix x53)) &&& 255) 24) ||| (eh_shl ((t1.2.1 189 (eh_ix (x53 + 1))) &&& 255) 16)) ||| (eh_shl ((t1.2.1 189 (eh_ix (x53 + 2))) &&& 255) 8)), .int t1.1, .ref 191]) [(.sipush 255, 255), (.iand, 0), (.bipush 8, 8), (.ishl, 0), (.ior, 0), (.aload_n 0, 0)] (by decide +kernel) rfl rfl ?_
      refine ef_getP (k := 127) (j := 75) (q := 189) rfl eL_12_196 rfl rfl rfl (by decide +kernel) ?_
      refine es_blk (pc' := 74) (L' := [some (.ref 127), some (.int p0), some (.int t1.1), some (.int x53), none, none, none, none, none, none, none, none, none]) (st' := [.int (x53 + 3), .ref 189, .int (((eh_shl ((t1.2.1 189 (eh_ix x53)) &&& 255) 24) ||| (eh_shl ((t1.2.1 189 (eh_ix (x53 + 1))) &&& 255) 16)) ||| (eh_shl ((t1.2.1 189 (eh_ix (x53 + 2))) &&& 255) 8)), .int t1.1, .ref 191]) [(.iload_n 3, 0), (.iconst 3, 3), (.iadd, 0)] (by decide +kernel) rfl rfl ?_
      refine ef_ald (k := 189) rfl (Or.inr ⟨Or.inl rfl, rfl⟩) (by decide +kernel) (fun _ => ?_)
      refine es_blk (pc' := 80) (L' := [some (.ref 127), some (.int p0), some (.int t1.1), some (.int x53), none, none, none, none, none, none, none, none, none]) (st' := [.int ((((eh_shl ((t1.2.1 189 (eh_ix x53)) &&& 255) 24) ||| (eh_shl ((t1.2.1 189 (eh_ix (x53 + 1))) &&& 255) 16)) ||| (eh_shl ((t1.2.1 189 (eh_ix (x53 + 2))) &&& 255) 8)) ||| ((t1.2.1 189 (eh_ix (x53 + 3))) &&& 255)), .int t1.1, .ref 191]) [(.sipush 255, 255), (.iand, 0), (.ior, 0)] (by decide +kernel) rfl rfl ?_
      refine ef_ast (k := 191) rfl (by decide +kernel) (fun _ => ?_)
      refine ef_V (fun _ => [some (.ref 127), some (.int p0), some (.int t1.1), some (.int x53), none, none, none, none, none, none, none, none, none]) (fun _ => []) (fun s54 => eh_FW s54) (fun s54 => ?_)
      refine es_blk (pc' := 84) (L' := [some (.ref 127), some (.int p0), some (.int (t1.1 + 1)), some (.int x53), none, none, none, none, none, none, none, none, none]) (st' := []) [(.iinc 2 1, 1)] (by decide +kernel) rfl rfl ?_
      refine ef_V (fun x55 => [some (.ref 127), some (.int p0), some (.int x55), some (.int x53), none, none, none, none, none, none, none, none, none]) (fun _ => []) (fun _ => eh_FW s54) (fun x55 => ?_)
      refine es_goto (tgt := 2) (off := (-82)) (by decide +kernel) (by decide) ?_
      refine ef_drop (L2 := [some (.ref 127), some (.int p0), some (.int x55), none, none, none, none, none, none, none, none, none, none]) [true, true, true, false, true, true, true, true, true, true, true, true, true] rfl rfl ?_
      exact Hr51 (x55, s54)
    refine ef_drop (L2 := [some (.ref 127), some (.int p0), none, none, none, none, none, none, none, none, none, none, none]) [true, true, false, true, true, true, true, true, true, true, true, true, true] rfl rfl ?_
    exact HxK50_0 t1.2
def eF_12_clear (s : eh_F) (p0 : Int32) (p1 : Int32) : Option (eh_F) := Option.bind (eh_loop (fun (r4 : (Int32 × eh_F) → Option (eh_F)) (t1 : Int32 × eh_F) => if t1.1 < p1 then (Option.bind (eF_12_setByte t1.2 (p0 + t1.1) 0) (fun q6 => eh_V ((t1.1 + 1) : Int32) (fun x7 => r4 (x7, q6)))) else (some t1.2)) eh_FU (0, s)) (fun (e2 : eh_F) => some e2)
set_option maxHeartbeats 4000000 in
set_option maxRecDepth 100000 in
theorem eS_12_clear (g : eh_P) (s : eh_F) (p0 : Int32) (p1 : Int32) : eh_Sim g eM_12_clear (eh_R 2 0 0) eh_eV 0 0 0 (eh_en 4 [.ref 127, .int p0, .int p1]) [] (eh_FW s) (eF_12_clear s p0 p1) := by
  unfold eF_12_clear
  refine ef_top (L := [some (.ref 127), some (.int p0), some (.int p1), none]) rfl ?_
  refine es_blk (pc' := 2) (L' := [some (.ref 127), some (.int p0), some (.int p1), some (.int 0)]) (st' := []) [(.iconst 0, 0), (.istore_n 3, 0)] (by decide +kernel) rfl rfl ?_
  refine ef_loop1 (n := eh_FU) (i := (0, s)) (px := 21) (fun (t1 : Int32 × eh_F) => [some (.ref 127), some (.int p0), some (.int p1), some (.int t1.1)]) (fun (t1 : Int32 × eh_F) => []) (fun (t1 : Int32 × eh_F) => eh_FW t1.2) (fun (e2 : eh_F) => [none, none, none, none]) (fun (e2 : eh_F) => []) (fun (e2 : eh_F) => eh_FW e2) (fun e2 => ?_) (fun K3 HxK3_0 r4 Hr4 t1 => ?_)
  · exact es_ret rfl rfl rfl ⟨by decide +kernel, rfl⟩ (Nat.le_refl _) (Nat.le_refl _)
  · refine es_blk (pc' := 4) (L' := [some (.ref 127), some (.int p0), some (.int p1), some (.int t1.1)]) (st' := [.int p1, .int t1.1]) [(.iload_n 3, 0), (.iload_n 2, 0)] (by decide +kernel) rfl rfl ?_
    refine es_ige (tgt := 21) (off := (17)) (by decide +kernel) (by decide) (fun h5 => ?_) (fun h5 => ?_)
    · refine es_blk (pc' := 12) (L' := [some (.ref 127), some (.int p0), some (.int p1), some (.int t1.1)]) (st' := [.int 0, .int (p0 + t1.1), .ref 127]) [(.aload_n 0, 0), (.iload_n 1, 0), (.iload_n 3, 0), (.iadd, 0), (.iconst 0, 0)] (by decide +kernel) rfl rfl ?_
      refine ef_veV (d := 1) (k := 127) (As := [.int (p0 + t1.1), .int 0]) (st := []) eV_12_setByte eK_12_320 (eS_12_setByte g t1.2 (p0 + t1.1) 0) rfl rfl (Nat.le_of_ble_eq_true rfl) rfl (Nat.le_of_ble_eq_true rfl) ⟨Nat.le_of_ble_eq_true rfl, Nat.le_of_ble_eq_true rfl⟩ ⟨Nat.le_refl _, Nat.le_refl _⟩ (by decide +kernel) (fun q6 _ => ?_)
      refine es_blk (pc' := 18) (L' := [some (.ref 127), some (.int p0), some (.int p1), some (.int (t1.1 + 1))]) (st' := []) [(.iinc 3 1, 1)] (by decide +kernel) rfl rfl ?_
      refine ef_V (fun x7 => [some (.ref 127), some (.int p0), some (.int p1), some (.int x7)]) (fun _ => []) (fun _ => eh_FW q6) (fun x7 => ?_)
      refine es_goto (tgt := 2) (off := (-16)) (by decide +kernel) (by decide) ?_
      exact Hr4 (x7, q6)
    refine ef_drop (L2 := [none, none, none, none]) [false, false, false, false] rfl rfl ?_
    exact HxK3_0 t1.2
def eF_12_gather (s : eh_F) (p0 : Int32) : Option (eh_F) := eh_V (eh_tI s 127 48 0) (fun s1 => if eh_in p0 2 then if (s1.1 144 (eh_ix p0)) = (-1) then (Option.bind (eh_loop (fun (r7 : (Int32 × eh_F) → Option (eh_F)) (t3 : Int32 × eh_F) => if t3.1 < 12 then (if eh_in t3.1 12 then eh_J (fun (s10 : eh_F) => eh_V ((t3.1 + 1) : Int32) (fun x11 => r7 (x11, s10))) (fun j9 => if (t3.2.1 164 (eh_ix t3.1)) = 0 then (j9 t3.2) else (if eh_in t3.1 12 then if (t3.2.1 164 (eh_ix t3.1)) = 2 then (j9 t3.2) else (if eh_in t3.1 12 then if eh_in t3.1 12 then Option.bind (eF_12_gate t3.2 (t3.2.1 165 (eh_ix t3.1)) (t3.2.1 166 (eh_ix t3.1)) 0) (fun q14 => j9 q14) else none else none) else none)) else none) else (some t3.2)) eh_FU (0, s1)) (fun (e4 : eh_F) => Option.bind (eF_12_gate e4 0 131072 7) (fun q5 => some q5))) else (if eh_in p0 2 then if eh_in (s1.1 144 (eh_ix p0)) 12 then eh_V ((s1.1 149 (eh_ix (s1.1 144 (eh_ix p0)))) : Int32) (fun x15 => if eh_in x15 6 then if eh_in (s1.1 156 (eh_ix x15)) 12 then if eh_in x15 6 then if eh_in (s1.1 156 (eh_ix x15)) 12 then Option.bind (eF_12_gate s1 (s1.1 165 (eh_ix (s1.1 156 (eh_ix x15)))) (s1.1 166 (eh_ix (s1.1 156 (eh_ix x15)))) 7) (fun q16 => Option.bind (eh_loop (fun (r20 : (Int32 × eh_F) → Option (eh_F)) (t17 : Int32 × eh_F) => if t17.1 < 12 then (if eh_in t17.1 12 then eh_J (fun (s23 : eh_F) => eh_V ((t17.1 + 1) : Int32) (fun x24 => r20 (x24, s23))) (fun j22 => if 1 < (t17.2.1 164 (eh_ix t17.1)) then (Option.bind (eF_12_isOf t17.2 t17.1 x15) (fun q26 => if q26 = 0 then (j22 t17.2) else (Option.bind (eF_12_isAccepted t17.2 t17.1 x15) (fun q28 => if q28 = 0 then (j22 t17.2) else (if eh_in t17.1 12 then if eh_in t17.1 12 then if eh_in t17.1 12 then eh_J (fun (a31 : Int32) => Option.bind (eF_12_gate t17.2 (t17.2.1 165 (eh_ix t17.1)) (t17.2.1 166 (eh_ix t17.1)) a31) (fun q32 => j22 q32)) (fun j30 => if (t17.2.1 164 (eh_ix t17.1)) = 4 then (j30 7) else (j30 3)) else none else none else none))))) else (j22 t17.2)) else none) else (some t17.2)) eh_FU (0, q16)) (fun (e18 : eh_F) => some e18)) else none else none else none else none) else none else none) else none)
set_option maxHeartbeats 4000000 in
set_option maxRecDepth 100000 in
theorem eS_12_gather (g : eh_P) (s : eh_F) (p0 : Int32) : eh_Sim g eM_12_gather (eh_R 2 0 0) eh_eV 0 0 0 (eh_en 4 [.ref 127, .int p0]) [] (eh_FW s) (eF_12_gather s p0) := by
  unfold eF_12_gather
  refine ef_top (L := [some (.ref 127), some (.int p0), none, none]) rfl ?_
  refine es_blk (pc' := 2) (L' := [some (.ref 127), some (.int p0), none, none]) (st' := [.int 0, .ref 127]) [(.aload_n 0, 0), (.iconst 0, 0)] (by decide +kernel) rfl rfl ?_
  refine ef_putI (k := 127) (j := 48) rfl eL_12_323 rfl rfl (by decide +kernel) ?_
  refine ef_V (fun _ => [some (.ref 127), some (.int p0), none, none]) (fun _ => []) (fun s1 => eh_FW s1) (fun s1 => ?_)
  refine es_blk (pc' := 6) (L' := [some (.ref 127), some (.int p0), none, none]) (st' := [.ref 127]) [(.aload_n 0, 0)] (by decide +kernel) rfl rfl ?_
  refine ef_getP (k := 127) (j := 16) (q := 144) rfl eL_12_61 rfl rfl rfl (by decide +kernel) ?_
  refine es_blk (pc' := 10) (L' := [some (.ref 127), some (.int p0), none, none]) (st' := [.int p0, .ref 144]) [(.iload_n 1, 0)] (by decide +kernel) rfl rfl ?_
  refine ef_ald (k := 144) rfl (Or.inl ⟨rfl, rfl⟩) (by decide +kernel) (fun _ => ?_)
  refine es_blk (pc' := 12) (L' := [some (.ref 127), some (.int p0), none, none]) (st' := [.int (-1), .int (s1.1 144 (eh_ix p0))]) [(.iconst (-1), (-1))] (by decide +kernel) rfl rfl ?_
  refine es_ine (tgt := 75) (off := (63)) (by decide +kernel) (by decide) (fun h2 => ?_) (fun h2 => ?_)
  · refine es_blk (pc' := 17) (L' := [some (.ref 127), some (.int p0), some (.int 0), none]) (st' := []) [(.iconst 0, 0), (.istore_n 2, 0)] (by decide +kernel) rfl rfl ?_
    refine ef_drop (L2 := [some (.ref 127), none, some (.int 0), none]) [true, false, true, true] rfl rfl ?_
    refine ef_loop1 (n := eh_FU) (i := (0, s1)) (px := 65) (fun (t3 : Int32 × eh_F) => [some (.ref 127), none, some (.int t3.1), none]) (fun (t3 : Int32 × eh_F) => []) (fun (t3 : Int32 × eh_F) => eh_FW t3.2) (fun (e4 : eh_F) => [some (.ref 127), none, none, none]) (fun (e4 : eh_F) => []) (fun (e4 : eh_F) => eh_FW e4) (fun e4 => ?_) (fun K6 HxK6_0 r7 Hr7 t3 => ?_)
    · refine es_blk (pc' := 67) (L' := [some (.ref 127), none, none, none]) (st' := [.int 0, .ref 127]) [(.aload_n 0, 0), (.iconst 0, 0)] (by decide +kernel) rfl rfl ?_
      refine es_ldc (v := 131072) eC_12_9 (by decide +kernel) ?_
      refine es_blk (pc' := 71) (L' := [some (.ref 127), none, none, none]) (st' := [.int 7, .int 131072, .int 0, .ref 127]) [(.bipush 7, 7)] (by decide +kernel) rfl rfl ?_
      refine ef_veV (d := 1) (k := 127) (As := [.int 0, .int 131072, .int 7]) (st := []) eV_12_gate eK_12_326 (eS_12_gate g e4 0 131072 7) rfl rfl (Nat.le_of_ble_eq_true rfl) rfl (Nat.le_of_ble_eq_true rfl) ⟨Nat.le_of_ble_eq_true rfl, Nat.le_of_ble_eq_true rfl⟩ ⟨Nat.le_refl _, Nat.le_refl _⟩ (by decide +kernel) (fun q5 _ => ?_)
      exact es_ret rfl rfl rfl ⟨by decide +kernel, rfl⟩ (Nat.le_refl _) (Nat.le_refl _)
    · refine es_blk (pc' := 20) (L' := [some (.ref 127), none, some (.int t3.1), none]) (st' := [.int 12, .int t3.1]) [(.iload_n 2, 0), (.bipush 12, 12)] (by decide +kernel) rfl rfl ?_
      refine es_ige (tgt := 65) (off := (45)) (by decide +kernel) (by decide) (fun h8 => ?_) (fun h8 => ?_)
      · refine es_blk (pc' := 24) (L' := [some (.ref 127), none, some (.int t3.1), none]) (st' := [.ref 127]) [(.aload_n 0, 0)] (by decide +kernel) rfl rfl ?_
        refine ef_getP (k := 127) (j := 39) (q := 164) rfl eL_12_121 rfl rfl rfl (by decide +kernel) ?_
        refine es_blk (pc' := 28) (L' := [some (.ref 127), none, some (.int t3.1), none]) (st' := [.int t3.1, .ref 164]) [(.iload_n 2, 0)] (by decide +kernel) rfl rfl ?_
        refine ef_ald (k := 164) rfl (Or.inl ⟨rfl, rfl⟩) (by decide +kernel) (fun _ => ?_)
        refine ef_J (X := fun j9 => ∀ (s10 : eh_F), eh_Sim g eM_12_gather (eh_R 2 0 0) eh_eV 0 0 59 [some (.ref 127), none, some (.int t3.1), none] [] (eh_FW s10) ((j9 s10).bind K6)) ?_ (fun j9 Hj9 => ?_)
        · intro s10
          refine es_blk (pc' := 62) (L' := [some (.ref 127), none, some (.int (t3.1 + 1)), none]) (st' := []) [(.iinc 2 1, 1)] (by decide +kernel) rfl rfl ?_
          refine ef_V (fun x11 => [some (.ref 127), none, some (.int x11), none]) (fun _ => []) (fun _ => eh_FW s10) (fun x11 => ?_)
          refine es_goto (tgt := 17) (off := (-45)) (by decide +kernel) (by decide) ?_
          exact Hr7 (x11, s10)
        refine es_eq (tgt := 59) (off := (30)) (by decide +kernel) (by decide) (fun h12 => ?_) (fun h12 => ?_)
        · exact Hj9 _
        refine es_blk (pc' := 33) (L' := [some (.ref 127), none, some (.int t3.1), none]) (st' := [.ref 127]) [(.aload_n 0, 0)] (by decide +kernel) rfl rfl ?_
        refine ef_getP (k := 127) (j := 39) (q := 164) rfl eL_12_121 rfl rfl rfl (by decide +kernel) ?_
        refine es_blk (pc' := 37) (L' := [some (.ref 127), none, some (.int t3.1), none]) (st' := [.int t3.1, .ref 164]) [(.iload_n 2, 0)] (by decide +kernel) rfl rfl ?_
        refine ef_ald (k := 164) rfl (Or.inl ⟨rfl, rfl⟩) (by decide +kernel) (fun _ => ?_)
        refine es_blk (pc' := 39) (L' := [some (.ref 127), none, some (.int t3.1), none]) (st' := [.int 2, .int (t3.2.1 164 (eh_ix t3.1))]) [(.iconst 2, 2)] (by decide +kernel) rfl rfl ?_
        refine es_ieq (tgt := 59) (off := (20)) (by decide +kernel) (by decide) (fun h13 => ?_) (fun h13 => ?_)
        · exact Hj9 _
        refine es_blk (pc' := 44) (L' := [some (.ref 127), none, some (.int t3.1), none]) (st' := [.ref 127, .ref 127]) [(.aload_n 0, 0), (.aload_n 0, 0)] (by decide +kernel) rfl rfl ?_
        refine ef_getP (k := 127) (j := 40) (q := 165) rfl eL_12_124 rfl rfl rfl (by decide +kernel) ?_
        refine es_blk (pc' := 48) (L' := [some (.ref 127), none, some (.int t3.1), none]) (st' := [.int t3.1, .ref 165, .ref 127]) [(.iload_n 2, 0)] (by decide +kernel) rfl rfl ?_
        refine ef_ald (k := 165) rfl (Or.inl ⟨rfl, rfl⟩) (by decide +kernel) (fun _ => ?_)
        refine es_blk (pc' := 50) (L' := [some (.ref 127), none, some (.int t3.1), none]) (st' := [.ref 127, .int (t3.2.1 165 (eh_ix t3.1)), .ref 127]) [(.aload_n 0, 0)] (by decide +kernel) rfl rfl ?_
        refine ef_getP (k := 127) (j := 41) (q := 166) rfl eL_12_127 rfl rfl rfl (by decide +kernel) ?_
        refine es_blk (pc' := 54) (L' := [some (.ref 127), none, some (.int t3.1), none]) (st' := [.int t3.1, .ref 166, .int (t3.2.1 165 (eh_ix t3.1)), .ref 127]) [(.iload_n 2, 0)] (by decide +kernel) rfl rfl ?_
        refine ef_ald (k := 166) rfl (Or.inl ⟨rfl, rfl⟩) (by decide +kernel) (fun _ => ?_)
        refine es_blk (pc' := 56) (L' := [some (.ref 127), none, some (.int t3.1), none]) (st' := [.int 0, .int (t3.2.1 166 (eh_ix t3.1)), .int (t3.2.1 165 (eh_ix t3.1)), .ref 127]) [(.iconst 0, 0)] (by decide +kernel) rfl rfl ?_
        refine ef_veV (d := 1) (k := 127) (As := [.int (t3.2.1 165 (eh_ix t3.1)), .int (t3.2.1 166 (eh_ix t3.1)), .int 0]) (st := []) eV_12_gate eK_12_326 (eS_12_gate g t3.2 (t3.2.1 165 (eh_ix t3.1)) (t3.2.1 166 (eh_ix t3.1)) 0) rfl rfl (Nat.le_of_ble_eq_true rfl) rfl (Nat.le_of_ble_eq_true rfl) ⟨Nat.le_of_ble_eq_true rfl, Nat.le_of_ble_eq_true rfl⟩ ⟨Nat.le_refl _, Nat.le_refl _⟩ (by decide +kernel) (fun q14 _ => ?_)
        exact Hj9 _
      refine ef_drop (L2 := [some (.ref 127), none, none, none]) [true, true, false, true] rfl rfl ?_
      exact HxK6_0 t3.2
  refine es_blk (pc' := 76) (L' := [some (.ref 127), some (.int p0), none, none]) (st' := [.ref 127]) [(.aload_n 0, 0)] (by decide +kernel) rfl rfl ?_
  refine ef_getP (k := 127) (j := 24) (q := 149) rfl eL_12_76 rfl rfl rfl (by decide +kernel) ?_
  refine es_blk (pc' := 80) (L' := [some (.ref 127), some (.int p0), none, none]) (st' := [.ref 127, .ref 149]) [(.aload_n 0, 0)] (by decide +kernel) rfl rfl ?_
  refine ef_getP (k := 127) (j := 16) (q := 144) rfl eL_12_61 rfl rfl rfl (by decide +kernel) ?_
  refine es_blk (pc' := 84) (L' := [some (.ref 127), some (.int p0), none, none]) (st' := [.int p0, .ref 144, .ref 149]) [(.iload_n 1, 0)] (by decide +kernel) rfl rfl ?_
  refine ef_ald (k := 144) rfl (Or.inl ⟨rfl, rfl⟩) (by decide +kernel) (fun _ => ?_)
  refine ef_ald (k := 149) rfl (Or.inl ⟨rfl, rfl⟩) (by decide +kernel) (fun _ => ?_)
  refine es_blk (pc' := 87) (L' := [some (.ref 127), some (.int p0), some (.int (s1.1 149 (eh_ix (s1.1 144 (eh_ix p0))))), none]) (st' := []) [(.istore_n 2, 0)] (by decide +kernel) rfl rfl ?_
  refine ef_V (fun x15 => [some (.ref 127), some (.int p0), some (.int x15), none]) (fun _ => []) (fun _ => eh_FW s1) (fun x15 => ?_)
  refine es_blk (pc' := 89) (L' := [some (.ref 127), some (.int p0), some (.int x15), none]) (st' := [.ref 127, .ref 127]) [(.aload_n 0, 0), (.aload_n 0, 0)] (by decide +kernel) rfl rfl ?_
  refine ef_getP (k := 127) (j := 40) (q := 165) rfl eL_12_124 rfl rfl rfl (by decide +kernel) ?_
  refine es_blk (pc' := 93) (L' := [some (.ref 127), some (.int p0), some (.int x15), none]) (st' := [.ref 127, .ref 165, .ref 127]) [(.aload_n 0, 0)] (by decide +kernel) rfl rfl ?_
  refine ef_getP (k := 127) (j := 31) (q := 156) rfl eL_12_97 rfl rfl rfl (by decide +kernel) ?_
  refine es_blk (pc' := 97) (L' := [some (.ref 127), some (.int p0), some (.int x15), none]) (st' := [.int x15, .ref 156, .ref 165, .ref 127]) [(.iload_n 2, 0)] (by decide +kernel) rfl rfl ?_
  refine ef_ald (k := 156) rfl (Or.inl ⟨rfl, rfl⟩) (by decide +kernel) (fun _ => ?_)
  refine ef_ald (k := 165) rfl (Or.inl ⟨rfl, rfl⟩) (by decide +kernel) (fun _ => ?_)
  refine es_blk (pc' := 100) (L' := [some (.ref 127), some (.int p0), some (.int x15), none]) (st' := [.ref 127, .int (s1.1 165 (eh_ix (s1.1 156 (eh_ix x15)))), .ref 127]) [(.aload_n 0, 0)] (by decide +kernel) rfl rfl ?_
  refine ef_getP (k := 127) (j := 41) (q := 166) rfl eL_12_127 rfl rfl rfl (by decide +kernel) ?_
  refine es_blk (pc' := 104) (L' := [some (.ref 127), some (.int p0), some (.int x15), none]) (st' := [.ref 127, .ref 166, .int (s1.1 165 (eh_ix (s1.1 156 (eh_ix x15)))), .ref 127]) [(.aload_n 0, 0)] (by decide +kernel) rfl rfl ?_
  refine ef_getP (k := 127) (j := 31) (q := 156) rfl eL_12_97 rfl rfl rfl (by decide +kernel) ?_
  refine es_blk (pc' := 108) (L' := [some (.ref 127), some (.int p0), some (.int x15), none]) (st' := [.int x15, .ref 156, .ref 166, .int (s1.1 165 (eh_ix (s1.1 156 (eh_ix x15)))), .ref 127]) [(.iload_n 2, 0)] (by decide +kernel) rfl rfl ?_
  refine ef_ald (k := 156) rfl (Or.inl ⟨rfl, rfl⟩) (by decide +kernel) (fun _ => ?_)
  refine ef_ald (k := 166) rfl (Or.inl ⟨rfl, rfl⟩) (by decide +kernel) (fun _ => ?_)
  refine es_blk (pc' := 112) (L' := [some (.ref 127), some (.int p0), some (.int x15), none]) (st' := [.int 7, .int (s1.1 166 (eh_ix (s1.1 156 (eh_ix x15)))), .int (s1.1 165 (eh_ix (s1.1 156 (eh_ix x15)))), .ref 127]) [(.bipush 7, 7)] (by decide +kernel) rfl rfl ?_
  refine ef_veV (d := 1) (k := 127) (As := [.int (s1.1 165 (eh_ix (s1.1 156 (eh_ix x15)))), .int (s1.1 166 (eh_ix (s1.1 156 (eh_ix x15)))), .int 7]) (st := []) eV_12_gate eK_12_326 (eS_12_gate g s1 (s1.1 165 (eh_ix (s1.1 156 (eh_ix x15)))) (s1.1 166 (eh_ix (s1.1 156 (eh_ix x15)))) 7) rfl rfl (Nat.le_of_ble_eq_true rfl) rfl (Nat.le_of_ble_eq_true rfl) ⟨Nat.le_of_ble_eq_true rfl, Nat.le_of_ble_eq_true rfl⟩ ⟨Nat.le_refl _, Nat.le_refl _⟩ (by decide +kernel) (fun q16 _ => ?_)
  refine es_blk (pc' := 117) (L' := [some (.ref 127), some (.int p0), some (.int x15), some (.int 0)]) (st' := []) [(.iconst 0, 0), (.istore_n 3, 0)] (by decide +kernel) rfl rfl ?_
  refine ef_drop (L2 := [some (.ref 127), none, some (.int x15), some (.int 0)]) [true, false, true, true] rfl rfl ?_
  refine ef_loop1 (n := eh_FU) (i := (0, q16)) (px := 189) (fun (t17 : Int32 × eh_F) => [some (.ref 127), none, some (.int x15), some (.int t17.1)]) (fun (t17 : Int32 × eh_F) => []) (fun (t17 : Int32 × eh_F) => eh_FW t17.2) (fun (e18 : eh_F) => [none, none, none, none]) (fun (e18 : eh_F) => []) (fun (e18 : eh_F) => eh_FW e18) (fun e18 => ?_) (fun K19 HxK19_0 r20 Hr20 t17 => ?_)
  · exact es_ret rfl rfl rfl ⟨by decide +kernel, rfl⟩ (Nat.le_refl _) (Nat.le_refl _)
  · refine es_blk (pc' := 120) (L' := [some (.ref 127), none, some (.int x15), some (.int t17.1)]) (st' := [.int 12, .int t17.1]) [(.iload_n 3, 0), (.bipush 12, 12)] (by decide +kernel) rfl rfl ?_
    refine es_ige (tgt := 189) (off := (69)) (by decide +kernel) (by decide) (fun h21 => ?_) (fun h21 => ?_)
    · refine es_blk (pc' := 124) (L' := [some (.ref 127), none, some (.int x15), some (.int t17.1)]) (st' := [.ref 127]) [(.aload_n 0, 0)] (by decide +kernel) rfl rfl ?_
      refine ef_getP (k := 127) (j := 39) (q := 164) rfl eL_12_121 rfl rfl rfl (by decide +kernel) ?_
      refine es_blk (pc' := 128) (L' := [some (.ref 127), none, some (.int x15), some (.int t17.1)]) (st' := [.int t17.1, .ref 164]) [(.iload_n 3, 0)] (by decide +kernel) rfl rfl ?_
      refine ef_ald (k := 164) rfl (Or.inl ⟨rfl, rfl⟩) (by decide +kernel) (fun _ => ?_)
      refine es_blk (pc' := 130) (L' := [some (.ref 127), none, some (.int x15), some (.int t17.1)]) (st' := [.int 1, .int (t17.2.1 164 (eh_ix t17.1))]) [(.iconst 1, 1)] (by decide +kernel) rfl rfl ?_
      refine ef_J (X := fun j22 => ∀ (s23 : eh_F), eh_Sim g eM_12_gather (eh_R 2 0 0) eh_eV 0 0 183 [some (.ref 127), none, some (.int x15), some (.int t17.1)] [] (eh_FW s23) ((j22 s23).bind K19)) ?_ (fun j22 Hj22 => ?_)
      · intro s23
        refine es_blk (pc' := 186) (L' := [some (.ref 127), none, some (.int x15), some (.int (t17.1 + 1))]) (st' := []) [(.iinc 3 1, 1)] (by decide +kernel) rfl rfl ?_
        refine ef_V (fun x24 => [some (.ref 127), none, some (.int x15), some (.int x24)]) (fun _ => []) (fun _ => eh_FW s23) (fun x24 => ?_)
        refine es_goto (tgt := 117) (off := (-69)) (by decide +kernel) (by decide) ?_
        exact Hr20 (x24, s23)
      refine es_ile (tgt := 183) (off := (53)) (by decide +kernel) (by decide) (fun h25 => ?_) (fun h25 => ?_)
      · refine es_blk (pc' := 136) (L' := [some (.ref 127), none, some (.int x15), some (.int t17.1)]) (st' := [.int x15, .int t17.1, .ref 127]) [(.aload_n 0, 0), (.iload_n 3, 0), (.iload_n 2, 0)] (by decide +kernel) rfl rfl ?_
        refine ef_vpI (d := 1) (k := 127) (As := [.int t17.1, .int x15]) (st := []) eV_12_isOf eK_12_330 (eS_12_isOf g t17.2 t17.1 x15) rfl rfl (Nat.le_of_ble_eq_true rfl) rfl (Nat.le_of_ble_eq_true rfl) ⟨Nat.le_of_ble_eq_true rfl, Nat.le_of_ble_eq_true rfl⟩ ⟨Nat.le_refl _, Nat.le_refl _⟩ (by decide +kernel) (fun q26 _ => ?_)
        refine es_eq (tgt := 183) (off := (44)) (by decide +kernel) (by decide) (fun h27 => ?_) (fun h27 => ?_)
        · exact Hj22 _
        refine es_blk (pc' := 145) (L' := [some (.ref 127), none, some (.int x15), some (.int t17.1)]) (st' := [.int x15, .int t17.1, .ref 127]) [(.aload_n 0, 0), (.iload_n 3, 0), (.iload_n 2, 0)] (by decide +kernel) rfl rfl ?_
        refine ef_vpI (d := 1) (k := 127) (As := [.int t17.1, .int x15]) (st := []) eV_12_isAccepted eK_12_334 (eS_12_isAccepted g t17.2 t17.1 x15) rfl rfl (Nat.le_of_ble_eq_true rfl) rfl (Nat.le_of_ble_eq_true rfl) ⟨Nat.le_of_ble_eq_true rfl, Nat.le_of_ble_eq_true rfl⟩ ⟨Nat.le_refl _, Nat.le_refl _⟩ (by decide +kernel) (fun q28 _ => ?_)
        refine es_eq (tgt := 183) (off := (35)) (by decide +kernel) (by decide) (fun h29 => ?_) (fun h29 => ?_)
        · exact Hj22 _
        refine es_blk (pc' := 153) (L' := [some (.ref 127), none, some (.int x15), some (.int t17.1)]) (st' := [.ref 127, .ref 127]) [(.aload_n 0, 0), (.aload_n 0, 0)] (by decide +kernel) rfl rfl ?_
        refine ef_getP (k := 127) (j := 40) (q := 165) rfl eL_12_124 rfl rfl rfl (by decide +kernel) ?_
        refine es_blk (pc' := 157) (L' := [some (.ref 127), none, some (.int x15), some (.int t17.1)]) (st' := [.int t17.1, .ref 165, .ref 127]) [(.iload_n 3, 0)] (by decide +kernel) rfl rfl ?_
        refine ef_ald (k := 165) rfl (Or.inl ⟨rfl, rfl⟩) (by decide +kernel) (fun _ => ?_)
        refine es_blk (pc' := 159) (L' := [some (.ref 127), none, some (.int x15), some (.int t17.1)]) (st' := [.ref 127, .int (t17.2.1 165 (eh_ix t17.1)), .ref 127]) [(.aload_n 0, 0)] (by decide +kernel) rfl rfl ?_
        refine ef_getP (k := 127) (j := 41) (q := 166) rfl eL_12_127 rfl rfl rfl (by decide +kernel) ?_
        refine es_blk (pc' := 163) (L' := [some (.ref 127), none, some (.int x15), some (.int t17.1)]) (st' := [.int t17.1, .ref 166, .int (t17.2.1 165 (eh_ix t17.1)), .ref 127]) [(.iload_n 3, 0)] (by decide +kernel) rfl rfl ?_
        refine ef_ald (k := 166) rfl (Or.inl ⟨rfl, rfl⟩) (by decide +kernel) (fun _ => ?_)
        refine es_blk (pc' := 165) (L' := [some (.ref 127), none, some (.int x15), some (.int t17.1)]) (st' := [.ref 127, .int (t17.2.1 166 (eh_ix t17.1)), .int (t17.2.1 165 (eh_ix t17.1)), .ref 127]) [(.aload_n 0, 0)] (by decide +kernel) rfl rfl ?_
        refine ef_getP (k := 127) (j := 39) (q := 164) rfl eL_12_121 rfl rfl rfl (by decide +kernel) ?_
        refine es_blk (pc' := 169) (L' := [some (.ref 127), none, some (.int x15), some (.int t17.1)]) (st' := [.int t17.1, .ref 164, .int (t17.2.1 166 (eh_ix t17.1)), .int (t17.2.1 165 (eh_ix t17.1)), .ref 127]) [(.iload_n 3, 0)] (by decide +kernel) rfl rfl ?_
        refine ef_ald (k := 164) rfl (Or.inl ⟨rfl, rfl⟩) (by decide +kernel) (fun _ => ?_)
        refine es_blk (pc' := 171) (L' := [some (.ref 127), none, some (.int x15), some (.int t17.1)]) (st' := [.int 4, .int (t17.2.1 164 (eh_ix t17.1)), .int (t17.2.1 166 (eh_ix t17.1)), .int (t17.2.1 165 (eh_ix t17.1)), .ref 127]) [(.iconst 4, 4)] (by decide +kernel) rfl rfl ?_
        refine ef_J (X := fun j30 => ∀ (a31 : Int32), eh_Sim g eM_12_gather (eh_R 2 0 0) eh_eV 0 0 180 [some (.ref 127), none, some (.int x15), some (.int t17.1)] [.int a31, .int (t17.2.1 166 (eh_ix t17.1)), .int (t17.2.1 165 (eh_ix t17.1)), .ref 127] (eh_FW t17.2) ((j30 a31).bind K19)) ?_ (fun j30 Hj30 => ?_)
        · intro a31
          refine ef_veV (d := 1) (k := 127) (As := [.int (t17.2.1 165 (eh_ix t17.1)), .int (t17.2.1 166 (eh_ix t17.1)), .int a31]) (st := []) eV_12_gate eK_12_326 (eS_12_gate g t17.2 (t17.2.1 165 (eh_ix t17.1)) (t17.2.1 166 (eh_ix t17.1)) a31) rfl rfl (Nat.le_of_ble_eq_true rfl) rfl (Nat.le_of_ble_eq_true rfl) ⟨Nat.le_of_ble_eq_true rfl, Nat.le_of_ble_eq_true rfl⟩ ⟨Nat.le_refl _, Nat.le_refl _⟩ (by decide +kernel) (fun q32 _ => ?_)
          exact Hj22 _
        refine es_ine (tgt := 179) (off := (8)) (by decide +kernel) (by decide) (fun h33 => ?_) (fun h33 => ?_)
        · refine es_blk (pc' := 176) (L' := [some (.ref 127), none, some (.int x15), some (.int t17.1)]) (st' := [.int 7, .int (t17.2.1 166 (eh_ix t17.1)), .int (t17.2.1 165 (eh_ix t17.1)), .ref 127]) [(.bipush 7, 7)] (by decide +kernel) rfl rfl ?_
          refine es_goto (tgt := 180) (off := (4)) (by decide +kernel) (by decide) ?_
          exact Hj30 _
        refine es_blk (pc' := 180) (L' := [some (.ref 127), none, some (.int x15), some (.int t17.1)]) (st' := [.int 3, .int (t17.2.1 166 (eh_ix t17.1)), .int (t17.2.1 165 (eh_ix t17.1)), .ref 127]) [(.iconst 3, 3)] (by decide +kernel) rfl rfl ?_
        exact Hj30 _
      exact Hj22 _
    refine ef_drop (L2 := [none, none, none, none]) [false, true, false, false] rfl rfl ?_
    exact HxK19_0 t17.2
def eF_12_allowed (s : eh_F) (p0 : Int32) (p1 : Int32) (p2 : Int32) (p3 : Int32) (p4 : Int32) : Option (Int64 × eh_F) := eh_J (fun (a2 : Int32) => eh_J (fun (a4 : Int32) => eh_J (fun (a6 : Int32) => eh_J (fun (a8 : Int32) => if a8 = 0 then (Option.bind (eF_12_unpaged s p3) (fun q10 => Option.bind (eF_12_except s q10 p2) (fun q11 => some (0, q11)))) else (eh_J (fun (a13 : Int64) => some (a13, s)) (fun j12 => if p4 = 0 then (j12 ((eh_lshl ((eh_ushr p1 10).toInt64) 12) ||| ((p2 &&& 4095).toInt64))) else (j12 ((eh_lshl ((eh_ushr p1 20).toInt64) 22) ||| ((p2 &&& 4194303).toInt64)))))) (fun j7 => eh_J (fun (u16 : Unit) => j7 0) (fun j15 => if a4 = 0 then (j15 ()) else (if eh_in p0 2 then eh_J (fun (u19 : Unit) => j7 1) (fun j18 => if (s.1 131 (eh_ix p0)) = 0 then (if a6 = 0 then (j15 ()) else (j18 ())) else (if a6 = 0 then (j18 ()) else (if p3 = 0 then (j15 ()) else (if eh_in p0 2 then if ((s.1 133 (eh_ix p0)) &&& 262144) = 0 then (j15 ()) else (j18 ()) else none)))) else none)))) (fun j5 => if (p1 &&& 16) = 0 then (j5 0) else (j5 1))) (fun j3 => eh_J (fun (u27 : Unit) => j3 0) (fun j26 => if a2 = 0 then (j26 ()) else (if (p1 &&& 64) = 0 then (j26 ()) else (eh_J (fun (u31 : Unit) => j3 1) (fun j30 => if p3 = 2 then (if (p1 &&& 128) = 0 then (j26 ()) else (j30 ())) else (j30 ()))))))) (fun j1 => if p3 = 0 then (if (p1 &&& 8) = 0 then (j1 0) else (j1 1)) else (if p3 = 2 then (if (p1 &&& 4) = 0 then (j1 0) else (j1 1)) else (eh_J (fun (u39 : Unit) => j1 1) (fun j38 => if (p1 &&& 2) = 0 then (eh_J (fun (u42 : Unit) => j1 0) (fun j41 => if (p1 &&& 8) = 0 then (j41 ()) else (if eh_in p0 2 then if ((s.1 133 (eh_ix p0)) &&& 524288) = 0 then (j41 ()) else (j38 ()) else none))) else (j38 ())))))
set_option maxHeartbeats 4000000 in
set_option maxRecDepth 100000 in
theorem eS_12_allowed (g : eh_P) (s : eh_F) (p0 : Int32) (p1 : Int32) (p2 : Int32) (p3 : Int32) (p4 : Int32) : eh_Sim g eM_12_allowed (eh_R 2 0 0) eh_eL 0 0 0 (eh_en 8 [.ref 127, .int p0, .int p1, .int p2, .int p3, .int p4]) [] (eh_FW s) (eF_12_allowed s p0 p1 p2 p3 p4) := by
  unfold eF_12_allowed
  refine ef_top (L := [some (.ref 127), some (.int p0), some (.int p1), some (.int p2), some (.int p3), some (.int p4), none, none]) rfl ?_
  refine es_blk (pc' := 2) (L' := [some (.ref 127), some (.int p0), some (.int p1), some (.int p2), some (.int p3), some (.int p4), none, none]) (st' := [.int p3]) [(.iload 4, 0)] (by decide +kernel) rfl rfl ?_
  refine ef_J (X := fun j1 => ∀ (a2 : Int32), eh_Sim g eM_12_allowed (eh_R 2 0 0) eh_eL 0 0 71 [some (.ref 127), some (.int p0), some (.int p1), some (.int p2), some (.int p3), some (.int p4), none, none] [.int a2] (eh_FW s) ((j1 a2).bind some)) ?_ (fun j1 Hj1 => ?_)
  · intro a2
    refine es_blk (pc' := 75) (L' := [some (.ref 127), some (.int p0), some (.int p1), some (.int p2), some (.int p3), some (.int p4), some (.int a2), none]) (st' := [.int a2]) [(.istore 6, 0), (.iload 6, 0)] (by decide +kernel) rfl rfl ?_
    refine ef_J (X := fun j3 => ∀ (a4 : Int32), eh_Sim g eM_12_allowed (eh_R 2 0 0) eh_eL 0 0 104 [some (.ref 127), some (.int p0), some (.int p1), some (.int p2), some (.int p3), some (.int p4), none, none] [.int a4] (eh_FW s) ((j3 a4).bind some)) ?_ (fun j3 Hj3 => ?_)
    · intro a4
      refine es_blk (pc' := 110) (L' := [some (.ref 127), some (.int p0), some (.int p1), some (.int p2), some (.int p3), some (.int p4), some (.int a4), none]) (st' := [.int (p1 &&& 16)]) [(.istore 6, 0), (.iload_n 2, 0), (.bipush 16, 16), (.iand, 0)] (by decide +kernel) rfl rfl ?_
      refine ef_J (X := fun j5 => ∀ (a6 : Int32), eh_Sim g eM_12_allowed (eh_R 2 0 0) eh_eL 0 0 118 [some (.ref 127), some (.int p0), some (.int p1), some (.int p2), some (.int p3), some (.int p4), some (.int a4), none] [.int a6] (eh_FW s) ((j5 a6).bind some)) ?_ (fun j5 Hj5 => ?_)
      · intro a6
        refine es_blk (pc' := 122) (L' := [some (.ref 127), some (.int p0), some (.int p1), some (.int p2), some (.int p3), some (.int p4), some (.int a4), some (.int a6)]) (st' := [.int a4]) [(.istore 7, 0), (.iload 6, 0)] (by decide +kernel) rfl rfl ?_
        refine ef_J (X := fun j7 => ∀ (a8 : Int32), eh_Sim g eM_12_allowed (eh_R 2 0 0) eh_eL 0 0 170 [some (.ref 127), none, some (.int p1), some (.int p2), some (.int p3), some (.int p4), none, none] [.int a8] (eh_FW s) ((j7 a8).bind some)) ?_ (fun j7 Hj7 => ?_)
        · intro a8
          refine es_blk (pc' := 174) (L' := [some (.ref 127), none, some (.int p1), some (.int p2), some (.int p3), some (.int p4), some (.int a8), none]) (st' := [.int a8]) [(.istore 6, 0), (.iload 6, 0)] (by decide +kernel) rfl rfl ?_
          refine es_ne (tgt := 189) (off := (15)) (by decide +kernel) (by decide) (fun h9 => ?_) (fun h9 => ?_)
          · refine es_blk (pc' := 180) (L' := [some (.ref 127), none, some (.int p1), some (.int p2), some (.int p3), some (.int p4), some (.int a8), none]) (st' := [.int p3, .ref 127]) [(.aload_n 0, 0), (.iload 4, 0)] (by decide +kernel) rfl rfl ?_
            refine ef_spI (d := 1) (As := [.int p3]) (st := [.ref 127]) eV_12_unpaged eK_12_372 (eS_12_unpaged g s p3) rfl (Nat.le_of_ble_eq_true rfl) rfl (Nat.le_of_ble_eq_true rfl) ⟨Nat.le_of_ble_eq_true rfl, Nat.le_of_ble_eq_true rfl⟩ ⟨Nat.le_refl _, Nat.le_refl _⟩ (by decide +kernel) (fun q10 _ => ?_)
            refine es_blk (pc' := 184) (L' := [some (.ref 127), none, some (.int p1), some (.int p2), some (.int p3), some (.int p4), some (.int a8), none]) (st' := [.int p2, .int q10, .ref 127]) [(.iload_n 3, 0)] (by decide +kernel) rfl rfl ?_
            refine ef_veV (d := 1) (k := 127) (As := [.int q10, .int p2]) (st := []) eV_12_except eK_12_359 (eS_12_except g s q10 p2) rfl rfl (Nat.le_of_ble_eq_true rfl) rfl (Nat.le_of_ble_eq_true rfl) ⟨Nat.le_of_ble_eq_true rfl, Nat.le_of_ble_eq_true rfl⟩ ⟨Nat.le_refl _, Nat.le_refl _⟩ (by decide +kernel) (fun q11 _ => ?_)
            refine es_blk (pc' := 188) (L' := [some (.ref 127), none, some (.int p1), some (.int p2), some (.int p3), some (.int p4), some (.int a8), none]) (st' := [.long 0]) [(.lconst 0, 0)] (by decide +kernel) rfl rfl ?_
            exact es_ret rfl rfl rfl ⟨by decide +kernel, rfl⟩ (Nat.le_refl _) (Nat.le_refl _)
          refine es_blk (pc' := 191) (L' := [some (.ref 127), none, some (.int p1), some (.int p2), some (.int p3), some (.int p4), some (.int a8), none]) (st' := [.int p4]) [(.iload 5, 0)] (by decide +kernel) rfl rfl ?_
          refine ef_J (X := fun j12 => ∀ (a13 : Int64), eh_Sim g eM_12_allowed (eh_R 2 0 0) eh_eL 0 0 227 [none, none, none, none, none, none, none, none] [.long a13] (eh_FW s) ((j12 a13).bind some)) ?_ (fun j12 Hj12 => ?_)
          · intro a13
            exact es_ret rfl rfl rfl ⟨by decide +kernel, rfl⟩ (Nat.le_refl _) (Nat.le_refl _)
          refine es_eq (tgt := 212) (off := (21)) (by decide +kernel) (by decide) (fun h14 => ?_) (fun h14 => ?_)
          · refine es_blk (pc' := 227) (L' := [some (.ref 127), none, some (.int p1), some (.int p2), some (.int p3), some (.int p4), some (.int a8), none]) (st' := [.long ((eh_lshl ((eh_ushr p1 10).toInt64) 12) ||| ((p2 &&& 4095).toInt64))]) [(.iload_n 2, 0), (.bipush 10, 10), (.iushr, 0), (.i2l, 0), (.bipush 12, 12), (.lshl, 0), (.iload_n 3, 0), (.sipush 4095, 4095), (.iand, 0), (.i2l, 0), (.lor, 0)] (by decide +kernel) rfl rfl ?_
            refine ef_drop (L2 := [none, none, none, none, none, none, none, none]) [false, true, false, false, false, false, false, true] rfl rfl ?_
            exact Hj12 _
          refine es_blk (pc' := 203) (L' := [some (.ref 127), none, some (.int p1), some (.int p2), some (.int p3), some (.int p4), some (.int a8), none]) (st' := [.int p2, .long (eh_lshl ((eh_ushr p1 20).toInt64) 22)]) [(.iload_n 2, 0), (.bipush 20, 20), (.iushr, 0), (.i2l, 0), (.bipush 22, 22), (.lshl, 0), (.iload_n 3, 0)] (by decide +kernel) rfl rfl ?_
          refine es_ldcw (v := 4194303) eC_12_381 (by decide +kernel) ?_
          refine es_blk (pc' := 209) (L' := [some (.ref 127), none, some (.int p1), some (.int p2), some (.int p3), some (.int p4), some (.int a8), none]) (st' := [.long ((eh_lshl ((eh_ushr p1 20).toInt64) 22) ||| ((p2 &&& 4194303).toInt64))]) [(.iand, 0), (.i2l, 0), (.lor, 0)] (by decide +kernel) rfl rfl ?_
          refine es_goto (tgt := 227) (off := (18)) (by decide +kernel) (by decide) ?_
          refine ef_drop (L2 := [none, none, none, none, none, none, none, none]) [false, true, false, false, false, false, false, true] rfl rfl ?_
          exact Hj12 _
        refine ef_J (X := fun j15 => ∀ (u16 : Unit), eh_Sim g eM_12_allowed (eh_R 2 0 0) eh_eL 0 0 169 [some (.ref 127), none, some (.int p1), some (.int p2), some (.int p3), some (.int p4), none, none] [] (eh_FW s) ((j15 u16).bind some)) ?_ (fun j15 Hj15 => ?_)
        · intro u16
          refine es_blk (pc' := 170) (L' := [some (.ref 127), none, some (.int p1), some (.int p2), some (.int p3), some (.int p4), none, none]) (st' := [.int 0]) [(.iconst 0, 0)] (by decide +kernel) rfl rfl ?_
          exact Hj7 _
        refine es_eq (tgt := 169) (off := (47)) (by decide +kernel) (by decide) (fun h17 => ?_) (fun h17 => ?_)
        · refine ef_drop (L2 := [some (.ref 127), none, some (.int p1), some (.int p2), some (.int p3), some (.int p4), none, none]) [true, false, true, true, true, true, false, false] rfl rfl ?_
          exact Hj15 ()
        refine es_blk (pc' := 126) (L' := [some (.ref 127), some (.int p0), some (.int p1), some (.int p2), some (.int p3), some (.int p4), some (.int a4), some (.int a6)]) (st' := [.ref 127]) [(.aload_n 0, 0)] (by decide +kernel) rfl rfl ?_
        refine ef_getP (k := 127) (j := 3) (q := 131) rfl eL_12_21 rfl rfl rfl (by decide +kernel) ?_
        refine es_blk (pc' := 130) (L' := [some (.ref 127), some (.int p0), some (.int p1), some (.int p2), some (.int p3), some (.int p4), some (.int a4), some (.int a6)]) (st' := [.int p0, .ref 131]) [(.iload_n 1, 0)] (by decide +kernel) rfl rfl ?_
        refine ef_ald (k := 131) rfl (Or.inl ⟨rfl, rfl⟩) (by decide +kernel) (fun _ => ?_)
        refine ef_J (X := fun j18 => ∀ (u19 : Unit), eh_Sim g eM_12_allowed (eh_R 2 0 0) eh_eL 0 0 165 [some (.ref 127), none, some (.int p1), some (.int p2), some (.int p3), some (.int p4), none, none] [] (eh_FW s) ((j18 u19).bind some)) ?_ (fun j18 Hj18 => ?_)
        · intro u19
          refine es_blk (pc' := 166) (L' := [some (.ref 127), none, some (.int p1), some (.int p2), some (.int p3), some (.int p4), none, none]) (st' := [.int 1]) [(.iconst 1, 1)] (by decide +kernel) rfl rfl ?_
          refine es_goto (tgt := 170) (off := (4)) (by decide +kernel) (by decide) ?_
          exact Hj7 _
        refine es_ne (tgt := 142) (off := (11)) (by decide +kernel) (by decide) (fun h20 => ?_) (fun h20 => ?_)
        · refine es_blk (pc' := 136) (L' := [some (.ref 127), some (.int p0), some (.int p1), some (.int p2), some (.int p3), some (.int p4), some (.int a4), some (.int a6)]) (st' := [.int a6]) [(.iload 7, 0)] (by decide +kernel) rfl rfl ?_
          refine es_eq (tgt := 169) (off := (33)) (by decide +kernel) (by decide) (fun h21 => ?_) (fun h21 => ?_)
          · refine ef_drop (L2 := [some (.ref 127), none, some (.int p1), some (.int p2), some (.int p3), some (.int p4), none, none]) [true, false, true, true, true, true, false, false] rfl rfl ?_
            exact Hj15 ()
          refine es_goto (tgt := 165) (off := (26)) (by decide +kernel) (by decide) ?_
          refine ef_drop (L2 := [some (.ref 127), none, some (.int p1), some (.int p2), some (.int p3), some (.int p4), none, none]) [true, false, true, true, true, true, false, false] rfl rfl ?_
          exact Hj18 ()
        refine es_blk (pc' := 144) (L' := [some (.ref 127), some (.int p0), some (.int p1), some (.int p2), some (.int p3), some (.int p4), some (.int a4), some (.int a6)]) (st' := [.int a6]) [(.iload 7, 0)] (by decide +kernel) rfl rfl ?_
        refine es_eq (tgt := 165) (off := (21)) (by decide +kernel) (by decide) (fun h22 => ?_) (fun h22 => ?_)
        · refine ef_drop (L2 := [some (.ref 127), none, some (.int p1), some (.int p2), some (.int p3), some (.int p4), none, none]) [true, false, true, true, true, true, false, false] rfl rfl ?_
          exact Hj18 ()
        refine es_blk (pc' := 149) (L' := [some (.ref 127), some (.int p0), some (.int p1), some (.int p2), some (.int p3), some (.int p4), some (.int a4), some (.int a6)]) (st' := [.int p3]) [(.iload 4, 0)] (by decide +kernel) rfl rfl ?_
        refine es_eq (tgt := 169) (off := (20)) (by decide +kernel) (by decide) (fun h23 => ?_) (fun h23 => ?_)
        · refine ef_drop (L2 := [some (.ref 127), none, some (.int p1), some (.int p2), some (.int p3), some (.int p4), none, none]) [true, false, true, true, true, true, false, false] rfl rfl ?_
          exact Hj15 ()
        refine es_blk (pc' := 153) (L' := [some (.ref 127), some (.int p0), some (.int p1), some (.int p2), some (.int p3), some (.int p4), some (.int a4), some (.int a6)]) (st' := [.ref 127]) [(.aload_n 0, 0)] (by decide +kernel) rfl rfl ?_
        refine ef_getP (k := 127) (j := 5) (q := 133) rfl eL_12_28 rfl rfl rfl (by decide +kernel) ?_
        refine es_blk (pc' := 157) (L' := [some (.ref 127), some (.int p0), some (.int p1), some (.int p2), some (.int p3), some (.int p4), some (.int a4), some (.int a6)]) (st' := [.int p0, .ref 133]) [(.iload_n 1, 0)] (by decide +kernel) rfl rfl ?_
        refine ef_ald (k := 133) rfl (Or.inl ⟨rfl, rfl⟩) (by decide +kernel) (fun _ => ?_)
        refine es_ldcw (v := 262144) eC_12_380 (by decide +kernel) ?_
        refine es_blk (pc' := 162) (L' := [some (.ref 127), some (.int p0), some (.int p1), some (.int p2), some (.int p3), some (.int p4), some (.int a4), some (.int a6)]) (st' := [.int ((s.1 133 (eh_ix p0)) &&& 262144)]) [(.iand, 0)] (by decide +kernel) rfl rfl ?_
        refine es_eq (tgt := 169) (off := (7)) (by decide +kernel) (by decide) (fun h24 => ?_) (fun h24 => ?_)
        · refine ef_drop (L2 := [some (.ref 127), none, some (.int p1), some (.int p2), some (.int p3), some (.int p4), none, none]) [true, false, true, true, true, true, false, false] rfl rfl ?_
          exact Hj15 ()
        refine ef_drop (L2 := [some (.ref 127), none, some (.int p1), some (.int p2), some (.int p3), some (.int p4), none, none]) [true, false, true, true, true, true, false, false] rfl rfl ?_
        exact Hj18 ()
      refine es_eq (tgt := 117) (off := (7)) (by decide +kernel) (by decide) (fun h25 => ?_) (fun h25 => ?_)
      · refine es_blk (pc' := 118) (L' := [some (.ref 127), some (.int p0), some (.int p1), some (.int p2), some (.int p3), some (.int p4), some (.int a4), none]) (st' := [.int 0]) [(.iconst 0, 0)] (by decide +kernel) rfl rfl ?_
        exact Hj5 _
      refine es_blk (pc' := 114) (L' := [some (.ref 127), some (.int p0), some (.int p1), some (.int p2), some (.int p3), some (.int p4), some (.int a4), none]) (st' := [.int 1]) [(.iconst 1, 1)] (by decide +kernel) rfl rfl ?_
      refine es_goto (tgt := 118) (off := (4)) (by decide +kernel) (by decide) ?_
      exact Hj5 _
    refine ef_J (X := fun j26 => ∀ (u27 : Unit), eh_Sim g eM_12_allowed (eh_R 2 0 0) eh_eL 0 0 103 [some (.ref 127), some (.int p0), some (.int p1), some (.int p2), some (.int p3), some (.int p4), none, none] [] (eh_FW s) ((j26 u27).bind some)) ?_ (fun j26 Hj26 => ?_)
    · intro u27
      refine es_blk (pc' := 104) (L' := [some (.ref 127), some (.int p0), some (.int p1), some (.int p2), some (.int p3), some (.int p4), none, none]) (st' := [.int 0]) [(.iconst 0, 0)] (by decide +kernel) rfl rfl ?_
      exact Hj3 _
    refine es_eq (tgt := 103) (off := (28)) (by decide +kernel) (by decide) (fun h28 => ?_) (fun h28 => ?_)
    · refine ef_drop (L2 := [some (.ref 127), some (.int p0), some (.int p1), some (.int p2), some (.int p3), some (.int p4), none, none]) [true, true, true, true, true, true, false, true] rfl rfl ?_
      exact Hj26 ()
    refine es_blk (pc' := 82) (L' := [some (.ref 127), some (.int p0), some (.int p1), some (.int p2), some (.int p3), some (.int p4), some (.int a2), none]) (st' := [.int (p1 &&& 64)]) [(.iload_n 2, 0), (.bipush 64, 64), (.iand, 0)] (by decide +kernel) rfl rfl ?_
    refine es_eq (tgt := 103) (off := (21)) (by decide +kernel) (by decide) (fun h29 => ?_) (fun h29 => ?_)
    · refine ef_drop (L2 := [some (.ref 127), some (.int p0), some (.int p1), some (.int p2), some (.int p3), some (.int p4), none, none]) [true, true, true, true, true, true, false, true] rfl rfl ?_
      exact Hj26 ()
    refine es_blk (pc' := 88) (L' := [some (.ref 127), some (.int p0), some (.int p1), some (.int p2), some (.int p3), some (.int p4), some (.int a2), none]) (st' := [.int 2, .int p3]) [(.iload 4, 0), (.iconst 2, 2)] (by decide +kernel) rfl rfl ?_
    refine ef_J (X := fun j30 => ∀ (u31 : Unit), eh_Sim g eM_12_allowed (eh_R 2 0 0) eh_eL 0 0 99 [some (.ref 127), some (.int p0), some (.int p1), some (.int p2), some (.int p3), some (.int p4), none, none] [] (eh_FW s) ((j30 u31).bind some)) ?_ (fun j30 Hj30 => ?_)
    · intro u31
      refine es_blk (pc' := 100) (L' := [some (.ref 127), some (.int p0), some (.int p1), some (.int p2), some (.int p3), some (.int p4), none, none]) (st' := [.int 1]) [(.iconst 1, 1)] (by decide +kernel) rfl rfl ?_
      refine es_goto (tgt := 104) (off := (4)) (by decide +kernel) (by decide) ?_
      exact Hj3 _
    refine es_ine (tgt := 99) (off := (11)) (by decide +kernel) (by decide) (fun h32 => ?_) (fun h32 => ?_)
    · refine es_blk (pc' := 96) (L' := [some (.ref 127), some (.int p0), some (.int p1), some (.int p2), some (.int p3), some (.int p4), some (.int a2), none]) (st' := [.int (p1 &&& 128)]) [(.iload_n 2, 0), (.sipush 128, 128), (.iand, 0)] (by decide +kernel) rfl rfl ?_
      refine es_eq (tgt := 103) (off := (7)) (by decide +kernel) (by decide) (fun h33 => ?_) (fun h33 => ?_)
      · refine ef_drop (L2 := [some (.ref 127), some (.int p0), some (.int p1), some (.int p2), some (.int p3), some (.int p4), none, none]) [true, true, true, true, true, true, false, true] rfl rfl ?_
        exact Hj26 ()
      refine ef_drop (L2 := [some (.ref 127), some (.int p0), some (.int p1), some (.int p2), some (.int p3), some (.int p4), none, none]) [true, true, true, true, true, true, false, true] rfl rfl ?_
      exact Hj30 ()
    refine ef_drop (L2 := [some (.ref 127), some (.int p0), some (.int p1), some (.int p2), some (.int p3), some (.int p4), none, none]) [true, true, true, true, true, true, false, true] rfl rfl ?_
    exact Hj30 ()
  refine es_ne (tgt := 20) (off := (18)) (by decide +kernel) (by decide) (fun h34 => ?_) (fun h34 => ?_)
  · refine es_blk (pc' := 9) (L' := [some (.ref 127), some (.int p0), some (.int p1), some (.int p2), some (.int p3), some (.int p4), none, none]) (st' := [.int (p1 &&& 8)]) [(.iload_n 2, 0), (.bipush 8, 8), (.iand, 0)] (by decide +kernel) rfl rfl ?_
    refine es_eq (tgt := 16) (off := (7)) (by decide +kernel) (by decide) (fun h35 => ?_) (fun h35 => ?_)
    · refine es_blk (pc' := 17) (L' := [some (.ref 127), some (.int p0), some (.int p1), some (.int p2), some (.int p3), some (.int p4), none, none]) (st' := [.int 0]) [(.iconst 0, 0)] (by decide +kernel) rfl rfl ?_
      refine es_goto (tgt := 71) (off := (54)) (by decide +kernel) (by decide) ?_
      exact Hj1 _
    refine es_blk (pc' := 13) (L' := [some (.ref 127), some (.int p0), some (.int p1), some (.int p2), some (.int p3), some (.int p4), none, none]) (st' := [.int 1]) [(.iconst 1, 1)] (by decide +kernel) rfl rfl ?_
    refine es_goto (tgt := 71) (off := (58)) (by decide +kernel) (by decide) ?_
    exact Hj1 _
  refine es_blk (pc' := 23) (L' := [some (.ref 127), some (.int p0), some (.int p1), some (.int p2), some (.int p3), some (.int p4), none, none]) (st' := [.int 2, .int p3]) [(.iload 4, 0), (.iconst 2, 2)] (by decide +kernel) rfl rfl ?_
  refine es_ine (tgt := 40) (off := (17)) (by decide +kernel) (by decide) (fun h36 => ?_) (fun h36 => ?_)
  · refine es_blk (pc' := 29) (L' := [some (.ref 127), some (.int p0), some (.int p1), some (.int p2), some (.int p3), some (.int p4), none, none]) (st' := [.int (p1 &&& 4)]) [(.iload_n 2, 0), (.iconst 4, 4), (.iand, 0)] (by decide +kernel) rfl rfl ?_
    refine es_eq (tgt := 36) (off := (7)) (by decide +kernel) (by decide) (fun h37 => ?_) (fun h37 => ?_)
    · refine es_blk (pc' := 37) (L' := [some (.ref 127), some (.int p0), some (.int p1), some (.int p2), some (.int p3), some (.int p4), none, none]) (st' := [.int 0]) [(.iconst 0, 0)] (by decide +kernel) rfl rfl ?_
      refine es_goto (tgt := 71) (off := (34)) (by decide +kernel) (by decide) ?_
      exact Hj1 _
    refine es_blk (pc' := 33) (L' := [some (.ref 127), some (.int p0), some (.int p1), some (.int p2), some (.int p3), some (.int p4), none, none]) (st' := [.int 1]) [(.iconst 1, 1)] (by decide +kernel) rfl rfl ?_
    refine es_goto (tgt := 71) (off := (38)) (by decide +kernel) (by decide) ?_
    exact Hj1 _
  refine es_blk (pc' := 43) (L' := [some (.ref 127), some (.int p0), some (.int p1), some (.int p2), some (.int p3), some (.int p4), none, none]) (st' := [.int (p1 &&& 2)]) [(.iload_n 2, 0), (.iconst 2, 2), (.iand, 0)] (by decide +kernel) rfl rfl ?_
  refine ef_J (X := fun j38 => ∀ (u39 : Unit), eh_Sim g eM_12_allowed (eh_R 2 0 0) eh_eL 0 0 66 [some (.ref 127), some (.int p0), some (.int p1), some (.int p2), some (.int p3), some (.int p4), none, none] [] (eh_FW s) ((j38 u39).bind some)) ?_ (fun j38 Hj38 => ?_)
  · intro u39
    refine es_blk (pc' := 67) (L' := [some (.ref 127), some (.int p0), some (.int p1), some (.int p2), some (.int p3), some (.int p4), none, none]) (st' := [.int 1]) [(.iconst 1, 1)] (by decide +kernel) rfl rfl ?_
    refine es_goto (tgt := 71) (off := (4)) (by decide +kernel) (by decide) ?_
    exact Hj1 _
  refine es_ne (tgt := 66) (off := (23)) (by decide +kernel) (by decide) (fun h40 => ?_) (fun h40 => ?_)
  · refine es_blk (pc' := 50) (L' := [some (.ref 127), some (.int p0), some (.int p1), some (.int p2), some (.int p3), some (.int p4), none, none]) (st' := [.int (p1 &&& 8)]) [(.iload_n 2, 0), (.bipush 8, 8), (.iand, 0)] (by decide +kernel) rfl rfl ?_
    refine ef_J (X := fun j41 => ∀ (u42 : Unit), eh_Sim g eM_12_allowed (eh_R 2 0 0) eh_eL 0 0 70 [some (.ref 127), some (.int p0), some (.int p1), some (.int p2), some (.int p3), some (.int p4), none, none] [] (eh_FW s) ((j41 u42).bind some)) ?_ (fun j41 Hj41 => ?_)
    · intro u42
      refine es_blk (pc' := 71) (L' := [some (.ref 127), some (.int p0), some (.int p1), some (.int p2), some (.int p3), some (.int p4), none, none]) (st' := [.int 0]) [(.iconst 0, 0)] (by decide +kernel) rfl rfl ?_
      exact Hj1 _
    refine es_eq (tgt := 70) (off := (20)) (by decide +kernel) (by decide) (fun h43 => ?_) (fun h43 => ?_)
    · exact Hj41 ()
    refine es_blk (pc' := 54) (L' := [some (.ref 127), some (.int p0), some (.int p1), some (.int p2), some (.int p3), some (.int p4), none, none]) (st' := [.ref 127]) [(.aload_n 0, 0)] (by decide +kernel) rfl rfl ?_
    refine ef_getP (k := 127) (j := 5) (q := 133) rfl eL_12_28 rfl rfl rfl (by decide +kernel) ?_
    refine es_blk (pc' := 58) (L' := [some (.ref 127), some (.int p0), some (.int p1), some (.int p2), some (.int p3), some (.int p4), none, none]) (st' := [.int p0, .ref 133]) [(.iload_n 1, 0)] (by decide +kernel) rfl rfl ?_
    refine ef_ald (k := 133) rfl (Or.inl ⟨rfl, rfl⟩) (by decide +kernel) (fun _ => ?_)
    refine es_ldcw (v := 524288) eC_12_379 (by decide +kernel) ?_
    refine es_blk (pc' := 63) (L' := [some (.ref 127), some (.int p0), some (.int p1), some (.int p2), some (.int p3), some (.int p4), none, none]) (st' := [.int ((s.1 133 (eh_ix p0)) &&& 524288)]) [(.iand, 0)] (by decide +kernel) rfl rfl ?_
    refine es_eq (tgt := 70) (off := (7)) (by decide +kernel) (by decide) (fun h44 => ?_) (fun h44 => ?_)
    · exact Hj41 ()
    exact Hj38 ()
  exact Hj38 ()
def eF_12_storeAt (s : eh_F) (p0 : Int32) (p1 : Int32) (p2 : Int32) (p3 : Int32) : Option (eh_F) := Option.bind (eh_loop (fun (r14 : (Int32 × eh_F) → Option (eh_F)) (t1 : Int32 × eh_F) => if t1.1 < p2 then (Option.bind (eF_12_setByte t1.2 (p1 + t1.1) (eh_shr p3 (8 * t1.1))) (fun q16 => eh_V ((t1.1 + 1) : Int32) (fun x17 => r14 (x17, q16)))) else (some t1.2)) eh_FU (0, s)) (fun (e2 : eh_F) => if eh_in p0 2 then eh_J (fun (s4 : eh_F) => some s4) (fun j3 => if (e2.1 144 (eh_ix p0)) = (-1) then (j3 e2) else (Option.bind (eF_12_sharedAt e2 p1) (fun q6 => if q6 = (-1) then (j3 e2) else (eh_J (fun (a9 : Int32) => Option.bind (eF_12_happens e2 4 p0 p1 a9 p2) (fun q10 => j3 q10)) (fun j8 => if p2 = 1 then (j8 (p3 &&& 255)) else (if p2 = 2 then (j8 (p3 &&& 65535)) else (j8 p3))))))) else none)
set_option maxHeartbeats 4000000 in
set_option maxRecDepth 100000 in
theorem eS_12_storeAt (g : eh_P) (s : eh_F) (p0 : Int32) (p1 : Int32) (p2 : Int32) (p3 : Int32) : eh_Sim g eM_12_storeAt (eh_R 2 0 0) eh_eV 0 0 0 (eh_en 6 [.ref 127, .int p0, .int p1, .int p2, .int p3]) [] (eh_FW s) (eF_12_storeAt s p0 p1 p2 p3) := by
  unfold eF_12_storeAt
  refine ef_top (L := [some (.ref 127), some (.int p0), some (.int p1), some (.int p2), some (.int p3), none]) rfl ?_
  refine es_blk (pc' := 3) (L' := [some (.ref 127), some (.int p0), some (.int p1), some (.int p2), some (.int p3), some (.int 0)]) (st' := []) [(.iconst 0, 0), (.istore 5, 0)] (by decide +kernel) rfl rfl ?_
  refine ef_loop1 (n := eh_FU) (i := (0, s)) (px := 31) (fun (t1 : Int32 × eh_F) => [some (.ref 127), some (.int p0), some (.int p1), some (.int p2), some (.int p3), some (.int t1.1)]) (fun (t1 : Int32 × eh_F) => []) (fun (t1 : Int32 × eh_F) => eh_FW t1.2) (fun (e2 : eh_F) => [some (.ref 127), some (.int p0), some (.int p1), some (.int p2), some (.int p3), none]) (fun (e2 : eh_F) => []) (fun (e2 : eh_F) => eh_FW e2) (fun e2 => ?_) (fun K13 HxK13_0 r14 Hr14 t1 => ?_)
  · refine es_blk (pc' := 32) (L' := [some (.ref 127), some (.int p0), some (.int p1), some (.int p2), some (.int p3), none]) (st' := [.ref 127]) [(.aload_n 0, 0)] (by decide +kernel) rfl rfl ?_
    refine ef_getP (k := 127) (j := 16) (q := 144) rfl eL_12_61 rfl rfl rfl (by decide +kernel) ?_
    refine es_blk (pc' := 36) (L' := [some (.ref 127), some (.int p0), some (.int p1), some (.int p2), some (.int p3), none]) (st' := [.int p0, .ref 144]) [(.iload_n 1, 0)] (by decide +kernel) rfl rfl ?_
    refine ef_ald (k := 144) rfl (Or.inl ⟨rfl, rfl⟩) (by decide +kernel) (fun _ => ?_)
    refine es_blk (pc' := 38) (L' := [some (.ref 127), some (.int p0), some (.int p1), some (.int p2), some (.int p3), none]) (st' := [.int (-1), .int (e2.1 144 (eh_ix p0))]) [(.iconst (-1), (-1))] (by decide +kernel) rfl rfl ?_
    refine ef_J (X := fun j3 => ∀ (s4 : eh_F), eh_Sim g eM_12_storeAt (eh_R 2 0 0) eh_eV 0 0 88 [none, none, none, none, none, none] [] (eh_FW s4) ((j3 s4).bind some)) ?_ (fun j3 Hj3 => ?_)
    · intro s4
      exact es_ret rfl rfl rfl ⟨by decide +kernel, rfl⟩ (Nat.le_refl _) (Nat.le_refl _)
    refine es_ieq (tgt := 88) (off := (50)) (by decide +kernel) (by decide) (fun h5 => ?_) (fun h5 => ?_)
    · refine ef_drop (L2 := [none, none, none, none, none, none]) [false, false, false, false, false, true] rfl rfl ?_
      exact Hj3 _
    refine es_blk (pc' := 43) (L' := [some (.ref 127), some (.int p0), some (.int p1), some (.int p2), some (.int p3), none]) (st' := [.int p1, .ref 127]) [(.aload_n 0, 0), (.iload_n 2, 0)] (by decide +kernel) rfl rfl ?_
    refine ef_vpI (d := 1) (k := 127) (As := [.int p1]) (st := []) eV_12_sharedAt eK_12_390 (eS_12_sharedAt g e2 p1) rfl rfl (Nat.le_of_ble_eq_true rfl) rfl (Nat.le_of_ble_eq_true rfl) ⟨Nat.le_of_ble_eq_true rfl, Nat.le_of_ble_eq_true rfl⟩ ⟨Nat.le_refl _, Nat.le_refl _⟩ (by decide +kernel) (fun q6 _ => ?_)
    refine es_blk (pc' := 47) (L' := [some (.ref 127), some (.int p0), some (.int p1), some (.int p2), some (.int p3), none]) (st' := [.int (-1), .int q6]) [(.iconst (-1), (-1))] (by decide +kernel) rfl rfl ?_
    refine es_ieq (tgt := 88) (off := (41)) (by decide +kernel) (by decide) (fun h7 => ?_) (fun h7 => ?_)
    · refine ef_drop (L2 := [none, none, none, none, none, none]) [false, false, false, false, false, true] rfl rfl ?_
      exact Hj3 _
    refine es_blk (pc' := 56) (L' := [some (.ref 127), some (.int p0), some (.int p1), some (.int p2), some (.int p3), none]) (st' := [.int 1, .int p2, .int p1, .int p0, .int 4, .ref 127]) [(.aload_n 0, 0), (.iconst 4, 4), (.iload_n 1, 0), (.iload_n 2, 0), (.iload_n 3, 0), (.iconst 1, 1)] (by decide +kernel) rfl rfl ?_
    refine ef_J (X := fun j8 => ∀ (a9 : Int32), eh_Sim g eM_12_storeAt (eh_R 2 0 0) eh_eV 0 0 84 [none, none, none, some (.int p2), none, none] [.int a9, .int p1, .int p0, .int 4, .ref 127] (eh_FW e2) ((j8 a9).bind some)) ?_ (fun j8 Hj8 => ?_)
    · intro a9
      refine es_blk (pc' := 85) (L' := [none, none, none, some (.int p2), none, none]) (st' := [.int p2, .int a9, .int p1, .int p0, .int 4, .ref 127]) [(.iload_n 3, 0)] (by decide +kernel) rfl rfl ?_
      refine ef_veV (d := 1) (k := 127) (As := [.int 4, .int p0, .int p1, .int a9, .int p2]) (st := []) eV_12_happens eK_12_394 (eS_12_happens g e2 4 p0 p1 a9 p2) rfl rfl (Nat.le_of_ble_eq_true rfl) rfl (Nat.le_of_ble_eq_true rfl) ⟨Nat.le_of_ble_eq_true rfl, Nat.le_of_ble_eq_true rfl⟩ ⟨Nat.le_refl _, Nat.le_refl _⟩ (by decide +kernel) (fun q10 _ => ?_)
      refine ef_drop (L2 := [none, none, none, none, none, none]) [true, true, true, false, true, true] rfl rfl ?_
      exact Hj3 _
    refine es_ine (tgt := 68) (off := (12)) (by decide +kernel) (by decide) (fun h11 => ?_) (fun h11 => ?_)
    · refine es_blk (pc' := 65) (L' := [some (.ref 127), some (.int p0), some (.int p1), some (.int p2), some (.int p3), none]) (st' := [.int (p3 &&& 255), .int p1, .int p0, .int 4, .ref 127]) [(.iload 4, 0), (.sipush 255, 255), (.iand, 0)] (by decide +kernel) rfl rfl ?_
      refine es_goto (tgt := 84) (off := (19)) (by decide +kernel) (by decide) ?_
      refine ef_drop (L2 := [none, none, none, some (.int p2), none, none]) [false, false, false, true, false, true] rfl rfl ?_
      exact Hj8 _
    refine es_blk (pc' := 70) (L' := [some (.ref 127), some (.int p0), some (.int p1), some (.int p2), some (.int p3), none]) (st' := [.int 2, .int p2, .int p1, .int p0, .int 4, .ref 127]) [(.iload_n 3, 0), (.iconst 2, 2)] (by decide +kernel) rfl rfl ?_
    refine es_ine (tgt := 82) (off := (12)) (by decide +kernel) (by decide) (fun h12 => ?_) (fun h12 => ?_)
    · refine es_blk (pc' := 75) (L' := [some (.ref 127), some (.int p0), some (.int p1), some (.int p2), some (.int p3), none]) (st' := [.int p3, .int p1, .int p0, .int 4, .ref 127]) [(.iload 4, 0)] (by decide +kernel) rfl rfl ?_
      refine es_ldcw (v := 65535) eC_12_393 (by decide +kernel) ?_
      refine es_blk (pc' := 79) (L' := [some (.ref 127), some (.int p0), some (.int p1), some (.int p2), some (.int p3), none]) (st' := [.int (p3 &&& 65535), .int p1, .int p0, .int 4, .ref 127]) [(.iand, 0)] (by decide +kernel) rfl rfl ?_
      refine es_goto (tgt := 84) (off := (5)) (by decide +kernel) (by decide) ?_
      refine ef_drop (L2 := [none, none, none, some (.int p2), none, none]) [false, false, false, true, false, true] rfl rfl ?_
      exact Hj8 _
    refine es_blk (pc' := 84) (L' := [some (.ref 127), some (.int p0), some (.int p1), some (.int p2), some (.int p3), none]) (st' := [.int p3, .int p1, .int p0, .int 4, .ref 127]) [(.iload 4, 0)] (by decide +kernel) rfl rfl ?_
    refine ef_drop (L2 := [none, none, none, some (.int p2), none, none]) [false, false, false, true, false, true] rfl rfl ?_
    exact Hj8 _
  · refine es_blk (pc' := 6) (L' := [some (.ref 127), some (.int p0), some (.int p1), some (.int p2), some (.int p3), some (.int t1.1)]) (st' := [.int p2, .int t1.1]) [(.iload 5, 0), (.iload_n 3, 0)] (by decide +kernel) rfl rfl ?_
    refine es_ige (tgt := 31) (off := (25)) (by decide +kernel) (by decide) (fun h15 => ?_) (fun h15 => ?_)
    · refine es_blk (pc' := 22) (L' := [some (.ref 127), some (.int p0), some (.int p1), some (.int p2), some (.int p3), some (.int t1.1)]) (st' := [.int (eh_shr p3 (8 * t1.1)), .int (p1 + t1.1), .ref 127]) [(.aload_n 0, 0), (.iload_n 2, 0), (.iload 5, 0), (.iadd, 0), (.iload 4, 0), (.bipush 8, 8), (.iload 5, 0), (.imul, 0), (.ishr, 0)] (by decide +kernel) rfl rfl ?_
      refine ef_veV (d := 1) (k := 127) (As := [.int (p1 + t1.1), .int (eh_shr p3 (8 * t1.1))]) (st := []) eV_12_setByte eK_12_320 (eS_12_setByte g t1.2 (p1 + t1.1) (eh_shr p3 (8 * t1.1))) rfl rfl (Nat.le_of_ble_eq_true rfl) rfl (Nat.le_of_ble_eq_true rfl) ⟨Nat.le_of_ble_eq_true rfl, Nat.le_of_ble_eq_true rfl⟩ ⟨Nat.le_refl _, Nat.le_refl _⟩ (by decide +kernel) (fun q16 _ => ?_)
      refine es_blk (pc' := 28) (L' := [some (.ref 127), some (.int p0), some (.int p1), some (.int p2), some (.int p3), some (.int (t1.1 + 1))]) (st' := []) [(.iinc 5 1, 1)] (by decide +kernel) rfl rfl ?_
      refine ef_V (fun x17 => [some (.ref 127), some (.int p0), some (.int p1), some (.int p2), some (.int p3), some (.int x17)]) (fun _ => []) (fun _ => eh_FW q16) (fun x17 => ?_)
      refine es_goto (tgt := 3) (off := (-25)) (by decide +kernel) (by decide) ?_
      exact Hr14 (x17, q16)
    refine ef_drop (L2 := [some (.ref 127), some (.int p0), some (.int p1), some (.int p2), some (.int p3), none]) [true, true, true, true, true, false] rfl rfl ?_
    exact HxK13_0 t1.2
def eF_12_get (s : eh_F) (p0 : Int32) (p1 : Int32) : Option (Int32) := Option.bind (eF_12_who s p0) (fun q1 => if eh_in ((32 * q1) + p1) 448 then some (s.1 129 (eh_ix ((32 * q1) + p1))) else none)
set_option maxHeartbeats 4000000 in
set_option maxRecDepth 100000 in
theorem eS_12_get (g : eh_P) (s : eh_F) (p0 : Int32) (p1 : Int32) : eh_Sim g eM_12_get (eh_R 2 0 0) (eh_pI s) 0 0 0 (eh_en 3 [.ref 127, .int p0, .int p1]) [] (eh_FW s) (eF_12_get s p0 p1) := by
  unfold eF_12_get
  refine ef_top (L := [some (.ref 127), some (.int p0), some (.int p1)]) rfl ?_
  refine es_blk (pc' := 1) (L' := [some (.ref 127), some (.int p0), some (.int p1)]) (st' := [.ref 127]) [(.aload_n 0, 0)] (by decide +kernel) rfl rfl ?_
  refine ef_getP (k := 127) (j := 1) (q := 129) rfl eL_12_14 rfl rfl rfl (by decide +kernel) ?_
  refine es_blk (pc' := 8) (L' := [some (.ref 127), some (.int p0), some (.int p1)]) (st' := [.int p0, .ref 127, .int 32, .ref 129]) [(.bipush 32, 32), (.aload_n 0, 0), (.iload_n 1, 0)] (by decide +kernel) rfl rfl ?_
  refine ef_vpI (d := 1) (k := 127) (As := [.int p0]) (st := [.int 32, .ref 129]) eV_12_who eK_12_401 (eS_12_who g s p0) rfl rfl (Nat.le_of_ble_eq_true rfl) rfl (Nat.le_of_ble_eq_true rfl) ⟨Nat.le_of_ble_eq_true rfl, Nat.le_of_ble_eq_true rfl⟩ ⟨Nat.le_refl _, Nat.le_refl _⟩ (by decide +kernel) (fun q1 _ => ?_)
  refine es_blk (pc' := 14) (L' := [some (.ref 127), some (.int p0), some (.int p1)]) (st' := [.int ((32 * q1) + p1), .ref 129]) [(.imul, 0), (.iload_n 2, 0), (.iadd, 0)] (by decide +kernel) rfl rfl ?_
  refine ef_ald (k := 129) rfl (Or.inl ⟨rfl, rfl⟩) (by decide +kernel) (fun _ => ?_)
  exact es_ret rfl rfl rfl ⟨by decide +kernel, _, rfl, rfl⟩ (Nat.le_refl _) (Nat.le_refl _)
def eF_12_set (s : eh_F) (p0 : Int32) (p1 : Int32) (p2 : Int32) : Option (eh_F) := eh_J (fun (s2 : eh_F) => some s2) (fun j1 => if 0 < p1 then (Option.bind (eF_12_who s p0) (fun q4 => if eh_in ((32 * q4) + p1) 448 then eh_V (eh_tI s 129 (eh_ix ((32 * q4) + p1)) p2) (fun s5 => j1 s5) else none)) else (j1 s))
set_option maxHeartbeats 4000000 in
set_option maxRecDepth 100000 in
theorem eS_12_set (g : eh_P) (s : eh_F) (p0 : Int32) (p1 : Int32) (p2 : Int32) : eh_Sim g eM_12_set (eh_R 2 0 0) eh_eV 0 0 0 (eh_en 4 [.ref 127, .int p0, .int p1, .int p2]) [] (eh_FW s) (eF_12_set s p0 p1 p2) := by
  unfold eF_12_set
  refine ef_top (L := [some (.ref 127), some (.int p0), some (.int p1), some (.int p2)]) rfl ?_
  refine es_blk (pc' := 1) (L' := [some (.ref 127), some (.int p0), some (.int p1), some (.int p2)]) (st' := [.int p1]) [(.iload_n 2, 0)] (by decide +kernel) rfl rfl ?_
  refine ef_J (X := fun j1 => ∀ (s2 : eh_F), eh_Sim g eM_12_set (eh_R 2 0 0) eh_eV 0 0 20 [none, none, none, none] [] (eh_FW s2) ((j1 s2).bind some)) ?_ (fun j1 Hj1 => ?_)
  · intro s2
    exact es_ret rfl rfl rfl ⟨by decide +kernel, rfl⟩ (Nat.le_refl _) (Nat.le_refl _)
  refine es_le (tgt := 20) (off := (19)) (by decide +kernel) (by decide) (fun h3 => ?_) (fun h3 => ?_)
  · refine es_blk (pc' := 5) (L' := [some (.ref 127), some (.int p0), some (.int p1), some (.int p2)]) (st' := [.ref 127]) [(.aload_n 0, 0)] (by decide +kernel) rfl rfl ?_
    refine ef_getP (k := 127) (j := 1) (q := 129) rfl eL_12_14 rfl rfl rfl (by decide +kernel) ?_
    refine es_blk (pc' := 12) (L' := [some (.ref 127), some (.int p0), some (.int p1), some (.int p2)]) (st' := [.int p0, .ref 127, .int 32, .ref 129]) [(.bipush 32, 32), (.aload_n 0, 0), (.iload_n 1, 0)] (by decide +kernel) rfl rfl ?_
    refine ef_vpI (d := 1) (k := 127) (As := [.int p0]) (st := [.int 32, .ref 129]) eV_12_who eK_12_401 (eS_12_who g s p0) rfl rfl (Nat.le_of_ble_eq_true rfl) rfl (Nat.le_of_ble_eq_true rfl) ⟨Nat.le_of_ble_eq_true rfl, Nat.le_of_ble_eq_true rfl⟩ ⟨Nat.le_refl _, Nat.le_refl _⟩ (by decide +kernel) (fun q4 _ => ?_)
    refine es_blk (pc' := 19) (L' := [some (.ref 127), some (.int p0), some (.int p1), some (.int p2)]) (st' := [.int p2, .int ((32 * q4) + p1), .ref 129]) [(.imul, 0), (.iload_n 2, 0), (.iadd, 0), (.iload_n 3, 0)] (by decide +kernel) rfl rfl ?_
    refine ef_ast (k := 129) rfl (by decide +kernel) (fun _ => ?_)
    refine ef_V (fun _ => [some (.ref 127), some (.int p0), some (.int p1), some (.int p2)]) (fun _ => []) (fun s5 => eh_FW s5) (fun s5 => ?_)
    refine ef_drop (L2 := [none, none, none, none]) [false, false, false, false] rfl rfl ?_
    exact Hj1 _
  refine ef_drop (L2 := [none, none, none, none]) [false, false, false, false] rfl rfl ?_
  exact Hj1 _
def eF_12_jump (s : eh_F) (p0 : Int32) : Option (eh_F) := eh_J (fun (s2 : eh_F) => some s2) (fun j1 => if (p0 &&& 3) = 0 then (eh_V (eh_tI s 127 85 p0) (fun s4 => j1 s4)) else (Option.bind (eF_12_except s 0 p0) (fun q5 => j1 q5)))
set_option maxHeartbeats 4000000 in
set_option maxRecDepth 100000 in
theorem eS_12_jump (g : eh_P) (s : eh_F) (p0 : Int32) : eh_Sim g eM_12_jump (eh_R 2 0 0) eh_eV 0 0 0 (eh_en 2 [.ref 127, .int p0]) [] (eh_FW s) (eF_12_jump s p0) := by
  unfold eF_12_jump
  refine ef_top (L := [some (.ref 127), some (.int p0)]) rfl ?_
  refine es_blk (pc' := 3) (L' := [some (.ref 127), some (.int p0)]) (st' := [.int (p0 &&& 3)]) [(.iload_n 1, 0), (.iconst 3, 3), (.iand, 0)] (by decide +kernel) rfl rfl ?_
  refine ef_J (X := fun j1 => ∀ (s2 : eh_F), eh_Sim g eM_12_jump (eh_R 2 0 0) eh_eV 0 0 20 [none, none] [] (eh_FW s2) ((j1 s2).bind some)) ?_ (fun j1 Hj1 => ?_)
  · intro s2
    exact es_ret rfl rfl rfl ⟨by decide +kernel, rfl⟩ (Nat.le_refl _) (Nat.le_refl _)
  refine es_eq (tgt := 15) (off := (12)) (by decide +kernel) (by decide) (fun h3 => ?_) (fun h3 => ?_)
  · refine es_blk (pc' := 17) (L' := [some (.ref 127), some (.int p0)]) (st' := [.int p0, .ref 127]) [(.aload_n 0, 0), (.iload_n 1, 0)] (by decide +kernel) rfl rfl ?_
    refine ef_putI (k := 127) (j := 85) rfl eL_12_417 rfl rfl (by decide +kernel) ?_
    refine ef_V (fun _ => [some (.ref 127), some (.int p0)]) (fun _ => []) (fun s4 => eh_FW s4) (fun s4 => ?_)
    refine ef_drop (L2 := [none, none]) [false, false] rfl rfl ?_
    exact Hj1 _
  refine es_blk (pc' := 9) (L' := [some (.ref 127), some (.int p0)]) (st' := [.int p0, .int 0, .ref 127]) [(.aload_n 0, 0), (.iconst 0, 0), (.iload_n 1, 0)] (by decide +kernel) rfl rfl ?_
  refine ef_veV (d := 1) (k := 127) (As := [.int 0, .int p0]) (st := []) eV_12_except eK_12_359 (eS_12_except g s 0 p0) rfl rfl (Nat.le_of_ble_eq_true rfl) rfl (Nat.le_of_ble_eq_true rfl) ⟨Nat.le_of_ble_eq_true rfl, Nat.le_of_ble_eq_true rfl⟩ ⟨Nat.le_refl _, Nat.le_refl _⟩ (by decide +kernel) (fun q5 _ => ?_)
  refine es_goto (tgt := 20) (off := (8)) (by decide +kernel) (by decide) ?_
  refine ef_drop (L2 := [none, none]) [false, false] rfl rfl ?_
  exact Hj1 _
