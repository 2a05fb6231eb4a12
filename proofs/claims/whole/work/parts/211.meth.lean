def eF_4_readControl (s : eh_F) (th : Nat) (p0 : Int32) : Option (Int32) := if p0 = 256 then (some (s.1 th 9)) else if p0 = 260 then (some (s.1 th 10)) else if p0 = 261 then (some (s.1 th 11)) else if p0 = 320 then (some (s.1 th 12)) else if p0 = 321 then (some (s.1 th 13)) else if p0 = 322 then (some (s.1 th 14)) else if p0 = 323 then (some (s.1 th 15)) else if p0 = 324 then (Option.bind (eF_4_pending s th) (fun q10 => some q10)) else if p0 = 333 then (some (s.1 th 17)) else if p0 = 384 then (some (s.1 th 18)) else if p0 = 3073 then (some (s.1 12 0)) else if p0 = 3860 then (some (s.1 th 0)) else (some 0)
set_option maxHeartbeats 4000000 in
set_option maxRecDepth 100000 in
theorem eS_4_readControl (g : eh_P) (s : eh_F) (th : Nat) (p0 : Int32) (hth : eh_okH th = true) : eh_Sim g eM_4_readControl (eh_R 3 0 0) (eh_pI s) 0 0 0 (eh_en 3 [.ref th, .int p0, .ref 12]) [] (eh_FW s) (eF_4_readControl s th p0) := by
  unfold eF_4_readControl
  refine ef_top (L := [some (.ref th), some (.int p0), some (.ref 12)]) rfl ?_
  refine es_blk (pc' := 1) (L' := [some (.ref th), some (.int p0), some (.ref 12)]) (st' := [.int p0]) [(.iload_n 1, 0)] (by decide +kernel) rfl rfl ?_
  have hs1 : decode eM_4_readControl.2.1 1 = .ok (.lookupswitch (168) #[(256, 107), (260, 112), (261, 117), (320, 122), (321, 127), (322, 132), (323, 137), (324, 142), (333, 148), (384, 153), (3073, 158), (3860, 163)], 107) := by decide +kernel
  refine es_ifc (fun h2 => ?_) (fun h2 => ?_)
  · refine es_lsw (off := (107)) (tgt := 108) hs1 256 h2 (by decide) (by decide) (by decide) ?_
    refine es_blk (pc' := 109) (L' := [some (.ref th), some (.int p0), some (.ref 12)]) (st' := [.ref th]) [(.aload_n 0, 0)] (by decide +kernel) rfl rfl ?_
    refine ef_getI (k := th) (j := 9) (eh_H0sh hth) eL_4_47 (by decide) (by decide +kernel) ?_
    exact es_ret rfl rfl rfl ⟨by decide +kernel, _, rfl, rfl⟩ (Nat.le_refl _) (Nat.le_refl _)
  refine es_ifc (fun h3 => ?_) (fun h3 => ?_)
  · refine es_lsw (off := (112)) (tgt := 113) hs1 260 h3 (by decide) (by decide) (by decide) ?_
    refine es_blk (pc' := 114) (L' := [some (.ref th), some (.int p0), some (.ref 12)]) (st' := [.ref th]) [(.aload_n 0, 0)] (by decide +kernel) rfl rfl ?_
    refine ef_getI (k := th) (j := 10) (eh_H0sh hth) eL_4_50 (by decide) (by decide +kernel) ?_
    exact es_ret rfl rfl rfl ⟨by decide +kernel, _, rfl, rfl⟩ (Nat.le_refl _) (Nat.le_refl _)
  refine es_ifc (fun h4 => ?_) (fun h4 => ?_)
  · refine es_lsw (off := (117)) (tgt := 118) hs1 261 h4 (by decide) (by decide) (by decide) ?_
    refine es_blk (pc' := 119) (L' := [some (.ref th), some (.int p0), some (.ref 12)]) (st' := [.ref th]) [(.aload_n 0, 0)] (by decide +kernel) rfl rfl ?_
    refine ef_getI (k := th) (j := 11) (eh_H0sh hth) eL_4_53 (by decide) (by decide +kernel) ?_
    exact es_ret rfl rfl rfl ⟨by decide +kernel, _, rfl, rfl⟩ (Nat.le_refl _) (Nat.le_refl _)
  refine es_ifc (fun h5 => ?_) (fun h5 => ?_)
  · refine es_lsw (off := (122)) (tgt := 123) hs1 320 h5 (by decide) (by decide) (by decide) ?_
    refine es_blk (pc' := 124) (L' := [some (.ref th), some (.int p0), some (.ref 12)]) (st' := [.ref th]) [(.aload_n 0, 0)] (by decide +kernel) rfl rfl ?_
    refine ef_getI (k := th) (j := 12) (eh_H0sh hth) eL_4_56 (by decide) (by decide +kernel) ?_
    exact es_ret rfl rfl rfl ⟨by decide +kernel, _, rfl, rfl⟩ (Nat.le_refl _) (Nat.le_refl _)
  refine es_ifc (fun h6 => ?_) (fun h6 => ?_)
  · refine es_lsw (off := (127)) (tgt := 128) hs1 321 h6 (by decide) (by decide) (by decide) ?_
    refine es_blk (pc' := 129) (L' := [some (.ref th), some (.int p0), some (.ref 12)]) (st' := [.ref th]) [(.aload_n 0, 0)] (by decide +kernel) rfl rfl ?_
    refine ef_getI (k := th) (j := 13) (eh_H0sh hth) eL_4_59 (by decide) (by decide +kernel) ?_
    exact es_ret rfl rfl rfl ⟨by decide +kernel, _, rfl, rfl⟩ (Nat.le_refl _) (Nat.le_refl _)
  refine es_ifc (fun h7 => ?_) (fun h7 => ?_)
  · refine es_lsw (off := (132)) (tgt := 133) hs1 322 h7 (by decide) (by decide) (by decide) ?_
    refine es_blk (pc' := 134) (L' := [some (.ref th), some (.int p0), some (.ref 12)]) (st' := [.ref th]) [(.aload_n 0, 0)] (by decide +kernel) rfl rfl ?_
    refine ef_getI (k := th) (j := 14) (eh_H0sh hth) eL_4_62 (by decide) (by decide +kernel) ?_
    exact es_ret rfl rfl rfl ⟨by decide +kernel, _, rfl, rfl⟩ (Nat.le_refl _) (Nat.le_refl _)
  refine es_ifc (fun h8 => ?_) (fun h8 => ?_)
  · refine es_lsw (off := (137)) (tgt := 138) hs1 323 h8 (by decide) (by decide) (by decide) ?_
    refine es_blk (pc' := 139) (L' := [some (.ref th), some (.int p0), some (.ref 12)]) (st' := [.ref th]) [(.aload_n 0, 0)] (by decide +kernel) rfl rfl ?_
    refine ef_getI (k := th) (j := 15) (eh_H0sh hth) eL_4_65 (by decide) (by decide +kernel) ?_
    exact es_ret rfl rfl rfl ⟨by decide +kernel, _, rfl, rfl⟩ (Nat.le_refl _) (Nat.le_refl _)
  refine es_ifc (fun h9 => ?_) (fun h9 => ?_)
  · refine es_lsw (off := (142)) (tgt := 143) hs1 324 h9 (by decide) (by decide) (by decide) ?_
    refine es_blk (pc' := 145) (L' := [some (.ref th), some (.int p0), some (.ref 12)]) (st' := [.ref 12, .ref th]) [(.aload_n 0, 0), (.aload_n 2, 0)] (by decide +kernel) rfl rfl ?_
    refine ef_vpI (d := 2) (k := th) (As := [.ref 12]) (st := []) eV_4_pending eK_4_90 (eS_4_pending g s th hth) (eh_H0sh hth) rfl (Nat.le_of_ble_eq_true rfl) rfl (Nat.le_of_ble_eq_true rfl) ⟨Nat.le_of_ble_eq_true rfl, Nat.le_of_ble_eq_true rfl⟩ ⟨Nat.le_refl _, Nat.le_refl _⟩ (by decide +kernel) (fun q10 _ => ?_)
    exact es_ret rfl rfl rfl ⟨by decide +kernel, _, rfl, rfl⟩ (Nat.le_refl _) (Nat.le_refl _)
  refine es_ifc (fun h11 => ?_) (fun h11 => ?_)
  · refine es_lsw (off := (148)) (tgt := 149) hs1 333 h11 (by decide) (by decide) (by decide) ?_
    refine es_blk (pc' := 150) (L' := [some (.ref th), some (.int p0), some (.ref 12)]) (st' := [.ref th]) [(.aload_n 0, 0)] (by decide +kernel) rfl rfl ?_
    refine ef_getI (k := th) (j := 17) (eh_H0sh hth) eL_4_71 (by decide) (by decide +kernel) ?_
    exact es_ret rfl rfl rfl ⟨by decide +kernel, _, rfl, rfl⟩ (Nat.le_refl _) (Nat.le_refl _)
  refine es_ifc (fun h12 => ?_) (fun h12 => ?_)
  · refine es_lsw (off := (153)) (tgt := 154) hs1 384 h12 (by decide) (by decide) (by decide) ?_
    refine es_blk (pc' := 155) (L' := [some (.ref th), some (.int p0), some (.ref 12)]) (st' := [.ref th]) [(.aload_n 0, 0)] (by decide +kernel) rfl rfl ?_
    refine ef_getI (k := th) (j := 18) (eh_H0sh hth) eL_4_74 (by decide) (by decide +kernel) ?_
    exact es_ret rfl rfl rfl ⟨by decide +kernel, _, rfl, rfl⟩ (Nat.le_refl _) (Nat.le_refl _)
  refine es_ifc (fun h13 => ?_) (fun h13 => ?_)
  · refine es_lsw (off := (158)) (tgt := 159) hs1 3073 h13 (by decide) (by decide) (by decide) ?_
    refine es_blk (pc' := 160) (L' := [some (.ref th), some (.int p0), some (.ref 12)]) (st' := [.ref 12]) [(.aload_n 2, 0)] (by decide +kernel) rfl rfl ?_
    refine ef_getI (k := 12) (j := 0) rfl eL_4_77 (by decide) (by decide +kernel) ?_
    exact es_ret rfl rfl rfl ⟨by decide +kernel, _, rfl, rfl⟩ (Nat.le_refl _) (Nat.le_refl _)
  refine es_ifc (fun h14 => ?_) (fun h14 => ?_)
  · refine es_lsw (off := (163)) (tgt := 164) hs1 3860 h14 (by decide) (by decide) (by decide) ?_
    refine es_blk (pc' := 165) (L' := [some (.ref th), some (.int p0), some (.ref 12)]) (st' := [.ref th]) [(.aload_n 0, 0)] (by decide +kernel) rfl rfl ?_
    refine ef_getI (k := th) (j := 0) (eh_H0sh hth) eL_4_15 (by decide) (by decide +kernel) ?_
    exact es_ret rfl rfl rfl ⟨by decide +kernel, _, rfl, rfl⟩ (Nat.le_refl _) (Nat.le_refl _)
  refine es_lswD (tgt := 169) hs1 [256, 260, 261, 320, 321, 322, 323, 324, 333, 384, 3073, 3860] (List.forall_mem_cons.mpr ⟨eh_nei 256 256 (by decide) h2, (List.forall_mem_cons.mpr ⟨eh_nei 260 260 (by decide) h3, (List.forall_mem_cons.mpr ⟨eh_nei 261 261 (by decide) h4, (List.forall_mem_cons.mpr ⟨eh_nei 320 320 (by decide) h5, (List.forall_mem_cons.mpr ⟨eh_nei 321 321 (by decide) h6, (List.forall_mem_cons.mpr ⟨eh_nei 322 322 (by decide) h7, (List.forall_mem_cons.mpr ⟨eh_nei 323 323 (by decide) h8, (List.forall_mem_cons.mpr ⟨eh_nei 324 324 (by decide) h9, (List.forall_mem_cons.mpr ⟨eh_nei 333 333 (by decide) h11, (List.forall_mem_cons.mpr ⟨eh_nei 384 384 (by decide) h12, (List.forall_mem_cons.mpr ⟨eh_nei 3073 3073 (by decide) h13, (List.forall_mem_cons.mpr ⟨eh_nei 3860 3860 (by decide) h14, (List.forall_mem_nil _)⟩)⟩)⟩)⟩)⟩)⟩)⟩)⟩)⟩)⟩)⟩)⟩) (by decide) (by decide) (by decide) ?_
  refine es_blk (pc' := 170) (L' := [some (.ref th), some (.int p0), some (.ref 12)]) (st' := [.int 0]) [(.iconst 0, 0)] (by decide +kernel) rfl rfl ?_
  exact es_ret rfl rfl rfl ⟨by decide +kernel, _, rfl, rfl⟩ (Nat.le_refl _) (Nat.le_refl _)
def eF_5_storeFor (s : eh_F) (p0 : Nat) (p1 : Int32) (p2 : Int32) (p3 : Int32) : Option (eh_F) := Option.bind (eF_6_store s p1 p2 p3) (fun q1 => Option.bind (eF_6_tellsOfStores q1 p1) (fun q2 => eh_J (fun (s4 : eh_F) => some s4) (fun j3 => if q2 = 0 then (j3 q1) else (eh_J (fun (a7 : Int32) => Option.bind (eF_5_note q1 4 p0 p1 a7 p3) (fun q8 => j3 q8)) (fun j6 => if p3 = 4 then (j6 p2) else (eh_J (fun (a11 : Int32) => j6 (p2 &&& a11)) (fun j10 => if p3 = 2 then (j10 65535) else (j10 255))))))))
set_option maxHeartbeats 4000000 in
set_option maxRecDepth 100000 in
theorem eS_5_storeFor (g : eh_P) (s : eh_F) (p0 : Nat) (p1 : Int32) (p2 : Int32) (p3 : Int32) (hp0 : eh_okF p0 = true) : eh_Sim g eM_5_storeFor (eh_R 3 0 0) eh_eV 0 0 0 (eh_en 6 [.ref 1, .ref p0, .int p1, .int p2, .int p3]) [] (eh_FW s) (eF_5_storeFor s p0 p1 p2 p3) := by
  unfold eF_5_storeFor
  refine ef_top (L := [some (.ref 1), some (.ref p0), some (.int p1), some (.int p2), some (.int p3), none]) rfl ?_
  refine es_blk (pc' := 1) (L' := [some (.ref 1), some (.ref p0), some (.int p1), some (.int p2), some (.int p3), none]) (st' := [.ref 1]) [(.aload_n 0, 0)] (by decide +kernel) rfl rfl ?_
  refine ef_getP (k := 1) (j := 0) (q := 2) rfl eL_5_12 rfl rfl rfl (by decide +kernel) ?_
  refine es_blk (pc' := 8) (L' := [some (.ref 1), some (.ref p0), some (.int p1), some (.int p2), some (.int p3), none]) (st' := [.int p3, .int p2, .int p1, .ref 2]) [(.iload_n 2, 0), (.iload_n 3, 0), (.iload 4, 0)] (by decide +kernel) rfl rfl ?_
  refine ef_veV (d := 2) (k := 2) (As := [.int p1, .int p2, .int p3]) (st := []) eV_6_store eK_5_173 (eS_6_store g s p1 p2 p3) rfl rfl (Nat.le_of_ble_eq_true rfl) rfl (Nat.le_of_ble_eq_true rfl) ⟨Nat.le_of_ble_eq_true rfl, Nat.le_of_ble_eq_true rfl⟩ ⟨Nat.le_refl _, Nat.le_refl _⟩ (by decide +kernel) (fun q1 _ => ?_)
  refine es_blk (pc' := 12) (L' := [some (.ref 1), some (.ref p0), some (.int p1), some (.int p2), some (.int p3), none]) (st' := [.ref 1]) [(.aload_n 0, 0)] (by decide +kernel) rfl rfl ?_
  refine ef_getP (k := 1) (j := 0) (q := 2) rfl eL_5_12 rfl rfl rfl (by decide +kernel) ?_
  refine es_blk (pc' := 16) (L' := [some (.ref 1), some (.ref p0), some (.int p1), some (.int p2), some (.int p3), none]) (st' := [.int p1, .ref 2]) [(.iload_n 2, 0)] (by decide +kernel) rfl rfl ?_
  refine ef_vpI (d := 1) (k := 2) (As := [.int p1]) (st := []) eV_6_tellsOfStores eK_5_177 (eS_6_tellsOfStores g q1 p1) rfl rfl (Nat.le_of_ble_eq_true rfl) rfl (Nat.le_of_ble_eq_true rfl) ⟨Nat.le_of_ble_eq_true rfl, Nat.le_of_ble_eq_true rfl⟩ ⟨Nat.le_refl _, Nat.le_refl _⟩ (by decide +kernel) (fun q2 _ => ?_)
  refine ef_J (X := fun j3 => ∀ (s4 : eh_F), eh_Sim g eM_5_storeFor (eh_R 3 0 0) eh_eV 0 0 61 [none, none, none, none, none, none] [] (eh_FW s4) ((j3 s4).bind some)) ?_ (fun j3 Hj3 => ?_)
  · intro s4
    exact es_ret rfl rfl rfl ⟨by decide +kernel, rfl⟩ (Nat.le_refl _) (Nat.le_refl _)
  refine es_eq (tgt := 61) (off := (42)) (by decide +kernel) (by decide) (fun h5 => ?_) (fun h5 => ?_)
  · refine ef_drop (L2 := [none, none, none, none, none, none]) [false, false, false, false, false, true] rfl rfl ?_
    exact Hj3 _
  refine es_blk (pc' := 25) (L' := [some (.ref 1), some (.ref p0), some (.int p1), some (.int p2), some (.int p3), none]) (st' := [.int 4, .int p3]) [(.iload 4, 0), (.iconst 4, 4)] (by decide +kernel) rfl rfl ?_
  refine ef_J (X := fun j6 => ∀ (a7 : Int32), eh_Sim g eM_5_storeFor (eh_R 3 0 0) eh_eV 0 0 48 [some (.ref 1), some (.ref p0), some (.int p1), none, some (.int p3), none] [.int a7] (eh_FW q1) ((j6 a7).bind some)) ?_ (fun j6 Hj6 => ?_)
  · intro a7
    refine es_blk (pc' := 58) (L' := [some (.ref 1), some (.ref p0), some (.int p1), none, some (.int p3), some (.int a7)]) (st' := [.int p3, .int a7, .int p1, .ref p0, .int 4, .ref 1]) [(.istore 5, 0), (.aload_n 0, 0), (.iconst 4, 4), (.aload_n 1, 0), (.iload_n 2, 0), (.iload 5, 0), (.iload 4, 0)] (by decide +kernel) rfl rfl ?_
    refine ef_veV (d := 1) (k := 1) (As := [.int 4, .ref p0, .int p1, .int a7, .int p3]) (st := []) eV_5_note eK_5_182 (eS_5_note g q1 4 p0 p1 a7 p3 hp0) rfl rfl (Nat.le_of_ble_eq_true rfl) rfl (Nat.le_of_ble_eq_true rfl) ⟨Nat.le_of_ble_eq_true rfl, Nat.le_of_ble_eq_true rfl⟩ ⟨Nat.le_refl _, Nat.le_refl _⟩ (by decide +kernel) (fun q8 _ => ?_)
    refine ef_drop (L2 := [none, none, none, none, none, none]) [false, false, false, true, false, false] rfl rfl ?_
    exact Hj3 _
  refine es_ine (tgt := 32) (off := (7)) (by decide +kernel) (by decide) (fun h9 => ?_) (fun h9 => ?_)
  · refine es_blk (pc' := 29) (L' := [some (.ref 1), some (.ref p0), some (.int p1), some (.int p2), some (.int p3), none]) (st' := [.int p2]) [(.iload_n 3, 0)] (by decide +kernel) rfl rfl ?_
    refine es_goto (tgt := 48) (off := (19)) (by decide +kernel) (by decide) ?_
    refine ef_drop (L2 := [some (.ref 1), some (.ref p0), some (.int p1), none, some (.int p3), none]) [true, true, true, false, true, true] rfl rfl ?_
    exact Hj6 _
  refine es_blk (pc' := 36) (L' := [some (.ref 1), some (.ref p0), some (.int p1), some (.int p2), some (.int p3), none]) (st' := [.int 2, .int p3, .int p2]) [(.iload_n 3, 0), (.iload 4, 0), (.iconst 2, 2)] (by decide +kernel) rfl rfl ?_
  refine ef_J (X := fun j10 => ∀ (a11 : Int32), eh_Sim g eM_5_storeFor (eh_R 3 0 0) eh_eV 0 0 47 [some (.ref 1), some (.ref p0), some (.int p1), none, some (.int p3), none] [.int a11, .int p2] (eh_FW q1) ((j10 a11).bind some)) ?_ (fun j10 Hj10 => ?_)
  · intro a11
    refine es_blk (pc' := 48) (L' := [some (.ref 1), some (.ref p0), some (.int p1), none, some (.int p3), none]) (st' := [.int (p2 &&& a11)]) [(.iand, 0)] (by decide +kernel) rfl rfl ?_
    exact Hj6 _
  refine es_ine (tgt := 44) (off := (8)) (by decide +kernel) (by decide) (fun h12 => ?_) (fun h12 => ?_)
  · refine es_ldc (v := 65535) eC_5_181 (by decide +kernel) ?_
    refine es_goto (tgt := 47) (off := (6)) (by decide +kernel) (by decide) ?_
    refine ef_drop (L2 := [some (.ref 1), some (.ref p0), some (.int p1), none, some (.int p3), none]) [true, true, true, false, true, true] rfl rfl ?_
    exact Hj10 _
  refine es_blk (pc' := 47) (L' := [some (.ref 1), some (.ref p0), some (.int p1), some (.int p2), some (.int p3), none]) (st' := [.int 255, .int p2]) [(.sipush 255, 255)] (by decide +kernel) rfl rfl ?_
  refine ef_drop (L2 := [some (.ref 1), some (.ref p0), some (.int p1), none, some (.int p3), none]) [true, true, true, false, true, true] rfl rfl ?_
  exact Hj10 _
def eF_5_survey (s : eh_F)  : Option (Int64) := Option.bind (eF_6_mixWords s 1) (fun q1 => Option.bind (eh_loop (fun (r36 : (Int64 × Int32) → Option (Int64)) (t2 : Int64 × Int32) => if t2.2 < 2 then (if eh_in t2.2 2 then Option.bind (eF_4_mixAll s (eh_hp t2.2) t2.1) (fun q39 => eh_V ((t2.2 + 1) : Int32) (fun x40 => r36 (q39, x40))) else none) else (some t2.1)) eh_FU (q1, 0)) (fun (e3 : Int64) => Option.bind (eF_5_mix s e3 (s.1 12 0)) (fun q4 => Option.bind (eF_6_mixRegions s q4) (fun q5 => Option.bind (eh_loop (fun (r28 : (Int64 × Int32) → Option (Int64)) (t6 : Int64 × Int32) => if t6.2 < 6 then (if eh_in t6.2 6 then Option.bind (eF_5_mix s t6.1 (s.1 (eh_ep t6.2) 5)) (fun q31 => if eh_in t6.2 6 then Option.bind (eF_5_mix s q31 (s.1 (eh_ep t6.2) 8)) (fun q33 => eh_V ((t6.2 + 1) : Int32) (fun x34 => r28 (q33, x34))) else none) else none) else (some t6.1)) eh_FU (q5, 0)) (fun (e7 : Int64) => Option.bind (eh_loop (fun (r22 : (Int64 × Int32) → Option (Int64)) (t8 : Int64 × Int32) => if t8.2 < 12 then (if eh_in t8.2 12 then Option.bind (eF_5_mix s t8.1 (s.1 (eh_fp t8.2) 6)) (fun q25 => eh_V ((t8.2 + 1) : Int32) (fun x26 => r22 (q25, x26))) else none) else (some t8.1)) eh_FU (e7, 0)) (fun (e9 : Int64) => Option.bind (eF_8_mixAll s 18 e9) (fun q10 => Option.bind (eF_0_mixDisk s q10) (fun q11 => Option.bind (eF_5_mix s q11 (s.1 12 7)) (fun q12 => Option.bind (eF_5_mix s q12 (s.1 12 8)) (fun q13 => Option.bind (eF_5_mix s q13 (s.1 12 9)) (fun q14 => Option.bind (eF_5_mix s q14 (s.1 12 14)) (fun q15 => Option.bind (eF_8_mixAll s 20 q15) (fun q16 => eh_J (fun (a18 : Int32) => Option.bind (eF_5_mix s q16 a18) (fun q19 => some q19)) (fun j17 => if (s.1 1 10) = 0 then (j17 0) else (j17 1)))))))))))))))
set_option maxHeartbeats 4000000 in
set_option maxRecDepth 100000 in
theorem eS_5_survey (g : eh_P) (s : eh_F)  : eh_Sim g eM_5_survey (eh_R 3 0 0) (eh_pL s) 0 0 0 (eh_en 4 [.ref 1]) [] (eh_FW s) (eF_5_survey s) := by
  unfold eF_5_survey
  refine ef_top (L := [some (.ref 1), none, none, none]) rfl ?_
  refine es_blk (pc' := 1) (L' := [some (.ref 1), none, none, none]) (st' := [.ref 1]) [(.aload_n 0, 0)] (by decide +kernel) rfl rfl ?_
  refine ef_getP (k := 1) (j := 0) (q := 2) rfl eL_5_12 rfl rfl rfl (by decide +kernel) ?_
  refine es_blk (pc' := 5) (L' := [some (.ref 1), none, none, none]) (st' := [.long 1, .ref 2]) [(.lconst 1, 0)] (by decide +kernel) rfl rfl ?_
  refine ef_vpL (d := 2) (k := 2) (As := [.long 1]) (st := []) eV_6_mixWords eK_5_204 (eS_6_mixWords g s 1) rfl rfl (Nat.le_of_ble_eq_true rfl) rfl (Nat.le_of_ble_eq_true rfl) ⟨Nat.le_of_ble_eq_true rfl, Nat.le_of_ble_eq_true rfl⟩ ⟨Nat.le_refl _, Nat.le_refl _⟩ (by decide +kernel) (fun q1 _ => ?_)
  refine es_blk (pc' := 11) (L' := [some (.ref 1), some (.long q1), none, some (.int 0)]) (st' := []) [(.lstore_n 1, 0), (.iconst 0, 0), (.istore_n 3, 0)] (by decide +kernel) rfl rfl ?_
  refine ef_loop1 (n := eh_FU) (i := (q1, 0)) (px := 33) (fun (t2 : Int64 × Int32) => [some (.ref 1), some (.long t2.1), none, some (.int t2.2)]) (fun (t2 : Int64 × Int32) => []) (fun (t2 : Int64 × Int32) => eh_FW s) (fun (e3 : Int64) => [some (.ref 1), some (.long e3), none, none]) (fun (e3 : Int64) => []) (fun (e3 : Int64) => eh_FW s) (fun e3 => ?_) (fun K35 HxK35_0 r36 Hr36 t2 => ?_)
  · refine es_blk (pc' := 35) (L' := [some (.ref 1), some (.long e3), none, none]) (st' := [.ref 1, .long e3]) [(.lload_n 1, 0), (.aload_n 0, 0)] (by decide +kernel) rfl rfl ?_
    refine ef_getP (k := 1) (j := 1) (q := 12) rfl eL_5_21 rfl rfl rfl (by decide +kernel) ?_
    refine ef_getI (k := 12) (j := 0) rfl eL_5_167 (by decide) (by decide +kernel) ?_
    refine ef_spL (d := 1) (As := [.long e3, .int (s.1 12 0)]) (st := []) eV_5_mix eK_5_211 (eS_5_mix g s e3 (s.1 12 0)) rfl (Nat.le_of_ble_eq_true rfl) rfl (Nat.le_of_ble_eq_true rfl) ⟨Nat.le_of_ble_eq_true rfl, Nat.le_of_ble_eq_true rfl⟩ ⟨Nat.le_refl _, Nat.le_refl _⟩ (by decide +kernel) (fun q4 _ => ?_)
    refine es_blk (pc' := 46) (L' := [some (.ref 1), some (.long q4), none, none]) (st' := [.ref 1]) [(.lstore_n 1, 0), (.aload_n 0, 0)] (by decide +kernel) rfl rfl ?_
    refine ef_getP (k := 1) (j := 0) (q := 2) rfl eL_5_12 rfl rfl rfl (by decide +kernel) ?_
    refine es_blk (pc' := 50) (L' := [some (.ref 1), some (.long q4), none, none]) (st' := [.long q4, .ref 2]) [(.lload_n 1, 0)] (by decide +kernel) rfl rfl ?_
    refine ef_vpL (d := 2) (k := 2) (As := [.long q4]) (st := []) eV_6_mixRegions eK_5_215 (eS_6_mixRegions g s q4) rfl rfl (Nat.le_of_ble_eq_true rfl) rfl (Nat.le_of_ble_eq_true rfl) ⟨Nat.le_of_ble_eq_true rfl, Nat.le_of_ble_eq_true rfl⟩ ⟨Nat.le_refl _, Nat.le_refl _⟩ (by decide +kernel) (fun q5 _ => ?_)
    refine es_blk (pc' := 56) (L' := [some (.ref 1), some (.long q5), none, some (.int 0)]) (st' := []) [(.lstore_n 1, 0), (.iconst 0, 0), (.istore_n 3, 0)] (by decide +kernel) rfl rfl ?_
    refine ef_loop1 (n := eh_FU) (i := (q5, 0)) (px := 94) (fun (t6 : Int64 × Int32) => [some (.ref 1), some (.long t6.1), none, some (.int t6.2)]) (fun (t6 : Int64 × Int32) => []) (fun (t6 : Int64 × Int32) => eh_FW s) (fun (e7 : Int64) => [some (.ref 1), some (.long e7), none, none]) (fun (e7 : Int64) => []) (fun (e7 : Int64) => eh_FW s) (fun e7 => ?_) (fun K27 HxK27_0 r28 Hr28 t6 => ?_)
    · refine es_blk (pc' := 96) (L' := [some (.ref 1), some (.long e7), none, some (.int 0)]) (st' := []) [(.iconst 0, 0), (.istore_n 3, 0)] (by decide +kernel) rfl rfl ?_
      refine ef_loop1 (n := eh_FU) (i := (e7, 0)) (px := 122) (fun (t8 : Int64 × Int32) => [some (.ref 1), some (.long t8.1), none, some (.int t8.2)]) (fun (t8 : Int64 × Int32) => []) (fun (t8 : Int64 × Int32) => eh_FW s) (fun (e9 : Int64) => [some (.ref 1), some (.long e9), none, none]) (fun (e9 : Int64) => []) (fun (e9 : Int64) => eh_FW s) (fun e9 => ?_) (fun K21 HxK21_0 r22 Hr22 t8 => ?_)
      · refine es_blk (pc' := 123) (L' := [some (.ref 1), some (.long e9), none, none]) (st' := [.ref 1]) [(.aload_n 0, 0)] (by decide +kernel) rfl rfl ?_
        refine ef_getP (k := 1) (j := 1) (q := 12) rfl eL_5_21 rfl rfl rfl (by decide +kernel) ?_
        refine ef_getP (k := 12) (j := 10) (q := 18) rfl eL_5_218 rfl rfl rfl (by decide +kernel) ?_
        refine es_blk (pc' := 130) (L' := [some (.ref 1), some (.long e9), none, none]) (st' := [.long e9, .ref 18]) [(.lload_n 1, 0)] (by decide +kernel) rfl rfl ?_
        refine ef_vpL (d := 2) (k := 18) (As := [.long e9]) (st := []) eV_8_mixAll eK_5_222 (eS_8_mixAll g s 18 e9 rfl) rfl rfl (Nat.le_of_ble_eq_true rfl) rfl (Nat.le_of_ble_eq_true rfl) ⟨Nat.le_of_ble_eq_true rfl, Nat.le_of_ble_eq_true rfl⟩ ⟨Nat.le_refl _, Nat.le_refl _⟩ (by decide +kernel) (fun q10 _ => ?_)
        refine es_blk (pc' := 135) (L' := [some (.ref 1), some (.long q10), none, none]) (st' := [.ref 1]) [(.lstore_n 1, 0), (.aload_n 0, 0)] (by decide +kernel) rfl rfl ?_
        refine ef_getP (k := 1) (j := 1) (q := 12) rfl eL_5_21 rfl rfl rfl (by decide +kernel) ?_
        refine es_blk (pc' := 139) (L' := [some (.ref 1), some (.long q10), none, none]) (st' := [.long q10, .ref 12]) [(.lload_n 1, 0)] (by decide +kernel) rfl rfl ?_
        refine ef_vpL (d := 2) (k := 12) (As := [.long q10]) (st := []) eV_0_mixDisk eK_5_225 (eS_0_mixDisk g s q10) rfl rfl (Nat.le_of_ble_eq_true rfl) rfl (Nat.le_of_ble_eq_true rfl) ⟨Nat.le_of_ble_eq_true rfl, Nat.le_of_ble_eq_true rfl⟩ ⟨Nat.le_refl _, Nat.le_refl _⟩ (by decide +kernel) (fun q11 _ => ?_)
        refine es_blk (pc' := 145) (L' := [some (.ref 1), some (.long q11), none, none]) (st' := [.ref 1, .long q11]) [(.lstore_n 1, 0), (.lload_n 1, 0), (.aload_n 0, 0)] (by decide +kernel) rfl rfl ?_
        refine ef_getP (k := 1) (j := 1) (q := 12) rfl eL_5_21 rfl rfl rfl (by decide +kernel) ?_
        refine ef_getI (k := 12) (j := 7) rfl eL_5_228 (by decide) (by decide +kernel) ?_
        refine ef_spL (d := 1) (As := [.long q11, .int (s.1 12 7)]) (st := []) eV_5_mix eK_5_211 (eS_5_mix g s q11 (s.1 12 7)) rfl (Nat.le_of_ble_eq_true rfl) rfl (Nat.le_of_ble_eq_true rfl) ⟨Nat.le_of_ble_eq_true rfl, Nat.le_of_ble_eq_true rfl⟩ ⟨Nat.le_refl _, Nat.le_refl _⟩ (by decide +kernel) (fun q12 _ => ?_)
        refine es_blk (pc' := 155) (L' := [some (.ref 1), some (.long q11), none, none]) (st' := [.ref 1, .long q12]) [(.aload_n 0, 0)] (by decide +kernel) rfl rfl ?_
        refine ef_getP (k := 1) (j := 1) (q := 12) rfl eL_5_21 rfl rfl rfl (by decide +kernel) ?_
        refine ef_getI (k := 12) (j := 8) rfl eL_5_231 (by decide) (by decide +kernel) ?_
        refine ef_spL (d := 1) (As := [.long q12, .int (s.1 12 8)]) (st := []) eV_5_mix eK_5_211 (eS_5_mix g s q12 (s.1 12 8)) rfl (Nat.le_of_ble_eq_true rfl) rfl (Nat.le_of_ble_eq_true rfl) ⟨Nat.le_of_ble_eq_true rfl, Nat.le_of_ble_eq_true rfl⟩ ⟨Nat.le_refl _, Nat.le_refl _⟩ (by decide +kernel) (fun q13 _ => ?_)
        refine es_blk (pc' := 165) (L' := [some (.ref 1), some (.long q11), none, none]) (st' := [.ref 1, .long q13]) [(.aload_n 0, 0)] (by decide +kernel) rfl rfl ?_
        refine ef_getP (k := 1) (j := 1) (q := 12) rfl eL_5_21 rfl rfl rfl (by decide +kernel) ?_
        refine ef_getI (k := 12) (j := 9) rfl eL_5_234 (by decide) (by decide +kernel) ?_
        refine ef_spL (d := 1) (As := [.long q13, .int (s.1 12 9)]) (st := []) eV_5_mix eK_5_211 (eS_5_mix g s q13 (s.1 12 9)) rfl (Nat.le_of_ble_eq_true rfl) rfl (Nat.le_of_ble_eq_true rfl) ⟨Nat.le_of_ble_eq_true rfl, Nat.le_of_ble_eq_true rfl⟩ ⟨Nat.le_refl _, Nat.le_refl _⟩ (by decide +kernel) (fun q14 _ => ?_)
        refine es_blk (pc' := 177) (L' := [some (.ref 1), some (.long q14), none, none]) (st' := [.ref 1, .long q14]) [(.lstore_n 1, 0), (.lload_n 1, 0), (.aload_n 0, 0)] (by decide +kernel) rfl rfl ?_
        refine ef_getP (k := 1) (j := 1) (q := 12) rfl eL_5_21 rfl rfl rfl (by decide +kernel) ?_
        refine ef_getI (k := 12) (j := 14) rfl eL_5_237 (by decide) (by decide +kernel) ?_
        refine ef_spL (d := 1) (As := [.long q14, .int (s.1 12 14)]) (st := []) eV_5_mix eK_5_211 (eS_5_mix g s q14 (s.1 12 14)) rfl (Nat.le_of_ble_eq_true rfl) rfl (Nat.le_of_ble_eq_true rfl) ⟨Nat.le_of_ble_eq_true rfl, Nat.le_of_ble_eq_true rfl⟩ ⟨Nat.le_refl _, Nat.le_refl _⟩ (by decide +kernel) (fun q15 _ => ?_)
        refine es_blk (pc' := 188) (L' := [some (.ref 1), some (.long q15), none, none]) (st' := [.ref 1]) [(.lstore_n 1, 0), (.aload_n 0, 0)] (by decide +kernel) rfl rfl ?_
        refine ef_getP (k := 1) (j := 1) (q := 12) rfl eL_5_21 rfl rfl rfl (by decide +kernel) ?_
        refine ef_getP (k := 12) (j := 11) (q := 20) rfl eL_5_240 rfl rfl rfl (by decide +kernel) ?_
        refine es_blk (pc' := 195) (L' := [some (.ref 1), some (.long q15), none, none]) (st' := [.long q15, .ref 20]) [(.lload_n 1, 0)] (by decide +kernel) rfl rfl ?_
        refine ef_vpL (d := 2) (k := 20) (As := [.long q15]) (st := []) eV_8_mixAll eK_5_222 (eS_8_mixAll g s 20 q15 rfl) rfl rfl (Nat.le_of_ble_eq_true rfl) rfl (Nat.le_of_ble_eq_true rfl) ⟨Nat.le_of_ble_eq_true rfl, Nat.le_of_ble_eq_true rfl⟩ ⟨Nat.le_refl _, Nat.le_refl _⟩ (by decide +kernel) (fun q16 _ => ?_)
        refine es_blk (pc' := 201) (L' := [some (.ref 1), some (.long q16), none, none]) (st' := [.ref 1, .long q16]) [(.lstore_n 1, 0), (.lload_n 1, 0), (.aload_n 0, 0)] (by decide +kernel) rfl rfl ?_
        refine ef_getI (k := 1) (j := 10) rfl eL_5_113 (by decide) (by decide +kernel) ?_
        refine ef_J (X := fun j17 => ∀ (a18 : Int32), eh_Sim g eM_5_survey (eh_R 3 0 0) (eh_pL s) 0 0 212 [none, none, none, none] [.int a18, .long q16] (eh_FW s) ((j17 a18).bind some)) ?_ (fun j17 Hj17 => ?_)
        · intro a18
          refine ef_spL (d := 1) (As := [.long q16, .int a18]) (st := []) eV_5_mix eK_5_211 (eS_5_mix g s q16 a18) rfl (Nat.le_of_ble_eq_true rfl) rfl (Nat.le_of_ble_eq_true rfl) ⟨Nat.le_of_ble_eq_true rfl, Nat.le_of_ble_eq_true rfl⟩ ⟨Nat.le_refl _, Nat.le_refl _⟩ (by decide +kernel) (fun q19 _ => ?_)
          exact es_ret rfl rfl rfl ⟨by decide +kernel, rfl⟩ (Nat.le_refl _) (Nat.le_refl _)
        refine es_eq (tgt := 211) (off := (7)) (by decide +kernel) (by decide) (fun h20 => ?_) (fun h20 => ?_)
        · refine es_blk (pc' := 212) (L' := [some (.ref 1), some (.long q16), none, none]) (st' := [.int 0, .long q16]) [(.iconst 0, 0)] (by decide +kernel) rfl rfl ?_
          refine ef_drop (L2 := [none, none, none, none]) [false, false, true, true] rfl rfl ?_
          exact Hj17 _
        refine es_blk (pc' := 208) (L' := [some (.ref 1), some (.long q16), none, none]) (st' := [.int 1, .long q16]) [(.iconst 1, 1)] (by decide +kernel) rfl rfl ?_
        refine es_goto (tgt := 212) (off := (4)) (by decide +kernel) (by decide) ?_
        refine ef_drop (L2 := [none, none, none, none]) [false, false, true, true] rfl rfl ?_
        exact Hj17 _
      · refine es_blk (pc' := 99) (L' := [some (.ref 1), some (.long t8.1), none, some (.int t8.2)]) (st' := [.int 12, .int t8.2]) [(.iload_n 3, 0), (.bipush 12, 12)] (by decide +kernel) rfl rfl ?_
        refine es_ige (tgt := 122) (off := (23)) (by decide +kernel) (by decide) (fun h23 => ?_) (fun h23 => ?_)
        · refine es_blk (pc' := 104) (L' := [some (.ref 1), some (.long t8.1), none, some (.int t8.2)]) (st' := [.ref 1, .long t8.1]) [(.lload_n 1, 0), (.aload_n 0, 0)] (by decide +kernel) rfl rfl ?_
          refine ef_getP (k := 1) (j := 3) (q := 27) rfl eL_5_33 rfl rfl rfl (by decide +kernel) ?_
          refine es_blk (pc' := 108) (L' := [some (.ref 1), some (.long t8.1), none, some (.int t8.2)]) (st' := [.int t8.2, .ref 27, .long t8.1]) [(.iload_n 3, 0)] (by decide +kernel) rfl rfl ?_
          refine ef_fibres (by decide +kernel) (fun h24 => ?_)
          refine ef_getI (k := (eh_fp t8.2)) (j := 6) (eh_F0sh h24) eL_5_99 (by decide) (by decide +kernel) ?_
          refine ef_spL (d := 1) (As := [.long t8.1, .int (s.1 (eh_fp t8.2) 6)]) (st := []) eV_5_mix eK_5_211 (eS_5_mix g s t8.1 (s.1 (eh_fp t8.2) 6)) rfl (Nat.le_of_ble_eq_true rfl) rfl (Nat.le_of_ble_eq_true rfl) ⟨Nat.le_of_ble_eq_true rfl, Nat.le_of_ble_eq_true rfl⟩ ⟨Nat.le_refl _, Nat.le_refl _⟩ (by decide +kernel) (fun q25 _ => ?_)
          refine es_blk (pc' := 119) (L' := [some (.ref 1), some (.long q25), none, some (.int (t8.2 + 1))]) (st' := []) [(.lstore_n 1, 0), (.iinc 3 1, 1)] (by decide +kernel) rfl rfl ?_
          refine ef_V (fun x26 => [some (.ref 1), some (.long q25), none, some (.int x26)]) (fun _ => []) (fun _ => eh_FW s) (fun x26 => ?_)
          refine es_goto (tgt := 96) (off := (-23)) (by decide +kernel) (by decide) ?_
          exact Hr22 (q25, x26)
        refine ef_drop (L2 := [some (.ref 1), some (.long t8.1), none, none]) [true, true, true, false] rfl rfl ?_
        exact HxK21_0 t8.1
    · refine es_blk (pc' := 59) (L' := [some (.ref 1), some (.long t6.1), none, some (.int t6.2)]) (st' := [.int 6, .int t6.2]) [(.iload_n 3, 0), (.bipush 6, 6)] (by decide +kernel) rfl rfl ?_
      refine es_ige (tgt := 94) (off := (35)) (by decide +kernel) (by decide) (fun h29 => ?_) (fun h29 => ?_)
      · refine es_blk (pc' := 64) (L' := [some (.ref 1), some (.long t6.1), none, some (.int t6.2)]) (st' := [.ref 1, .long t6.1]) [(.lload_n 1, 0), (.aload_n 0, 0)] (by decide +kernel) rfl rfl ?_
        refine ef_getP (k := 1) (j := 4) (q := 28) rfl eL_5_39 rfl rfl rfl (by decide +kernel) ?_
        refine es_blk (pc' := 68) (L' := [some (.ref 1), some (.long t6.1), none, some (.int t6.2)]) (st' := [.int t6.2, .ref 28, .long t6.1]) [(.iload_n 3, 0)] (by decide +kernel) rfl rfl ?_
        refine ef_encs (by decide +kernel) (fun h30 => ?_)
        refine ef_getI (k := (eh_ep t6.2)) (j := 5) (eh_E0sh h30) eL_5_103 (by decide) (by decide +kernel) ?_
        refine ef_spL (d := 1) (As := [.long t6.1, .int (s.1 (eh_ep t6.2) 5)]) (st := []) eV_5_mix eK_5_211 (eS_5_mix g s t6.1 (s.1 (eh_ep t6.2) 5)) rfl (Nat.le_of_ble_eq_true rfl) rfl (Nat.le_of_ble_eq_true rfl) ⟨Nat.le_of_ble_eq_true rfl, Nat.le_of_ble_eq_true rfl⟩ ⟨Nat.le_refl _, Nat.le_refl _⟩ (by decide +kernel) (fun q31 _ => ?_)
        refine es_blk (pc' := 76) (L' := [some (.ref 1), some (.long t6.1), none, some (.int t6.2)]) (st' := [.ref 1, .long q31]) [(.aload_n 0, 0)] (by decide +kernel) rfl rfl ?_
        refine ef_getP (k := 1) (j := 4) (q := 28) rfl eL_5_39 rfl rfl rfl (by decide +kernel) ?_
        refine es_blk (pc' := 80) (L' := [some (.ref 1), some (.long t6.1), none, some (.int t6.2)]) (st' := [.int t6.2, .ref 28, .long q31]) [(.iload_n 3, 0)] (by decide +kernel) rfl rfl ?_
        refine ef_encs (by decide +kernel) (fun h32 => ?_)
        refine ef_getI (k := (eh_ep t6.2)) (j := 8) (eh_E0sh h32) eL_5_104 (by decide) (by decide +kernel) ?_
        refine ef_spL (d := 1) (As := [.long q31, .int (s.1 (eh_ep t6.2) 8)]) (st := []) eV_5_mix eK_5_211 (eS_5_mix g s q31 (s.1 (eh_ep t6.2) 8)) rfl (Nat.le_of_ble_eq_true rfl) rfl (Nat.le_of_ble_eq_true rfl) ⟨Nat.le_of_ble_eq_true rfl, Nat.le_of_ble_eq_true rfl⟩ ⟨Nat.le_refl _, Nat.le_refl _⟩ (by decide +kernel) (fun q33 _ => ?_)
        refine es_blk (pc' := 91) (L' := [some (.ref 1), some (.long q33), none, some (.int (t6.2 + 1))]) (st' := []) [(.lstore_n 1, 0), (.iinc 3 1, 1)] (by decide +kernel) rfl rfl ?_
        refine ef_V (fun x34 => [some (.ref 1), some (.long q33), none, some (.int x34)]) (fun _ => []) (fun _ => eh_FW s) (fun x34 => ?_)
        refine es_goto (tgt := 56) (off := (-35)) (by decide +kernel) (by decide) ?_
        exact Hr28 (q33, x34)
      refine ef_drop (L2 := [some (.ref 1), some (.long t6.1), none, none]) [true, true, true, false] rfl rfl ?_
      exact HxK27_0 t6.1
  · refine es_blk (pc' := 13) (L' := [some (.ref 1), some (.long t2.1), none, some (.int t2.2)]) (st' := [.int 2, .int t2.2]) [(.iload_n 3, 0), (.iconst 2, 2)] (by decide +kernel) rfl rfl ?_
    refine es_ige (tgt := 33) (off := (20)) (by decide +kernel) (by decide) (fun h37 => ?_) (fun h37 => ?_)
    · refine es_blk (pc' := 17) (L' := [some (.ref 1), some (.long t2.1), none, some (.int t2.2)]) (st' := [.ref 1]) [(.aload_n 0, 0)] (by decide +kernel) rfl rfl ?_
      refine ef_getP (k := 1) (j := 2) (q := 26) rfl eL_5_27 rfl rfl rfl (by decide +kernel) ?_
      refine es_blk (pc' := 21) (L' := [some (.ref 1), some (.long t2.1), none, some (.int t2.2)]) (st' := [.int t2.2, .ref 26]) [(.iload_n 3, 0)] (by decide +kernel) rfl rfl ?_
      refine ef_harts (by decide +kernel) (fun h38 => ?_)
      refine es_blk (pc' := 23) (L' := [some (.ref 1), some (.long t2.1), none, some (.int t2.2)]) (st' := [.long t2.1, .ref (eh_hp t2.2)]) [(.lload_n 1, 0)] (by decide +kernel) rfl rfl ?_
      refine ef_vpL (d := 2) (k := (eh_hp t2.2)) (As := [.long t2.1]) (st := []) eV_4_mixAll eK_5_208 (eS_4_mixAll g s (eh_hp t2.2) t2.1 h38) (eh_H0sh h38) rfl (Nat.le_of_ble_eq_true rfl) rfl (Nat.le_of_ble_eq_true rfl) ⟨Nat.le_of_ble_eq_true rfl, Nat.le_of_ble_eq_true rfl⟩ ⟨Nat.le_refl _, Nat.le_refl _⟩ (by decide +kernel) (fun q39 _ => ?_)
      refine es_blk (pc' := 30) (L' := [some (.ref 1), some (.long q39), none, some (.int (t2.2 + 1))]) (st' := []) [(.lstore_n 1, 0), (.iinc 3 1, 1)] (by decide +kernel) rfl rfl ?_
      refine ef_V (fun x40 => [some (.ref 1), some (.long q39), none, some (.int x40)]) (fun _ => []) (fun _ => eh_FW s) (fun x40 => ?_)
      refine es_goto (tgt := 11) (off := (-19)) (by decide +kernel) (by decide) ?_
      exact Hr36 (q39, x40)
    refine ef_drop (L2 := [some (.ref 1), some (.long t2.1), none, none]) [true, true, true, false] rfl rfl ?_
    exact HxK35_0 t2.1
def eF_6_openByteAt (s : eh_F) (p0 : Int32) : Option (Int32) := Option.bind (eF_6_isOpen s (p0.toInt64)) (fun q1 => eh_J (fun (a3 : Int32) => some a3) (fun j2 => if q1 = 0 then (j2 0) else (Option.bind (eF_6_byteAt s p0) (fun q5 => j2 q5))))
set_option maxHeartbeats 4000000 in
set_option maxRecDepth 100000 in
theorem eS_6_openByteAt (g : eh_P) (s : eh_F) (p0 : Int32) : eh_Sim g eM_6_openByteAt (eh_R 3 0 0) (eh_pI s) 0 0 0 (eh_en 2 [.ref 2, .int p0]) [] (eh_FW s) (eF_6_openByteAt s p0) := by
  unfold eF_6_openByteAt
  refine ef_top (L := [some (.ref 2), some (.int p0)]) rfl ?_
  refine es_blk (pc' := 3) (L' := [some (.ref 2), some (.int p0)]) (st' := [.long (p0.toInt64), .ref 2]) [(.aload_n 0, 0), (.iload_n 1, 0), (.i2l, 0)] (by decide +kernel) rfl rfl ?_
  refine ef_vpI (d := 1) (k := 2) (As := [.long (p0.toInt64)]) (st := []) eV_6_isOpen eK_6_51 (eS_6_isOpen g s (p0.toInt64)) rfl rfl (Nat.le_of_ble_eq_true rfl) rfl (Nat.le_of_ble_eq_true rfl) ⟨Nat.le_of_ble_eq_true rfl, Nat.le_of_ble_eq_true rfl⟩ ⟨Nat.le_refl _, Nat.le_refl _⟩ (by decide +kernel) (fun q1 _ => ?_)
  refine ef_J (X := fun j2 => ∀ (a3 : Int32), eh_Sim g eM_6_openByteAt (eh_R 3 0 0) (eh_pI s) 0 0 18 [none, none] [.int a3] (eh_FW s) ((j2 a3).bind some)) ?_ (fun j2 Hj2 => ?_)
  · intro a3
    exact es_ret rfl rfl rfl ⟨by decide +kernel, _, rfl, rfl⟩ (Nat.le_refl _) (Nat.le_refl _)
  refine es_eq (tgt := 17) (off := (11)) (by decide +kernel) (by decide) (fun h4 => ?_) (fun h4 => ?_)
  · refine es_blk (pc' := 18) (L' := [some (.ref 2), some (.int p0)]) (st' := [.int 0]) [(.iconst 0, 0)] (by decide +kernel) rfl rfl ?_
    refine ef_drop (L2 := [none, none]) [false, false] rfl rfl ?_
    exact Hj2 _
  refine es_blk (pc' := 11) (L' := [some (.ref 2), some (.int p0)]) (st' := [.int p0, .ref 2]) [(.aload_n 0, 0), (.iload_n 1, 0)] (by decide +kernel) rfl rfl ?_
  refine ef_vpI (d := 2) (k := 2) (As := [.int p0]) (st := []) eV_6_byteAt eK_6_55 (eS_6_byteAt g s p0) rfl rfl (Nat.le_of_ble_eq_true rfl) rfl (Nat.le_of_ble_eq_true rfl) ⟨Nat.le_of_ble_eq_true rfl, Nat.le_of_ble_eq_true rfl⟩ ⟨Nat.le_refl _, Nat.le_refl _⟩ (by decide +kernel) (fun q5 _ => ?_)
  refine es_goto (tgt := 18) (off := (4)) (by decide +kernel) (by decide) ?_
  refine ef_drop (L2 := [none, none]) [false, false] rfl rfl ?_
  exact Hj2 _
def eF_6_rightsAt (s : eh_F) (p0 : Int64) (p1 : Int32) : Option (Int32) := if p1 = (-1) then (Option.bind (eF_6_isOpen s p0) (fun q2 => eh_J (fun (a4 : Int32) => some a4) (fun j3 => if q2 = 0 then (j3 0) else (j3 7)))) else (eh_J (fun (u7 : Unit) => some 0) (fun j6 => if (lg_cmp p0 0) < 0 then (j6 ()) else (if (lg_cmp p0 131072) < 0 then (if eh_in (eh_shr (p0.toInt32) 8) 512 then eh_V ((s.1 10 (eh_ix (eh_shr (p0.toInt32) 8))) : Int32) (fun x10 => eh_J (fun (a12 : Int32) => some a12) (fun j11 => if x10 < 0 then (j11 0) else (Option.bind (eF_6_rightsIn s x10 p1) (fun q14 => j11 q14)))) else none) else (j6 ()))))
set_option maxHeartbeats 4000000 in
set_option maxRecDepth 100000 in
theorem eS_6_rightsAt (g : eh_P) (s : eh_F) (p0 : Int64) (p1 : Int32) : eh_Sim g eM_6_rightsAt (eh_R 3 0 0) (eh_pI s) 0 0 0 (eh_en 5 [.ref 2, .long p0, .int p1]) [] (eh_FW s) (eF_6_rightsAt s p0 p1) := by
  unfold eF_6_rightsAt
  refine ef_top (L := [some (.ref 2), some (.long p0), none, some (.int p1), none]) rfl ?_
  refine es_blk (pc' := 2) (L' := [some (.ref 2), some (.long p0), none, some (.int p1), none]) (st' := [.int (-1), .int p1]) [(.iload_n 3, 0), (.iconst (-1), (-1))] (by decide +kernel) rfl rfl ?_
  refine es_ine (tgt := 20) (off := (18)) (by decide +kernel) (by decide) (fun h1 => ?_) (fun h1 => ?_)
  · refine es_blk (pc' := 7) (L' := [some (.ref 2), some (.long p0), none, some (.int p1), none]) (st' := [.long p0, .ref 2]) [(.aload_n 0, 0), (.lload_n 1, 0)] (by decide +kernel) rfl rfl ?_
    refine ef_vpI (d := 1) (k := 2) (As := [.long p0]) (st := []) eV_6_isOpen eK_6_51 (eS_6_isOpen g s p0) rfl rfl (Nat.le_of_ble_eq_true rfl) rfl (Nat.le_of_ble_eq_true rfl) ⟨Nat.le_of_ble_eq_true rfl, Nat.le_of_ble_eq_true rfl⟩ ⟨Nat.le_refl _, Nat.le_refl _⟩ (by decide +kernel) (fun q2 _ => ?_)
    refine ef_J (X := fun j3 => ∀ (a4 : Int32), eh_Sim g eM_6_rightsAt (eh_R 3 0 0) (eh_pI s) 0 0 19 [none, none, none, none, none] [.int a4] (eh_FW s) ((j3 a4).bind some)) ?_ (fun j3 Hj3 => ?_)
    · intro a4
      exact es_ret rfl rfl rfl ⟨by decide +kernel, _, rfl, rfl⟩ (Nat.le_refl _) (Nat.le_refl _)
    refine es_eq (tgt := 18) (off := (8)) (by decide +kernel) (by decide) (fun h5 => ?_) (fun h5 => ?_)
    · refine es_blk (pc' := 19) (L' := [some (.ref 2), some (.long p0), none, some (.int p1), none]) (st' := [.int 0]) [(.iconst 0, 0)] (by decide +kernel) rfl rfl ?_
      refine ef_drop (L2 := [none, none, none, none, none]) [false, false, true, false, true] rfl rfl ?_
      exact Hj3 _
    refine es_blk (pc' := 15) (L' := [some (.ref 2), some (.long p0), none, some (.int p1), none]) (st' := [.int 7]) [(.bipush 7, 7)] (by decide +kernel) rfl rfl ?_
    refine es_goto (tgt := 19) (off := (4)) (by decide +kernel) (by decide) ?_
    refine ef_drop (L2 := [none, none, none, none, none]) [false, false, true, false, true] rfl rfl ?_
    exact Hj3 _
  refine es_blk (pc' := 23) (L' := [some (.ref 2), some (.long p0), none, some (.int p1), none]) (st' := [.int (lg_cmp p0 0)]) [(.lload_n 1, 0), (.lconst 0, 0), (.lcmp, 0)] (by decide +kernel) rfl rfl ?_
  refine ef_J (X := fun j6 => ∀ (u7 : Unit), eh_Sim g eM_6_rightsAt (eh_R 3 0 0) (eh_pI s) 0 0 34 [none, none, none, none, none] [] (eh_FW s) ((j6 u7).bind some)) ?_ (fun j6 Hj6 => ?_)
  · intro u7
    refine es_blk (pc' := 35) (L' := [none, none, none, none, none]) (st' := [.int 0]) [(.iconst 0, 0)] (by decide +kernel) rfl rfl ?_
    exact es_ret rfl rfl rfl ⟨by decide +kernel, _, rfl, rfl⟩ (Nat.le_refl _) (Nat.le_refl _)
  refine es_lt (tgt := 34) (off := (11)) (by decide +kernel) (by decide) (fun h8 => ?_) (fun h8 => ?_)
  · refine ef_drop (L2 := [none, none, none, none, none]) [false, false, true, false, true] rfl rfl ?_
    exact Hj6 ()
  refine es_blk (pc' := 27) (L' := [some (.ref 2), some (.long p0), none, some (.int p1), none]) (st' := [.long p0]) [(.lload_n 1, 0)] (by decide +kernel) rfl rfl ?_
  refine es_ldc2 (v := 131072) eC_6_58 (by decide +kernel) ?_
  refine es_blk (pc' := 31) (L' := [some (.ref 2), some (.long p0), none, some (.int p1), none]) (st' := [.int (lg_cmp p0 131072)]) [(.lcmp, 0)] (by decide +kernel) rfl rfl ?_
  refine es_lt (tgt := 36) (off := (5)) (by decide +kernel) (by decide) (fun h9 => ?_) (fun h9 => ?_)
  · refine es_blk (pc' := 37) (L' := [some (.ref 2), some (.long p0), none, some (.int p1), none]) (st' := [.ref 2]) [(.aload_n 0, 0)] (by decide +kernel) rfl rfl ?_
    refine ef_getP (k := 2) (j := 7) (q := 10) rfl eL_6_34 rfl rfl rfl (by decide +kernel) ?_
    refine es_blk (pc' := 45) (L' := [some (.ref 2), some (.long p0), none, some (.int p1), none]) (st' := [.int (eh_shr (p0.toInt32) 8), .ref 10]) [(.lload_n 1, 0), (.l2i, 0), (.bipush 8, 8), (.ishr, 0)] (by decide +kernel) rfl rfl ?_
    refine ef_ald (k := 10) rfl (Or.inl ⟨rfl, rfl⟩) (by decide +kernel) (fun _ => ?_)
    refine es_blk (pc' := 48) (L' := [some (.ref 2), some (.long p0), none, some (.int p1), some (.int (s.1 10 (eh_ix (eh_shr (p0.toInt32) 8))))]) (st' := []) [(.istore 4, 0)] (by decide +kernel) rfl rfl ?_
    refine ef_V (fun x10 => [some (.ref 2), some (.long p0), none, some (.int p1), some (.int x10)]) (fun _ => []) (fun _ => eh_FW s) (fun x10 => ?_)
    refine es_blk (pc' := 50) (L' := [some (.ref 2), some (.long p0), none, some (.int p1), some (.int x10)]) (st' := [.int x10]) [(.iload 4, 0)] (by decide +kernel) rfl rfl ?_
    refine ef_J (X := fun j11 => ∀ (a12 : Int32), eh_Sim g eM_6_rightsAt (eh_R 3 0 0) (eh_pI s) 0 0 64 [none, none, none, none, none] [.int a12] (eh_FW s) ((j11 a12).bind some)) ?_ (fun j11 Hj11 => ?_)
    · intro a12
      exact es_ret rfl rfl rfl ⟨by decide +kernel, _, rfl, rfl⟩ (Nat.le_refl _) (Nat.le_refl _)
    refine es_ge (tgt := 57) (off := (7)) (by decide +kernel) (by decide) (fun h13 => ?_) (fun h13 => ?_)
    · refine es_blk (pc' := 54) (L' := [some (.ref 2), some (.long p0), none, some (.int p1), some (.int x10)]) (st' := [.int 0]) [(.iconst 0, 0)] (by decide +kernel) rfl rfl ?_
      refine es_goto (tgt := 64) (off := (10)) (by decide +kernel) (by decide) ?_
      refine ef_drop (L2 := [none, none, none, none, none]) [false, false, true, false, false] rfl rfl ?_
      exact Hj11 _
    refine es_blk (pc' := 61) (L' := [some (.ref 2), some (.long p0), none, some (.int p1), some (.int x10)]) (st' := [.int p1, .int x10, .ref 2]) [(.aload_n 0, 0), (.iload 4, 0), (.iload_n 3, 0)] (by decide +kernel) rfl rfl ?_
    refine ef_vpI (d := 2) (k := 2) (As := [.int x10, .int p1]) (st := []) eV_6_rightsIn eK_6_60 (eS_6_rightsIn g s x10 p1) rfl rfl (Nat.le_of_ble_eq_true rfl) rfl (Nat.le_of_ble_eq_true rfl) ⟨Nat.le_of_ble_eq_true rfl, Nat.le_of_ble_eq_true rfl⟩ ⟨Nat.le_refl _, Nat.le_refl _⟩ (by decide +kernel) (fun q14 _ => ?_)
    refine ef_drop (L2 := [none, none, none, none, none]) [false, false, true, false, false] rfl rfl ?_
    exact Hj11 _
  refine ef_drop (L2 := [none, none, none, none, none]) [false, false, true, false, true] rfl rfl ?_
  exact Hj6 ()
def eF_6_entryOfEnclave (s : eh_F) (p0 : Int32) (p1 : Int32) (p2 : Int32) : Option (Int32) := Option.bind (eh_loop (fun (r7 : (Int32 × Int32) → Option ((Unit) ⊕ (Int32))) (t1 : Int32 × Int32) => if t1.2 < 12 then (if eh_in t1.2 12 then eh_J (fun (a10 : Int32) => eh_V ((t1.2 + 1) : Int32) (fun x11 => r7 (a10, x11))) (fun j9 => if (s.1 3 (eh_ix t1.2)) = 0 then (j9 t1.1) else (Option.bind (eF_6_rightsIn s t1.2 p0) (fun q13 => if q13 = 0 then (j9 t1.1) else (if eh_in t1.2 12 then eh_J (fun (a16 : Int32) => eh_J (fun (a18 : Int32) => if p1 = a18 then (some (.inr t1.2)) else (eh_J (fun (a21 : Int32) => eh_V ((t1.1 + a21) : Int32) (fun x22 => j9 x22)) (fun j20 => if a16 = 0 then (j20 1) else (j20 0)))) (fun j17 => if a16 = 0 then (j17 t1.1) else (j17 0))) (fun j15 => if (s.1 3 (eh_ix t1.2)) = 1 then (j15 1) else (j15 0)) else none)))) else none) else (some (.inl ()))) eh_FU (1, 0)) (Sum.elim (fun (e2 : Unit) => some (-1)) (fun (e3 : Int32) => Option.bind (eF_6_rightsIn s e3 p0) (fun q4 => Option.bind (eF_6_entryPart s e3 p2 q4) (fun q5 => some q5))))
set_option maxHeartbeats 4000000 in
set_option maxRecDepth 100000 in
theorem eS_6_entryOfEnclave (g : eh_P) (s : eh_F) (p0 : Int32) (p1 : Int32) (p2 : Int32) : eh_Sim g eM_6_entryOfEnclave (eh_R 3 0 0) (eh_pI s) 0 0 0 (eh_en 7 [.ref 2, .int p0, .int p1, .int p2]) [] (eh_FW s) (eF_6_entryOfEnclave s p0 p1 p2) := by
  unfold eF_6_entryOfEnclave
  refine ef_top (L := [some (.ref 2), some (.int p0), some (.int p1), some (.int p2), none, none, none]) rfl ?_
  refine es_blk (pc' := 6) (L' := [some (.ref 2), some (.int p0), some (.int p1), some (.int p2), some (.int 1), some (.int 0), none]) (st' := []) [(.iconst 1, 1), (.istore 4, 0), (.iconst 0, 0), (.istore 5, 0)] (by decide +kernel) rfl rfl ?_
  refine ef_loop2 (n := eh_FU) (i := (1, 0)) (px := 102) (px2 := 66) (fun (t1 : Int32 × Int32) => [some (.ref 2), some (.int p0), some (.int p1), some (.int p2), some (.int t1.1), some (.int t1.2), none]) (fun (t1 : Int32 × Int32) => []) (fun (t1 : Int32 × Int32) => eh_FW s) (fun (e2 : Unit) => [none, none, none, none, none, none, none]) (fun (e2 : Unit) => []) (fun (e2 : Unit) => eh_FW s) (fun (e3 : Int32) => [some (.ref 2), some (.int p0), none, some (.int p2), none, some (.int e3), none]) (fun (e3 : Int32) => []) (fun (e3 : Int32) => eh_FW s) (fun e2 => ?_) (fun e3 => ?_) (fun K6 HxK6_0 HxK6_1 r7 Hr7 t1 => ?_)
  · refine es_blk (pc' := 103) (L' := [none, none, none, none, none, none, none]) (st' := [.int (-1)]) [(.iconst (-1), (-1))] (by decide +kernel) rfl rfl ?_
    exact es_ret rfl rfl rfl ⟨by decide +kernel, _, rfl, rfl⟩ (Nat.le_refl _) (Nat.le_refl _)
  · refine es_blk (pc' := 74) (L' := [some (.ref 2), some (.int p0), none, some (.int p2), none, some (.int e3), none]) (st' := [.int p0, .int e3, .ref 2, .int p2, .int e3, .ref 2]) [(.aload_n 0, 0), (.iload 5, 0), (.iload_n 3, 0), (.aload_n 0, 0), (.iload 5, 0), (.iload_n 1, 0)] (by decide +kernel) rfl rfl ?_
    refine ef_vpI (d := 2) (k := 2) (As := [.int e3, .int p0]) (st := [.int p2, .int e3, .ref 2]) eV_6_rightsIn eK_6_60 (eS_6_rightsIn g s e3 p0) rfl rfl (Nat.le_of_ble_eq_true rfl) rfl (Nat.le_of_ble_eq_true rfl) ⟨Nat.le_of_ble_eq_true rfl, Nat.le_of_ble_eq_true rfl⟩ ⟨Nat.le_refl _, Nat.le_refl _⟩ (by decide +kernel) (fun q4 _ => ?_)
    refine ef_vpI (d := 1) (k := 2) (As := [.int e3, .int p2, .int q4]) (st := []) eV_6_entryPart eK_6_79 (eS_6_entryPart g s e3 p2 q4) rfl rfl (Nat.le_of_ble_eq_true rfl) rfl (Nat.le_of_ble_eq_true rfl) ⟨Nat.le_of_ble_eq_true rfl, Nat.le_of_ble_eq_true rfl⟩ ⟨Nat.le_refl _, Nat.le_refl _⟩ (by decide +kernel) (fun q5 _ => ?_)
    exact es_ret rfl rfl rfl ⟨by decide +kernel, _, rfl, rfl⟩ (Nat.le_refl _) (Nat.le_refl _)
  · refine es_blk (pc' := 10) (L' := [some (.ref 2), some (.int p0), some (.int p1), some (.int p2), some (.int t1.1), some (.int t1.2), none]) (st' := [.int 12, .int t1.2]) [(.iload 5, 0), (.bipush 12, 12)] (by decide +kernel) rfl rfl ?_
    refine es_ige (tgt := 102) (off := (92)) (by decide +kernel) (by decide) (fun h8 => ?_) (fun h8 => ?_)
    · refine es_blk (pc' := 14) (L' := [some (.ref 2), some (.int p0), some (.int p1), some (.int p2), some (.int t1.1), some (.int t1.2), none]) (st' := [.ref 2]) [(.aload_n 0, 0)] (by decide +kernel) rfl rfl ?_
      refine ef_getP (k := 2) (j := 0) (q := 3) rfl eL_6_11 rfl rfl rfl (by decide +kernel) ?_
      refine es_blk (pc' := 19) (L' := [some (.ref 2), some (.int p0), some (.int p1), some (.int p2), some (.int t1.1), some (.int t1.2), none]) (st' := [.int t1.2, .ref 3]) [(.iload 5, 0)] (by decide +kernel) rfl rfl ?_
      refine ef_ald (k := 3) rfl (Or.inl ⟨rfl, rfl⟩) (by decide +kernel) (fun _ => ?_)
      refine ef_J (X := fun j9 => ∀ (a10 : Int32), eh_Sim g eM_6_entryOfEnclave (eh_R 3 0 0) (eh_pI s) 0 0 96 [some (.ref 2), some (.int p0), some (.int p1), some (.int p2), some (.int a10), some (.int t1.2), none] [] (eh_FW s) ((j9 a10).bind K6)) ?_ (fun j9 Hj9 => ?_)
      · intro a10
        refine es_blk (pc' := 99) (L' := [some (.ref 2), some (.int p0), some (.int p1), some (.int p2), some (.int a10), some (.int (t1.2 + 1)), none]) (st' := []) [(.iinc 5 1, 1)] (by decide +kernel) rfl rfl ?_
        refine ef_V (fun x11 => [some (.ref 2), some (.int p0), some (.int p1), some (.int p2), some (.int a10), some (.int x11), none]) (fun _ => []) (fun _ => eh_FW s) (fun x11 => ?_)
        refine es_goto (tgt := 6) (off := (-93)) (by decide +kernel) (by decide) ?_
        exact Hr7 (a10, x11)
      refine es_eq (tgt := 96) (off := (76)) (by decide +kernel) (by decide) (fun h12 => ?_) (fun h12 => ?_)
      · exact Hj9 _
      refine es_blk (pc' := 27) (L' := [some (.ref 2), some (.int p0), some (.int p1), some (.int p2), some (.int t1.1), some (.int t1.2), none]) (st' := [.int p0, .int t1.2, .ref 2]) [(.aload_n 0, 0), (.iload 5, 0), (.iload_n 1, 0)] (by decide +kernel) rfl rfl ?_
      refine ef_vpI (d := 2) (k := 2) (As := [.int t1.2, .int p0]) (st := []) eV_6_rightsIn eK_6_60 (eS_6_rightsIn g s t1.2 p0) rfl rfl (Nat.le_of_ble_eq_true rfl) rfl (Nat.le_of_ble_eq_true rfl) ⟨Nat.le_of_ble_eq_true rfl, Nat.le_of_ble_eq_true rfl⟩ ⟨Nat.le_refl _, Nat.le_refl _⟩ (by decide +kernel) (fun q13 _ => ?_)
      refine es_eq (tgt := 96) (off := (66)) (by decide +kernel) (by decide) (fun h14 => ?_) (fun h14 => ?_)
      · exact Hj9 _
      refine es_blk (pc' := 34) (L' := [some (.ref 2), some (.int p0), some (.int p1), some (.int p2), some (.int t1.1), some (.int t1.2), none]) (st' := [.ref 2]) [(.aload_n 0, 0)] (by decide +kernel) rfl rfl ?_
      refine ef_getP (k := 2) (j := 0) (q := 3) rfl eL_6_11 rfl rfl rfl (by decide +kernel) ?_
      refine es_blk (pc' := 39) (L' := [some (.ref 2), some (.int p0), some (.int p1), some (.int p2), some (.int t1.1), some (.int t1.2), none]) (st' := [.int t1.2, .ref 3]) [(.iload 5, 0)] (by decide +kernel) rfl rfl ?_
      refine ef_ald (k := 3) rfl (Or.inl ⟨rfl, rfl⟩) (by decide +kernel) (fun _ => ?_)
      refine es_blk (pc' := 41) (L' := [some (.ref 2), some (.int p0), some (.int p1), some (.int p2), some (.int t1.1), some (.int t1.2), none]) (st' := [.int 1, .int (s.1 3 (eh_ix t1.2))]) [(.iconst 1, 1)] (by decide +kernel) rfl rfl ?_
      refine ef_J (X := fun j15 => ∀ (a16 : Int32), eh_Sim g eM_6_entryOfEnclave (eh_R 3 0 0) (eh_pI s) 0 0 49 [some (.ref 2), some (.int p0), some (.int p1), some (.int p2), some (.int t1.1), some (.int t1.2), none] [.int a16] (eh_FW s) ((j15 a16).bind K6)) ?_ (fun j15 Hj15 => ?_)
      · intro a16
        refine es_blk (pc' := 54) (L' := [some (.ref 2), some (.int p0), some (.int p1), some (.int p2), some (.int t1.1), some (.int t1.2), some (.int a16)]) (st' := [.int a16, .int p1]) [(.istore 6, 0), (.iload_n 2, 0), (.iload 6, 0)] (by decide +kernel) rfl rfl ?_
        refine ef_J (X := fun j17 => ∀ (a18 : Int32), eh_Sim g eM_6_entryOfEnclave (eh_R 3 0 0) (eh_pI s) 0 0 63 [some (.ref 2), some (.int p0), some (.int p1), some (.int p2), some (.int t1.1), some (.int t1.2), some (.int a16)] [.int a18, .int p1] (eh_FW s) ((j17 a18).bind K6)) ?_ (fun j17 Hj17 => ?_)
        · intro a18
          refine es_ine (tgt := 81) (off := (18)) (by decide +kernel) (by decide) (fun h19 => ?_) (fun h19 => ?_)
          · refine ef_drop (L2 := [some (.ref 2), some (.int p0), none, some (.int p2), none, some (.int t1.2), none]) [true, true, false, true, false, true, false] rfl rfl ?_
            exact HxK6_1 t1.2
          refine es_blk (pc' := 85) (L' := [some (.ref 2), some (.int p0), some (.int p1), some (.int p2), some (.int t1.1), some (.int t1.2), some (.int a16)]) (st' := [.int a16, .int t1.1]) [(.iload 4, 0), (.iload 6, 0)] (by decide +kernel) rfl rfl ?_
          refine ef_J (X := fun j20 => ∀ (a21 : Int32), eh_Sim g eM_6_entryOfEnclave (eh_R 3 0 0) (eh_pI s) 0 0 93 [some (.ref 2), some (.int p0), some (.int p1), some (.int p2), none, some (.int t1.2), none] [.int a21, .int t1.1] (eh_FW s) ((j20 a21).bind K6)) ?_ (fun j20 Hj20 => ?_)
          · intro a21
            refine es_blk (pc' := 96) (L' := [some (.ref 2), some (.int p0), some (.int p1), some (.int p2), some (.int (t1.1 + a21)), some (.int t1.2), none]) (st' := []) [(.iadd, 0), (.istore 4, 0)] (by decide +kernel) rfl rfl ?_
            refine ef_V (fun x22 => [some (.ref 2), some (.int p0), some (.int p1), some (.int p2), some (.int x22), some (.int t1.2), none]) (fun _ => []) (fun _ => eh_FW s) (fun x22 => ?_)
            exact Hj9 _
          refine es_eq (tgt := 92) (off := (7)) (by decide +kernel) (by decide) (fun h23 => ?_) (fun h23 => ?_)
          · refine es_blk (pc' := 93) (L' := [some (.ref 2), some (.int p0), some (.int p1), some (.int p2), some (.int t1.1), some (.int t1.2), some (.int a16)]) (st' := [.int 1, .int t1.1]) [(.iconst 1, 1)] (by decide +kernel) rfl rfl ?_
            refine ef_drop (L2 := [some (.ref 2), some (.int p0), some (.int p1), some (.int p2), none, some (.int t1.2), none]) [true, true, true, true, false, true, false] rfl rfl ?_
            exact Hj20 _
          refine es_blk (pc' := 89) (L' := [some (.ref 2), some (.int p0), some (.int p1), some (.int p2), some (.int t1.1), some (.int t1.2), some (.int a16)]) (st' := [.int 0, .int t1.1]) [(.iconst 0, 0)] (by decide +kernel) rfl rfl ?_
          refine es_goto (tgt := 93) (off := (4)) (by decide +kernel) (by decide) ?_
          refine ef_drop (L2 := [some (.ref 2), some (.int p0), some (.int p1), some (.int p2), none, some (.int t1.2), none]) [true, true, true, true, false, true, false] rfl rfl ?_
          exact Hj20 _
        refine es_eq (tgt := 61) (off := (7)) (by decide +kernel) (by decide) (fun h24 => ?_) (fun h24 => ?_)
        · refine es_blk (pc' := 63) (L' := [some (.ref 2), some (.int p0), some (.int p1), some (.int p2), some (.int t1.1), some (.int t1.2), some (.int a16)]) (st' := [.int t1.1, .int p1]) [(.iload 4, 0)] (by decide +kernel) rfl rfl ?_
          exact Hj17 _
        refine es_blk (pc' := 58) (L' := [some (.ref 2), some (.int p0), some (.int p1), some (.int p2), some (.int t1.1), some (.int t1.2), some (.int a16)]) (st' := [.int 0, .int p1]) [(.iconst 0, 0)] (by decide +kernel) rfl rfl ?_
        refine es_goto (tgt := 63) (off := (5)) (by decide +kernel) (by decide) ?_
        exact Hj17 _
      refine es_ine (tgt := 48) (off := (7)) (by decide +kernel) (by decide) (fun h25 => ?_) (fun h25 => ?_)
      · refine es_blk (pc' := 45) (L' := [some (.ref 2), some (.int p0), some (.int p1), some (.int p2), some (.int t1.1), some (.int t1.2), none]) (st' := [.int 1]) [(.iconst 1, 1)] (by decide +kernel) rfl rfl ?_
        refine es_goto (tgt := 49) (off := (4)) (by decide +kernel) (by decide) ?_
        exact Hj15 _
      refine es_blk (pc' := 49) (L' := [some (.ref 2), some (.int p0), some (.int p1), some (.int p2), some (.int t1.1), some (.int t1.2), none]) (st' := [.int 0]) [(.iconst 0, 0)] (by decide +kernel) rfl rfl ?_
      exact Hj15 _
    refine ef_drop (L2 := [none, none, none, none, none, none, none]) [false, false, false, false, false, false, true] rfl rfl ?_
    exact HxK6_0 ()
def eF_7_suffer (s : eh_F)  : Option (eh_F) := eh_J (fun (s2 : eh_F) => some s2) (fun j1 => if (s.1 124 6) = 0 then (if eh_okH (s.2.2 4) then Option.bind (eF_4_trap s (s.2.2 4) (s.1 124 10) (s.1 124 11)) (fun q5 => j1 q5) else none) else (if eh_okF (s.2.2 5) then if (s.1 (s.2.2 5) 8) = 0 then (if eh_okF (s.2.2 5) then Option.bind (eF_5_note s 3 (s.2.2 5) (s.1 124 10) 0 0) (fun q9 => if eh_okH (q9.2.2 4) then if eh_okF (q9.2.2 5) then Option.bind (eF_5_cease q9 (q9.2.2 4) (q9.2.2 5) 5 3 (q9.1 124 10)) (fun q12 => j1 q12) else none else none) else none) else (if eh_okF (s.2.2 5) then Option.bind (eF_2_handle s (s.2.2 5) (s.1 124 10)) (fun q14 => j1 q14) else none) else none))
set_option maxHeartbeats 4000000 in
set_option maxRecDepth 100000 in
theorem eS_7_suffer (g : eh_P) (s : eh_F)  : eh_Sim g eM_7_suffer (eh_R 3 0 0) eh_eV 0 0 0 (eh_en 1 [.ref 124]) [] (eh_FW s) (eF_7_suffer s) := by
  unfold eF_7_suffer
  refine ef_top (L := [some (.ref 124)]) rfl ?_
  refine es_blk (pc' := 1) (L' := [some (.ref 124)]) (st' := [.ref 124]) [(.aload_n 0, 0)] (by decide +kernel) rfl rfl ?_
  refine ef_getI (k := 124) (j := 6) rfl eL_7_94 (by decide) (by decide +kernel) ?_
  refine ef_J (X := fun j1 => ∀ (s2 : eh_F), eh_Sim g eM_7_suffer (eh_R 3 0 0) eh_eV 0 0 88 [none] [] (eh_FW s2) ((j1 s2).bind some)) ?_ (fun j1 Hj1 => ?_)
  · intro s2
    exact es_ret rfl rfl rfl ⟨by decide +kernel, rfl⟩ (Nat.le_refl _) (Nat.le_refl _)
  refine es_ne (tgt := 25) (off := (21)) (by decide +kernel) (by decide) (fun h3 => ?_) (fun h3 => ?_)
  · refine es_blk (pc' := 8) (L' := [some (.ref 124)]) (st' := [.ref 124]) [(.aload_n 0, 0)] (by decide +kernel) rfl rfl ?_
    refine ef_getQ (j := 4) (ok := eh_okH) (by decide) eL_7_39 rfl (fun q h => eh_sh_NU (eh_H0sh h)) (by decide +kernel) (fun h4 => ?_)
    refine es_blk (pc' := 12) (L' := [some (.ref 124)]) (st' := [.ref 124, .ref (s.2.2 4)]) [(.aload_n 0, 0)] (by decide +kernel) rfl rfl ?_
    refine ef_getI (k := 124) (j := 10) rfl eL_7_85 (by decide) (by decide +kernel) ?_
    refine es_blk (pc' := 16) (L' := [some (.ref 124)]) (st' := [.ref 124, .int (s.1 124 10), .ref (s.2.2 4)]) [(.aload_n 0, 0)] (by decide +kernel) rfl rfl ?_
    refine ef_getI (k := 124) (j := 11) rfl eL_7_123 (by decide) (by decide +kernel) ?_
    refine ef_veV (d := 1) (k := (s.2.2 4)) (As := [.int (s.1 124 10), .int (s.1 124 11)]) (st := []) eV_4_trap eK_7_134 (eS_4_trap g s (s.2.2 4) (s.1 124 10) (s.1 124 11) h4) (eh_H0sh h4) rfl (Nat.le_of_ble_eq_true rfl) rfl (Nat.le_of_ble_eq_true rfl) ⟨Nat.le_of_ble_eq_true rfl, Nat.le_of_ble_eq_true rfl⟩ ⟨Nat.le_refl _, Nat.le_refl _⟩ (by decide +kernel) (fun q5 _ => ?_)
    refine es_goto (tgt := 88) (off := (66)) (by decide +kernel) (by decide) ?_
    refine ef_drop (L2 := [none]) [false] rfl rfl ?_
    exact Hj1 _
  refine es_blk (pc' := 26) (L' := [some (.ref 124)]) (st' := [.ref 124]) [(.aload_n 0, 0)] (by decide +kernel) rfl rfl ?_
  refine ef_getQ (j := 5) (ok := eh_okF) (by decide) eL_7_47 rfl (fun q h => eh_sh_NU (eh_F0sh h)) (by decide +kernel) (fun h6 => ?_)
  refine ef_getI (k := (s.2.2 5)) (j := 8) (eh_F0sh h6) eL_7_144 (by decide) (by decide +kernel) ?_
  refine es_eq (tgt := 49) (off := (17)) (by decide +kernel) (by decide) (fun h7 => ?_) (fun h7 => ?_)
  · refine es_blk (pc' := 50) (L' := [some (.ref 124)]) (st' := [.ref 124]) [(.aload_n 0, 0)] (by decide +kernel) rfl rfl ?_
    refine ef_getP (k := 124) (j := 0) (q := 1) rfl eL_7_9 rfl rfl rfl (by decide +kernel) ?_
    refine es_blk (pc' := 55) (L' := [some (.ref 124)]) (st' := [.ref 124, .int 3, .ref 1]) [(.iconst 3, 3), (.aload_n 0, 0)] (by decide +kernel) rfl rfl ?_
    refine ef_getQ (j := 5) (ok := eh_okF) (by decide) eL_7_47 rfl (fun q h => eh_sh_NU (eh_F0sh h)) (by decide +kernel) (fun h8 => ?_)
    refine es_blk (pc' := 59) (L' := [some (.ref 124)]) (st' := [.ref 124, .ref (s.2.2 5), .int 3, .ref 1]) [(.aload_n 0, 0)] (by decide +kernel) rfl rfl ?_
    refine ef_getI (k := 124) (j := 10) rfl eL_7_85 (by decide) (by decide +kernel) ?_
    refine es_blk (pc' := 64) (L' := [some (.ref 124)]) (st' := [.int 0, .int 0, .int (s.1 124 10), .ref (s.2.2 5), .int 3, .ref 1]) [(.iconst 0, 0), (.iconst 0, 0)] (by decide +kernel) rfl rfl ?_
    refine ef_veV (d := 1) (k := 1) (As := [.int 3, .ref (s.2.2 5), .int (s.1 124 10), .int 0, .int 0]) (st := []) eV_5_note eK_7_151 (eS_5_note g s 3 (s.2.2 5) (s.1 124 10) 0 0 h8) rfl rfl (Nat.le_of_ble_eq_true rfl) rfl (Nat.le_of_ble_eq_true rfl) ⟨Nat.le_of_ble_eq_true rfl, Nat.le_of_ble_eq_true rfl⟩ ⟨Nat.le_refl _, Nat.le_refl _⟩ (by decide +kernel) (fun q9 _ => ?_)
    refine es_blk (pc' := 68) (L' := [some (.ref 124)]) (st' := [.ref 124]) [(.aload_n 0, 0)] (by decide +kernel) rfl rfl ?_
    refine ef_getP (k := 124) (j := 0) (q := 1) rfl eL_7_9 rfl rfl rfl (by decide +kernel) ?_
    refine es_blk (pc' := 72) (L' := [some (.ref 124)]) (st' := [.ref 124, .ref 1]) [(.aload_n 0, 0)] (by decide +kernel) rfl rfl ?_
    refine ef_getQ (j := 4) (ok := eh_okH) (by decide) eL_7_39 rfl (fun q h => eh_sh_NU (eh_H0sh h)) (by decide +kernel) (fun h10 => ?_)
    refine es_blk (pc' := 76) (L' := [some (.ref 124)]) (st' := [.ref 124, .ref (q9.2.2 4), .ref 1]) [(.aload_n 0, 0)] (by decide +kernel) rfl rfl ?_
    refine ef_getQ (j := 5) (ok := eh_okF) (by decide) eL_7_47 rfl (fun q h => eh_sh_NU (eh_F0sh h)) (by decide +kernel) (fun h11 => ?_)
    refine es_blk (pc' := 82) (L' := [some (.ref 124)]) (st' := [.ref 124, .int 3, .int 5, .ref (q9.2.2 5), .ref (q9.2.2 4), .ref 1]) [(.iconst 5, 5), (.iconst 3, 3), (.aload_n 0, 0)] (by decide +kernel) rfl rfl ?_
    refine ef_getI (k := 124) (j := 10) rfl eL_7_85 (by decide) (by decide +kernel) ?_
    refine ef_veV (d := 2) (k := 1) (As := [.ref (q9.2.2 4), .ref (q9.2.2 5), .int 5, .int 3, .int (q9.1 124 10)]) (st := []) eV_5_cease eK_7_129 (eS_5_cease g q9 (q9.2.2 4) (q9.2.2 5) 5 3 (q9.1 124 10) h10 h11) rfl rfl (Nat.le_of_ble_eq_true rfl) rfl (Nat.le_of_ble_eq_true rfl) ⟨Nat.le_of_ble_eq_true rfl, Nat.le_of_ble_eq_true rfl⟩ ⟨Nat.le_refl _, Nat.le_refl _⟩ (by decide +kernel) (fun q12 _ => ?_)
    refine ef_drop (L2 := [none]) [false] rfl rfl ?_
    exact Hj1 _
  refine es_blk (pc' := 36) (L' := [some (.ref 124)]) (st' := [.ref 124]) [(.aload_n 0, 0)] (by decide +kernel) rfl rfl ?_
  refine ef_getQ (j := 5) (ok := eh_okF) (by decide) eL_7_47 rfl (fun q h => eh_sh_NU (eh_F0sh h)) (by decide +kernel) (fun h13 => ?_)
  refine es_blk (pc' := 40) (L' := [some (.ref 124)]) (st' := [.ref 124, .ref (s.2.2 5)]) [(.aload_n 0, 0)] (by decide +kernel) rfl rfl ?_
  refine ef_getI (k := 124) (j := 10) rfl eL_7_85 (by decide) (by decide +kernel) ?_
  refine ef_veV (d := 1) (k := (s.2.2 5)) (As := [.int (s.1 124 10)]) (st := []) eV_2_handle eK_7_147 (eS_2_handle g s (s.2.2 5) (s.1 124 10) h13) (eh_F0sh h13) rfl (Nat.le_of_ble_eq_true rfl) rfl (Nat.le_of_ble_eq_true rfl) ⟨Nat.le_of_ble_eq_true rfl, Nat.le_of_ble_eq_true rfl⟩ ⟨Nat.le_refl _, Nat.le_refl _⟩ (by decide +kernel) (fun q14 _ => ?_)
  refine es_goto (tgt := 88) (off := (42)) (by decide +kernel) (by decide) ?_
  refine ef_drop (L2 := [none]) [false] rfl rfl ?_
  exact Hj1 _
def eF_7_jump (s : eh_F) (p0 : Int32) (p1 : Int32) : Option (eh_F) := Option.bind (eF_7_goTo s p1) (fun q1 => eh_J (fun (s3 : eh_F) => some s3) (fun j2 => if q1.1 = 0 then (j2 q1.2) else (Option.bind (eF_7_put q1.2 p0 ((q1.2.1 124 8) + 4)) (fun q5 => j2 q5))))
set_option maxHeartbeats 4000000 in
set_option maxRecDepth 100000 in
theorem eS_7_jump (g : eh_P) (s : eh_F) (p0 : Int32) (p1 : Int32) : eh_Sim g eM_7_jump (eh_R 3 0 0) eh_eV 0 0 0 (eh_en 3 [.ref 124, .int p0, .int p1]) [] (eh_FW s) (eF_7_jump s p0 p1) := by
  unfold eF_7_jump
  refine ef_top (L := [some (.ref 124), some (.int p0), some (.int p1)]) rfl ?_
  refine es_blk (pc' := 2) (L' := [some (.ref 124), some (.int p0), some (.int p1)]) (st' := [.int p1, .ref 124]) [(.aload_n 0, 0), (.iload_n 2, 0)] (by decide +kernel) rfl rfl ?_
  refine ef_veI (d := 2) (k := 124) (As := [.int p1]) (st := []) eV_7_goTo eK_7_205 (eS_7_goTo g s p1) rfl rfl (Nat.le_of_ble_eq_true rfl) rfl (Nat.le_of_ble_eq_true rfl) ⟨Nat.le_of_ble_eq_true rfl, Nat.le_of_ble_eq_true rfl⟩ ⟨Nat.le_refl _, Nat.le_refl _⟩ (by decide +kernel) (fun q1 _ => ?_)
  refine ef_J (X := fun j2 => ∀ (s3 : eh_F), eh_Sim g eM_7_jump (eh_R 3 0 0) eh_eV 0 0 19 [none, none, none] [] (eh_FW s3) ((j2 s3).bind some)) ?_ (fun j2 Hj2 => ?_)
  · intro s3
    exact es_ret rfl rfl rfl ⟨by decide +kernel, rfl⟩ (Nat.le_refl _) (Nat.le_refl _)
  refine es_eq (tgt := 19) (off := (14)) (by decide +kernel) (by decide) (fun h4 => ?_) (fun h4 => ?_)
  · refine ef_drop (L2 := [none, none, none]) [false, false, false] rfl rfl ?_
    exact Hj2 _
  refine es_blk (pc' := 11) (L' := [some (.ref 124), some (.int p0), some (.int p1)]) (st' := [.ref 124, .int p0, .ref 124]) [(.aload_n 0, 0), (.iload_n 1, 0), (.aload_n 0, 0)] (by decide +kernel) rfl rfl ?_
  refine ef_getI (k := 124) (j := 8) rfl eL_7_122 (by decide) (by decide +kernel) ?_
  refine es_blk (pc' := 16) (L' := [some (.ref 124), some (.int p0), some (.int p1)]) (st' := [.int ((q1.2.1 124 8) + 4), .int p0, .ref 124]) [(.iconst 4, 4), (.iadd, 0)] (by decide +kernel) rfl rfl ?_
  refine ef_veV (d := 1) (k := 124) (As := [.int p0, .int ((q1.2.1 124 8) + 4)]) (st := []) eV_7_put eK_7_165 (eS_7_put g q1.2 p0 ((q1.2.1 124 8) + 4)) rfl rfl (Nat.le_of_ble_eq_true rfl) rfl (Nat.le_of_ble_eq_true rfl) ⟨Nat.le_of_ble_eq_true rfl, Nat.le_of_ble_eq_true rfl⟩ ⟨Nat.le_refl _, Nat.le_refl _⟩ (by decide +kernel) (fun q5 _ => ?_)
  refine ef_drop (L2 := [none, none, none]) [false, false, false] rfl rfl ?_
  exact Hj2 _
def eF_7_branch (s : eh_F) (p0 : Int32) : Option (eh_F) := eh_V (((eh_ushr p0 12) &&& 7) : Int32) (fun x1 => eh_J (fun (u3 : Unit) => Option.bind (eF_7_fail s 2 p0) (fun q4 => some q4)) (fun j2 => if x1 = 2 then (j2 ()) else (if x1 = 3 then (j2 ()) else (Option.bind (eF_7_leftOf s p0) (fun q7 => Option.bind (eF_7_rightOf s p0) (fun q8 => eh_J (fun (a10 : Int32) => eh_J (fun (a12 : Int32) => eh_J (fun (s14 : eh_F) => some s14) (fun j13 => if a10 = a12 then (Option.bind (eF_7_offsetB s p0) (fun q16 => Option.bind (eF_7_goTo s ((s.1 124 8) + q16)) (fun q17 => j13 q17.2))) else (j13 s))) (fun j11 => if (x1 &&& 1) = 0 then (j11 1) else (j11 0))) (fun j9 => if x1 < 2 then (eh_J (fun (a21 : Int32) => j9 a21) (fun j20 => if q7 = q8 then (j20 1) else (j20 0))) else (if x1 < 6 then (eh_J (fun (a25 : Int32) => j9 a25) (fun j24 => if q7 < q8 then (j24 1) else (j24 0))) else (Option.bind (eF_11_isBelow s q7 q8) (fun q27 => j9 q27))))))))))
set_option maxHeartbeats 4000000 in
set_option maxRecDepth 100000 in
theorem eS_7_branch (g : eh_P) (s : eh_F) (p0 : Int32) : eh_Sim g eM_7_branch (eh_R 3 0 0) eh_eV 0 0 0 (eh_en 6 [.ref 124, .int p0]) [] (eh_FW s) (eF_7_branch s p0) := by
  unfold eF_7_branch
  refine ef_top (L := [some (.ref 124), some (.int p0), none, none, none, none]) rfl ?_
  refine es_blk (pc' := 8) (L' := [some (.ref 124), some (.int p0), some (.int ((eh_ushr p0 12) &&& 7)), none, none, none]) (st' := []) [(.iload_n 1, 0), (.bipush 12, 12), (.iushr, 0), (.bipush 7, 7), (.iand, 0), (.istore_n 2, 0)] (by decide +kernel) rfl rfl ?_
  refine ef_V (fun x1 => [some (.ref 124), some (.int p0), some (.int x1), none, none, none]) (fun _ => []) (fun _ => eh_FW s) (fun x1 => ?_)
  refine es_blk (pc' := 10) (L' := [some (.ref 124), some (.int p0), some (.int x1), none, none, none]) (st' := [.int 2, .int x1]) [(.iload_n 2, 0), (.iconst 2, 2)] (by decide +kernel) rfl rfl ?_
  refine ef_J (X := fun j2 => ∀ (u3 : Unit), eh_Sim g eM_7_branch (eh_R 3 0 0) eh_eV 0 0 18 [some (.ref 124), some (.int p0), none, none, none, none] [] (eh_FW s) ((j2 u3).bind some)) ?_ (fun j2 Hj2 => ?_)
  · intro u3
    refine es_blk (pc' := 21) (L' := [some (.ref 124), some (.int p0), none, none, none, none]) (st' := [.int p0, .int 2, .ref 124]) [(.aload_n 0, 0), (.iconst 2, 2), (.iload_n 1, 0)] (by decide +kernel) rfl rfl ?_
    refine ef_veV (d := 1) (k := 124) (As := [.int 2, .int p0]) (st := []) eV_7_fail eK_7_201 (eS_7_fail g s 2 p0) rfl rfl (Nat.le_of_ble_eq_true rfl) rfl (Nat.le_of_ble_eq_true rfl) ⟨Nat.le_of_ble_eq_true rfl, Nat.le_of_ble_eq_true rfl⟩ ⟨Nat.le_refl _, Nat.le_refl _⟩ (by decide +kernel) (fun q4 _ => ?_)
    exact es_ret rfl rfl rfl ⟨by decide +kernel, rfl⟩ (Nat.le_refl _) (Nat.le_refl _)
  refine es_ieq (tgt := 18) (off := (8)) (by decide +kernel) (by decide) (fun h5 => ?_) (fun h5 => ?_)
  · refine ef_drop (L2 := [some (.ref 124), some (.int p0), none, none, none, none]) [true, true, false, true, true, true] rfl rfl ?_
    exact Hj2 ()
  refine es_blk (pc' := 15) (L' := [some (.ref 124), some (.int p0), some (.int x1), none, none, none]) (st' := [.int 3, .int x1]) [(.iload_n 2, 0), (.iconst 3, 3)] (by decide +kernel) rfl rfl ?_
  refine es_ine (tgt := 25) (off := (10)) (by decide +kernel) (by decide) (fun h6 => ?_) (fun h6 => ?_)
  · refine ef_drop (L2 := [some (.ref 124), some (.int p0), none, none, none, none]) [true, true, false, true, true, true] rfl rfl ?_
    exact Hj2 ()
  refine es_blk (pc' := 27) (L' := [some (.ref 124), some (.int p0), some (.int x1), none, none, none]) (st' := [.int p0, .ref 124]) [(.aload_n 0, 0), (.iload_n 1, 0)] (by decide +kernel) rfl rfl ?_
  refine ef_vpI (d := 1) (k := 124) (As := [.int p0]) (st := []) eV_7_leftOf eK_7_208 (eS_7_leftOf g s p0) rfl rfl (Nat.le_of_ble_eq_true rfl) rfl (Nat.le_of_ble_eq_true rfl) ⟨Nat.le_of_ble_eq_true rfl, Nat.le_of_ble_eq_true rfl⟩ ⟨Nat.le_refl _, Nat.le_refl _⟩ (by decide +kernel) (fun q7 _ => ?_)
  refine es_blk (pc' := 33) (L' := [some (.ref 124), some (.int p0), some (.int x1), some (.int q7), none, none]) (st' := [.int p0, .ref 124]) [(.istore_n 3, 0), (.aload_n 0, 0), (.iload_n 1, 0)] (by decide +kernel) rfl rfl ?_
  refine ef_vpI (d := 1) (k := 124) (As := [.int p0]) (st := []) eV_7_rightOf eK_7_211 (eS_7_rightOf g s p0) rfl rfl (Nat.le_of_ble_eq_true rfl) rfl (Nat.le_of_ble_eq_true rfl) ⟨Nat.le_of_ble_eq_true rfl, Nat.le_of_ble_eq_true rfl⟩ ⟨Nat.le_refl _, Nat.le_refl _⟩ (by decide +kernel) (fun q8 _ => ?_)
  refine es_blk (pc' := 40) (L' := [some (.ref 124), some (.int p0), some (.int x1), some (.int q7), some (.int q8), none]) (st' := [.int 2, .int x1]) [(.istore 4, 0), (.iload_n 2, 0), (.iconst 2, 2)] (by decide +kernel) rfl rfl ?_
  refine ef_J (X := fun j9 => ∀ (a10 : Int32), eh_Sim g eM_7_branch (eh_R 3 0 0) eh_eV 0 0 89 [some (.ref 124), some (.int p0), some (.int x1), none, none, some (.int a10)] [] (eh_FW s) ((j9 a10).bind some)) ?_ (fun j9 Hj9 => ?_)
  · intro a10
    refine es_blk (pc' := 94) (L' := [some (.ref 124), some (.int p0), some (.int x1), none, none, some (.int a10)]) (st' := [.int (x1 &&& 1), .int a10]) [(.iload 5, 0), (.iload_n 2, 0), (.iconst 1, 1), (.iand, 0)] (by decide +kernel) rfl rfl ?_
    refine ef_J (X := fun j11 => ∀ (a12 : Int32), eh_Sim g eM_7_branch (eh_R 3 0 0) eh_eV 0 0 102 [some (.ref 124), some (.int p0), none, none, none, none] [.int a12, .int a10] (eh_FW s) ((j11 a12).bind some)) ?_ (fun j11 Hj11 => ?_)
    · intro a12
      refine ef_J (X := fun j13 => ∀ (s14 : eh_F), eh_Sim g eM_7_branch (eh_R 3 0 0) eh_eV 0 0 119 [none, none, none, none, none, none] [] (eh_FW s14) ((j13 s14).bind some)) ?_ (fun j13 Hj13 => ?_)
      · intro s14
        exact es_ret rfl rfl rfl ⟨by decide +kernel, rfl⟩ (Nat.le_refl _) (Nat.le_refl _)
      refine es_ine (tgt := 119) (off := (17)) (by decide +kernel) (by decide) (fun h15 => ?_) (fun h15 => ?_)
      · refine es_blk (pc' := 107) (L' := [some (.ref 124), some (.int p0), none, none, none, none]) (st' := [.ref 124, .ref 124]) [(.aload_n 0, 0), (.aload_n 0, 0)] (by decide +kernel) rfl rfl ?_
        refine ef_getI (k := 124) (j := 8) rfl eL_7_122 (by decide) (by decide +kernel) ?_
        refine es_blk (pc' := 111) (L' := [some (.ref 124), some (.int p0), none, none, none, none]) (st' := [.int p0, .int (s.1 124 8), .ref 124]) [(.iload_n 1, 0)] (by decide +kernel) rfl rfl ?_
        refine ef_spI (d := 1) (As := [.int p0]) (st := [.int (s.1 124 8), .ref 124]) eV_7_offsetB eK_7_218 (eS_7_offsetB g s p0) rfl (Nat.le_of_ble_eq_true rfl) rfl (Nat.le_of_ble_eq_true rfl) ⟨Nat.le_of_ble_eq_true rfl, Nat.le_of_ble_eq_true rfl⟩ ⟨Nat.le_refl _, Nat.le_refl _⟩ (by decide +kernel) (fun q16 _ => ?_)
        refine es_blk (pc' := 115) (L' := [some (.ref 124), some (.int p0), none, none, none, none]) (st' := [.int ((s.1 124 8) + q16), .ref 124]) [(.iadd, 0)] (by decide +kernel) rfl rfl ?_
        refine ef_veI (d := 2) (k := 124) (As := [.int ((s.1 124 8) + q16)]) (st := []) eV_7_goTo eK_7_205 (eS_7_goTo g s ((s.1 124 8) + q16)) rfl rfl (Nat.le_of_ble_eq_true rfl) rfl (Nat.le_of_ble_eq_true rfl) ⟨Nat.le_of_ble_eq_true rfl, Nat.le_of_ble_eq_true rfl⟩ ⟨Nat.le_refl _, Nat.le_refl _⟩ (by decide +kernel) (fun q17 _ => ?_)
        refine es_blk (pc' := 119) (L' := [some (.ref 124), some (.int p0), none, none, none, none]) (st' := []) [(.pop, 0)] (by decide +kernel) rfl rfl ?_
        refine ef_drop (L2 := [none, none, none, none, none, none]) [false, false, true, true, true, true] rfl rfl ?_
        exact Hj13 _
      refine ef_drop (L2 := [none, none, none, none, none, none]) [false, false, true, true, true, true] rfl rfl ?_
      exact Hj13 _
    refine es_ne (tgt := 101) (off := (7)) (by decide +kernel) (by decide) (fun h18 => ?_) (fun h18 => ?_)
    · refine es_blk (pc' := 98) (L' := [some (.ref 124), some (.int p0), some (.int x1), none, none, some (.int a10)]) (st' := [.int 1, .int a10]) [(.iconst 1, 1)] (by decide +kernel) rfl rfl ?_
      refine es_goto (tgt := 102) (off := (4)) (by decide +kernel) (by decide) ?_
      refine ef_drop (L2 := [some (.ref 124), some (.int p0), none, none, none, none]) [true, true, false, true, true, false] rfl rfl ?_
      exact Hj11 _
    refine es_blk (pc' := 102) (L' := [some (.ref 124), some (.int p0), some (.int x1), none, none, some (.int a10)]) (st' := [.int 0, .int a10]) [(.iconst 0, 0)] (by decide +kernel) rfl rfl ?_
    refine ef_drop (L2 := [some (.ref 124), some (.int p0), none, none, none, none]) [true, true, false, true, true, false] rfl rfl ?_
    exact Hj11 _
  refine es_ige (tgt := 59) (off := (19)) (by decide +kernel) (by decide) (fun h19 => ?_) (fun h19 => ?_)
  · refine es_blk (pc' := 46) (L' := [some (.ref 124), some (.int p0), some (.int x1), some (.int q7), some (.int q8), none]) (st' := [.int q8, .int q7]) [(.iload_n 3, 0), (.iload 4, 0)] (by decide +kernel) rfl rfl ?_
    refine ef_J (X := fun j20 => ∀ (a21 : Int32), eh_Sim g eM_7_branch (eh_R 3 0 0) eh_eV 0 0 54 [some (.ref 124), some (.int p0), some (.int x1), none, none, none] [.int a21] (eh_FW s) ((j20 a21).bind some)) ?_ (fun j20 Hj20 => ?_)
    · intro a21
      refine es_blk (pc' := 56) (L' := [some (.ref 124), some (.int p0), some (.int x1), none, none, some (.int a21)]) (st' := []) [(.istore 5, 0)] (by decide +kernel) rfl rfl ?_
      refine es_goto (tgt := 89) (off := (33)) (by decide +kernel) (by decide) ?_
      exact Hj9 _
    refine es_ine (tgt := 53) (off := (7)) (by decide +kernel) (by decide) (fun h22 => ?_) (fun h22 => ?_)
    · refine es_blk (pc' := 50) (L' := [some (.ref 124), some (.int p0), some (.int x1), some (.int q7), some (.int q8), none]) (st' := [.int 1]) [(.iconst 1, 1)] (by decide +kernel) rfl rfl ?_
      refine es_goto (tgt := 54) (off := (4)) (by decide +kernel) (by decide) ?_
      refine ef_drop (L2 := [some (.ref 124), some (.int p0), some (.int x1), none, none, none]) [true, true, true, false, false, true] rfl rfl ?_
      exact Hj20 _
    refine es_blk (pc' := 54) (L' := [some (.ref 124), some (.int p0), some (.int x1), some (.int q7), some (.int q8), none]) (st' := [.int 0]) [(.iconst 0, 0)] (by decide +kernel) rfl rfl ?_
    refine ef_drop (L2 := [some (.ref 124), some (.int p0), some (.int x1), none, none, none]) [true, true, true, false, false, true] rfl rfl ?_
    exact Hj20 _
  refine es_blk (pc' := 62) (L' := [some (.ref 124), some (.int p0), some (.int x1), some (.int q7), some (.int q8), none]) (st' := [.int 6, .int x1]) [(.iload_n 2, 0), (.bipush 6, 6)] (by decide +kernel) rfl rfl ?_
  refine es_ige (tgt := 81) (off := (19)) (by decide +kernel) (by decide) (fun h23 => ?_) (fun h23 => ?_)
  · refine es_blk (pc' := 68) (L' := [some (.ref 124), some (.int p0), some (.int x1), some (.int q7), some (.int q8), none]) (st' := [.int q8, .int q7]) [(.iload_n 3, 0), (.iload 4, 0)] (by decide +kernel) rfl rfl ?_
    refine ef_J (X := fun j24 => ∀ (a25 : Int32), eh_Sim g eM_7_branch (eh_R 3 0 0) eh_eV 0 0 76 [some (.ref 124), some (.int p0), some (.int x1), none, none, none] [.int a25] (eh_FW s) ((j24 a25).bind some)) ?_ (fun j24 Hj24 => ?_)
    · intro a25
      refine es_blk (pc' := 78) (L' := [some (.ref 124), some (.int p0), some (.int x1), none, none, some (.int a25)]) (st' := []) [(.istore 5, 0)] (by decide +kernel) rfl rfl ?_
      refine es_goto (tgt := 89) (off := (11)) (by decide +kernel) (by decide) ?_
      exact Hj9 _
    refine es_ige (tgt := 75) (off := (7)) (by decide +kernel) (by decide) (fun h26 => ?_) (fun h26 => ?_)
    · refine es_blk (pc' := 72) (L' := [some (.ref 124), some (.int p0), some (.int x1), some (.int q7), some (.int q8), none]) (st' := [.int 1]) [(.iconst 1, 1)] (by decide +kernel) rfl rfl ?_
      refine es_goto (tgt := 76) (off := (4)) (by decide +kernel) (by decide) ?_
      refine ef_drop (L2 := [some (.ref 124), some (.int p0), some (.int x1), none, none, none]) [true, true, true, false, false, true] rfl rfl ?_
      exact Hj24 _
    refine es_blk (pc' := 76) (L' := [some (.ref 124), some (.int p0), some (.int x1), some (.int q7), some (.int q8), none]) (st' := [.int 0]) [(.iconst 0, 0)] (by decide +kernel) rfl rfl ?_
    refine ef_drop (L2 := [some (.ref 124), some (.int p0), some (.int x1), none, none, none]) [true, true, true, false, false, true] rfl rfl ?_
    exact Hj24 _
  refine es_blk (pc' := 84) (L' := [some (.ref 124), some (.int p0), some (.int x1), some (.int q7), some (.int q8), none]) (st' := [.int q8, .int q7]) [(.iload_n 3, 0), (.iload 4, 0)] (by decide +kernel) rfl rfl ?_
  refine ef_snI (d := 1) (As := [.int q7, .int q8]) (st := []) eV_11_isBelow eN_7_214 (eS_11_isBelow g s q7 q8) rfl (Nat.le_of_ble_eq_true rfl) rfl (Nat.le_of_ble_eq_true rfl) ⟨Nat.le_of_ble_eq_true rfl, Nat.le_of_ble_eq_true rfl⟩ ⟨Nat.le_refl _, Nat.le_refl _⟩ (by decide +kernel) (fun q27 _ => ?_)
  refine es_blk (pc' := 89) (L' := [some (.ref 124), some (.int p0), some (.int x1), some (.int q7), some (.int q8), some (.int q27)]) (st' := []) [(.istore 5, 0)] (by decide +kernel) rfl rfl ?_
  refine ef_drop (L2 := [some (.ref 124), some (.int p0), some (.int x1), none, none, some (.int q27)]) [true, true, true, false, false, true] rfl rfl ?_
  exact Hj9 _
def eF_7_reckonWithNumber (s : eh_F) (p0 : Int32) : Option (eh_F) := eh_V (((eh_ushr p0 12) &&& 7) : Int32) (fun x1 => eh_V ((eh_ushr p0 25) : Int32) (fun x2 => eh_J (fun (a4 : Int32) => eh_J (fun (u6 : Unit) => eh_J (fun (a8 : Int32) => eh_J (fun (a10 : Int32) => Option.bind (eF_7_leftOf s p0) (fun q11 => Option.bind (eF_7_reckoned s x1 a10 q11 a8) (fun q12 => Option.bind (eF_7_put s p0 q12) (fun q13 => some q13)))) (fun j9 => eh_J (fun (u15 : Unit) => j9 0) (fun j14 => if a4 = 0 then (j14 ()) else (if x2 = 32 then (j9 1) else (j14 ()))))) (fun j7 => if a4 = 0 then (j7 (eh_shr p0 20)) else (j7 ((eh_ushr p0 20) &&& 31)))) (fun j5 => if a4 = 0 then (j5 ()) else (if x2 = 0 then (j5 ()) else (eh_J (fun (u22 : Unit) => Option.bind (eF_7_fail s 2 p0) (fun q23 => some q23)) (fun j21 => if x1 = 5 then (if x2 = 32 then (j5 ()) else (j21 ())) else (j21 ())))))) (fun j3 => eh_J (fun (u27 : Unit) => j3 1) (fun j26 => if x1 = 1 then (j26 ()) else (if x1 = 5 then (j26 ()) else (j3 0))))))
set_option maxHeartbeats 4000000 in
set_option maxRecDepth 100000 in
theorem eS_7_reckonWithNumber (g : eh_P) (s : eh_F) (p0 : Int32) : eh_Sim g eM_7_reckonWithNumber (eh_R 3 0 0) eh_eV 0 0 0 (eh_en 6 [.ref 124, .int p0]) [] (eh_FW s) (eF_7_reckonWithNumber s p0) := by
  unfold eF_7_reckonWithNumber
  refine ef_top (L := [some (.ref 124), some (.int p0), none, none, none, none]) rfl ?_
  refine es_blk (pc' := 8) (L' := [some (.ref 124), some (.int p0), some (.int ((eh_ushr p0 12) &&& 7)), none, none, none]) (st' := []) [(.iload_n 1, 0), (.bipush 12, 12), (.iushr, 0), (.bipush 7, 7), (.iand, 0), (.istore_n 2, 0)] (by decide +kernel) rfl rfl ?_
  refine ef_V (fun x1 => [some (.ref 124), some (.int p0), some (.int x1), none, none, none]) (fun _ => []) (fun _ => eh_FW s) (fun x1 => ?_)
  refine es_blk (pc' := 13) (L' := [some (.ref 124), some (.int p0), some (.int x1), some (.int (eh_ushr p0 25)), none, none]) (st' := []) [(.iload_n 1, 0), (.bipush 25, 25), (.iushr, 0), (.istore_n 3, 0)] (by decide +kernel) rfl rfl ?_
  refine ef_V (fun x2 => [some (.ref 124), some (.int p0), some (.int x1), some (.int x2), none, none]) (fun _ => []) (fun _ => eh_FW s) (fun x2 => ?_)
  refine es_blk (pc' := 15) (L' := [some (.ref 124), some (.int p0), some (.int x1), some (.int x2), none, none]) (st' := [.int 1, .int x1]) [(.iload_n 2, 0), (.iconst 1, 1)] (by decide +kernel) rfl rfl ?_
  refine ef_J (X := fun j3 => ∀ (a4 : Int32), eh_Sim g eM_7_reckonWithNumber (eh_R 3 0 0) eh_eV 0 0 28 [some (.ref 124), some (.int p0), some (.int x1), some (.int x2), none, none] [.int a4] (eh_FW s) ((j3 a4).bind some)) ?_ (fun j3 Hj3 => ?_)
  · intro a4
    refine es_blk (pc' := 32) (L' := [some (.ref 124), some (.int p0), some (.int x1), some (.int x2), some (.int a4), none]) (st' := [.int a4]) [(.istore 4, 0), (.iload 4, 0)] (by decide +kernel) rfl rfl ?_
    refine ef_J (X := fun j5 => ∀ (u6 : Unit), eh_Sim g eM_7_reckonWithNumber (eh_R 3 0 0) eh_eV 0 0 57 [some (.ref 124), some (.int p0), some (.int x1), some (.int x2), some (.int a4), none] [] (eh_FW s) ((j5 u6).bind some)) ?_ (fun j5 Hj5 => ?_)
    · intro u6
      refine es_blk (pc' := 59) (L' := [some (.ref 124), some (.int p0), some (.int x1), some (.int x2), some (.int a4), none]) (st' := [.int a4]) [(.iload 4, 0)] (by decide +kernel) rfl rfl ?_
      refine ef_J (X := fun j7 => ∀ (a8 : Int32), eh_Sim g eM_7_reckonWithNumber (eh_R 3 0 0) eh_eV 0 0 76 [some (.ref 124), some (.int p0), some (.int x1), some (.int x2), some (.int a4), none] [.int a8] (eh_FW s) ((j7 a8).bind some)) ?_ (fun j7 Hj7 => ?_)
      · intro a8
        refine es_blk (pc' := 83) (L' := [some (.ref 124), some (.int p0), some (.int x1), some (.int x2), some (.int a4), some (.int a8)]) (st' := [.int a4, .int x1, .int p0, .ref 124]) [(.istore 5, 0), (.aload_n 0, 0), (.iload_n 1, 0), (.iload_n 2, 0), (.iload 4, 0)] (by decide +kernel) rfl rfl ?_
        refine ef_J (X := fun j9 => ∀ (a10 : Int32), eh_Sim g eM_7_reckonWithNumber (eh_R 3 0 0) eh_eV 0 0 97 [some (.ref 124), some (.int p0), none, none, none, some (.int a8)] [.int a10, .int x1, .int p0, .ref 124] (eh_FW s) ((j9 a10).bind some)) ?_ (fun j9 Hj9 => ?_)
        · intro a10
          refine es_blk (pc' := 99) (L' := [some (.ref 124), some (.int p0), none, none, none, some (.int a8)]) (st' := [.int p0, .ref 124, .int a10, .int x1, .int p0, .ref 124]) [(.aload_n 0, 0), (.iload_n 1, 0)] (by decide +kernel) rfl rfl ?_
          refine ef_vpI (d := 1) (k := 124) (As := [.int p0]) (st := [.int a10, .int x1, .int p0, .ref 124]) eV_7_leftOf eK_7_208 (eS_7_leftOf g s p0) rfl rfl (Nat.le_of_ble_eq_true rfl) rfl (Nat.le_of_ble_eq_true rfl) ⟨Nat.le_of_ble_eq_true rfl, Nat.le_of_ble_eq_true rfl⟩ ⟨Nat.le_refl _, Nat.le_refl _⟩ (by decide +kernel) (fun q11 _ => ?_)
          refine es_blk (pc' := 104) (L' := [some (.ref 124), some (.int p0), none, none, none, some (.int a8)]) (st' := [.int a8, .int q11, .int a10, .int x1, .int p0, .ref 124]) [(.iload 5, 0)] (by decide +kernel) rfl rfl ?_
          refine ef_spI (d := 2) (As := [.int x1, .int a10, .int q11, .int a8]) (st := [.int p0, .ref 124]) eV_7_reckoned eK_7_232 (eS_7_reckoned g s x1 a10 q11 a8) rfl (Nat.le_of_ble_eq_true rfl) rfl (Nat.le_of_ble_eq_true rfl) ⟨Nat.le_of_ble_eq_true rfl, Nat.le_of_ble_eq_true rfl⟩ ⟨Nat.le_refl _, Nat.le_refl _⟩ (by decide +kernel) (fun q12 _ => ?_)
          refine ef_veV (d := 1) (k := 124) (As := [.int p0, .int q12]) (st := []) eV_7_put eK_7_165 (eS_7_put g s p0 q12) rfl rfl (Nat.le_of_ble_eq_true rfl) rfl (Nat.le_of_ble_eq_true rfl) ⟨Nat.le_of_ble_eq_true rfl, Nat.le_of_ble_eq_true rfl⟩ ⟨Nat.le_refl _, Nat.le_refl _⟩ (by decide +kernel) (fun q13 _ => ?_)
          exact es_ret rfl rfl rfl ⟨by decide +kernel, rfl⟩ (Nat.le_refl _) (Nat.le_refl _)
        refine ef_J (X := fun j14 => ∀ (u15 : Unit), eh_Sim g eM_7_reckonWithNumber (eh_R 3 0 0) eh_eV 0 0 96 [some (.ref 124), some (.int p0), none, none, none, some (.int a8)] [.int x1, .int p0, .ref 124] (eh_FW s) ((j14 u15).bind some)) ?_ (fun j14 Hj14 => ?_)
        · intro u15
          refine es_blk (pc' := 97) (L' := [some (.ref 124), some (.int p0), none, none, none, some (.int a8)]) (st' := [.int 0, .int x1, .int p0, .ref 124]) [(.iconst 0, 0)] (by decide +kernel) rfl rfl ?_
          exact Hj9 _
        refine es_eq (tgt := 96) (off := (13)) (by decide +kernel) (by decide) (fun h16 => ?_) (fun h16 => ?_)
        · refine ef_drop (L2 := [some (.ref 124), some (.int p0), none, none, none, some (.int a8)]) [true, true, false, false, false, true] rfl rfl ?_
          exact Hj14 ()
        refine es_blk (pc' := 89) (L' := [some (.ref 124), some (.int p0), some (.int x1), some (.int x2), some (.int a4), some (.int a8)]) (st' := [.int 32, .int x2, .int x1, .int p0, .ref 124]) [(.iload_n 3, 0), (.bipush 32, 32)] (by decide +kernel) rfl rfl ?_
        refine es_ine (tgt := 96) (off := (7)) (by decide +kernel) (by decide) (fun h17 => ?_) (fun h17 => ?_)
        · refine es_blk (pc' := 93) (L' := [some (.ref 124), some (.int p0), some (.int x1), some (.int x2), some (.int a4), some (.int a8)]) (st' := [.int 1, .int x1, .int p0, .ref 124]) [(.iconst 1, 1)] (by decide +kernel) rfl rfl ?_
          refine es_goto (tgt := 97) (off := (4)) (by decide +kernel) (by decide) ?_
          refine ef_drop (L2 := [some (.ref 124), some (.int p0), none, none, none, some (.int a8)]) [true, true, false, false, false, true] rfl rfl ?_
          exact Hj9 _
        refine ef_drop (L2 := [some (.ref 124), some (.int p0), none, none, none, some (.int a8)]) [true, true, false, false, false, true] rfl rfl ?_
        exact Hj14 ()
      refine es_eq (tgt := 72) (off := (13)) (by decide +kernel) (by decide) (fun h18 => ?_) (fun h18 => ?_)
      · refine es_blk (pc' := 76) (L' := [some (.ref 124), some (.int p0), some (.int x1), some (.int x2), some (.int a4), none]) (st' := [.int (eh_shr p0 20)]) [(.iload_n 1, 0), (.bipush 20, 20), (.ishr, 0)] (by decide +kernel) rfl rfl ?_
        exact Hj7 _
      refine es_blk (pc' := 69) (L' := [some (.ref 124), some (.int p0), some (.int x1), some (.int x2), some (.int a4), none]) (st' := [.int ((eh_ushr p0 20) &&& 31)]) [(.iload_n 1, 0), (.bipush 20, 20), (.iushr, 0), (.bipush 31, 31), (.iand, 0)] (by decide +kernel) rfl rfl ?_
      refine es_goto (tgt := 76) (off := (7)) (by decide +kernel) (by decide) ?_
      exact Hj7 _
    refine es_eq (tgt := 57) (off := (25)) (by decide +kernel) (by decide) (fun h19 => ?_) (fun h19 => ?_)
    · exact Hj5 ()
    refine es_blk (pc' := 36) (L' := [some (.ref 124), some (.int p0), some (.int x1), some (.int x2), some (.int a4), none]) (st' := [.int x2]) [(.iload_n 3, 0)] (by decide +kernel) rfl rfl ?_
    refine es_eq (tgt := 57) (off := (21)) (by decide +kernel) (by decide) (fun h20 => ?_) (fun h20 => ?_)
    · exact Hj5 ()
    refine es_blk (pc' := 41) (L' := [some (.ref 124), some (.int p0), some (.int x1), some (.int x2), some (.int a4), none]) (st' := [.int 5, .int x1]) [(.iload_n 2, 0), (.iconst 5, 5)] (by decide +kernel) rfl rfl ?_
    refine ef_J (X := fun j21 => ∀ (u22 : Unit), eh_Sim g eM_7_reckonWithNumber (eh_R 3 0 0) eh_eV 0 0 50 [some (.ref 124), some (.int p0), none, none, none, none] [] (eh_FW s) ((j21 u22).bind some)) ?_ (fun j21 Hj21 => ?_)
    · intro u22
      refine es_blk (pc' := 53) (L' := [some (.ref 124), some (.int p0), none, none, none, none]) (st' := [.int p0, .int 2, .ref 124]) [(.aload_n 0, 0), (.iconst 2, 2), (.iload_n 1, 0)] (by decide +kernel) rfl rfl ?_
      refine ef_veV (d := 1) (k := 124) (As := [.int 2, .int p0]) (st := []) eV_7_fail eK_7_201 (eS_7_fail g s 2 p0) rfl rfl (Nat.le_of_ble_eq_true rfl) rfl (Nat.le_of_ble_eq_true rfl) ⟨Nat.le_of_ble_eq_true rfl, Nat.le_of_ble_eq_true rfl⟩ ⟨Nat.le_refl _, Nat.le_refl _⟩ (by decide +kernel) (fun q23 _ => ?_)
      exact es_ret rfl rfl rfl ⟨by decide +kernel, rfl⟩ (Nat.le_refl _) (Nat.le_refl _)
    refine es_ine (tgt := 50) (off := (9)) (by decide +kernel) (by decide) (fun h24 => ?_) (fun h24 => ?_)
    · refine es_blk (pc' := 47) (L' := [some (.ref 124), some (.int p0), some (.int x1), some (.int x2), some (.int a4), none]) (st' := [.int 32, .int x2]) [(.iload_n 3, 0), (.bipush 32, 32)] (by decide +kernel) rfl rfl ?_
      refine es_ieq (tgt := 57) (off := (10)) (by decide +kernel) (by decide) (fun h25 => ?_) (fun h25 => ?_)
      · exact Hj5 ()
      refine ef_drop (L2 := [some (.ref 124), some (.int p0), none, none, none, none]) [true, true, false, false, false, true] rfl rfl ?_
      exact Hj21 ()
    refine ef_drop (L2 := [some (.ref 124), some (.int p0), none, none, none, none]) [true, true, false, false, false, true] rfl rfl ?_
    exact Hj21 ()
  refine ef_J (X := fun j26 => ∀ (u27 : Unit), eh_Sim g eM_7_reckonWithNumber (eh_R 3 0 0) eh_eV 0 0 23 [some (.ref 124), some (.int p0), some (.int x1), some (.int x2), none, none] [] (eh_FW s) ((j26 u27).bind some)) ?_ (fun j26 Hj26 => ?_)
  · intro u27
    refine es_blk (pc' := 24) (L' := [some (.ref 124), some (.int p0), some (.int x1), some (.int x2), none, none]) (st' := [.int 1]) [(.iconst 1, 1)] (by decide +kernel) rfl rfl ?_
    refine es_goto (tgt := 28) (off := (4)) (by decide +kernel) (by decide) ?_
    exact Hj3 _
  refine es_ieq (tgt := 23) (off := (8)) (by decide +kernel) (by decide) (fun h28 => ?_) (fun h28 => ?_)
  · exact Hj26 ()
  refine es_blk (pc' := 20) (L' := [some (.ref 124), some (.int p0), some (.int x1), some (.int x2), none, none]) (st' := [.int 5, .int x1]) [(.iload_n 2, 0), (.iconst 5, 5)] (by decide +kernel) rfl rfl ?_
  refine es_ine (tgt := 27) (off := (7)) (by decide +kernel) (by decide) (fun h29 => ?_) (fun h29 => ?_)
  · exact Hj26 ()
  refine es_blk (pc' := 28) (L' := [some (.ref 124), some (.int p0), some (.int x1), some (.int x2), none, none]) (st' := [.int 0]) [(.iconst 0, 0)] (by decide +kernel) rfl rfl ?_
  exact Hj3 _
def eF_7_reckonWithRegister (s : eh_F) (p0 : Int32) : Option (eh_F) := eh_V (((eh_ushr p0 12) &&& 7) : Int32) (fun x1 => eh_V ((eh_ushr p0 25) : Int32) (fun x2 => Option.bind (eF_7_leftOf s p0) (fun q3 => Option.bind (eF_7_rightOf s p0) (fun q4 => eh_J (fun (s6 : eh_F) => some s6) (fun j5 => if x2 = 1 then (eh_J (fun (a9 : Int32) => Option.bind (eF_7_put s p0 a9) (fun q10 => j5 q10)) (fun j8 => if x1 < 4 then (Option.bind (eF_7_multiplied s x1 q3 q4) (fun q12 => j8 q12)) else (Option.bind (eF_7_divided s x1 q3 q4) (fun q13 => j8 q13)))) else (eh_J (fun (u15 : Unit) => eh_J (fun (u17 : Unit) => eh_J (fun (a19 : Int32) => Option.bind (eF_7_reckoned s x1 a19 q3 q4) (fun q20 => Option.bind (eF_7_put s p0 q20) (fun q21 => j5 q21))) (fun j18 => if x2 = 32 then (j18 1) else (j18 0))) (fun j16 => if x2 = 0 then (j16 ()) else (eh_J (fun (u25 : Unit) => Option.bind (eF_7_fail s 2 p0) (fun q26 => j5 q26)) (fun j24 => if x2 = 32 then (if x1 = 5 then (j16 ()) else (j24 ())) else (j24 ()))))) (fun j14 => if x2 = 32 then (if x1 = 0 then (Option.bind (eF_7_put s p0 (q3 - q4)) (fun q31 => j5 q31)) else (j14 ())) else (j14 ()))))))))
set_option maxHeartbeats 4000000 in
set_option maxRecDepth 100000 in
theorem eS_7_reckonWithRegister (g : eh_P) (s : eh_F) (p0 : Int32) : eh_Sim g eM_7_reckonWithRegister (eh_R 3 0 0) eh_eV 0 0 0 (eh_en 6 [.ref 124, .int p0]) [] (eh_FW s) (eF_7_reckonWithRegister s p0) := by
  unfold eF_7_reckonWithRegister
  refine ef_top (L := [some (.ref 124), some (.int p0), none, none, none, none]) rfl ?_
  refine es_blk (pc' := 8) (L' := [some (.ref 124), some (.int p0), some (.int ((eh_ushr p0 12) &&& 7)), none, none, none]) (st' := []) [(.iload_n 1, 0), (.bipush 12, 12), (.iushr, 0), (.bipush 7, 7), (.iand, 0), (.istore_n 2, 0)] (by decide +kernel) rfl rfl ?_
  refine ef_V (fun x1 => [some (.ref 124), some (.int p0), some (.int x1), none, none, none]) (fun _ => []) (fun _ => eh_FW s) (fun x1 => ?_)
  refine es_blk (pc' := 13) (L' := [some (.ref 124), some (.int p0), some (.int x1), some (.int (eh_ushr p0 25)), none, none]) (st' := []) [(.iload_n 1, 0), (.bipush 25, 25), (.iushr, 0), (.istore_n 3, 0)] (by decide +kernel) rfl rfl ?_
  refine ef_V (fun x2 => [some (.ref 124), some (.int p0), some (.int x1), some (.int x2), none, none]) (fun _ => []) (fun _ => eh_FW s) (fun x2 => ?_)
  refine es_blk (pc' := 15) (L' := [some (.ref 124), some (.int p0), some (.int x1), some (.int x2), none, none]) (st' := [.int p0, .ref 124]) [(.aload_n 0, 0), (.iload_n 1, 0)] (by decide +kernel) rfl rfl ?_
  refine ef_vpI (d := 1) (k := 124) (As := [.int p0]) (st := []) eV_7_leftOf eK_7_208 (eS_7_leftOf g s p0) rfl rfl (Nat.le_of_ble_eq_true rfl) rfl (Nat.le_of_ble_eq_true rfl) ⟨Nat.le_of_ble_eq_true rfl, Nat.le_of_ble_eq_true rfl⟩ ⟨Nat.le_refl _, Nat.le_refl _⟩ (by decide +kernel) (fun q3 _ => ?_)
  refine es_blk (pc' := 22) (L' := [some (.ref 124), some (.int p0), some (.int x1), some (.int x2), some (.int q3), none]) (st' := [.int p0, .ref 124]) [(.istore 4, 0), (.aload_n 0, 0), (.iload_n 1, 0)] (by decide +kernel) rfl rfl ?_
  refine ef_vpI (d := 1) (k := 124) (As := [.int p0]) (st := []) eV_7_rightOf eK_7_211 (eS_7_rightOf g s p0) rfl rfl (Nat.le_of_ble_eq_true rfl) rfl (Nat.le_of_ble_eq_true rfl) ⟨Nat.le_of_ble_eq_true rfl, Nat.le_of_ble_eq_true rfl⟩ ⟨Nat.le_refl _, Nat.le_refl _⟩ (by decide +kernel) (fun q4 _ => ?_)
  refine es_blk (pc' := 29) (L' := [some (.ref 124), some (.int p0), some (.int x1), some (.int x2), some (.int q3), some (.int q4)]) (st' := [.int 1, .int x2]) [(.istore 5, 0), (.iload_n 3, 0), (.iconst 1, 1)] (by decide +kernel) rfl rfl ?_
  refine ef_J (X := fun j5 => ∀ (s6 : eh_F), eh_Sim g eM_7_reckonWithRegister (eh_R 3 0 0) eh_eV 0 0 135 [none, none, none, none, none, none] [] (eh_FW s6) ((j5 s6).bind some)) ?_ (fun j5 Hj5 => ?_)
  · intro s6
    exact es_ret rfl rfl rfl ⟨by decide +kernel, rfl⟩ (Nat.le_refl _) (Nat.le_refl _)
  refine es_ine (tgt := 64) (off := (35)) (by decide +kernel) (by decide) (fun h7 => ?_) (fun h7 => ?_)
  · refine es_blk (pc' := 36) (L' := [some (.ref 124), some (.int p0), some (.int x1), some (.int x2), some (.int q3), some (.int q4)]) (st' := [.int 4, .int x1, .int p0, .ref 124]) [(.aload_n 0, 0), (.iload_n 1, 0), (.iload_n 2, 0), (.iconst 4, 4)] (by decide +kernel) rfl rfl ?_
    refine ef_J (X := fun j8 => ∀ (a9 : Int32), eh_Sim g eM_7_reckonWithRegister (eh_R 3 0 0) eh_eV 0 0 58 [none, none, none, none, none, none] [.int a9, .int p0, .ref 124] (eh_FW s) ((j8 a9).bind some)) ?_ (fun j8 Hj8 => ?_)
    · intro a9
      refine ef_veV (d := 1) (k := 124) (As := [.int p0, .int a9]) (st := []) eV_7_put eK_7_165 (eS_7_put g s p0 a9) rfl rfl (Nat.le_of_ble_eq_true rfl) rfl (Nat.le_of_ble_eq_true rfl) ⟨Nat.le_of_ble_eq_true rfl, Nat.le_of_ble_eq_true rfl⟩ ⟨Nat.le_refl _, Nat.le_refl _⟩ (by decide +kernel) (fun q10 _ => ?_)
      refine es_goto (tgt := 135) (off := (74)) (by decide +kernel) (by decide) ?_
      exact Hj5 _
    refine es_ige (tgt := 50) (off := (14)) (by decide +kernel) (by decide) (fun h11 => ?_) (fun h11 => ?_)
    · refine es_blk (pc' := 44) (L' := [some (.ref 124), some (.int p0), some (.int x1), some (.int x2), some (.int q3), some (.int q4)]) (st' := [.int q4, .int q3, .int x1, .int p0, .ref 124]) [(.iload_n 2, 0), (.iload 4, 0), (.iload 5, 0)] (by decide +kernel) rfl rfl ?_
      refine ef_spI (d := 1) (As := [.int x1, .int q3, .int q4]) (st := [.int p0, .ref 124]) eV_7_multiplied eK_7_236 (eS_7_multiplied g s x1 q3 q4) rfl (Nat.le_of_ble_eq_true rfl) rfl (Nat.le_of_ble_eq_true rfl) ⟨Nat.le_of_ble_eq_true rfl, Nat.le_of_ble_eq_true rfl⟩ ⟨Nat.le_refl _, Nat.le_refl _⟩ (by decide +kernel) (fun q12 _ => ?_)
      refine es_goto (tgt := 58) (off := (11)) (by decide +kernel) (by decide) ?_
      refine ef_drop (L2 := [none, none, none, none, none, none]) [false, false, false, false, false, false] rfl rfl ?_
      exact Hj8 _
    refine es_blk (pc' := 55) (L' := [some (.ref 124), some (.int p0), some (.int x1), some (.int x2), some (.int q3), some (.int q4)]) (st' := [.int q4, .int q3, .int x1, .int p0, .ref 124]) [(.iload_n 2, 0), (.iload 4, 0), (.iload 5, 0)] (by decide +kernel) rfl rfl ?_
    refine ef_spI (d := 1) (As := [.int x1, .int q3, .int q4]) (st := [.int p0, .ref 124]) eV_7_divided eK_7_239 (eS_7_divided g s x1 q3 q4) rfl (Nat.le_of_ble_eq_true rfl) rfl (Nat.le_of_ble_eq_true rfl) ⟨Nat.le_of_ble_eq_true rfl, Nat.le_of_ble_eq_true rfl⟩ ⟨Nat.le_refl _, Nat.le_refl _⟩ (by decide +kernel) (fun q13 _ => ?_)
    refine ef_drop (L2 := [none, none, none, none, none, none]) [false, false, false, false, false, false] rfl rfl ?_
    exact Hj8 _
  refine es_blk (pc' := 67) (L' := [some (.ref 124), some (.int p0), some (.int x1), some (.int x2), some (.int q3), some (.int q4)]) (st' := [.int 32, .int x2]) [(.iload_n 3, 0), (.bipush 32, 32)] (by decide +kernel) rfl rfl ?_
  refine ef_J (X := fun j14 => ∀ (u15 : Unit), eh_Sim g eM_7_reckonWithRegister (eh_R 3 0 0) eh_eV 0 0 87 [some (.ref 124), some (.int p0), some (.int x1), some (.int x2), some (.int q3), some (.int q4)] [] (eh_FW s) ((j14 u15).bind some)) ?_ (fun j14 Hj14 => ?_)
  · intro u15
    refine es_blk (pc' := 88) (L' := [some (.ref 124), some (.int p0), some (.int x1), some (.int x2), some (.int q3), some (.int q4)]) (st' := [.int x2]) [(.iload_n 3, 0)] (by decide +kernel) rfl rfl ?_
    refine ef_J (X := fun j16 => ∀ (u17 : Unit), eh_Sim g eM_7_reckonWithRegister (eh_R 3 0 0) eh_eV 0 0 102 [some (.ref 124), some (.int p0), some (.int x1), some (.int x2), some (.int q3), some (.int q4)] [] (eh_FW s) ((j16 u17).bind some)) ?_ (fun j16 Hj16 => ?_)
    · intro u17
      refine es_blk (pc' := 108) (L' := [some (.ref 124), some (.int p0), some (.int x1), some (.int x2), some (.int q3), some (.int q4)]) (st' := [.int 32, .int x2, .int x1, .int p0, .ref 124]) [(.aload_n 0, 0), (.iload_n 1, 0), (.iload_n 2, 0), (.iload_n 3, 0), (.bipush 32, 32)] (by decide +kernel) rfl rfl ?_
      refine ef_J (X := fun j18 => ∀ (a19 : Int32), eh_Sim g eM_7_reckonWithRegister (eh_R 3 0 0) eh_eV 0 0 116 [none, none, none, none, some (.int q3), some (.int q4)] [.int a19, .int x1, .int p0, .ref 124] (eh_FW s) ((j18 a19).bind some)) ?_ (fun j18 Hj18 => ?_)
      · intro a19
        refine es_blk (pc' := 120) (L' := [none, none, none, none, some (.int q3), some (.int q4)]) (st' := [.int q4, .int q3, .int a19, .int x1, .int p0, .ref 124]) [(.iload 4, 0), (.iload 5, 0)] (by decide +kernel) rfl rfl ?_
        refine ef_spI (d := 2) (As := [.int x1, .int a19, .int q3, .int q4]) (st := [.int p0, .ref 124]) eV_7_reckoned eK_7_232 (eS_7_reckoned g s x1 a19 q3 q4) rfl (Nat.le_of_ble_eq_true rfl) rfl (Nat.le_of_ble_eq_true rfl) ⟨Nat.le_of_ble_eq_true rfl, Nat.le_of_ble_eq_true rfl⟩ ⟨Nat.le_refl _, Nat.le_refl _⟩ (by decide +kernel) (fun q20 _ => ?_)
        refine ef_veV (d := 1) (k := 124) (As := [.int p0, .int q20]) (st := []) eV_7_put eK_7_165 (eS_7_put g s p0 q20) rfl rfl (Nat.le_of_ble_eq_true rfl) rfl (Nat.le_of_ble_eq_true rfl) ⟨Nat.le_of_ble_eq_true rfl, Nat.le_of_ble_eq_true rfl⟩ ⟨Nat.le_refl _, Nat.le_refl _⟩ (by decide +kernel) (fun q21 _ => ?_)
        refine es_goto (tgt := 135) (off := (9)) (by decide +kernel) (by decide) ?_
        refine ef_drop (L2 := [none, none, none, none, none, none]) [true, true, true, true, false, false] rfl rfl ?_
        exact Hj5 _
      refine es_ine (tgt := 115) (off := (7)) (by decide +kernel) (by decide) (fun h22 => ?_) (fun h22 => ?_)
      · refine es_blk (pc' := 112) (L' := [some (.ref 124), some (.int p0), some (.int x1), some (.int x2), some (.int q3), some (.int q4)]) (st' := [.int 1, .int x1, .int p0, .ref 124]) [(.iconst 1, 1)] (by decide +kernel) rfl rfl ?_
        refine es_goto (tgt := 116) (off := (4)) (by decide +kernel) (by decide) ?_
        refine ef_drop (L2 := [none, none, none, none, some (.int q3), some (.int q4)]) [false, false, false, false, true, true] rfl rfl ?_
        exact Hj18 _
      refine es_blk (pc' := 116) (L' := [some (.ref 124), some (.int p0), some (.int x1), some (.int x2), some (.int q3), some (.int q4)]) (st' := [.int 0, .int x1, .int p0, .ref 124]) [(.iconst 0, 0)] (by decide +kernel) rfl rfl ?_
      refine ef_drop (L2 := [none, none, none, none, some (.int q3), some (.int q4)]) [false, false, false, false, true, true] rfl rfl ?_
      exact Hj18 _
    refine es_eq (tgt := 102) (off := (14)) (by decide +kernel) (by decide) (fun h23 => ?_) (fun h23 => ?_)
    · exact Hj16 ()
    refine es_blk (pc' := 94) (L' := [some (.ref 124), some (.int p0), some (.int x1), some (.int x2), some (.int q3), some (.int q4)]) (st' := [.int 32, .int x2]) [(.iload_n 3, 0), (.bipush 32, 32)] (by decide +kernel) rfl rfl ?_
    refine ef_J (X := fun j24 => ∀ (u25 : Unit), eh_Sim g eM_7_reckonWithRegister (eh_R 3 0 0) eh_eV 0 0 129 [some (.ref 124), some (.int p0), none, none, none, none] [] (eh_FW s) ((j24 u25).bind some)) ?_ (fun j24 Hj24 => ?_)
    · intro u25
      refine es_blk (pc' := 132) (L' := [some (.ref 124), some (.int p0), none, none, none, none]) (st' := [.int p0, .int 2, .ref 124]) [(.aload_n 0, 0), (.iconst 2, 2), (.iload_n 1, 0)] (by decide +kernel) rfl rfl ?_
      refine ef_veV (d := 1) (k := 124) (As := [.int 2, .int p0]) (st := []) eV_7_fail eK_7_201 (eS_7_fail g s 2 p0) rfl rfl (Nat.le_of_ble_eq_true rfl) rfl (Nat.le_of_ble_eq_true rfl) ⟨Nat.le_of_ble_eq_true rfl, Nat.le_of_ble_eq_true rfl⟩ ⟨Nat.le_refl _, Nat.le_refl _⟩ (by decide +kernel) (fun q26 _ => ?_)
      refine ef_drop (L2 := [none, none, none, none, none, none]) [false, false, true, true, true, true] rfl rfl ?_
      exact Hj5 _
    refine es_ine (tgt := 129) (off := (35)) (by decide +kernel) (by decide) (fun h27 => ?_) (fun h27 => ?_)
    · refine es_blk (pc' := 99) (L' := [some (.ref 124), some (.int p0), some (.int x1), some (.int x2), some (.int q3), some (.int q4)]) (st' := [.int 5, .int x1]) [(.iload_n 2, 0), (.iconst 5, 5)] (by decide +kernel) rfl rfl ?_
      refine es_ine (tgt := 129) (off := (30)) (by decide +kernel) (by decide) (fun h28 => ?_) (fun h28 => ?_)
      · exact Hj16 ()
      refine ef_drop (L2 := [some (.ref 124), some (.int p0), none, none, none, none]) [true, true, false, false, false, false] rfl rfl ?_
      exact Hj24 ()
    refine ef_drop (L2 := [some (.ref 124), some (.int p0), none, none, none, none]) [true, true, false, false, false, false] rfl rfl ?_
    exact Hj24 ()
  refine es_ine (tgt := 87) (off := (20)) (by decide +kernel) (by decide) (fun h29 => ?_) (fun h29 => ?_)
  · refine es_blk (pc' := 71) (L' := [some (.ref 124), some (.int p0), some (.int x1), some (.int x2), some (.int q3), some (.int q4)]) (st' := [.int x1]) [(.iload_n 2, 0)] (by decide +kernel) rfl rfl ?_
    refine es_ne (tgt := 87) (off := (16)) (by decide +kernel) (by decide) (fun h30 => ?_) (fun h30 => ?_)
    · refine es_blk (pc' := 81) (L' := [some (.ref 124), some (.int p0), some (.int x1), some (.int x2), some (.int q3), some (.int q4)]) (st' := [.int (q3 - q4), .int p0, .ref 124]) [(.aload_n 0, 0), (.iload_n 1, 0), (.iload 4, 0), (.iload 5, 0), (.isub, 0)] (by decide +kernel) rfl rfl ?_
      refine ef_veV (d := 1) (k := 124) (As := [.int p0, .int (q3 - q4)]) (st := []) eV_7_put eK_7_165 (eS_7_put g s p0 (q3 - q4)) rfl rfl (Nat.le_of_ble_eq_true rfl) rfl (Nat.le_of_ble_eq_true rfl) ⟨Nat.le_of_ble_eq_true rfl, Nat.le_of_ble_eq_true rfl⟩ ⟨Nat.le_refl _, Nat.le_refl _⟩ (by decide +kernel) (fun q31 _ => ?_)
      refine es_goto (tgt := 135) (off := (51)) (by decide +kernel) (by decide) ?_
      refine ef_drop (L2 := [none, none, none, none, none, none]) [false, false, false, false, false, false] rfl rfl ?_
      exact Hj5 _
    exact Hj14 ()
  exact Hj14 ()
def eF_9_feedWords (s : eh_F) (th : Nat) (p0 np0 : Nat) (p1 : Int32) : Option (eh_F) := Option.bind (eh_loop (fun (r4 : (Int32 × eh_F) → Option (eh_F)) (t1 : Int32 × eh_F) => if t1.1 < p1 then (if t1.1 < (Int32.ofNat np0) then (if eh_in t1.1 np0 then Option.bind (eF_9_feedWord t1.2 th (t1.2.1 p0 (eh_ix t1.1))) (fun q7 => eh_V ((t1.1 + 1) : Int32) (fun x8 => r4 (x8, q7))) else none) else (some t1.2)) else (some t1.2)) eh_FU (0, s)) (fun (e2 : eh_F) => some e2)
set_option maxHeartbeats 4000000 in
set_option maxRecDepth 100000 in
theorem eS_9_feedWords (g : eh_P) (s : eh_F) (th : Nat) (p0 np0 : Nat) (p1 : Int32) (hth : eh_okS th = true) (hp0 : eh_SH[p0]? = some (100, np0)) : eh_Sim g eM_9_feedWords (eh_R 3 0 0) eh_eV 0 0 0 (eh_en 4 [.ref th, .ref p0, .int p1]) [] (eh_FW s) (eF_9_feedWords s th p0 np0 p1) := by
  unfold eF_9_feedWords
  refine ef_top (L := [some (.ref th), some (.ref p0), some (.int p1), none]) rfl ?_
  refine es_blk (pc' := 2) (L' := [some (.ref th), some (.ref p0), some (.int p1), some (.int 0)]) (st' := []) [(.iconst 0, 0), (.istore_n 3, 0)] (by decide +kernel) rfl rfl ?_
  refine ef_loop1 (n := eh_FU) (i := (0, s)) (px := 26) (fun (t1 : Int32 × eh_F) => [some (.ref th), some (.ref p0), some (.int p1), some (.int t1.1)]) (fun (t1 : Int32 × eh_F) => []) (fun (t1 : Int32 × eh_F) => eh_FW t1.2) (fun (e2 : eh_F) => [none, none, none, none]) (fun (e2 : eh_F) => []) (fun (e2 : eh_F) => eh_FW e2) (fun e2 => ?_) (fun K3 HxK3_0 r4 Hr4 t1 => ?_)
  · exact es_ret rfl rfl rfl ⟨by decide +kernel, rfl⟩ (Nat.le_refl _) (Nat.le_refl _)
  · refine es_blk (pc' := 4) (L' := [some (.ref th), some (.ref p0), some (.int p1), some (.int t1.1)]) (st' := [.int p1, .int t1.1]) [(.iload_n 3, 0), (.iload_n 2, 0)] (by decide +kernel) rfl rfl ?_
    refine es_ige (tgt := 26) (off := (22)) (by decide +kernel) (by decide) (fun h5 => ?_) (fun h5 => ?_)
    · refine es_blk (pc' := 9) (L' := [some (.ref th), some (.ref p0), some (.int p1), some (.int t1.1)]) (st' := [.ref p0, .int t1.1]) [(.iload_n 3, 0), (.aload_n 1, 0)] (by decide +kernel) rfl rfl ?_
      refine ef_alen (k := p0) hp0 (by decide) (by decide +kernel) ?_
      refine es_ige (tgt := 26) (off := (16)) (by decide +kernel) (by decide) (fun h6 => ?_) (fun h6 => ?_)
      · refine es_blk (pc' := 16) (L' := [some (.ref th), some (.ref p0), some (.int p1), some (.int t1.1)]) (st' := [.int t1.1, .ref p0, .ref th]) [(.aload_n 0, 0), (.aload_n 1, 0), (.iload_n 3, 0)] (by decide +kernel) rfl rfl ?_
        refine ef_ald (k := p0) hp0 (Or.inl ⟨rfl, rfl⟩) (by decide +kernel) (fun _ => ?_)
        refine ef_veV (d := 2) (k := th) (As := [.int (t1.2.1 p0 (eh_ix t1.1))]) (st := []) eV_9_feedWord eK_9_39 (eS_9_feedWord g t1.2 th (t1.2.1 p0 (eh_ix t1.1)) hth) (eh_S0sh hth) rfl (Nat.le_of_ble_eq_true rfl) rfl (Nat.le_of_ble_eq_true rfl) ⟨Nat.le_of_ble_eq_true rfl, Nat.le_of_ble_eq_true rfl⟩ ⟨Nat.le_refl _, Nat.le_refl _⟩ (by decide +kernel) (fun q7 _ => ?_)
        refine es_blk (pc' := 23) (L' := [some (.ref th), some (.ref p0), some (.int p1), some (.int (t1.1 + 1))]) (st' := []) [(.iinc 3 1, 1)] (by decide +kernel) rfl rfl ?_
        refine ef_V (fun x8 => [some (.ref th), some (.ref p0), some (.int p1), some (.int x8)]) (fun _ => []) (fun _ => eh_FW q7) (fun x8 => ?_)
        refine es_goto (tgt := 2) (off := (-21)) (by decide +kernel) (by decide) ?_
        exact Hr4 (x8, q7)
      refine ef_drop (L2 := [none, none, none, none]) [false, false, false, false] rfl rfl ?_
      exact HxK3_0 t1.2
    refine ef_drop (L2 := [none, none, none, none]) [false, false, false, false] rfl rfl ?_
    exact HxK3_0 t1.2
def eF_9_beginKeyed (s : eh_F) (th : Nat) (p0 np0 : Nat) : Option (eh_F) := Option.bind (eF_9_begin s th) (fun q1 => Option.bind (eF_9_feedPaddedKey q1 th p0 np0 909522486) (fun q2 => some q2))
set_option maxHeartbeats 4000000 in
set_option maxRecDepth 100000 in
theorem eS_9_beginKeyed (g : eh_P) (s : eh_F) (th : Nat) (p0 np0 : Nat) (hth : eh_okS th = true) (hp0 : eh_SH[p0]? = some (100, np0)) : eh_Sim g eM_9_beginKeyed (eh_R 3 0 0) eh_eV 0 0 0 (eh_en 2 [.ref th, .ref p0]) [] (eh_FW s) (eF_9_beginKeyed s th p0 np0) := by
  unfold eF_9_beginKeyed
  refine ef_top (L := [some (.ref th), some (.ref p0)]) rfl ?_
  refine es_blk (pc' := 1) (L' := [some (.ref th), some (.ref p0)]) (st' := [.ref th]) [(.aload_n 0, 0)] (by decide +kernel) rfl rfl ?_
  refine ef_veV (d := 1) (k := th) (As := []) (st := []) eV_9_begin eK_9_46 (eS_9_begin g s th hth) (eh_S0sh hth) rfl (Nat.le_of_ble_eq_true rfl) rfl (Nat.le_of_ble_eq_true rfl) ⟨Nat.le_of_ble_eq_true rfl, Nat.le_of_ble_eq_true rfl⟩ ⟨Nat.le_refl _, Nat.le_refl _⟩ (by decide +kernel) (fun q1 _ => ?_)
  refine es_blk (pc' := 6) (L' := [some (.ref th), some (.ref p0)]) (st' := [.ref p0, .ref th]) [(.aload_n 0, 0), (.aload_n 1, 0)] (by decide +kernel) rfl rfl ?_
  refine es_ldc (v := 909522486) eC_9_49 (by decide +kernel) ?_
  refine ef_veV (d := 2) (k := th) (As := [.ref p0, .int 909522486]) (st := []) eV_9_feedPaddedKey eK_9_50 (eS_9_feedPaddedKey g q1 th p0 np0 909522486 hth hp0) (eh_S0sh hth) rfl (Nat.le_of_ble_eq_true rfl) rfl (Nat.le_of_ble_eq_true rfl) ⟨Nat.le_of_ble_eq_true rfl, Nat.le_of_ble_eq_true rfl⟩ ⟨Nat.le_refl _, Nat.le_refl _⟩ (by decide +kernel) (fun q2 _ => ?_)
  exact es_ret rfl rfl rfl ⟨by decide +kernel, rfl⟩ (Nat.le_refl _) (Nat.le_refl _)
def eF_9_endKeyed (s : eh_F) (th : Nat) (p0 np0 : Nat) (p1 np1 : Nat) : Option (eh_F) := Option.bind (eF_9_end s th (th + 3) 8) (fun q1 => Option.bind (eF_9_begin q1 th) (fun q2 => Option.bind (eF_9_feedPaddedKey q2 th p0 np0 1549556828) (fun q3 => if eh_cok 0 0 8 8 64 then eh_V (eh_tF q3 (th + 2) (va_cpy (q3.1 (th + 3)) (q3.1 (th + 2)) (eh_ix 0) (eh_ix 0) (eh_ix 8))) (fun s4 => eh_V (eh_tI s4 th 3 ((s4.1 th 3) + 32)) (fun s5 => Option.bind (eF_9_end s5 th p1 np1) (fun q6 => some q6))) else none)))
set_option maxHeartbeats 4000000 in
set_option maxRecDepth 100000 in
theorem eS_9_endKeyed (g : eh_P) (s : eh_F) (th : Nat) (p0 np0 : Nat) (p1 np1 : Nat) (hth : eh_okS th = true) (hp0 : eh_SH[p0]? = some (100, np0)) (hp1 : eh_SH[p1]? = some (100, np1)) : eh_Sim g eM_9_endKeyed (eh_R 3 0 0) eh_eV 0 0 0 (eh_en 3 [.ref th, .ref p0, .ref p1]) [] (eh_FW s) (eF_9_endKeyed s th p0 np0 p1 np1) := by
  unfold eF_9_endKeyed
  refine ef_top (L := [some (.ref th), some (.ref p0), some (.ref p1)]) rfl ?_
  refine es_blk (pc' := 2) (L' := [some (.ref th), some (.ref p0), some (.ref p1)]) (st' := [.ref th, .ref th]) [(.aload_n 0, 0), (.aload_n 0, 0)] (by decide +kernel) rfl rfl ?_
  refine ef_getP (k := th) (j := 2) (q := (th + 3)) (eh_S0sh hth) eL_9_16 rfl (eh_Sx hth _).2.2 (eh_S3sh hth) (by decide +kernel) ?_
  refine ef_veV (d := 2) (k := th) (As := [.ref (th + 3)]) (st := []) eV_9_end eK_9_54 (eS_9_end g s th (th + 3) 8 hth (eh_S3sh hth)) (eh_S0sh hth) rfl (Nat.le_of_ble_eq_true rfl) rfl (Nat.le_of_ble_eq_true rfl) ⟨Nat.le_of_ble_eq_true rfl, Nat.le_of_ble_eq_true rfl⟩ ⟨Nat.le_refl _, Nat.le_refl _⟩ (by decide +kernel) (fun q1 _ => ?_)
  refine es_blk (pc' := 9) (L' := [some (.ref th), some (.ref p0), some (.ref p1)]) (st' := [.ref th]) [(.aload_n 0, 0)] (by decide +kernel) rfl rfl ?_
  refine ef_veV (d := 1) (k := th) (As := []) (st := []) eV_9_begin eK_9_46 (eS_9_begin g q1 th hth) (eh_S0sh hth) rfl (Nat.le_of_ble_eq_true rfl) rfl (Nat.le_of_ble_eq_true rfl) ⟨Nat.le_of_ble_eq_true rfl, Nat.le_of_ble_eq_true rfl⟩ ⟨Nat.le_refl _, Nat.le_refl _⟩ (by decide +kernel) (fun q2 _ => ?_)
  refine es_blk (pc' := 14) (L' := [some (.ref th), some (.ref p0), some (.ref p1)]) (st' := [.ref p0, .ref th]) [(.aload_n 0, 0), (.aload_n 1, 0)] (by decide +kernel) rfl rfl ?_
  refine es_ldc (v := 1549556828) eC_9_58 (by decide +kernel) ?_
  refine ef_veV (d := 2) (k := th) (As := [.ref p0, .int 1549556828]) (st := []) eV_9_feedPaddedKey eK_9_50 (eS_9_feedPaddedKey g q2 th p0 np0 1549556828 hth hp0) (eh_S0sh hth) rfl (Nat.le_of_ble_eq_true rfl) rfl (Nat.le_of_ble_eq_true rfl) ⟨Nat.le_of_ble_eq_true rfl, Nat.le_of_ble_eq_true rfl⟩ ⟨Nat.le_refl _, Nat.le_refl _⟩ (by decide +kernel) (fun q3 _ => ?_)
  refine es_blk (pc' := 20) (L' := [some (.ref th), some (.ref p0), some (.ref p1)]) (st' := [.ref th]) [(.aload_n 0, 0)] (by decide +kernel) rfl rfl ?_
  refine ef_getP (k := th) (j := 2) (q := (th + 3)) (eh_S0sh hth) eL_9_16 rfl (eh_Sx hth _).2.2 (eh_S3sh hth) (by decide +kernel) ?_
  refine es_blk (pc' := 25) (L' := [some (.ref th), some (.ref p0), some (.ref p1)]) (st' := [.ref th, .int 0, .ref (th + 3)]) [(.iconst 0, 0), (.aload_n 0, 0)] (by decide +kernel) rfl rfl ?_
  refine ef_getP (k := th) (j := 1) (q := (th + 2)) (eh_S0sh hth) eL_9_13 rfl (eh_Sx hth _).2.1 (eh_S2sh hth) (by decide +kernel) ?_
  refine es_blk (pc' := 31) (L' := [some (.ref th), some (.ref p0), some (.ref p1)]) (st' := [.int 8, .int 0, .ref (th + 2), .int 0, .ref (th + 3)]) [(.iconst 0, 0), (.bipush 8, 8)] (by decide +kernel) rfl rfl ?_
  refine ef_copyI (k0 := (th + 3)) (k1 := (th + 2)) (eh_S3sh hth) (eh_S2sh hth) eK_9_22 eh_acN eh_acS eh_acI ⟨Nat.le_of_ble_eq_true rfl, Nat.le_of_ble_eq_true rfl⟩ (Nat.le_of_ble_eq_true rfl) (by decide +kernel) (fun _ => ?_)
  refine ef_V (fun _ => [some (.ref th), some (.ref p0), some (.ref p1)]) (fun _ => []) (fun s4 => eh_FW s4) (fun s4 => ?_)
  refine es_blk (pc' := 36) (L' := [some (.ref th), some (.ref p0), some (.ref p1)]) (st' := [.ref th, .ref th]) [(.aload_n 0, 0), (.dup, 0)] (by decide +kernel) rfl rfl ?_
  refine ef_getI (k := th) (j := 3) (eh_S0sh hth) eL_9_28 (by decide) (by decide +kernel) ?_
  refine es_blk (pc' := 42) (L' := [some (.ref th), some (.ref p0), some (.ref p1)]) (st' := [.int ((s4.1 th 3) + 32), .ref th]) [(.bipush 32, 32), (.iadd, 0)] (by decide +kernel) rfl rfl ?_
  refine ef_putI (k := th) (j := 3) (eh_S0sh hth) eL_9_28 rfl rfl (by decide +kernel) ?_
  refine ef_V (fun _ => [some (.ref th), some (.ref p0), some (.ref p1)]) (fun _ => []) (fun s5 => eh_FW s5) (fun s5 => ?_)
  refine es_blk (pc' := 47) (L' := [some (.ref th), some (.ref p0), some (.ref p1)]) (st' := [.ref p1, .ref th]) [(.aload_n 0, 0), (.aload_n 2, 0)] (by decide +kernel) rfl rfl ?_
  refine ef_veV (d := 2) (k := th) (As := [.ref p1]) (st := []) eV_9_end eK_9_54 (eS_9_end g s5 th p1 np1 hth hp1) (eh_S0sh hth) rfl (Nat.le_of_ble_eq_true rfl) rfl (Nat.le_of_ble_eq_true rfl) ⟨Nat.le_of_ble_eq_true rfl, Nat.le_of_ble_eq_true rfl⟩ ⟨Nat.le_refl _, Nat.le_refl _⟩ (by decide +kernel) (fun q6 _ => ?_)
  exact es_ret rfl rfl rfl ⟨by decide +kernel, rfl⟩ (Nat.le_refl _) (Nat.le_refl _)
def eF_10_giveRegion (s : eh_F) (p0 : Int32) (p1 : Int32) (p2 : Int32) (p3 : Int32) (p4 : Int32) : Option (Int32 × eh_F) := Option.bind (eF_6_overlaps s p1 p2) (fun q1 => if q1 = 0 then (Option.bind (eF_6_leastFreeRegion s) (fun q3 => if q3 = (-1) then (some ((-5), s)) else (Option.bind (eF_6_give s q3 p0 p1 p2 p3 p4) (fun q5 => some (q3, q5))))) else (some ((-4), s)))
set_option maxHeartbeats 4000000 in
set_option maxRecDepth 100000 in
theorem eS_10_giveRegion (g : eh_P) (s : eh_F) (p0 : Int32) (p1 : Int32) (p2 : Int32) (p3 : Int32) (p4 : Int32) : eh_Sim g eM_10_giveRegion (eh_R 3 0 0) eh_eI 0 0 0 (eh_en 7 [.ref 123, .int p0, .int p1, .int p2, .int p3, .int p4]) [] (eh_FW s) (eF_10_giveRegion s p0 p1 p2 p3 p4) := by
  unfold eF_10_giveRegion
  refine ef_top (L := [some (.ref 123), some (.int p0), some (.int p1), some (.int p2), some (.int p3), some (.int p4), none]) rfl ?_
  refine es_blk (pc' := 1) (L' := [some (.ref 123), some (.int p0), some (.int p1), some (.int p2), some (.int p3), some (.int p4), none]) (st' := [.ref 123]) [(.aload_n 0, 0)] (by decide +kernel) rfl rfl ?_
  refine ef_getP (k := 123) (j := 1) (q := 2) rfl eL_10_21 rfl rfl rfl (by decide +kernel) ?_
  refine es_blk (pc' := 6) (L' := [some (.ref 123), some (.int p0), some (.int p1), some (.int p2), some (.int p3), some (.int p4), none]) (st' := [.int p2, .int p1, .ref 2]) [(.iload_n 2, 0), (.iload_n 3, 0)] (by decide +kernel) rfl rfl ?_
  refine ef_vpI (d := 1) (k := 2) (As := [.int p1, .int p2]) (st := []) eV_6_overlaps eK_10_123 (eS_6_overlaps g s p1 p2) rfl rfl (Nat.le_of_ble_eq_true rfl) rfl (Nat.le_of_ble_eq_true rfl) ⟨Nat.le_of_ble_eq_true rfl, Nat.le_of_ble_eq_true rfl⟩ ⟨Nat.le_refl _, Nat.le_refl _⟩ (by decide +kernel) (fun q1 _ => ?_)
  refine es_eq (tgt := 15) (off := (6)) (by decide +kernel) (by decide) (fun h2 => ?_) (fun h2 => ?_)
  · refine es_blk (pc' := 16) (L' := [some (.ref 123), some (.int p0), some (.int p1), some (.int p2), some (.int p3), some (.int p4), none]) (st' := [.ref 123]) [(.aload_n 0, 0)] (by decide +kernel) rfl rfl ?_
    refine ef_getP (k := 123) (j := 1) (q := 2) rfl eL_10_21 rfl rfl rfl (by decide +kernel) ?_
    refine ef_vpI (d := 1) (k := 2) (As := []) (st := []) eV_6_leastFreeRegion eK_10_129 (eS_6_leastFreeRegion g s) rfl rfl (Nat.le_of_ble_eq_true rfl) rfl (Nat.le_of_ble_eq_true rfl) ⟨Nat.le_of_ble_eq_true rfl, Nat.le_of_ble_eq_true rfl⟩ ⟨Nat.le_refl _, Nat.le_refl _⟩ (by decide +kernel) (fun q3 _ => ?_)
    refine es_blk (pc' := 27) (L' := [some (.ref 123), some (.int p0), some (.int p1), some (.int p2), some (.int p3), some (.int p4), some (.int q3)]) (st' := [.int (-1), .int q3]) [(.istore 6, 0), (.iload 6, 0), (.iconst (-1), (-1))] (by decide +kernel) rfl rfl ?_
    refine es_ine (tgt := 33) (off := (6)) (by decide +kernel) (by decide) (fun h4 => ?_) (fun h4 => ?_)
    · refine es_blk (pc' := 32) (L' := [some (.ref 123), some (.int p0), some (.int p1), some (.int p2), some (.int p3), some (.int p4), some (.int q3)]) (st' := [.int (-5)]) [(.bipush (-5), (-5))] (by decide +kernel) rfl rfl ?_
      exact es_ret rfl rfl rfl ⟨by decide +kernel, _, rfl, rfl⟩ (Nat.le_refl _) (Nat.le_refl _)
    refine es_blk (pc' := 34) (L' := [some (.ref 123), some (.int p0), some (.int p1), some (.int p2), some (.int p3), some (.int p4), some (.int q3)]) (st' := [.ref 123]) [(.aload_n 0, 0)] (by decide +kernel) rfl rfl ?_
    refine ef_getP (k := 123) (j := 1) (q := 2) rfl eL_10_21 rfl rfl rfl (by decide +kernel) ?_
    refine es_blk (pc' := 46) (L' := [some (.ref 123), some (.int p0), some (.int p1), some (.int p2), some (.int p3), some (.int p4), some (.int q3)]) (st' := [.int p4, .int p3, .int p2, .int p1, .int p0, .int q3, .ref 2]) [(.iload 6, 0), (.iload_n 1, 0), (.iload_n 2, 0), (.iload_n 3, 0), (.iload 4, 0), (.iload 5, 0)] (by decide +kernel) rfl rfl ?_
    refine ef_veV (d := 2) (k := 2) (As := [.int q3, .int p0, .int p1, .int p2, .int p3, .int p4]) (st := []) eV_6_give eK_10_132 (eS_6_give g s q3 p0 p1 p2 p3 p4) rfl rfl (Nat.le_of_ble_eq_true rfl) rfl (Nat.le_of_ble_eq_true rfl) ⟨Nat.le_of_ble_eq_true rfl, Nat.le_of_ble_eq_true rfl⟩ ⟨Nat.le_refl _, Nat.le_refl _⟩ (by decide +kernel) (fun q5 _ => ?_)
    refine es_blk (pc' := 51) (L' := [some (.ref 123), some (.int p0), some (.int p1), some (.int p2), some (.int p3), some (.int p4), some (.int q3)]) (st' := [.int q3]) [(.iload 6, 0)] (by decide +kernel) rfl rfl ?_
    exact es_ret rfl rfl rfl ⟨by decide +kernel, _, rfl, rfl⟩ (Nat.le_refl _) (Nat.le_refl _)
  refine es_blk (pc' := 14) (L' := [some (.ref 123), some (.int p0), some (.int p1), some (.int p2), some (.int p3), some (.int p4), none]) (st' := [.int (-4)]) [(.bipush (-4), (-4))] (by decide +kernel) rfl rfl ?_
  exact es_ret rfl rfl rfl ⟨by decide +kernel, _, rfl, rfl⟩ (Nat.le_refl _) (Nat.le_refl _)
def eF_10_load (s : eh_F) (p0 : Int32) (p1 : Int32) (p2 : Int32) : Option (Int32 × eh_F) := Option.bind (eF_5_hasEnclave s p0) (fun q1 => eh_J (fun (u3 : Unit) => some ((-1), s)) (fun j2 => if q1 = 0 then (j2 ()) else (if p1 < 0 then (j2 ()) else (Option.bind (eF_5_sizeOf s p0) (fun q6 => if p1 < (q6 / 256) then (eh_J (fun (u9 : Unit) => some ((-1), s)) (fun j8 => if (p2 &&& 3) = 0 then (Option.bind (eF_6_areOpen s p2 256) (fun q11 => if q11 = 0 then (j8 ()) else (if eh_in p0 6 then if (s.1 (eh_ep p0) 5) = 1 then (Option.bind (eF_5_baseOf s p0) (fun q15 => eh_V ((q15 + (p1 * 256)) : Int32) (fun x16 => Option.bind (eF_9_feedNumber s ((eh_ep p0) + 1) 2) (fun q17 => Option.bind (eF_9_feedNumber q17 ((eh_ep p0) + 1) p1) (fun q18 => Option.bind (eh_loop (fun (r22 : (Int32 × eh_F) → Option (eh_F)) (t19 : Int32 × eh_F) => if t19.1 < 256 then (Option.bind (eF_6_wordAt t19.2 (p2 + t19.1)) (fun q24 => Option.bind (eF_6_store t19.2 (x16 + t19.1) q24 4) (fun q25 => Option.bind (eF_9_feedNumber q25 ((eh_ep p0) + 1) q24) (fun q26 => eh_V ((t19.1 + 4) : Int32) (fun x27 => r22 (x27, q26)))))) else (some t19.2)) eh_FU (0, q18)) (fun (e20 : eh_F) => some (0, e20))))))) else (some ((-2), s)) else none))) else (j8 ()))) else (j2 ()))))))
set_option maxHeartbeats 4000000 in
set_option maxRecDepth 100000 in
theorem eS_10_load (g : eh_P) (s : eh_F) (p0 : Int32) (p1 : Int32) (p2 : Int32) : eh_Sim g eM_10_load (eh_R 3 0 0) eh_eI 0 0 0 (eh_en 8 [.ref 123, .int p0, .int p1, .int p2]) [] (eh_FW s) (eF_10_load s p0 p1 p2) := by
  unfold eF_10_load
  refine ef_top (L := [some (.ref 123), some (.int p0), some (.int p1), some (.int p2), none, none, none, none]) rfl ?_
  refine es_blk (pc' := 1) (L' := [some (.ref 123), some (.int p0), some (.int p1), some (.int p2), none, none, none, none]) (st' := [.ref 123]) [(.aload_n 0, 0)] (by decide +kernel) rfl rfl ?_
  refine ef_getP (k := 123) (j := 0) (q := 1) rfl eL_10_9 rfl rfl rfl (by decide +kernel) ?_
  refine es_blk (pc' := 5) (L' := [some (.ref 123), some (.int p0), some (.int p1), some (.int p2), none, none, none, none]) (st' := [.int p0, .ref 1]) [(.iload_n 1, 0)] (by decide +kernel) rfl rfl ?_
  refine ef_vpI (d := 1) (k := 1) (As := [.int p0]) (st := []) eV_5_hasEnclave eK_10_150 (eS_5_hasEnclave g s p0) rfl rfl (Nat.le_of_ble_eq_true rfl) rfl (Nat.le_of_ble_eq_true rfl) ⟨Nat.le_of_ble_eq_true rfl, Nat.le_of_ble_eq_true rfl⟩ ⟨Nat.le_refl _, Nat.le_refl _⟩ (by decide +kernel) (fun q1 _ => ?_)
  refine ef_J (X := fun j2 => ∀ (u3 : Unit), eh_Sim g eM_10_load (eh_R 3 0 0) eh_eI 0 0 31 [none, none, none, none, none, none, none, none] [] (eh_FW s) ((j2 u3).bind some)) ?_ (fun j2 Hj2 => ?_)
  · intro u3
    refine es_blk (pc' := 32) (L' := [none, none, none, none, none, none, none, none]) (st' := [.int (-1)]) [(.iconst (-1), (-1))] (by decide +kernel) rfl rfl ?_
    exact es_ret rfl rfl rfl ⟨by decide +kernel, _, rfl, rfl⟩ (Nat.le_refl _) (Nat.le_refl _)
  refine es_eq (tgt := 31) (off := (23)) (by decide +kernel) (by decide) (fun h4 => ?_) (fun h4 => ?_)
  · refine ef_drop (L2 := [none, none, none, none, none, none, none, none]) [false, false, false, false, true, true, true, true] rfl rfl ?_
    exact Hj2 ()
  refine es_blk (pc' := 12) (L' := [some (.ref 123), some (.int p0), some (.int p1), some (.int p2), none, none, none, none]) (st' := [.int p1]) [(.iload_n 2, 0)] (by decide +kernel) rfl rfl ?_
  refine es_lt (tgt := 31) (off := (19)) (by decide +kernel) (by decide) (fun h5 => ?_) (fun h5 => ?_)
  · refine ef_drop (L2 := [none, none, none, none, none, none, none, none]) [false, false, false, false, true, true, true, true] rfl rfl ?_
    exact Hj2 ()
  refine es_blk (pc' := 17) (L' := [some (.ref 123), some (.int p0), some (.int p1), some (.int p2), none, none, none, none]) (st' := [.ref 123, .int p1]) [(.iload_n 2, 0), (.aload_n 0, 0)] (by decide +kernel) rfl rfl ?_
  refine ef_getP (k := 123) (j := 0) (q := 1) rfl eL_10_9 rfl rfl rfl (by decide +kernel) ?_
  refine es_blk (pc' := 21) (L' := [some (.ref 123), some (.int p0), some (.int p1), some (.int p2), none, none, none, none]) (st' := [.int p0, .ref 1, .int p1]) [(.iload_n 1, 0)] (by decide +kernel) rfl rfl ?_
  refine ef_vpI (d := 1) (k := 1) (As := [.int p0]) (st := [.int p1]) eV_5_sizeOf eK_10_154 (eS_5_sizeOf g s p0) rfl rfl (Nat.le_of_ble_eq_true rfl) rfl (Nat.le_of_ble_eq_true rfl) ⟨Nat.le_of_ble_eq_true rfl, Nat.le_of_ble_eq_true rfl⟩ ⟨Nat.le_refl _, Nat.le_refl _⟩ (by decide +kernel) (fun q6 _ => ?_)
  refine es_blk (pc' := 27) (L' := [some (.ref 123), some (.int p0), some (.int p1), some (.int p2), none, none, none, none]) (st' := [.int 256, .int q6, .int p1]) [(.sipush 256, 256)] (by decide +kernel) rfl rfl ?_
  refine es_idiv (by decide +kernel) (by decide) ?_
  refine es_ilt (tgt := 33) (off := (5)) (by decide +kernel) (by decide) (fun h7 => ?_) (fun h7 => ?_)
  · refine es_blk (pc' := 36) (L' := [some (.ref 123), some (.int p0), some (.int p1), some (.int p2), none, none, none, none]) (st' := [.int (p2 &&& 3)]) [(.iload_n 3, 0), (.iconst 3, 3), (.iand, 0)] (by decide +kernel) rfl rfl ?_
    refine ef_J (X := fun j8 => ∀ (u9 : Unit), eh_Sim g eM_10_load (eh_R 3 0 0) eh_eI 0 0 53 [none, none, none, none, none, none, none, none] [] (eh_FW s) ((j8 u9).bind some)) ?_ (fun j8 Hj8 => ?_)
    · intro u9
      refine es_blk (pc' := 54) (L' := [none, none, none, none, none, none, none, none]) (st' := [.int (-1)]) [(.iconst (-1), (-1))] (by decide +kernel) rfl rfl ?_
      exact es_ret rfl rfl rfl ⟨by decide +kernel, _, rfl, rfl⟩ (Nat.le_refl _) (Nat.le_refl _)
    refine es_ne (tgt := 53) (off := (17)) (by decide +kernel) (by decide) (fun h10 => ?_) (fun h10 => ?_)
    · refine es_blk (pc' := 40) (L' := [some (.ref 123), some (.int p0), some (.int p1), some (.int p2), none, none, none, none]) (st' := [.ref 123]) [(.aload_n 0, 0)] (by decide +kernel) rfl rfl ?_
      refine ef_getP (k := 123) (j := 1) (q := 2) rfl eL_10_21 rfl rfl rfl (by decide +kernel) ?_
      refine es_blk (pc' := 47) (L' := [some (.ref 123), some (.int p0), some (.int p1), some (.int p2), none, none, none, none]) (st' := [.int 256, .int p2, .ref 2]) [(.iload_n 3, 0), (.sipush 256, 256)] (by decide +kernel) rfl rfl ?_
      refine ef_vpI (d := 2) (k := 2) (As := [.int p2, .int 256]) (st := []) eV_6_areOpen eK_10_157 (eS_6_areOpen g s p2 256) rfl rfl (Nat.le_of_ble_eq_true rfl) rfl (Nat.le_of_ble_eq_true rfl) ⟨Nat.le_of_ble_eq_true rfl, Nat.le_of_ble_eq_true rfl⟩ ⟨Nat.le_refl _, Nat.le_refl _⟩ (by decide +kernel) (fun q11 _ => ?_)
      refine es_ne (tgt := 55) (off := (5)) (by decide +kernel) (by decide) (fun h12 => ?_) (fun h12 => ?_)
      · refine ef_drop (L2 := [none, none, none, none, none, none, none, none]) [false, false, false, false, true, true, true, true] rfl rfl ?_
        exact Hj8 ()
      refine es_blk (pc' := 56) (L' := [some (.ref 123), some (.int p0), some (.int p1), some (.int p2), none, none, none, none]) (st' := [.ref 123]) [(.aload_n 0, 0)] (by decide +kernel) rfl rfl ?_
      refine ef_getP (k := 123) (j := 0) (q := 1) rfl eL_10_9 rfl rfl rfl (by decide +kernel) ?_
      refine ef_getP (k := 1) (j := 4) (q := 28) rfl eL_10_136 rfl rfl rfl (by decide +kernel) ?_
      refine es_blk (pc' := 63) (L' := [some (.ref 123), some (.int p0), some (.int p1), some (.int p2), none, none, none, none]) (st' := [.int p0, .ref 28]) [(.iload_n 1, 0)] (by decide +kernel) rfl rfl ?_
      refine ef_encs (by decide +kernel) (fun h13 => ?_)
      refine es_blk (pc' := 68) (L' := [some (.ref 123), some (.int p0), some (.int p1), some (.int p2), some (.ref (eh_ep p0)), none, none, none]) (st' := [.ref (eh_ep p0)]) [(.astore 4, 0), (.aload 4, 0)] (by decide +kernel) rfl rfl ?_
      refine ef_getI (k := (eh_ep p0)) (j := 5) (eh_E0sh h13) eL_10_146 (by decide) (by decide +kernel) ?_
      refine es_blk (pc' := 72) (L' := [some (.ref 123), some (.int p0), some (.int p1), some (.int p2), some (.ref (eh_ep p0)), none, none, none]) (st' := [.int 1, .int (s.1 (eh_ep p0) 5)]) [(.iconst 1, 1)] (by decide +kernel) rfl rfl ?_
      refine es_ieq (tgt := 78) (off := (6)) (by decide +kernel) (by decide) (fun h14 => ?_) (fun h14 => ?_)
      · refine es_blk (pc' := 79) (L' := [some (.ref 123), some (.int p0), some (.int p1), some (.int p2), some (.ref (eh_ep p0)), none, none, none]) (st' := [.ref 123]) [(.aload_n 0, 0)] (by decide +kernel) rfl rfl ?_
        refine ef_getP (k := 123) (j := 0) (q := 1) rfl eL_10_9 rfl rfl rfl (by decide +kernel) ?_
        refine es_blk (pc' := 83) (L' := [some (.ref 123), some (.int p0), some (.int p1), some (.int p2), some (.ref (eh_ep p0)), none, none, none]) (st' := [.int p0, .ref 1]) [(.iload_n 1, 0)] (by decide +kernel) rfl rfl ?_
        refine ef_vpI (d := 1) (k := 1) (As := [.int p0]) (st := []) eV_5_baseOf eK_10_160 (eS_5_baseOf g s p0) rfl rfl (Nat.le_of_ble_eq_true rfl) rfl (Nat.le_of_ble_eq_true rfl) ⟨Nat.le_of_ble_eq_true rfl, Nat.le_of_ble_eq_true rfl⟩ ⟨Nat.le_refl _, Nat.le_refl _⟩ (by decide +kernel) (fun q15 _ => ?_)
        refine es_blk (pc' := 94) (L' := [some (.ref 123), some (.int p0), some (.int p1), some (.int p2), some (.ref (eh_ep p0)), some (.int (q15 + (p1 * 256))), none, none]) (st' := []) [(.iload_n 2, 0), (.sipush 256, 256), (.imul, 0), (.iadd, 0), (.istore 5, 0)] (by decide +kernel) rfl rfl ?_
        refine ef_V (fun x16 => [some (.ref 123), some (.int p0), some (.int p1), some (.int p2), some (.ref (eh_ep p0)), some (.int x16), none, none]) (fun _ => []) (fun _ => eh_FW s) (fun x16 => ?_)
        refine es_blk (pc' := 96) (L' := [some (.ref 123), some (.int p0), some (.int p1), some (.int p2), some (.ref (eh_ep p0)), some (.int x16), none, none]) (st' := [.ref (eh_ep p0)]) [(.aload 4, 0)] (by decide +kernel) rfl rfl ?_
        refine ef_getP (k := (eh_ep p0)) (j := 0) (q := ((eh_ep p0) + 1)) (eh_E0sh h13) eL_10_163 rfl (eh_Ex h13 _).1 (eh_S0sh (eh_E1S h13)) (by decide +kernel) ?_
        refine es_blk (pc' := 100) (L' := [some (.ref 123), some (.int p0), some (.int p1), some (.int p2), some (.ref (eh_ep p0)), some (.int x16), none, none]) (st' := [.int 2, .ref ((eh_ep p0) + 1)]) [(.iconst 2, 2)] (by decide +kernel) rfl rfl ?_
        refine ef_veV (d := 2) (k := ((eh_ep p0) + 1)) (As := [.int 2]) (st := []) eV_9_feedNumber eK_10_167 (eS_9_feedNumber g s ((eh_ep p0) + 1) 2 (eh_E1S h13)) (eh_S0sh (eh_E1S h13)) rfl (Nat.le_of_ble_eq_true rfl) rfl (Nat.le_of_ble_eq_true rfl) ⟨Nat.le_of_ble_eq_true rfl, Nat.le_of_ble_eq_true rfl⟩ ⟨Nat.le_refl _, Nat.le_refl _⟩ (by decide +kernel) (fun q17 _ => ?_)
        refine es_blk (pc' := 105) (L' := [some (.ref 123), some (.int p0), some (.int p1), some (.int p2), some (.ref (eh_ep p0)), some (.int x16), none, none]) (st' := [.ref (eh_ep p0)]) [(.aload 4, 0)] (by decide +kernel) rfl rfl ?_
        refine ef_getP (k := (eh_ep p0)) (j := 0) (q := ((eh_ep p0) + 1)) (eh_E0sh h13) eL_10_163 rfl (eh_Ex h13 _).1 (eh_S0sh (eh_E1S h13)) (by decide +kernel) ?_
        refine es_blk (pc' := 109) (L' := [some (.ref 123), some (.int p0), some (.int p1), some (.int p2), some (.ref (eh_ep p0)), some (.int x16), none, none]) (st' := [.int p1, .ref ((eh_ep p0) + 1)]) [(.iload_n 2, 0)] (by decide +kernel) rfl rfl ?_
        refine ef_veV (d := 2) (k := ((eh_ep p0) + 1)) (As := [.int p1]) (st := []) eV_9_feedNumber eK_10_167 (eS_9_feedNumber g q17 ((eh_ep p0) + 1) p1 (eh_E1S h13)) (eh_S0sh (eh_E1S h13)) rfl (Nat.le_of_ble_eq_true rfl) rfl (Nat.le_of_ble_eq_true rfl) ⟨Nat.le_of_ble_eq_true rfl, Nat.le_of_ble_eq_true rfl⟩ ⟨Nat.le_refl _, Nat.le_refl _⟩ (by decide +kernel) (fun q18 _ => ?_)
        refine es_blk (pc' := 115) (L' := [some (.ref 123), some (.int p0), some (.int p1), some (.int p2), some (.ref (eh_ep p0)), some (.int x16), some (.int 0), none]) (st' := []) [(.iconst 0, 0), (.istore 6, 0)] (by decide +kernel) rfl rfl ?_
        refine ef_drop (L2 := [some (.ref 123), none, none, some (.int p2), some (.ref (eh_ep p0)), some (.int x16), some (.int 0), none]) [true, false, false, true, true, true, true, true] rfl rfl ?_
        refine ef_loop1 (n := eh_FU) (i := (0, q18)) (px := 167) (fun (t19 : Int32 × eh_F) => [some (.ref 123), none, none, some (.int p2), some (.ref (eh_ep p0)), some (.int x16), some (.int t19.1), none]) (fun (t19 : Int32 × eh_F) => []) (fun (t19 : Int32 × eh_F) => eh_FW t19.2) (fun (e20 : eh_F) => [none, none, none, none, none, none, none, none]) (fun (e20 : eh_F) => []) (fun (e20 : eh_F) => eh_FW e20) (fun e20 => ?_) (fun K21 HxK21_0 r22 Hr22 t19 => ?_)
        · refine es_blk (pc' := 168) (L' := [none, none, none, none, none, none, none, none]) (st' := [.int 0]) [(.iconst 0, 0)] (by decide +kernel) rfl rfl ?_
          exact es_ret rfl rfl rfl ⟨by decide +kernel, _, rfl, rfl⟩ (Nat.le_refl _) (Nat.le_refl _)
        · refine es_blk (pc' := 120) (L' := [some (.ref 123), none, none, some (.int p2), some (.ref (eh_ep p0)), some (.int x16), some (.int t19.1), none]) (st' := [.int 256, .int t19.1]) [(.iload 6, 0), (.sipush 256, 256)] (by decide +kernel) rfl rfl ?_
          refine es_ige (tgt := 167) (off := (47)) (by decide +kernel) (by decide) (fun h23 => ?_) (fun h23 => ?_)
          · refine es_blk (pc' := 124) (L' := [some (.ref 123), none, none, some (.int p2), some (.ref (eh_ep p0)), some (.int x16), some (.int t19.1), none]) (st' := [.ref 123]) [(.aload_n 0, 0)] (by decide +kernel) rfl rfl ?_
            refine ef_getP (k := 123) (j := 1) (q := 2) rfl eL_10_21 rfl rfl rfl (by decide +kernel) ?_
            refine es_blk (pc' := 131) (L' := [some (.ref 123), none, none, some (.int p2), some (.ref (eh_ep p0)), some (.int x16), some (.int t19.1), none]) (st' := [.int (p2 + t19.1), .ref 2]) [(.iload_n 3, 0), (.iload 6, 0), (.iadd, 0)] (by decide +kernel) rfl rfl ?_
            refine ef_vpI (d := 1) (k := 2) (As := [.int (p2 + t19.1)]) (st := []) eV_6_wordAt eK_10_173 (eS_6_wordAt g t19.2 (p2 + t19.1)) rfl rfl (Nat.le_of_ble_eq_true rfl) rfl (Nat.le_of_ble_eq_true rfl) ⟨Nat.le_of_ble_eq_true rfl, Nat.le_of_ble_eq_true rfl⟩ ⟨Nat.le_refl _, Nat.le_refl _⟩ (by decide +kernel) (fun q24 _ => ?_)
            refine es_blk (pc' := 137) (L' := [some (.ref 123), none, none, some (.int p2), some (.ref (eh_ep p0)), some (.int x16), some (.int t19.1), some (.int q24)]) (st' := [.ref 123]) [(.istore 7, 0), (.aload_n 0, 0)] (by decide +kernel) rfl rfl ?_
            refine ef_getP (k := 123) (j := 1) (q := 2) rfl eL_10_21 rfl rfl rfl (by decide +kernel) ?_
            refine es_blk (pc' := 148) (L' := [some (.ref 123), none, none, some (.int p2), some (.ref (eh_ep p0)), some (.int x16), some (.int t19.1), some (.int q24)]) (st' := [.int 4, .int q24, .int (x16 + t19.1), .ref 2]) [(.iload 5, 0), (.iload 6, 0), (.iadd, 0), (.iload 7, 0), (.iconst 4, 4)] (by decide +kernel) rfl rfl ?_
            refine ef_veV (d := 2) (k := 2) (As := [.int (x16 + t19.1), .int q24, .int 4]) (st := []) eV_6_store eK_10_176 (eS_6_store g t19.2 (x16 + t19.1) q24 4) rfl rfl (Nat.le_of_ble_eq_true rfl) rfl (Nat.le_of_ble_eq_true rfl) ⟨Nat.le_of_ble_eq_true rfl, Nat.le_of_ble_eq_true rfl⟩ ⟨Nat.le_refl _, Nat.le_refl _⟩ (by decide +kernel) (fun q25 _ => ?_)
            refine es_blk (pc' := 153) (L' := [some (.ref 123), none, none, some (.int p2), some (.ref (eh_ep p0)), some (.int x16), some (.int t19.1), some (.int q24)]) (st' := [.ref (eh_ep p0)]) [(.aload 4, 0)] (by decide +kernel) rfl rfl ?_
            refine ef_getP (k := (eh_ep p0)) (j := 0) (q := ((eh_ep p0) + 1)) (eh_E0sh h13) eL_10_163 rfl (eh_Ex h13 _).1 (eh_S0sh (eh_E1S h13)) (by decide +kernel) ?_
            refine es_blk (pc' := 158) (L' := [some (.ref 123), none, none, some (.int p2), some (.ref (eh_ep p0)), some (.int x16), some (.int t19.1), some (.int q24)]) (st' := [.int q24, .ref ((eh_ep p0) + 1)]) [(.iload 7, 0)] (by decide +kernel) rfl rfl ?_
            refine ef_veV (d := 2) (k := ((eh_ep p0) + 1)) (As := [.int q24]) (st := []) eV_9_feedNumber eK_10_167 (eS_9_feedNumber g q25 ((eh_ep p0) + 1) q24 (eh_E1S h13)) (eh_S0sh (eh_E1S h13)) rfl (Nat.le_of_ble_eq_true rfl) rfl (Nat.le_of_ble_eq_true rfl) ⟨Nat.le_of_ble_eq_true rfl, Nat.le_of_ble_eq_true rfl⟩ ⟨Nat.le_refl _, Nat.le_refl _⟩ (by decide +kernel) (fun q26 _ => ?_)
            refine es_blk (pc' := 164) (L' := [some (.ref 123), none, none, some (.int p2), some (.ref (eh_ep p0)), some (.int x16), some (.int (t19.1 + 4)), some (.int q24)]) (st' := []) [(.iinc 6 4, 4)] (by decide +kernel) rfl rfl ?_
            refine ef_V (fun x27 => [some (.ref 123), none, none, some (.int p2), some (.ref (eh_ep p0)), some (.int x16), some (.int x27), some (.int q24)]) (fun _ => []) (fun _ => eh_FW q26) (fun x27 => ?_)
            refine es_goto (tgt := 115) (off := (-49)) (by decide +kernel) (by decide) ?_
            refine ef_drop (L2 := [some (.ref 123), none, none, some (.int p2), some (.ref (eh_ep p0)), some (.int x16), some (.int x27), none]) [true, true, true, true, true, true, true, false] rfl rfl ?_
            exact Hr22 (x27, q26)
          refine ef_drop (L2 := [none, none, none, none, none, none, none, none]) [false, true, true, false, false, false, false, true] rfl rfl ?_
          exact HxK21_0 t19.2
      refine es_blk (pc' := 77) (L' := [some (.ref 123), some (.int p0), some (.int p1), some (.int p2), some (.ref (eh_ep p0)), none, none, none]) (st' := [.int (-2)]) [(.bipush (-2), (-2))] (by decide +kernel) rfl rfl ?_
      exact es_ret rfl rfl rfl ⟨by decide +kernel, _, rfl, rfl⟩ (Nat.le_refl _) (Nat.le_refl _)
    refine ef_drop (L2 := [none, none, none, none, none, none, none, none]) [false, false, false, false, true, true, true, true] rfl rfl ?_
    exact Hj8 ()
  refine ef_drop (L2 := [none, none, none, none, none, none, none, none]) [false, false, false, false, true, true, true, true] rfl rfl ?_
  exact Hj2 ()
