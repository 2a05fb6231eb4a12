def eF_12_product (s : eh_F) (p0 : Int32) (p1 : Int32) (p2 : Int32) : Option (Int32) := eh_V (((p1.toInt64) &&& 4294967295) : Int64) (fun x1 => eh_V (((p2.toInt64) &&& 4294967295) : Int64) (fun x2 => if p0 = 0 then (some (p1 * p2)) else if p0 = 1 then (some ((eh_lshr ((p1.toInt64) * (p2.toInt64)) 32).toInt32)) else if p0 = 2 then (some ((eh_lshr ((p1.toInt64) * x2) 32).toInt32)) else if p0 = 3 then (some ((eh_lushr (x1 * x2) 32).toInt32)) else if p0 = 4 then (eh_J (fun (a10 : Int32) => some a10) (fun j9 => if p2 = 0 then (j9 (-1)) else (eh_J (fun (u13 : Unit) => if p2 = 0 then none else j9 (p1 / p2)) (fun j12 => if p1 = (-2147483648) then (if p2 = (-1) then (j9 p1) else (j12 ())) else (j12 ()))))) else if p0 = 5 then (eh_J (fun (a19 : Int32) => some a19) (fun j18 => if p2 = 0 then (j18 (-1)) else (if x2 = 0 then none else j18 ((x1 / x2).toInt32)))) else if p0 = 6 then (eh_J (fun (a24 : Int32) => some a24) (fun j23 => if p2 = 0 then (j23 p1) else (if p2 = (-1) then (j23 0) else (if p2 = 0 then none else j23 (eh_rem p1 p2))))) else (eh_J (fun (a29 : Int32) => some a29) (fun j28 => if p2 = 0 then (j28 p1) else (if x2 = 0 then none else j28 ((eh_lrem x1 x2).toInt32))))))
set_option maxHeartbeats 4000000 in
set_option maxRecDepth 100000 in
theorem eS_12_product (g : eh_P) (s : eh_F) (p0 : Int32) (p1 : Int32) (p2 : Int32) : eh_Sim g eM_12_product (eh_R 1 0 0) (eh_pI s) 0 0 0 (eh_en 7 [.int p0, .int p1, .int p2]) [] (eh_FW s) (eF_12_product s p0 p1 p2) := by
  unfold eF_12_product
  refine ef_top (L := [some (.int p0), some (.int p1), some (.int p2), none, none, none, none]) rfl ?_
  refine es_blk (pc' := 2) (L' := [some (.int p0), some (.int p1), some (.int p2), none, none, none, none]) (st' := [.long (p1.toInt64)]) [(.iload_n 1, 0), (.i2l, 0)] (by decide +kernel) rfl rfl ?_
  refine es_ldc2 (v := 4294967295) eC_12_346 (by decide +kernel) ?_
  refine es_blk (pc' := 7) (L' := [some (.int p0), some (.int p1), some (.int p2), some (.long ((p1.toInt64) &&& 4294967295)), none, none, none]) (st' := []) [(.land, 0), (.lstore_n 3, 0)] (by decide +kernel) rfl rfl ?_
  refine ef_V (fun x1 => [some (.int p0), some (.int p1), some (.int p2), some (.long x1), none, none, none]) (fun _ => []) (fun _ => eh_FW s) (fun x1 => ?_)
  refine es_blk (pc' := 9) (L' := [some (.int p0), some (.int p1), some (.int p2), some (.long x1), none, none, none]) (st' := [.long (p2.toInt64)]) [(.iload_n 2, 0), (.i2l, 0)] (by decide +kernel) rfl rfl ?_
  refine es_ldc2 (v := 4294967295) eC_12_346 (by decide +kernel) ?_
  refine es_blk (pc' := 15) (L' := [some (.int p0), some (.int p1), some (.int p2), some (.long x1), none, some (.long ((p2.toInt64) &&& 4294967295)), none]) (st' := []) [(.land, 0), (.lstore 5, 0)] (by decide +kernel) rfl rfl ?_
  refine ef_V (fun x2 => [some (.int p0), some (.int p1), some (.int p2), some (.long x1), none, some (.long x2), none]) (fun _ => []) (fun _ => eh_FW s) (fun x2 => ?_)
  refine es_blk (pc' := 16) (L' := [some (.int p0), some (.int p1), some (.int p2), some (.long x1), none, some (.long x2), none]) (st' := [.int p0]) [(.iload_n 0, 0)] (by decide +kernel) rfl rfl ?_
  have hs3 : decode eM_12_product.2.1 16 = .ok (.tableswitch (140) (0) (6) #[(44), (48), (58), (68), (77), (105), (119)], 44) := by decide +kernel
  refine es_ifc (fun h4 => ?_) (fun h4 => ?_)
  · refine es_tsw (off := (44)) (tgt := 60) hs3 0 h4 (by decide) ?_
    refine es_blk (pc' := 63) (L' := [some (.int p0), some (.int p1), some (.int p2), some (.long x1), none, some (.long x2), none]) (st' := [.int (p1 * p2)]) [(.iload_n 1, 0), (.iload_n 2, 0), (.imul, 0)] (by decide +kernel) rfl rfl ?_
    exact es_ret rfl rfl rfl ⟨by decide +kernel, _, rfl, rfl⟩ (Nat.le_refl _) (Nat.le_refl _)
  refine es_ifc (fun h5 => ?_) (fun h5 => ?_)
  · refine es_tsw (off := (48)) (tgt := 64) hs3 1 h5 (by decide) ?_
    refine es_blk (pc' := 73) (L' := [some (.int p0), some (.int p1), some (.int p2), some (.long x1), none, some (.long x2), none]) (st' := [.int ((eh_lshr ((p1.toInt64) * (p2.toInt64)) 32).toInt32)]) [(.iload_n 1, 0), (.i2l, 0), (.iload_n 2, 0), (.i2l, 0), (.lmul, 0), (.bipush 32, 32), (.lshr, 0), (.l2i, 0)] (by decide +kernel) rfl rfl ?_
    exact es_ret rfl rfl rfl ⟨by decide +kernel, _, rfl, rfl⟩ (Nat.le_refl _) (Nat.le_refl _)
  refine es_ifc (fun h6 => ?_) (fun h6 => ?_)
  · refine es_tsw (off := (58)) (tgt := 74) hs3 2 h6 (by decide) ?_
    refine es_blk (pc' := 83) (L' := [some (.int p0), some (.int p1), some (.int p2), some (.long x1), none, some (.long x2), none]) (st' := [.int ((eh_lshr ((p1.toInt64) * x2) 32).toInt32)]) [(.iload_n 1, 0), (.i2l, 0), (.lload 5, 0), (.lmul, 0), (.bipush 32, 32), (.lshr, 0), (.l2i, 0)] (by decide +kernel) rfl rfl ?_
    exact es_ret rfl rfl rfl ⟨by decide +kernel, _, rfl, rfl⟩ (Nat.le_refl _) (Nat.le_refl _)
  refine es_ifc (fun h7 => ?_) (fun h7 => ?_)
  · refine es_tsw (off := (68)) (tgt := 84) hs3 3 h7 (by decide) ?_
    refine es_blk (pc' := 92) (L' := [some (.int p0), some (.int p1), some (.int p2), some (.long x1), none, some (.long x2), none]) (st' := [.int ((eh_lushr (x1 * x2) 32).toInt32)]) [(.lload_n 3, 0), (.lload 5, 0), (.lmul, 0), (.bipush 32, 32), (.lushr, 0), (.l2i, 0)] (by decide +kernel) rfl rfl ?_
    exact es_ret rfl rfl rfl ⟨by decide +kernel, _, rfl, rfl⟩ (Nat.le_refl _) (Nat.le_refl _)
  refine es_ifc (fun h8 => ?_) (fun h8 => ?_)
  · refine es_tsw (off := (77)) (tgt := 93) hs3 4 h8 (by decide) ?_
    refine es_blk (pc' := 94) (L' := [some (.int p0), some (.int p1), some (.int p2), some (.long x1), none, some (.long x2), none]) (st' := [.int p2]) [(.iload_n 2, 0)] (by decide +kernel) rfl rfl ?_
    refine ef_J (X := fun j9 => ∀ (a10 : Int32), eh_Sim g eM_12_product (eh_R 1 0 0) (eh_pI s) 0 0 120 [none, none, none, none, none, none, none] [.int a10] (eh_FW s) ((j9 a10).bind some)) ?_ (fun j9 Hj9 => ?_)
    · intro a10
      exact es_ret rfl rfl rfl ⟨by decide +kernel, _, rfl, rfl⟩ (Nat.le_refl _) (Nat.le_refl _)
    refine es_ne (tgt := 101) (off := (7)) (by decide +kernel) (by decide) (fun h11 => ?_) (fun h11 => ?_)
    · refine es_blk (pc' := 98) (L' := [some (.int p0), some (.int p1), some (.int p2), some (.long x1), none, some (.long x2), none]) (st' := [.int (-1)]) [(.iconst (-1), (-1))] (by decide +kernel) rfl rfl ?_
      refine es_goto (tgt := 120) (off := (22)) (by decide +kernel) (by decide) ?_
      refine ef_drop (L2 := [none, none, none, none, none, none, none]) [false, false, false, false, true, false, true] rfl rfl ?_
      exact Hj9 _
    refine es_blk (pc' := 102) (L' := [some (.int p0), some (.int p1), some (.int p2), some (.long x1), none, some (.long x2), none]) (st' := [.int p1]) [(.iload_n 1, 0)] (by decide +kernel) rfl rfl ?_
    refine es_ldcw (v := (-2147483648)) eC_12_410 (by decide +kernel) ?_
    refine ef_J (X := fun j12 => ∀ (u13 : Unit), eh_Sim g eM_12_product (eh_R 1 0 0) (eh_pI s) 0 0 117 [none, some (.int p1), some (.int p2), none, none, none, none] [] (eh_FW s) ((j12 u13).bind some)) ?_ (fun j12 Hj12 => ?_)
    · intro u13
      refine es_blk (pc' := 119) (L' := [none, some (.int p1), some (.int p2), none, none, none, none]) (st' := [.int p2, .int p1]) [(.iload_n 1, 0), (.iload_n 2, 0)] (by decide +kernel) rfl rfl ?_
      refine es_chkN (fun h14 => ?_)
      refine es_idiv (by decide +kernel) h14 ?_
      refine ef_drop (L2 := [none, none, none, none, none, none, none]) [true, false, false, true, true, true, true] rfl rfl ?_
      exact Hj9 _
    refine es_ine (tgt := 117) (off := (12)) (by decide +kernel) (by decide) (fun h15 => ?_) (fun h15 => ?_)
    · refine es_blk (pc' := 110) (L' := [some (.int p0), some (.int p1), some (.int p2), some (.long x1), none, some (.long x2), none]) (st' := [.int (-1), .int p2]) [(.iload_n 2, 0), (.iconst (-1), (-1))] (by decide +kernel) rfl rfl ?_
      refine es_ine (tgt := 117) (off := (7)) (by decide +kernel) (by decide) (fun h16 => ?_) (fun h16 => ?_)
      · refine es_blk (pc' := 114) (L' := [some (.int p0), some (.int p1), some (.int p2), some (.long x1), none, some (.long x2), none]) (st' := [.int p1]) [(.iload_n 1, 0)] (by decide +kernel) rfl rfl ?_
        refine es_goto (tgt := 120) (off := (6)) (by decide +kernel) (by decide) ?_
        refine ef_drop (L2 := [none, none, none, none, none, none, none]) [false, false, false, false, true, false, true] rfl rfl ?_
        exact Hj9 _
      refine ef_drop (L2 := [none, some (.int p1), some (.int p2), none, none, none, none]) [false, true, true, false, true, false, true] rfl rfl ?_
      exact Hj12 ()
    refine ef_drop (L2 := [none, some (.int p1), some (.int p2), none, none, none, none]) [false, true, true, false, true, false, true] rfl rfl ?_
    exact Hj12 ()
  refine es_ifc (fun h17 => ?_) (fun h17 => ?_)
  · refine es_tsw (off := (105)) (tgt := 121) hs3 5 h17 (by decide) ?_
    refine es_blk (pc' := 122) (L' := [some (.int p0), some (.int p1), some (.int p2), some (.long x1), none, some (.long x2), none]) (st' := [.int p2]) [(.iload_n 2, 0)] (by decide +kernel) rfl rfl ?_
    refine ef_J (X := fun j18 => ∀ (a19 : Int32), eh_Sim g eM_12_product (eh_R 1 0 0) (eh_pI s) 0 0 134 [none, none, none, none, none, none, none] [.int a19] (eh_FW s) ((j18 a19).bind some)) ?_ (fun j18 Hj18 => ?_)
    · intro a19
      exact es_ret rfl rfl rfl ⟨by decide +kernel, _, rfl, rfl⟩ (Nat.le_refl _) (Nat.le_refl _)
    refine es_ne (tgt := 129) (off := (7)) (by decide +kernel) (by decide) (fun h20 => ?_) (fun h20 => ?_)
    · refine es_blk (pc' := 126) (L' := [some (.int p0), some (.int p1), some (.int p2), some (.long x1), none, some (.long x2), none]) (st' := [.int (-1)]) [(.iconst (-1), (-1))] (by decide +kernel) rfl rfl ?_
      refine es_goto (tgt := 134) (off := (8)) (by decide +kernel) (by decide) ?_
      refine ef_drop (L2 := [none, none, none, none, none, none, none]) [false, false, false, false, true, false, true] rfl rfl ?_
      exact Hj18 _
    refine es_blk (pc' := 132) (L' := [some (.int p0), some (.int p1), some (.int p2), some (.long x1), none, some (.long x2), none]) (st' := [.long x2, .long x1]) [(.lload_n 3, 0), (.lload 5, 0)] (by decide +kernel) rfl rfl ?_
    refine es_chkNL (fun h21 => ?_)
    refine es_ldiv (by decide +kernel) h21 ?_
    refine es_blk (pc' := 134) (L' := [some (.int p0), some (.int p1), some (.int p2), some (.long x1), none, some (.long x2), none]) (st' := [.int ((x1 / x2).toInt32)]) [(.l2i, 0)] (by decide +kernel) rfl rfl ?_
    refine ef_drop (L2 := [none, none, none, none, none, none, none]) [false, false, false, false, true, false, true] rfl rfl ?_
    exact Hj18 _
  refine es_ifc (fun h22 => ?_) (fun h22 => ?_)
  · refine es_tsw (off := (119)) (tgt := 135) hs3 6 h22 (by decide) ?_
    refine es_blk (pc' := 136) (L' := [some (.int p0), some (.int p1), some (.int p2), some (.long x1), none, some (.long x2), none]) (st' := [.int p2]) [(.iload_n 2, 0)] (by decide +kernel) rfl rfl ?_
    refine ef_J (X := fun j23 => ∀ (a24 : Int32), eh_Sim g eM_12_product (eh_R 1 0 0) (eh_pI s) 0 0 155 [none, none, none, none, none, none, none] [.int a24] (eh_FW s) ((j23 a24).bind some)) ?_ (fun j23 Hj23 => ?_)
    · intro a24
      exact es_ret rfl rfl rfl ⟨by decide +kernel, _, rfl, rfl⟩ (Nat.le_refl _) (Nat.le_refl _)
    refine es_ne (tgt := 143) (off := (7)) (by decide +kernel) (by decide) (fun h25 => ?_) (fun h25 => ?_)
    · refine es_blk (pc' := 140) (L' := [some (.int p0), some (.int p1), some (.int p2), some (.long x1), none, some (.long x2), none]) (st' := [.int p1]) [(.iload_n 1, 0)] (by decide +kernel) rfl rfl ?_
      refine es_goto (tgt := 155) (off := (15)) (by decide +kernel) (by decide) ?_
      refine ef_drop (L2 := [none, none, none, none, none, none, none]) [false, false, false, false, true, false, true] rfl rfl ?_
      exact Hj23 _
    refine es_blk (pc' := 145) (L' := [some (.int p0), some (.int p1), some (.int p2), some (.long x1), none, some (.long x2), none]) (st' := [.int (-1), .int p2]) [(.iload_n 2, 0), (.iconst (-1), (-1))] (by decide +kernel) rfl rfl ?_
    refine es_ine (tgt := 152) (off := (7)) (by decide +kernel) (by decide) (fun h26 => ?_) (fun h26 => ?_)
    · refine es_blk (pc' := 149) (L' := [some (.int p0), some (.int p1), some (.int p2), some (.long x1), none, some (.long x2), none]) (st' := [.int 0]) [(.iconst 0, 0)] (by decide +kernel) rfl rfl ?_
      refine es_goto (tgt := 155) (off := (6)) (by decide +kernel) (by decide) ?_
      refine ef_drop (L2 := [none, none, none, none, none, none, none]) [false, false, false, false, true, false, true] rfl rfl ?_
      exact Hj23 _
    refine es_blk (pc' := 154) (L' := [some (.int p0), some (.int p1), some (.int p2), some (.long x1), none, some (.long x2), none]) (st' := [.int p2, .int p1]) [(.iload_n 1, 0), (.iload_n 2, 0)] (by decide +kernel) rfl rfl ?_
    refine es_chkN (fun h27 => ?_)
    refine es_irem (by decide +kernel) h27 ?_
    refine ef_drop (L2 := [none, none, none, none, none, none, none]) [false, false, false, false, true, false, true] rfl rfl ?_
    exact Hj23 _
  refine es_tswD (tgt := 156) hs3 [0, 1, 2, 3, 4, 5, 6] (List.forall_mem_cons.mpr ⟨eh_nei 0 0 (by decide) h4, (List.forall_mem_cons.mpr ⟨eh_nei 1 1 (by decide) h5, (List.forall_mem_cons.mpr ⟨eh_nei 2 2 (by decide) h6, (List.forall_mem_cons.mpr ⟨eh_nei 3 3 (by decide) h7, (List.forall_mem_cons.mpr ⟨eh_nei 4 4 (by decide) h8, (List.forall_mem_cons.mpr ⟨eh_nei 5 5 (by decide) h17, (List.forall_mem_cons.mpr ⟨eh_nei 6 6 (by decide) h22, (List.forall_mem_nil _)⟩)⟩)⟩)⟩)⟩)⟩)⟩) (by decide) (by decide) (by decide) ?_
  refine es_blk (pc' := 157) (L' := [some (.int p0), some (.int p1), some (.int p2), some (.long x1), none, some (.long x2), none]) (st' := [.int p2]) [(.iload_n 2, 0)] (by decide +kernel) rfl rfl ?_
  refine ef_J (X := fun j28 => ∀ (a29 : Int32), eh_Sim g eM_12_product (eh_R 1 0 0) (eh_pI s) 0 0 169 [none, none, none, none, none, none, none] [.int a29] (eh_FW s) ((j28 a29).bind some)) ?_ (fun j28 Hj28 => ?_)
  · intro a29
    exact es_ret rfl rfl rfl ⟨by decide +kernel, _, rfl, rfl⟩ (Nat.le_refl _) (Nat.le_refl _)
  refine es_ne (tgt := 164) (off := (7)) (by decide +kernel) (by decide) (fun h30 => ?_) (fun h30 => ?_)
  · refine es_blk (pc' := 161) (L' := [some (.int p0), some (.int p1), some (.int p2), some (.long x1), none, some (.long x2), none]) (st' := [.int p1]) [(.iload_n 1, 0)] (by decide +kernel) rfl rfl ?_
    refine es_goto (tgt := 169) (off := (8)) (by decide +kernel) (by decide) ?_
    refine ef_drop (L2 := [none, none, none, none, none, none, none]) [false, false, false, false, true, false, true] rfl rfl ?_
    exact Hj28 _
  refine es_blk (pc' := 167) (L' := [some (.int p0), some (.int p1), some (.int p2), some (.long x1), none, some (.long x2), none]) (st' := [.long x2, .long x1]) [(.lload_n 3, 0), (.lload 5, 0)] (by decide +kernel) rfl rfl ?_
  refine es_chkNL (fun h31 => ?_)
  refine es_lrem (by decide +kernel) h31 ?_
  refine es_blk (pc' := 169) (L' := [some (.int p0), some (.int p1), some (.int p2), some (.long x1), none, some (.long x2), none]) (st' := [.int ((eh_lrem x1 x2).toInt32)]) [(.l2i, 0)] (by decide +kernel) rfl rfl ?_
  refine ef_drop (L2 := [none, none, none, none, none, none, none]) [false, false, false, false, true, false, true] rfl rfl ?_
  exact Hj28 _
def eF_12_isRegister (s : eh_F) (p0 : Int32) : Option (Int32) := eh_J (fun (a2 : Int32) => if a2 = 0 ∨ a2 = 1 then some a2 else none) (fun j1 => eh_J (fun (u5 : Unit) => j1 1) (fun j4 => if p0 = 256 then (j4 ()) else (if p0 = 260 then (j4 ()) else (if p0 = 261 then (j4 ()) else (eh_J (fun (u10 : Unit) => if p0 = 333 then (j4 ()) else (if p0 = 384 then (j4 ()) else (if p0 = 3073 then (j4 ()) else (if p0 = 3860 then (j4 ()) else (j1 0))))) (fun j9 => if p0 < 320 then (j9 ()) else (if 324 < p0 then (j9 ()) else (j4 ()))))))))
set_option maxHeartbeats 4000000 in
set_option maxRecDepth 100000 in
theorem eS_12_isRegister (g : eh_P) (s : eh_F) (p0 : Int32) : eh_Sim g eM_12_isRegister (eh_R 1 0 0) (eh_pI s) 0 0 0 (eh_en 1 [.int p0]) [] (eh_FW s) (eF_12_isRegister s p0) := by
  unfold eF_12_isRegister
  refine ef_top (L := [some (.int p0)]) rfl ?_
  refine es_blk (pc' := 4) (L' := [some (.int p0)]) (st' := [.int 256, .int p0]) [(.iload_n 0, 0), (.sipush 256, 256)] (by decide +kernel) rfl rfl ?_
  refine ef_J (X := fun j1 => ∀ (a2 : Int32), eh_Sim g eM_12_isRegister (eh_R 1 0 0) (eh_pI s) 0 0 68 [none] [.int a2] (eh_FW s) ((j1 a2).bind some)) ?_ (fun j1 Hj1 => ?_)
  · intro a2
    refine es_chk (fun h3 => ?_)
    exact es_ret rfl rfl rfl ⟨by decide +kernel, _, rfl, eh_narZ h3⟩ (Nat.le_refl _) (Nat.le_refl _)
  refine ef_J (X := fun j4 => ∀ (u5 : Unit), eh_Sim g eM_12_isRegister (eh_R 1 0 0) (eh_pI s) 0 0 63 [none] [] (eh_FW s) ((j4 u5).bind some)) ?_ (fun j4 Hj4 => ?_)
  · intro u5
    refine es_blk (pc' := 64) (L' := [none]) (st' := [.int 1]) [(.iconst 1, 1)] (by decide +kernel) rfl rfl ?_
    refine es_goto (tgt := 68) (off := (4)) (by decide +kernel) (by decide) ?_
    exact Hj1 _
  refine es_ieq (tgt := 63) (off := (59)) (by decide +kernel) (by decide) (fun h6 => ?_) (fun h6 => ?_)
  · refine ef_drop (L2 := [none]) [false] rfl rfl ?_
    exact Hj4 ()
  refine es_blk (pc' := 11) (L' := [some (.int p0)]) (st' := [.int 260, .int p0]) [(.iload_n 0, 0), (.sipush 260, 260)] (by decide +kernel) rfl rfl ?_
  refine es_ieq (tgt := 63) (off := (52)) (by decide +kernel) (by decide) (fun h7 => ?_) (fun h7 => ?_)
  · refine ef_drop (L2 := [none]) [false] rfl rfl ?_
    exact Hj4 ()
  refine es_blk (pc' := 18) (L' := [some (.int p0)]) (st' := [.int 261, .int p0]) [(.iload_n 0, 0), (.sipush 261, 261)] (by decide +kernel) rfl rfl ?_
  refine es_ieq (tgt := 63) (off := (45)) (by decide +kernel) (by decide) (fun h8 => ?_) (fun h8 => ?_)
  · refine ef_drop (L2 := [none]) [false] rfl rfl ?_
    exact Hj4 ()
  refine es_blk (pc' := 25) (L' := [some (.int p0)]) (st' := [.int 320, .int p0]) [(.iload_n 0, 0), (.sipush 320, 320)] (by decide +kernel) rfl rfl ?_
  refine ef_J (X := fun j9 => ∀ (u10 : Unit), eh_Sim g eM_12_isRegister (eh_R 1 0 0) (eh_pI s) 0 0 35 [some (.int p0)] [] (eh_FW s) ((j9 u10).bind some)) ?_ (fun j9 Hj9 => ?_)
  · intro u10
    refine es_blk (pc' := 39) (L' := [some (.int p0)]) (st' := [.int 333, .int p0]) [(.iload_n 0, 0), (.sipush 333, 333)] (by decide +kernel) rfl rfl ?_
    refine es_ieq (tgt := 63) (off := (24)) (by decide +kernel) (by decide) (fun h11 => ?_) (fun h11 => ?_)
    · refine ef_drop (L2 := [none]) [false] rfl rfl ?_
      exact Hj4 ()
    refine es_blk (pc' := 46) (L' := [some (.int p0)]) (st' := [.int 384, .int p0]) [(.iload_n 0, 0), (.sipush 384, 384)] (by decide +kernel) rfl rfl ?_
    refine es_ieq (tgt := 63) (off := (17)) (by decide +kernel) (by decide) (fun h12 => ?_) (fun h12 => ?_)
    · refine ef_drop (L2 := [none]) [false] rfl rfl ?_
      exact Hj4 ()
    refine es_blk (pc' := 53) (L' := [some (.int p0)]) (st' := [.int 3073, .int p0]) [(.iload_n 0, 0), (.sipush 3073, 3073)] (by decide +kernel) rfl rfl ?_
    refine es_ieq (tgt := 63) (off := (10)) (by decide +kernel) (by decide) (fun h13 => ?_) (fun h13 => ?_)
    · refine ef_drop (L2 := [none]) [false] rfl rfl ?_
      exact Hj4 ()
    refine es_blk (pc' := 60) (L' := [some (.int p0)]) (st' := [.int 3860, .int p0]) [(.iload_n 0, 0), (.sipush 3860, 3860)] (by decide +kernel) rfl rfl ?_
    refine es_ine (tgt := 67) (off := (7)) (by decide +kernel) (by decide) (fun h14 => ?_) (fun h14 => ?_)
    · refine ef_drop (L2 := [none]) [false] rfl rfl ?_
      exact Hj4 ()
    refine es_blk (pc' := 68) (L' := [some (.int p0)]) (st' := [.int 0]) [(.iconst 0, 0)] (by decide +kernel) rfl rfl ?_
    refine ef_drop (L2 := [none]) [false] rfl rfl ?_
    exact Hj1 _
  refine es_ilt (tgt := 35) (off := (10)) (by decide +kernel) (by decide) (fun h15 => ?_) (fun h15 => ?_)
  · exact Hj9 ()
  refine es_blk (pc' := 32) (L' := [some (.int p0)]) (st' := [.int 324, .int p0]) [(.iload_n 0, 0), (.sipush 324, 324)] (by decide +kernel) rfl rfl ?_
  refine es_ile (tgt := 63) (off := (31)) (by decide +kernel) (by decide) (fun h16 => ?_) (fun h16 => ?_)
  · exact Hj9 ()
  refine ef_drop (L2 := [none]) [false] rfl rfl ?_
  exact Hj4 ()
def eF_12_writeRegister (s : eh_F) (p0 : Int32) (p1 : Int32) (p2 : Int32) : Option (eh_F) := eh_J (fun (s2 : eh_F) => some s2) (fun j1 => if p1 = 256 then (if eh_in p0 2 then eh_V (eh_tI s 133 (eh_ix p0) (p2 &&& 786722)) (fun s5 => j1 s5) else none) else if p1 = 260 then (if eh_in p0 2 then eh_V (eh_tI s 134 (eh_ix p0) (p2 &&& 546)) (fun s7 => j1 s7) else none) else if p1 = 261 then (if eh_in p0 2 then eh_V (eh_tI s 135 (eh_ix p0) (p2 &&& (-4))) (fun s9 => j1 s9) else none) else if p1 = 320 then (if eh_in p0 2 then eh_V (eh_tI s 136 (eh_ix p0) p2) (fun s11 => j1 s11) else none) else if p1 = 321 then (if eh_in p0 2 then eh_V (eh_tI s 137 (eh_ix p0) (p2 &&& (-4))) (fun s13 => j1 s13) else none) else if p1 = 322 then (if eh_in p0 2 then eh_V (eh_tI s 138 (eh_ix p0) p2) (fun s15 => j1 s15) else none) else if p1 = 323 then (if eh_in p0 2 then eh_V (eh_tI s 139 (eh_ix p0) p2) (fun s17 => j1 s17) else none) else if p1 = 324 then (if eh_in p0 2 then eh_V (eh_tI s 140 (eh_ix p0) (p2 &&& 2)) (fun s19 => j1 s19) else none) else if p1 = 333 then (if eh_in p0 2 then eh_V (eh_tI s 141 (eh_ix p0) p2) (fun s21 => j1 s21) else none) else (if eh_in p0 2 then eh_V (eh_tI s 142 (eh_ix p0) (p2 &&& (-2143289345))) (fun s22 => j1 s22) else none))
set_option maxHeartbeats 4000000 in
set_option maxRecDepth 100000 in
theorem eS_12_writeRegister (g : eh_P) (s : eh_F) (p0 : Int32) (p1 : Int32) (p2 : Int32) : eh_Sim g eM_12_writeRegister (eh_R 1 0 0) eh_eV 0 0 0 (eh_en 4 [.ref 127, .int p0, .int p1, .int p2]) [] (eh_FW s) (eF_12_writeRegister s p0 p1 p2) := by
  unfold eF_12_writeRegister
  refine ef_top (L := [some (.ref 127), some (.int p0), some (.int p1), some (.int p2)]) rfl ?_
  refine es_blk (pc' := 1) (L' := [some (.ref 127), some (.int p0), some (.int p1), some (.int p2)]) (st' := [.int p1]) [(.iload_n 2, 0)] (by decide +kernel) rfl rfl ?_
  refine ef_J (X := fun j1 => ∀ (s2 : eh_F), eh_Sim g eM_12_writeRegister (eh_R 1 0 0) eh_eV 0 0 201 [none, none, none, none] [] (eh_FW s2) ((j1 s2).bind some)) ?_ (fun j1 Hj1 => ?_)
  · intro s2
    exact es_ret rfl rfl rfl ⟨by decide +kernel, rfl⟩ (Nat.le_refl _) (Nat.le_refl _)
  have hs3 : decode eM_12_writeRegister.2.1 1 = .ok (.lookupswitch (189) #[(256, 83), (260, 97), (261, 111), (320, 124), (321, 134), (322, 147), (323, 157), (324, 167), (333, 179)], 83) := by decide +kernel
  refine es_ifc (fun h4 => ?_) (fun h4 => ?_)
  · refine es_lsw (off := (83)) (tgt := 84) hs3 256 h4 (by decide) (by decide) (by decide) ?_
    refine es_blk (pc' := 85) (L' := [some (.ref 127), some (.int p0), some (.int p1), some (.int p2)]) (st' := [.ref 127]) [(.aload_n 0, 0)] (by decide +kernel) rfl rfl ?_
    refine ef_getP (k := 127) (j := 5) (q := 133) rfl eL_12_28 rfl rfl rfl (by decide +kernel) ?_
    refine es_blk (pc' := 90) (L' := [some (.ref 127), some (.int p0), some (.int p1), some (.int p2)]) (st' := [.int p2, .int p0, .ref 133]) [(.iload_n 1, 0), (.iload_n 3, 0)] (by decide +kernel) rfl rfl ?_
    refine es_ldcw (v := 786722) eC_12_486 (by decide +kernel) ?_
    refine es_blk (pc' := 94) (L' := [some (.ref 127), some (.int p0), some (.int p1), some (.int p2)]) (st' := [.int (p2 &&& 786722), .int p0, .ref 133]) [(.iand, 0)] (by decide +kernel) rfl rfl ?_
    refine ef_ast (k := 133) rfl (by decide +kernel) (fun _ => ?_)
    refine ef_V (fun _ => [some (.ref 127), some (.int p0), some (.int p1), some (.int p2)]) (fun _ => []) (fun s5 => eh_FW s5) (fun s5 => ?_)
    refine es_goto (tgt := 201) (off := (106)) (by decide +kernel) (by decide) ?_
    refine ef_drop (L2 := [none, none, none, none]) [false, false, false, false] rfl rfl ?_
    exact Hj1 _
  refine es_ifc (fun h6 => ?_) (fun h6 => ?_)
  · refine es_lsw (off := (97)) (tgt := 98) hs3 260 h6 (by decide) (by decide) (by decide) ?_
    refine es_blk (pc' := 99) (L' := [some (.ref 127), some (.int p0), some (.int p1), some (.int p2)]) (st' := [.ref 127]) [(.aload_n 0, 0)] (by decide +kernel) rfl rfl ?_
    refine ef_getP (k := 127) (j := 6) (q := 134) rfl eL_12_31 rfl rfl rfl (by decide +kernel) ?_
    refine es_blk (pc' := 108) (L' := [some (.ref 127), some (.int p0), some (.int p1), some (.int p2)]) (st' := [.int (p2 &&& 546), .int p0, .ref 134]) [(.iload_n 1, 0), (.iload_n 3, 0), (.sipush 546, 546), (.iand, 0)] (by decide +kernel) rfl rfl ?_
    refine ef_ast (k := 134) rfl (by decide +kernel) (fun _ => ?_)
    refine ef_V (fun _ => [some (.ref 127), some (.int p0), some (.int p1), some (.int p2)]) (fun _ => []) (fun s7 => eh_FW s7) (fun s7 => ?_)
    refine es_goto (tgt := 201) (off := (92)) (by decide +kernel) (by decide) ?_
    refine ef_drop (L2 := [none, none, none, none]) [false, false, false, false] rfl rfl ?_
    exact Hj1 _
  refine es_ifc (fun h8 => ?_) (fun h8 => ?_)
  · refine es_lsw (off := (111)) (tgt := 112) hs3 261 h8 (by decide) (by decide) (by decide) ?_
    refine es_blk (pc' := 113) (L' := [some (.ref 127), some (.int p0), some (.int p1), some (.int p2)]) (st' := [.ref 127]) [(.aload_n 0, 0)] (by decide +kernel) rfl rfl ?_
    refine ef_getP (k := 127) (j := 7) (q := 135) rfl eL_12_34 rfl rfl rfl (by decide +kernel) ?_
    refine es_blk (pc' := 121) (L' := [some (.ref 127), some (.int p0), some (.int p1), some (.int p2)]) (st' := [.int (p2 &&& (-4)), .int p0, .ref 135]) [(.iload_n 1, 0), (.iload_n 3, 0), (.bipush (-4), (-4)), (.iand, 0)] (by decide +kernel) rfl rfl ?_
    refine ef_ast (k := 135) rfl (by decide +kernel) (fun _ => ?_)
    refine ef_V (fun _ => [some (.ref 127), some (.int p0), some (.int p1), some (.int p2)]) (fun _ => []) (fun s9 => eh_FW s9) (fun s9 => ?_)
    refine es_goto (tgt := 201) (off := (79)) (by decide +kernel) (by decide) ?_
    refine ef_drop (L2 := [none, none, none, none]) [false, false, false, false] rfl rfl ?_
    exact Hj1 _
  refine es_ifc (fun h10 => ?_) (fun h10 => ?_)
  · refine es_lsw (off := (124)) (tgt := 125) hs3 320 h10 (by decide) (by decide) (by decide) ?_
    refine es_blk (pc' := 126) (L' := [some (.ref 127), some (.int p0), some (.int p1), some (.int p2)]) (st' := [.ref 127]) [(.aload_n 0, 0)] (by decide +kernel) rfl rfl ?_
    refine ef_getP (k := 127) (j := 8) (q := 136) rfl eL_12_37 rfl rfl rfl (by decide +kernel) ?_
    refine es_blk (pc' := 131) (L' := [some (.ref 127), some (.int p0), some (.int p1), some (.int p2)]) (st' := [.int p2, .int p0, .ref 136]) [(.iload_n 1, 0), (.iload_n 3, 0)] (by decide +kernel) rfl rfl ?_
    refine ef_ast (k := 136) rfl (by decide +kernel) (fun _ => ?_)
    refine ef_V (fun _ => [some (.ref 127), some (.int p0), some (.int p1), some (.int p2)]) (fun _ => []) (fun s11 => eh_FW s11) (fun s11 => ?_)
    refine es_goto (tgt := 201) (off := (69)) (by decide +kernel) (by decide) ?_
    refine ef_drop (L2 := [none, none, none, none]) [false, false, false, false] rfl rfl ?_
    exact Hj1 _
  refine es_ifc (fun h12 => ?_) (fun h12 => ?_)
  · refine es_lsw (off := (134)) (tgt := 135) hs3 321 h12 (by decide) (by decide) (by decide) ?_
    refine es_blk (pc' := 136) (L' := [some (.ref 127), some (.int p0), some (.int p1), some (.int p2)]) (st' := [.ref 127]) [(.aload_n 0, 0)] (by decide +kernel) rfl rfl ?_
    refine ef_getP (k := 127) (j := 9) (q := 137) rfl eL_12_40 rfl rfl rfl (by decide +kernel) ?_
    refine es_blk (pc' := 144) (L' := [some (.ref 127), some (.int p0), some (.int p1), some (.int p2)]) (st' := [.int (p2 &&& (-4)), .int p0, .ref 137]) [(.iload_n 1, 0), (.iload_n 3, 0), (.bipush (-4), (-4)), (.iand, 0)] (by decide +kernel) rfl rfl ?_
    refine ef_ast (k := 137) rfl (by decide +kernel) (fun _ => ?_)
    refine ef_V (fun _ => [some (.ref 127), some (.int p0), some (.int p1), some (.int p2)]) (fun _ => []) (fun s13 => eh_FW s13) (fun s13 => ?_)
    refine es_goto (tgt := 201) (off := (56)) (by decide +kernel) (by decide) ?_
    refine ef_drop (L2 := [none, none, none, none]) [false, false, false, false] rfl rfl ?_
    exact Hj1 _
  refine es_ifc (fun h14 => ?_) (fun h14 => ?_)
  · refine es_lsw (off := (147)) (tgt := 148) hs3 322 h14 (by decide) (by decide) (by decide) ?_
    refine es_blk (pc' := 149) (L' := [some (.ref 127), some (.int p0), some (.int p1), some (.int p2)]) (st' := [.ref 127]) [(.aload_n 0, 0)] (by decide +kernel) rfl rfl ?_
    refine ef_getP (k := 127) (j := 10) (q := 138) rfl eL_12_43 rfl rfl rfl (by decide +kernel) ?_
    refine es_blk (pc' := 154) (L' := [some (.ref 127), some (.int p0), some (.int p1), some (.int p2)]) (st' := [.int p2, .int p0, .ref 138]) [(.iload_n 1, 0), (.iload_n 3, 0)] (by decide +kernel) rfl rfl ?_
    refine ef_ast (k := 138) rfl (by decide +kernel) (fun _ => ?_)
    refine ef_V (fun _ => [some (.ref 127), some (.int p0), some (.int p1), some (.int p2)]) (fun _ => []) (fun s15 => eh_FW s15) (fun s15 => ?_)
    refine es_goto (tgt := 201) (off := (46)) (by decide +kernel) (by decide) ?_
    refine ef_drop (L2 := [none, none, none, none]) [false, false, false, false] rfl rfl ?_
    exact Hj1 _
  refine es_ifc (fun h16 => ?_) (fun h16 => ?_)
  · refine es_lsw (off := (157)) (tgt := 158) hs3 323 h16 (by decide) (by decide) (by decide) ?_
    refine es_blk (pc' := 159) (L' := [some (.ref 127), some (.int p0), some (.int p1), some (.int p2)]) (st' := [.ref 127]) [(.aload_n 0, 0)] (by decide +kernel) rfl rfl ?_
    refine ef_getP (k := 127) (j := 11) (q := 139) rfl eL_12_46 rfl rfl rfl (by decide +kernel) ?_
    refine es_blk (pc' := 164) (L' := [some (.ref 127), some (.int p0), some (.int p1), some (.int p2)]) (st' := [.int p2, .int p0, .ref 139]) [(.iload_n 1, 0), (.iload_n 3, 0)] (by decide +kernel) rfl rfl ?_
    refine ef_ast (k := 139) rfl (by decide +kernel) (fun _ => ?_)
    refine ef_V (fun _ => [some (.ref 127), some (.int p0), some (.int p1), some (.int p2)]) (fun _ => []) (fun s17 => eh_FW s17) (fun s17 => ?_)
    refine es_goto (tgt := 201) (off := (36)) (by decide +kernel) (by decide) ?_
    refine ef_drop (L2 := [none, none, none, none]) [false, false, false, false] rfl rfl ?_
    exact Hj1 _
  refine es_ifc (fun h18 => ?_) (fun h18 => ?_)
  · refine es_lsw (off := (167)) (tgt := 168) hs3 324 h18 (by decide) (by decide) (by decide) ?_
    refine es_blk (pc' := 169) (L' := [some (.ref 127), some (.int p0), some (.int p1), some (.int p2)]) (st' := [.ref 127]) [(.aload_n 0, 0)] (by decide +kernel) rfl rfl ?_
    refine ef_getP (k := 127) (j := 12) (q := 140) rfl eL_12_49 rfl rfl rfl (by decide +kernel) ?_
    refine es_blk (pc' := 176) (L' := [some (.ref 127), some (.int p0), some (.int p1), some (.int p2)]) (st' := [.int (p2 &&& 2), .int p0, .ref 140]) [(.iload_n 1, 0), (.iload_n 3, 0), (.iconst 2, 2), (.iand, 0)] (by decide +kernel) rfl rfl ?_
    refine ef_ast (k := 140) rfl (by decide +kernel) (fun _ => ?_)
    refine ef_V (fun _ => [some (.ref 127), some (.int p0), some (.int p1), some (.int p2)]) (fun _ => []) (fun s19 => eh_FW s19) (fun s19 => ?_)
    refine es_goto (tgt := 201) (off := (24)) (by decide +kernel) (by decide) ?_
    refine ef_drop (L2 := [none, none, none, none]) [false, false, false, false] rfl rfl ?_
    exact Hj1 _
  refine es_ifc (fun h20 => ?_) (fun h20 => ?_)
  · refine es_lsw (off := (179)) (tgt := 180) hs3 333 h20 (by decide) (by decide) (by decide) ?_
    refine es_blk (pc' := 181) (L' := [some (.ref 127), some (.int p0), some (.int p1), some (.int p2)]) (st' := [.ref 127]) [(.aload_n 0, 0)] (by decide +kernel) rfl rfl ?_
    refine ef_getP (k := 127) (j := 13) (q := 141) rfl eL_12_52 rfl rfl rfl (by decide +kernel) ?_
    refine es_blk (pc' := 186) (L' := [some (.ref 127), some (.int p0), some (.int p1), some (.int p2)]) (st' := [.int p2, .int p0, .ref 141]) [(.iload_n 1, 0), (.iload_n 3, 0)] (by decide +kernel) rfl rfl ?_
    refine ef_ast (k := 141) rfl (by decide +kernel) (fun _ => ?_)
    refine ef_V (fun _ => [some (.ref 127), some (.int p0), some (.int p1), some (.int p2)]) (fun _ => []) (fun s21 => eh_FW s21) (fun s21 => ?_)
    refine es_goto (tgt := 201) (off := (14)) (by decide +kernel) (by decide) ?_
    refine ef_drop (L2 := [none, none, none, none]) [false, false, false, false] rfl rfl ?_
    exact Hj1 _
  refine es_lswD (tgt := 190) hs3 [256, 260, 261, 320, 321, 322, 323, 324, 333] (List.forall_mem_cons.mpr ⟨eh_nei 256 256 (by decide) h4, (List.forall_mem_cons.mpr ⟨eh_nei 260 260 (by decide) h6, (List.forall_mem_cons.mpr ⟨eh_nei 261 261 (by decide) h8, (List.forall_mem_cons.mpr ⟨eh_nei 320 320 (by decide) h10, (List.forall_mem_cons.mpr ⟨eh_nei 321 321 (by decide) h12, (List.forall_mem_cons.mpr ⟨eh_nei 322 322 (by decide) h14, (List.forall_mem_cons.mpr ⟨eh_nei 323 323 (by decide) h16, (List.forall_mem_cons.mpr ⟨eh_nei 324 324 (by decide) h18, (List.forall_mem_cons.mpr ⟨eh_nei 333 333 (by decide) h20, (List.forall_mem_nil _)⟩)⟩)⟩)⟩)⟩)⟩)⟩)⟩)⟩) (by decide) (by decide) (by decide) ?_
  refine es_blk (pc' := 191) (L' := [some (.ref 127), some (.int p0), some (.int p1), some (.int p2)]) (st' := [.ref 127]) [(.aload_n 0, 0)] (by decide +kernel) rfl rfl ?_
  refine ef_getP (k := 127) (j := 14) (q := 142) rfl eL_12_55 rfl rfl rfl (by decide +kernel) ?_
  refine es_blk (pc' := 196) (L' := [some (.ref 127), some (.int p0), some (.int p1), some (.int p2)]) (st' := [.int p2, .int p0, .ref 142]) [(.iload_n 1, 0), (.iload_n 3, 0)] (by decide +kernel) rfl rfl ?_
  refine es_ldcw (v := (-2143289345)) eC_12_487 (by decide +kernel) ?_
  refine es_blk (pc' := 200) (L' := [some (.ref 127), some (.int p0), some (.int p1), some (.int p2)]) (st' := [.int (p2 &&& (-2143289345)), .int p0, .ref 142]) [(.iand, 0)] (by decide +kernel) rfl rfl ?_
  refine ef_ast (k := 142) rfl (by decide +kernel) (fun _ => ?_)
  refine ef_V (fun _ => [some (.ref 127), some (.int p0), some (.int p1), some (.int p2)]) (fun _ => []) (fun s22 => eh_FW s22) (fun s22 => ?_)
  refine ef_drop (L2 := [none, none, none, none]) [false, false, false, false] rfl rfl ?_
  exact Hj1 _
def eF_12_isEnclave (s : eh_F) (p0 : Int32) : Option (Int32) := eh_J (fun (a2 : Int32) => if a2 = 0 ∨ a2 = 1 then some a2 else none) (fun j1 => eh_J (fun (u5 : Unit) => j1 0) (fun j4 => if p0 < 0 then (j4 ()) else (if p0 < 6 then (if eh_in p0 6 then if (s.1 155 (eh_ix p0)) = 0 then (j4 ()) else (j1 1) else none) else (j4 ()))))
set_option maxHeartbeats 4000000 in
set_option maxRecDepth 100000 in
theorem eS_12_isEnclave (g : eh_P) (s : eh_F) (p0 : Int32) : eh_Sim g eM_12_isEnclave (eh_R 1 0 0) (eh_pI s) 0 0 0 (eh_en 2 [.ref 127, .int p0]) [] (eh_FW s) (eF_12_isEnclave s p0) := by
  unfold eF_12_isEnclave
  refine ef_top (L := [some (.ref 127), some (.int p0)]) rfl ?_
  refine es_blk (pc' := 1) (L' := [some (.ref 127), some (.int p0)]) (st' := [.int p0]) [(.iload_n 1, 0)] (by decide +kernel) rfl rfl ?_
  refine ef_J (X := fun j1 => ∀ (a2 : Int32), eh_Sim g eM_12_isEnclave (eh_R 1 0 0) (eh_pI s) 0 0 24 [none, none] [.int a2] (eh_FW s) ((j1 a2).bind some)) ?_ (fun j1 Hj1 => ?_)
  · intro a2
    refine es_chk (fun h3 => ?_)
    exact es_ret rfl rfl rfl ⟨by decide +kernel, _, rfl, eh_narZ h3⟩ (Nat.le_refl _) (Nat.le_refl _)
  refine ef_J (X := fun j4 => ∀ (u5 : Unit), eh_Sim g eM_12_isEnclave (eh_R 1 0 0) (eh_pI s) 0 0 23 [none, none] [] (eh_FW s) ((j4 u5).bind some)) ?_ (fun j4 Hj4 => ?_)
  · intro u5
    refine es_blk (pc' := 24) (L' := [none, none]) (st' := [.int 0]) [(.iconst 0, 0)] (by decide +kernel) rfl rfl ?_
    exact Hj1 _
  refine es_lt (tgt := 23) (off := (22)) (by decide +kernel) (by decide) (fun h6 => ?_) (fun h6 => ?_)
  · refine ef_drop (L2 := [none, none]) [false, false] rfl rfl ?_
    exact Hj4 ()
  refine es_blk (pc' := 7) (L' := [some (.ref 127), some (.int p0)]) (st' := [.int 6, .int p0]) [(.iload_n 1, 0), (.bipush 6, 6)] (by decide +kernel) rfl rfl ?_
  refine es_ige (tgt := 23) (off := (16)) (by decide +kernel) (by decide) (fun h7 => ?_) (fun h7 => ?_)
  · refine es_blk (pc' := 11) (L' := [some (.ref 127), some (.int p0)]) (st' := [.ref 127]) [(.aload_n 0, 0)] (by decide +kernel) rfl rfl ?_
    refine ef_getP (k := 127) (j := 30) (q := 155) rfl eL_12_94 rfl rfl rfl (by decide +kernel) ?_
    refine es_blk (pc' := 15) (L' := [some (.ref 127), some (.int p0)]) (st' := [.int p0, .ref 155]) [(.iload_n 1, 0)] (by decide +kernel) rfl rfl ?_
    refine ef_ald (k := 155) rfl (Or.inl ⟨rfl, rfl⟩) (by decide +kernel) (fun _ => ?_)
    refine es_eq (tgt := 23) (off := (7)) (by decide +kernel) (by decide) (fun h8 => ?_) (fun h8 => ?_)
    · refine ef_drop (L2 := [none, none]) [false, false] rfl rfl ?_
      exact Hj4 ()
    refine es_blk (pc' := 20) (L' := [some (.ref 127), some (.int p0)]) (st' := [.int 1]) [(.iconst 1, 1)] (by decide +kernel) rfl rfl ?_
    refine es_goto (tgt := 24) (off := (4)) (by decide +kernel) (by decide) ?_
    refine ef_drop (L2 := [none, none]) [false, false] rfl rfl ?_
    exact Hj1 _
  refine ef_drop (L2 := [none, none]) [false, false] rfl rfl ?_
  exact Hj4 ()
def eF_12_isThread (s : eh_F) (p0 : Int32) : Option (Int32) := eh_J (fun (a2 : Int32) => if a2 = 0 ∨ a2 = 1 then some a2 else none) (fun j1 => eh_J (fun (u5 : Unit) => j1 0) (fun j4 => if p0 < 0 then (j4 ()) else (if p0 < 12 then (if eh_in p0 12 then if (s.1 148 (eh_ix p0)) = 0 then (j4 ()) else (j1 1) else none) else (j4 ()))))
set_option maxHeartbeats 4000000 in
set_option maxRecDepth 100000 in
theorem eS_12_isThread (g : eh_P) (s : eh_F) (p0 : Int32) : eh_Sim g eM_12_isThread (eh_R 1 0 0) (eh_pI s) 0 0 0 (eh_en 2 [.ref 127, .int p0]) [] (eh_FW s) (eF_12_isThread s p0) := by
  unfold eF_12_isThread
  refine ef_top (L := [some (.ref 127), some (.int p0)]) rfl ?_
  refine es_blk (pc' := 1) (L' := [some (.ref 127), some (.int p0)]) (st' := [.int p0]) [(.iload_n 1, 0)] (by decide +kernel) rfl rfl ?_
  refine ef_J (X := fun j1 => ∀ (a2 : Int32), eh_Sim g eM_12_isThread (eh_R 1 0 0) (eh_pI s) 0 0 24 [none, none] [.int a2] (eh_FW s) ((j1 a2).bind some)) ?_ (fun j1 Hj1 => ?_)
  · intro a2
    refine es_chk (fun h3 => ?_)
    exact es_ret rfl rfl rfl ⟨by decide +kernel, _, rfl, eh_narZ h3⟩ (Nat.le_refl _) (Nat.le_refl _)
  refine ef_J (X := fun j4 => ∀ (u5 : Unit), eh_Sim g eM_12_isThread (eh_R 1 0 0) (eh_pI s) 0 0 23 [none, none] [] (eh_FW s) ((j4 u5).bind some)) ?_ (fun j4 Hj4 => ?_)
  · intro u5
    refine es_blk (pc' := 24) (L' := [none, none]) (st' := [.int 0]) [(.iconst 0, 0)] (by decide +kernel) rfl rfl ?_
    exact Hj1 _
  refine es_lt (tgt := 23) (off := (22)) (by decide +kernel) (by decide) (fun h6 => ?_) (fun h6 => ?_)
  · refine ef_drop (L2 := [none, none]) [false, false] rfl rfl ?_
    exact Hj4 ()
  refine es_blk (pc' := 7) (L' := [some (.ref 127), some (.int p0)]) (st' := [.int 12, .int p0]) [(.iload_n 1, 0), (.bipush 12, 12)] (by decide +kernel) rfl rfl ?_
  refine es_ige (tgt := 23) (off := (16)) (by decide +kernel) (by decide) (fun h7 => ?_) (fun h7 => ?_)
  · refine es_blk (pc' := 11) (L' := [some (.ref 127), some (.int p0)]) (st' := [.ref 127]) [(.aload_n 0, 0)] (by decide +kernel) rfl rfl ?_
    refine ef_getP (k := 127) (j := 23) (q := 148) rfl eL_12_73 rfl rfl rfl (by decide +kernel) ?_
    refine es_blk (pc' := 15) (L' := [some (.ref 127), some (.int p0)]) (st' := [.int p0, .ref 148]) [(.iload_n 1, 0)] (by decide +kernel) rfl rfl ?_
    refine ef_ald (k := 148) rfl (Or.inl ⟨rfl, rfl⟩) (by decide +kernel) (fun _ => ?_)
    refine es_eq (tgt := 23) (off := (7)) (by decide +kernel) (by decide) (fun h8 => ?_) (fun h8 => ?_)
    · refine ef_drop (L2 := [none, none]) [false, false] rfl rfl ?_
      exact Hj4 ()
    refine es_blk (pc' := 20) (L' := [some (.ref 127), some (.int p0)]) (st' := [.int 1]) [(.iconst 1, 1)] (by decide +kernel) rfl rfl ?_
    refine es_goto (tgt := 24) (off := (4)) (by decide +kernel) (by decide) ?_
    refine ef_drop (L2 := [none, none]) [false, false] rfl rfl ?_
    exact Hj1 _
  refine ef_drop (L2 := [none, none]) [false, false] rfl rfl ?_
  exact Hj4 ()
def eF_12_isSpan (s : eh_F) (p0 : Int32) (p1 : Int32) : Option (Int32) := eh_J (fun (a2 : Int32) => if a2 = 0 ∨ a2 = 1 then some a2 else none) (fun j1 => eh_J (fun (u5 : Unit) => j1 0) (fun j4 => eh_J (fun (u7 : Unit) => if p0 < 0 then (j4 ()) else (if p1 = 0 then none else if (eh_rem p0 p1) = 0 then (if (131072 - p1) < p0 then (j4 ()) else (j1 1)) else (j4 ()))) (fun j6 => if p1 = 256 then (j6 ()) else (if p1 = 512 then (j6 ()) else (if p1 = 1024 then (j6 ()) else (if p1 = 2048 then (j6 ()) else (if p1 = 4096 then (j6 ()) else (if p1 = 8192 then (j6 ()) else (if p1 = 16384 then (j6 ()) else (if p1 = 32768 then (j6 ()) else (j4 ())))))))))))
set_option maxHeartbeats 4000000 in
set_option maxRecDepth 100000 in
theorem eS_12_isSpan (g : eh_P) (s : eh_F) (p0 : Int32) (p1 : Int32) : eh_Sim g eM_12_isSpan (eh_R 1 0 0) (eh_pI s) 0 0 0 (eh_en 2 [.int p0, .int p1]) [] (eh_FW s) (eF_12_isSpan s p0 p1) := by
  unfold eF_12_isSpan
  refine ef_top (L := [some (.int p0), some (.int p1)]) rfl ?_
  refine es_blk (pc' := 4) (L' := [some (.int p0), some (.int p1)]) (st' := [.int 256, .int p1]) [(.iload_n 1, 0), (.sipush 256, 256)] (by decide +kernel) rfl rfl ?_
  refine ef_J (X := fun j1 => ∀ (a2 : Int32), eh_Sim g eM_12_isSpan (eh_R 1 0 0) (eh_pI s) 0 0 79 [none, none] [.int a2] (eh_FW s) ((j1 a2).bind some)) ?_ (fun j1 Hj1 => ?_)
  · intro a2
    refine es_chk (fun h3 => ?_)
    exact es_ret rfl rfl rfl ⟨by decide +kernel, _, rfl, eh_narZ h3⟩ (Nat.le_refl _) (Nat.le_refl _)
  refine ef_J (X := fun j4 => ∀ (u5 : Unit), eh_Sim g eM_12_isSpan (eh_R 1 0 0) (eh_pI s) 0 0 78 [none, none] [] (eh_FW s) ((j4 u5).bind some)) ?_ (fun j4 Hj4 => ?_)
  · intro u5
    refine es_blk (pc' := 79) (L' := [none, none]) (st' := [.int 0]) [(.iconst 0, 0)] (by decide +kernel) rfl rfl ?_
    exact Hj1 _
  refine ef_J (X := fun j6 => ∀ (u7 : Unit), eh_Sim g eM_12_isSpan (eh_R 1 0 0) (eh_pI s) 0 0 56 [some (.int p0), some (.int p1)] [] (eh_FW s) ((j6 u7).bind some)) ?_ (fun j6 Hj6 => ?_)
  · intro u7
    refine es_blk (pc' := 57) (L' := [some (.int p0), some (.int p1)]) (st' := [.int p0]) [(.iload_n 0, 0)] (by decide +kernel) rfl rfl ?_
    refine es_lt (tgt := 78) (off := (21)) (by decide +kernel) (by decide) (fun h8 => ?_) (fun h8 => ?_)
    · refine ef_drop (L2 := [none, none]) [false, false] rfl rfl ?_
      exact Hj4 ()
    refine es_blk (pc' := 62) (L' := [some (.int p0), some (.int p1)]) (st' := [.int p1, .int p0]) [(.iload_n 0, 0), (.iload_n 1, 0)] (by decide +kernel) rfl rfl ?_
    refine es_chkN (fun h9 => ?_)
    refine es_irem (by decide +kernel) h9 ?_
    refine es_ne (tgt := 78) (off := (15)) (by decide +kernel) (by decide) (fun h10 => ?_) (fun h10 => ?_)
    · refine es_blk (pc' := 67) (L' := [some (.int p0), some (.int p1)]) (st' := [.int p0]) [(.iload_n 0, 0)] (by decide +kernel) rfl rfl ?_
      refine es_ldc (v := 131072) eC_12_9 (by decide +kernel) ?_
      refine es_blk (pc' := 71) (L' := [some (.int p0), some (.int p1)]) (st' := [.int (131072 - p1), .int p0]) [(.iload_n 1, 0), (.isub, 0)] (by decide +kernel) rfl rfl ?_
      refine es_igt (tgt := 78) (off := (7)) (by decide +kernel) (by decide) (fun h11 => ?_) (fun h11 => ?_)
      · refine ef_drop (L2 := [none, none]) [false, false] rfl rfl ?_
        exact Hj4 ()
      refine es_blk (pc' := 75) (L' := [some (.int p0), some (.int p1)]) (st' := [.int 1]) [(.iconst 1, 1)] (by decide +kernel) rfl rfl ?_
      refine es_goto (tgt := 79) (off := (4)) (by decide +kernel) (by decide) ?_
      refine ef_drop (L2 := [none, none]) [false, false] rfl rfl ?_
      exact Hj1 _
    refine ef_drop (L2 := [none, none]) [false, false] rfl rfl ?_
    exact Hj4 ()
  refine es_ieq (tgt := 56) (off := (52)) (by decide +kernel) (by decide) (fun h12 => ?_) (fun h12 => ?_)
  · exact Hj6 ()
  refine es_blk (pc' := 11) (L' := [some (.int p0), some (.int p1)]) (st' := [.int 512, .int p1]) [(.iload_n 1, 0), (.sipush 512, 512)] (by decide +kernel) rfl rfl ?_
  refine es_ieq (tgt := 56) (off := (45)) (by decide +kernel) (by decide) (fun h13 => ?_) (fun h13 => ?_)
  · exact Hj6 ()
  refine es_blk (pc' := 18) (L' := [some (.int p0), some (.int p1)]) (st' := [.int 1024, .int p1]) [(.iload_n 1, 0), (.sipush 1024, 1024)] (by decide +kernel) rfl rfl ?_
  refine es_ieq (tgt := 56) (off := (38)) (by decide +kernel) (by decide) (fun h14 => ?_) (fun h14 => ?_)
  · exact Hj6 ()
  refine es_blk (pc' := 25) (L' := [some (.int p0), some (.int p1)]) (st' := [.int 2048, .int p1]) [(.iload_n 1, 0), (.sipush 2048, 2048)] (by decide +kernel) rfl rfl ?_
  refine es_ieq (tgt := 56) (off := (31)) (by decide +kernel) (by decide) (fun h15 => ?_) (fun h15 => ?_)
  · exact Hj6 ()
  refine es_blk (pc' := 32) (L' := [some (.int p0), some (.int p1)]) (st' := [.int 4096, .int p1]) [(.iload_n 1, 0), (.sipush 4096, 4096)] (by decide +kernel) rfl rfl ?_
  refine es_ieq (tgt := 56) (off := (24)) (by decide +kernel) (by decide) (fun h16 => ?_) (fun h16 => ?_)
  · exact Hj6 ()
  refine es_blk (pc' := 39) (L' := [some (.int p0), some (.int p1)]) (st' := [.int 8192, .int p1]) [(.iload_n 1, 0), (.sipush 8192, 8192)] (by decide +kernel) rfl rfl ?_
  refine es_ieq (tgt := 56) (off := (17)) (by decide +kernel) (by decide) (fun h17 => ?_) (fun h17 => ?_)
  · exact Hj6 ()
  refine es_blk (pc' := 46) (L' := [some (.int p0), some (.int p1)]) (st' := [.int 16384, .int p1]) [(.iload_n 1, 0), (.sipush 16384, 16384)] (by decide +kernel) rfl rfl ?_
  refine es_ieq (tgt := 56) (off := (10)) (by decide +kernel) (by decide) (fun h18 => ?_) (fun h18 => ?_)
  · exact Hj6 ()
  refine es_blk (pc' := 50) (L' := [some (.int p0), some (.int p1)]) (st' := [.int p1]) [(.iload_n 1, 0)] (by decide +kernel) rfl rfl ?_
  refine es_ldcw (v := 32768) eC_12_505 (by decide +kernel) ?_
  refine es_ine (tgt := 78) (off := (25)) (by decide +kernel) (by decide) (fun h19 => ?_) (fun h19 => ?_)
  · exact Hj6 ()
  refine ef_drop (L2 := [none, none]) [false, false] rfl rfl ?_
  exact Hj4 ()
def eF_12_isOverlap (s : eh_F) (p0 : Int32) (p1 : Int32) : Option (Int32) := Option.bind (eh_loop (fun (r5 : (Int32 × Int32) → Option (Int32)) (t1 : Int32 × Int32) => if t1.2 < 12 then (eh_J (fun (a8 : Int32) => eh_V ((t1.2 + 1) : Int32) (fun x9 => r5 (a8, x9))) (fun j7 => eh_J (fun (u11 : Unit) => j7 1) (fun j10 => if t1.1 = 0 then (if eh_in t1.2 12 then eh_J (fun (u14 : Unit) => j7 0) (fun j13 => if (s.1 164 (eh_ix t1.2)) = 0 then (j13 ()) else (if eh_in t1.2 12 then if eh_in t1.2 12 then if p0 < ((s.1 165 (eh_ix t1.2)) + (s.1 166 (eh_ix t1.2))) then (if eh_in t1.2 12 then if (s.1 165 (eh_ix t1.2)) < (p0 + p1) then (j10 ()) else (j13 ()) else none) else (j13 ()) else none else none)) else none) else (j10 ())))) else (some t1.1)) eh_FU (0, 0)) (fun (e2 : Int32) => if e2 = 0 ∨ e2 = 1 then some e2 else none)
set_option maxHeartbeats 4000000 in
set_option maxRecDepth 100000 in
theorem eS_12_isOverlap (g : eh_P) (s : eh_F) (p0 : Int32) (p1 : Int32) : eh_Sim g eM_12_isOverlap (eh_R 1 0 0) (eh_pI s) 0 0 0 (eh_en 5 [.ref 127, .int p0, .int p1]) [] (eh_FW s) (eF_12_isOverlap s p0 p1) := by
  unfold eF_12_isOverlap
  refine ef_top (L := [some (.ref 127), some (.int p0), some (.int p1), none, none]) rfl ?_
  refine es_blk (pc' := 5) (L' := [some (.ref 127), some (.int p0), some (.int p1), some (.int 0), some (.int 0)]) (st' := []) [(.iconst 0, 0), (.istore_n 3, 0), (.iconst 0, 0), (.istore 4, 0)] (by decide +kernel) rfl rfl ?_
  refine ef_loop1 (n := eh_FU) (i := (0, 0)) (px := 70) (fun (t1 : Int32 × Int32) => [some (.ref 127), some (.int p0), some (.int p1), some (.int t1.1), some (.int t1.2)]) (fun (t1 : Int32 × Int32) => []) (fun (t1 : Int32 × Int32) => eh_FW s) (fun (e2 : Int32) => [none, none, none, some (.int e2), none]) (fun (e2 : Int32) => []) (fun (e2 : Int32) => eh_FW s) (fun e2 => ?_) (fun K4 HxK4_0 r5 Hr5 t1 => ?_)
  · refine es_blk (pc' := 71) (L' := [none, none, none, some (.int e2), none]) (st' := [.int e2]) [(.iload_n 3, 0)] (by decide +kernel) rfl rfl ?_
    refine es_chk (fun h3 => ?_)
    exact es_ret rfl rfl rfl ⟨by decide +kernel, _, rfl, eh_narZ h3⟩ (Nat.le_refl _) (Nat.le_refl _)
  · refine es_blk (pc' := 9) (L' := [some (.ref 127), some (.int p0), some (.int p1), some (.int t1.1), some (.int t1.2)]) (st' := [.int 12, .int t1.2]) [(.iload 4, 0), (.bipush 12, 12)] (by decide +kernel) rfl rfl ?_
    refine es_ige (tgt := 70) (off := (61)) (by decide +kernel) (by decide) (fun h6 => ?_) (fun h6 => ?_)
    · refine es_blk (pc' := 13) (L' := [some (.ref 127), some (.int p0), some (.int p1), some (.int t1.1), some (.int t1.2)]) (st' := [.int t1.1]) [(.iload_n 3, 0)] (by decide +kernel) rfl rfl ?_
      refine ef_J (X := fun j7 => ∀ (a8 : Int32), eh_Sim g eM_12_isOverlap (eh_R 1 0 0) (eh_pI s) 0 0 63 [some (.ref 127), some (.int p0), some (.int p1), none, some (.int t1.2)] [.int a8] (eh_FW s) ((j7 a8).bind K4)) ?_ (fun j7 Hj7 => ?_)
      · intro a8
        refine es_blk (pc' := 67) (L' := [some (.ref 127), some (.int p0), some (.int p1), some (.int a8), some (.int (t1.2 + 1))]) (st' := []) [(.istore_n 3, 0), (.iinc 4 1, 1)] (by decide +kernel) rfl rfl ?_
        refine ef_V (fun x9 => [some (.ref 127), some (.int p0), some (.int p1), some (.int a8), some (.int x9)]) (fun _ => []) (fun _ => eh_FW s) (fun x9 => ?_)
        refine es_goto (tgt := 5) (off := (-62)) (by decide +kernel) (by decide) ?_
        exact Hr5 (a8, x9)
      refine ef_J (X := fun j10 => ∀ (u11 : Unit), eh_Sim g eM_12_isOverlap (eh_R 1 0 0) (eh_pI s) 0 0 58 [some (.ref 127), some (.int p0), some (.int p1), none, some (.int t1.2)] [] (eh_FW s) ((j10 u11).bind K4)) ?_ (fun j10 Hj10 => ?_)
      · intro u11
        refine es_blk (pc' := 59) (L' := [some (.ref 127), some (.int p0), some (.int p1), none, some (.int t1.2)]) (st' := [.int 1]) [(.iconst 1, 1)] (by decide +kernel) rfl rfl ?_
        refine es_goto (tgt := 63) (off := (4)) (by decide +kernel) (by decide) ?_
        exact Hj7 _
      refine es_ne (tgt := 58) (off := (45)) (by decide +kernel) (by decide) (fun h12 => ?_) (fun h12 => ?_)
      · refine es_blk (pc' := 17) (L' := [some (.ref 127), some (.int p0), some (.int p1), some (.int t1.1), some (.int t1.2)]) (st' := [.ref 127]) [(.aload_n 0, 0)] (by decide +kernel) rfl rfl ?_
        refine ef_getP (k := 127) (j := 39) (q := 164) rfl eL_12_121 rfl rfl rfl (by decide +kernel) ?_
        refine es_blk (pc' := 22) (L' := [some (.ref 127), some (.int p0), some (.int p1), some (.int t1.1), some (.int t1.2)]) (st' := [.int t1.2, .ref 164]) [(.iload 4, 0)] (by decide +kernel) rfl rfl ?_
        refine ef_ald (k := 164) rfl (Or.inl ⟨rfl, rfl⟩) (by decide +kernel) (fun _ => ?_)
        refine ef_J (X := fun j13 => ∀ (u14 : Unit), eh_Sim g eM_12_isOverlap (eh_R 1 0 0) (eh_pI s) 0 0 62 [some (.ref 127), some (.int p0), some (.int p1), none, some (.int t1.2)] [] (eh_FW s) ((j13 u14).bind K4)) ?_ (fun j13 Hj13 => ?_)
        · intro u14
          refine es_blk (pc' := 63) (L' := [some (.ref 127), some (.int p0), some (.int p1), none, some (.int t1.2)]) (st' := [.int 0]) [(.iconst 0, 0)] (by decide +kernel) rfl rfl ?_
          exact Hj7 _
        refine es_eq (tgt := 62) (off := (39)) (by decide +kernel) (by decide) (fun h15 => ?_) (fun h15 => ?_)
        · refine ef_drop (L2 := [some (.ref 127), some (.int p0), some (.int p1), none, some (.int t1.2)]) [true, true, true, false, true] rfl rfl ?_
          exact Hj13 ()
        refine es_blk (pc' := 28) (L' := [some (.ref 127), some (.int p0), some (.int p1), some (.int t1.1), some (.int t1.2)]) (st' := [.ref 127, .int p0]) [(.iload_n 1, 0), (.aload_n 0, 0)] (by decide +kernel) rfl rfl ?_
        refine ef_getP (k := 127) (j := 40) (q := 165) rfl eL_12_124 rfl rfl rfl (by decide +kernel) ?_
        refine es_blk (pc' := 33) (L' := [some (.ref 127), some (.int p0), some (.int p1), some (.int t1.1), some (.int t1.2)]) (st' := [.int t1.2, .ref 165, .int p0]) [(.iload 4, 0)] (by decide +kernel) rfl rfl ?_
        refine ef_ald (k := 165) rfl (Or.inl ⟨rfl, rfl⟩) (by decide +kernel) (fun _ => ?_)
        refine es_blk (pc' := 35) (L' := [some (.ref 127), some (.int p0), some (.int p1), some (.int t1.1), some (.int t1.2)]) (st' := [.ref 127, .int (s.1 165 (eh_ix t1.2)), .int p0]) [(.aload_n 0, 0)] (by decide +kernel) rfl rfl ?_
        refine ef_getP (k := 127) (j := 41) (q := 166) rfl eL_12_127 rfl rfl rfl (by decide +kernel) ?_
        refine es_blk (pc' := 40) (L' := [some (.ref 127), some (.int p0), some (.int p1), some (.int t1.1), some (.int t1.2)]) (st' := [.int t1.2, .ref 166, .int (s.1 165 (eh_ix t1.2)), .int p0]) [(.iload 4, 0)] (by decide +kernel) rfl rfl ?_
        refine ef_ald (k := 166) rfl (Or.inl ⟨rfl, rfl⟩) (by decide +kernel) (fun _ => ?_)
        refine es_blk (pc' := 42) (L' := [some (.ref 127), some (.int p0), some (.int p1), some (.int t1.1), some (.int t1.2)]) (st' := [.int ((s.1 165 (eh_ix t1.2)) + (s.1 166 (eh_ix t1.2))), .int p0]) [(.iadd, 0)] (by decide +kernel) rfl rfl ?_
        refine es_ige (tgt := 62) (off := (20)) (by decide +kernel) (by decide) (fun h16 => ?_) (fun h16 => ?_)
        · refine es_blk (pc' := 49) (L' := [some (.ref 127), some (.int p0), some (.int p1), some (.int t1.1), some (.int t1.2)]) (st' := [.ref 127, .int (p0 + p1)]) [(.iload_n 1, 0), (.iload_n 2, 0), (.iadd, 0), (.aload_n 0, 0)] (by decide +kernel) rfl rfl ?_
          refine ef_getP (k := 127) (j := 40) (q := 165) rfl eL_12_124 rfl rfl rfl (by decide +kernel) ?_
          refine es_blk (pc' := 54) (L' := [some (.ref 127), some (.int p0), some (.int p1), some (.int t1.1), some (.int t1.2)]) (st' := [.int t1.2, .ref 165, .int (p0 + p1)]) [(.iload 4, 0)] (by decide +kernel) rfl rfl ?_
          refine ef_ald (k := 165) rfl (Or.inl ⟨rfl, rfl⟩) (by decide +kernel) (fun _ => ?_)
          refine es_ile (tgt := 62) (off := (7)) (by decide +kernel) (by decide) (fun h17 => ?_) (fun h17 => ?_)
          · refine ef_drop (L2 := [some (.ref 127), some (.int p0), some (.int p1), none, some (.int t1.2)]) [true, true, true, false, true] rfl rfl ?_
            exact Hj10 ()
          refine ef_drop (L2 := [some (.ref 127), some (.int p0), some (.int p1), none, some (.int t1.2)]) [true, true, true, false, true] rfl rfl ?_
          exact Hj13 ()
        refine ef_drop (L2 := [some (.ref 127), some (.int p0), some (.int p1), none, some (.int t1.2)]) [true, true, true, false, true] rfl rfl ?_
        exact Hj13 ()
      refine ef_drop (L2 := [some (.ref 127), some (.int p0), some (.int p1), none, some (.int t1.2)]) [true, true, true, false, true] rfl rfl ?_
      exact Hj10 ()
    refine ef_drop (L2 := [none, none, none, some (.int t1.1), none]) [false, false, false, true, false] rfl rfl ?_
    exact HxK4_0 t1.1
def eF_12_free (s : eh_F) (p0 np0 : Nat) : Option (Int32) := Option.bind (eh_loop (fun (r5 : (Int32) → Option ((Unit) ⊕ (Int32))) (t1 : Int32) => if t1 < (Int32.ofNat np0) then (if eh_in t1 np0 then if (s.1 p0 (eh_ix t1)) = 0 then (some (.inr t1)) else (eh_V ((t1 + 1) : Int32) (fun x8 => r5 x8)) else none) else (some (.inl ()))) eh_FU 0) (Sum.elim (fun (e2 : Unit) => some (-1)) (fun (e3 : Int32) => some e3))
set_option maxHeartbeats 4000000 in
set_option maxRecDepth 100000 in
theorem eS_12_free (g : eh_P) (s : eh_F) (p0 np0 : Nat) (hp0 : eh_SH[p0]? = some (100, np0)) : eh_Sim g eM_12_free (eh_R 1 0 0) (eh_pI s) 0 0 0 (eh_en 2 [.ref p0]) [] (eh_FW s) (eF_12_free s p0 np0) := by
  unfold eF_12_free
  refine ef_top (L := [some (.ref p0), none]) rfl ?_
  refine es_blk (pc' := 2) (L' := [some (.ref p0), some (.int 0)]) (st' := []) [(.iconst 0, 0), (.istore_n 1, 0)] (by decide +kernel) rfl rfl ?_
  refine ef_loop2 (n := eh_FU) (i := 0) (px := 22) (px2 := 14) (fun (t1 : Int32) => [some (.ref p0), some (.int t1)]) (fun (t1 : Int32) => []) (fun (t1 : Int32) => eh_FW s) (fun (e2 : Unit) => [none, none]) (fun (e2 : Unit) => []) (fun (e2 : Unit) => eh_FW s) (fun (e3 : Int32) => [none, some (.int e3)]) (fun (e3 : Int32) => []) (fun (e3 : Int32) => eh_FW s) (fun e2 => ?_) (fun e3 => ?_) (fun K4 HxK4_0 HxK4_1 r5 Hr5 t1 => ?_)
  · refine es_blk (pc' := 23) (L' := [none, none]) (st' := [.int (-1)]) [(.iconst (-1), (-1))] (by decide +kernel) rfl rfl ?_
    exact es_ret rfl rfl rfl ⟨by decide +kernel, _, rfl, rfl⟩ (Nat.le_refl _) (Nat.le_refl _)
  · refine es_blk (pc' := 15) (L' := [none, some (.int e3)]) (st' := [.int e3]) [(.iload_n 1, 0)] (by decide +kernel) rfl rfl ?_
    exact es_ret rfl rfl rfl ⟨by decide +kernel, _, rfl, rfl⟩ (Nat.le_refl _) (Nat.le_refl _)
  · refine es_blk (pc' := 4) (L' := [some (.ref p0), some (.int t1)]) (st' := [.ref p0, .int t1]) [(.iload_n 1, 0), (.aload_n 0, 0)] (by decide +kernel) rfl rfl ?_
    refine ef_alen (k := p0) hp0 (by decide) (by decide +kernel) ?_
    refine es_ige (tgt := 22) (off := (17)) (by decide +kernel) (by decide) (fun h6 => ?_) (fun h6 => ?_)
    · refine es_blk (pc' := 10) (L' := [some (.ref p0), some (.int t1)]) (st' := [.int t1, .ref p0]) [(.aload_n 0, 0), (.iload_n 1, 0)] (by decide +kernel) rfl rfl ?_
      refine ef_ald (k := p0) hp0 (Or.inl ⟨rfl, rfl⟩) (by decide +kernel) (fun _ => ?_)
      refine es_ne (tgt := 16) (off := (5)) (by decide +kernel) (by decide) (fun h7 => ?_) (fun h7 => ?_)
      · refine ef_drop (L2 := [none, some (.int t1)]) [false, true] rfl rfl ?_
        exact HxK4_1 t1
      refine es_blk (pc' := 19) (L' := [some (.ref p0), some (.int (t1 + 1))]) (st' := []) [(.iinc 1 1, 1)] (by decide +kernel) rfl rfl ?_
      refine ef_V (fun x8 => [some (.ref p0), some (.int x8)]) (fun _ => []) (fun _ => eh_FW s) (fun x8 => ?_)
      refine es_goto (tgt := 2) (off := (-17)) (by decide +kernel) (by decide) ?_
      exact Hr5 x8
    refine ef_drop (L2 := [none, none]) [false, false] rfl rfl ?_
    exact HxK4_0 ()
def eF_12_threadsOf (s : eh_F) (p0 : Int32) : Option (Int32) := Option.bind (eh_loop (fun (r4 : (Int32 × Int32) → Option (Int32)) (t1 : Int32 × Int32) => if t1.2 < 12 then (if eh_in t1.2 12 then eh_J (fun (a7 : Int32) => eh_V ((t1.1 + a7) : Int32) (fun x8 => eh_V ((t1.2 + 1) : Int32) (fun x9 => r4 (x8, x9)))) (fun j6 => eh_J (fun (u11 : Unit) => j6 0) (fun j10 => if (s.1 148 (eh_ix t1.2)) = 0 then (j10 ()) else (if eh_in t1.2 12 then if (s.1 149 (eh_ix t1.2)) = p0 then (j6 1) else (j10 ()) else none))) else none) else (some t1.1)) eh_FU (0, 0)) (fun (e2 : Int32) => some e2)
set_option maxHeartbeats 4000000 in
set_option maxRecDepth 100000 in
theorem eS_12_threadsOf (g : eh_P) (s : eh_F) (p0 : Int32) : eh_Sim g eM_12_threadsOf (eh_R 1 0 0) (eh_pI s) 0 0 0 (eh_en 4 [.ref 127, .int p0]) [] (eh_FW s) (eF_12_threadsOf s p0) := by
  unfold eF_12_threadsOf
  refine ef_top (L := [some (.ref 127), some (.int p0), none, none]) rfl ?_
  refine es_blk (pc' := 4) (L' := [some (.ref 127), some (.int p0), some (.int 0), some (.int 0)]) (st' := []) [(.iconst 0, 0), (.istore_n 2, 0), (.iconst 0, 0), (.istore_n 3, 0)] (by decide +kernel) rfl rfl ?_
  refine ef_loop1 (n := eh_FU) (i := (0, 0)) (px := 43) (fun (t1 : Int32 × Int32) => [some (.ref 127), some (.int p0), some (.int t1.1), some (.int t1.2)]) (fun (t1 : Int32 × Int32) => []) (fun (t1 : Int32 × Int32) => eh_FW s) (fun (e2 : Int32) => [none, none, some (.int e2), none]) (fun (e2 : Int32) => []) (fun (e2 : Int32) => eh_FW s) (fun e2 => ?_) (fun K3 HxK3_0 r4 Hr4 t1 => ?_)
  · refine es_blk (pc' := 44) (L' := [none, none, some (.int e2), none]) (st' := [.int e2]) [(.iload_n 2, 0)] (by decide +kernel) rfl rfl ?_
    exact es_ret rfl rfl rfl ⟨by decide +kernel, _, rfl, rfl⟩ (Nat.le_refl _) (Nat.le_refl _)
  · refine es_blk (pc' := 7) (L' := [some (.ref 127), some (.int p0), some (.int t1.1), some (.int t1.2)]) (st' := [.int 12, .int t1.2]) [(.iload_n 3, 0), (.bipush 12, 12)] (by decide +kernel) rfl rfl ?_
    refine es_ige (tgt := 43) (off := (36)) (by decide +kernel) (by decide) (fun h5 => ?_) (fun h5 => ?_)
    · refine es_blk (pc' := 12) (L' := [some (.ref 127), some (.int p0), some (.int t1.1), some (.int t1.2)]) (st' := [.ref 127, .int t1.1]) [(.iload_n 2, 0), (.aload_n 0, 0)] (by decide +kernel) rfl rfl ?_
      refine ef_getP (k := 127) (j := 23) (q := 148) rfl eL_12_73 rfl rfl rfl (by decide +kernel) ?_
      refine es_blk (pc' := 16) (L' := [some (.ref 127), some (.int p0), some (.int t1.1), some (.int t1.2)]) (st' := [.int t1.2, .ref 148, .int t1.1]) [(.iload_n 3, 0)] (by decide +kernel) rfl rfl ?_
      refine ef_ald (k := 148) rfl (Or.inl ⟨rfl, rfl⟩) (by decide +kernel) (fun _ => ?_)
      refine ef_J (X := fun j6 => ∀ (a7 : Int32), eh_Sim g eM_12_threadsOf (eh_R 1 0 0) (eh_pI s) 0 0 35 [some (.ref 127), some (.int p0), none, some (.int t1.2)] [.int a7, .int t1.1] (eh_FW s) ((j6 a7).bind K3)) ?_ (fun j6 Hj6 => ?_)
      · intro a7
        refine es_blk (pc' := 37) (L' := [some (.ref 127), some (.int p0), some (.int (t1.1 + a7)), some (.int t1.2)]) (st' := []) [(.iadd, 0), (.istore_n 2, 0)] (by decide +kernel) rfl rfl ?_
        refine ef_V (fun x8 => [some (.ref 127), some (.int p0), some (.int x8), some (.int t1.2)]) (fun _ => []) (fun _ => eh_FW s) (fun x8 => ?_)
        refine es_blk (pc' := 40) (L' := [some (.ref 127), some (.int p0), some (.int x8), some (.int (t1.2 + 1))]) (st' := []) [(.iinc 3 1, 1)] (by decide +kernel) rfl rfl ?_
        refine ef_V (fun x9 => [some (.ref 127), some (.int p0), some (.int x8), some (.int x9)]) (fun _ => []) (fun _ => eh_FW s) (fun x9 => ?_)
        refine es_goto (tgt := 4) (off := (-36)) (by decide +kernel) (by decide) ?_
        exact Hr4 (x8, x9)
      refine ef_J (X := fun j10 => ∀ (u11 : Unit), eh_Sim g eM_12_threadsOf (eh_R 1 0 0) (eh_pI s) 0 0 34 [some (.ref 127), some (.int p0), none, some (.int t1.2)] [.int t1.1] (eh_FW s) ((j10 u11).bind K3)) ?_ (fun j10 Hj10 => ?_)
      · intro u11
        refine es_blk (pc' := 35) (L' := [some (.ref 127), some (.int p0), none, some (.int t1.2)]) (st' := [.int 0, .int t1.1]) [(.iconst 0, 0)] (by decide +kernel) rfl rfl ?_
        exact Hj6 _
      refine es_eq (tgt := 34) (off := (17)) (by decide +kernel) (by decide) (fun h12 => ?_) (fun h12 => ?_)
      · refine ef_drop (L2 := [some (.ref 127), some (.int p0), none, some (.int t1.2)]) [true, true, false, true] rfl rfl ?_
        exact Hj10 ()
      refine es_blk (pc' := 21) (L' := [some (.ref 127), some (.int p0), some (.int t1.1), some (.int t1.2)]) (st' := [.ref 127, .int t1.1]) [(.aload_n 0, 0)] (by decide +kernel) rfl rfl ?_
      refine ef_getP (k := 127) (j := 24) (q := 149) rfl eL_12_76 rfl rfl rfl (by decide +kernel) ?_
      refine es_blk (pc' := 25) (L' := [some (.ref 127), some (.int p0), some (.int t1.1), some (.int t1.2)]) (st' := [.int t1.2, .ref 149, .int t1.1]) [(.iload_n 3, 0)] (by decide +kernel) rfl rfl ?_
      refine ef_ald (k := 149) rfl (Or.inl ⟨rfl, rfl⟩) (by decide +kernel) (fun _ => ?_)
      refine es_blk (pc' := 27) (L' := [some (.ref 127), some (.int p0), some (.int t1.1), some (.int t1.2)]) (st' := [.int p0, .int (s.1 149 (eh_ix t1.2)), .int t1.1]) [(.iload_n 1, 0)] (by decide +kernel) rfl rfl ?_
      refine es_ine (tgt := 34) (off := (7)) (by decide +kernel) (by decide) (fun h13 => ?_) (fun h13 => ?_)
      · refine es_blk (pc' := 31) (L' := [some (.ref 127), some (.int p0), some (.int t1.1), some (.int t1.2)]) (st' := [.int 1, .int t1.1]) [(.iconst 1, 1)] (by decide +kernel) rfl rfl ?_
        refine es_goto (tgt := 35) (off := (4)) (by decide +kernel) (by decide) ?_
        refine ef_drop (L2 := [some (.ref 127), some (.int p0), none, some (.int t1.2)]) [true, true, false, true] rfl rfl ?_
        exact Hj6 _
      refine ef_drop (L2 := [some (.ref 127), some (.int p0), none, some (.int t1.2)]) [true, true, false, true] rfl rfl ?_
      exact Hj10 ()
    refine ef_drop (L2 := [none, none, some (.int t1.1), none]) [false, false, true, false] rfl rfl ?_
    exact HxK3_0 t1.1
def eF_12_move (s : eh_F) (p0 : Int32) (p1 : Int32) (p2 : Int32) : Option (Int32 × eh_F) := eh_J (fun (u2 : Unit) => some ((-1), s)) (fun j1 => eh_J (fun (u4 : Unit) => if p1 < 0 then (j1 ()) else (if 31 < p1 then (j1 ()) else (if p2 < 0 then (j1 ()) else (if (eh_rem p2 4) = 0 then (if 130816 < p2 then (j1 ()) else (if (s.1 127 58) = 4 then (some ((-5), s)) else (if eh_in (s.1 127 58) 4 then eh_V (eh_tI s 176 (eh_ix (s.1 127 58)) p0) (fun s11 => if eh_in (s11.1 127 58) 4 then eh_V (eh_tI s11 177 (eh_ix (s11.1 127 58)) p1) (fun s12 => if eh_in (s12.1 127 58) 4 then eh_V (eh_tI s12 178 (eh_ix (s12.1 127 58)) p2) (fun s13 => if eh_in (s13.1 127 58) 4 then eh_V (eh_tI s13 179 (eh_ix (s13.1 127 58)) 0) (fun s14 => eh_V (eh_tI s14 127 58 ((s14.1 127 58) + 1)) (fun s15 => some ((s15.1 127 58), s15))) else none) else none) else none) else none))) else (j1 ()))))) (fun j3 => if p0 = 0 then (j3 ()) else (if p0 = 1 then (j3 ()) else (j1 ()))))
set_option maxHeartbeats 4000000 in
set_option maxRecDepth 100000 in
theorem eS_12_move (g : eh_P) (s : eh_F) (p0 : Int32) (p1 : Int32) (p2 : Int32) : eh_Sim g eM_12_move (eh_R 1 0 0) eh_eI 0 0 0 (eh_en 4 [.ref 127, .int p0, .int p1, .int p2]) [] (eh_FW s) (eF_12_move s p0 p1 p2) := by
  unfold eF_12_move
  refine ef_top (L := [some (.ref 127), some (.int p0), some (.int p1), some (.int p2)]) rfl ?_
  refine es_blk (pc' := 1) (L' := [some (.ref 127), some (.int p0), some (.int p1), some (.int p2)]) (st' := [.int p0]) [(.iload_n 1, 0)] (by decide +kernel) rfl rfl ?_
  refine ef_J (X := fun j1 => ∀ (u2 : Unit), eh_Sim g eM_12_move (eh_R 1 0 0) eh_eI 0 0 36 [none, none, none, none] [] (eh_FW s) ((j1 u2).bind some)) ?_ (fun j1 Hj1 => ?_)
  · intro u2
    refine es_blk (pc' := 37) (L' := [none, none, none, none]) (st' := [.int (-1)]) [(.iconst (-1), (-1))] (by decide +kernel) rfl rfl ?_
    exact es_ret rfl rfl rfl ⟨by decide +kernel, _, rfl, rfl⟩ (Nat.le_refl _) (Nat.le_refl _)
  refine ef_J (X := fun j3 => ∀ (u4 : Unit), eh_Sim g eM_12_move (eh_R 1 0 0) eh_eI 0 0 9 [some (.ref 127), some (.int p0), some (.int p1), some (.int p2)] [] (eh_FW s) ((j3 u4).bind some)) ?_ (fun j3 Hj3 => ?_)
  · intro u4
    refine es_blk (pc' := 10) (L' := [some (.ref 127), some (.int p0), some (.int p1), some (.int p2)]) (st' := [.int p1]) [(.iload_n 2, 0)] (by decide +kernel) rfl rfl ?_
    refine es_lt (tgt := 36) (off := (26)) (by decide +kernel) (by decide) (fun h5 => ?_) (fun h5 => ?_)
    · refine ef_drop (L2 := [none, none, none, none]) [false, false, false, false] rfl rfl ?_
      exact Hj1 ()
    refine es_blk (pc' := 16) (L' := [some (.ref 127), some (.int p0), some (.int p1), some (.int p2)]) (st' := [.int 31, .int p1]) [(.iload_n 2, 0), (.bipush 31, 31)] (by decide +kernel) rfl rfl ?_
    refine es_igt (tgt := 36) (off := (20)) (by decide +kernel) (by decide) (fun h6 => ?_) (fun h6 => ?_)
    · refine ef_drop (L2 := [none, none, none, none]) [false, false, false, false] rfl rfl ?_
      exact Hj1 ()
    refine es_blk (pc' := 20) (L' := [some (.ref 127), some (.int p0), some (.int p1), some (.int p2)]) (st' := [.int p2]) [(.iload_n 3, 0)] (by decide +kernel) rfl rfl ?_
    refine es_lt (tgt := 36) (off := (16)) (by decide +kernel) (by decide) (fun h7 => ?_) (fun h7 => ?_)
    · refine ef_drop (L2 := [none, none, none, none]) [false, false, false, false] rfl rfl ?_
      exact Hj1 ()
    refine es_blk (pc' := 25) (L' := [some (.ref 127), some (.int p0), some (.int p1), some (.int p2)]) (st' := [.int 4, .int p2]) [(.iload_n 3, 0), (.iconst 4, 4)] (by decide +kernel) rfl rfl ?_
    refine es_irem (by decide +kernel) (by decide) ?_
    refine es_ne (tgt := 36) (off := (10)) (by decide +kernel) (by decide) (fun h8 => ?_) (fun h8 => ?_)
    · refine es_blk (pc' := 30) (L' := [some (.ref 127), some (.int p0), some (.int p1), some (.int p2)]) (st' := [.int p2]) [(.iload_n 3, 0)] (by decide +kernel) rfl rfl ?_
      refine es_ldcw (v := 130816) eC_12_569 (by decide +kernel) ?_
      refine es_ile (tgt := 38) (off := (5)) (by decide +kernel) (by decide) (fun h9 => ?_) (fun h9 => ?_)
      · refine ef_drop (L2 := [none, none, none, none]) [false, false, false, false] rfl rfl ?_
        exact Hj1 ()
      refine es_blk (pc' := 39) (L' := [some (.ref 127), some (.int p0), some (.int p1), some (.int p2)]) (st' := [.ref 127]) [(.aload_n 0, 0)] (by decide +kernel) rfl rfl ?_
      refine ef_getI (k := 127) (j := 58) rfl eL_12_296 (by decide) (by decide +kernel) ?_
      refine es_blk (pc' := 43) (L' := [some (.ref 127), some (.int p0), some (.int p1), some (.int p2)]) (st' := [.int 4, .int (s.1 127 58)]) [(.iconst 4, 4)] (by decide +kernel) rfl rfl ?_
      refine es_ine (tgt := 49) (off := (6)) (by decide +kernel) (by decide) (fun h10 => ?_) (fun h10 => ?_)
      · refine es_blk (pc' := 48) (L' := [some (.ref 127), some (.int p0), some (.int p1), some (.int p2)]) (st' := [.int (-5)]) [(.bipush (-5), (-5))] (by decide +kernel) rfl rfl ?_
        exact es_ret rfl rfl rfl ⟨by decide +kernel, _, rfl, rfl⟩ (Nat.le_refl _) (Nat.le_refl _)
      refine es_blk (pc' := 50) (L' := [some (.ref 127), some (.int p0), some (.int p1), some (.int p2)]) (st' := [.ref 127]) [(.aload_n 0, 0)] (by decide +kernel) rfl rfl ?_
      refine ef_getP (k := 127) (j := 54) (q := 176) rfl eL_12_157 rfl rfl rfl (by decide +kernel) ?_
      refine es_blk (pc' := 54) (L' := [some (.ref 127), some (.int p0), some (.int p1), some (.int p2)]) (st' := [.ref 127, .ref 176]) [(.aload_n 0, 0)] (by decide +kernel) rfl rfl ?_
      refine ef_getI (k := 127) (j := 58) rfl eL_12_296 (by decide) (by decide +kernel) ?_
      refine es_blk (pc' := 58) (L' := [some (.ref 127), some (.int p0), some (.int p1), some (.int p2)]) (st' := [.int p0, .int (s.1 127 58), .ref 176]) [(.iload_n 1, 0)] (by decide +kernel) rfl rfl ?_
      refine ef_ast (k := 176) rfl (by decide +kernel) (fun _ => ?_)
      refine ef_V (fun _ => [some (.ref 127), some (.int p0), some (.int p1), some (.int p2)]) (fun _ => []) (fun s11 => eh_FW s11) (fun s11 => ?_)
      refine es_blk (pc' := 60) (L' := [some (.ref 127), some (.int p0), some (.int p1), some (.int p2)]) (st' := [.ref 127]) [(.aload_n 0, 0)] (by decide +kernel) rfl rfl ?_
      refine ef_getP (k := 127) (j := 55) (q := 177) rfl eL_12_160 rfl rfl rfl (by decide +kernel) ?_
      refine es_blk (pc' := 64) (L' := [some (.ref 127), some (.int p0), some (.int p1), some (.int p2)]) (st' := [.ref 127, .ref 177]) [(.aload_n 0, 0)] (by decide +kernel) rfl rfl ?_
      refine ef_getI (k := 127) (j := 58) rfl eL_12_296 (by decide) (by decide +kernel) ?_
      refine es_blk (pc' := 68) (L' := [some (.ref 127), some (.int p0), some (.int p1), some (.int p2)]) (st' := [.int p1, .int (s11.1 127 58), .ref 177]) [(.iload_n 2, 0)] (by decide +kernel) rfl rfl ?_
      refine ef_ast (k := 177) rfl (by decide +kernel) (fun _ => ?_)
      refine ef_V (fun _ => [some (.ref 127), some (.int p0), some (.int p1), some (.int p2)]) (fun _ => []) (fun s12 => eh_FW s12) (fun s12 => ?_)
      refine es_blk (pc' := 70) (L' := [some (.ref 127), some (.int p0), some (.int p1), some (.int p2)]) (st' := [.ref 127]) [(.aload_n 0, 0)] (by decide +kernel) rfl rfl ?_
      refine ef_getP (k := 127) (j := 56) (q := 178) rfl eL_12_163 rfl rfl rfl (by decide +kernel) ?_
      refine es_blk (pc' := 74) (L' := [some (.ref 127), some (.int p0), some (.int p1), some (.int p2)]) (st' := [.ref 127, .ref 178]) [(.aload_n 0, 0)] (by decide +kernel) rfl rfl ?_
      refine ef_getI (k := 127) (j := 58) rfl eL_12_296 (by decide) (by decide +kernel) ?_
      refine es_blk (pc' := 78) (L' := [some (.ref 127), some (.int p0), some (.int p1), some (.int p2)]) (st' := [.int p2, .int (s12.1 127 58), .ref 178]) [(.iload_n 3, 0)] (by decide +kernel) rfl rfl ?_
      refine ef_ast (k := 178) rfl (by decide +kernel) (fun _ => ?_)
      refine ef_V (fun _ => [some (.ref 127), some (.int p0), some (.int p1), some (.int p2)]) (fun _ => []) (fun s13 => eh_FW s13) (fun s13 => ?_)
      refine es_blk (pc' := 80) (L' := [some (.ref 127), some (.int p0), some (.int p1), some (.int p2)]) (st' := [.ref 127]) [(.aload_n 0, 0)] (by decide +kernel) rfl rfl ?_
      refine ef_getP (k := 127) (j := 57) (q := 179) rfl eL_12_166 rfl rfl rfl (by decide +kernel) ?_
      refine es_blk (pc' := 84) (L' := [some (.ref 127), some (.int p0), some (.int p1), some (.int p2)]) (st' := [.ref 127, .ref 179]) [(.aload_n 0, 0)] (by decide +kernel) rfl rfl ?_
      refine ef_getI (k := 127) (j := 58) rfl eL_12_296 (by decide) (by decide +kernel) ?_
      refine es_blk (pc' := 88) (L' := [some (.ref 127), some (.int p0), some (.int p1), some (.int p2)]) (st' := [.int 0, .int (s13.1 127 58), .ref 179]) [(.iconst 0, 0)] (by decide +kernel) rfl rfl ?_
      refine ef_ast (k := 179) rfl (by decide +kernel) (fun _ => ?_)
      refine ef_V (fun _ => [some (.ref 127), some (.int p0), some (.int p1), some (.int p2)]) (fun _ => []) (fun s14 => eh_FW s14) (fun s14 => ?_)
      refine es_blk (pc' := 91) (L' := [some (.ref 127), some (.int p0), some (.int p1), some (.int p2)]) (st' := [.ref 127, .ref 127]) [(.aload_n 0, 0), (.dup, 0)] (by decide +kernel) rfl rfl ?_
      refine ef_getI (k := 127) (j := 58) rfl eL_12_296 (by decide) (by decide +kernel) ?_
      refine es_blk (pc' := 96) (L' := [some (.ref 127), some (.int p0), some (.int p1), some (.int p2)]) (st' := [.int ((s14.1 127 58) + 1), .ref 127]) [(.iconst 1, 1), (.iadd, 0)] (by decide +kernel) rfl rfl ?_
      refine ef_putI (k := 127) (j := 58) rfl eL_12_296 rfl rfl (by decide +kernel) ?_
      refine ef_V (fun _ => [some (.ref 127), some (.int p0), some (.int p1), some (.int p2)]) (fun _ => []) (fun s15 => eh_FW s15) (fun s15 => ?_)
      refine es_blk (pc' := 100) (L' := [some (.ref 127), some (.int p0), some (.int p1), some (.int p2)]) (st' := [.ref 127]) [(.aload_n 0, 0)] (by decide +kernel) rfl rfl ?_
      refine ef_getI (k := 127) (j := 58) rfl eL_12_296 (by decide) (by decide +kernel) ?_
      exact es_ret rfl rfl rfl ⟨by decide +kernel, _, rfl, rfl⟩ (Nat.le_refl _) (Nat.le_refl _)
    refine ef_drop (L2 := [none, none, none, none]) [false, false, false, false] rfl rfl ?_
    exact Hj1 ()
  refine es_eq (tgt := 9) (off := (8)) (by decide +kernel) (by decide) (fun h16 => ?_) (fun h16 => ?_)
  · exact Hj3 ()
  refine es_blk (pc' := 6) (L' := [some (.ref 127), some (.int p0), some (.int p1), some (.int p2)]) (st' := [.int 1, .int p0]) [(.iload_n 1, 0), (.iconst 1, 1)] (by decide +kernel) rfl rfl ?_
  refine es_ine (tgt := 36) (off := (30)) (by decide +kernel) (by decide) (fun h17 => ?_) (fun h17 => ?_)
  · exact Hj3 ()
  refine ef_drop (L2 := [none, none, none, none]) [false, false, false, false] rfl rfl ?_
  exact Hj1 ()
def eF_12_key (s : eh_F)  : Option (Int32 × eh_F) := if (s.1 127 62) = 0 then (some (256, s)) else (eh_V ((s.1 180 0) : Int32) (fun x2 => eh_V (eh_tI s 127 62 ((s.1 127 62) - 1)) (fun s3 => Option.bind (eh_loop (fun (r7 : (Int32 × eh_F) → Option (eh_F)) (t4 : Int32 × eh_F) => if t4.1 < (t4.2.1 127 62) then (if eh_in (t4.1 + 1) 16 then if eh_in t4.1 16 then eh_V (eh_tI t4.2 180 (eh_ix t4.1) (t4.2.1 180 (eh_ix (t4.1 + 1)))) (fun s9 => eh_V ((t4.1 + 1) : Int32) (fun x10 => r7 (x10, s9))) else none else none) else (some t4.2)) eh_FU (0, s3)) (fun (e5 : eh_F) => some (x2, e5)))))
set_option maxHeartbeats 4000000 in
set_option maxRecDepth 100000 in
theorem eS_12_key (g : eh_P) (s : eh_F)  : eh_Sim g eM_12_key (eh_R 1 0 0) eh_eI 0 0 0 (eh_en 3 [.ref 127]) [] (eh_FW s) (eF_12_key s) := by
  unfold eF_12_key
  refine ef_top (L := [some (.ref 127), none, none]) rfl ?_
  refine es_blk (pc' := 1) (L' := [some (.ref 127), none, none]) (st' := [.ref 127]) [(.aload_n 0, 0)] (by decide +kernel) rfl rfl ?_
  refine ef_getI (k := 127) (j := 62) rfl eL_12_305 (by decide) (by decide +kernel) ?_
  refine es_ne (tgt := 11) (off := (7)) (by decide +kernel) (by decide) (fun h1 => ?_) (fun h1 => ?_)
  · refine es_blk (pc' := 10) (L' := [some (.ref 127), none, none]) (st' := [.int 256]) [(.sipush 256, 256)] (by decide +kernel) rfl rfl ?_
    exact es_ret rfl rfl rfl ⟨by decide +kernel, _, rfl, rfl⟩ (Nat.le_refl _) (Nat.le_refl _)
  refine es_blk (pc' := 12) (L' := [some (.ref 127), none, none]) (st' := [.ref 127]) [(.aload_n 0, 0)] (by decide +kernel) rfl rfl ?_
  refine ef_getP (k := 127) (j := 61) (q := 180) rfl eL_12_169 rfl rfl rfl (by decide +kernel) ?_
  refine es_blk (pc' := 16) (L' := [some (.ref 127), none, none]) (st' := [.int 0, .ref 180]) [(.iconst 0, 0)] (by decide +kernel) rfl rfl ?_
  refine ef_aldc (k := 180) (j := 0) rfl (Or.inl ⟨rfl, rfl⟩) (by decide) rfl (by decide +kernel) ?_
  refine es_blk (pc' := 18) (L' := [some (.ref 127), some (.int (s.1 180 0)), none]) (st' := []) [(.istore_n 1, 0)] (by decide +kernel) rfl rfl ?_
  refine ef_V (fun x2 => [some (.ref 127), some (.int x2), none]) (fun _ => []) (fun _ => eh_FW s) (fun x2 => ?_)
  refine es_blk (pc' := 20) (L' := [some (.ref 127), some (.int x2), none]) (st' := [.ref 127, .ref 127]) [(.aload_n 0, 0), (.dup, 0)] (by decide +kernel) rfl rfl ?_
  refine ef_getI (k := 127) (j := 62) rfl eL_12_305 (by decide) (by decide +kernel) ?_
  refine es_blk (pc' := 25) (L' := [some (.ref 127), some (.int x2), none]) (st' := [.int ((s.1 127 62) - 1), .ref 127]) [(.iconst 1, 1), (.isub, 0)] (by decide +kernel) rfl rfl ?_
  refine ef_putI (k := 127) (j := 62) rfl eL_12_305 rfl rfl (by decide +kernel) ?_
  refine ef_V (fun _ => [some (.ref 127), some (.int x2), none]) (fun _ => []) (fun s3 => eh_FW s3) (fun s3 => ?_)
  refine es_blk (pc' := 30) (L' := [some (.ref 127), some (.int x2), some (.int 0)]) (st' := []) [(.iconst 0, 0), (.istore_n 2, 0)] (by decide +kernel) rfl rfl ?_
  refine ef_loop1 (n := eh_FU) (i := (0, s3)) (px := 58) (fun (t4 : Int32 × eh_F) => [some (.ref 127), some (.int x2), some (.int t4.1)]) (fun (t4 : Int32 × eh_F) => []) (fun (t4 : Int32 × eh_F) => eh_FW t4.2) (fun (e5 : eh_F) => [none, some (.int x2), none]) (fun (e5 : eh_F) => []) (fun (e5 : eh_F) => eh_FW e5) (fun e5 => ?_) (fun K6 HxK6_0 r7 Hr7 t4 => ?_)
  · refine es_blk (pc' := 59) (L' := [none, some (.int x2), none]) (st' := [.int x2]) [(.iload_n 1, 0)] (by decide +kernel) rfl rfl ?_
    exact es_ret rfl rfl rfl ⟨by decide +kernel, _, rfl, rfl⟩ (Nat.le_refl _) (Nat.le_refl _)
  · refine es_blk (pc' := 32) (L' := [some (.ref 127), some (.int x2), some (.int t4.1)]) (st' := [.ref 127, .int t4.1]) [(.iload_n 2, 0), (.aload_n 0, 0)] (by decide +kernel) rfl rfl ?_
    refine ef_getI (k := 127) (j := 62) rfl eL_12_305 (by decide) (by decide +kernel) ?_
    refine es_ige (tgt := 58) (off := (23)) (by decide +kernel) (by decide) (fun h8 => ?_) (fun h8 => ?_)
    · refine es_blk (pc' := 39) (L' := [some (.ref 127), some (.int x2), some (.int t4.1)]) (st' := [.ref 127]) [(.aload_n 0, 0)] (by decide +kernel) rfl rfl ?_
      refine ef_getP (k := 127) (j := 61) (q := 180) rfl eL_12_169 rfl rfl rfl (by decide +kernel) ?_
      refine es_blk (pc' := 44) (L' := [some (.ref 127), some (.int x2), some (.int t4.1)]) (st' := [.ref 127, .int t4.1, .ref 180]) [(.iload_n 2, 0), (.aload_n 0, 0)] (by decide +kernel) rfl rfl ?_
      refine ef_getP (k := 127) (j := 61) (q := 180) rfl eL_12_169 rfl rfl rfl (by decide +kernel) ?_
      refine es_blk (pc' := 50) (L' := [some (.ref 127), some (.int x2), some (.int t4.1)]) (st' := [.int (t4.1 + 1), .ref 180, .int t4.1, .ref 180]) [(.iload_n 2, 0), (.iconst 1, 1), (.iadd, 0)] (by decide +kernel) rfl rfl ?_
      refine ef_ald (k := 180) rfl (Or.inl ⟨rfl, rfl⟩) (by decide +kernel) (fun _ => ?_)
      refine ef_ast (k := 180) rfl (by decide +kernel) (fun _ => ?_)
      refine ef_V (fun _ => [some (.ref 127), some (.int x2), some (.int t4.1)]) (fun _ => []) (fun s9 => eh_FW s9) (fun s9 => ?_)
      refine es_blk (pc' := 55) (L' := [some (.ref 127), some (.int x2), some (.int (t4.1 + 1))]) (st' := []) [(.iinc 2 1, 1)] (by decide +kernel) rfl rfl ?_
      refine ef_V (fun x10 => [some (.ref 127), some (.int x2), some (.int x10)]) (fun _ => []) (fun _ => eh_FW s9) (fun x10 => ?_)
      refine es_goto (tgt := 30) (off := (-25)) (by decide +kernel) (by decide) ?_
      exact Hr7 (x10, s9)
    refine ef_drop (L2 := [none, some (.int x2), none]) [false, true, false] rfl rfl ?_
    exact HxK6_0 t4.2
def eF_12_isWord (s : eh_F) (p0 : Int32) : Option (Int32) := eh_J (fun (a2 : Int32) => if a2 = 0 ∨ a2 = 1 then some a2 else none) (fun j1 => eh_J (fun (u5 : Unit) => j1 0) (fun j4 => if p0 < 0 then (j4 ()) else (if p0 < 131072 then (if (eh_rem p0 4) = 0 then (j1 1) else (j4 ())) else (j4 ()))))
set_option maxHeartbeats 4000000 in
set_option maxRecDepth 100000 in
theorem eS_12_isWord (g : eh_P) (s : eh_F) (p0 : Int32) : eh_Sim g eM_12_isWord (eh_R 1 0 0) (eh_pI s) 0 0 0 (eh_en 2 [.ref 127, .int p0]) [] (eh_FW s) (eF_12_isWord s p0) := by
  unfold eF_12_isWord
  refine ef_top (L := [some (.ref 127), some (.int p0)]) rfl ?_
  refine es_blk (pc' := 1) (L' := [some (.ref 127), some (.int p0)]) (st' := [.int p0]) [(.iload_n 1, 0)] (by decide +kernel) rfl rfl ?_
  refine ef_J (X := fun j1 => ∀ (a2 : Int32), eh_Sim g eM_12_isWord (eh_R 1 0 0) (eh_pI s) 0 0 21 [none, none] [.int a2] (eh_FW s) ((j1 a2).bind some)) ?_ (fun j1 Hj1 => ?_)
  · intro a2
    refine es_chk (fun h3 => ?_)
    exact es_ret rfl rfl rfl ⟨by decide +kernel, _, rfl, eh_narZ h3⟩ (Nat.le_refl _) (Nat.le_refl _)
  refine ef_J (X := fun j4 => ∀ (u5 : Unit), eh_Sim g eM_12_isWord (eh_R 1 0 0) (eh_pI s) 0 0 20 [none, none] [] (eh_FW s) ((j4 u5).bind some)) ?_ (fun j4 Hj4 => ?_)
  · intro u5
    refine es_blk (pc' := 21) (L' := [none, none]) (st' := [.int 0]) [(.iconst 0, 0)] (by decide +kernel) rfl rfl ?_
    exact Hj1 _
  refine es_lt (tgt := 20) (off := (19)) (by decide +kernel) (by decide) (fun h6 => ?_) (fun h6 => ?_)
  · refine ef_drop (L2 := [none, none]) [false, false] rfl rfl ?_
    exact Hj4 ()
  refine es_blk (pc' := 5) (L' := [some (.ref 127), some (.int p0)]) (st' := [.int p0]) [(.iload_n 1, 0)] (by decide +kernel) rfl rfl ?_
  refine es_ldc (v := 131072) eC_12_9 (by decide +kernel) ?_
  refine es_ige (tgt := 20) (off := (13)) (by decide +kernel) (by decide) (fun h7 => ?_) (fun h7 => ?_)
  · refine es_blk (pc' := 12) (L' := [some (.ref 127), some (.int p0)]) (st' := [.int 4, .int p0]) [(.iload_n 1, 0), (.iconst 4, 4)] (by decide +kernel) rfl rfl ?_
    refine es_irem (by decide +kernel) (by decide) ?_
    refine es_ne (tgt := 20) (off := (7)) (by decide +kernel) (by decide) (fun h8 => ?_) (fun h8 => ?_)
    · refine es_blk (pc' := 17) (L' := [some (.ref 127), some (.int p0)]) (st' := [.int 1]) [(.iconst 1, 1)] (by decide +kernel) rfl rfl ?_
      refine es_goto (tgt := 21) (off := (4)) (by decide +kernel) (by decide) ?_
      refine ef_drop (L2 := [none, none]) [false, false] rfl rfl ?_
      exact Hj1 _
    refine ef_drop (L2 := [none, none]) [false, false] rfl rfl ?_
    exact Hj4 ()
  refine ef_drop (L2 := [none, none]) [false, false] rfl rfl ?_
  exact Hj4 ()
def eF_12_isHart (s : eh_F) (p0 : Int32) : Option (Int32) := eh_J (fun (a2 : Int32) => if a2 = 0 ∨ a2 = 1 then some a2 else none) (fun j1 => eh_J (fun (u5 : Unit) => j1 1) (fun j4 => if p0 = 0 then (j4 ()) else (if p0 = 1 then (j4 ()) else (j1 0))))
set_option maxHeartbeats 4000000 in
set_option maxRecDepth 100000 in
theorem eS_12_isHart (g : eh_P) (s : eh_F) (p0 : Int32) : eh_Sim g eM_12_isHart (eh_R 1 0 0) (eh_pI s) 0 0 0 (eh_en 1 [.int p0]) [] (eh_FW s) (eF_12_isHart s p0) := by
  unfold eF_12_isHart
  refine ef_top (L := [some (.int p0)]) rfl ?_
  refine es_blk (pc' := 1) (L' := [some (.int p0)]) (st' := [.int p0]) [(.iload_n 0, 0)] (by decide +kernel) rfl rfl ?_
  refine ef_J (X := fun j1 => ∀ (a2 : Int32), eh_Sim g eM_12_isHart (eh_R 1 0 0) (eh_pI s) 0 0 14 [none] [.int a2] (eh_FW s) ((j1 a2).bind some)) ?_ (fun j1 Hj1 => ?_)
  · intro a2
    refine es_chk (fun h3 => ?_)
    exact es_ret rfl rfl rfl ⟨by decide +kernel, _, rfl, eh_narZ h3⟩ (Nat.le_refl _) (Nat.le_refl _)
  refine ef_J (X := fun j4 => ∀ (u5 : Unit), eh_Sim g eM_12_isHart (eh_R 1 0 0) (eh_pI s) 0 0 9 [none] [] (eh_FW s) ((j4 u5).bind some)) ?_ (fun j4 Hj4 => ?_)
  · intro u5
    refine es_blk (pc' := 10) (L' := [none]) (st' := [.int 1]) [(.iconst 1, 1)] (by decide +kernel) rfl rfl ?_
    refine es_goto (tgt := 14) (off := (4)) (by decide +kernel) (by decide) ?_
    exact Hj1 _
  refine es_eq (tgt := 9) (off := (8)) (by decide +kernel) (by decide) (fun h6 => ?_) (fun h6 => ?_)
  · refine ef_drop (L2 := [none]) [false] rfl rfl ?_
    exact Hj4 ()
  refine es_blk (pc' := 6) (L' := [some (.int p0)]) (st' := [.int 1, .int p0]) [(.iload_n 0, 0), (.iconst 1, 1)] (by decide +kernel) rfl rfl ?_
  refine es_ine (tgt := 13) (off := (7)) (by decide +kernel) (by decide) (fun h7 => ?_) (fun h7 => ?_)
  · refine ef_drop (L2 := [none]) [false] rfl rfl ?_
    exact Hj4 ()
  refine es_blk (pc' := 14) (L' := [some (.int p0)]) (st' := [.int 0]) [(.iconst 0, 0)] (by decide +kernel) rfl rfl ?_
  refine ef_drop (L2 := [none]) [false] rfl rfl ?_
  exact Hj1 _
def eF_12_type (s : eh_F) (p0 : Int32) : Option (Int32 × eh_F) := eh_J (fun (u2 : Unit) => some ((-1), s)) (fun j1 => if p0 < 0 then (j1 ()) else (if 255 < p0 then (j1 ()) else (if (s.1 127 67) = (-1) then (if (s.1 127 62) = 16 then (some ((-1), s)) else (if eh_in (s.1 127 62) 16 then eh_V (eh_tI s 180 (eh_ix (s.1 127 62)) p0) (fun s7 => eh_V (eh_tI s7 127 62 ((s7.1 127 62) + 1)) (fun s8 => some (0, s8))) else none)) else (if (s.1 127 64) = 16 then (some ((-1), s)) else (if eh_in (s.1 127 64) 16 then eh_V (eh_tI s 181 (eh_ix (s.1 127 64)) p0) (fun s10 => eh_V (eh_tI s10 127 64 ((s10.1 127 64) + 1)) (fun s11 => some (1, s11))) else none)))))
set_option maxHeartbeats 4000000 in
set_option maxRecDepth 100000 in
theorem eS_12_type (g : eh_P) (s : eh_F) (p0 : Int32) : eh_Sim g eM_12_type (eh_R 1 0 0) eh_eI 0 0 0 (eh_en 2 [.ref 127, .int p0]) [] (eh_FW s) (eF_12_type s p0) := by
  unfold eF_12_type
  refine ef_top (L := [some (.ref 127), some (.int p0)]) rfl ?_
  refine es_blk (pc' := 1) (L' := [some (.ref 127), some (.int p0)]) (st' := [.int p0]) [(.iload_n 1, 0)] (by decide +kernel) rfl rfl ?_
  refine ef_J (X := fun j1 => ∀ (u2 : Unit), eh_Sim g eM_12_type (eh_R 1 0 0) eh_eI 0 0 11 [none, none] [] (eh_FW s) ((j1 u2).bind some)) ?_ (fun j1 Hj1 => ?_)
  · intro u2
    refine es_blk (pc' := 12) (L' := [none, none]) (st' := [.int (-1)]) [(.iconst (-1), (-1))] (by decide +kernel) rfl rfl ?_
    exact es_ret rfl rfl rfl ⟨by decide +kernel, _, rfl, rfl⟩ (Nat.le_refl _) (Nat.le_refl _)
  refine es_lt (tgt := 11) (off := (10)) (by decide +kernel) (by decide) (fun h3 => ?_) (fun h3 => ?_)
  · refine ef_drop (L2 := [none, none]) [false, false] rfl rfl ?_
    exact Hj1 ()
  refine es_blk (pc' := 8) (L' := [some (.ref 127), some (.int p0)]) (st' := [.int 255, .int p0]) [(.iload_n 1, 0), (.sipush 255, 255)] (by decide +kernel) rfl rfl ?_
  refine es_ile (tgt := 13) (off := (5)) (by decide +kernel) (by decide) (fun h4 => ?_) (fun h4 => ?_)
  · refine ef_drop (L2 := [none, none]) [false, false] rfl rfl ?_
    exact Hj1 ()
  refine es_blk (pc' := 14) (L' := [some (.ref 127), some (.int p0)]) (st' := [.ref 127]) [(.aload_n 0, 0)] (by decide +kernel) rfl rfl ?_
  refine ef_getI (k := 127) (j := 67) rfl eL_12_311 (by decide) (by decide +kernel) ?_
  refine es_blk (pc' := 18) (L' := [some (.ref 127), some (.int p0)]) (st' := [.int (-1), .int (s.1 127 67)]) [(.iconst (-1), (-1))] (by decide +kernel) rfl rfl ?_
  refine es_ieq (tgt := 54) (off := (36)) (by decide +kernel) (by decide) (fun h5 => ?_) (fun h5 => ?_)
  · refine es_blk (pc' := 55) (L' := [some (.ref 127), some (.int p0)]) (st' := [.ref 127]) [(.aload_n 0, 0)] (by decide +kernel) rfl rfl ?_
    refine ef_getI (k := 127) (j := 62) rfl eL_12_305 (by decide) (by decide +kernel) ?_
    refine es_blk (pc' := 60) (L' := [some (.ref 127), some (.int p0)]) (st' := [.int 16, .int (s.1 127 62)]) [(.bipush 16, 16)] (by decide +kernel) rfl rfl ?_
    refine es_ine (tgt := 65) (off := (5)) (by decide +kernel) (by decide) (fun h6 => ?_) (fun h6 => ?_)
    · refine es_blk (pc' := 64) (L' := [some (.ref 127), some (.int p0)]) (st' := [.int (-1)]) [(.iconst (-1), (-1))] (by decide +kernel) rfl rfl ?_
      exact es_ret rfl rfl rfl ⟨by decide +kernel, _, rfl, rfl⟩ (Nat.le_refl _) (Nat.le_refl _)
    refine es_blk (pc' := 66) (L' := [some (.ref 127), some (.int p0)]) (st' := [.ref 127]) [(.aload_n 0, 0)] (by decide +kernel) rfl rfl ?_
    refine ef_getP (k := 127) (j := 61) (q := 180) rfl eL_12_169 rfl rfl rfl (by decide +kernel) ?_
    refine es_blk (pc' := 70) (L' := [some (.ref 127), some (.int p0)]) (st' := [.ref 127, .ref 180]) [(.aload_n 0, 0)] (by decide +kernel) rfl rfl ?_
    refine ef_getI (k := 127) (j := 62) rfl eL_12_305 (by decide) (by decide +kernel) ?_
    refine es_blk (pc' := 74) (L' := [some (.ref 127), some (.int p0)]) (st' := [.int p0, .int (s.1 127 62), .ref 180]) [(.iload_n 1, 0)] (by decide +kernel) rfl rfl ?_
    refine ef_ast (k := 180) rfl (by decide +kernel) (fun _ => ?_)
    refine ef_V (fun _ => [some (.ref 127), some (.int p0)]) (fun _ => []) (fun s7 => eh_FW s7) (fun s7 => ?_)
    refine es_blk (pc' := 77) (L' := [some (.ref 127), some (.int p0)]) (st' := [.ref 127, .ref 127]) [(.aload_n 0, 0), (.dup, 0)] (by decide +kernel) rfl rfl ?_
    refine ef_getI (k := 127) (j := 62) rfl eL_12_305 (by decide) (by decide +kernel) ?_
    refine es_blk (pc' := 82) (L' := [some (.ref 127), some (.int p0)]) (st' := [.int ((s7.1 127 62) + 1), .ref 127]) [(.iconst 1, 1), (.iadd, 0)] (by decide +kernel) rfl rfl ?_
    refine ef_putI (k := 127) (j := 62) rfl eL_12_305 rfl rfl (by decide +kernel) ?_
    refine ef_V (fun _ => [some (.ref 127), some (.int p0)]) (fun _ => []) (fun s8 => eh_FW s8) (fun s8 => ?_)
    refine es_blk (pc' := 86) (L' := [some (.ref 127), some (.int p0)]) (st' := [.int 0]) [(.iconst 0, 0)] (by decide +kernel) rfl rfl ?_
    exact es_ret rfl rfl rfl ⟨by decide +kernel, _, rfl, rfl⟩ (Nat.le_refl _) (Nat.le_refl _)
  refine es_blk (pc' := 22) (L' := [some (.ref 127), some (.int p0)]) (st' := [.ref 127]) [(.aload_n 0, 0)] (by decide +kernel) rfl rfl ?_
  refine ef_getI (k := 127) (j := 64) rfl eL_12_314 (by decide) (by decide +kernel) ?_
  refine es_blk (pc' := 27) (L' := [some (.ref 127), some (.int p0)]) (st' := [.int 16, .int (s.1 127 64)]) [(.bipush 16, 16)] (by decide +kernel) rfl rfl ?_
  refine es_ine (tgt := 32) (off := (5)) (by decide +kernel) (by decide) (fun h9 => ?_) (fun h9 => ?_)
  · refine es_blk (pc' := 31) (L' := [some (.ref 127), some (.int p0)]) (st' := [.int (-1)]) [(.iconst (-1), (-1))] (by decide +kernel) rfl rfl ?_
    exact es_ret rfl rfl rfl ⟨by decide +kernel, _, rfl, rfl⟩ (Nat.le_refl _) (Nat.le_refl _)
  refine es_blk (pc' := 33) (L' := [some (.ref 127), some (.int p0)]) (st' := [.ref 127]) [(.aload_n 0, 0)] (by decide +kernel) rfl rfl ?_
  refine ef_getP (k := 127) (j := 63) (q := 181) rfl eL_12_172 rfl rfl rfl (by decide +kernel) ?_
  refine es_blk (pc' := 37) (L' := [some (.ref 127), some (.int p0)]) (st' := [.ref 127, .ref 181]) [(.aload_n 0, 0)] (by decide +kernel) rfl rfl ?_
  refine ef_getI (k := 127) (j := 64) rfl eL_12_314 (by decide) (by decide +kernel) ?_
  refine es_blk (pc' := 41) (L' := [some (.ref 127), some (.int p0)]) (st' := [.int p0, .int (s.1 127 64), .ref 181]) [(.iload_n 1, 0)] (by decide +kernel) rfl rfl ?_
  refine ef_ast (k := 181) rfl (by decide +kernel) (fun _ => ?_)
  refine ef_V (fun _ => [some (.ref 127), some (.int p0)]) (fun _ => []) (fun s10 => eh_FW s10) (fun s10 => ?_)
  refine es_blk (pc' := 44) (L' := [some (.ref 127), some (.int p0)]) (st' := [.ref 127, .ref 127]) [(.aload_n 0, 0), (.dup, 0)] (by decide +kernel) rfl rfl ?_
  refine ef_getI (k := 127) (j := 64) rfl eL_12_314 (by decide) (by decide +kernel) ?_
  refine es_blk (pc' := 49) (L' := [some (.ref 127), some (.int p0)]) (st' := [.int ((s10.1 127 64) + 1), .ref 127]) [(.iconst 1, 1), (.iadd, 0)] (by decide +kernel) rfl rfl ?_
  refine ef_putI (k := 127) (j := 64) rfl eL_12_314 rfl rfl (by decide +kernel) ?_
  refine ef_V (fun _ => [some (.ref 127), some (.int p0)]) (fun _ => []) (fun s11 => eh_FW s11) (fun s11 => ?_)
  refine es_blk (pc' := 53) (L' := [some (.ref 127), some (.int p0)]) (st' := [.int 1]) [(.iconst 1, 1)] (by decide +kernel) rfl rfl ?_
  exact es_ret rfl rfl rfl ⟨by decide +kernel, _, rfl, rfl⟩ (Nat.le_refl _) (Nat.le_refl _)
def eF_12_panel (s : eh_F) (p0 : Int32) : Option (Int32) := eh_J (fun (a2 : Int32) => some a2) (fun j1 => eh_J (fun (u4 : Unit) => j1 (-1)) (fun j3 => if p0 < 0 then (j3 ()) else (if p0 < (s.1 127 66) then (if eh_in p0 64 then j1 ((s.1 182 (eh_ix p0)) &&& 255) else none) else (j3 ()))))
set_option maxHeartbeats 4000000 in
set_option maxRecDepth 100000 in
theorem eS_12_panel (g : eh_P) (s : eh_F) (p0 : Int32) : eh_Sim g eM_12_panel (eh_R 1 0 0) (eh_pI s) 0 0 0 (eh_en 2 [.ref 127, .int p0]) [] (eh_FW s) (eF_12_panel s p0) := by
  unfold eF_12_panel
  refine ef_top (L := [some (.ref 127), some (.int p0)]) rfl ?_
  refine es_blk (pc' := 1) (L' := [some (.ref 127), some (.int p0)]) (st' := [.int p0]) [(.iload_n 1, 0)] (by decide +kernel) rfl rfl ?_
  refine ef_J (X := fun j1 => ∀ (a2 : Int32), eh_Sim g eM_12_panel (eh_R 1 0 0) (eh_pI s) 0 0 26 [none, none] [.int a2] (eh_FW s) ((j1 a2).bind some)) ?_ (fun j1 Hj1 => ?_)
  · intro a2
    exact es_ret rfl rfl rfl ⟨by decide +kernel, _, rfl, rfl⟩ (Nat.le_refl _) (Nat.le_refl _)
  refine ef_J (X := fun j3 => ∀ (u4 : Unit), eh_Sim g eM_12_panel (eh_R 1 0 0) (eh_pI s) 0 0 25 [none, none] [] (eh_FW s) ((j3 u4).bind some)) ?_ (fun j3 Hj3 => ?_)
  · intro u4
    refine es_blk (pc' := 26) (L' := [none, none]) (st' := [.int (-1)]) [(.iconst (-1), (-1))] (by decide +kernel) rfl rfl ?_
    exact Hj1 _
  refine es_lt (tgt := 25) (off := (24)) (by decide +kernel) (by decide) (fun h5 => ?_) (fun h5 => ?_)
  · refine ef_drop (L2 := [none, none]) [false, false] rfl rfl ?_
    exact Hj3 ()
  refine es_blk (pc' := 6) (L' := [some (.ref 127), some (.int p0)]) (st' := [.ref 127, .int p0]) [(.iload_n 1, 0), (.aload_n 0, 0)] (by decide +kernel) rfl rfl ?_
  refine ef_getI (k := 127) (j := 66) rfl eL_12_317 (by decide) (by decide +kernel) ?_
  refine es_ige (tgt := 25) (off := (16)) (by decide +kernel) (by decide) (fun h6 => ?_) (fun h6 => ?_)
  · refine es_blk (pc' := 13) (L' := [some (.ref 127), some (.int p0)]) (st' := [.ref 127]) [(.aload_n 0, 0)] (by decide +kernel) rfl rfl ?_
    refine ef_getP (k := 127) (j := 65) (q := 182) rfl eL_12_175 rfl rfl rfl (by decide +kernel) ?_
    refine es_blk (pc' := 17) (L' := [some (.ref 127), some (.int p0)]) (st' := [.int p0, .ref 182]) [(.iload_n 1, 0)] (by decide +kernel) rfl rfl ?_
    refine ef_ald (k := 182) rfl (Or.inr ⟨Or.inl rfl, rfl⟩) (by decide +kernel) (fun _ => ?_)
    refine es_blk (pc' := 22) (L' := [some (.ref 127), some (.int p0)]) (st' := [.int ((s.1 182 (eh_ix p0)) &&& 255)]) [(.sipush 255, 255), (.iand, 0)] (by decide +kernel) rfl rfl ?_
    refine es_goto (tgt := 26) (off := (4)) (by decide +kernel) (by decide) ?_
    refine ef_drop (L2 := [none, none]) [false, false] rfl rfl ?_
    exact Hj1 _
  refine ef_drop (L2 := [none, none]) [false, false] rfl rfl ?_
  exact Hj3 ()
def eF_12_line (s : eh_F) (p0 : Int32) : Option (Int32 × eh_F) := eh_V ((s.1 127 22) : Int32) (fun x1 => if p0 = 0 ∨ p0 = 1 then eh_V (eh_tI s 127 22 p0) (fun s2 => if x1 = 0 ∨ x1 = 1 then some (x1, s2) else none) else none)
set_option maxHeartbeats 4000000 in
set_option maxRecDepth 100000 in
theorem eS_12_line (g : eh_P) (s : eh_F) (p0 : Int32) : eh_Sim g eM_12_line (eh_R 1 0 0) eh_eI 0 0 0 (eh_en 3 [.ref 127, .int p0]) [] (eh_FW s) (eF_12_line s p0) := by
  unfold eF_12_line
  refine ef_top (L := [some (.ref 127), some (.int p0), none]) rfl ?_
  refine es_blk (pc' := 1) (L' := [some (.ref 127), some (.int p0), none]) (st' := [.ref 127]) [(.aload_n 0, 0)] (by decide +kernel) rfl rfl ?_
  refine ef_getI (k := 127) (j := 22) rfl eL_12_287 (by decide) (by decide +kernel) ?_
  refine es_blk (pc' := 5) (L' := [some (.ref 127), some (.int p0), some (.int (s.1 127 22))]) (st' := []) [(.istore_n 2, 0)] (by decide +kernel) rfl rfl ?_
  refine ef_V (fun x1 => [some (.ref 127), some (.int p0), some (.int x1)]) (fun _ => []) (fun _ => eh_FW s) (fun x1 => ?_)
  refine es_blk (pc' := 7) (L' := [some (.ref 127), some (.int p0), some (.int x1)]) (st' := [.int p0, .ref 127]) [(.aload_n 0, 0), (.iload_n 1, 0)] (by decide +kernel) rfl rfl ?_
  refine ef_putZ (k := 127) (j := 22) rfl eL_12_287 rfl rfl (by decide +kernel) (fun _ => ?_)
  refine ef_V (fun _ => [some (.ref 127), some (.int p0), some (.int x1)]) (fun _ => []) (fun s2 => eh_FW s2) (fun s2 => ?_)
  refine es_blk (pc' := 11) (L' := [some (.ref 127), some (.int p0), some (.int x1)]) (st' := [.int x1]) [(.iload_n 2, 0)] (by decide +kernel) rfl rfl ?_
  refine es_chk (fun h3 => ?_)
  exact es_ret rfl rfl rfl ⟨by decide +kernel, _, rfl, eh_narZ h3⟩ (Nat.le_refl _) (Nat.le_refl _)
