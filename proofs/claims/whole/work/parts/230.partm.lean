set_option maxHeartbeats 4000000 in
set_option maxRecDepth 100000 in
theorem eT_8_clear (g : eh_P) (s : eh_F) (th : Nat) (hth : eh_okR th = true) : eh_Sim g eM_8_clear (eh_R 1 0 0) eg_eV 0 0 0 (eh_en 1 [.ref th]) [] (eh_FV s) (eF_8_clear s th) := by
  unfold eF_8_clear
  refine ef_top (L := [some (.ref th)]) rfl ?_
  refine es_blk (pc' := 2) (L' := [some (.ref th)]) (st' := [.int 0, .ref th]) [(.aload_n 0, 0), (.iconst 0, 0)] (by decide +kernel) rfl rfl ?_
  refine eg_putI (k := th) (j := 1) (eg_R0sh hth) eL_8_15 rfl rfl (by decide +kernel) ?_
  refine ef_V (fun _ => [some (.ref th)]) (fun _ => []) (fun s1 => eh_FV s1) (fun s1 => ?_)
  exact es_ret rfl rfl rfl ⟨by decide +kernel, rfl⟩ (Nat.le_refl _) (Nat.le_refl _)
set_option maxHeartbeats 4000000 in
set_option maxRecDepth 100000 in
theorem eT_9_begin (g : eh_P) (s : eh_F) (th : Nat) (hth : eh_okS th = true) : eh_Sim g eM_9_begin (eh_R 1 0 0) eg_eV 0 0 0 (eh_en 1 [.ref th]) [] (eh_FV s) (eF_9_begin s th) := by
  unfold eF_9_begin
  refine ef_top (L := [some (.ref th)]) rfl ?_
  refine ef_stat (i := 0) (by decide) eG_9_19 (by decide +kernel) ?_
  refine es_blk (pc' := 5) (L' := [some (.ref th)]) (st' := [.ref th, .int 0, .ref (eh_SB + 0)]) [(.iconst 0, 0), (.aload_n 0, 0)] (by decide +kernel) rfl rfl ?_
  refine eg_getP (k := th) (j := 0) (q := (th + 1)) (eg_S0sh hth) eL_9_7 rfl (eg_Sx hth _).1 (eg_S1sh hth) (by decide +kernel) ?_
  refine es_blk (pc' := 11) (L' := [some (.ref th)]) (st' := [.int 8, .int 0, .ref (th + 1), .int 0, .ref (eh_SB + 0)]) [(.iconst 0, 0), (.bipush 8, 8)] (by decide +kernel) rfl rfl ?_
  refine eg_copyT (i := 0) (k1 := (th + 1)) (by decide) (eg_S1sh hth) eK_9_22 eh_acN eh_acS eh_acI ⟨Nat.le_of_ble_eq_true rfl, Nat.le_of_ble_eq_true rfl⟩ (Nat.le_of_ble_eq_true rfl) (by decide +kernel) (fun _ => ?_)
  refine ef_V (fun _ => [some (.ref th)]) (fun _ => []) (fun s1 => eh_FV s1) (fun s1 => ?_)
  refine es_blk (pc' := 16) (L' := [some (.ref th)]) (st' := [.int 0, .ref th]) [(.aload_n 0, 0), (.iconst 0, 0)] (by decide +kernel) rfl rfl ?_
  refine eg_putI (k := th) (j := 3) (eg_S0sh hth) eL_9_28 rfl rfl (by decide +kernel) ?_
  refine ef_V (fun _ => [some (.ref th)]) (fun _ => []) (fun s2 => eh_FV s2) (fun s2 => ?_)
  exact es_ret rfl rfl rfl ⟨by decide +kernel, rfl⟩ (Nat.le_refl _) (Nat.le_refl _)
set_option maxHeartbeats 4000000 in
set_option maxRecDepth 100000 in
theorem eT_9_flip (g : eh_P) (s : eh_F) (p0 : Int32) : eh_Sim g eM_9_flip (eh_R 1 0 0) (eg_pI s) 0 0 0 (eh_en 1 [.int p0]) [] (eh_FV s) (eF_9_flip s p0) := by
  unfold eF_9_flip
  refine ef_top (L := [some (.int p0)]) rfl ?_
  refine es_blk (pc' := 5) (L' := [some (.int p0)]) (st' := [.int p0, .int (eh_shl p0 24)]) [(.iload_n 0, 0), (.bipush 24, 24), (.ishl, 0), (.iload_n 0, 0)] (by decide +kernel) rfl rfl ?_
  refine es_ldc (v := 65280) eC_9_62 (by decide +kernel) ?_
  refine es_blk (pc' := 16) (L' := [some (.int p0)]) (st' := [.int (eh_ushr p0 8), .int ((eh_shl p0 24) ||| (eh_shl (p0 &&& 65280) 8))]) [(.iand, 0), (.bipush 8, 8), (.ishl, 0), (.ior, 0), (.iload_n 0, 0), (.bipush 8, 8), (.iushr, 0)] (by decide +kernel) rfl rfl ?_
  refine es_ldc (v := 65280) eC_9_62 (by decide +kernel) ?_
  refine es_blk (pc' := 25) (L' := [some (.int p0)]) (st' := [.int ((((eh_shl p0 24) ||| (eh_shl (p0 &&& 65280) 8)) ||| ((eh_ushr p0 8) &&& 65280)) ||| (eh_ushr p0 24))]) [(.iand, 0), (.ior, 0), (.iload_n 0, 0), (.bipush 24, 24), (.iushr, 0), (.ior, 0)] (by decide +kernel) rfl rfl ?_
  exact es_ret rfl rfl rfl ⟨by decide +kernel, _, rfl, rfl⟩ (Nat.le_refl _) (Nat.le_refl _)
set_option maxHeartbeats 4000000 in
set_option maxRecDepth 100000 in
theorem eT_9_compress (g : eh_P) (s : eh_F) (th : Nat) (hth : eh_okS th = true) : eh_Sim g eM_9_compress (eh_R 1 0 0) eg_eV 0 0 0 (eh_en 14 [.ref th]) [] (eh_FV s) (eF_9_compress s th) := by
  unfold eF_9_compress
  refine ef_top (L := [some (.ref th), none, none, none, none, none, none, none, none, none, none, none, none, none]) rfl ?_
  refine es_blk (pc' := 3) (L' := [some (.ref th), some (.int 16), none, none, none, none, none, none, none, none, none, none, none, none]) (st' := []) [(.bipush 16, 16), (.istore_n 1, 0)] (by decide +kernel) rfl rfl ?_
  refine ef_loop1 (n := eh_FU) (i := (16, s)) (px := 116) (fun (t1 : Int32 × eh_F) => [some (.ref th), some (.int t1.1), none, none, none, none, none, none, none, none, none, none, none, none]) (fun (t1 : Int32 × eh_F) => []) (fun (t1 : Int32 × eh_F) => eh_FV t1.2) (fun (e2 : eh_F) => [some (.ref th), none, none, none, none, none, none, none, none, none, none, none, none, none]) (fun (e2 : eh_F) => []) (fun (e2 : eh_F) => eh_FV e2) (fun e2 => ?_) (fun K31 HxK31_0 r32 Hr32 t1 => ?_)
  · refine es_blk (pc' := 117) (L' := [some (.ref th), none, none, none, none, none, none, none, none, none, none, none, none, none]) (st' := [.ref th]) [(.aload_n 0, 0)] (by decide +kernel) rfl rfl ?_
    refine eg_getP (k := th) (j := 0) (q := (th + 1)) (eg_S0sh hth) eL_9_7 rfl (eg_Sx hth _).1 (eg_S1sh hth) (by decide +kernel) ?_
    refine es_blk (pc' := 121) (L' := [some (.ref th), none, none, none, none, none, none, none, none, none, none, none, none, none]) (st' := [.int 0, .ref (th + 1)]) [(.iconst 0, 0)] (by decide +kernel) rfl rfl ?_
    refine eg_aldc (k := (th + 1)) (j := 0) (eg_S1sh hth) (Or.inl ⟨rfl, rfl⟩) (by decide) rfl (by decide +kernel) ?_
    refine es_blk (pc' := 123) (L' := [some (.ref th), some (.int (e2.1 (th + 1) 0)), none, none, none, none, none, none, none, none, none, none, none, none]) (st' := []) [(.istore_n 1, 0)] (by decide +kernel) rfl rfl ?_
    refine ef_V (fun x3 => [some (.ref th), some (.int x3), none, none, none, none, none, none, none, none, none, none, none, none]) (fun _ => []) (fun _ => eh_FV e2) (fun x3 => ?_)
    refine es_blk (pc' := 124) (L' := [some (.ref th), some (.int x3), none, none, none, none, none, none, none, none, none, none, none, none]) (st' := [.ref th]) [(.aload_n 0, 0)] (by decide +kernel) rfl rfl ?_
    refine eg_getP (k := th) (j := 0) (q := (th + 1)) (eg_S0sh hth) eL_9_7 rfl (eg_Sx hth _).1 (eg_S1sh hth) (by decide +kernel) ?_
    refine es_blk (pc' := 128) (L' := [some (.ref th), some (.int x3), none, none, none, none, none, none, none, none, none, none, none, none]) (st' := [.int 1, .ref (th + 1)]) [(.iconst 1, 1)] (by decide +kernel) rfl rfl ?_
    refine eg_aldc (k := (th + 1)) (j := 1) (eg_S1sh hth) (Or.inl ⟨rfl, rfl⟩) (by decide) rfl (by decide +kernel) ?_
    refine es_blk (pc' := 130) (L' := [some (.ref th), some (.int x3), some (.int (e2.1 (th + 1) 1)), none, none, none, none, none, none, none, none, none, none, none]) (st' := []) [(.istore_n 2, 0)] (by decide +kernel) rfl rfl ?_
    refine ef_V (fun x4 => [some (.ref th), some (.int x3), some (.int x4), none, none, none, none, none, none, none, none, none, none, none]) (fun _ => []) (fun _ => eh_FV e2) (fun x4 => ?_)
    refine es_blk (pc' := 131) (L' := [some (.ref th), some (.int x3), some (.int x4), none, none, none, none, none, none, none, none, none, none, none]) (st' := [.ref th]) [(.aload_n 0, 0)] (by decide +kernel) rfl rfl ?_
    refine eg_getP (k := th) (j := 0) (q := (th + 1)) (eg_S0sh hth) eL_9_7 rfl (eg_Sx hth _).1 (eg_S1sh hth) (by decide +kernel) ?_
    refine es_blk (pc' := 135) (L' := [some (.ref th), some (.int x3), some (.int x4), none, none, none, none, none, none, none, none, none, none, none]) (st' := [.int 2, .ref (th + 1)]) [(.iconst 2, 2)] (by decide +kernel) rfl rfl ?_
    refine eg_aldc (k := (th + 1)) (j := 2) (eg_S1sh hth) (Or.inl ⟨rfl, rfl⟩) (by decide) rfl (by decide +kernel) ?_
    refine es_blk (pc' := 137) (L' := [some (.ref th), some (.int x3), some (.int x4), some (.int (e2.1 (th + 1) 2)), none, none, none, none, none, none, none, none, none, none]) (st' := []) [(.istore_n 3, 0)] (by decide +kernel) rfl rfl ?_
    refine ef_V (fun x5 => [some (.ref th), some (.int x3), some (.int x4), some (.int x5), none, none, none, none, none, none, none, none, none, none]) (fun _ => []) (fun _ => eh_FV e2) (fun x5 => ?_)
    refine es_blk (pc' := 138) (L' := [some (.ref th), some (.int x3), some (.int x4), some (.int x5), none, none, none, none, none, none, none, none, none, none]) (st' := [.ref th]) [(.aload_n 0, 0)] (by decide +kernel) rfl rfl ?_
    refine eg_getP (k := th) (j := 0) (q := (th + 1)) (eg_S0sh hth) eL_9_7 rfl (eg_Sx hth _).1 (eg_S1sh hth) (by decide +kernel) ?_
    refine es_blk (pc' := 142) (L' := [some (.ref th), some (.int x3), some (.int x4), some (.int x5), none, none, none, none, none, none, none, none, none, none]) (st' := [.int 3, .ref (th + 1)]) [(.iconst 3, 3)] (by decide +kernel) rfl rfl ?_
    refine eg_aldc (k := (th + 1)) (j := 3) (eg_S1sh hth) (Or.inl ⟨rfl, rfl⟩) (by decide) rfl (by decide +kernel) ?_
    refine es_blk (pc' := 145) (L' := [some (.ref th), some (.int x3), some (.int x4), some (.int x5), some (.int (e2.1 (th + 1) 3)), none, none, none, none, none, none, none, none, none]) (st' := []) [(.istore 4, 0)] (by decide +kernel) rfl rfl ?_
    refine ef_V (fun x6 => [some (.ref th), some (.int x3), some (.int x4), some (.int x5), some (.int x6), none, none, none, none, none, none, none, none, none]) (fun _ => []) (fun _ => eh_FV e2) (fun x6 => ?_)
    refine es_blk (pc' := 146) (L' := [some (.ref th), some (.int x3), some (.int x4), some (.int x5), some (.int x6), none, none, none, none, none, none, none, none, none]) (st' := [.ref th]) [(.aload_n 0, 0)] (by decide +kernel) rfl rfl ?_
    refine eg_getP (k := th) (j := 0) (q := (th + 1)) (eg_S0sh hth) eL_9_7 rfl (eg_Sx hth _).1 (eg_S1sh hth) (by decide +kernel) ?_
    refine es_blk (pc' := 150) (L' := [some (.ref th), some (.int x3), some (.int x4), some (.int x5), some (.int x6), none, none, none, none, none, none, none, none, none]) (st' := [.int 4, .ref (th + 1)]) [(.iconst 4, 4)] (by decide +kernel) rfl rfl ?_
    refine eg_aldc (k := (th + 1)) (j := 4) (eg_S1sh hth) (Or.inl ⟨rfl, rfl⟩) (by decide) rfl (by decide +kernel) ?_
    refine es_blk (pc' := 153) (L' := [some (.ref th), some (.int x3), some (.int x4), some (.int x5), some (.int x6), some (.int (e2.1 (th + 1) 4)), none, none, none, none, none, none, none, none]) (st' := []) [(.istore 5, 0)] (by decide +kernel) rfl rfl ?_
    refine ef_V (fun x7 => [some (.ref th), some (.int x3), some (.int x4), some (.int x5), some (.int x6), some (.int x7), none, none, none, none, none, none, none, none]) (fun _ => []) (fun _ => eh_FV e2) (fun x7 => ?_)
    refine es_blk (pc' := 154) (L' := [some (.ref th), some (.int x3), some (.int x4), some (.int x5), some (.int x6), some (.int x7), none, none, none, none, none, none, none, none]) (st' := [.ref th]) [(.aload_n 0, 0)] (by decide +kernel) rfl rfl ?_
    refine eg_getP (k := th) (j := 0) (q := (th + 1)) (eg_S0sh hth) eL_9_7 rfl (eg_Sx hth _).1 (eg_S1sh hth) (by decide +kernel) ?_
    refine es_blk (pc' := 158) (L' := [some (.ref th), some (.int x3), some (.int x4), some (.int x5), some (.int x6), some (.int x7), none, none, none, none, none, none, none, none]) (st' := [.int 5, .ref (th + 1)]) [(.iconst 5, 5)] (by decide +kernel) rfl rfl ?_
    refine eg_aldc (k := (th + 1)) (j := 5) (eg_S1sh hth) (Or.inl ⟨rfl, rfl⟩) (by decide) rfl (by decide +kernel) ?_
    refine es_blk (pc' := 161) (L' := [some (.ref th), some (.int x3), some (.int x4), some (.int x5), some (.int x6), some (.int x7), some (.int (e2.1 (th + 1) 5)), none, none, none, none, none, none, none]) (st' := []) [(.istore 6, 0)] (by decide +kernel) rfl rfl ?_
    refine ef_V (fun x8 => [some (.ref th), some (.int x3), some (.int x4), some (.int x5), some (.int x6), some (.int x7), some (.int x8), none, none, none, none, none, none, none]) (fun _ => []) (fun _ => eh_FV e2) (fun x8 => ?_)
    refine es_blk (pc' := 162) (L' := [some (.ref th), some (.int x3), some (.int x4), some (.int x5), some (.int x6), some (.int x7), some (.int x8), none, none, none, none, none, none, none]) (st' := [.ref th]) [(.aload_n 0, 0)] (by decide +kernel) rfl rfl ?_
    refine eg_getP (k := th) (j := 0) (q := (th + 1)) (eg_S0sh hth) eL_9_7 rfl (eg_Sx hth _).1 (eg_S1sh hth) (by decide +kernel) ?_
    refine es_blk (pc' := 167) (L' := [some (.ref th), some (.int x3), some (.int x4), some (.int x5), some (.int x6), some (.int x7), some (.int x8), none, none, none, none, none, none, none]) (st' := [.int 6, .ref (th + 1)]) [(.bipush 6, 6)] (by decide +kernel) rfl rfl ?_
    refine eg_aldc (k := (th + 1)) (j := 6) (eg_S1sh hth) (Or.inl ⟨rfl, rfl⟩) (by decide) rfl (by decide +kernel) ?_
    refine es_blk (pc' := 170) (L' := [some (.ref th), some (.int x3), some (.int x4), some (.int x5), some (.int x6), some (.int x7), some (.int x8), some (.int (e2.1 (th + 1) 6)), none, none, none, none, none, none]) (st' := []) [(.istore 7, 0)] (by decide +kernel) rfl rfl ?_
    refine ef_V (fun x9 => [some (.ref th), some (.int x3), some (.int x4), some (.int x5), some (.int x6), some (.int x7), some (.int x8), some (.int x9), none, none, none, none, none, none]) (fun _ => []) (fun _ => eh_FV e2) (fun x9 => ?_)
    refine es_blk (pc' := 171) (L' := [some (.ref th), some (.int x3), some (.int x4), some (.int x5), some (.int x6), some (.int x7), some (.int x8), some (.int x9), none, none, none, none, none, none]) (st' := [.ref th]) [(.aload_n 0, 0)] (by decide +kernel) rfl rfl ?_
    refine eg_getP (k := th) (j := 0) (q := (th + 1)) (eg_S0sh hth) eL_9_7 rfl (eg_Sx hth _).1 (eg_S1sh hth) (by decide +kernel) ?_
    refine es_blk (pc' := 176) (L' := [some (.ref th), some (.int x3), some (.int x4), some (.int x5), some (.int x6), some (.int x7), some (.int x8), some (.int x9), none, none, none, none, none, none]) (st' := [.int 7, .ref (th + 1)]) [(.bipush 7, 7)] (by decide +kernel) rfl rfl ?_
    refine eg_aldc (k := (th + 1)) (j := 7) (eg_S1sh hth) (Or.inl ⟨rfl, rfl⟩) (by decide) rfl (by decide +kernel) ?_
    refine es_blk (pc' := 179) (L' := [some (.ref th), some (.int x3), some (.int x4), some (.int x5), some (.int x6), some (.int x7), some (.int x8), some (.int x9), some (.int (e2.1 (th + 1) 7)), none, none, none, none, none]) (st' := []) [(.istore 8, 0)] (by decide +kernel) rfl rfl ?_
    refine ef_V (fun x10 => [some (.ref th), some (.int x3), some (.int x4), some (.int x5), some (.int x6), some (.int x7), some (.int x8), some (.int x9), some (.int x10), none, none, none, none, none]) (fun _ => []) (fun _ => eh_FV e2) (fun x10 => ?_)
    refine es_blk (pc' := 182) (L' := [some (.ref th), some (.int x3), some (.int x4), some (.int x5), some (.int x6), some (.int x7), some (.int x8), some (.int x9), some (.int x10), some (.int 0), none, none, none, none]) (st' := []) [(.iconst 0, 0), (.istore 9, 0)] (by decide +kernel) rfl rfl ?_
    refine ef_loop1 (n := eh_FU) (i := (x3, x4, x5, x6, x7, x8, x9, x10, 0)) (px := 346) (fun (t11 : Int32 × Int32 × Int32 × Int32 × Int32 × Int32 × Int32 × Int32 × Int32) => [some (.ref th), some (.int t11.1), some (.int t11.2.1), some (.int t11.2.2.1), some (.int t11.2.2.2.1), some (.int t11.2.2.2.2.1), some (.int t11.2.2.2.2.2.1), some (.int t11.2.2.2.2.2.2.1), some (.int t11.2.2.2.2.2.2.2.1), some (.int t11.2.2.2.2.2.2.2.2), none, none, none, none]) (fun (t11 : Int32 × Int32 × Int32 × Int32 × Int32 × Int32 × Int32 × Int32 × Int32) => []) (fun (t11 : Int32 × Int32 × Int32 × Int32 × Int32 × Int32 × Int32 × Int32 × Int32) => eh_FV e2) (fun (e12 : Int32 × Int32 × Int32 × Int32 × Int32 × Int32 × Int32 × Int32) => [some (.ref th), some (.int e12.1), some (.int e12.2.1), some (.int e12.2.2.1), some (.int e12.2.2.2.1), some (.int e12.2.2.2.2.1), some (.int e12.2.2.2.2.2.1), some (.int e12.2.2.2.2.2.2.1), some (.int e12.2.2.2.2.2.2.2), none, none, none, none, none]) (fun (e12 : Int32 × Int32 × Int32 × Int32 × Int32 × Int32 × Int32 × Int32) => []) (fun (e12 : Int32 × Int32 × Int32 × Int32 × Int32 × Int32 × Int32 × Int32) => eh_FV e2) (fun e12 => ?_) (fun K21 HxK21_0 r22 Hr22 t11 => ?_)
    · refine es_blk (pc' := 347) (L' := [some (.ref th), some (.int e12.1), some (.int e12.2.1), some (.int e12.2.2.1), some (.int e12.2.2.2.1), some (.int e12.2.2.2.2.1), some (.int e12.2.2.2.2.2.1), some (.int e12.2.2.2.2.2.2.1), some (.int e12.2.2.2.2.2.2.2), none, none, none, none, none]) (st' := [.ref th]) [(.aload_n 0, 0)] (by decide +kernel) rfl rfl ?_
      refine eg_getP (k := th) (j := 0) (q := (th + 1)) (eg_S0sh hth) eL_9_7 rfl (eg_Sx hth _).1 (eg_S1sh hth) (by decide +kernel) ?_
      refine es_blk (pc' := 352) (L' := [some (.ref th), some (.int e12.1), some (.int e12.2.1), some (.int e12.2.2.1), some (.int e12.2.2.2.1), some (.int e12.2.2.2.2.1), some (.int e12.2.2.2.2.2.1), some (.int e12.2.2.2.2.2.2.1), some (.int e12.2.2.2.2.2.2.2), none, none, none, none, none]) (st' := [.int 0, .ref (th + 1), .int 0, .ref (th + 1)]) [(.iconst 0, 0), (.dup2, 0)] (by decide +kernel) rfl rfl ?_
      refine eg_aldc (k := (th + 1)) (j := 0) (eg_S1sh hth) (Or.inl ⟨rfl, rfl⟩) (by decide) rfl (by decide +kernel) ?_
      refine es_blk (pc' := 355) (L' := [some (.ref th), some (.int e12.1), some (.int e12.2.1), some (.int e12.2.2.1), some (.int e12.2.2.2.1), some (.int e12.2.2.2.2.1), some (.int e12.2.2.2.2.2.1), some (.int e12.2.2.2.2.2.2.1), some (.int e12.2.2.2.2.2.2.2), none, none, none, none, none]) (st' := [.int ((e2.1 (th + 1) 0) + e12.1), .int 0, .ref (th + 1)]) [(.iload_n 1, 0), (.iadd, 0)] (by decide +kernel) rfl rfl ?_
      refine eg_astc (k := (th + 1)) (j := 0) (eg_S1sh hth) (by decide) rfl (by decide +kernel) ?_
      refine ef_V (fun _ => [some (.ref th), some (.int e12.1), some (.int e12.2.1), some (.int e12.2.2.1), some (.int e12.2.2.2.1), some (.int e12.2.2.2.2.1), some (.int e12.2.2.2.2.2.1), some (.int e12.2.2.2.2.2.2.1), some (.int e12.2.2.2.2.2.2.2), none, none, none, none, none]) (fun _ => []) (fun s13 => eh_FV s13) (fun s13 => ?_)
      refine es_blk (pc' := 357) (L' := [some (.ref th), some (.int e12.1), some (.int e12.2.1), some (.int e12.2.2.1), some (.int e12.2.2.2.1), some (.int e12.2.2.2.2.1), some (.int e12.2.2.2.2.2.1), some (.int e12.2.2.2.2.2.2.1), some (.int e12.2.2.2.2.2.2.2), none, none, none, none, none]) (st' := [.ref th]) [(.aload_n 0, 0)] (by decide +kernel) rfl rfl ?_
      refine eg_getP (k := th) (j := 0) (q := (th + 1)) (eg_S0sh hth) eL_9_7 rfl (eg_Sx hth _).1 (eg_S1sh hth) (by decide +kernel) ?_
      refine es_blk (pc' := 362) (L' := [some (.ref th), some (.int e12.1), some (.int e12.2.1), some (.int e12.2.2.1), some (.int e12.2.2.2.1), some (.int e12.2.2.2.2.1), some (.int e12.2.2.2.2.2.1), some (.int e12.2.2.2.2.2.2.1), some (.int e12.2.2.2.2.2.2.2), none, none, none, none, none]) (st' := [.int 1, .ref (th + 1), .int 1, .ref (th + 1)]) [(.iconst 1, 1), (.dup2, 0)] (by decide +kernel) rfl rfl ?_
      refine eg_aldc (k := (th + 1)) (j := 1) (eg_S1sh hth) (Or.inl ⟨rfl, rfl⟩) (by decide) rfl (by decide +kernel) ?_
      refine es_blk (pc' := 365) (L' := [some (.ref th), some (.int e12.1), some (.int e12.2.1), some (.int e12.2.2.1), some (.int e12.2.2.2.1), some (.int e12.2.2.2.2.1), some (.int e12.2.2.2.2.2.1), some (.int e12.2.2.2.2.2.2.1), some (.int e12.2.2.2.2.2.2.2), none, none, none, none, none]) (st' := [.int ((s13.1 (th + 1) 1) + e12.2.1), .int 1, .ref (th + 1)]) [(.iload_n 2, 0), (.iadd, 0)] (by decide +kernel) rfl rfl ?_
      refine eg_astc (k := (th + 1)) (j := 1) (eg_S1sh hth) (by decide) rfl (by decide +kernel) ?_
      refine ef_V (fun _ => [some (.ref th), some (.int e12.1), some (.int e12.2.1), some (.int e12.2.2.1), some (.int e12.2.2.2.1), some (.int e12.2.2.2.2.1), some (.int e12.2.2.2.2.2.1), some (.int e12.2.2.2.2.2.2.1), some (.int e12.2.2.2.2.2.2.2), none, none, none, none, none]) (fun _ => []) (fun s14 => eh_FV s14) (fun s14 => ?_)
      refine es_blk (pc' := 367) (L' := [some (.ref th), some (.int e12.1), some (.int e12.2.1), some (.int e12.2.2.1), some (.int e12.2.2.2.1), some (.int e12.2.2.2.2.1), some (.int e12.2.2.2.2.2.1), some (.int e12.2.2.2.2.2.2.1), some (.int e12.2.2.2.2.2.2.2), none, none, none, none, none]) (st' := [.ref th]) [(.aload_n 0, 0)] (by decide +kernel) rfl rfl ?_
      refine eg_getP (k := th) (j := 0) (q := (th + 1)) (eg_S0sh hth) eL_9_7 rfl (eg_Sx hth _).1 (eg_S1sh hth) (by decide +kernel) ?_
      refine es_blk (pc' := 372) (L' := [some (.ref th), some (.int e12.1), some (.int e12.2.1), some (.int e12.2.2.1), some (.int e12.2.2.2.1), some (.int e12.2.2.2.2.1), some (.int e12.2.2.2.2.2.1), some (.int e12.2.2.2.2.2.2.1), some (.int e12.2.2.2.2.2.2.2), none, none, none, none, none]) (st' := [.int 2, .ref (th + 1), .int 2, .ref (th + 1)]) [(.iconst 2, 2), (.dup2, 0)] (by decide +kernel) rfl rfl ?_
      refine eg_aldc (k := (th + 1)) (j := 2) (eg_S1sh hth) (Or.inl ⟨rfl, rfl⟩) (by decide) rfl (by decide +kernel) ?_
      refine es_blk (pc' := 375) (L' := [some (.ref th), some (.int e12.1), some (.int e12.2.1), some (.int e12.2.2.1), some (.int e12.2.2.2.1), some (.int e12.2.2.2.2.1), some (.int e12.2.2.2.2.2.1), some (.int e12.2.2.2.2.2.2.1), some (.int e12.2.2.2.2.2.2.2), none, none, none, none, none]) (st' := [.int ((s14.1 (th + 1) 2) + e12.2.2.1), .int 2, .ref (th + 1)]) [(.iload_n 3, 0), (.iadd, 0)] (by decide +kernel) rfl rfl ?_
      refine eg_astc (k := (th + 1)) (j := 2) (eg_S1sh hth) (by decide) rfl (by decide +kernel) ?_
      refine ef_V (fun _ => [some (.ref th), some (.int e12.1), some (.int e12.2.1), some (.int e12.2.2.1), some (.int e12.2.2.2.1), some (.int e12.2.2.2.2.1), some (.int e12.2.2.2.2.2.1), some (.int e12.2.2.2.2.2.2.1), some (.int e12.2.2.2.2.2.2.2), none, none, none, none, none]) (fun _ => []) (fun s15 => eh_FV s15) (fun s15 => ?_)
      refine es_blk (pc' := 377) (L' := [some (.ref th), some (.int e12.1), some (.int e12.2.1), some (.int e12.2.2.1), some (.int e12.2.2.2.1), some (.int e12.2.2.2.2.1), some (.int e12.2.2.2.2.2.1), some (.int e12.2.2.2.2.2.2.1), some (.int e12.2.2.2.2.2.2.2), none, none, none, none, none]) (st' := [.ref th]) [(.aload_n 0, 0)] (by decide +kernel) rfl rfl ?_
      refine eg_getP (k := th) (j := 0) (q := (th + 1)) (eg_S0sh hth) eL_9_7 rfl (eg_Sx hth _).1 (eg_S1sh hth) (by decide +kernel) ?_
      refine es_blk (pc' := 382) (L' := [some (.ref th), some (.int e12.1), some (.int e12.2.1), some (.int e12.2.2.1), some (.int e12.2.2.2.1), some (.int e12.2.2.2.2.1), some (.int e12.2.2.2.2.2.1), some (.int e12.2.2.2.2.2.2.1), some (.int e12.2.2.2.2.2.2.2), none, none, none, none, none]) (st' := [.int 3, .ref (th + 1), .int 3, .ref (th + 1)]) [(.iconst 3, 3), (.dup2, 0)] (by decide +kernel) rfl rfl ?_
      refine eg_aldc (k := (th + 1)) (j := 3) (eg_S1sh hth) (Or.inl ⟨rfl, rfl⟩) (by decide) rfl (by decide +kernel) ?_
      refine es_blk (pc' := 386) (L' := [some (.ref th), some (.int e12.1), some (.int e12.2.1), some (.int e12.2.2.1), some (.int e12.2.2.2.1), some (.int e12.2.2.2.2.1), some (.int e12.2.2.2.2.2.1), some (.int e12.2.2.2.2.2.2.1), some (.int e12.2.2.2.2.2.2.2), none, none, none, none, none]) (st' := [.int ((s15.1 (th + 1) 3) + e12.2.2.2.1), .int 3, .ref (th + 1)]) [(.iload 4, 0), (.iadd, 0)] (by decide +kernel) rfl rfl ?_
      refine eg_astc (k := (th + 1)) (j := 3) (eg_S1sh hth) (by decide) rfl (by decide +kernel) ?_
      refine ef_V (fun _ => [some (.ref th), some (.int e12.1), some (.int e12.2.1), some (.int e12.2.2.1), some (.int e12.2.2.2.1), some (.int e12.2.2.2.2.1), some (.int e12.2.2.2.2.2.1), some (.int e12.2.2.2.2.2.2.1), some (.int e12.2.2.2.2.2.2.2), none, none, none, none, none]) (fun _ => []) (fun s16 => eh_FV s16) (fun s16 => ?_)
      refine es_blk (pc' := 388) (L' := [some (.ref th), some (.int e12.1), some (.int e12.2.1), some (.int e12.2.2.1), some (.int e12.2.2.2.1), some (.int e12.2.2.2.2.1), some (.int e12.2.2.2.2.2.1), some (.int e12.2.2.2.2.2.2.1), some (.int e12.2.2.2.2.2.2.2), none, none, none, none, none]) (st' := [.ref th]) [(.aload_n 0, 0)] (by decide +kernel) rfl rfl ?_
      refine eg_getP (k := th) (j := 0) (q := (th + 1)) (eg_S0sh hth) eL_9_7 rfl (eg_Sx hth _).1 (eg_S1sh hth) (by decide +kernel) ?_
      refine es_blk (pc' := 393) (L' := [some (.ref th), some (.int e12.1), some (.int e12.2.1), some (.int e12.2.2.1), some (.int e12.2.2.2.1), some (.int e12.2.2.2.2.1), some (.int e12.2.2.2.2.2.1), some (.int e12.2.2.2.2.2.2.1), some (.int e12.2.2.2.2.2.2.2), none, none, none, none, none]) (st' := [.int 4, .ref (th + 1), .int 4, .ref (th + 1)]) [(.iconst 4, 4), (.dup2, 0)] (by decide +kernel) rfl rfl ?_
      refine eg_aldc (k := (th + 1)) (j := 4) (eg_S1sh hth) (Or.inl ⟨rfl, rfl⟩) (by decide) rfl (by decide +kernel) ?_
      refine es_blk (pc' := 397) (L' := [some (.ref th), some (.int e12.1), some (.int e12.2.1), some (.int e12.2.2.1), some (.int e12.2.2.2.1), some (.int e12.2.2.2.2.1), some (.int e12.2.2.2.2.2.1), some (.int e12.2.2.2.2.2.2.1), some (.int e12.2.2.2.2.2.2.2), none, none, none, none, none]) (st' := [.int ((s16.1 (th + 1) 4) + e12.2.2.2.2.1), .int 4, .ref (th + 1)]) [(.iload 5, 0), (.iadd, 0)] (by decide +kernel) rfl rfl ?_
      refine eg_astc (k := (th + 1)) (j := 4) (eg_S1sh hth) (by decide) rfl (by decide +kernel) ?_
      refine ef_V (fun _ => [some (.ref th), some (.int e12.1), some (.int e12.2.1), some (.int e12.2.2.1), some (.int e12.2.2.2.1), some (.int e12.2.2.2.2.1), some (.int e12.2.2.2.2.2.1), some (.int e12.2.2.2.2.2.2.1), some (.int e12.2.2.2.2.2.2.2), none, none, none, none, none]) (fun _ => []) (fun s17 => eh_FV s17) (fun s17 => ?_)
      refine es_blk (pc' := 399) (L' := [some (.ref th), some (.int e12.1), some (.int e12.2.1), some (.int e12.2.2.1), some (.int e12.2.2.2.1), some (.int e12.2.2.2.2.1), some (.int e12.2.2.2.2.2.1), some (.int e12.2.2.2.2.2.2.1), some (.int e12.2.2.2.2.2.2.2), none, none, none, none, none]) (st' := [.ref th]) [(.aload_n 0, 0)] (by decide +kernel) rfl rfl ?_
      refine eg_getP (k := th) (j := 0) (q := (th + 1)) (eg_S0sh hth) eL_9_7 rfl (eg_Sx hth _).1 (eg_S1sh hth) (by decide +kernel) ?_
      refine es_blk (pc' := 404) (L' := [some (.ref th), some (.int e12.1), some (.int e12.2.1), some (.int e12.2.2.1), some (.int e12.2.2.2.1), some (.int e12.2.2.2.2.1), some (.int e12.2.2.2.2.2.1), some (.int e12.2.2.2.2.2.2.1), some (.int e12.2.2.2.2.2.2.2), none, none, none, none, none]) (st' := [.int 5, .ref (th + 1), .int 5, .ref (th + 1)]) [(.iconst 5, 5), (.dup2, 0)] (by decide +kernel) rfl rfl ?_
      refine eg_aldc (k := (th + 1)) (j := 5) (eg_S1sh hth) (Or.inl ⟨rfl, rfl⟩) (by decide) rfl (by decide +kernel) ?_
      refine es_blk (pc' := 408) (L' := [some (.ref th), some (.int e12.1), some (.int e12.2.1), some (.int e12.2.2.1), some (.int e12.2.2.2.1), some (.int e12.2.2.2.2.1), some (.int e12.2.2.2.2.2.1), some (.int e12.2.2.2.2.2.2.1), some (.int e12.2.2.2.2.2.2.2), none, none, none, none, none]) (st' := [.int ((s17.1 (th + 1) 5) + e12.2.2.2.2.2.1), .int 5, .ref (th + 1)]) [(.iload 6, 0), (.iadd, 0)] (by decide +kernel) rfl rfl ?_
      refine eg_astc (k := (th + 1)) (j := 5) (eg_S1sh hth) (by decide) rfl (by decide +kernel) ?_
      refine ef_V (fun _ => [some (.ref th), some (.int e12.1), some (.int e12.2.1), some (.int e12.2.2.1), some (.int e12.2.2.2.1), some (.int e12.2.2.2.2.1), some (.int e12.2.2.2.2.2.1), some (.int e12.2.2.2.2.2.2.1), some (.int e12.2.2.2.2.2.2.2), none, none, none, none, none]) (fun _ => []) (fun s18 => eh_FV s18) (fun s18 => ?_)
      refine es_blk (pc' := 410) (L' := [some (.ref th), some (.int e12.1), some (.int e12.2.1), some (.int e12.2.2.1), some (.int e12.2.2.2.1), some (.int e12.2.2.2.2.1), some (.int e12.2.2.2.2.2.1), some (.int e12.2.2.2.2.2.2.1), some (.int e12.2.2.2.2.2.2.2), none, none, none, none, none]) (st' := [.ref th]) [(.aload_n 0, 0)] (by decide +kernel) rfl rfl ?_
      refine eg_getP (k := th) (j := 0) (q := (th + 1)) (eg_S0sh hth) eL_9_7 rfl (eg_Sx hth _).1 (eg_S1sh hth) (by decide +kernel) ?_
      refine es_blk (pc' := 416) (L' := [some (.ref th), some (.int e12.1), some (.int e12.2.1), some (.int e12.2.2.1), some (.int e12.2.2.2.1), some (.int e12.2.2.2.2.1), some (.int e12.2.2.2.2.2.1), some (.int e12.2.2.2.2.2.2.1), some (.int e12.2.2.2.2.2.2.2), none, none, none, none, none]) (st' := [.int 6, .ref (th + 1), .int 6, .ref (th + 1)]) [(.bipush 6, 6), (.dup2, 0)] (by decide +kernel) rfl rfl ?_
      refine eg_aldc (k := (th + 1)) (j := 6) (eg_S1sh hth) (Or.inl ⟨rfl, rfl⟩) (by decide) rfl (by decide +kernel) ?_
      refine es_blk (pc' := 420) (L' := [some (.ref th), some (.int e12.1), some (.int e12.2.1), some (.int e12.2.2.1), some (.int e12.2.2.2.1), some (.int e12.2.2.2.2.1), some (.int e12.2.2.2.2.2.1), some (.int e12.2.2.2.2.2.2.1), some (.int e12.2.2.2.2.2.2.2), none, none, none, none, none]) (st' := [.int ((s18.1 (th + 1) 6) + e12.2.2.2.2.2.2.1), .int 6, .ref (th + 1)]) [(.iload 7, 0), (.iadd, 0)] (by decide +kernel) rfl rfl ?_
      refine eg_astc (k := (th + 1)) (j := 6) (eg_S1sh hth) (by decide) rfl (by decide +kernel) ?_
      refine ef_V (fun _ => [some (.ref th), some (.int e12.1), some (.int e12.2.1), some (.int e12.2.2.1), some (.int e12.2.2.2.1), some (.int e12.2.2.2.2.1), some (.int e12.2.2.2.2.2.1), some (.int e12.2.2.2.2.2.2.1), some (.int e12.2.2.2.2.2.2.2), none, none, none, none, none]) (fun _ => []) (fun s19 => eh_FV s19) (fun s19 => ?_)
      refine es_blk (pc' := 422) (L' := [some (.ref th), some (.int e12.1), some (.int e12.2.1), some (.int e12.2.2.1), some (.int e12.2.2.2.1), some (.int e12.2.2.2.2.1), some (.int e12.2.2.2.2.2.1), some (.int e12.2.2.2.2.2.2.1), some (.int e12.2.2.2.2.2.2.2), none, none, none, none, none]) (st' := [.ref th]) [(.aload_n 0, 0)] (by decide +kernel) rfl rfl ?_
      refine eg_getP (k := th) (j := 0) (q := (th + 1)) (eg_S0sh hth) eL_9_7 rfl (eg_Sx hth _).1 (eg_S1sh hth) (by decide +kernel) ?_
      refine es_blk (pc' := 428) (L' := [some (.ref th), some (.int e12.1), some (.int e12.2.1), some (.int e12.2.2.1), some (.int e12.2.2.2.1), some (.int e12.2.2.2.2.1), some (.int e12.2.2.2.2.2.1), some (.int e12.2.2.2.2.2.2.1), some (.int e12.2.2.2.2.2.2.2), none, none, none, none, none]) (st' := [.int 7, .ref (th + 1), .int 7, .ref (th + 1)]) [(.bipush 7, 7), (.dup2, 0)] (by decide +kernel) rfl rfl ?_
      refine eg_aldc (k := (th + 1)) (j := 7) (eg_S1sh hth) (Or.inl ⟨rfl, rfl⟩) (by decide) rfl (by decide +kernel) ?_
      refine es_blk (pc' := 432) (L' := [some (.ref th), some (.int e12.1), some (.int e12.2.1), some (.int e12.2.2.1), some (.int e12.2.2.2.1), some (.int e12.2.2.2.2.1), some (.int e12.2.2.2.2.2.1), some (.int e12.2.2.2.2.2.2.1), some (.int e12.2.2.2.2.2.2.2), none, none, none, none, none]) (st' := [.int ((s19.1 (th + 1) 7) + e12.2.2.2.2.2.2.2), .int 7, .ref (th + 1)]) [(.iload 8, 0), (.iadd, 0)] (by decide +kernel) rfl rfl ?_
      refine eg_astc (k := (th + 1)) (j := 7) (eg_S1sh hth) (by decide) rfl (by decide +kernel) ?_
      refine ef_V (fun _ => [some (.ref th), some (.int e12.1), some (.int e12.2.1), some (.int e12.2.2.1), some (.int e12.2.2.2.1), some (.int e12.2.2.2.2.1), some (.int e12.2.2.2.2.2.1), some (.int e12.2.2.2.2.2.2.1), some (.int e12.2.2.2.2.2.2.2), none, none, none, none, none]) (fun _ => []) (fun s20 => eh_FV s20) (fun s20 => ?_)
      exact es_ret rfl rfl rfl ⟨by decide +kernel, rfl⟩ (Nat.le_refl _) (Nat.le_refl _)
    · refine es_blk (pc' := 186) (L' := [some (.ref th), some (.int t11.1), some (.int t11.2.1), some (.int t11.2.2.1), some (.int t11.2.2.2.1), some (.int t11.2.2.2.2.1), some (.int t11.2.2.2.2.2.1), some (.int t11.2.2.2.2.2.2.1), some (.int t11.2.2.2.2.2.2.2.1), some (.int t11.2.2.2.2.2.2.2.2), none, none, none, none]) (st' := [.int 64, .int t11.2.2.2.2.2.2.2.2]) [(.iload 9, 0), (.bipush 64, 64)] (by decide +kernel) rfl rfl ?_
      refine es_ige (tgt := 346) (off := (160)) (by decide +kernel) (by decide) (fun h23 => ?_) (fun h23 => ?_)
      · refine es_blk (pc' := 226) (L' := [some (.ref th), some (.int t11.1), some (.int t11.2.1), some (.int t11.2.2.1), some (.int t11.2.2.2.1), some (.int t11.2.2.2.2.1), some (.int t11.2.2.2.2.2.1), some (.int t11.2.2.2.2.2.2.1), some (.int t11.2.2.2.2.2.2.2.1), some (.int t11.2.2.2.2.2.2.2.2), some (.int ((((eh_ushr t11.2.2.2.2.1 6) ||| (eh_shl t11.2.2.2.2.1 26)) ^^^ ((eh_ushr t11.2.2.2.2.1 11) ||| (eh_shl t11.2.2.2.2.1 21))) ^^^ ((eh_ushr t11.2.2.2.2.1 25) ||| (eh_shl t11.2.2.2.2.1 7)))), none, none, none]) (st' := []) [(.iload 5, 0), (.bipush 6, 6), (.iushr, 0), (.iload 5, 0), (.bipush 26, 26), (.ishl, 0), (.ior, 0), (.iload 5, 0), (.bipush 11, 11), (.iushr, 0), (.iload 5, 0), (.bipush 21, 21), (.ishl, 0), (.ior, 0), (.ixor, 0), (.iload 5, 0), (.bipush 25, 25), (.iushr, 0), (.iload 5, 0), (.bipush 7, 7), (.ishl, 0), (.ior, 0), (.ixor, 0), (.istore 10, 0)] (by decide +kernel) rfl rfl ?_
        refine ef_V (fun x24 => [some (.ref th), some (.int t11.1), some (.int t11.2.1), some (.int t11.2.2.1), some (.int t11.2.2.2.1), some (.int t11.2.2.2.2.1), some (.int t11.2.2.2.2.2.1), some (.int t11.2.2.2.2.2.2.1), some (.int t11.2.2.2.2.2.2.2.1), some (.int t11.2.2.2.2.2.2.2.2), some (.int x24), none, none, none]) (fun _ => []) (fun _ => eh_FV e2) (fun x24 => ?_)
        refine es_blk (pc' := 245) (L' := [some (.ref th), some (.int t11.1), some (.int t11.2.1), some (.int t11.2.2.1), some (.int t11.2.2.2.1), some (.int t11.2.2.2.2.1), some (.int t11.2.2.2.2.2.1), some (.int t11.2.2.2.2.2.2.1), some (.int t11.2.2.2.2.2.2.2.1), some (.int t11.2.2.2.2.2.2.2.2), some (.int x24), none, none, none]) (st' := [.int ((t11.2.2.2.2.2.2.2.1 + x24) + ((t11.2.2.2.2.1 &&& t11.2.2.2.2.2.1) ^^^ ((t11.2.2.2.2.1 ^^^ (-1)) &&& t11.2.2.2.2.2.2.1)))]) [(.iload 8, 0), (.iload 10, 0), (.iadd, 0), (.iload 5, 0), (.iload 6, 0), (.iand, 0), (.iload 5, 0), (.iconst (-1), (-1)), (.ixor, 0), (.iload 7, 0), (.iand, 0), (.ixor, 0), (.iadd, 0)] (by decide +kernel) rfl rfl ?_
        refine ef_stat (i := 1) (by decide) eG_9_59 (by decide +kernel) ?_
        refine es_blk (pc' := 250) (L' := [some (.ref th), some (.int t11.1), some (.int t11.2.1), some (.int t11.2.2.1), some (.int t11.2.2.2.1), some (.int t11.2.2.2.2.1), some (.int t11.2.2.2.2.2.1), some (.int t11.2.2.2.2.2.2.1), some (.int t11.2.2.2.2.2.2.2.1), some (.int t11.2.2.2.2.2.2.2.2), some (.int x24), none, none, none]) (st' := [.int t11.2.2.2.2.2.2.2.2, .ref (eh_SB + 1), .int ((t11.2.2.2.2.2.2.2.1 + x24) + ((t11.2.2.2.2.1 &&& t11.2.2.2.2.2.1) ^^^ ((t11.2.2.2.2.1 ^^^ (-1)) &&& t11.2.2.2.2.2.2.1)))]) [(.iload 9, 0)] (by decide +kernel) rfl rfl ?_
        refine ef_tld (i := 1) (by decide) (by decide +kernel) (fun _ => ?_)
        refine es_blk (pc' := 253) (L' := [some (.ref th), some (.int t11.1), some (.int t11.2.1), some (.int t11.2.2.1), some (.int t11.2.2.2.1), some (.int t11.2.2.2.2.1), some (.int t11.2.2.2.2.2.1), some (.int t11.2.2.2.2.2.2.1), some (.int t11.2.2.2.2.2.2.2.1), some (.int t11.2.2.2.2.2.2.2.2), some (.int x24), none, none, none]) (st' := [.ref th, .int (((t11.2.2.2.2.2.2.2.1 + x24) + ((t11.2.2.2.2.1 &&& t11.2.2.2.2.2.1) ^^^ ((t11.2.2.2.2.1 ^^^ (-1)) &&& t11.2.2.2.2.2.2.1))) + (eh_tt 1 (eh_ix t11.2.2.2.2.2.2.2.2)))]) [(.iadd, 0), (.aload_n 0, 0)] (by decide +kernel) rfl rfl ?_
        refine eg_getP (k := th) (j := 1) (q := (th + 2)) (eg_S0sh hth) eL_9_13 rfl (eg_Sx hth _).2.1 (eg_S2sh hth) (by decide +kernel) ?_
        refine es_blk (pc' := 258) (L' := [some (.ref th), some (.int t11.1), some (.int t11.2.1), some (.int t11.2.2.1), some (.int t11.2.2.2.1), some (.int t11.2.2.2.2.1), some (.int t11.2.2.2.2.2.1), some (.int t11.2.2.2.2.2.2.1), some (.int t11.2.2.2.2.2.2.2.1), some (.int t11.2.2.2.2.2.2.2.2), some (.int x24), none, none, none]) (st' := [.int t11.2.2.2.2.2.2.2.2, .ref (th + 2), .int (((t11.2.2.2.2.2.2.2.1 + x24) + ((t11.2.2.2.2.1 &&& t11.2.2.2.2.2.1) ^^^ ((t11.2.2.2.2.1 ^^^ (-1)) &&& t11.2.2.2.2.2.2.1))) + (eh_tt 1 (eh_ix t11.2.2.2.2.2.2.2.2)))]) [(.iload 9, 0)] (by decide +kernel) rfl rfl ?_
        refine eg_ald (k := (th + 2)) (eg_S2sh hth) (Or.inl ⟨rfl, rfl⟩) (by decide +kernel) (fun _ => ?_)
        refine es_blk (pc' := 262) (L' := [some (.ref th), some (.int t11.1), some (.int t11.2.1), some (.int t11.2.2.1), some (.int t11.2.2.2.1), some (.int t11.2.2.2.2.1), some (.int t11.2.2.2.2.2.1), some (.int t11.2.2.2.2.2.2.1), some (.int t11.2.2.2.2.2.2.2.1), some (.int t11.2.2.2.2.2.2.2.2), some (.int x24), some (.int ((((t11.2.2.2.2.2.2.2.1 + x24) + ((t11.2.2.2.2.1 &&& t11.2.2.2.2.2.1) ^^^ ((t11.2.2.2.2.1 ^^^ (-1)) &&& t11.2.2.2.2.2.2.1))) + (eh_tt 1 (eh_ix t11.2.2.2.2.2.2.2.2))) + (e2.1 (th + 2) (eh_ix t11.2.2.2.2.2.2.2.2)))), none, none]) (st' := []) [(.iadd, 0), (.istore 11, 0)] (by decide +kernel) rfl rfl ?_
        refine ef_V (fun x25 => [some (.ref th), some (.int t11.1), some (.int t11.2.1), some (.int t11.2.2.1), some (.int t11.2.2.2.1), some (.int t11.2.2.2.2.1), some (.int t11.2.2.2.2.2.1), some (.int t11.2.2.2.2.2.2.1), some (.int t11.2.2.2.2.2.2.2.1), some (.int t11.2.2.2.2.2.2.2.2), some (.int x24), some (.int x25), none, none]) (fun _ => []) (fun _ => eh_FV e2) (fun x25 => ?_)
        refine es_blk (pc' := 292) (L' := [some (.ref th), some (.int t11.1), some (.int t11.2.1), some (.int t11.2.2.1), some (.int t11.2.2.2.1), some (.int t11.2.2.2.2.1), some (.int t11.2.2.2.2.2.1), some (.int t11.2.2.2.2.2.2.1), some (.int t11.2.2.2.2.2.2.2.1), some (.int t11.2.2.2.2.2.2.2.2), some (.int x24), some (.int x25), some (.int ((((eh_ushr t11.1 2) ||| (eh_shl t11.1 30)) ^^^ ((eh_ushr t11.1 13) ||| (eh_shl t11.1 19))) ^^^ ((eh_ushr t11.1 22) ||| (eh_shl t11.1 10)))), none]) (st' := []) [(.iload_n 1, 0), (.iconst 2, 2), (.iushr, 0), (.iload_n 1, 0), (.bipush 30, 30), (.ishl, 0), (.ior, 0), (.iload_n 1, 0), (.bipush 13, 13), (.iushr, 0), (.iload_n 1, 0), (.bipush 19, 19), (.ishl, 0), (.ior, 0), (.ixor, 0), (.iload_n 1, 0), (.bipush 22, 22), (.iushr, 0), (.iload_n 1, 0), (.bipush 10, 10), (.ishl, 0), (.ior, 0), (.ixor, 0), (.istore 12, 0)] (by decide +kernel) rfl rfl ?_
        refine ef_V (fun x26 => [some (.ref th), some (.int t11.1), some (.int t11.2.1), some (.int t11.2.2.1), some (.int t11.2.2.2.1), some (.int t11.2.2.2.2.1), some (.int t11.2.2.2.2.2.1), some (.int t11.2.2.2.2.2.2.1), some (.int t11.2.2.2.2.2.2.2.1), some (.int t11.2.2.2.2.2.2.2.2), some (.int x24), some (.int x25), some (.int x26), none]) (fun _ => []) (fun _ => eh_FV e2) (fun x26 => ?_)
        refine es_blk (pc' := 308) (L' := [some (.ref th), some (.int t11.1), some (.int t11.2.1), some (.int t11.2.2.1), some (.int t11.2.2.2.1), some (.int t11.2.2.2.2.1), some (.int t11.2.2.2.2.2.1), some (.int t11.2.2.2.2.2.2.1), some (.int t11.2.2.2.2.2.2.2.1), some (.int t11.2.2.2.2.2.2.2.2), some (.int x24), some (.int x25), some (.int x26), some (.int (x26 + (((t11.1 &&& t11.2.1) ^^^ (t11.1 &&& t11.2.2.1)) ^^^ (t11.2.1 &&& t11.2.2.1))))]) (st' := []) [(.iload 12, 0), (.iload_n 1, 0), (.iload_n 2, 0), (.iand, 0), (.iload_n 1, 0), (.iload_n 3, 0), (.iand, 0), (.ixor, 0), (.iload_n 2, 0), (.iload_n 3, 0), (.iand, 0), (.ixor, 0), (.iadd, 0), (.istore 13, 0)] (by decide +kernel) rfl rfl ?_
        refine ef_V (fun x27 => [some (.ref th), some (.int t11.1), some (.int t11.2.1), some (.int t11.2.2.1), some (.int t11.2.2.2.1), some (.int t11.2.2.2.2.1), some (.int t11.2.2.2.2.2.1), some (.int t11.2.2.2.2.2.2.1), some (.int t11.2.2.2.2.2.2.2.1), some (.int t11.2.2.2.2.2.2.2.2), some (.int x24), some (.int x25), some (.int x26), some (.int x27)]) (fun _ => []) (fun _ => eh_FV e2) (fun x27 => ?_)
        refine es_blk (pc' := 327) (L' := [some (.ref th), some (.int t11.1), some (.int t11.2.1), some (.int t11.2.2.1), some (.int t11.2.2.2.1), some (.int (t11.2.2.2.1 + x25)), some (.int t11.2.2.2.2.1), some (.int t11.2.2.2.2.2.1), some (.int t11.2.2.2.2.2.2.1), some (.int t11.2.2.2.2.2.2.2.2), some (.int x24), some (.int x25), some (.int x26), some (.int x27)]) (st' := []) [(.iload 7, 0), (.istore 8, 0), (.iload 6, 0), (.istore 7, 0), (.iload 5, 0), (.istore 6, 0), (.iload 4, 0), (.iload 11, 0), (.iadd, 0), (.istore 5, 0)] (by decide +kernel) rfl rfl ?_
        refine ef_V (fun x28 => [some (.ref th), some (.int t11.1), some (.int t11.2.1), some (.int t11.2.2.1), some (.int t11.2.2.2.1), some (.int x28), some (.int t11.2.2.2.2.1), some (.int t11.2.2.2.2.2.1), some (.int t11.2.2.2.2.2.2.1), some (.int t11.2.2.2.2.2.2.2.2), some (.int x24), some (.int x25), some (.int x26), some (.int x27)]) (fun _ => []) (fun _ => eh_FV e2) (fun x28 => ?_)
        refine es_blk (pc' := 340) (L' := [some (.ref th), some (.int (x25 + x27)), some (.int t11.1), some (.int t11.2.1), some (.int t11.2.2.1), some (.int x28), some (.int t11.2.2.2.2.1), some (.int t11.2.2.2.2.2.1), some (.int t11.2.2.2.2.2.2.1), some (.int t11.2.2.2.2.2.2.2.2), some (.int x24), some (.int x25), some (.int x26), some (.int x27)]) (st' := []) [(.iload_n 3, 0), (.istore 4, 0), (.iload_n 2, 0), (.istore_n 3, 0), (.iload_n 1, 0), (.istore_n 2, 0), (.iload 11, 0), (.iload 13, 0), (.iadd, 0), (.istore_n 1, 0)] (by decide +kernel) rfl rfl ?_
        refine ef_V (fun x29 => [some (.ref th), some (.int x29), some (.int t11.1), some (.int t11.2.1), some (.int t11.2.2.1), some (.int x28), some (.int t11.2.2.2.2.1), some (.int t11.2.2.2.2.2.1), some (.int t11.2.2.2.2.2.2.1), some (.int t11.2.2.2.2.2.2.2.2), some (.int x24), some (.int x25), some (.int x26), some (.int x27)]) (fun _ => []) (fun _ => eh_FV e2) (fun x29 => ?_)
        refine es_blk (pc' := 343) (L' := [some (.ref th), some (.int x29), some (.int t11.1), some (.int t11.2.1), some (.int t11.2.2.1), some (.int x28), some (.int t11.2.2.2.2.1), some (.int t11.2.2.2.2.2.1), some (.int t11.2.2.2.2.2.2.1), some (.int (t11.2.2.2.2.2.2.2.2 + 1)), some (.int x24), some (.int x25), some (.int x26), some (.int x27)]) (st' := []) [(.iinc 9 1, 1)] (by decide +kernel) rfl rfl ?_
        refine ef_V (fun x30 => [some (.ref th), some (.int x29), some (.int t11.1), some (.int t11.2.1), some (.int t11.2.2.1), some (.int x28), some (.int t11.2.2.2.2.1), some (.int t11.2.2.2.2.2.1), some (.int t11.2.2.2.2.2.2.1), some (.int x30), some (.int x24), some (.int x25), some (.int x26), some (.int x27)]) (fun _ => []) (fun _ => eh_FV e2) (fun x30 => ?_)
        refine es_goto (tgt := 182) (off := (-161)) (by decide +kernel) (by decide) ?_
        refine ef_drop (L2 := [some (.ref th), some (.int x29), some (.int t11.1), some (.int t11.2.1), some (.int t11.2.2.1), some (.int x28), some (.int t11.2.2.2.2.1), some (.int t11.2.2.2.2.2.1), some (.int t11.2.2.2.2.2.2.1), some (.int x30), none, none, none, none]) [true, true, true, true, true, true, true, true, true, true, false, false, false, false] rfl rfl ?_
        exact Hr22 (x29, t11.1, t11.2.1, t11.2.2.1, x28, t11.2.2.2.2.1, t11.2.2.2.2.2.1, t11.2.2.2.2.2.2.1, x30)
      refine ef_drop (L2 := [some (.ref th), some (.int t11.1), some (.int t11.2.1), some (.int t11.2.2.1), some (.int t11.2.2.2.1), some (.int t11.2.2.2.2.1), some (.int t11.2.2.2.2.2.1), some (.int t11.2.2.2.2.2.2.1), some (.int t11.2.2.2.2.2.2.2.1), none, none, none, none, none]) [true, true, true, true, true, true, true, true, true, false, true, true, true, true] rfl rfl ?_
      exact HxK21_0 (t11.1, t11.2.1, t11.2.2.1, t11.2.2.2.1, t11.2.2.2.2.1, t11.2.2.2.2.2.1, t11.2.2.2.2.2.2.1, t11.2.2.2.2.2.2.2.1)
  · refine es_blk (pc' := 6) (L' := [some (.ref th), some (.int t1.1), none, none, none, none, none, none, none, none, none, none, none, none]) (st' := [.int 64, .int t1.1]) [(.iload_n 1, 0), (.bipush 64, 64)] (by decide +kernel) rfl rfl ?_
    refine es_ige (tgt := 116) (off := (110)) (by decide +kernel) (by decide) (fun h33 => ?_) (fun h33 => ?_)
    · refine es_blk (pc' := 10) (L' := [some (.ref th), some (.int t1.1), none, none, none, none, none, none, none, none, none, none, none, none]) (st' := [.ref th]) [(.aload_n 0, 0)] (by decide +kernel) rfl rfl ?_
      refine eg_getP (k := th) (j := 1) (q := (th + 2)) (eg_S0sh hth) eL_9_13 rfl (eg_Sx hth _).2.1 (eg_S2sh hth) (by decide +kernel) ?_
      refine es_blk (pc' := 17) (L' := [some (.ref th), some (.int t1.1), none, none, none, none, none, none, none, none, none, none, none, none]) (st' := [.int (t1.1 - 15), .ref (th + 2)]) [(.iload_n 1, 0), (.bipush 15, 15), (.isub, 0)] (by decide +kernel) rfl rfl ?_
      refine eg_ald (k := (th + 2)) (eg_S2sh hth) (Or.inl ⟨rfl, rfl⟩) (by decide +kernel) (fun _ => ?_)
      refine es_blk (pc' := 19) (L' := [some (.ref th), some (.int t1.1), some (.int (t1.2.1 (th + 2) (eh_ix (t1.1 - 15)))), none, none, none, none, none, none, none, none, none, none, none]) (st' := []) [(.istore_n 2, 0)] (by decide +kernel) rfl rfl ?_
      refine ef_V (fun x34 => [some (.ref th), some (.int t1.1), some (.int x34), none, none, none, none, none, none, none, none, none, none, none]) (fun _ => []) (fun _ => eh_FV t1.2) (fun x34 => ?_)
      refine es_blk (pc' := 20) (L' := [some (.ref th), some (.int t1.1), some (.int x34), none, none, none, none, none, none, none, none, none, none, none]) (st' := [.ref th]) [(.aload_n 0, 0)] (by decide +kernel) rfl rfl ?_
      refine eg_getP (k := th) (j := 1) (q := (th + 2)) (eg_S0sh hth) eL_9_13 rfl (eg_Sx hth _).2.1 (eg_S2sh hth) (by decide +kernel) ?_
      refine es_blk (pc' := 26) (L' := [some (.ref th), some (.int t1.1), some (.int x34), none, none, none, none, none, none, none, none, none, none, none]) (st' := [.int (t1.1 - 2), .ref (th + 2)]) [(.iload_n 1, 0), (.iconst 2, 2), (.isub, 0)] (by decide +kernel) rfl rfl ?_
      refine eg_ald (k := (th + 2)) (eg_S2sh hth) (Or.inl ⟨rfl, rfl⟩) (by decide +kernel) (fun _ => ?_)
      refine es_blk (pc' := 28) (L' := [some (.ref th), some (.int t1.1), some (.int x34), some (.int (t1.2.1 (th + 2) (eh_ix (t1.1 - 2)))), none, none, none, none, none, none, none, none, none, none]) (st' := []) [(.istore_n 3, 0)] (by decide +kernel) rfl rfl ?_
      refine ef_V (fun x35 => [some (.ref th), some (.int t1.1), some (.int x34), some (.int x35), none, none, none, none, none, none, none, none, none, none]) (fun _ => []) (fun _ => eh_FV t1.2) (fun x35 => ?_)
      refine es_blk (pc' := 53) (L' := [some (.ref th), some (.int t1.1), some (.int x34), some (.int x35), some (.int ((((eh_ushr x34 7) ||| (eh_shl x34 25)) ^^^ ((eh_ushr x34 18) ||| (eh_shl x34 14))) ^^^ (eh_ushr x34 3))), none, none, none, none, none, none, none, none, none]) (st' := []) [(.iload_n 2, 0), (.bipush 7, 7), (.iushr, 0), (.iload_n 2, 0), (.bipush 25, 25), (.ishl, 0), (.ior, 0), (.iload_n 2, 0), (.bipush 18, 18), (.iushr, 0), (.iload_n 2, 0), (.bipush 14, 14), (.ishl, 0), (.ior, 0), (.ixor, 0), (.iload_n 2, 0), (.iconst 3, 3), (.iushr, 0), (.ixor, 0), (.istore 4, 0)] (by decide +kernel) rfl rfl ?_
      refine ef_V (fun x36 => [some (.ref th), some (.int t1.1), some (.int x34), some (.int x35), some (.int x36), none, none, none, none, none, none, none, none, none]) (fun _ => []) (fun _ => eh_FV t1.2) (fun x36 => ?_)
      refine es_blk (pc' := 79) (L' := [some (.ref th), some (.int t1.1), some (.int x34), some (.int x35), some (.int x36), some (.int ((((eh_ushr x35 17) ||| (eh_shl x35 15)) ^^^ ((eh_ushr x35 19) ||| (eh_shl x35 13))) ^^^ (eh_ushr x35 10))), none, none, none, none, none, none, none, none]) (st' := []) [(.iload_n 3, 0), (.bipush 17, 17), (.iushr, 0), (.iload_n 3, 0), (.bipush 15, 15), (.ishl, 0), (.ior, 0), (.iload_n 3, 0), (.bipush 19, 19), (.iushr, 0), (.iload_n 3, 0), (.bipush 13, 13), (.ishl, 0), (.ior, 0), (.ixor, 0), (.iload_n 3, 0), (.bipush 10, 10), (.iushr, 0), (.ixor, 0), (.istore 5, 0)] (by decide +kernel) rfl rfl ?_
      refine ef_V (fun x37 => [some (.ref th), some (.int t1.1), some (.int x34), some (.int x35), some (.int x36), some (.int x37), none, none, none, none, none, none, none, none]) (fun _ => []) (fun _ => eh_FV t1.2) (fun x37 => ?_)
      refine es_blk (pc' := 80) (L' := [some (.ref th), some (.int t1.1), some (.int x34), some (.int x35), some (.int x36), some (.int x37), none, none, none, none, none, none, none, none]) (st' := [.ref th]) [(.aload_n 0, 0)] (by decide +kernel) rfl rfl ?_
      refine eg_getP (k := th) (j := 1) (q := (th + 2)) (eg_S0sh hth) eL_9_13 rfl (eg_Sx hth _).2.1 (eg_S2sh hth) (by decide +kernel) ?_
      refine es_blk (pc' := 85) (L' := [some (.ref th), some (.int t1.1), some (.int x34), some (.int x35), some (.int x36), some (.int x37), none, none, none, none, none, none, none, none]) (st' := [.ref th, .int t1.1, .ref (th + 2)]) [(.iload_n 1, 0), (.aload_n 0, 0)] (by decide +kernel) rfl rfl ?_
      refine eg_getP (k := th) (j := 1) (q := (th + 2)) (eg_S0sh hth) eL_9_13 rfl (eg_Sx hth _).2.1 (eg_S2sh hth) (by decide +kernel) ?_
      refine es_blk (pc' := 92) (L' := [some (.ref th), some (.int t1.1), some (.int x34), some (.int x35), some (.int x36), some (.int x37), none, none, none, none, none, none, none, none]) (st' := [.int (t1.1 - 16), .ref (th + 2), .int t1.1, .ref (th + 2)]) [(.iload_n 1, 0), (.bipush 16, 16), (.isub, 0)] (by decide +kernel) rfl rfl ?_
      refine eg_ald (k := (th + 2)) (eg_S2sh hth) (Or.inl ⟨rfl, rfl⟩) (by decide +kernel) (fun _ => ?_)
      refine es_blk (pc' := 97) (L' := [some (.ref th), some (.int t1.1), some (.int x34), some (.int x35), some (.int x36), some (.int x37), none, none, none, none, none, none, none, none]) (st' := [.ref th, .int ((t1.2.1 (th + 2) (eh_ix (t1.1 - 16))) + x36), .int t1.1, .ref (th + 2)]) [(.iload 4, 0), (.iadd, 0), (.aload_n 0, 0)] (by decide +kernel) rfl rfl ?_
      refine eg_getP (k := th) (j := 1) (q := (th + 2)) (eg_S0sh hth) eL_9_13 rfl (eg_Sx hth _).2.1 (eg_S2sh hth) (by decide +kernel) ?_
      refine es_blk (pc' := 104) (L' := [some (.ref th), some (.int t1.1), some (.int x34), some (.int x35), some (.int x36), some (.int x37), none, none, none, none, none, none, none, none]) (st' := [.int (t1.1 - 7), .ref (th + 2), .int ((t1.2.1 (th + 2) (eh_ix (t1.1 - 16))) + x36), .int t1.1, .ref (th + 2)]) [(.iload_n 1, 0), (.bipush 7, 7), (.isub, 0)] (by decide +kernel) rfl rfl ?_
      refine eg_ald (k := (th + 2)) (eg_S2sh hth) (Or.inl ⟨rfl, rfl⟩) (by decide +kernel) (fun _ => ?_)
      refine es_blk (pc' := 109) (L' := [some (.ref th), some (.int t1.1), some (.int x34), some (.int x35), some (.int x36), some (.int x37), none, none, none, none, none, none, none, none]) (st' := [.int ((((t1.2.1 (th + 2) (eh_ix (t1.1 - 16))) + x36) + (t1.2.1 (th + 2) (eh_ix (t1.1 - 7)))) + x37), .int t1.1, .ref (th + 2)]) [(.iadd, 0), (.iload 5, 0), (.iadd, 0)] (by decide +kernel) rfl rfl ?_
      refine eg_ast (k := (th + 2)) (eg_S2sh hth) (by decide +kernel) (fun _ => ?_)
      refine ef_V (fun _ => [some (.ref th), some (.int t1.1), some (.int x34), some (.int x35), some (.int x36), some (.int x37), none, none, none, none, none, none, none, none]) (fun _ => []) (fun s38 => eh_FV s38) (fun s38 => ?_)
      refine es_blk (pc' := 113) (L' := [some (.ref th), some (.int (t1.1 + 1)), some (.int x34), some (.int x35), some (.int x36), some (.int x37), none, none, none, none, none, none, none, none]) (st' := []) [(.iinc 1 1, 1)] (by decide +kernel) rfl rfl ?_
      refine ef_V (fun x39 => [some (.ref th), some (.int x39), some (.int x34), some (.int x35), some (.int x36), some (.int x37), none, none, none, none, none, none, none, none]) (fun _ => []) (fun _ => eh_FV s38) (fun x39 => ?_)
      refine es_goto (tgt := 3) (off := (-110)) (by decide +kernel) (by decide) ?_
      refine ef_drop (L2 := [some (.ref th), some (.int x39), none, none, none, none, none, none, none, none, none, none, none, none]) [true, true, false, false, false, false, true, true, true, true, true, true, true, true] rfl rfl ?_
      exact Hr32 (x39, s38)
    refine ef_drop (L2 := [some (.ref th), none, none, none, none, none, none, none, none, none, none, none, none, none]) [true, false, true, true, true, true, true, true, true, true, true, true, true, true] rfl rfl ?_
    exact HxK31_0 t1.2
set_option maxHeartbeats 4000000 in
set_option maxRecDepth 100000 in
theorem eT_9_clearBlockFrom (g : eh_P) (s : eh_F) (th : Nat) (p0 : Int32) (hth : eh_okS th = true) : eh_Sim g eM_9_clearBlockFrom (eh_R 1 0 0) eg_eV 0 0 0 (eh_en 3 [.ref th, .int p0]) [] (eh_FV s) (eF_9_clearBlockFrom s th p0) := by
  unfold eF_9_clearBlockFrom
  refine ef_top (L := [some (.ref th), some (.int p0), none]) rfl ?_
  refine es_blk (pc' := 2) (L' := [some (.ref th), some (.int p0), some (.int p0)]) (st' := []) [(.iload_n 1, 0), (.istore_n 2, 0)] (by decide +kernel) rfl rfl ?_
  refine ef_drop (L2 := [some (.ref th), none, some (.int p0)]) [true, false, true] rfl rfl ?_
  refine ef_loop1 (n := eh_FU) (i := (p0, s)) (px := 25) (fun (t1 : Int32 × eh_F) => [some (.ref th), none, some (.int t1.1)]) (fun (t1 : Int32 × eh_F) => []) (fun (t1 : Int32 × eh_F) => eh_FV t1.2) (fun (e2 : eh_F) => [none, none, none]) (fun (e2 : eh_F) => []) (fun (e2 : eh_F) => eh_FV e2) (fun e2 => ?_) (fun K3 HxK3_0 r4 Hr4 t1 => ?_)
  · exact es_ret rfl rfl rfl ⟨by decide +kernel, rfl⟩ (Nat.le_refl _) (Nat.le_refl _)
  · refine es_blk (pc' := 3) (L' := [some (.ref th), none, some (.int t1.1)]) (st' := [.int t1.1]) [(.iload_n 2, 0)] (by decide +kernel) rfl rfl ?_
    refine es_lt (tgt := 25) (off := (22)) (by decide +kernel) (by decide) (fun h5 => ?_) (fun h5 => ?_)
    · refine ef_drop (L2 := [none, none, none]) [false, true, false] rfl rfl ?_
      exact HxK3_0 t1.2
    refine es_blk (pc' := 9) (L' := [some (.ref th), none, some (.int t1.1)]) (st' := [.int 16, .int t1.1]) [(.iload_n 2, 0), (.bipush 16, 16)] (by decide +kernel) rfl rfl ?_
    refine es_ige (tgt := 25) (off := (16)) (by decide +kernel) (by decide) (fun h6 => ?_) (fun h6 => ?_)
    · refine es_blk (pc' := 13) (L' := [some (.ref th), none, some (.int t1.1)]) (st' := [.ref th]) [(.aload_n 0, 0)] (by decide +kernel) rfl rfl ?_
      refine eg_getP (k := th) (j := 1) (q := (th + 2)) (eg_S0sh hth) eL_9_13 rfl (eg_Sx hth _).2.1 (eg_S2sh hth) (by decide +kernel) ?_
      refine es_blk (pc' := 18) (L' := [some (.ref th), none, some (.int t1.1)]) (st' := [.int 0, .int t1.1, .ref (th + 2)]) [(.iload_n 2, 0), (.iconst 0, 0)] (by decide +kernel) rfl rfl ?_
      refine eg_ast (k := (th + 2)) (eg_S2sh hth) (by decide +kernel) (fun _ => ?_)
      refine ef_V (fun _ => [some (.ref th), none, some (.int t1.1)]) (fun _ => []) (fun s7 => eh_FV s7) (fun s7 => ?_)
      refine es_blk (pc' := 22) (L' := [some (.ref th), none, some (.int (t1.1 + 1))]) (st' := []) [(.iinc 2 1, 1)] (by decide +kernel) rfl rfl ?_
      refine ef_V (fun x8 => [some (.ref th), none, some (.int x8)]) (fun _ => []) (fun _ => eh_FV s7) (fun x8 => ?_)
      refine es_goto (tgt := 2) (off := (-20)) (by decide +kernel) (by decide) ?_
      exact Hr4 (x8, s7)
    refine ef_drop (L2 := [none, none, none]) [false, true, false] rfl rfl ?_
    exact HxK3_0 t1.2
set_option maxHeartbeats 4000000 in
set_option maxRecDepth 100000 in
theorem eT_23_fill (g : eh_P) (s : eh_F) (p0 np0 : Nat) (p1 : Int32) (hp0 : eh_SG[p0]? = some (100, np0)) : eh_Sim g eM_23_fill (eh_R 1 0 0) eg_eV 0 0 0 (eh_en 4 [.ref p0, .int p1]) [] (eh_FV s) (eF_23_fill s p0 np0 p1) := by
  unfold eF_23_fill
  refine ef_top (L := [some (.ref p0), some (.int p1), none, none]) rfl ?_
  refine es_blk (pc' := 3) (L' := [some (.ref p0), some (.int p1), some (.int 0), none]) (st' := [.ref p0]) [(.iconst 0, 0), (.istore_n 2, 0), (.aload_n 0, 0)] (by decide +kernel) rfl rfl ?_
  refine eg_alen (k := p0) hp0 (by decide) (by decide +kernel) ?_
  refine es_blk (pc' := 5) (L' := [some (.ref p0), some (.int p1), some (.int 0), some (.int (Int32.ofNat np0))]) (st' := []) [(.istore_n 3, 0)] (by decide +kernel) rfl rfl ?_
  refine ef_V (fun x1 => [some (.ref p0), some (.int p1), some (.int 0), some (.int x1)]) (fun _ => []) (fun _ => eh_FV s) (fun x1 => ?_)
  refine ef_loop1 (n := eh_FU) (i := (0, s)) (px := 20) (fun (t2 : Int32 × eh_F) => [some (.ref p0), some (.int p1), some (.int t2.1), some (.int x1)]) (fun (t2 : Int32 × eh_F) => []) (fun (t2 : Int32 × eh_F) => eh_FV t2.2) (fun (e3 : eh_F) => [none, none, none, none]) (fun (e3 : eh_F) => []) (fun (e3 : eh_F) => eh_FV e3) (fun e3 => ?_) (fun K4 HxK4_0 r5 Hr5 t2 => ?_)
  · exact es_ret rfl rfl rfl ⟨by decide +kernel, rfl⟩ (Nat.le_refl _) (Nat.le_refl _)
  · refine es_blk (pc' := 7) (L' := [some (.ref p0), some (.int p1), some (.int t2.1), some (.int x1)]) (st' := [.int x1, .int t2.1]) [(.iload_n 2, 0), (.iload_n 3, 0)] (by decide +kernel) rfl rfl ?_
    refine es_ige (tgt := 20) (off := (13)) (by decide +kernel) (by decide) (fun h6 => ?_) (fun h6 => ?_)
    · refine es_blk (pc' := 13) (L' := [some (.ref p0), some (.int p1), some (.int t2.1), some (.int x1)]) (st' := [.int p1, .int t2.1, .ref p0]) [(.aload_n 0, 0), (.iload_n 2, 0), (.iload_n 1, 0)] (by decide +kernel) rfl rfl ?_
      refine eg_ast (k := p0) hp0 (by decide +kernel) (fun _ => ?_)
      refine ef_V (fun _ => [some (.ref p0), some (.int p1), some (.int t2.1), some (.int x1)]) (fun _ => []) (fun s7 => eh_FV s7) (fun s7 => ?_)
      refine es_blk (pc' := 17) (L' := [some (.ref p0), some (.int p1), some (.int (t2.1 + 1)), some (.int x1)]) (st' := []) [(.iinc 2 1, 1)] (by decide +kernel) rfl rfl ?_
      refine ef_V (fun x8 => [some (.ref p0), some (.int p1), some (.int x8), some (.int x1)]) (fun _ => []) (fun _ => eh_FV s7) (fun x8 => ?_)
      refine es_goto (tgt := 5) (off := (-12)) (by decide +kernel) (by decide) ?_
      exact Hr5 (x8, s7)
    refine ef_drop (L2 := [none, none, none, none]) [false, false, false, false] rfl rfl ?_
    exact HxK4_0 t2.2
set_option maxHeartbeats 4000000 in
set_option maxRecDepth 100000 in
theorem eT_0_givePath (g : eh_P) (s : eh_F) (p0 : Int32) : eh_Sim g eM_0_givePath (eh_R 2 0 0) eg_eV 0 0 0 (eh_en 2 [.ref 12, .int p0]) [] (eh_FV s) (eF_0_givePath s p0) := by
  unfold eF_0_givePath
  refine ef_top (L := [some (.ref 12), some (.int p0)]) rfl ?_
  refine es_blk (pc' := 2) (L' := [some (.ref 12), some (.int p0)]) (st' := [.int p0, .ref 12]) [(.aload_n 0, 0), (.iload_n 1, 0)] (by decide +kernel) rfl rfl ?_
  refine eg_putI (k := 12) (j := 14) rfl eL_0_69 rfl rfl (by decide +kernel) ?_
  refine ef_V (fun _ => [some (.ref 12), some (.int p0)]) (fun _ => []) (fun s1 => eh_FV s1) (fun s1 => ?_)
  refine es_blk (pc' := 6) (L' := [some (.ref 12), some (.int p0)]) (st' := [.ref 12]) [(.aload_n 0, 0)] (by decide +kernel) rfl rfl ?_
  refine eg_getP (k := 12) (j := 12) (q := 22) rfl eL_0_40 rfl rfl rfl (by decide +kernel) ?_
  refine eg_veV (d := 1) (k := 22) (As := []) (st := []) eV_8_clear eK_0_63 (eT_8_clear g s1 22 rfl) rfl rfl (Nat.le_of_ble_eq_true rfl) rfl (Nat.le_of_ble_eq_true rfl) ⟨Nat.le_of_ble_eq_true rfl, Nat.le_of_ble_eq_true rfl⟩ ⟨Nat.le_refl _, Nat.le_refl _⟩ (by decide +kernel) (fun q2 _ => ?_)
  refine es_blk (pc' := 13) (L' := [some (.ref 12), some (.int p0)]) (st' := [.ref 12]) [(.aload_n 0, 0)] (by decide +kernel) rfl rfl ?_
  refine eg_getP (k := 12) (j := 13) (q := 24) rfl eL_0_43 rfl rfl rfl (by decide +kernel) ?_
  refine eg_veV (d := 1) (k := 24) (As := []) (st := []) eV_8_clear eK_0_63 (eT_8_clear g q2 24 rfl) rfl rfl (Nat.le_of_ble_eq_true rfl) rfl (Nat.le_of_ble_eq_true rfl) ⟨Nat.le_of_ble_eq_true rfl, Nat.le_of_ble_eq_true rfl⟩ ⟨Nat.le_refl _, Nat.le_refl _⟩ (by decide +kernel) (fun q3 _ => ?_)
  exact es_ret rfl rfl rfl ⟨by decide +kernel, rfl⟩ (Nat.le_refl _) (Nat.le_refl _)
set_option maxHeartbeats 4000000 in
set_option maxRecDepth 100000 in
theorem eT_4_restart (g : eh_P) (s : eh_F) (th : Nat) (hth : eh_okH th = true) : eh_Sim g eM_4_restart (eh_R 2 0 0) eg_eV 0 0 0 (eh_en 1 [.ref th]) [] (eh_FV s) (eF_4_restart s th) := by
  unfold eF_4_restart
  refine ef_top (L := [some (.ref th)]) rfl ?_
  refine es_blk (pc' := 1) (L' := [some (.ref th)]) (st' := [.ref th]) [(.aload_n 0, 0)] (by decide +kernel) rfl rfl ?_
  refine eg_getP (k := th) (j := 1) (q := (th + 1)) (eg_H0sh hth) eL_4_9 rfl (eg_Hx hth _) (eg_H1sh hth) (by decide +kernel) ?_
  refine es_blk (pc' := 5) (L' := [some (.ref th)]) (st' := [.int 0, .ref (th + 1)]) [(.iconst 0, 0)] (by decide +kernel) rfl rfl ?_
  refine eg_seV (d := 1) (As := [.ref (th + 1), .int 0]) (st := []) eV_23_fill eK_4_19 (eT_23_fill g s (th + 1) 32 0 (eg_H1sh hth)) rfl (Nat.le_of_ble_eq_true rfl) rfl (Nat.le_of_ble_eq_true rfl) ⟨Nat.le_of_ble_eq_true rfl, Nat.le_of_ble_eq_true rfl⟩ ⟨Nat.le_refl _, Nat.le_refl _⟩ (by decide +kernel) (fun q1 _ => ?_)
  refine es_blk (pc' := 10) (L' := [some (.ref th)]) (st' := [.int 0, .ref th]) [(.aload_n 0, 0), (.iconst 0, 0)] (by decide +kernel) rfl rfl ?_
  refine eg_putI (k := th) (j := 2) (eg_H0sh hth) eL_4_25 rfl rfl (by decide +kernel) ?_
  refine ef_V (fun _ => [some (.ref th)]) (fun _ => []) (fun s2 => eh_FV s2) (fun s2 => ?_)
  refine es_blk (pc' := 15) (L' := [some (.ref th)]) (st' := [.int 1, .ref th]) [(.aload_n 0, 0), (.iconst 1, 1)] (by decide +kernel) rfl rfl ?_
  refine eg_putI (k := th) (j := 3) (eg_H0sh hth) eL_4_28 rfl rfl (by decide +kernel) ?_
  refine ef_V (fun _ => [some (.ref th)]) (fun _ => []) (fun s3 => eh_FV s3) (fun s3 => ?_)
  refine es_blk (pc' := 20) (L' := [some (.ref th)]) (st' := [.int 0, .ref th]) [(.aload_n 0, 0), (.iconst 0, 0)] (by decide +kernel) rfl rfl ?_
  refine eg_putZc (k := th) (j := 4) (eg_H0sh hth) eL_4_31 rfl rfl (by decide) (by decide +kernel) ?_
  refine ef_V (fun _ => [some (.ref th)]) (fun _ => []) (fun s4 => eh_FV s4) (fun s4 => ?_)
  refine es_blk (pc' := 25) (L' := [some (.ref th)]) (st' := [.int (-1), .ref th]) [(.aload_n 0, 0), (.iconst (-1), (-1))] (by decide +kernel) rfl rfl ?_
  refine eg_putI (k := th) (j := 5) (eg_H0sh hth) eL_4_35 rfl rfl (by decide +kernel) ?_
  refine ef_V (fun _ => [some (.ref th)]) (fun _ => []) (fun s5 => eh_FV s5) (fun s5 => ?_)
  refine es_blk (pc' := 30) (L' := [some (.ref th)]) (st' := [.int 0, .ref th]) [(.aload_n 0, 0), (.iconst 0, 0)] (by decide +kernel) rfl rfl ?_
  refine eg_putI (k := th) (j := 6) (eg_H0sh hth) eL_4_38 rfl rfl (by decide +kernel) ?_
  refine ef_V (fun _ => [some (.ref th)]) (fun _ => []) (fun s6 => eh_FV s6) (fun s6 => ?_)
  refine es_blk (pc' := 35) (L' := [some (.ref th)]) (st' := [.int 0, .ref th]) [(.aload_n 0, 0), (.iconst 0, 0)] (by decide +kernel) rfl rfl ?_
  refine eg_putI (k := th) (j := 7) (eg_H0sh hth) eL_4_41 rfl rfl (by decide +kernel) ?_
  refine ef_V (fun _ => [some (.ref th)]) (fun _ => []) (fun s7 => eh_FV s7) (fun s7 => ?_)
  refine es_blk (pc' := 40) (L' := [some (.ref th)]) (st' := [.int 0, .ref th]) [(.aload_n 0, 0), (.iconst 0, 0)] (by decide +kernel) rfl rfl ?_
  refine eg_putI (k := th) (j := 8) (eg_H0sh hth) eL_4_44 rfl rfl (by decide +kernel) ?_
  refine ef_V (fun _ => [some (.ref th)]) (fun _ => []) (fun s8 => eh_FV s8) (fun s8 => ?_)
  refine es_blk (pc' := 45) (L' := [some (.ref th)]) (st' := [.int 0, .ref th]) [(.aload_n 0, 0), (.iconst 0, 0)] (by decide +kernel) rfl rfl ?_
  refine eg_putI (k := th) (j := 9) (eg_H0sh hth) eL_4_47 rfl rfl (by decide +kernel) ?_
  refine ef_V (fun _ => [some (.ref th)]) (fun _ => []) (fun s9 => eh_FV s9) (fun s9 => ?_)
  refine es_blk (pc' := 50) (L' := [some (.ref th)]) (st' := [.int 0, .ref th]) [(.aload_n 0, 0), (.iconst 0, 0)] (by decide +kernel) rfl rfl ?_
  refine eg_putI (k := th) (j := 10) (eg_H0sh hth) eL_4_50 rfl rfl (by decide +kernel) ?_
  refine ef_V (fun _ => [some (.ref th)]) (fun _ => []) (fun s10 => eh_FV s10) (fun s10 => ?_)
  refine es_blk (pc' := 55) (L' := [some (.ref th)]) (st' := [.int 0, .ref th]) [(.aload_n 0, 0), (.iconst 0, 0)] (by decide +kernel) rfl rfl ?_
  refine eg_putI (k := th) (j := 11) (eg_H0sh hth) eL_4_53 rfl rfl (by decide +kernel) ?_
  refine ef_V (fun _ => [some (.ref th)]) (fun _ => []) (fun s11 => eh_FV s11) (fun s11 => ?_)
  refine es_blk (pc' := 60) (L' := [some (.ref th)]) (st' := [.int 0, .ref th]) [(.aload_n 0, 0), (.iconst 0, 0)] (by decide +kernel) rfl rfl ?_
  refine eg_putI (k := th) (j := 12) (eg_H0sh hth) eL_4_56 rfl rfl (by decide +kernel) ?_
  refine ef_V (fun _ => [some (.ref th)]) (fun _ => []) (fun s12 => eh_FV s12) (fun s12 => ?_)
  refine es_blk (pc' := 65) (L' := [some (.ref th)]) (st' := [.int 0, .ref th]) [(.aload_n 0, 0), (.iconst 0, 0)] (by decide +kernel) rfl rfl ?_
  refine eg_putI (k := th) (j := 13) (eg_H0sh hth) eL_4_59 rfl rfl (by decide +kernel) ?_
  refine ef_V (fun _ => [some (.ref th)]) (fun _ => []) (fun s13 => eh_FV s13) (fun s13 => ?_)
  refine es_blk (pc' := 70) (L' := [some (.ref th)]) (st' := [.int 0, .ref th]) [(.aload_n 0, 0), (.iconst 0, 0)] (by decide +kernel) rfl rfl ?_
  refine eg_putI (k := th) (j := 14) (eg_H0sh hth) eL_4_62 rfl rfl (by decide +kernel) ?_
  refine ef_V (fun _ => [some (.ref th)]) (fun _ => []) (fun s14 => eh_FV s14) (fun s14 => ?_)
  refine es_blk (pc' := 75) (L' := [some (.ref th)]) (st' := [.int 0, .ref th]) [(.aload_n 0, 0), (.iconst 0, 0)] (by decide +kernel) rfl rfl ?_
  refine eg_putI (k := th) (j := 15) (eg_H0sh hth) eL_4_65 rfl rfl (by decide +kernel) ?_
  refine ef_V (fun _ => [some (.ref th)]) (fun _ => []) (fun s15 => eh_FV s15) (fun s15 => ?_)
  refine es_blk (pc' := 80) (L' := [some (.ref th)]) (st' := [.int 0, .ref th]) [(.aload_n 0, 0), (.iconst 0, 0)] (by decide +kernel) rfl rfl ?_
  refine eg_putI (k := th) (j := 16) (eg_H0sh hth) eL_4_68 rfl rfl (by decide +kernel) ?_
  refine ef_V (fun _ => [some (.ref th)]) (fun _ => []) (fun s16 => eh_FV s16) (fun s16 => ?_)
  refine es_blk (pc' := 85) (L' := [some (.ref th)]) (st' := [.int (-1), .ref th]) [(.aload_n 0, 0), (.iconst (-1), (-1))] (by decide +kernel) rfl rfl ?_
  refine eg_putI (k := th) (j := 17) (eg_H0sh hth) eL_4_71 rfl rfl (by decide +kernel) ?_
  refine ef_V (fun _ => [some (.ref th)]) (fun _ => []) (fun s17 => eh_FV s17) (fun s17 => ?_)
  refine es_blk (pc' := 90) (L' := [some (.ref th)]) (st' := [.int 0, .ref th]) [(.aload_n 0, 0), (.iconst 0, 0)] (by decide +kernel) rfl rfl ?_
  refine eg_putI (k := th) (j := 18) (eg_H0sh hth) eL_4_74 rfl rfl (by decide +kernel) ?_
  refine ef_V (fun _ => [some (.ref th)]) (fun _ => []) (fun s18 => eh_FV s18) (fun s18 => ?_)
  exact es_ret rfl rfl rfl ⟨by decide +kernel, rfl⟩ (Nat.le_refl _) (Nat.le_refl _)
set_option maxHeartbeats 4000000 in
set_option maxRecDepth 100000 in
theorem eT_6_clear (g : eh_P) (s : eh_F)  : eh_Sim g eM_6_clear (eh_R 2 0 0) eg_eV 0 0 0 (eh_en 1 [.ref 2]) [] (eh_FV s) (eF_6_clear s) := by
  unfold eF_6_clear
  refine ef_top (L := [some (.ref 2)]) rfl ?_
  refine es_blk (pc' := 1) (L' := [some (.ref 2)]) (st' := [.ref 2]) [(.aload_n 0, 0)] (by decide +kernel) rfl rfl ?_
  refine eg_getP (k := 2) (j := 6) (q := 9) rfl eL_6_31 rfl rfl rfl (by decide +kernel) ?_
  refine es_blk (pc' := 5) (L' := [some (.ref 2)]) (st' := [.int 0, .ref 9]) [(.iconst 0, 0)] (by decide +kernel) rfl rfl ?_
  refine eg_seV (d := 1) (As := [.ref 9, .int 0]) (st := []) eV_23_fill eK_6_40 (eT_23_fill g s 9 32768 0 rfl) rfl (Nat.le_of_ble_eq_true rfl) rfl (Nat.le_of_ble_eq_true rfl) ⟨Nat.le_of_ble_eq_true rfl, Nat.le_of_ble_eq_true rfl⟩ ⟨Nat.le_refl _, Nat.le_refl _⟩ (by decide +kernel) (fun q1 _ => ?_)
  refine es_blk (pc' := 9) (L' := [some (.ref 2)]) (st' := [.ref 2]) [(.aload_n 0, 0)] (by decide +kernel) rfl rfl ?_
  refine eg_getP (k := 2) (j := 7) (q := 10) rfl eL_6_34 rfl rfl rfl (by decide +kernel) ?_
  refine es_blk (pc' := 13) (L' := [some (.ref 2)]) (st' := [.int (-1), .ref 10]) [(.iconst (-1), (-1))] (by decide +kernel) rfl rfl ?_
  refine eg_seV (d := 1) (As := [.ref 10, .int (-1)]) (st := []) eV_23_fill eK_6_40 (eT_23_fill g q1 10 512 (-1) rfl) rfl (Nat.le_of_ble_eq_true rfl) rfl (Nat.le_of_ble_eq_true rfl) ⟨Nat.le_of_ble_eq_true rfl, Nat.le_of_ble_eq_true rfl⟩ ⟨Nat.le_refl _, Nat.le_refl _⟩ (by decide +kernel) (fun q2 _ => ?_)
  refine es_blk (pc' := 17) (L' := [some (.ref 2)]) (st' := [.ref 2]) [(.aload_n 0, 0)] (by decide +kernel) rfl rfl ?_
  refine eg_getP (k := 2) (j := 0) (q := 3) rfl eL_6_11 rfl rfl rfl (by decide +kernel) ?_
  refine es_blk (pc' := 21) (L' := [some (.ref 2)]) (st' := [.int 0, .ref 3]) [(.iconst 0, 0)] (by decide +kernel) rfl rfl ?_
  refine eg_seV (d := 1) (As := [.ref 3, .int 0]) (st := []) eV_23_fill eK_6_40 (eT_23_fill g q2 3 12 0 rfl) rfl (Nat.le_of_ble_eq_true rfl) rfl (Nat.le_of_ble_eq_true rfl) ⟨Nat.le_of_ble_eq_true rfl, Nat.le_of_ble_eq_true rfl⟩ ⟨Nat.le_refl _, Nat.le_refl _⟩ (by decide +kernel) (fun q3 _ => ?_)
  refine es_blk (pc' := 25) (L' := [some (.ref 2)]) (st' := [.ref 2]) [(.aload_n 0, 0)] (by decide +kernel) rfl rfl ?_
  refine eg_getP (k := 2) (j := 8) (q := 11) rfl eL_6_37 rfl rfl rfl (by decide +kernel) ?_
  refine es_blk (pc' := 29) (L' := [some (.ref 2)]) (st' := [.int (-1), .ref 11]) [(.iconst (-1), (-1))] (by decide +kernel) rfl rfl ?_
  refine eg_seV (d := 1) (As := [.ref 11, .int (-1)]) (st := []) eV_23_fill eK_6_40 (eT_23_fill g q3 11 2 (-1) rfl) rfl (Nat.le_of_ble_eq_true rfl) rfl (Nat.le_of_ble_eq_true rfl) ⟨Nat.le_of_ble_eq_true rfl, Nat.le_of_ble_eq_true rfl⟩ ⟨Nat.le_refl _, Nat.le_refl _⟩ (by decide +kernel) (fun q4 _ => ?_)
  exact es_ret rfl rfl rfl ⟨by decide +kernel, rfl⟩ (Nat.le_refl _) (Nat.le_refl _)
set_option maxHeartbeats 4000000 in
set_option maxRecDepth 100000 in
theorem eT_9_feedNumber (g : eh_P) (s : eh_F) (th : Nat) (p0 : Int32) (hth : eh_okS th = true) : eh_Sim g eM_9_feedNumber (eh_R 2 0 0) eg_eV 0 0 0 (eh_en 2 [.ref th, .int p0]) [] (eh_FV s) (eF_9_feedNumber s th p0) := by
  unfold eF_9_feedNumber
  refine ef_top (L := [some (.ref th), some (.int p0)]) rfl ?_
  refine es_blk (pc' := 1) (L' := [some (.ref th), some (.int p0)]) (st' := [.ref th]) [(.aload_n 0, 0)] (by decide +kernel) rfl rfl ?_
  refine eg_getP (k := th) (j := 1) (q := (th + 2)) (eg_S0sh hth) eL_9_13 rfl (eg_Sx hth _).2.1 (eg_S2sh hth) (by decide +kernel) ?_
  refine es_blk (pc' := 5) (L' := [some (.ref th), some (.int p0)]) (st' := [.ref th, .ref (th + 2)]) [(.aload_n 0, 0)] (by decide +kernel) rfl rfl ?_
  refine eg_getI (k := th) (j := 3) (eg_S0sh hth) eL_9_28 (by decide) (by decide +kernel) ?_
  refine es_blk (pc' := 14) (L' := [some (.ref th), some (.int p0)]) (st' := [.int p0, .int ((eh_shr (s.1 th 3) 2) &&& 15), .ref (th + 2)]) [(.iconst 2, 2), (.ishr, 0), (.bipush 15, 15), (.iand, 0), (.iload_n 1, 0)] (by decide +kernel) rfl rfl ?_
  refine eg_spI (d := 1) (As := [.int p0]) (st := [.int ((eh_shr (s.1 th 3) 2) &&& 15), .ref (th + 2)]) eV_9_flip eK_9_35 (eT_9_flip g s p0) rfl (Nat.le_of_ble_eq_true rfl) rfl (Nat.le_of_ble_eq_true rfl) ⟨Nat.le_of_ble_eq_true rfl, Nat.le_of_ble_eq_true rfl⟩ ⟨Nat.le_refl _, Nat.le_refl _⟩ (by decide +kernel) (fun q1 _ => ?_)
  refine eg_ast (k := (th + 2)) (eg_S2sh hth) (by decide +kernel) (fun _ => ?_)
  refine ef_V (fun _ => [some (.ref th), some (.int p0)]) (fun _ => []) (fun s2 => eh_FV s2) (fun s2 => ?_)
  refine es_blk (pc' := 20) (L' := [some (.ref th), some (.int p0)]) (st' := [.ref th, .ref th]) [(.aload_n 0, 0), (.dup, 0)] (by decide +kernel) rfl rfl ?_
  refine eg_getI (k := th) (j := 3) (eg_S0sh hth) eL_9_28 (by decide) (by decide +kernel) ?_
  refine es_blk (pc' := 25) (L' := [some (.ref th), some (.int p0)]) (st' := [.int ((s2.1 th 3) + 4), .ref th]) [(.iconst 4, 4), (.iadd, 0)] (by decide +kernel) rfl rfl ?_
  refine eg_putI (k := th) (j := 3) (eg_S0sh hth) eL_9_28 rfl rfl (by decide +kernel) ?_
  refine ef_V (fun _ => [some (.ref th), some (.int p0)]) (fun _ => []) (fun s3 => eh_FV s3) (fun s3 => ?_)
  refine es_blk (pc' := 29) (L' := [some (.ref th), some (.int p0)]) (st' := [.ref th]) [(.aload_n 0, 0)] (by decide +kernel) rfl rfl ?_
  refine eg_getI (k := th) (j := 3) (eg_S0sh hth) eL_9_28 (by decide) (by decide +kernel) ?_
  refine es_blk (pc' := 35) (L' := [some (.ref th), some (.int p0)]) (st' := [.int ((s3.1 th 3) &&& 63)]) [(.bipush 63, 63), (.iand, 0)] (by decide +kernel) rfl rfl ?_
  refine ef_J (X := fun j4 => ∀ (s5 : eh_F), eh_Sim g eM_9_feedNumber (eh_R 2 0 0) eg_eV 0 0 42 [none, none] [] (eh_FV s5) ((j4 s5).bind some)) ?_ (fun j4 Hj4 => ?_)
  · intro s5
    exact es_ret rfl rfl rfl ⟨by decide +kernel, rfl⟩ (Nat.le_refl _) (Nat.le_refl _)
  refine es_ne (tgt := 42) (off := (7)) (by decide +kernel) (by decide) (fun h6 => ?_) (fun h6 => ?_)
  · refine es_blk (pc' := 39) (L' := [some (.ref th), some (.int p0)]) (st' := [.ref th]) [(.aload_n 0, 0)] (by decide +kernel) rfl rfl ?_
    refine eg_veV (d := 1) (k := th) (As := []) (st := []) eV_9_compress eK_9_32 (eT_9_compress g s3 th hth) (eg_S0sh hth) rfl (Nat.le_of_ble_eq_true rfl) rfl (Nat.le_of_ble_eq_true rfl) ⟨Nat.le_of_ble_eq_true rfl, Nat.le_of_ble_eq_true rfl⟩ ⟨Nat.le_refl _, Nat.le_refl _⟩ (by decide +kernel) (fun q7 _ => ?_)
    refine ef_drop (L2 := [none, none]) [false, false] rfl rfl ?_
    exact Hj4 _
  refine ef_drop (L2 := [none, none]) [false, false] rfl rfl ?_
  exact Hj4 _
set_option maxHeartbeats 4000000 in
set_option maxRecDepth 100000 in
theorem eT_9_end (g : eh_P) (s : eh_F) (th : Nat) (p0 np0 : Nat) (hth : eh_okS th = true) (hp0 : eh_SG[p0]? = some (100, np0)) : eh_Sim g eM_9_end (eh_R 2 0 0) eg_eV 0 0 0 (eh_en 6 [.ref th, .ref p0]) [] (eh_FV s) (eF_9_end s th p0 np0) := by
  unfold eF_9_end
  refine ef_top (L := [some (.ref th), some (.ref p0), none, none, none, none]) rfl ?_
  refine es_blk (pc' := 1) (L' := [some (.ref th), some (.ref p0), none, none, none, none]) (st' := [.ref th]) [(.aload_n 0, 0)] (by decide +kernel) rfl rfl ?_
  refine eg_getI (k := th) (j := 3) (eg_S0sh hth) eL_9_28 (by decide) (by decide +kernel) ?_
  refine es_blk (pc' := 8) (L' := [some (.ref th), some (.ref p0), some (.int ((s.1 th 3) &&& 63)), none, none, none]) (st' := []) [(.bipush 63, 63), (.iand, 0), (.istore_n 2, 0)] (by decide +kernel) rfl rfl ?_
  refine ef_V (fun x1 => [some (.ref th), some (.ref p0), some (.int x1), none, none, none]) (fun _ => []) (fun _ => eh_FV s) (fun x1 => ?_)
  refine es_blk (pc' := 12) (L' := [some (.ref th), some (.ref p0), some (.int x1), some (.int (eh_shr x1 2)), none, none]) (st' := []) [(.iload_n 2, 0), (.iconst 2, 2), (.ishr, 0), (.istore_n 3, 0)] (by decide +kernel) rfl rfl ?_
  refine ef_V (fun x2 => [some (.ref th), some (.ref p0), some (.int x1), some (.int x2), none, none]) (fun _ => []) (fun _ => eh_FV s) (fun x2 => ?_)
  refine es_blk (pc' := 15) (L' := [some (.ref th), some (.ref p0), some (.int x1), some (.int x2), none, none]) (st' := [.int (x1 &&& 3)]) [(.iload_n 2, 0), (.iconst 3, 3), (.iand, 0)] (by decide +kernel) rfl rfl ?_
  refine ef_J (X := fun j3 => ∀ (a4 : Int32), eh_Sim g eM_9_end (eh_R 2 0 0) eg_eV 0 0 28 [some (.ref th), some (.ref p0), some (.int x1), some (.int x2), none, none] [.int a4] (eh_FV s) ((j3 a4).bind some)) ?_ (fun j3 Hj3 => ?_)
  · intro a4
    refine es_blk (pc' := 31) (L' := [some (.ref th), some (.ref p0), some (.int x1), some (.int x2), some (.int a4), none]) (st' := [.ref th]) [(.istore 4, 0), (.aload_n 0, 0)] (by decide +kernel) rfl rfl ?_
    refine eg_getP (k := th) (j := 1) (q := (th + 2)) (eg_S0sh hth) eL_9_13 rfl (eg_Sx hth _).2.1 (eg_S2sh hth) (by decide +kernel) ?_
    refine es_blk (pc' := 51) (L' := [some (.ref th), some (.ref p0), some (.int x1), some (.int x2), some (.int a4), none]) (st' := [.int (a4 ||| (eh_shl 128 (24 - (8 * (x1 &&& 3))))), .int x2, .ref (th + 2)]) [(.iload_n 3, 0), (.iload 4, 0), (.sipush 128, 128), (.bipush 24, 24), (.bipush 8, 8), (.iload_n 2, 0), (.iconst 3, 3), (.iand, 0), (.imul, 0), (.isub, 0), (.ishl, 0), (.ior, 0)] (by decide +kernel) rfl rfl ?_
    refine eg_ast (k := (th + 2)) (eg_S2sh hth) (by decide +kernel) (fun _ => ?_)
    refine ef_V (fun _ => [some (.ref th), some (.ref p0), some (.int x1), some (.int x2), some (.int a4), none]) (fun _ => []) (fun s5 => eh_FV s5) (fun s5 => ?_)
    refine es_blk (pc' := 56) (L' := [some (.ref th), some (.ref p0), some (.int x1), some (.int x2), some (.int a4), none]) (st' := [.int (x2 + 1), .ref th]) [(.aload_n 0, 0), (.iload_n 3, 0), (.iconst 1, 1), (.iadd, 0)] (by decide +kernel) rfl rfl ?_
    refine eg_veV (d := 1) (k := th) (As := [.int (x2 + 1)]) (st := []) eV_9_clearBlockFrom eK_9_43 (eT_9_clearBlockFrom g s5 th (x2 + 1) hth) (eg_S0sh hth) rfl (Nat.le_of_ble_eq_true rfl) rfl (Nat.le_of_ble_eq_true rfl) ⟨Nat.le_of_ble_eq_true rfl, Nat.le_of_ble_eq_true rfl⟩ ⟨Nat.le_refl _, Nat.le_refl _⟩ (by decide +kernel) (fun q6 _ => ?_)
    refine es_blk (pc' := 62) (L' := [some (.ref th), some (.ref p0), some (.int x1), some (.int x2), some (.int a4), none]) (st' := [.int 13, .int x2]) [(.iload_n 3, 0), (.bipush 13, 13)] (by decide +kernel) rfl rfl ?_
    refine ef_J (X := fun j7 => ∀ (s8 : eh_F), eh_Sim g eM_9_end (eh_R 2 0 0) eg_eV 0 0 74 [some (.ref th), some (.ref p0), none, none, none, none] [] (eh_FV s8) ((j7 s8).bind some)) ?_ (fun j7 Hj7 => ?_)
    · intro s8
      refine es_blk (pc' := 75) (L' := [some (.ref th), some (.ref p0), none, none, none, none]) (st' := [.ref th]) [(.aload_n 0, 0)] (by decide +kernel) rfl rfl ?_
      refine eg_getP (k := th) (j := 1) (q := (th + 2)) (eg_S0sh hth) eL_9_13 rfl (eg_Sx hth _).2.1 (eg_S2sh hth) (by decide +kernel) ?_
      refine es_blk (pc' := 81) (L' := [some (.ref th), some (.ref p0), none, none, none, none]) (st' := [.ref th, .int 14, .ref (th + 2)]) [(.bipush 14, 14), (.aload_n 0, 0)] (by decide +kernel) rfl rfl ?_
      refine eg_getI (k := th) (j := 3) (eg_S0sh hth) eL_9_28 (by decide) (by decide +kernel) ?_
      refine es_blk (pc' := 87) (L' := [some (.ref th), some (.ref p0), none, none, none, none]) (st' := [.int (eh_ushr (s8.1 th 3) 29), .int 14, .ref (th + 2)]) [(.bipush 29, 29), (.iushr, 0)] (by decide +kernel) rfl rfl ?_
      refine eg_astc (k := (th + 2)) (j := 14) (eg_S2sh hth) (by decide) rfl (by decide +kernel) ?_
      refine ef_V (fun _ => [some (.ref th), some (.ref p0), none, none, none, none]) (fun _ => []) (fun s9 => eh_FV s9) (fun s9 => ?_)
      refine es_blk (pc' := 89) (L' := [some (.ref th), some (.ref p0), none, none, none, none]) (st' := [.ref th]) [(.aload_n 0, 0)] (by decide +kernel) rfl rfl ?_
      refine eg_getP (k := th) (j := 1) (q := (th + 2)) (eg_S0sh hth) eL_9_13 rfl (eg_Sx hth _).2.1 (eg_S2sh hth) (by decide +kernel) ?_
      refine es_blk (pc' := 95) (L' := [some (.ref th), some (.ref p0), none, none, none, none]) (st' := [.ref th, .int 15, .ref (th + 2)]) [(.bipush 15, 15), (.aload_n 0, 0)] (by decide +kernel) rfl rfl ?_
      refine eg_getI (k := th) (j := 3) (eg_S0sh hth) eL_9_28 (by decide) (by decide +kernel) ?_
      refine es_blk (pc' := 100) (L' := [some (.ref th), some (.ref p0), none, none, none, none]) (st' := [.int (eh_shl (s9.1 th 3) 3), .int 15, .ref (th + 2)]) [(.iconst 3, 3), (.ishl, 0)] (by decide +kernel) rfl rfl ?_
      refine eg_astc (k := (th + 2)) (j := 15) (eg_S2sh hth) (by decide) rfl (by decide +kernel) ?_
      refine ef_V (fun _ => [some (.ref th), some (.ref p0), none, none, none, none]) (fun _ => []) (fun s10 => eh_FV s10) (fun s10 => ?_)
      refine es_blk (pc' := 102) (L' := [some (.ref th), some (.ref p0), none, none, none, none]) (st' := [.ref th]) [(.aload_n 0, 0)] (by decide +kernel) rfl rfl ?_
      refine eg_veV (d := 1) (k := th) (As := []) (st := []) eV_9_compress eK_9_32 (eT_9_compress g s10 th hth) (eg_S0sh hth) rfl (Nat.le_of_ble_eq_true rfl) rfl (Nat.le_of_ble_eq_true rfl) ⟨Nat.le_of_ble_eq_true rfl, Nat.le_of_ble_eq_true rfl⟩ ⟨Nat.le_refl _, Nat.le_refl _⟩ (by decide +kernel) (fun q11 _ => ?_)
      refine es_blk (pc' := 108) (L' := [some (.ref th), some (.ref p0), none, none, none, some (.int 0)]) (st' := []) [(.iconst 0, 0), (.istore 5, 0)] (by decide +kernel) rfl rfl ?_
      refine ef_loop1 (n := eh_FU) (i := (0, q11)) (px := 139) (fun (t12 : Int32 × eh_F) => [some (.ref th), some (.ref p0), none, none, none, some (.int t12.1)]) (fun (t12 : Int32 × eh_F) => []) (fun (t12 : Int32 × eh_F) => eh_FV t12.2) (fun (e13 : eh_F) => [none, none, none, none, none, none]) (fun (e13 : eh_F) => []) (fun (e13 : eh_F) => eh_FV e13) (fun e13 => ?_) (fun K14 HxK14_0 r15 Hr15 t12 => ?_)
      · exact es_ret rfl rfl rfl ⟨by decide +kernel, rfl⟩ (Nat.le_refl _) (Nat.le_refl _)
      · refine es_blk (pc' := 112) (L' := [some (.ref th), some (.ref p0), none, none, none, some (.int t12.1)]) (st' := [.int 8, .int t12.1]) [(.iload 5, 0), (.bipush 8, 8)] (by decide +kernel) rfl rfl ?_
        refine es_ige (tgt := 139) (off := (27)) (by decide +kernel) (by decide) (fun h16 => ?_) (fun h16 => ?_)
        · refine es_blk (pc' := 118) (L' := [some (.ref th), some (.ref p0), none, none, none, some (.int t12.1)]) (st' := [.ref p0, .int t12.1]) [(.iload 5, 0), (.aload_n 1, 0)] (by decide +kernel) rfl rfl ?_
          refine eg_alen (k := p0) hp0 (by decide) (by decide +kernel) ?_
          refine es_ige (tgt := 139) (off := (20)) (by decide +kernel) (by decide) (fun h17 => ?_) (fun h17 => ?_)
          · refine es_blk (pc' := 126) (L' := [some (.ref th), some (.ref p0), none, none, none, some (.int t12.1)]) (st' := [.ref th, .int t12.1, .ref p0]) [(.aload_n 1, 0), (.iload 5, 0), (.aload_n 0, 0)] (by decide +kernel) rfl rfl ?_
            refine eg_getP (k := th) (j := 0) (q := (th + 1)) (eg_S0sh hth) eL_9_7 rfl (eg_Sx hth _).1 (eg_S1sh hth) (by decide +kernel) ?_
            refine es_blk (pc' := 131) (L' := [some (.ref th), some (.ref p0), none, none, none, some (.int t12.1)]) (st' := [.int t12.1, .ref (th + 1), .int t12.1, .ref p0]) [(.iload 5, 0)] (by decide +kernel) rfl rfl ?_
            refine eg_ald (k := (th + 1)) (eg_S1sh hth) (Or.inl ⟨rfl, rfl⟩) (by decide +kernel) (fun _ => ?_)
            refine eg_ast (k := p0) hp0 (by decide +kernel) (fun _ => ?_)
            refine ef_V (fun _ => [some (.ref th), some (.ref p0), none, none, none, some (.int t12.1)]) (fun _ => []) (fun s18 => eh_FV s18) (fun s18 => ?_)
            refine es_blk (pc' := 136) (L' := [some (.ref th), some (.ref p0), none, none, none, some (.int (t12.1 + 1))]) (st' := []) [(.iinc 5 1, 1)] (by decide +kernel) rfl rfl ?_
            refine ef_V (fun x19 => [some (.ref th), some (.ref p0), none, none, none, some (.int x19)]) (fun _ => []) (fun _ => eh_FV s18) (fun x19 => ?_)
            refine es_goto (tgt := 108) (off := (-28)) (by decide +kernel) (by decide) ?_
            exact Hr15 (x19, s18)
          refine ef_drop (L2 := [none, none, none, none, none, none]) [false, false, true, true, true, false] rfl rfl ?_
          exact HxK14_0 t12.2
        refine ef_drop (L2 := [none, none, none, none, none, none]) [false, false, true, true, true, false] rfl rfl ?_
        exact HxK14_0 t12.2
    refine es_ile (tgt := 74) (off := (12)) (by decide +kernel) (by decide) (fun h20 => ?_) (fun h20 => ?_)
    · refine es_blk (pc' := 66) (L' := [some (.ref th), some (.ref p0), some (.int x1), some (.int x2), some (.int a4), none]) (st' := [.ref th]) [(.aload_n 0, 0)] (by decide +kernel) rfl rfl ?_
      refine eg_veV (d := 1) (k := th) (As := []) (st := []) eV_9_compress eK_9_32 (eT_9_compress g q6 th hth) (eg_S0sh hth) rfl (Nat.le_of_ble_eq_true rfl) rfl (Nat.le_of_ble_eq_true rfl) ⟨Nat.le_of_ble_eq_true rfl, Nat.le_of_ble_eq_true rfl⟩ ⟨Nat.le_refl _, Nat.le_refl _⟩ (by decide +kernel) (fun q21 _ => ?_)
      refine es_blk (pc' := 71) (L' := [some (.ref th), some (.ref p0), some (.int x1), some (.int x2), some (.int a4), none]) (st' := [.int 0, .ref th]) [(.aload_n 0, 0), (.iconst 0, 0)] (by decide +kernel) rfl rfl ?_
      refine eg_veV (d := 1) (k := th) (As := [.int 0]) (st := []) eV_9_clearBlockFrom eK_9_43 (eT_9_clearBlockFrom g q21 th 0 hth) (eg_S0sh hth) rfl (Nat.le_of_ble_eq_true rfl) rfl (Nat.le_of_ble_eq_true rfl) ⟨Nat.le_of_ble_eq_true rfl, Nat.le_of_ble_eq_true rfl⟩ ⟨Nat.le_refl _, Nat.le_refl _⟩ (by decide +kernel) (fun q22 _ => ?_)
      refine ef_drop (L2 := [some (.ref th), some (.ref p0), none, none, none, none]) [true, true, false, false, false, true] rfl rfl ?_
      exact Hj7 _
    refine ef_drop (L2 := [some (.ref th), some (.ref p0), none, none, none, none]) [true, true, false, false, false, true] rfl rfl ?_
    exact Hj7 _
  refine es_ne (tgt := 22) (off := (7)) (by decide +kernel) (by decide) (fun h23 => ?_) (fun h23 => ?_)
  · refine es_blk (pc' := 19) (L' := [some (.ref th), some (.ref p0), some (.int x1), some (.int x2), none, none]) (st' := [.int 0]) [(.iconst 0, 0)] (by decide +kernel) rfl rfl ?_
    refine es_goto (tgt := 28) (off := (9)) (by decide +kernel) (by decide) ?_
    exact Hj3 _
  refine es_blk (pc' := 23) (L' := [some (.ref th), some (.ref p0), some (.int x1), some (.int x2), none, none]) (st' := [.ref th]) [(.aload_n 0, 0)] (by decide +kernel) rfl rfl ?_
  refine eg_getP (k := th) (j := 1) (q := (th + 2)) (eg_S0sh hth) eL_9_13 rfl (eg_Sx hth _).2.1 (eg_S2sh hth) (by decide +kernel) ?_
  refine es_blk (pc' := 27) (L' := [some (.ref th), some (.ref p0), some (.int x1), some (.int x2), none, none]) (st' := [.int x2, .ref (th + 2)]) [(.iload_n 3, 0)] (by decide +kernel) rfl rfl ?_
  refine eg_ald (k := (th + 2)) (eg_S2sh hth) (Or.inl ⟨rfl, rfl⟩) (by decide +kernel) (fun _ => ?_)
  exact Hj3 _
set_option maxHeartbeats 4000000 in
set_option maxRecDepth 100000 in
theorem eT_9_feedPaddedKey (g : eh_P) (s : eh_F) (th : Nat) (p0 np0 : Nat) (p1 : Int32) (hth : eh_okS th = true) (hp0 : eh_SG[p0]? = some (100, np0)) : eh_Sim g eM_9_feedPaddedKey (eh_R 2 0 0) eg_eV 0 0 0 (eh_en 4 [.ref th, .ref p0, .int p1]) [] (eh_FV s) (eF_9_feedPaddedKey s th p0 np0 p1) := by
  unfold eF_9_feedPaddedKey
  refine ef_top (L := [some (.ref th), some (.ref p0), some (.int p1), none]) rfl ?_
  refine es_blk (pc' := 2) (L' := [some (.ref th), some (.ref p0), some (.int p1), some (.int 0)]) (st' := []) [(.iconst 0, 0), (.istore_n 3, 0)] (by decide +kernel) rfl rfl ?_
  refine ef_loop1 (n := eh_FU) (i := (0, s)) (px := 41) (fun (t1 : Int32 × eh_F) => [some (.ref th), some (.ref p0), some (.int p1), some (.int t1.1)]) (fun (t1 : Int32 × eh_F) => []) (fun (t1 : Int32 × eh_F) => eh_FV t1.2) (fun (e2 : eh_F) => [some (.ref th), none, none, none]) (fun (e2 : eh_F) => []) (fun (e2 : eh_F) => eh_FV e2) (fun e2 => ?_) (fun K5 HxK5_0 r6 Hr6 t1 => ?_)
  · refine es_blk (pc' := 43) (L' := [some (.ref th), none, none, none]) (st' := [.ref th, .ref th]) [(.aload_n 0, 0), (.dup, 0)] (by decide +kernel) rfl rfl ?_
    refine eg_getI (k := th) (j := 3) (eg_S0sh hth) eL_9_28 (by decide) (by decide +kernel) ?_
    refine es_blk (pc' := 49) (L' := [some (.ref th), none, none, none]) (st' := [.int ((e2.1 th 3) + 64), .ref th]) [(.bipush 64, 64), (.iadd, 0)] (by decide +kernel) rfl rfl ?_
    refine eg_putI (k := th) (j := 3) (eg_S0sh hth) eL_9_28 rfl rfl (by decide +kernel) ?_
    refine ef_V (fun _ => [some (.ref th), none, none, none]) (fun _ => []) (fun s3 => eh_FV s3) (fun s3 => ?_)
    refine es_blk (pc' := 53) (L' := [some (.ref th), none, none, none]) (st' := [.ref th]) [(.aload_n 0, 0)] (by decide +kernel) rfl rfl ?_
    refine eg_veV (d := 1) (k := th) (As := []) (st := []) eV_9_compress eK_9_32 (eT_9_compress g s3 th hth) (eg_S0sh hth) rfl (Nat.le_of_ble_eq_true rfl) rfl (Nat.le_of_ble_eq_true rfl) ⟨Nat.le_of_ble_eq_true rfl, Nat.le_of_ble_eq_true rfl⟩ ⟨Nat.le_refl _, Nat.le_refl _⟩ (by decide +kernel) (fun q4 _ => ?_)
    exact es_ret rfl rfl rfl ⟨by decide +kernel, rfl⟩ (Nat.le_refl _) (Nat.le_refl _)
  · refine es_blk (pc' := 5) (L' := [some (.ref th), some (.ref p0), some (.int p1), some (.int t1.1)]) (st' := [.int 16, .int t1.1]) [(.iload_n 3, 0), (.bipush 16, 16)] (by decide +kernel) rfl rfl ?_
    refine es_ige (tgt := 41) (off := (36)) (by decide +kernel) (by decide) (fun h7 => ?_) (fun h7 => ?_)
    · refine es_blk (pc' := 9) (L' := [some (.ref th), some (.ref p0), some (.int p1), some (.int t1.1)]) (st' := [.ref th]) [(.aload_n 0, 0)] (by decide +kernel) rfl rfl ?_
      refine eg_getP (k := th) (j := 1) (q := (th + 2)) (eg_S0sh hth) eL_9_13 rfl (eg_Sx hth _).2.1 (eg_S2sh hth) (by decide +kernel) ?_
      refine es_blk (pc' := 16) (L' := [some (.ref th), some (.ref p0), some (.int p1), some (.int t1.1)]) (st' := [.int 8, .int t1.1, .int t1.1, .ref (th + 2)]) [(.iload_n 3, 0), (.iload_n 3, 0), (.bipush 8, 8)] (by decide +kernel) rfl rfl ?_
      refine ef_J (X := fun j8 => ∀ (a9 : Int32), eh_Sim g eM_9_feedPaddedKey (eh_R 2 0 0) eg_eV 0 0 34 [some (.ref th), some (.ref p0), some (.int p1), some (.int t1.1)] [.int a9, .int t1.1, .ref (th + 2)] (eh_FV t1.2) ((j8 a9).bind K5)) ?_ (fun j8 Hj8 => ?_)
      · intro a9
        refine eg_ast (k := (th + 2)) (eg_S2sh hth) (by decide +kernel) (fun _ => ?_)
        refine ef_V (fun _ => [some (.ref th), some (.ref p0), some (.int p1), some (.int t1.1)]) (fun _ => []) (fun s10 => eh_FV s10) (fun s10 => ?_)
        refine es_blk (pc' := 38) (L' := [some (.ref th), some (.ref p0), some (.int p1), some (.int (t1.1 + 1))]) (st' := []) [(.iinc 3 1, 1)] (by decide +kernel) rfl rfl ?_
        refine ef_V (fun x11 => [some (.ref th), some (.ref p0), some (.int p1), some (.int x11)]) (fun _ => []) (fun _ => eh_FV s10) (fun x11 => ?_)
        refine es_goto (tgt := 2) (off := (-36)) (by decide +kernel) (by decide) ?_
        exact Hr6 (x11, s10)
      refine ef_J (X := fun j12 => ∀ (u13 : Unit), eh_Sim g eM_9_feedPaddedKey (eh_R 2 0 0) eg_eV 0 0 33 [some (.ref th), some (.ref p0), some (.int p1), some (.int t1.1)] [.int t1.1, .ref (th + 2)] (eh_FV t1.2) ((j12 u13).bind K5)) ?_ (fun j12 Hj12 => ?_)
      · intro u13
        refine es_blk (pc' := 34) (L' := [some (.ref th), some (.ref p0), some (.int p1), some (.int t1.1)]) (st' := [.int p1, .int t1.1, .ref (th + 2)]) [(.iload_n 2, 0)] (by decide +kernel) rfl rfl ?_
        exact Hj8 _
      refine es_ige (tgt := 33) (off := (17)) (by decide +kernel) (by decide) (fun h14 => ?_) (fun h14 => ?_)
      · refine es_blk (pc' := 21) (L' := [some (.ref th), some (.ref p0), some (.int p1), some (.int t1.1)]) (st' := [.ref p0, .int t1.1, .int t1.1, .ref (th + 2)]) [(.iload_n 3, 0), (.aload_n 1, 0)] (by decide +kernel) rfl rfl ?_
        refine eg_alen (k := p0) hp0 (by decide) (by decide +kernel) ?_
        refine es_ige (tgt := 33) (off := (11)) (by decide +kernel) (by decide) (fun h15 => ?_) (fun h15 => ?_)
        · refine es_blk (pc' := 27) (L' := [some (.ref th), some (.ref p0), some (.int p1), some (.int t1.1)]) (st' := [.int t1.1, .ref p0, .int t1.1, .ref (th + 2)]) [(.aload_n 1, 0), (.iload_n 3, 0)] (by decide +kernel) rfl rfl ?_
          refine eg_ald (k := p0) hp0 (Or.inl ⟨rfl, rfl⟩) (by decide +kernel) (fun _ => ?_)
          refine es_blk (pc' := 30) (L' := [some (.ref th), some (.ref p0), some (.int p1), some (.int t1.1)]) (st' := [.int ((t1.2.1 p0 (eh_ix t1.1)) ^^^ p1), .int t1.1, .ref (th + 2)]) [(.iload_n 2, 0), (.ixor, 0)] (by decide +kernel) rfl rfl ?_
          refine es_goto (tgt := 34) (off := (4)) (by decide +kernel) (by decide) ?_
          exact Hj8 _
        exact Hj12 ()
      exact Hj12 ()
    refine ef_drop (L2 := [some (.ref th), none, none, none]) [true, false, false, false] rfl rfl ?_
    exact HxK5_0 t1.2
set_option maxHeartbeats 4000000 in
set_option maxRecDepth 100000 in
theorem eT_0_restart (g : eh_P) (s : eh_F)  : eh_Sim g eM_0_restart (eh_R 3 0 0) eg_eV 0 0 0 (eh_en 1 [.ref 12]) [] (eh_FV s) (eF_0_restart s) := by
  unfold eF_0_restart
  refine ef_top (L := [some (.ref 12)]) rfl ?_
  refine es_blk (pc' := 2) (L' := [some (.ref 12)]) (st' := [.int 0, .ref 12]) [(.aload_n 0, 0), (.iconst 0, 0)] (by decide +kernel) rfl rfl ?_
  refine eg_putI (k := 12) (j := 0) rfl eL_0_46 rfl rfl (by decide +kernel) ?_
  refine ef_V (fun _ => [some (.ref 12)]) (fun _ => []) (fun s1 => eh_FV s1) (fun s1 => ?_)
  refine es_blk (pc' := 7) (L' := [some (.ref 12)]) (st' := [.int 0, .ref 12]) [(.aload_n 0, 0), (.iconst 0, 0)] (by decide +kernel) rfl rfl ?_
  refine eg_putZc (k := 12) (j := 1) rfl eL_0_50 rfl rfl (by decide) (by decide +kernel) ?_
  refine ef_V (fun _ => [some (.ref 12)]) (fun _ => []) (fun s2 => eh_FV s2) (fun s2 => ?_)
  refine es_blk (pc' := 12) (L' := [some (.ref 12)]) (st' := [.int 0, .ref 12]) [(.aload_n 0, 0), (.iconst 0, 0)] (by decide +kernel) rfl rfl ?_
  refine eg_putI (k := 12) (j := 7) rfl eL_0_54 rfl rfl (by decide +kernel) ?_
  refine ef_V (fun _ => [some (.ref 12)]) (fun _ => []) (fun s3 => eh_FV s3) (fun s3 => ?_)
  refine es_blk (pc' := 17) (L' := [some (.ref 12)]) (st' := [.int 0, .ref 12]) [(.aload_n 0, 0), (.iconst 0, 0)] (by decide +kernel) rfl rfl ?_
  refine eg_putI (k := 12) (j := 8) rfl eL_0_57 rfl rfl (by decide +kernel) ?_
  refine ef_V (fun _ => [some (.ref 12)]) (fun _ => []) (fun s4 => eh_FV s4) (fun s4 => ?_)
  refine es_blk (pc' := 22) (L' := [some (.ref 12)]) (st' := [.int 0, .ref 12]) [(.aload_n 0, 0), (.iconst 0, 0)] (by decide +kernel) rfl rfl ?_
  refine eg_putI (k := 12) (j := 9) rfl eL_0_60 rfl rfl (by decide +kernel) ?_
  refine ef_V (fun _ => [some (.ref 12)]) (fun _ => []) (fun s5 => eh_FV s5) (fun s5 => ?_)
  refine es_blk (pc' := 26) (L' := [some (.ref 12)]) (st' := [.ref 12]) [(.aload_n 0, 0)] (by decide +kernel) rfl rfl ?_
  refine eg_getP (k := 12) (j := 10) (q := 18) rfl eL_0_33 rfl rfl rfl (by decide +kernel) ?_
  refine eg_veV (d := 1) (k := 18) (As := []) (st := []) eV_8_clear eK_0_63 (eT_8_clear g s5 18 rfl) rfl rfl (Nat.le_of_ble_eq_true rfl) rfl (Nat.le_of_ble_eq_true rfl) ⟨Nat.le_of_ble_eq_true rfl, Nat.le_of_ble_eq_true rfl⟩ ⟨Nat.le_refl _, Nat.le_refl _⟩ (by decide +kernel) (fun q6 _ => ?_)
  refine es_blk (pc' := 33) (L' := [some (.ref 12)]) (st' := [.ref 12]) [(.aload_n 0, 0)] (by decide +kernel) rfl rfl ?_
  refine eg_getP (k := 12) (j := 11) (q := 20) rfl eL_0_37 rfl rfl rfl (by decide +kernel) ?_
  refine eg_veV (d := 1) (k := 20) (As := []) (st := []) eV_8_clear eK_0_63 (eT_8_clear g q6 20 rfl) rfl rfl (Nat.le_of_ble_eq_true rfl) rfl (Nat.le_of_ble_eq_true rfl) ⟨Nat.le_of_ble_eq_true rfl, Nat.le_of_ble_eq_true rfl⟩ ⟨Nat.le_refl _, Nat.le_refl _⟩ (by decide +kernel) (fun q7 _ => ?_)
  refine es_blk (pc' := 41) (L' := [some (.ref 12)]) (st' := [.int (-1), .ref 12]) [(.aload_n 0, 0), (.iconst (-1), (-1))] (by decide +kernel) rfl rfl ?_
  refine eg_veV (d := 2) (k := 12) (As := [.int (-1)]) (st := []) eV_0_givePath eK_0_66 (eT_0_givePath g q7 (-1)) rfl rfl (Nat.le_of_ble_eq_true rfl) rfl (Nat.le_of_ble_eq_true rfl) ⟨Nat.le_of_ble_eq_true rfl, Nat.le_of_ble_eq_true rfl⟩ ⟨Nat.le_refl _, Nat.le_refl _⟩ (by decide +kernel) (fun q8 _ => ?_)
  exact es_ret rfl rfl rfl ⟨by decide +kernel, rfl⟩ (Nat.le_refl _) (Nat.le_refl _)
set_option maxHeartbeats 4000000 in
set_option maxRecDepth 100000 in
theorem eT_9_beginKeyed (g : eh_P) (s : eh_F) (th : Nat) (p0 np0 : Nat) (hth : eh_okS th = true) (hp0 : eh_SG[p0]? = some (100, np0)) : eh_Sim g eM_9_beginKeyed (eh_R 3 0 0) eg_eV 0 0 0 (eh_en 2 [.ref th, .ref p0]) [] (eh_FV s) (eF_9_beginKeyed s th p0 np0) := by
  unfold eF_9_beginKeyed
  refine ef_top (L := [some (.ref th), some (.ref p0)]) rfl ?_
  refine es_blk (pc' := 1) (L' := [some (.ref th), some (.ref p0)]) (st' := [.ref th]) [(.aload_n 0, 0)] (by decide +kernel) rfl rfl ?_
  refine eg_veV (d := 1) (k := th) (As := []) (st := []) eV_9_begin eK_9_46 (eT_9_begin g s th hth) (eg_S0sh hth) rfl (Nat.le_of_ble_eq_true rfl) rfl (Nat.le_of_ble_eq_true rfl) ⟨Nat.le_of_ble_eq_true rfl, Nat.le_of_ble_eq_true rfl⟩ ⟨Nat.le_refl _, Nat.le_refl _⟩ (by decide +kernel) (fun q1 _ => ?_)
  refine es_blk (pc' := 6) (L' := [some (.ref th), some (.ref p0)]) (st' := [.ref p0, .ref th]) [(.aload_n 0, 0), (.aload_n 1, 0)] (by decide +kernel) rfl rfl ?_
  refine es_ldc (v := 909522486) eC_9_49 (by decide +kernel) ?_
  refine eg_veV (d := 2) (k := th) (As := [.ref p0, .int 909522486]) (st := []) eV_9_feedPaddedKey eK_9_50 (eT_9_feedPaddedKey g q1 th p0 np0 909522486 hth hp0) (eg_S0sh hth) rfl (Nat.le_of_ble_eq_true rfl) rfl (Nat.le_of_ble_eq_true rfl) ⟨Nat.le_of_ble_eq_true rfl, Nat.le_of_ble_eq_true rfl⟩ ⟨Nat.le_refl _, Nat.le_refl _⟩ (by decide +kernel) (fun q2 _ => ?_)
  exact es_ret rfl rfl rfl ⟨by decide +kernel, rfl⟩ (Nat.le_refl _) (Nat.le_refl _)
set_option maxHeartbeats 4000000 in
set_option maxRecDepth 100000 in
theorem eT_9_endKeyed (g : eh_P) (s : eh_F) (th : Nat) (p0 np0 : Nat) (p1 np1 : Nat) (hth : eh_okS th = true) (hp0 : eh_SG[p0]? = some (100, np0)) (hp1 : eh_SG[p1]? = some (100, np1)) : eh_Sim g eM_9_endKeyed (eh_R 3 0 0) eg_eV 0 0 0 (eh_en 3 [.ref th, .ref p0, .ref p1]) [] (eh_FV s) (eF_9_endKeyed s th p0 np0 p1 np1) := by
  unfold eF_9_endKeyed
  refine ef_top (L := [some (.ref th), some (.ref p0), some (.ref p1)]) rfl ?_
  refine es_blk (pc' := 2) (L' := [some (.ref th), some (.ref p0), some (.ref p1)]) (st' := [.ref th, .ref th]) [(.aload_n 0, 0), (.aload_n 0, 0)] (by decide +kernel) rfl rfl ?_
  refine eg_getP (k := th) (j := 2) (q := (th + 3)) (eg_S0sh hth) eL_9_16 rfl (eg_Sx hth _).2.2 (eg_S3sh hth) (by decide +kernel) ?_
  refine eg_veV (d := 2) (k := th) (As := [.ref (th + 3)]) (st := []) eV_9_end eK_9_54 (eT_9_end g s th (th + 3) 8 hth (eg_S3sh hth)) (eg_S0sh hth) rfl (Nat.le_of_ble_eq_true rfl) rfl (Nat.le_of_ble_eq_true rfl) ⟨Nat.le_of_ble_eq_true rfl, Nat.le_of_ble_eq_true rfl⟩ ⟨Nat.le_refl _, Nat.le_refl _⟩ (by decide +kernel) (fun q1 _ => ?_)
  refine es_blk (pc' := 9) (L' := [some (.ref th), some (.ref p0), some (.ref p1)]) (st' := [.ref th]) [(.aload_n 0, 0)] (by decide +kernel) rfl rfl ?_
  refine eg_veV (d := 1) (k := th) (As := []) (st := []) eV_9_begin eK_9_46 (eT_9_begin g q1 th hth) (eg_S0sh hth) rfl (Nat.le_of_ble_eq_true rfl) rfl (Nat.le_of_ble_eq_true rfl) ⟨Nat.le_of_ble_eq_true rfl, Nat.le_of_ble_eq_true rfl⟩ ⟨Nat.le_refl _, Nat.le_refl _⟩ (by decide +kernel) (fun q2 _ => ?_)
  refine es_blk (pc' := 14) (L' := [some (.ref th), some (.ref p0), some (.ref p1)]) (st' := [.ref p0, .ref th]) [(.aload_n 0, 0), (.aload_n 1, 0)] (by decide +kernel) rfl rfl ?_
  refine es_ldc (v := 1549556828) eC_9_58 (by decide +kernel) ?_
  refine eg_veV (d := 2) (k := th) (As := [.ref p0, .int 1549556828]) (st := []) eV_9_feedPaddedKey eK_9_50 (eT_9_feedPaddedKey g q2 th p0 np0 1549556828 hth hp0) (eg_S0sh hth) rfl (Nat.le_of_ble_eq_true rfl) rfl (Nat.le_of_ble_eq_true rfl) ⟨Nat.le_of_ble_eq_true rfl, Nat.le_of_ble_eq_true rfl⟩ ⟨Nat.le_refl _, Nat.le_refl _⟩ (by decide +kernel) (fun q3 _ => ?_)
  refine es_blk (pc' := 20) (L' := [some (.ref th), some (.ref p0), some (.ref p1)]) (st' := [.ref th]) [(.aload_n 0, 0)] (by decide +kernel) rfl rfl ?_
  refine eg_getP (k := th) (j := 2) (q := (th + 3)) (eg_S0sh hth) eL_9_16 rfl (eg_Sx hth _).2.2 (eg_S3sh hth) (by decide +kernel) ?_
  refine es_blk (pc' := 25) (L' := [some (.ref th), some (.ref p0), some (.ref p1)]) (st' := [.ref th, .int 0, .ref (th + 3)]) [(.iconst 0, 0), (.aload_n 0, 0)] (by decide +kernel) rfl rfl ?_
  refine eg_getP (k := th) (j := 1) (q := (th + 2)) (eg_S0sh hth) eL_9_13 rfl (eg_Sx hth _).2.1 (eg_S2sh hth) (by decide +kernel) ?_
  refine es_blk (pc' := 31) (L' := [some (.ref th), some (.ref p0), some (.ref p1)]) (st' := [.int 8, .int 0, .ref (th + 2), .int 0, .ref (th + 3)]) [(.iconst 0, 0), (.bipush 8, 8)] (by decide +kernel) rfl rfl ?_
  refine eg_copyI (k0 := (th + 3)) (k1 := (th + 2)) (eg_S3sh hth) (eg_S2sh hth) eK_9_22 eh_acN eh_acS eh_acI ⟨Nat.le_of_ble_eq_true rfl, Nat.le_of_ble_eq_true rfl⟩ (Nat.le_of_ble_eq_true rfl) (by decide +kernel) (fun _ => ?_)
  refine ef_V (fun _ => [some (.ref th), some (.ref p0), some (.ref p1)]) (fun _ => []) (fun s4 => eh_FV s4) (fun s4 => ?_)
  refine es_blk (pc' := 36) (L' := [some (.ref th), some (.ref p0), some (.ref p1)]) (st' := [.ref th, .ref th]) [(.aload_n 0, 0), (.dup, 0)] (by decide +kernel) rfl rfl ?_
  refine eg_getI (k := th) (j := 3) (eg_S0sh hth) eL_9_28 (by decide) (by decide +kernel) ?_
  refine es_blk (pc' := 42) (L' := [some (.ref th), some (.ref p0), some (.ref p1)]) (st' := [.int ((s4.1 th 3) + 32), .ref th]) [(.bipush 32, 32), (.iadd, 0)] (by decide +kernel) rfl rfl ?_
  refine eg_putI (k := th) (j := 3) (eg_S0sh hth) eL_9_28 rfl rfl (by decide +kernel) ?_
  refine ef_V (fun _ => [some (.ref th), some (.ref p0), some (.ref p1)]) (fun _ => []) (fun s5 => eh_FV s5) (fun s5 => ?_)
  refine es_blk (pc' := 47) (L' := [some (.ref th), some (.ref p0), some (.ref p1)]) (st' := [.ref p1, .ref th]) [(.aload_n 0, 0), (.aload_n 2, 0)] (by decide +kernel) rfl rfl ?_
  refine eg_veV (d := 2) (k := th) (As := [.ref p1]) (st := []) eV_9_end eK_9_54 (eT_9_end g s5 th p1 np1 hth hp1) (eg_S0sh hth) rfl (Nat.le_of_ble_eq_true rfl) rfl (Nat.le_of_ble_eq_true rfl) ⟨Nat.le_of_ble_eq_true rfl, Nat.le_of_ble_eq_true rfl⟩ ⟨Nat.le_refl _, Nat.le_refl _⟩ (by decide +kernel) (fun q6 _ => ?_)
  exact es_ret rfl rfl rfl ⟨by decide +kernel, rfl⟩ (Nat.le_refl _) (Nat.le_refl _)
set_option maxHeartbeats 4000000 in
set_option maxRecDepth 100000 in
theorem eT_5_restart (g : eh_P) (s : eh_F) (p0 : Int32) : eh_Sim g eM_5_restart (eh_R 4 0 0) eg_eV 0 0 0 (eh_en 3 [.ref 1, .int p0]) [] (eh_FV s) (eF_5_restart s p0) := by
  unfold eF_5_restart
  refine ef_top (L := [some (.ref 1), some (.int p0), none]) rfl ?_
  refine es_blk (pc' := 1) (L' := [some (.ref 1), some (.int p0), none]) (st' := [.ref 1]) [(.aload_n 0, 0)] (by decide +kernel) rfl rfl ?_
  refine eg_getP (k := 1) (j := 0) (q := 2) rfl eL_5_12 rfl rfl rfl (by decide +kernel) ?_
  refine eg_veV (d := 2) (k := 2) (As := []) (st := []) eV_6_clear eK_5_93 (eT_6_clear g s) rfl rfl (Nat.le_of_ble_eq_true rfl) rfl (Nat.le_of_ble_eq_true rfl) ⟨Nat.le_of_ble_eq_true rfl, Nat.le_of_ble_eq_true rfl⟩ ⟨Nat.le_refl _, Nat.le_refl _⟩ (by decide +kernel) (fun q1 _ => ?_)
  refine es_blk (pc' := 8) (L' := [some (.ref 1), some (.int p0), none]) (st' := [.ref 1]) [(.aload_n 0, 0)] (by decide +kernel) rfl rfl ?_
  refine eg_getP (k := 1) (j := 1) (q := 12) rfl eL_5_21 rfl rfl rfl (by decide +kernel) ?_
  refine eg_veV (d := 3) (k := 12) (As := []) (st := []) eV_0_restart eK_5_96 (eT_0_restart g q1) rfl rfl (Nat.le_of_ble_eq_true rfl) rfl (Nat.le_of_ble_eq_true rfl) ⟨Nat.le_of_ble_eq_true rfl, Nat.le_of_ble_eq_true rfl⟩ ⟨Nat.le_refl _, Nat.le_refl _⟩ (by decide +kernel) (fun q2 _ => ?_)
  refine es_blk (pc' := 16) (L' := [some (.ref 1), some (.int p0), some (.int 0)]) (st' := []) [(.iconst 0, 0), (.istore_n 2, 0)] (by decide +kernel) rfl rfl ?_
  refine ef_loop1 (n := eh_FU) (i := (0, q2)) (px := 36) (fun (t3 : Int32 × eh_F) => [some (.ref 1), some (.int p0), some (.int t3.1)]) (fun (t3 : Int32 × eh_F) => []) (fun (t3 : Int32 × eh_F) => eh_FV t3.2) (fun (e4 : eh_F) => [some (.ref 1), some (.int p0), none]) (fun (e4 : eh_F) => []) (fun (e4 : eh_F) => eh_FV e4) (fun e4 => ?_) (fun K29 HxK29_0 r30 Hr30 t3 => ?_)
  · refine es_blk (pc' := 38) (L' := [some (.ref 1), some (.int p0), some (.int 0)]) (st' := []) [(.iconst 0, 0), (.istore_n 2, 0)] (by decide +kernel) rfl rfl ?_
    refine ef_loop1 (n := eh_FU) (i := (0, e4)) (px := 60) (fun (t5 : Int32 × eh_F) => [some (.ref 1), some (.int p0), some (.int t5.1)]) (fun (t5 : Int32 × eh_F) => []) (fun (t5 : Int32 × eh_F) => eh_FV t5.2) (fun (e6 : eh_F) => [some (.ref 1), some (.int p0), none]) (fun (e6 : eh_F) => []) (fun (e6 : eh_F) => eh_FV e6) (fun e6 => ?_) (fun K23 HxK23_0 r24 Hr24 t5 => ?_)
    · refine es_blk (pc' := 62) (L' := [some (.ref 1), some (.int p0), some (.int 0)]) (st' := []) [(.iconst 0, 0), (.istore_n 2, 0)] (by decide +kernel) rfl rfl ?_
      refine ef_loop1 (n := eh_FU) (i := (0, e6)) (px := 94) (fun (t7 : Int32 × eh_F) => [some (.ref 1), some (.int p0), some (.int t7.1)]) (fun (t7 : Int32 × eh_F) => []) (fun (t7 : Int32 × eh_F) => eh_FV t7.2) (fun (e8 : eh_F) => [some (.ref 1), some (.int p0), none]) (fun (e8 : eh_F) => []) (fun (e8 : eh_F) => eh_FV e8) (fun e8 => ?_) (fun K15 HxK15_0 r16 Hr16 t7 => ?_)
      · refine es_blk (pc' := 95) (L' := [some (.ref 1), some (.int p0), none]) (st' := [.ref 1]) [(.aload_n 0, 0)] (by decide +kernel) rfl rfl ?_
        refine eg_getP (k := 1) (j := 7) (q := 34) rfl eL_5_54 rfl rfl rfl (by decide +kernel) ?_
        refine es_blk (pc' := 99) (L' := [some (.ref 1), some (.int p0), none]) (st' := [.int 0, .ref 34]) [(.iconst 0, 0)] (by decide +kernel) rfl rfl ?_
        refine eg_seV (d := 1) (As := [.ref 34, .int 0]) (st := []) eV_23_fill eK_5_107 (eT_23_fill g e8 34 8 0 rfl) rfl (Nat.le_of_ble_eq_true rfl) rfl (Nat.le_of_ble_eq_true rfl) ⟨Nat.le_of_ble_eq_true rfl, Nat.le_of_ble_eq_true rfl⟩ ⟨Nat.le_refl _, Nat.le_refl _⟩ (by decide +kernel) (fun q9 _ => ?_)
        refine es_blk (pc' := 104) (L' := [some (.ref 1), some (.int p0), none]) (st' := [.int 0, .ref 1]) [(.aload_n 0, 0), (.iconst 0, 0)] (by decide +kernel) rfl rfl ?_
        refine eg_putZc (k := 1) (j := 10) rfl eL_5_113 rfl rfl (by decide) (by decide +kernel) ?_
        refine ef_V (fun _ => [some (.ref 1), some (.int p0), none]) (fun _ => []) (fun s10 => eh_FV s10) (fun s10 => ?_)
        refine es_blk (pc' := 109) (L' := [some (.ref 1), some (.int p0), none]) (st' := [.int 0, .ref 1]) [(.aload_n 0, 0), (.iconst 0, 0)] (by decide +kernel) rfl rfl ?_
        refine eg_putI (k := 1) (j := 11) rfl eL_5_117 rfl rfl (by decide +kernel) ?_
        refine ef_V (fun _ => [some (.ref 1), some (.int p0), none]) (fun _ => []) (fun s11 => eh_FV s11) (fun s11 => ?_)
        refine es_blk (pc' := 113) (L' := [some (.ref 1), some (.int p0), none]) (st' := [.ref 1]) [(.aload_n 0, 0)] (by decide +kernel) rfl rfl ?_
        refine eg_getP (k := 1) (j := 5) (q := 29) rfl eL_5_46 rfl rfl rfl (by decide +kernel) ?_
        refine es_blk (pc' := 117) (L' := [some (.ref 1), some (.int p0), none]) (st' := [.ref 1, .ref 29]) [(.aload_n 0, 0)] (by decide +kernel) rfl rfl ?_
        refine eg_getP (k := 1) (j := 13) (q := 37) rfl eL_5_63 rfl rfl rfl (by decide +kernel) ?_
        refine eg_veV (d := 3) (k := 29) (As := [.ref 37]) (st := []) eV_9_beginKeyed eK_5_120 (eT_9_beginKeyed g s11 29 37 8 rfl rfl) rfl rfl (Nat.le_of_ble_eq_true rfl) rfl (Nat.le_of_ble_eq_true rfl) ⟨Nat.le_of_ble_eq_true rfl, Nat.le_of_ble_eq_true rfl⟩ ⟨Nat.le_refl _, Nat.le_refl _⟩ (by decide +kernel) (fun q12 _ => ?_)
        refine es_blk (pc' := 124) (L' := [some (.ref 1), some (.int p0), none]) (st' := [.ref 1]) [(.aload_n 0, 0)] (by decide +kernel) rfl rfl ?_
        refine eg_getP (k := 1) (j := 5) (q := 29) rfl eL_5_46 rfl rfl rfl (by decide +kernel) ?_
        refine es_blk (pc' := 128) (L' := [some (.ref 1), some (.int p0), none]) (st' := [.int p0, .ref 29]) [(.iload_n 1, 0)] (by decide +kernel) rfl rfl ?_
        refine eg_veV (d := 2) (k := 29) (As := [.int p0]) (st := []) eV_9_feedNumber eK_5_83 (eT_9_feedNumber g q12 29 p0 rfl) rfl rfl (Nat.le_of_ble_eq_true rfl) rfl (Nat.le_of_ble_eq_true rfl) ⟨Nat.le_of_ble_eq_true rfl, Nat.le_of_ble_eq_true rfl⟩ ⟨Nat.le_refl _, Nat.le_refl _⟩ (by decide +kernel) (fun q13 _ => ?_)
        refine es_blk (pc' := 132) (L' := [some (.ref 1), some (.int p0), none]) (st' := [.ref 1]) [(.aload_n 0, 0)] (by decide +kernel) rfl rfl ?_
        refine eg_getP (k := 1) (j := 5) (q := 29) rfl eL_5_46 rfl rfl rfl (by decide +kernel) ?_
        refine es_blk (pc' := 136) (L' := [some (.ref 1), some (.int p0), none]) (st' := [.ref 1, .ref 29]) [(.aload_n 0, 0)] (by decide +kernel) rfl rfl ?_
        refine eg_getP (k := 1) (j := 13) (q := 37) rfl eL_5_63 rfl rfl rfl (by decide +kernel) ?_
        refine es_blk (pc' := 140) (L' := [some (.ref 1), some (.int p0), none]) (st' := [.ref 1, .ref 37, .ref 29]) [(.aload_n 0, 0)] (by decide +kernel) rfl rfl ?_
        refine eg_getP (k := 1) (j := 6) (q := 33) rfl eL_5_50 rfl rfl rfl (by decide +kernel) ?_
        refine eg_veV (d := 3) (k := 29) (As := [.ref 37, .ref 33]) (st := []) eV_9_endKeyed eK_5_123 (eT_9_endKeyed g q13 29 37 8 33 8 rfl rfl rfl) rfl rfl (Nat.le_of_ble_eq_true rfl) rfl (Nat.le_of_ble_eq_true rfl) ⟨Nat.le_of_ble_eq_true rfl, Nat.le_of_ble_eq_true rfl⟩ ⟨Nat.le_refl _, Nat.le_refl _⟩ (by decide +kernel) (fun q14 _ => ?_)
        exact es_ret rfl rfl rfl ⟨by decide +kernel, rfl⟩ (Nat.le_refl _) (Nat.le_refl _)
      · refine es_blk (pc' := 65) (L' := [some (.ref 1), some (.int p0), some (.int t7.1)]) (st' := [.int 6, .int t7.1]) [(.iload_n 2, 0), (.bipush 6, 6)] (by decide +kernel) rfl rfl ?_
        refine es_ige (tgt := 94) (off := (29)) (by decide +kernel) (by decide) (fun h17 => ?_) (fun h17 => ?_)
        · refine es_blk (pc' := 69) (L' := [some (.ref 1), some (.int p0), some (.int t7.1)]) (st' := [.ref 1]) [(.aload_n 0, 0)] (by decide +kernel) rfl rfl ?_
          refine eg_getP (k := 1) (j := 4) (q := 28) rfl eL_5_39 rfl rfl rfl (by decide +kernel) ?_
          refine es_blk (pc' := 73) (L' := [some (.ref 1), some (.int p0), some (.int t7.1)]) (st' := [.int t7.1, .ref 28]) [(.iload_n 2, 0)] (by decide +kernel) rfl rfl ?_
          refine eg_encs (by decide +kernel) (fun h18 => ?_)
          refine es_blk (pc' := 75) (L' := [some (.ref 1), some (.int p0), some (.int t7.1)]) (st' := [.int 0, .ref (eh_ep t7.1)]) [(.iconst 0, 0)] (by decide +kernel) rfl rfl ?_
          refine eg_putI (k := (eh_ep t7.1)) (j := 5) (eg_E0sh h18) eL_5_103 rfl rfl (by decide +kernel) ?_
          refine ef_V (fun _ => [some (.ref 1), some (.int p0), some (.int t7.1)]) (fun _ => []) (fun s19 => eh_FV s19) (fun s19 => ?_)
          refine es_blk (pc' := 79) (L' := [some (.ref 1), some (.int p0), some (.int t7.1)]) (st' := [.ref 1]) [(.aload_n 0, 0)] (by decide +kernel) rfl rfl ?_
          refine eg_getP (k := 1) (j := 4) (q := 28) rfl eL_5_39 rfl rfl rfl (by decide +kernel) ?_
          refine es_blk (pc' := 83) (L' := [some (.ref 1), some (.int p0), some (.int t7.1)]) (st' := [.int t7.1, .ref 28]) [(.iload_n 2, 0)] (by decide +kernel) rfl rfl ?_
          refine eg_encs (by decide +kernel) (fun h20 => ?_)
          refine es_blk (pc' := 85) (L' := [some (.ref 1), some (.int p0), some (.int t7.1)]) (st' := [.int 0, .ref (eh_ep t7.1)]) [(.iconst 0, 0)] (by decide +kernel) rfl rfl ?_
          refine eg_putI (k := (eh_ep t7.1)) (j := 8) (eg_E0sh h20) eL_5_104 rfl rfl (by decide +kernel) ?_
          refine ef_V (fun _ => [some (.ref 1), some (.int p0), some (.int t7.1)]) (fun _ => []) (fun s21 => eh_FV s21) (fun s21 => ?_)
          refine es_blk (pc' := 91) (L' := [some (.ref 1), some (.int p0), some (.int (t7.1 + 1))]) (st' := []) [(.iinc 2 1, 1)] (by decide +kernel) rfl rfl ?_
          refine ef_V (fun x22 => [some (.ref 1), some (.int p0), some (.int x22)]) (fun _ => []) (fun _ => eh_FV s21) (fun x22 => ?_)
          refine es_goto (tgt := 62) (off := (-29)) (by decide +kernel) (by decide) ?_
          exact Hr16 (x22, s21)
        refine ef_drop (L2 := [some (.ref 1), some (.int p0), none]) [true, true, false] rfl rfl ?_
        exact HxK15_0 t7.2
    · refine es_blk (pc' := 41) (L' := [some (.ref 1), some (.int p0), some (.int t5.1)]) (st' := [.int 12, .int t5.1]) [(.iload_n 2, 0), (.bipush 12, 12)] (by decide +kernel) rfl rfl ?_
      refine es_ige (tgt := 60) (off := (19)) (by decide +kernel) (by decide) (fun h25 => ?_) (fun h25 => ?_)
      · refine es_blk (pc' := 45) (L' := [some (.ref 1), some (.int p0), some (.int t5.1)]) (st' := [.ref 1]) [(.aload_n 0, 0)] (by decide +kernel) rfl rfl ?_
        refine eg_getP (k := 1) (j := 3) (q := 27) rfl eL_5_33 rfl rfl rfl (by decide +kernel) ?_
        refine es_blk (pc' := 49) (L' := [some (.ref 1), some (.int p0), some (.int t5.1)]) (st' := [.int t5.1, .ref 27]) [(.iload_n 2, 0)] (by decide +kernel) rfl rfl ?_
        refine eg_fibres (by decide +kernel) (fun h26 => ?_)
        refine es_blk (pc' := 51) (L' := [some (.ref 1), some (.int p0), some (.int t5.1)]) (st' := [.int 0, .ref (eh_fp t5.1)]) [(.iconst 0, 0)] (by decide +kernel) rfl rfl ?_
        refine eg_putI (k := (eh_fp t5.1)) (j := 6) (eg_F0sh h26) eL_5_99 rfl rfl (by decide +kernel) ?_
        refine ef_V (fun _ => [some (.ref 1), some (.int p0), some (.int t5.1)]) (fun _ => []) (fun s27 => eh_FV s27) (fun s27 => ?_)
        refine es_blk (pc' := 57) (L' := [some (.ref 1), some (.int p0), some (.int (t5.1 + 1))]) (st' := []) [(.iinc 2 1, 1)] (by decide +kernel) rfl rfl ?_
        refine ef_V (fun x28 => [some (.ref 1), some (.int p0), some (.int x28)]) (fun _ => []) (fun _ => eh_FV s27) (fun x28 => ?_)
        refine es_goto (tgt := 38) (off := (-19)) (by decide +kernel) (by decide) ?_
        exact Hr24 (x28, s27)
      refine ef_drop (L2 := [some (.ref 1), some (.int p0), none]) [true, true, false] rfl rfl ?_
      exact HxK23_0 t5.2
  · refine es_blk (pc' := 18) (L' := [some (.ref 1), some (.int p0), some (.int t3.1)]) (st' := [.int 2, .int t3.1]) [(.iload_n 2, 0), (.iconst 2, 2)] (by decide +kernel) rfl rfl ?_
    refine es_ige (tgt := 36) (off := (18)) (by decide +kernel) (by decide) (fun h31 => ?_) (fun h31 => ?_)
    · refine es_blk (pc' := 22) (L' := [some (.ref 1), some (.int p0), some (.int t3.1)]) (st' := [.ref 1]) [(.aload_n 0, 0)] (by decide +kernel) rfl rfl ?_
      refine eg_getP (k := 1) (j := 2) (q := 26) rfl eL_5_27 rfl rfl rfl (by decide +kernel) ?_
      refine es_blk (pc' := 26) (L' := [some (.ref 1), some (.int p0), some (.int t3.1)]) (st' := [.int t3.1, .ref 26]) [(.iload_n 2, 0)] (by decide +kernel) rfl rfl ?_
      refine eg_harts (by decide +kernel) (fun h32 => ?_)
      refine eg_veV (d := 2) (k := (eh_hp t3.1)) (As := []) (st := []) eV_4_restart eK_5_98 (eT_4_restart g t3.2 (eh_hp t3.1) h32) (eg_H0sh h32) rfl (Nat.le_of_ble_eq_true rfl) rfl (Nat.le_of_ble_eq_true rfl) ⟨Nat.le_of_ble_eq_true rfl, Nat.le_of_ble_eq_true rfl⟩ ⟨Nat.le_refl _, Nat.le_refl _⟩ (by decide +kernel) (fun q33 _ => ?_)
      refine es_blk (pc' := 33) (L' := [some (.ref 1), some (.int p0), some (.int (t3.1 + 1))]) (st' := []) [(.iinc 2 1, 1)] (by decide +kernel) rfl rfl ?_
      refine ef_V (fun x34 => [some (.ref 1), some (.int p0), some (.int x34)]) (fun _ => []) (fun _ => eh_FV q33) (fun x34 => ?_)
      refine es_goto (tgt := 16) (off := (-17)) (by decide +kernel) (by decide) ?_
      exact Hr30 (x34, q33)
    refine ef_drop (L2 := [some (.ref 1), some (.int p0), none]) [true, true, false] rfl rfl ?_
    exact HxK29_0 t3.2
