def eF_12_begin (s : eh_F) (p0 : Int32) : Option (eh_F) := Option.bind (eh_loop (fun (r5 : (Int32 × eh_F) → Option (eh_F)) (t1 : Int32 × eh_F) => if t1.1 < 8 then (if eh_in t1.1 (eh_tn 2) then if eh_in ((8 * p0) + t1.1) 64 then eh_V (eh_tI t1.2 188 (eh_ix ((8 * p0) + t1.1)) (eh_tt 2 (eh_ix t1.1))) (fun s7 => eh_V ((t1.1 + 1) : Int32) (fun x8 => r5 (x8, s7))) else none else none) else (some t1.2)) eh_FU (0, s)) (fun (e2 : eh_F) => if eh_in p0 8 then eh_V (eh_tJ e2 190 (eh_ix p0) 0) (fun s3 => some s3) else none)
set_option maxHeartbeats 4000000 in
set_option maxRecDepth 100000 in
theorem eS_12_begin (g : eh_P) (s : eh_F) (p0 : Int32) : eh_Sim g eM_12_begin (eh_R 1 0 0) eh_eV 0 0 0 (eh_en 3 [.ref 127, .int p0]) [] (eh_FW s) (eF_12_begin s p0) := by
  unfold eF_12_begin
  refine ef_top (L := [some (.ref 127), some (.int p0), none]) rfl ?_
  refine es_blk (pc' := 2) (L' := [some (.ref 127), some (.int p0), some (.int 0)]) (st' := []) [(.iconst 0, 0), (.istore_n 2, 0)] (by decide +kernel) rfl rfl ?_
  refine ef_loop1 (n := eh_FU) (i := (0, s)) (px := 30) (fun (t1 : Int32 × eh_F) => [some (.ref 127), some (.int p0), some (.int t1.1)]) (fun (t1 : Int32 × eh_F) => []) (fun (t1 : Int32 × eh_F) => eh_FW t1.2) (fun (e2 : eh_F) => [some (.ref 127), some (.int p0), none]) (fun (e2 : eh_F) => []) (fun (e2 : eh_F) => eh_FW e2) (fun e2 => ?_) (fun K4 HxK4_0 r5 Hr5 t1 => ?_)
  · refine es_blk (pc' := 31) (L' := [some (.ref 127), some (.int p0), none]) (st' := [.ref 127]) [(.aload_n 0, 0)] (by decide +kernel) rfl rfl ?_
    refine ef_getP (k := 127) (j := 76) (q := 190) rfl eL_12_199 rfl rfl rfl (by decide +kernel) ?_
    refine es_blk (pc' := 36) (L' := [some (.ref 127), some (.int p0), none]) (st' := [.long 0, .int p0, .ref 190]) [(.iload_n 1, 0), (.lconst 0, 0)] (by decide +kernel) rfl rfl ?_
    refine ef_astJ (k := 190) rfl (by decide +kernel) (fun _ => ?_)
    refine ef_V (fun _ => [some (.ref 127), some (.int p0), none]) (fun _ => []) (fun s3 => eh_FW s3) (fun s3 => ?_)
    exact es_ret rfl rfl rfl ⟨by decide +kernel, rfl⟩ (Nat.le_refl _) (Nat.le_refl _)
  · refine es_blk (pc' := 5) (L' := [some (.ref 127), some (.int p0), some (.int t1.1)]) (st' := [.int 8, .int t1.1]) [(.iload_n 2, 0), (.bipush 8, 8)] (by decide +kernel) rfl rfl ?_
    refine es_ige (tgt := 30) (off := (25)) (by decide +kernel) (by decide) (fun h6 => ?_) (fun h6 => ?_)
    · refine es_blk (pc' := 9) (L' := [some (.ref 127), some (.int p0), some (.int t1.1)]) (st' := [.ref 127]) [(.aload_n 0, 0)] (by decide +kernel) rfl rfl ?_
      refine ef_getP (k := 127) (j := 74) (q := 188) rfl eL_12_193 rfl rfl rfl (by decide +kernel) ?_
      refine es_blk (pc' := 18) (L' := [some (.ref 127), some (.int p0), some (.int t1.1)]) (st' := [.int ((8 * p0) + t1.1), .ref 188]) [(.bipush 8, 8), (.iload_n 1, 0), (.imul, 0), (.iload_n 2, 0), (.iadd, 0)] (by decide +kernel) rfl rfl ?_
      refine ef_stat (i := 2) (by decide) eG_12_234 (by decide +kernel) ?_
      refine es_blk (pc' := 22) (L' := [some (.ref 127), some (.int p0), some (.int t1.1)]) (st' := [.int t1.1, .ref (eh_SB + 2), .int ((8 * p0) + t1.1), .ref 188]) [(.iload_n 2, 0)] (by decide +kernel) rfl rfl ?_
      refine ef_tld (i := 2) (by decide) (by decide +kernel) (fun _ => ?_)
      refine ef_ast (k := 188) rfl (by decide +kernel) (fun _ => ?_)
      refine ef_V (fun _ => [some (.ref 127), some (.int p0), some (.int t1.1)]) (fun _ => []) (fun s7 => eh_FW s7) (fun s7 => ?_)
      refine es_blk (pc' := 27) (L' := [some (.ref 127), some (.int p0), some (.int (t1.1 + 1))]) (st' := []) [(.iinc 2 1, 1)] (by decide +kernel) rfl rfl ?_
      refine ef_V (fun x8 => [some (.ref 127), some (.int p0), some (.int x8)]) (fun _ => []) (fun _ => eh_FW s7) (fun x8 => ?_)
      refine es_goto (tgt := 2) (off := (-25)) (by decide +kernel) (by decide) ?_
      exact Hr5 (x8, s7)
    refine ef_drop (L2 := [some (.ref 127), some (.int p0), none]) [true, true, false] rfl rfl ?_
    exact HxK4_0 t1.2
def eF_12_say (s : eh_F) (p0 : Int32) : Option (eh_F) := Option.bind (eh_loop (fun (r5 : (Int32 × eh_F) → Option (eh_F)) (t1 : Int32 × eh_F) => if t1.1 < 4 then (if eh_in ((t1.2.1 127 79) + t1.1) 256 then eh_V (eh_tI t1.2 192 (eh_ix ((t1.2.1 127 79) + t1.1)) (eh_nb (eh_nb (eh_shr p0 (8 * t1.1))))) (fun s7 => eh_V ((t1.1 + 1) : Int32) (fun x8 => r5 (x8, s7))) else none) else (some t1.2)) eh_FU (0, s)) (fun (e2 : eh_F) => eh_V (eh_tI e2 127 79 ((e2.1 127 79) + 4)) (fun s3 => some s3))
set_option maxHeartbeats 4000000 in
set_option maxRecDepth 100000 in
theorem eS_12_say (g : eh_P) (s : eh_F) (p0 : Int32) : eh_Sim g eM_12_say (eh_R 1 0 0) eh_eV 0 0 0 (eh_en 3 [.ref 127, .int p0]) [] (eh_FW s) (eF_12_say s p0) := by
  unfold eF_12_say
  refine ef_top (L := [some (.ref 127), some (.int p0), none]) rfl ?_
  refine es_blk (pc' := 2) (L' := [some (.ref 127), some (.int p0), some (.int 0)]) (st' := []) [(.iconst 0, 0), (.istore_n 2, 0)] (by decide +kernel) rfl rfl ?_
  refine ef_loop1 (n := eh_FU) (i := (0, s)) (px := 31) (fun (t1 : Int32 × eh_F) => [some (.ref 127), some (.int p0), some (.int t1.1)]) (fun (t1 : Int32 × eh_F) => []) (fun (t1 : Int32 × eh_F) => eh_FW t1.2) (fun (e2 : eh_F) => [some (.ref 127), none, none]) (fun (e2 : eh_F) => []) (fun (e2 : eh_F) => eh_FW e2) (fun e2 => ?_) (fun K4 HxK4_0 r5 Hr5 t1 => ?_)
  · refine es_blk (pc' := 33) (L' := [some (.ref 127), none, none]) (st' := [.ref 127, .ref 127]) [(.aload_n 0, 0), (.dup, 0)] (by decide +kernel) rfl rfl ?_
    refine ef_getI (k := 127) (j := 79) rfl eL_12_258 (by decide) (by decide +kernel) ?_
    refine es_blk (pc' := 38) (L' := [some (.ref 127), none, none]) (st' := [.int ((e2.1 127 79) + 4), .ref 127]) [(.iconst 4, 4), (.iadd, 0)] (by decide +kernel) rfl rfl ?_
    refine ef_putI (k := 127) (j := 79) rfl eL_12_258 rfl rfl (by decide +kernel) ?_
    refine ef_V (fun _ => [some (.ref 127), none, none]) (fun _ => []) (fun s3 => eh_FW s3) (fun s3 => ?_)
    exact es_ret rfl rfl rfl ⟨by decide +kernel, rfl⟩ (Nat.le_refl _) (Nat.le_refl _)
  · refine es_blk (pc' := 4) (L' := [some (.ref 127), some (.int p0), some (.int t1.1)]) (st' := [.int 4, .int t1.1]) [(.iload_n 2, 0), (.iconst 4, 4)] (by decide +kernel) rfl rfl ?_
    refine es_ige (tgt := 31) (off := (27)) (by decide +kernel) (by decide) (fun h6 => ?_) (fun h6 => ?_)
    · refine es_blk (pc' := 8) (L' := [some (.ref 127), some (.int p0), some (.int t1.1)]) (st' := [.ref 127]) [(.aload_n 0, 0)] (by decide +kernel) rfl rfl ?_
      refine ef_getP (k := 127) (j := 78) (q := 192) rfl eL_12_206 rfl rfl rfl (by decide +kernel) ?_
      refine es_blk (pc' := 12) (L' := [some (.ref 127), some (.int p0), some (.int t1.1)]) (st' := [.ref 127, .ref 192]) [(.aload_n 0, 0)] (by decide +kernel) rfl rfl ?_
      refine ef_getI (k := 127) (j := 79) rfl eL_12_258 (by decide) (by decide +kernel) ?_
      refine es_blk (pc' := 24) (L' := [some (.ref 127), some (.int p0), some (.int t1.1)]) (st' := [.int (eh_nb (eh_shr p0 (8 * t1.1))), .int ((t1.2.1 127 79) + t1.1), .ref 192]) [(.iload_n 2, 0), (.iadd, 0), (.iload_n 1, 0), (.bipush 8, 8), (.iload_n 2, 0), (.imul, 0), (.ishr, 0), (.i2b, 0)] (by decide +kernel) rfl rfl ?_
      refine ef_astB (k := 192) rfl (by decide +kernel) (fun _ => ?_)
      refine ef_V (fun _ => [some (.ref 127), some (.int p0), some (.int t1.1)]) (fun _ => []) (fun s7 => eh_FW s7) (fun s7 => ?_)
      refine es_blk (pc' := 28) (L' := [some (.ref 127), some (.int p0), some (.int (t1.1 + 1))]) (st' := []) [(.iinc 2 1, 1)] (by decide +kernel) rfl rfl ?_
      refine ef_V (fun x8 => [some (.ref 127), some (.int p0), some (.int x8)]) (fun _ => []) (fun _ => eh_FW s7) (fun x8 => ?_)
      refine es_goto (tgt := 2) (off := (-26)) (by decide +kernel) (by decide) ?_
      exact Hr5 (x8, s7)
    refine ef_drop (L2 := [some (.ref 127), none, none]) [true, false, false] rfl rfl ?_
    exact HxK4_0 t1.2
def eF_12_sayBytes (s : eh_F) (p0 np0 : Nat) (p1 : Int32) (p2 : Int32) : Option (eh_F) := Option.bind (eh_loop (fun (r5 : (Int32 × eh_F) → Option (eh_F)) (t1 : Int32 × eh_F) => if t1.1 < p2 then (if eh_in (p1 + t1.1) np0 then if eh_in ((t1.2.1 127 79) + t1.1) 256 then eh_V (eh_tI t1.2 192 (eh_ix ((t1.2.1 127 79) + t1.1)) (eh_nb (t1.2.1 p0 (eh_ix (p1 + t1.1))))) (fun s7 => eh_V ((t1.1 + 1) : Int32) (fun x8 => r5 (x8, s7))) else none else none) else (some t1.2)) eh_FU (0, s)) (fun (e2 : eh_F) => eh_V (eh_tI e2 127 79 ((e2.1 127 79) + p2)) (fun s3 => some s3))
set_option maxHeartbeats 4000000 in
set_option maxRecDepth 100000 in
theorem eS_12_sayBytes (g : eh_P) (s : eh_F) (p0 np0 : Nat) (p1 : Int32) (p2 : Int32) (hp0 : eh_SH[p0]? = some (101, np0)) : eh_Sim g eM_12_sayBytes (eh_R 1 0 0) eh_eV 0 0 0 (eh_en 5 [.ref 127, .ref p0, .int p1, .int p2]) [] (eh_FW s) (eF_12_sayBytes s p0 np0 p1 p2) := by
  unfold eF_12_sayBytes
  refine ef_top (L := [some (.ref 127), some (.ref p0), some (.int p1), some (.int p2), none]) rfl ?_
  refine es_blk (pc' := 3) (L' := [some (.ref 127), some (.ref p0), some (.int p1), some (.int p2), some (.int 0)]) (st' := []) [(.iconst 0, 0), (.istore 4, 0)] (by decide +kernel) rfl rfl ?_
  refine ef_loop1 (n := eh_FU) (i := (0, s)) (px := 33) (fun (t1 : Int32 × eh_F) => [some (.ref 127), some (.ref p0), some (.int p1), some (.int p2), some (.int t1.1)]) (fun (t1 : Int32 × eh_F) => []) (fun (t1 : Int32 × eh_F) => eh_FW t1.2) (fun (e2 : eh_F) => [some (.ref 127), none, none, some (.int p2), none]) (fun (e2 : eh_F) => []) (fun (e2 : eh_F) => eh_FW e2) (fun e2 => ?_) (fun K4 HxK4_0 r5 Hr5 t1 => ?_)
  · refine es_blk (pc' := 35) (L' := [some (.ref 127), none, none, some (.int p2), none]) (st' := [.ref 127, .ref 127]) [(.aload_n 0, 0), (.dup, 0)] (by decide +kernel) rfl rfl ?_
    refine ef_getI (k := 127) (j := 79) rfl eL_12_258 (by decide) (by decide +kernel) ?_
    refine es_blk (pc' := 40) (L' := [some (.ref 127), none, none, some (.int p2), none]) (st' := [.int ((e2.1 127 79) + p2), .ref 127]) [(.iload_n 3, 0), (.iadd, 0)] (by decide +kernel) rfl rfl ?_
    refine ef_putI (k := 127) (j := 79) rfl eL_12_258 rfl rfl (by decide +kernel) ?_
    refine ef_V (fun _ => [some (.ref 127), none, none, some (.int p2), none]) (fun _ => []) (fun s3 => eh_FW s3) (fun s3 => ?_)
    exact es_ret rfl rfl rfl ⟨by decide +kernel, rfl⟩ (Nat.le_refl _) (Nat.le_refl _)
  · refine es_blk (pc' := 6) (L' := [some (.ref 127), some (.ref p0), some (.int p1), some (.int p2), some (.int t1.1)]) (st' := [.int p2, .int t1.1]) [(.iload 4, 0), (.iload_n 3, 0)] (by decide +kernel) rfl rfl ?_
    refine es_ige (tgt := 33) (off := (27)) (by decide +kernel) (by decide) (fun h6 => ?_) (fun h6 => ?_)
    · refine es_blk (pc' := 10) (L' := [some (.ref 127), some (.ref p0), some (.int p1), some (.int p2), some (.int t1.1)]) (st' := [.ref 127]) [(.aload_n 0, 0)] (by decide +kernel) rfl rfl ?_
      refine ef_getP (k := 127) (j := 78) (q := 192) rfl eL_12_206 rfl rfl rfl (by decide +kernel) ?_
      refine es_blk (pc' := 14) (L' := [some (.ref 127), some (.ref p0), some (.int p1), some (.int p2), some (.int t1.1)]) (st' := [.ref 127, .ref 192]) [(.aload_n 0, 0)] (by decide +kernel) rfl rfl ?_
      refine ef_getI (k := 127) (j := 79) rfl eL_12_258 (by decide) (by decide +kernel) ?_
      refine es_blk (pc' := 25) (L' := [some (.ref 127), some (.ref p0), some (.int p1), some (.int p2), some (.int t1.1)]) (st' := [.int (p1 + t1.1), .ref p0, .int ((t1.2.1 127 79) + t1.1), .ref 192]) [(.iload 4, 0), (.iadd, 0), (.aload_n 1, 0), (.iload_n 2, 0), (.iload 4, 0), (.iadd, 0)] (by decide +kernel) rfl rfl ?_
      refine ef_ald (k := p0) hp0 (Or.inr ⟨Or.inl rfl, rfl⟩) (by decide +kernel) (fun _ => ?_)
      refine ef_astB (k := 192) rfl (by decide +kernel) (fun _ => ?_)
      refine ef_V (fun _ => [some (.ref 127), some (.ref p0), some (.int p1), some (.int p2), some (.int t1.1)]) (fun _ => []) (fun s7 => eh_FW s7) (fun s7 => ?_)
      refine es_blk (pc' := 30) (L' := [some (.ref 127), some (.ref p0), some (.int p1), some (.int p2), some (.int (t1.1 + 1))]) (st' := []) [(.iinc 4 1, 1)] (by decide +kernel) rfl rfl ?_
      refine ef_V (fun x8 => [some (.ref 127), some (.ref p0), some (.int p1), some (.int p2), some (.int x8)]) (fun _ => []) (fun _ => eh_FW s7) (fun x8 => ?_)
      refine es_goto (tgt := 3) (off := (-27)) (by decide +kernel) (by decide) ?_
      exact Hr5 (x8, s7)
    refine ef_drop (L2 := [some (.ref 127), none, none, some (.int p2), none]) [true, false, false, true, false] rfl rfl ?_
    exact HxK4_0 t1.2
def eF_12_bigWord (s : eh_F) (p0 np0 : Nat) (p1 : Int32) : Option (Int32) := if eh_in p1 np0 then if eh_in (p1 + 1) np0 then if eh_in (p1 + 2) np0 then if eh_in (p1 + 3) np0 then some ((((eh_shl ((s.1 p0 (eh_ix p1)) &&& 255) 24) ||| (eh_shl ((s.1 p0 (eh_ix (p1 + 1))) &&& 255) 16)) ||| (eh_shl ((s.1 p0 (eh_ix (p1 + 2))) &&& 255) 8)) ||| ((s.1 p0 (eh_ix (p1 + 3))) &&& 255)) else none else none else none else none
set_option maxHeartbeats 4000000 in
set_option maxRecDepth 100000 in
theorem eS_12_bigWord (g : eh_P) (s : eh_F) (p0 np0 : Nat) (p1 : Int32) (hp0 : eh_SH[p0]? = some (101, np0)) : eh_Sim g eM_12_bigWord (eh_R 1 0 0) (eh_pI s) 0 0 0 (eh_en 2 [.ref p0, .int p1]) [] (eh_FW s) (eF_12_bigWord s p0 np0 p1) := by
  unfold eF_12_bigWord
  refine ef_top (L := [some (.ref p0), some (.int p1)]) rfl ?_
  refine es_blk (pc' := 2) (L' := [some (.ref p0), some (.int p1)]) (st' := [.int p1, .ref p0]) [(.aload_n 0, 0), (.iload_n 1, 0)] (by decide +kernel) rfl rfl ?_
  refine ef_ald (k := p0) hp0 (Or.inr ⟨Or.inl rfl, rfl⟩) (by decide +kernel) (fun _ => ?_)
  refine es_blk (pc' := 14) (L' := [some (.ref p0), some (.int p1)]) (st' := [.int (p1 + 1), .ref p0, .int (eh_shl ((s.1 p0 (eh_ix p1)) &&& 255) 24)]) [(.sipush 255, 255), (.iand, 0), (.bipush 24, 24), (.ishl, 0), (.aload_n 0, 0), (.iload_n 1, 0), (.iconst 1, 1), (.iadd, 0)] (by decide +kernel) rfl rfl ?_
  refine ef_ald (k := p0) hp0 (Or.inr ⟨Or.inl rfl, rfl⟩) (by decide +kernel) (fun _ => ?_)
  refine es_blk (pc' := 27) (L' := [some (.ref p0), some (.int p1)]) (st' := [.int (p1 + 2), .ref p0, .int ((eh_shl ((s.1 p0 (eh_ix p1)) &&& 255) 24) ||| (eh_shl ((s.1 p0 (eh_ix (p1 + 1))) &&& 255) 16))]) [(.sipush 255, 255), (.iand, 0), (.bipush 16, 16), (.ishl, 0), (.ior, 0), (.aload_n 0, 0), (.iload_n 1, 0), (.iconst 2, 2), (.iadd, 0)] (by decide +kernel) rfl rfl ?_
  refine ef_ald (k := p0) hp0 (Or.inr ⟨Or.inl rfl, rfl⟩) (by decide +kernel) (fun _ => ?_)
  refine es_blk (pc' := 40) (L' := [some (.ref p0), some (.int p1)]) (st' := [.int (p1 + 3), .ref p0, .int (((eh_shl ((s.1 p0 (eh_ix p1)) &&& 255) 24) ||| (eh_shl ((s.1 p0 (eh_ix (p1 + 1))) &&& 255) 16)) ||| (eh_shl ((s.1 p0 (eh_ix (p1 + 2))) &&& 255) 8))]) [(.sipush 255, 255), (.iand, 0), (.bipush 8, 8), (.ishl, 0), (.ior, 0), (.aload_n 0, 0), (.iload_n 1, 0), (.iconst 3, 3), (.iadd, 0)] (by decide +kernel) rfl rfl ?_
  refine ef_ald (k := p0) hp0 (Or.inr ⟨Or.inl rfl, rfl⟩) (by decide +kernel) (fun _ => ?_)
  refine es_blk (pc' := 46) (L' := [some (.ref p0), some (.int p1)]) (st' := [.int ((((eh_shl ((s.1 p0 (eh_ix p1)) &&& 255) 24) ||| (eh_shl ((s.1 p0 (eh_ix (p1 + 1))) &&& 255) 16)) ||| (eh_shl ((s.1 p0 (eh_ix (p1 + 2))) &&& 255) 8)) ||| ((s.1 p0 (eh_ix (p1 + 3))) &&& 255))]) [(.sipush 255, 255), (.iand, 0), (.ior, 0)] (by decide +kernel) rfl rfl ?_
  exact es_ret rfl rfl rfl ⟨by decide +kernel, _, rfl, rfl⟩ (Nat.le_refl _) (Nat.le_refl _)
def eF_12_littleWord (s : eh_F) (p0 np0 : Nat) (p1 : Int32) : Option (Int32) := if eh_in p1 np0 then if eh_in (p1 + 1) np0 then if eh_in (p1 + 2) np0 then if eh_in (p1 + 3) np0 then some (((((s.1 p0 (eh_ix p1)) &&& 255) ||| (eh_shl ((s.1 p0 (eh_ix (p1 + 1))) &&& 255) 8)) ||| (eh_shl ((s.1 p0 (eh_ix (p1 + 2))) &&& 255) 16)) ||| (eh_shl ((s.1 p0 (eh_ix (p1 + 3))) &&& 255) 24)) else none else none else none else none
set_option maxHeartbeats 4000000 in
set_option maxRecDepth 100000 in
theorem eS_12_littleWord (g : eh_P) (s : eh_F) (p0 np0 : Nat) (p1 : Int32) (hp0 : eh_SH[p0]? = some (101, np0)) : eh_Sim g eM_12_littleWord (eh_R 1 0 0) (eh_pI s) 0 0 0 (eh_en 2 [.ref p0, .int p1]) [] (eh_FW s) (eF_12_littleWord s p0 np0 p1) := by
  unfold eF_12_littleWord
  refine ef_top (L := [some (.ref p0), some (.int p1)]) rfl ?_
  refine es_blk (pc' := 2) (L' := [some (.ref p0), some (.int p1)]) (st' := [.int p1, .ref p0]) [(.aload_n 0, 0), (.iload_n 1, 0)] (by decide +kernel) rfl rfl ?_
  refine ef_ald (k := p0) hp0 (Or.inr ⟨Or.inl rfl, rfl⟩) (by decide +kernel) (fun _ => ?_)
  refine es_blk (pc' := 11) (L' := [some (.ref p0), some (.int p1)]) (st' := [.int (p1 + 1), .ref p0, .int ((s.1 p0 (eh_ix p1)) &&& 255)]) [(.sipush 255, 255), (.iand, 0), (.aload_n 0, 0), (.iload_n 1, 0), (.iconst 1, 1), (.iadd, 0)] (by decide +kernel) rfl rfl ?_
  refine ef_ald (k := p0) hp0 (Or.inr ⟨Or.inl rfl, rfl⟩) (by decide +kernel) (fun _ => ?_)
  refine es_blk (pc' := 24) (L' := [some (.ref p0), some (.int p1)]) (st' := [.int (p1 + 2), .ref p0, .int (((s.1 p0 (eh_ix p1)) &&& 255) ||| (eh_shl ((s.1 p0 (eh_ix (p1 + 1))) &&& 255) 8))]) [(.sipush 255, 255), (.iand, 0), (.bipush 8, 8), (.ishl, 0), (.ior, 0), (.aload_n 0, 0), (.iload_n 1, 0), (.iconst 2, 2), (.iadd, 0)] (by decide +kernel) rfl rfl ?_
  refine ef_ald (k := p0) hp0 (Or.inr ⟨Or.inl rfl, rfl⟩) (by decide +kernel) (fun _ => ?_)
  refine es_blk (pc' := 37) (L' := [some (.ref p0), some (.int p1)]) (st' := [.int (p1 + 3), .ref p0, .int ((((s.1 p0 (eh_ix p1)) &&& 255) ||| (eh_shl ((s.1 p0 (eh_ix (p1 + 1))) &&& 255) 8)) ||| (eh_shl ((s.1 p0 (eh_ix (p1 + 2))) &&& 255) 16))]) [(.sipush 255, 255), (.iand, 0), (.bipush 16, 16), (.ishl, 0), (.ior, 0), (.aload_n 0, 0), (.iload_n 1, 0), (.iconst 3, 3), (.iadd, 0)] (by decide +kernel) rfl rfl ?_
  refine ef_ald (k := p0) hp0 (Or.inr ⟨Or.inl rfl, rfl⟩) (by decide +kernel) (fun _ => ?_)
  refine es_blk (pc' := 46) (L' := [some (.ref p0), some (.int p1)]) (st' := [.int (((((s.1 p0 (eh_ix p1)) &&& 255) ||| (eh_shl ((s.1 p0 (eh_ix (p1 + 1))) &&& 255) 8)) ||| (eh_shl ((s.1 p0 (eh_ix (p1 + 2))) &&& 255) 16)) ||| (eh_shl ((s.1 p0 (eh_ix (p1 + 3))) &&& 255) 24))]) [(.sipush 255, 255), (.iand, 0), (.bipush 24, 24), (.ishl, 0), (.ior, 0)] (by decide +kernel) rfl rfl ?_
  exact es_ret rfl rfl rfl ⟨by decide +kernel, _, rfl, rfl⟩ (Nat.le_refl _) (Nat.le_refl _)
def eF_12_clearPath (s : eh_F) (p0 : Int32) : Option (eh_F) := eh_V (eh_tI s 127 67 p0) (fun s1 => eh_V (eh_tI s1 127 64 0) (fun s2 => eh_V (eh_tI s2 127 66 0) (fun s3 => some s3)))
set_option maxHeartbeats 4000000 in
set_option maxRecDepth 100000 in
theorem eS_12_clearPath (g : eh_P) (s : eh_F) (p0 : Int32) : eh_Sim g eM_12_clearPath (eh_R 1 0 0) eh_eV 0 0 0 (eh_en 2 [.ref 127, .int p0]) [] (eh_FW s) (eF_12_clearPath s p0) := by
  unfold eF_12_clearPath
  refine ef_top (L := [some (.ref 127), some (.int p0)]) rfl ?_
  refine es_blk (pc' := 2) (L' := [some (.ref 127), some (.int p0)]) (st' := [.int p0, .ref 127]) [(.aload_n 0, 0), (.iload_n 1, 0)] (by decide +kernel) rfl rfl ?_
  refine ef_putI (k := 127) (j := 67) rfl eL_12_311 rfl rfl (by decide +kernel) ?_
  refine ef_V (fun _ => [some (.ref 127), some (.int p0)]) (fun _ => []) (fun s1 => eh_FW s1) (fun s1 => ?_)
  refine es_blk (pc' := 7) (L' := [some (.ref 127), some (.int p0)]) (st' := [.int 0, .ref 127]) [(.aload_n 0, 0), (.iconst 0, 0)] (by decide +kernel) rfl rfl ?_
  refine ef_putI (k := 127) (j := 64) rfl eL_12_314 rfl rfl (by decide +kernel) ?_
  refine ef_V (fun _ => [some (.ref 127), some (.int p0)]) (fun _ => []) (fun s2 => eh_FW s2) (fun s2 => ?_)
  refine es_blk (pc' := 12) (L' := [some (.ref 127), some (.int p0)]) (st' := [.int 0, .ref 127]) [(.aload_n 0, 0), (.iconst 0, 0)] (by decide +kernel) rfl rfl ?_
  refine ef_putI (k := 127) (j := 66) rfl eL_12_317 rfl rfl (by decide +kernel) ?_
  refine ef_V (fun _ => [some (.ref 127), some (.int p0)]) (fun _ => []) (fun s3 => eh_FW s3) (fun s3 => ?_)
  exact es_ret rfl rfl rfl ⟨by decide +kernel, rfl⟩ (Nat.le_refl _) (Nat.le_refl _)
def eF_12_isOpen (s : eh_F) (p0 : Int32) : Option (Int32) := Option.bind (eh_loop (fun (r5 : (Int32 × Int32) → Option (Int32)) (t1 : Int32 × Int32) => if t1.2 < 12 then (eh_J (fun (a8 : Int32) => eh_V ((t1.2 + 1) : Int32) (fun x9 => r5 (a8, x9))) (fun j7 => eh_J (fun (u11 : Unit) => j7 0) (fun j10 => if t1.1 = 0 then (j10 ()) else (if eh_in t1.2 12 then eh_J (fun (u14 : Unit) => j7 1) (fun j13 => if (s.1 164 (eh_ix t1.2)) = 0 then (j13 ()) else (if eh_in t1.2 12 then if (s.1 164 (eh_ix t1.2)) = 2 then (j13 ()) else (if eh_in t1.2 12 then if p0 < (s.1 165 (eh_ix t1.2)) then (j13 ()) else (if eh_in t1.2 12 then if eh_in t1.2 12 then if p0 < ((s.1 165 (eh_ix t1.2)) + (s.1 166 (eh_ix t1.2))) then (j10 ()) else (j13 ()) else none else none) else none) else none)) else none)))) else (some t1.1)) eh_FU (1, 0)) (fun (e2 : Int32) => if e2 = 0 ∨ e2 = 1 then some e2 else none)
set_option maxHeartbeats 4000000 in
set_option maxRecDepth 100000 in
theorem eS_12_isOpen (g : eh_P) (s : eh_F) (p0 : Int32) : eh_Sim g eM_12_isOpen (eh_R 1 0 0) (eh_pI s) 0 0 0 (eh_en 4 [.ref 127, .int p0]) [] (eh_FW s) (eF_12_isOpen s p0) := by
  unfold eF_12_isOpen
  refine ef_top (L := [some (.ref 127), some (.int p0), none, none]) rfl ?_
  refine es_blk (pc' := 4) (L' := [some (.ref 127), some (.int p0), some (.int 1), some (.int 0)]) (st' := []) [(.iconst 1, 1), (.istore_n 2, 0), (.iconst 0, 0), (.istore_n 3, 0)] (by decide +kernel) rfl rfl ?_
  refine ef_loop1 (n := eh_FU) (i := (1, 0)) (px := 72) (fun (t1 : Int32 × Int32) => [some (.ref 127), some (.int p0), some (.int t1.1), some (.int t1.2)]) (fun (t1 : Int32 × Int32) => []) (fun (t1 : Int32 × Int32) => eh_FW s) (fun (e2 : Int32) => [none, none, some (.int e2), none]) (fun (e2 : Int32) => []) (fun (e2 : Int32) => eh_FW s) (fun e2 => ?_) (fun K4 HxK4_0 r5 Hr5 t1 => ?_)
  · refine es_blk (pc' := 73) (L' := [none, none, some (.int e2), none]) (st' := [.int e2]) [(.iload_n 2, 0)] (by decide +kernel) rfl rfl ?_
    refine es_chk (fun h3 => ?_)
    exact es_ret rfl rfl rfl ⟨by decide +kernel, _, rfl, eh_narZ h3⟩ (Nat.le_refl _) (Nat.le_refl _)
  · refine es_blk (pc' := 7) (L' := [some (.ref 127), some (.int p0), some (.int t1.1), some (.int t1.2)]) (st' := [.int 12, .int t1.2]) [(.iload_n 3, 0), (.bipush 12, 12)] (by decide +kernel) rfl rfl ?_
    refine es_ige (tgt := 72) (off := (65)) (by decide +kernel) (by decide) (fun h6 => ?_) (fun h6 => ?_)
    · refine es_blk (pc' := 11) (L' := [some (.ref 127), some (.int p0), some (.int t1.1), some (.int t1.2)]) (st' := [.int t1.1]) [(.iload_n 2, 0)] (by decide +kernel) rfl rfl ?_
      refine ef_J (X := fun j7 => ∀ (a8 : Int32), eh_Sim g eM_12_isOpen (eh_R 1 0 0) (eh_pI s) 0 0 65 [some (.ref 127), some (.int p0), none, some (.int t1.2)] [.int a8] (eh_FW s) ((j7 a8).bind K4)) ?_ (fun j7 Hj7 => ?_)
      · intro a8
        refine es_blk (pc' := 69) (L' := [some (.ref 127), some (.int p0), some (.int a8), some (.int (t1.2 + 1))]) (st' := []) [(.istore_n 2, 0), (.iinc 3 1, 1)] (by decide +kernel) rfl rfl ?_
        refine ef_V (fun x9 => [some (.ref 127), some (.int p0), some (.int a8), some (.int x9)]) (fun _ => []) (fun _ => eh_FW s) (fun x9 => ?_)
        refine es_goto (tgt := 4) (off := (-65)) (by decide +kernel) (by decide) ?_
        exact Hr5 (a8, x9)
      refine ef_J (X := fun j10 => ∀ (u11 : Unit), eh_Sim g eM_12_isOpen (eh_R 1 0 0) (eh_pI s) 0 0 64 [some (.ref 127), some (.int p0), none, some (.int t1.2)] [] (eh_FW s) ((j10 u11).bind K4)) ?_ (fun j10 Hj10 => ?_)
      · intro u11
        refine es_blk (pc' := 65) (L' := [some (.ref 127), some (.int p0), none, some (.int t1.2)]) (st' := [.int 0]) [(.iconst 0, 0)] (by decide +kernel) rfl rfl ?_
        exact Hj7 _
      refine es_eq (tgt := 64) (off := (53)) (by decide +kernel) (by decide) (fun h12 => ?_) (fun h12 => ?_)
      · refine ef_drop (L2 := [some (.ref 127), some (.int p0), none, some (.int t1.2)]) [true, true, false, true] rfl rfl ?_
        exact Hj10 ()
      refine es_blk (pc' := 15) (L' := [some (.ref 127), some (.int p0), some (.int t1.1), some (.int t1.2)]) (st' := [.ref 127]) [(.aload_n 0, 0)] (by decide +kernel) rfl rfl ?_
      refine ef_getP (k := 127) (j := 39) (q := 164) rfl eL_12_121 rfl rfl rfl (by decide +kernel) ?_
      refine es_blk (pc' := 19) (L' := [some (.ref 127), some (.int p0), some (.int t1.1), some (.int t1.2)]) (st' := [.int t1.2, .ref 164]) [(.iload_n 3, 0)] (by decide +kernel) rfl rfl ?_
      refine ef_ald (k := 164) rfl (Or.inl ⟨rfl, rfl⟩) (by decide +kernel) (fun _ => ?_)
      refine ef_J (X := fun j13 => ∀ (u14 : Unit), eh_Sim g eM_12_isOpen (eh_R 1 0 0) (eh_pI s) 0 0 60 [some (.ref 127), some (.int p0), none, some (.int t1.2)] [] (eh_FW s) ((j13 u14).bind K4)) ?_ (fun j13 Hj13 => ?_)
      · intro u14
        refine es_blk (pc' := 61) (L' := [some (.ref 127), some (.int p0), none, some (.int t1.2)]) (st' := [.int 1]) [(.iconst 1, 1)] (by decide +kernel) rfl rfl ?_
        refine es_goto (tgt := 65) (off := (4)) (by decide +kernel) (by decide) ?_
        exact Hj7 _
      refine es_eq (tgt := 60) (off := (40)) (by decide +kernel) (by decide) (fun h15 => ?_) (fun h15 => ?_)
      · refine ef_drop (L2 := [some (.ref 127), some (.int p0), none, some (.int t1.2)]) [true, true, false, true] rfl rfl ?_
        exact Hj13 ()
      refine es_blk (pc' := 24) (L' := [some (.ref 127), some (.int p0), some (.int t1.1), some (.int t1.2)]) (st' := [.ref 127]) [(.aload_n 0, 0)] (by decide +kernel) rfl rfl ?_
      refine ef_getP (k := 127) (j := 39) (q := 164) rfl eL_12_121 rfl rfl rfl (by decide +kernel) ?_
      refine es_blk (pc' := 28) (L' := [some (.ref 127), some (.int p0), some (.int t1.1), some (.int t1.2)]) (st' := [.int t1.2, .ref 164]) [(.iload_n 3, 0)] (by decide +kernel) rfl rfl ?_
      refine ef_ald (k := 164) rfl (Or.inl ⟨rfl, rfl⟩) (by decide +kernel) (fun _ => ?_)
      refine es_blk (pc' := 30) (L' := [some (.ref 127), some (.int p0), some (.int t1.1), some (.int t1.2)]) (st' := [.int 2, .int (s.1 164 (eh_ix t1.2))]) [(.iconst 2, 2)] (by decide +kernel) rfl rfl ?_
      refine es_ieq (tgt := 60) (off := (30)) (by decide +kernel) (by decide) (fun h16 => ?_) (fun h16 => ?_)
      · refine ef_drop (L2 := [some (.ref 127), some (.int p0), none, some (.int t1.2)]) [true, true, false, true] rfl rfl ?_
        exact Hj13 ()
      refine es_blk (pc' := 35) (L' := [some (.ref 127), some (.int p0), some (.int t1.1), some (.int t1.2)]) (st' := [.ref 127, .int p0]) [(.iload_n 1, 0), (.aload_n 0, 0)] (by decide +kernel) rfl rfl ?_
      refine ef_getP (k := 127) (j := 40) (q := 165) rfl eL_12_124 rfl rfl rfl (by decide +kernel) ?_
      refine es_blk (pc' := 39) (L' := [some (.ref 127), some (.int p0), some (.int t1.1), some (.int t1.2)]) (st' := [.int t1.2, .ref 165, .int p0]) [(.iload_n 3, 0)] (by decide +kernel) rfl rfl ?_
      refine ef_ald (k := 165) rfl (Or.inl ⟨rfl, rfl⟩) (by decide +kernel) (fun _ => ?_)
      refine es_ilt (tgt := 60) (off := (20)) (by decide +kernel) (by decide) (fun h17 => ?_) (fun h17 => ?_)
      · refine ef_drop (L2 := [some (.ref 127), some (.int p0), none, some (.int t1.2)]) [true, true, false, true] rfl rfl ?_
        exact Hj13 ()
      refine es_blk (pc' := 45) (L' := [some (.ref 127), some (.int p0), some (.int t1.1), some (.int t1.2)]) (st' := [.ref 127, .int p0]) [(.iload_n 1, 0), (.aload_n 0, 0)] (by decide +kernel) rfl rfl ?_
      refine ef_getP (k := 127) (j := 40) (q := 165) rfl eL_12_124 rfl rfl rfl (by decide +kernel) ?_
      refine es_blk (pc' := 49) (L' := [some (.ref 127), some (.int p0), some (.int t1.1), some (.int t1.2)]) (st' := [.int t1.2, .ref 165, .int p0]) [(.iload_n 3, 0)] (by decide +kernel) rfl rfl ?_
      refine ef_ald (k := 165) rfl (Or.inl ⟨rfl, rfl⟩) (by decide +kernel) (fun _ => ?_)
      refine es_blk (pc' := 51) (L' := [some (.ref 127), some (.int p0), some (.int t1.1), some (.int t1.2)]) (st' := [.ref 127, .int (s.1 165 (eh_ix t1.2)), .int p0]) [(.aload_n 0, 0)] (by decide +kernel) rfl rfl ?_
      refine ef_getP (k := 127) (j := 41) (q := 166) rfl eL_12_127 rfl rfl rfl (by decide +kernel) ?_
      refine es_blk (pc' := 55) (L' := [some (.ref 127), some (.int p0), some (.int t1.1), some (.int t1.2)]) (st' := [.int t1.2, .ref 166, .int (s.1 165 (eh_ix t1.2)), .int p0]) [(.iload_n 3, 0)] (by decide +kernel) rfl rfl ?_
      refine ef_ald (k := 166) rfl (Or.inl ⟨rfl, rfl⟩) (by decide +kernel) (fun _ => ?_)
      refine es_blk (pc' := 57) (L' := [some (.ref 127), some (.int p0), some (.int t1.1), some (.int t1.2)]) (st' := [.int ((s.1 165 (eh_ix t1.2)) + (s.1 166 (eh_ix t1.2))), .int p0]) [(.iadd, 0)] (by decide +kernel) rfl rfl ?_
      refine es_ilt (tgt := 64) (off := (7)) (by decide +kernel) (by decide) (fun h18 => ?_) (fun h18 => ?_)
      · refine ef_drop (L2 := [some (.ref 127), some (.int p0), none, some (.int t1.2)]) [true, true, false, true] rfl rfl ?_
        exact Hj10 ()
      refine ef_drop (L2 := [some (.ref 127), some (.int p0), none, some (.int t1.2)]) [true, true, false, true] rfl rfl ?_
      exact Hj13 ()
    refine ef_drop (L2 := [none, none, some (.int t1.1), none]) [false, false, true, false] rfl rfl ?_
    exact HxK4_0 t1.1
def eF_12_areOpen (s : eh_F) (p0 : Int32) (p1 : Int32) : Option (Int32) := Option.bind (eh_loop (fun (r5 : (Int32 × Int32) → Option (Int32)) (t1 : Int32 × Int32) => if t1.2 < 12 then (eh_J (fun (a8 : Int32) => eh_V ((t1.2 + 1) : Int32) (fun x9 => r5 (a8, x9))) (fun j7 => eh_J (fun (u11 : Unit) => j7 0) (fun j10 => if t1.1 = 0 then (j10 ()) else (if eh_in t1.2 12 then eh_J (fun (u14 : Unit) => j7 1) (fun j13 => if (s.1 164 (eh_ix t1.2)) = 0 then (j13 ()) else (if eh_in t1.2 12 then if (s.1 164 (eh_ix t1.2)) = 2 then (j13 ()) else (if eh_in t1.2 12 then if eh_in t1.2 12 then if p0 < ((s.1 165 (eh_ix t1.2)) + (s.1 166 (eh_ix t1.2))) then (if eh_in t1.2 12 then if (s.1 165 (eh_ix t1.2)) < (p0 + p1) then (j10 ()) else (j13 ()) else none) else (j13 ()) else none else none) else none)) else none)))) else (some t1.1)) eh_FU (1, 0)) (fun (e2 : Int32) => if e2 = 0 ∨ e2 = 1 then some e2 else none)
set_option maxHeartbeats 4000000 in
set_option maxRecDepth 100000 in
theorem eS_12_areOpen (g : eh_P) (s : eh_F) (p0 : Int32) (p1 : Int32) : eh_Sim g eM_12_areOpen (eh_R 1 0 0) (eh_pI s) 0 0 0 (eh_en 5 [.ref 127, .int p0, .int p1]) [] (eh_FW s) (eF_12_areOpen s p0 p1) := by
  unfold eF_12_areOpen
  refine ef_top (L := [some (.ref 127), some (.int p0), some (.int p1), none, none]) rfl ?_
  refine es_blk (pc' := 5) (L' := [some (.ref 127), some (.int p0), some (.int p1), some (.int 1), some (.int 0)]) (st' := []) [(.iconst 1, 1), (.istore_n 3, 0), (.iconst 0, 0), (.istore 4, 0)] (by decide +kernel) rfl rfl ?_
  refine ef_loop1 (n := eh_FU) (i := (1, 0)) (px := 81) (fun (t1 : Int32 × Int32) => [some (.ref 127), some (.int p0), some (.int p1), some (.int t1.1), some (.int t1.2)]) (fun (t1 : Int32 × Int32) => []) (fun (t1 : Int32 × Int32) => eh_FW s) (fun (e2 : Int32) => [none, none, none, some (.int e2), none]) (fun (e2 : Int32) => []) (fun (e2 : Int32) => eh_FW s) (fun e2 => ?_) (fun K4 HxK4_0 r5 Hr5 t1 => ?_)
  · refine es_blk (pc' := 82) (L' := [none, none, none, some (.int e2), none]) (st' := [.int e2]) [(.iload_n 3, 0)] (by decide +kernel) rfl rfl ?_
    refine es_chk (fun h3 => ?_)
    exact es_ret rfl rfl rfl ⟨by decide +kernel, _, rfl, eh_narZ h3⟩ (Nat.le_refl _) (Nat.le_refl _)
  · refine es_blk (pc' := 9) (L' := [some (.ref 127), some (.int p0), some (.int p1), some (.int t1.1), some (.int t1.2)]) (st' := [.int 12, .int t1.2]) [(.iload 4, 0), (.bipush 12, 12)] (by decide +kernel) rfl rfl ?_
    refine es_ige (tgt := 81) (off := (72)) (by decide +kernel) (by decide) (fun h6 => ?_) (fun h6 => ?_)
    · refine es_blk (pc' := 13) (L' := [some (.ref 127), some (.int p0), some (.int p1), some (.int t1.1), some (.int t1.2)]) (st' := [.int t1.1]) [(.iload_n 3, 0)] (by decide +kernel) rfl rfl ?_
      refine ef_J (X := fun j7 => ∀ (a8 : Int32), eh_Sim g eM_12_areOpen (eh_R 1 0 0) (eh_pI s) 0 0 74 [some (.ref 127), some (.int p0), some (.int p1), none, some (.int t1.2)] [.int a8] (eh_FW s) ((j7 a8).bind K4)) ?_ (fun j7 Hj7 => ?_)
      · intro a8
        refine es_blk (pc' := 78) (L' := [some (.ref 127), some (.int p0), some (.int p1), some (.int a8), some (.int (t1.2 + 1))]) (st' := []) [(.istore_n 3, 0), (.iinc 4 1, 1)] (by decide +kernel) rfl rfl ?_
        refine ef_V (fun x9 => [some (.ref 127), some (.int p0), some (.int p1), some (.int a8), some (.int x9)]) (fun _ => []) (fun _ => eh_FW s) (fun x9 => ?_)
        refine es_goto (tgt := 5) (off := (-73)) (by decide +kernel) (by decide) ?_
        exact Hr5 (a8, x9)
      refine ef_J (X := fun j10 => ∀ (u11 : Unit), eh_Sim g eM_12_areOpen (eh_R 1 0 0) (eh_pI s) 0 0 73 [some (.ref 127), some (.int p0), some (.int p1), none, some (.int t1.2)] [] (eh_FW s) ((j10 u11).bind K4)) ?_ (fun j10 Hj10 => ?_)
      · intro u11
        refine es_blk (pc' := 74) (L' := [some (.ref 127), some (.int p0), some (.int p1), none, some (.int t1.2)]) (st' := [.int 0]) [(.iconst 0, 0)] (by decide +kernel) rfl rfl ?_
        exact Hj7 _
      refine es_eq (tgt := 73) (off := (60)) (by decide +kernel) (by decide) (fun h12 => ?_) (fun h12 => ?_)
      · refine ef_drop (L2 := [some (.ref 127), some (.int p0), some (.int p1), none, some (.int t1.2)]) [true, true, true, false, true] rfl rfl ?_
        exact Hj10 ()
      refine es_blk (pc' := 17) (L' := [some (.ref 127), some (.int p0), some (.int p1), some (.int t1.1), some (.int t1.2)]) (st' := [.ref 127]) [(.aload_n 0, 0)] (by decide +kernel) rfl rfl ?_
      refine ef_getP (k := 127) (j := 39) (q := 164) rfl eL_12_121 rfl rfl rfl (by decide +kernel) ?_
      refine es_blk (pc' := 22) (L' := [some (.ref 127), some (.int p0), some (.int p1), some (.int t1.1), some (.int t1.2)]) (st' := [.int t1.2, .ref 164]) [(.iload 4, 0)] (by decide +kernel) rfl rfl ?_
      refine ef_ald (k := 164) rfl (Or.inl ⟨rfl, rfl⟩) (by decide +kernel) (fun _ => ?_)
      refine ef_J (X := fun j13 => ∀ (u14 : Unit), eh_Sim g eM_12_areOpen (eh_R 1 0 0) (eh_pI s) 0 0 69 [some (.ref 127), some (.int p0), some (.int p1), none, some (.int t1.2)] [] (eh_FW s) ((j13 u14).bind K4)) ?_ (fun j13 Hj13 => ?_)
      · intro u14
        refine es_blk (pc' := 70) (L' := [some (.ref 127), some (.int p0), some (.int p1), none, some (.int t1.2)]) (st' := [.int 1]) [(.iconst 1, 1)] (by decide +kernel) rfl rfl ?_
        refine es_goto (tgt := 74) (off := (4)) (by decide +kernel) (by decide) ?_
        exact Hj7 _
      refine es_eq (tgt := 69) (off := (46)) (by decide +kernel) (by decide) (fun h15 => ?_) (fun h15 => ?_)
      · refine ef_drop (L2 := [some (.ref 127), some (.int p0), some (.int p1), none, some (.int t1.2)]) [true, true, true, false, true] rfl rfl ?_
        exact Hj13 ()
      refine es_blk (pc' := 27) (L' := [some (.ref 127), some (.int p0), some (.int p1), some (.int t1.1), some (.int t1.2)]) (st' := [.ref 127]) [(.aload_n 0, 0)] (by decide +kernel) rfl rfl ?_
      refine ef_getP (k := 127) (j := 39) (q := 164) rfl eL_12_121 rfl rfl rfl (by decide +kernel) ?_
      refine es_blk (pc' := 32) (L' := [some (.ref 127), some (.int p0), some (.int p1), some (.int t1.1), some (.int t1.2)]) (st' := [.int t1.2, .ref 164]) [(.iload 4, 0)] (by decide +kernel) rfl rfl ?_
      refine ef_ald (k := 164) rfl (Or.inl ⟨rfl, rfl⟩) (by decide +kernel) (fun _ => ?_)
      refine es_blk (pc' := 34) (L' := [some (.ref 127), some (.int p0), some (.int p1), some (.int t1.1), some (.int t1.2)]) (st' := [.int 2, .int (s.1 164 (eh_ix t1.2))]) [(.iconst 2, 2)] (by decide +kernel) rfl rfl ?_
      refine es_ieq (tgt := 69) (off := (35)) (by decide +kernel) (by decide) (fun h16 => ?_) (fun h16 => ?_)
      · refine ef_drop (L2 := [some (.ref 127), some (.int p0), some (.int p1), none, some (.int t1.2)]) [true, true, true, false, true] rfl rfl ?_
        exact Hj13 ()
      refine es_blk (pc' := 39) (L' := [some (.ref 127), some (.int p0), some (.int p1), some (.int t1.1), some (.int t1.2)]) (st' := [.ref 127, .int p0]) [(.iload_n 1, 0), (.aload_n 0, 0)] (by decide +kernel) rfl rfl ?_
      refine ef_getP (k := 127) (j := 40) (q := 165) rfl eL_12_124 rfl rfl rfl (by decide +kernel) ?_
      refine es_blk (pc' := 44) (L' := [some (.ref 127), some (.int p0), some (.int p1), some (.int t1.1), some (.int t1.2)]) (st' := [.int t1.2, .ref 165, .int p0]) [(.iload 4, 0)] (by decide +kernel) rfl rfl ?_
      refine ef_ald (k := 165) rfl (Or.inl ⟨rfl, rfl⟩) (by decide +kernel) (fun _ => ?_)
      refine es_blk (pc' := 46) (L' := [some (.ref 127), some (.int p0), some (.int p1), some (.int t1.1), some (.int t1.2)]) (st' := [.ref 127, .int (s.1 165 (eh_ix t1.2)), .int p0]) [(.aload_n 0, 0)] (by decide +kernel) rfl rfl ?_
      refine ef_getP (k := 127) (j := 41) (q := 166) rfl eL_12_127 rfl rfl rfl (by decide +kernel) ?_
      refine es_blk (pc' := 51) (L' := [some (.ref 127), some (.int p0), some (.int p1), some (.int t1.1), some (.int t1.2)]) (st' := [.int t1.2, .ref 166, .int (s.1 165 (eh_ix t1.2)), .int p0]) [(.iload 4, 0)] (by decide +kernel) rfl rfl ?_
      refine ef_ald (k := 166) rfl (Or.inl ⟨rfl, rfl⟩) (by decide +kernel) (fun _ => ?_)
      refine es_blk (pc' := 53) (L' := [some (.ref 127), some (.int p0), some (.int p1), some (.int t1.1), some (.int t1.2)]) (st' := [.int ((s.1 165 (eh_ix t1.2)) + (s.1 166 (eh_ix t1.2))), .int p0]) [(.iadd, 0)] (by decide +kernel) rfl rfl ?_
      refine es_ige (tgt := 69) (off := (16)) (by decide +kernel) (by decide) (fun h17 => ?_) (fun h17 => ?_)
      · refine es_blk (pc' := 60) (L' := [some (.ref 127), some (.int p0), some (.int p1), some (.int t1.1), some (.int t1.2)]) (st' := [.ref 127, .int (p0 + p1)]) [(.iload_n 1, 0), (.iload_n 2, 0), (.iadd, 0), (.aload_n 0, 0)] (by decide +kernel) rfl rfl ?_
        refine ef_getP (k := 127) (j := 40) (q := 165) rfl eL_12_124 rfl rfl rfl (by decide +kernel) ?_
        refine es_blk (pc' := 65) (L' := [some (.ref 127), some (.int p0), some (.int p1), some (.int t1.1), some (.int t1.2)]) (st' := [.int t1.2, .ref 165, .int (p0 + p1)]) [(.iload 4, 0)] (by decide +kernel) rfl rfl ?_
        refine ef_ald (k := 165) rfl (Or.inl ⟨rfl, rfl⟩) (by decide +kernel) (fun _ => ?_)
        refine es_igt (tgt := 73) (off := (7)) (by decide +kernel) (by decide) (fun h18 => ?_) (fun h18 => ?_)
        · refine ef_drop (L2 := [some (.ref 127), some (.int p0), some (.int p1), none, some (.int t1.2)]) [true, true, true, false, true] rfl rfl ?_
          exact Hj10 ()
        refine ef_drop (L2 := [some (.ref 127), some (.int p0), some (.int p1), none, some (.int t1.2)]) [true, true, true, false, true] rfl rfl ?_
        exact Hj13 ()
      refine ef_drop (L2 := [some (.ref 127), some (.int p0), some (.int p1), none, some (.int t1.2)]) [true, true, true, false, true] rfl rfl ?_
      exact Hj13 ()
    refine ef_drop (L2 := [none, none, none, some (.int t1.1), none]) [false, false, false, true, false] rfl rfl ?_
    exact HxK4_0 t1.1
def eF_12_setByte (s : eh_F) (p0 : Int32) (p1 : Int32) : Option (eh_F) := if eh_in p0 131072 then eh_V (eh_tI s 128 (eh_ix p0) (eh_nb (eh_nb p1))) (fun s1 => Option.bind (eh_loop (fun (r5 : (Int32 × eh_F) → Option (eh_F)) (t2 : Int32 × eh_F) => if t2.1 < 2 then (if eh_in t2.1 2 then eh_J (fun (a8 : Int32) => if eh_in t2.1 2 then eh_V (eh_tI t2.2 147 (eh_ix t2.1) a8) (fun s9 => eh_V ((t2.1 + 1) : Int32) (fun x10 => r5 (x10, s9))) else none) (fun j7 => if (t2.2.1 147 (eh_ix t2.1)) = (p0 &&& (-4)) then (j7 (-1)) else (if eh_in t2.1 2 then j7 (t2.2.1 147 (eh_ix t2.1)) else none)) else none) else (some t2.2)) eh_FU (0, s1)) (fun (e3 : eh_F) => some e3)) else none
set_option maxHeartbeats 4000000 in
set_option maxRecDepth 100000 in
theorem eS_12_setByte (g : eh_P) (s : eh_F) (p0 : Int32) (p1 : Int32) : eh_Sim g eM_12_setByte (eh_R 1 0 0) eh_eV 0 0 0 (eh_en 4 [.ref 127, .int p0, .int p1]) [] (eh_FW s) (eF_12_setByte s p0 p1) := by
  unfold eF_12_setByte
  refine ef_top (L := [some (.ref 127), some (.int p0), some (.int p1), none]) rfl ?_
  refine es_blk (pc' := 1) (L' := [some (.ref 127), some (.int p0), some (.int p1), none]) (st' := [.ref 127]) [(.aload_n 0, 0)] (by decide +kernel) rfl rfl ?_
  refine ef_getP (k := 127) (j := 0) (q := 128) rfl eL_12_10 rfl rfl rfl (by decide +kernel) ?_
  refine es_blk (pc' := 7) (L' := [some (.ref 127), some (.int p0), some (.int p1), none]) (st' := [.int (eh_nb p1), .int p0, .ref 128]) [(.iload_n 1, 0), (.iload_n 2, 0), (.i2b, 0)] (by decide +kernel) rfl rfl ?_
  refine ef_astB (k := 128) rfl (by decide +kernel) (fun _ => ?_)
  refine ef_V (fun _ => [some (.ref 127), some (.int p0), some (.int p1), none]) (fun _ => []) (fun s1 => eh_FW s1) (fun s1 => ?_)
  refine es_blk (pc' := 10) (L' := [some (.ref 127), some (.int p0), some (.int p1), some (.int 0)]) (st' := []) [(.iconst 0, 0), (.istore_n 3, 0)] (by decide +kernel) rfl rfl ?_
  refine ef_drop (L2 := [some (.ref 127), some (.int p0), none, some (.int 0)]) [true, true, false, true] rfl rfl ?_
  refine ef_loop1 (n := eh_FU) (i := (0, s1)) (px := 50) (fun (t2 : Int32 × eh_F) => [some (.ref 127), some (.int p0), none, some (.int t2.1)]) (fun (t2 : Int32 × eh_F) => []) (fun (t2 : Int32 × eh_F) => eh_FW t2.2) (fun (e3 : eh_F) => [none, none, none, none]) (fun (e3 : eh_F) => []) (fun (e3 : eh_F) => eh_FW e3) (fun e3 => ?_) (fun K4 HxK4_0 r5 Hr5 t2 => ?_)
  · exact es_ret rfl rfl rfl ⟨by decide +kernel, rfl⟩ (Nat.le_refl _) (Nat.le_refl _)
  · refine es_blk (pc' := 12) (L' := [some (.ref 127), some (.int p0), none, some (.int t2.1)]) (st' := [.int 2, .int t2.1]) [(.iload_n 3, 0), (.iconst 2, 2)] (by decide +kernel) rfl rfl ?_
    refine es_ige (tgt := 50) (off := (38)) (by decide +kernel) (by decide) (fun h6 => ?_) (fun h6 => ?_)
    · refine es_blk (pc' := 16) (L' := [some (.ref 127), some (.int p0), none, some (.int t2.1)]) (st' := [.ref 127]) [(.aload_n 0, 0)] (by decide +kernel) rfl rfl ?_
      refine ef_getP (k := 127) (j := 19) (q := 147) rfl eL_12_70 rfl rfl rfl (by decide +kernel) ?_
      refine es_blk (pc' := 21) (L' := [some (.ref 127), some (.int p0), none, some (.int t2.1)]) (st' := [.ref 127, .int t2.1, .ref 147]) [(.iload_n 3, 0), (.aload_n 0, 0)] (by decide +kernel) rfl rfl ?_
      refine ef_getP (k := 127) (j := 19) (q := 147) rfl eL_12_70 rfl rfl rfl (by decide +kernel) ?_
      refine es_blk (pc' := 25) (L' := [some (.ref 127), some (.int p0), none, some (.int t2.1)]) (st' := [.int t2.1, .ref 147, .int t2.1, .ref 147]) [(.iload_n 3, 0)] (by decide +kernel) rfl rfl ?_
      refine ef_ald (k := 147) rfl (Or.inl ⟨rfl, rfl⟩) (by decide +kernel) (fun _ => ?_)
      refine es_blk (pc' := 30) (L' := [some (.ref 127), some (.int p0), none, some (.int t2.1)]) (st' := [.int (p0 &&& (-4)), .int (t2.2.1 147 (eh_ix t2.1)), .int t2.1, .ref 147]) [(.iload_n 1, 0), (.bipush (-4), (-4)), (.iand, 0)] (by decide +kernel) rfl rfl ?_
      refine ef_J (X := fun j7 => ∀ (a8 : Int32), eh_Sim g eM_12_setByte (eh_R 1 0 0) eh_eV 0 0 43 [some (.ref 127), some (.int p0), none, some (.int t2.1)] [.int a8, .int t2.1, .ref 147] (eh_FW t2.2) ((j7 a8).bind K4)) ?_ (fun j7 Hj7 => ?_)
      · intro a8
        refine ef_ast (k := 147) rfl (by decide +kernel) (fun _ => ?_)
        refine ef_V (fun _ => [some (.ref 127), some (.int p0), none, some (.int t2.1)]) (fun _ => []) (fun s9 => eh_FW s9) (fun s9 => ?_)
        refine es_blk (pc' := 47) (L' := [some (.ref 127), some (.int p0), none, some (.int (t2.1 + 1))]) (st' := []) [(.iinc 3 1, 1)] (by decide +kernel) rfl rfl ?_
        refine ef_V (fun x10 => [some (.ref 127), some (.int p0), none, some (.int x10)]) (fun _ => []) (fun _ => eh_FW s9) (fun x10 => ?_)
        refine es_goto (tgt := 10) (off := (-37)) (by decide +kernel) (by decide) ?_
        exact Hr5 (x10, s9)
      refine es_ine (tgt := 37) (off := (7)) (by decide +kernel) (by decide) (fun h11 => ?_) (fun h11 => ?_)
      · refine es_blk (pc' := 34) (L' := [some (.ref 127), some (.int p0), none, some (.int t2.1)]) (st' := [.int (-1), .int t2.1, .ref 147]) [(.iconst (-1), (-1))] (by decide +kernel) rfl rfl ?_
        refine es_goto (tgt := 43) (off := (9)) (by decide +kernel) (by decide) ?_
        exact Hj7 _
      refine es_blk (pc' := 38) (L' := [some (.ref 127), some (.int p0), none, some (.int t2.1)]) (st' := [.ref 127, .int t2.1, .ref 147]) [(.aload_n 0, 0)] (by decide +kernel) rfl rfl ?_
      refine ef_getP (k := 127) (j := 19) (q := 147) rfl eL_12_70 rfl rfl rfl (by decide +kernel) ?_
      refine es_blk (pc' := 42) (L' := [some (.ref 127), some (.int p0), none, some (.int t2.1)]) (st' := [.int t2.1, .ref 147, .int t2.1, .ref 147]) [(.iload_n 3, 0)] (by decide +kernel) rfl rfl ?_
      refine ef_ald (k := 147) rfl (Or.inl ⟨rfl, rfl⟩) (by decide +kernel) (fun _ => ?_)
      exact Hj7 _
    refine ef_drop (L2 := [none, none, none, none]) [false, false, true, false] rfl rfl ?_
    exact HxK4_0 t2.2
def eF_12_sharedAt (s : eh_F) (p0 : Int32) : Option (Int32) := Option.bind (eh_loop (fun (r4 : (Int32 × Int32) → Option (Int32)) (t1 : Int32 × Int32) => if t1.2 < 12 then (if eh_in t1.2 12 then eh_J (fun (a7 : Int32) => eh_V ((t1.2 + 1) : Int32) (fun x8 => r4 (a7, x8))) (fun j6 => eh_J (fun (u10 : Unit) => j6 t1.1) (fun j9 => eh_J (fun (u12 : Unit) => if eh_in t1.2 12 then if p0 < (s.1 165 (eh_ix t1.2)) then (j9 ()) else (if eh_in t1.2 12 then if eh_in t1.2 12 then if p0 < ((s.1 165 (eh_ix t1.2)) + (s.1 166 (eh_ix t1.2))) then (j6 t1.2) else (j9 ()) else none else none) else none) (fun j11 => if (s.1 164 (eh_ix t1.2)) = 2 then (j11 ()) else (if eh_in t1.2 12 then if (s.1 164 (eh_ix t1.2)) = 3 then (j11 ()) else (j9 ()) else none)))) else none) else (some t1.1)) eh_FU ((-1), 0)) (fun (e2 : Int32) => some e2)
set_option maxHeartbeats 4000000 in
set_option maxRecDepth 100000 in
theorem eS_12_sharedAt (g : eh_P) (s : eh_F) (p0 : Int32) : eh_Sim g eM_12_sharedAt (eh_R 1 0 0) (eh_pI s) 0 0 0 (eh_en 4 [.ref 127, .int p0]) [] (eh_FW s) (eF_12_sharedAt s p0) := by
  unfold eF_12_sharedAt
  refine ef_top (L := [some (.ref 127), some (.int p0), none, none]) rfl ?_
  refine es_blk (pc' := 4) (L' := [some (.ref 127), some (.int p0), some (.int (-1)), some (.int 0)]) (st' := []) [(.iconst (-1), (-1)), (.istore_n 2, 0), (.iconst 0, 0), (.istore_n 3, 0)] (by decide +kernel) rfl rfl ?_
  refine ef_loop1 (n := eh_FU) (i := ((-1), 0)) (px := 69) (fun (t1 : Int32 × Int32) => [some (.ref 127), some (.int p0), some (.int t1.1), some (.int t1.2)]) (fun (t1 : Int32 × Int32) => []) (fun (t1 : Int32 × Int32) => eh_FW s) (fun (e2 : Int32) => [none, none, some (.int e2), none]) (fun (e2 : Int32) => []) (fun (e2 : Int32) => eh_FW s) (fun e2 => ?_) (fun K3 HxK3_0 r4 Hr4 t1 => ?_)
  · refine es_blk (pc' := 70) (L' := [none, none, some (.int e2), none]) (st' := [.int e2]) [(.iload_n 2, 0)] (by decide +kernel) rfl rfl ?_
    exact es_ret rfl rfl rfl ⟨by decide +kernel, _, rfl, rfl⟩ (Nat.le_refl _) (Nat.le_refl _)
  · refine es_blk (pc' := 7) (L' := [some (.ref 127), some (.int p0), some (.int t1.1), some (.int t1.2)]) (st' := [.int 12, .int t1.2]) [(.iload_n 3, 0), (.bipush 12, 12)] (by decide +kernel) rfl rfl ?_
    refine es_ige (tgt := 69) (off := (62)) (by decide +kernel) (by decide) (fun h5 => ?_) (fun h5 => ?_)
    · refine es_blk (pc' := 11) (L' := [some (.ref 127), some (.int p0), some (.int t1.1), some (.int t1.2)]) (st' := [.ref 127]) [(.aload_n 0, 0)] (by decide +kernel) rfl rfl ?_
      refine ef_getP (k := 127) (j := 39) (q := 164) rfl eL_12_121 rfl rfl rfl (by decide +kernel) ?_
      refine es_blk (pc' := 15) (L' := [some (.ref 127), some (.int p0), some (.int t1.1), some (.int t1.2)]) (st' := [.int t1.2, .ref 164]) [(.iload_n 3, 0)] (by decide +kernel) rfl rfl ?_
      refine ef_ald (k := 164) rfl (Or.inl ⟨rfl, rfl⟩) (by decide +kernel) (fun _ => ?_)
      refine es_blk (pc' := 17) (L' := [some (.ref 127), some (.int p0), some (.int t1.1), some (.int t1.2)]) (st' := [.int 2, .int (s.1 164 (eh_ix t1.2))]) [(.iconst 2, 2)] (by decide +kernel) rfl rfl ?_
      refine ef_J (X := fun j6 => ∀ (a7 : Int32), eh_Sim g eM_12_sharedAt (eh_R 1 0 0) (eh_pI s) 0 0 62 [some (.ref 127), some (.int p0), none, some (.int t1.2)] [.int a7] (eh_FW s) ((j6 a7).bind K3)) ?_ (fun j6 Hj6 => ?_)
      · intro a7
        refine es_blk (pc' := 66) (L' := [some (.ref 127), some (.int p0), some (.int a7), some (.int (t1.2 + 1))]) (st' := []) [(.istore_n 2, 0), (.iinc 3 1, 1)] (by decide +kernel) rfl rfl ?_
        refine ef_V (fun x8 => [some (.ref 127), some (.int p0), some (.int a7), some (.int x8)]) (fun _ => []) (fun _ => eh_FW s) (fun x8 => ?_)
        refine es_goto (tgt := 4) (off := (-62)) (by decide +kernel) (by decide) ?_
        exact Hr4 (a7, x8)
      refine ef_J (X := fun j9 => ∀ (u10 : Unit), eh_Sim g eM_12_sharedAt (eh_R 1 0 0) (eh_pI s) 0 0 61 [some (.ref 127), some (.int p0), some (.int t1.1), some (.int t1.2)] [] (eh_FW s) ((j9 u10).bind K3)) ?_ (fun j9 Hj9 => ?_)
      · intro u10
        refine es_blk (pc' := 62) (L' := [some (.ref 127), some (.int p0), some (.int t1.1), some (.int t1.2)]) (st' := [.int t1.1]) [(.iload_n 2, 0)] (by decide +kernel) rfl rfl ?_
        refine ef_drop (L2 := [some (.ref 127), some (.int p0), none, some (.int t1.2)]) [true, true, false, true] rfl rfl ?_
        exact Hj6 _
      refine ef_J (X := fun j11 => ∀ (u12 : Unit), eh_Sim g eM_12_sharedAt (eh_R 1 0 0) (eh_pI s) 0 0 30 [some (.ref 127), some (.int p0), some (.int t1.1), some (.int t1.2)] [] (eh_FW s) ((j11 u12).bind K3)) ?_ (fun j11 Hj11 => ?_)
      · intro u12
        refine es_blk (pc' := 32) (L' := [some (.ref 127), some (.int p0), some (.int t1.1), some (.int t1.2)]) (st' := [.ref 127, .int p0]) [(.iload_n 1, 0), (.aload_n 0, 0)] (by decide +kernel) rfl rfl ?_
        refine ef_getP (k := 127) (j := 40) (q := 165) rfl eL_12_124 rfl rfl rfl (by decide +kernel) ?_
        refine es_blk (pc' := 36) (L' := [some (.ref 127), some (.int p0), some (.int t1.1), some (.int t1.2)]) (st' := [.int t1.2, .ref 165, .int p0]) [(.iload_n 3, 0)] (by decide +kernel) rfl rfl ?_
        refine ef_ald (k := 165) rfl (Or.inl ⟨rfl, rfl⟩) (by decide +kernel) (fun _ => ?_)
        refine es_ilt (tgt := 61) (off := (24)) (by decide +kernel) (by decide) (fun h13 => ?_) (fun h13 => ?_)
        · exact Hj9 ()
        refine es_blk (pc' := 42) (L' := [some (.ref 127), some (.int p0), some (.int t1.1), some (.int t1.2)]) (st' := [.ref 127, .int p0]) [(.iload_n 1, 0), (.aload_n 0, 0)] (by decide +kernel) rfl rfl ?_
        refine ef_getP (k := 127) (j := 40) (q := 165) rfl eL_12_124 rfl rfl rfl (by decide +kernel) ?_
        refine es_blk (pc' := 46) (L' := [some (.ref 127), some (.int p0), some (.int t1.1), some (.int t1.2)]) (st' := [.int t1.2, .ref 165, .int p0]) [(.iload_n 3, 0)] (by decide +kernel) rfl rfl ?_
        refine ef_ald (k := 165) rfl (Or.inl ⟨rfl, rfl⟩) (by decide +kernel) (fun _ => ?_)
        refine es_blk (pc' := 48) (L' := [some (.ref 127), some (.int p0), some (.int t1.1), some (.int t1.2)]) (st' := [.ref 127, .int (s.1 165 (eh_ix t1.2)), .int p0]) [(.aload_n 0, 0)] (by decide +kernel) rfl rfl ?_
        refine ef_getP (k := 127) (j := 41) (q := 166) rfl eL_12_127 rfl rfl rfl (by decide +kernel) ?_
        refine es_blk (pc' := 52) (L' := [some (.ref 127), some (.int p0), some (.int t1.1), some (.int t1.2)]) (st' := [.int t1.2, .ref 166, .int (s.1 165 (eh_ix t1.2)), .int p0]) [(.iload_n 3, 0)] (by decide +kernel) rfl rfl ?_
        refine ef_ald (k := 166) rfl (Or.inl ⟨rfl, rfl⟩) (by decide +kernel) (fun _ => ?_)
        refine es_blk (pc' := 54) (L' := [some (.ref 127), some (.int p0), some (.int t1.1), some (.int t1.2)]) (st' := [.int ((s.1 165 (eh_ix t1.2)) + (s.1 166 (eh_ix t1.2))), .int p0]) [(.iadd, 0)] (by decide +kernel) rfl rfl ?_
        refine es_ige (tgt := 61) (off := (7)) (by decide +kernel) (by decide) (fun h14 => ?_) (fun h14 => ?_)
        · refine es_blk (pc' := 58) (L' := [some (.ref 127), some (.int p0), some (.int t1.1), some (.int t1.2)]) (st' := [.int t1.2]) [(.iload_n 3, 0)] (by decide +kernel) rfl rfl ?_
          refine es_goto (tgt := 62) (off := (4)) (by decide +kernel) (by decide) ?_
          refine ef_drop (L2 := [some (.ref 127), some (.int p0), none, some (.int t1.2)]) [true, true, false, true] rfl rfl ?_
          exact Hj6 _
        exact Hj9 ()
      refine es_ieq (tgt := 30) (off := (13)) (by decide +kernel) (by decide) (fun h15 => ?_) (fun h15 => ?_)
      · exact Hj11 ()
      refine es_blk (pc' := 21) (L' := [some (.ref 127), some (.int p0), some (.int t1.1), some (.int t1.2)]) (st' := [.ref 127]) [(.aload_n 0, 0)] (by decide +kernel) rfl rfl ?_
      refine ef_getP (k := 127) (j := 39) (q := 164) rfl eL_12_121 rfl rfl rfl (by decide +kernel) ?_
      refine es_blk (pc' := 25) (L' := [some (.ref 127), some (.int p0), some (.int t1.1), some (.int t1.2)]) (st' := [.int t1.2, .ref 164]) [(.iload_n 3, 0)] (by decide +kernel) rfl rfl ?_
      refine ef_ald (k := 164) rfl (Or.inl ⟨rfl, rfl⟩) (by decide +kernel) (fun _ => ?_)
      refine es_blk (pc' := 27) (L' := [some (.ref 127), some (.int p0), some (.int t1.1), some (.int t1.2)]) (st' := [.int 3, .int (s.1 164 (eh_ix t1.2))]) [(.iconst 3, 3)] (by decide +kernel) rfl rfl ?_
      refine es_ine (tgt := 61) (off := (34)) (by decide +kernel) (by decide) (fun h16 => ?_) (fun h16 => ?_)
      · exact Hj11 ()
      exact Hj9 ()
    refine ef_drop (L2 := [none, none, some (.int t1.1), none]) [false, false, true, false] rfl rfl ?_
    exact HxK3_0 t1.1
def eF_12_gate (s : eh_F) (p0 : Int32) (p1 : Int32) (p2 : Int32) : Option (eh_F) := if eh_in (s.1 127 48) 13 then eh_V (eh_tI s 170 (eh_ix (s.1 127 48)) p0) (fun s1 => if eh_in (s1.1 127 48) 13 then eh_V (eh_tI s1 171 (eh_ix (s1.1 127 48)) p1) (fun s2 => if eh_in (s2.1 127 48) 13 then eh_V (eh_tI s2 172 (eh_ix (s2.1 127 48)) p2) (fun s3 => eh_V (eh_tI s3 127 48 ((s3.1 127 48) + 1)) (fun s4 => some s4)) else none) else none) else none
set_option maxHeartbeats 4000000 in
set_option maxRecDepth 100000 in
theorem eS_12_gate (g : eh_P) (s : eh_F) (p0 : Int32) (p1 : Int32) (p2 : Int32) : eh_Sim g eM_12_gate (eh_R 1 0 0) eh_eV 0 0 0 (eh_en 4 [.ref 127, .int p0, .int p1, .int p2]) [] (eh_FW s) (eF_12_gate s p0 p1 p2) := by
  unfold eF_12_gate
  refine ef_top (L := [some (.ref 127), some (.int p0), some (.int p1), some (.int p2)]) rfl ?_
  refine es_blk (pc' := 1) (L' := [some (.ref 127), some (.int p0), some (.int p1), some (.int p2)]) (st' := [.ref 127]) [(.aload_n 0, 0)] (by decide +kernel) rfl rfl ?_
  refine ef_getP (k := 127) (j := 45) (q := 170) rfl eL_12_139 rfl rfl rfl (by decide +kernel) ?_
  refine es_blk (pc' := 5) (L' := [some (.ref 127), some (.int p0), some (.int p1), some (.int p2)]) (st' := [.ref 127, .ref 170]) [(.aload_n 0, 0)] (by decide +kernel) rfl rfl ?_
  refine ef_getI (k := 127) (j := 48) rfl eL_12_323 (by decide) (by decide +kernel) ?_
  refine es_blk (pc' := 9) (L' := [some (.ref 127), some (.int p0), some (.int p1), some (.int p2)]) (st' := [.int p0, .int (s.1 127 48), .ref 170]) [(.iload_n 1, 0)] (by decide +kernel) rfl rfl ?_
  refine ef_ast (k := 170) rfl (by decide +kernel) (fun _ => ?_)
  refine ef_V (fun _ => [some (.ref 127), some (.int p0), some (.int p1), some (.int p2)]) (fun _ => []) (fun s1 => eh_FW s1) (fun s1 => ?_)
  refine es_blk (pc' := 11) (L' := [some (.ref 127), some (.int p0), some (.int p1), some (.int p2)]) (st' := [.ref 127]) [(.aload_n 0, 0)] (by decide +kernel) rfl rfl ?_
  refine ef_getP (k := 127) (j := 46) (q := 171) rfl eL_12_142 rfl rfl rfl (by decide +kernel) ?_
  refine es_blk (pc' := 15) (L' := [some (.ref 127), some (.int p0), some (.int p1), some (.int p2)]) (st' := [.ref 127, .ref 171]) [(.aload_n 0, 0)] (by decide +kernel) rfl rfl ?_
  refine ef_getI (k := 127) (j := 48) rfl eL_12_323 (by decide) (by decide +kernel) ?_
  refine es_blk (pc' := 19) (L' := [some (.ref 127), some (.int p0), some (.int p1), some (.int p2)]) (st' := [.int p1, .int (s1.1 127 48), .ref 171]) [(.iload_n 2, 0)] (by decide +kernel) rfl rfl ?_
  refine ef_ast (k := 171) rfl (by decide +kernel) (fun _ => ?_)
  refine ef_V (fun _ => [some (.ref 127), some (.int p0), some (.int p1), some (.int p2)]) (fun _ => []) (fun s2 => eh_FW s2) (fun s2 => ?_)
  refine es_blk (pc' := 21) (L' := [some (.ref 127), some (.int p0), some (.int p1), some (.int p2)]) (st' := [.ref 127]) [(.aload_n 0, 0)] (by decide +kernel) rfl rfl ?_
  refine ef_getP (k := 127) (j := 47) (q := 172) rfl eL_12_145 rfl rfl rfl (by decide +kernel) ?_
  refine es_blk (pc' := 25) (L' := [some (.ref 127), some (.int p0), some (.int p1), some (.int p2)]) (st' := [.ref 127, .ref 172]) [(.aload_n 0, 0)] (by decide +kernel) rfl rfl ?_
  refine ef_getI (k := 127) (j := 48) rfl eL_12_323 (by decide) (by decide +kernel) ?_
  refine es_blk (pc' := 29) (L' := [some (.ref 127), some (.int p0), some (.int p1), some (.int p2)]) (st' := [.int p2, .int (s2.1 127 48), .ref 172]) [(.iload_n 3, 0)] (by decide +kernel) rfl rfl ?_
  refine ef_ast (k := 172) rfl (by decide +kernel) (fun _ => ?_)
  refine ef_V (fun _ => [some (.ref 127), some (.int p0), some (.int p1), some (.int p2)]) (fun _ => []) (fun s3 => eh_FW s3) (fun s3 => ?_)
  refine es_blk (pc' := 32) (L' := [some (.ref 127), some (.int p0), some (.int p1), some (.int p2)]) (st' := [.ref 127, .ref 127]) [(.aload_n 0, 0), (.dup, 0)] (by decide +kernel) rfl rfl ?_
  refine ef_getI (k := 127) (j := 48) rfl eL_12_323 (by decide) (by decide +kernel) ?_
  refine es_blk (pc' := 37) (L' := [some (.ref 127), some (.int p0), some (.int p1), some (.int p2)]) (st' := [.int ((s3.1 127 48) + 1), .ref 127]) [(.iconst 1, 1), (.iadd, 0)] (by decide +kernel) rfl rfl ?_
  refine ef_putI (k := 127) (j := 48) rfl eL_12_323 rfl rfl (by decide +kernel) ?_
  refine ef_V (fun _ => [some (.ref 127), some (.int p0), some (.int p1), some (.int p2)]) (fun _ => []) (fun s4 => eh_FW s4) (fun s4 => ?_)
  exact es_ret rfl rfl rfl ⟨by decide +kernel, rfl⟩ (Nat.le_refl _) (Nat.le_refl _)
def eF_12_isOf (s : eh_F) (p0 : Int32) (p1 : Int32) : Option (Int32) := if eh_in p0 12 then eh_J (fun (a2 : Int32) => if a2 = 0 ∨ a2 = 1 then some a2 else none) (fun j1 => eh_J (fun (u5 : Unit) => j1 1) (fun j4 => if (s.1 167 (eh_ix p0)) = p1 then (j4 ()) else (if eh_in p0 12 then eh_J (fun (u8 : Unit) => j1 0) (fun j7 => if (s.1 164 (eh_ix p0)) = 3 then (if eh_in p0 12 then if (s.1 168 (eh_ix p0)) = p1 then (j4 ()) else (j7 ()) else none) else (j7 ())) else none))) else none
set_option maxHeartbeats 4000000 in
set_option maxRecDepth 100000 in
theorem eS_12_isOf (g : eh_P) (s : eh_F) (p0 : Int32) (p1 : Int32) : eh_Sim g eM_12_isOf (eh_R 1 0 0) (eh_pI s) 0 0 0 (eh_en 3 [.ref 127, .int p0, .int p1]) [] (eh_FW s) (eF_12_isOf s p0 p1) := by
  unfold eF_12_isOf
  refine ef_top (L := [some (.ref 127), some (.int p0), some (.int p1)]) rfl ?_
  refine es_blk (pc' := 1) (L' := [some (.ref 127), some (.int p0), some (.int p1)]) (st' := [.ref 127]) [(.aload_n 0, 0)] (by decide +kernel) rfl rfl ?_
  refine ef_getP (k := 127) (j := 42) (q := 167) rfl eL_12_130 rfl rfl rfl (by decide +kernel) ?_
  refine es_blk (pc' := 5) (L' := [some (.ref 127), some (.int p0), some (.int p1)]) (st' := [.int p0, .ref 167]) [(.iload_n 1, 0)] (by decide +kernel) rfl rfl ?_
  refine ef_ald (k := 167) rfl (Or.inl ⟨rfl, rfl⟩) (by decide +kernel) (fun _ => ?_)
  refine es_blk (pc' := 7) (L' := [some (.ref 127), some (.int p0), some (.int p1)]) (st' := [.int p1, .int (s.1 167 (eh_ix p0))]) [(.iload_n 2, 0)] (by decide +kernel) rfl rfl ?_
  refine ef_J (X := fun j1 => ∀ (a2 : Int32), eh_Sim g eM_12_isOf (eh_R 1 0 0) (eh_pI s) 0 0 35 [none, none, none] [.int a2] (eh_FW s) ((j1 a2).bind some)) ?_ (fun j1 Hj1 => ?_)
  · intro a2
    refine es_chk (fun h3 => ?_)
    exact es_ret rfl rfl rfl ⟨by decide +kernel, _, rfl, eh_narZ h3⟩ (Nat.le_refl _) (Nat.le_refl _)
  refine ef_J (X := fun j4 => ∀ (u5 : Unit), eh_Sim g eM_12_isOf (eh_R 1 0 0) (eh_pI s) 0 0 30 [none, none, none] [] (eh_FW s) ((j4 u5).bind some)) ?_ (fun j4 Hj4 => ?_)
  · intro u5
    refine es_blk (pc' := 31) (L' := [none, none, none]) (st' := [.int 1]) [(.iconst 1, 1)] (by decide +kernel) rfl rfl ?_
    refine es_goto (tgt := 35) (off := (4)) (by decide +kernel) (by decide) ?_
    exact Hj1 _
  refine es_ieq (tgt := 30) (off := (23)) (by decide +kernel) (by decide) (fun h6 => ?_) (fun h6 => ?_)
  · refine ef_drop (L2 := [none, none, none]) [false, false, false] rfl rfl ?_
    exact Hj4 ()
  refine es_blk (pc' := 11) (L' := [some (.ref 127), some (.int p0), some (.int p1)]) (st' := [.ref 127]) [(.aload_n 0, 0)] (by decide +kernel) rfl rfl ?_
  refine ef_getP (k := 127) (j := 39) (q := 164) rfl eL_12_121 rfl rfl rfl (by decide +kernel) ?_
  refine es_blk (pc' := 15) (L' := [some (.ref 127), some (.int p0), some (.int p1)]) (st' := [.int p0, .ref 164]) [(.iload_n 1, 0)] (by decide +kernel) rfl rfl ?_
  refine ef_ald (k := 164) rfl (Or.inl ⟨rfl, rfl⟩) (by decide +kernel) (fun _ => ?_)
  refine es_blk (pc' := 17) (L' := [some (.ref 127), some (.int p0), some (.int p1)]) (st' := [.int 3, .int (s.1 164 (eh_ix p0))]) [(.iconst 3, 3)] (by decide +kernel) rfl rfl ?_
  refine ef_J (X := fun j7 => ∀ (u8 : Unit), eh_Sim g eM_12_isOf (eh_R 1 0 0) (eh_pI s) 0 0 34 [none, none, none] [] (eh_FW s) ((j7 u8).bind some)) ?_ (fun j7 Hj7 => ?_)
  · intro u8
    refine es_blk (pc' := 35) (L' := [none, none, none]) (st' := [.int 0]) [(.iconst 0, 0)] (by decide +kernel) rfl rfl ?_
    exact Hj1 _
  refine es_ine (tgt := 34) (off := (17)) (by decide +kernel) (by decide) (fun h9 => ?_) (fun h9 => ?_)
  · refine es_blk (pc' := 21) (L' := [some (.ref 127), some (.int p0), some (.int p1)]) (st' := [.ref 127]) [(.aload_n 0, 0)] (by decide +kernel) rfl rfl ?_
    refine ef_getP (k := 127) (j := 43) (q := 168) rfl eL_12_133 rfl rfl rfl (by decide +kernel) ?_
    refine es_blk (pc' := 25) (L' := [some (.ref 127), some (.int p0), some (.int p1)]) (st' := [.int p0, .ref 168]) [(.iload_n 1, 0)] (by decide +kernel) rfl rfl ?_
    refine ef_ald (k := 168) rfl (Or.inl ⟨rfl, rfl⟩) (by decide +kernel) (fun _ => ?_)
    refine es_blk (pc' := 27) (L' := [some (.ref 127), some (.int p0), some (.int p1)]) (st' := [.int p1, .int (s.1 168 (eh_ix p0))]) [(.iload_n 2, 0)] (by decide +kernel) rfl rfl ?_
    refine es_ine (tgt := 34) (off := (7)) (by decide +kernel) (by decide) (fun h10 => ?_) (fun h10 => ?_)
    · refine ef_drop (L2 := [none, none, none]) [false, false, false] rfl rfl ?_
      exact Hj4 ()
    refine ef_drop (L2 := [none, none, none]) [false, false, false] rfl rfl ?_
    exact Hj7 ()
  refine ef_drop (L2 := [none, none, none]) [false, false, false] rfl rfl ?_
  exact Hj7 ()
def eF_12_isAccepted (s : eh_F) (p0 : Int32) (p1 : Int32) : Option (Int32) := if eh_in p0 12 then eh_J (fun (a2 : Int32) => if a2 = 0 ∨ a2 = 1 then some a2 else none) (fun j1 => eh_J (fun (u5 : Unit) => j1 1) (fun j4 => eh_J (fun (u7 : Unit) => if eh_in p0 12 then eh_J (fun (u9 : Unit) => j1 0) (fun j8 => if (s.1 164 (eh_ix p0)) = 3 then (if eh_in p0 12 then if (s.1 168 (eh_ix p0)) = p1 then (if eh_in p0 12 then if ((s.1 169 (eh_ix p0)) &&& 2) = 0 then (j8 ()) else (j4 ()) else none) else (j8 ()) else none) else (j8 ())) else none) (fun j6 => if (s.1 167 (eh_ix p0)) = p1 then (if eh_in p0 12 then if ((s.1 169 (eh_ix p0)) &&& 1) = 0 then (j6 ()) else (j4 ()) else none) else (j6 ())))) else none
set_option maxHeartbeats 4000000 in
set_option maxRecDepth 100000 in
theorem eS_12_isAccepted (g : eh_P) (s : eh_F) (p0 : Int32) (p1 : Int32) : eh_Sim g eM_12_isAccepted (eh_R 1 0 0) (eh_pI s) 0 0 0 (eh_en 3 [.ref 127, .int p0, .int p1]) [] (eh_FW s) (eF_12_isAccepted s p0 p1) := by
  unfold eF_12_isAccepted
  refine ef_top (L := [some (.ref 127), some (.int p0), some (.int p1)]) rfl ?_
  refine es_blk (pc' := 1) (L' := [some (.ref 127), some (.int p0), some (.int p1)]) (st' := [.ref 127]) [(.aload_n 0, 0)] (by decide +kernel) rfl rfl ?_
  refine ef_getP (k := 127) (j := 42) (q := 167) rfl eL_12_130 rfl rfl rfl (by decide +kernel) ?_
  refine es_blk (pc' := 5) (L' := [some (.ref 127), some (.int p0), some (.int p1)]) (st' := [.int p0, .ref 167]) [(.iload_n 1, 0)] (by decide +kernel) rfl rfl ?_
  refine ef_ald (k := 167) rfl (Or.inl ⟨rfl, rfl⟩) (by decide +kernel) (fun _ => ?_)
  refine es_blk (pc' := 7) (L' := [some (.ref 127), some (.int p0), some (.int p1)]) (st' := [.int p1, .int (s.1 167 (eh_ix p0))]) [(.iload_n 2, 0)] (by decide +kernel) rfl rfl ?_
  refine ef_J (X := fun j1 => ∀ (a2 : Int32), eh_Sim g eM_12_isAccepted (eh_R 1 0 0) (eh_pI s) 0 0 57 [none, none, none] [.int a2] (eh_FW s) ((j1 a2).bind some)) ?_ (fun j1 Hj1 => ?_)
  · intro a2
    refine es_chk (fun h3 => ?_)
    exact es_ret rfl rfl rfl ⟨by decide +kernel, _, rfl, eh_narZ h3⟩ (Nat.le_refl _) (Nat.le_refl _)
  refine ef_J (X := fun j4 => ∀ (u5 : Unit), eh_Sim g eM_12_isAccepted (eh_R 1 0 0) (eh_pI s) 0 0 52 [none, none, none] [] (eh_FW s) ((j4 u5).bind some)) ?_ (fun j4 Hj4 => ?_)
  · intro u5
    refine es_blk (pc' := 53) (L' := [none, none, none]) (st' := [.int 1]) [(.iconst 1, 1)] (by decide +kernel) rfl rfl ?_
    refine es_goto (tgt := 57) (off := (4)) (by decide +kernel) (by decide) ?_
    exact Hj1 _
  refine ef_J (X := fun j6 => ∀ (u7 : Unit), eh_Sim g eM_12_isAccepted (eh_R 1 0 0) (eh_pI s) 0 0 21 [some (.ref 127), some (.int p0), some (.int p1)] [] (eh_FW s) ((j6 u7).bind some)) ?_ (fun j6 Hj6 => ?_)
  · intro u7
    refine es_blk (pc' := 22) (L' := [some (.ref 127), some (.int p0), some (.int p1)]) (st' := [.ref 127]) [(.aload_n 0, 0)] (by decide +kernel) rfl rfl ?_
    refine ef_getP (k := 127) (j := 39) (q := 164) rfl eL_12_121 rfl rfl rfl (by decide +kernel) ?_
    refine es_blk (pc' := 26) (L' := [some (.ref 127), some (.int p0), some (.int p1)]) (st' := [.int p0, .ref 164]) [(.iload_n 1, 0)] (by decide +kernel) rfl rfl ?_
    refine ef_ald (k := 164) rfl (Or.inl ⟨rfl, rfl⟩) (by decide +kernel) (fun _ => ?_)
    refine es_blk (pc' := 28) (L' := [some (.ref 127), some (.int p0), some (.int p1)]) (st' := [.int 3, .int (s.1 164 (eh_ix p0))]) [(.iconst 3, 3)] (by decide +kernel) rfl rfl ?_
    refine ef_J (X := fun j8 => ∀ (u9 : Unit), eh_Sim g eM_12_isAccepted (eh_R 1 0 0) (eh_pI s) 0 0 56 [none, none, none] [] (eh_FW s) ((j8 u9).bind some)) ?_ (fun j8 Hj8 => ?_)
    · intro u9
      refine es_blk (pc' := 57) (L' := [none, none, none]) (st' := [.int 0]) [(.iconst 0, 0)] (by decide +kernel) rfl rfl ?_
      exact Hj1 _
    refine es_ine (tgt := 56) (off := (28)) (by decide +kernel) (by decide) (fun h10 => ?_) (fun h10 => ?_)
    · refine es_blk (pc' := 32) (L' := [some (.ref 127), some (.int p0), some (.int p1)]) (st' := [.ref 127]) [(.aload_n 0, 0)] (by decide +kernel) rfl rfl ?_
      refine ef_getP (k := 127) (j := 43) (q := 168) rfl eL_12_133 rfl rfl rfl (by decide +kernel) ?_
      refine es_blk (pc' := 36) (L' := [some (.ref 127), some (.int p0), some (.int p1)]) (st' := [.int p0, .ref 168]) [(.iload_n 1, 0)] (by decide +kernel) rfl rfl ?_
      refine ef_ald (k := 168) rfl (Or.inl ⟨rfl, rfl⟩) (by decide +kernel) (fun _ => ?_)
      refine es_blk (pc' := 38) (L' := [some (.ref 127), some (.int p0), some (.int p1)]) (st' := [.int p1, .int (s.1 168 (eh_ix p0))]) [(.iload_n 2, 0)] (by decide +kernel) rfl rfl ?_
      refine es_ine (tgt := 56) (off := (18)) (by decide +kernel) (by decide) (fun h11 => ?_) (fun h11 => ?_)
      · refine es_blk (pc' := 42) (L' := [some (.ref 127), some (.int p0), some (.int p1)]) (st' := [.ref 127]) [(.aload_n 0, 0)] (by decide +kernel) rfl rfl ?_
        refine ef_getP (k := 127) (j := 44) (q := 169) rfl eL_12_136 rfl rfl rfl (by decide +kernel) ?_
        refine es_blk (pc' := 46) (L' := [some (.ref 127), some (.int p0), some (.int p1)]) (st' := [.int p0, .ref 169]) [(.iload_n 1, 0)] (by decide +kernel) rfl rfl ?_
        refine ef_ald (k := 169) rfl (Or.inl ⟨rfl, rfl⟩) (by decide +kernel) (fun _ => ?_)
        refine es_blk (pc' := 49) (L' := [some (.ref 127), some (.int p0), some (.int p1)]) (st' := [.int ((s.1 169 (eh_ix p0)) &&& 2)]) [(.iconst 2, 2), (.iand, 0)] (by decide +kernel) rfl rfl ?_
        refine es_eq (tgt := 56) (off := (7)) (by decide +kernel) (by decide) (fun h12 => ?_) (fun h12 => ?_)
        · refine ef_drop (L2 := [none, none, none]) [false, false, false] rfl rfl ?_
          exact Hj8 ()
        refine ef_drop (L2 := [none, none, none]) [false, false, false] rfl rfl ?_
        exact Hj4 ()
      refine ef_drop (L2 := [none, none, none]) [false, false, false] rfl rfl ?_
      exact Hj8 ()
    refine ef_drop (L2 := [none, none, none]) [false, false, false] rfl rfl ?_
    exact Hj8 ()
  refine es_ine (tgt := 21) (off := (14)) (by decide +kernel) (by decide) (fun h13 => ?_) (fun h13 => ?_)
  · refine es_blk (pc' := 11) (L' := [some (.ref 127), some (.int p0), some (.int p1)]) (st' := [.ref 127]) [(.aload_n 0, 0)] (by decide +kernel) rfl rfl ?_
    refine ef_getP (k := 127) (j := 44) (q := 169) rfl eL_12_136 rfl rfl rfl (by decide +kernel) ?_
    refine es_blk (pc' := 15) (L' := [some (.ref 127), some (.int p0), some (.int p1)]) (st' := [.int p0, .ref 169]) [(.iload_n 1, 0)] (by decide +kernel) rfl rfl ?_
    refine ef_ald (k := 169) rfl (Or.inl ⟨rfl, rfl⟩) (by decide +kernel) (fun _ => ?_)
    refine es_blk (pc' := 18) (L' := [some (.ref 127), some (.int p0), some (.int p1)]) (st' := [.int ((s.1 169 (eh_ix p0)) &&& 1)]) [(.iconst 1, 1), (.iand, 0)] (by decide +kernel) rfl rfl ?_
    refine es_ne (tgt := 52) (off := (34)) (by decide +kernel) (by decide) (fun h14 => ?_) (fun h14 => ?_)
    · exact Hj6 ()
    refine ef_drop (L2 := [none, none, none]) [false, false, false] rfl rfl ?_
    exact Hj4 ()
  exact Hj6 ()
def eF_12_except (s : eh_F) (p0 : Int32) (p1 : Int32) : Option (eh_F) := eh_V (eh_tI s 127 83 p0) (fun s1 => eh_V (eh_tI s1 127 84 p1) (fun s2 => some s2))
set_option maxHeartbeats 4000000 in
set_option maxRecDepth 100000 in
theorem eS_12_except (g : eh_P) (s : eh_F) (p0 : Int32) (p1 : Int32) : eh_Sim g eM_12_except (eh_R 1 0 0) eh_eV 0 0 0 (eh_en 3 [.ref 127, .int p0, .int p1]) [] (eh_FW s) (eF_12_except s p0 p1) := by
  unfold eF_12_except
  refine ef_top (L := [some (.ref 127), some (.int p0), some (.int p1)]) rfl ?_
  refine es_blk (pc' := 2) (L' := [some (.ref 127), some (.int p0), some (.int p1)]) (st' := [.int p0, .ref 127]) [(.aload_n 0, 0), (.iload_n 1, 0)] (by decide +kernel) rfl rfl ?_
  refine ef_putI (k := 127) (j := 83) rfl eL_12_340 rfl rfl (by decide +kernel) ?_
  refine ef_V (fun _ => [some (.ref 127), some (.int p0), some (.int p1)]) (fun _ => []) (fun s1 => eh_FW s1) (fun s1 => ?_)
  refine es_blk (pc' := 7) (L' := [some (.ref 127), some (.int p0), some (.int p1)]) (st' := [.int p1, .ref 127]) [(.aload_n 0, 0), (.iload_n 2, 0)] (by decide +kernel) rfl rfl ?_
  refine ef_putI (k := 127) (j := 84) rfl eL_12_343 rfl rfl (by decide +kernel) ?_
  refine ef_V (fun _ => [some (.ref 127), some (.int p0), some (.int p1)]) (fun _ => []) (fun s2 => eh_FW s2) (fun s2 => ?_)
  exact es_ret rfl rfl rfl ⟨by decide +kernel, rfl⟩ (Nat.le_refl _) (Nat.le_refl _)
def eF_12_denied (s : eh_F) (p0 : Int32) : Option (Int32) := eh_J (fun (a2 : Int32) => some a2) (fun j1 => if p0 = 0 then (j1 1) else (if p0 = 1 then (j1 5) else (j1 7)))
set_option maxHeartbeats 4000000 in
set_option maxRecDepth 100000 in
theorem eS_12_denied (g : eh_P) (s : eh_F) (p0 : Int32) : eh_Sim g eM_12_denied (eh_R 1 0 0) (eh_pI s) 0 0 0 (eh_en 1 [.int p0]) [] (eh_FW s) (eF_12_denied s p0) := by
  unfold eF_12_denied
  refine ef_top (L := [some (.int p0)]) rfl ?_
  refine es_blk (pc' := 1) (L' := [some (.int p0)]) (st' := [.int p0]) [(.iload_n 0, 0)] (by decide +kernel) rfl rfl ?_
  refine ef_J (X := fun j1 => ∀ (a2 : Int32), eh_Sim g eM_12_denied (eh_R 1 0 0) (eh_pI s) 0 0 19 [none] [.int a2] (eh_FW s) ((j1 a2).bind some)) ?_ (fun j1 Hj1 => ?_)
  · intro a2
    exact es_ret rfl rfl rfl ⟨by decide +kernel, _, rfl, rfl⟩ (Nat.le_refl _) (Nat.le_refl _)
  refine es_ne (tgt := 8) (off := (7)) (by decide +kernel) (by decide) (fun h3 => ?_) (fun h3 => ?_)
  · refine es_blk (pc' := 5) (L' := [some (.int p0)]) (st' := [.int 1]) [(.iconst 1, 1)] (by decide +kernel) rfl rfl ?_
    refine es_goto (tgt := 19) (off := (14)) (by decide +kernel) (by decide) ?_
    refine ef_drop (L2 := [none]) [false] rfl rfl ?_
    exact Hj1 _
  refine es_blk (pc' := 10) (L' := [some (.int p0)]) (st' := [.int 1, .int p0]) [(.iload_n 0, 0), (.iconst 1, 1)] (by decide +kernel) rfl rfl ?_
  refine es_ine (tgt := 17) (off := (7)) (by decide +kernel) (by decide) (fun h4 => ?_) (fun h4 => ?_)
  · refine es_blk (pc' := 14) (L' := [some (.int p0)]) (st' := [.int 5]) [(.iconst 5, 5)] (by decide +kernel) rfl rfl ?_
    refine es_goto (tgt := 19) (off := (5)) (by decide +kernel) (by decide) ?_
    refine ef_drop (L2 := [none]) [false] rfl rfl ?_
    exact Hj1 _
  refine es_blk (pc' := 19) (L' := [some (.int p0)]) (st' := [.int 7]) [(.bipush 7, 7)] (by decide +kernel) rfl rfl ?_
  refine ef_drop (L2 := [none]) [false] rfl rfl ?_
  exact Hj1 _
def eF_12_unpaged (s : eh_F) (p0 : Int32) : Option (Int32) := eh_J (fun (a2 : Int32) => some a2) (fun j1 => if p0 = 0 then (j1 12) else (if p0 = 1 then (j1 13) else (j1 15)))
set_option maxHeartbeats 4000000 in
set_option maxRecDepth 100000 in
theorem eS_12_unpaged (g : eh_P) (s : eh_F) (p0 : Int32) : eh_Sim g eM_12_unpaged (eh_R 1 0 0) (eh_pI s) 0 0 0 (eh_en 1 [.int p0]) [] (eh_FW s) (eF_12_unpaged s p0) := by
  unfold eF_12_unpaged
  refine ef_top (L := [some (.int p0)]) rfl ?_
  refine es_blk (pc' := 1) (L' := [some (.int p0)]) (st' := [.int p0]) [(.iload_n 0, 0)] (by decide +kernel) rfl rfl ?_
  refine ef_J (X := fun j1 => ∀ (a2 : Int32), eh_Sim g eM_12_unpaged (eh_R 1 0 0) (eh_pI s) 0 0 21 [none] [.int a2] (eh_FW s) ((j1 a2).bind some)) ?_ (fun j1 Hj1 => ?_)
  · intro a2
    exact es_ret rfl rfl rfl ⟨by decide +kernel, _, rfl, rfl⟩ (Nat.le_refl _) (Nat.le_refl _)
  refine es_ne (tgt := 9) (off := (8)) (by decide +kernel) (by decide) (fun h3 => ?_) (fun h3 => ?_)
  · refine es_blk (pc' := 6) (L' := [some (.int p0)]) (st' := [.int 12]) [(.bipush 12, 12)] (by decide +kernel) rfl rfl ?_
    refine es_goto (tgt := 21) (off := (15)) (by decide +kernel) (by decide) ?_
    refine ef_drop (L2 := [none]) [false] rfl rfl ?_
    exact Hj1 _
  refine es_blk (pc' := 11) (L' := [some (.int p0)]) (st' := [.int 1, .int p0]) [(.iload_n 0, 0), (.iconst 1, 1)] (by decide +kernel) rfl rfl ?_
  refine es_ine (tgt := 19) (off := (8)) (by decide +kernel) (by decide) (fun h4 => ?_) (fun h4 => ?_)
  · refine es_blk (pc' := 16) (L' := [some (.int p0)]) (st' := [.int 13]) [(.bipush 13, 13)] (by decide +kernel) rfl rfl ?_
    refine es_goto (tgt := 21) (off := (5)) (by decide +kernel) (by decide) ?_
    refine ef_drop (L2 := [none]) [false] rfl rfl ?_
    exact Hj1 _
  refine es_blk (pc' := 21) (L' := [some (.int p0)]) (st' := [.int 15]) [(.bipush 15, 15)] (by decide +kernel) rfl rfl ?_
  refine ef_drop (L2 := [none]) [false] rfl rfl ?_
  exact Hj1 _
def eF_12_happens (s : eh_F) (p0 : Int32) (p1 : Int32) (p2 : Int32) (p3 : Int32) (p4 : Int32) : Option (eh_F) := eh_J (fun (s2 : eh_F) => eh_V (eh_tI s2 127 50 ((s2.1 127 50) + 1)) (fun s3 => some s3)) (fun j1 => if (s.1 127 50) < 1000 then (eh_V ((8 * (s.1 127 50)) : Int32) (fun x5 => if eh_in x5 8000 then eh_V (eh_tI s 173 (eh_ix x5) p0) (fun s6 => if eh_in (x5 + 1) 8000 then eh_V (eh_tI s6 173 (eh_ix (x5 + 1)) (s6.1 127 20)) (fun s7 => if eh_in (x5 + 2) 8000 then eh_V (eh_tI s7 173 (eh_ix (x5 + 2)) p1) (fun s8 => if eh_in p1 2 then if eh_in (x5 + 3) 8000 then eh_V (eh_tI s8 173 (eh_ix (x5 + 3)) (s8.1 144 (eh_ix p1))) (fun s9 => if eh_in p1 2 then if eh_in (s9.1 144 (eh_ix p1)) 12 then if eh_in (x5 + 4) 8000 then eh_V (eh_tI s9 173 (eh_ix (x5 + 4)) (s9.1 149 (eh_ix (s9.1 144 (eh_ix p1))))) (fun s10 => if eh_in (x5 + 5) 8000 then eh_V (eh_tI s10 173 (eh_ix (x5 + 5)) p2) (fun s11 => if eh_in (x5 + 6) 8000 then eh_V (eh_tI s11 173 (eh_ix (x5 + 6)) p3) (fun s12 => if eh_in (x5 + 7) 8000 then eh_V (eh_tI s12 173 (eh_ix (x5 + 7)) p4) (fun s13 => j1 s13) else none) else none) else none) else none else none else none) else none else none) else none) else none) else none)) else (j1 s))
set_option maxHeartbeats 4000000 in
set_option maxRecDepth 100000 in
theorem eS_12_happens (g : eh_P) (s : eh_F) (p0 : Int32) (p1 : Int32) (p2 : Int32) (p3 : Int32) (p4 : Int32) : eh_Sim g eM_12_happens (eh_R 1 0 0) eh_eV 0 0 0 (eh_en 7 [.ref 127, .int p0, .int p1, .int p2, .int p3, .int p4]) [] (eh_FW s) (eF_12_happens s p0 p1 p2 p3 p4) := by
  unfold eF_12_happens
  refine ef_top (L := [some (.ref 127), some (.int p0), some (.int p1), some (.int p2), some (.int p3), some (.int p4), none]) rfl ?_
  refine es_blk (pc' := 1) (L' := [some (.ref 127), some (.int p0), some (.int p1), some (.int p2), some (.int p3), some (.int p4), none]) (st' := [.ref 127]) [(.aload_n 0, 0)] (by decide +kernel) rfl rfl ?_
  refine ef_getI (k := 127) (j := 50) rfl eL_12_290 (by decide) (by decide +kernel) ?_
  refine es_blk (pc' := 7) (L' := [some (.ref 127), some (.int p0), some (.int p1), some (.int p2), some (.int p3), some (.int p4), none]) (st' := [.int 1000, .int (s.1 127 50)]) [(.sipush 1000, 1000)] (by decide +kernel) rfl rfl ?_
  refine ef_J (X := fun j1 => ∀ (s2 : eh_F), eh_Sim g eM_12_happens (eh_R 1 0 0) eh_eV 0 0 119 [some (.ref 127), none, none, none, none, none, none] [] (eh_FW s2) ((j1 s2).bind some)) ?_ (fun j1 Hj1 => ?_)
  · intro s2
    refine es_blk (pc' := 121) (L' := [some (.ref 127), none, none, none, none, none, none]) (st' := [.ref 127, .ref 127]) [(.aload_n 0, 0), (.dup, 0)] (by decide +kernel) rfl rfl ?_
    refine ef_getI (k := 127) (j := 50) rfl eL_12_290 (by decide) (by decide +kernel) ?_
    refine es_blk (pc' := 126) (L' := [some (.ref 127), none, none, none, none, none, none]) (st' := [.int ((s2.1 127 50) + 1), .ref 127]) [(.iconst 1, 1), (.iadd, 0)] (by decide +kernel) rfl rfl ?_
    refine ef_putI (k := 127) (j := 50) rfl eL_12_290 rfl rfl (by decide +kernel) ?_
    refine ef_V (fun _ => [some (.ref 127), none, none, none, none, none, none]) (fun _ => []) (fun s3 => eh_FW s3) (fun s3 => ?_)
    exact es_ret rfl rfl rfl ⟨by decide +kernel, rfl⟩ (Nat.le_refl _) (Nat.le_refl _)
  refine es_ige (tgt := 119) (off := (112)) (by decide +kernel) (by decide) (fun h4 => ?_) (fun h4 => ?_)
  · refine es_blk (pc' := 13) (L' := [some (.ref 127), some (.int p0), some (.int p1), some (.int p2), some (.int p3), some (.int p4), none]) (st' := [.ref 127, .int 8]) [(.bipush 8, 8), (.aload_n 0, 0)] (by decide +kernel) rfl rfl ?_
    refine ef_getI (k := 127) (j := 50) rfl eL_12_290 (by decide) (by decide +kernel) ?_
    refine es_blk (pc' := 19) (L' := [some (.ref 127), some (.int p0), some (.int p1), some (.int p2), some (.int p3), some (.int p4), some (.int (8 * (s.1 127 50)))]) (st' := []) [(.imul, 0), (.istore 6, 0)] (by decide +kernel) rfl rfl ?_
    refine ef_V (fun x5 => [some (.ref 127), some (.int p0), some (.int p1), some (.int p2), some (.int p3), some (.int p4), some (.int x5)]) (fun _ => []) (fun _ => eh_FW s) (fun x5 => ?_)
    refine es_blk (pc' := 20) (L' := [some (.ref 127), some (.int p0), some (.int p1), some (.int p2), some (.int p3), some (.int p4), some (.int x5)]) (st' := [.ref 127]) [(.aload_n 0, 0)] (by decide +kernel) rfl rfl ?_
    refine ef_getP (k := 127) (j := 49) (q := 173) rfl eL_12_148 rfl rfl rfl (by decide +kernel) ?_
    refine es_blk (pc' := 26) (L' := [some (.ref 127), some (.int p0), some (.int p1), some (.int p2), some (.int p3), some (.int p4), some (.int x5)]) (st' := [.int p0, .int x5, .ref 173]) [(.iload 6, 0), (.iload_n 1, 0)] (by decide +kernel) rfl rfl ?_
    refine ef_ast (k := 173) rfl (by decide +kernel) (fun _ => ?_)
    refine ef_V (fun _ => [some (.ref 127), some (.int p0), some (.int p1), some (.int p2), some (.int p3), some (.int p4), some (.int x5)]) (fun _ => []) (fun s6 => eh_FW s6) (fun s6 => ?_)
    refine es_blk (pc' := 28) (L' := [some (.ref 127), some (.int p0), some (.int p1), some (.int p2), some (.int p3), some (.int p4), some (.int x5)]) (st' := [.ref 127]) [(.aload_n 0, 0)] (by decide +kernel) rfl rfl ?_
    refine ef_getP (k := 127) (j := 49) (q := 173) rfl eL_12_148 rfl rfl rfl (by decide +kernel) ?_
    refine es_blk (pc' := 36) (L' := [some (.ref 127), some (.int p0), some (.int p1), some (.int p2), some (.int p3), some (.int p4), some (.int x5)]) (st' := [.ref 127, .int (x5 + 1), .ref 173]) [(.iload 6, 0), (.iconst 1, 1), (.iadd, 0), (.aload_n 0, 0)] (by decide +kernel) rfl rfl ?_
    refine ef_getI (k := 127) (j := 20) rfl eL_12_280 (by decide) (by decide +kernel) ?_
    refine ef_ast (k := 173) rfl (by decide +kernel) (fun _ => ?_)
    refine ef_V (fun _ => [some (.ref 127), some (.int p0), some (.int p1), some (.int p2), some (.int p3), some (.int p4), some (.int x5)]) (fun _ => []) (fun s7 => eh_FW s7) (fun s7 => ?_)
    refine es_blk (pc' := 41) (L' := [some (.ref 127), some (.int p0), some (.int p1), some (.int p2), some (.int p3), some (.int p4), some (.int x5)]) (st' := [.ref 127]) [(.aload_n 0, 0)] (by decide +kernel) rfl rfl ?_
    refine ef_getP (k := 127) (j := 49) (q := 173) rfl eL_12_148 rfl rfl rfl (by decide +kernel) ?_
    refine es_blk (pc' := 49) (L' := [some (.ref 127), some (.int p0), some (.int p1), some (.int p2), some (.int p3), some (.int p4), some (.int x5)]) (st' := [.int p1, .int (x5 + 2), .ref 173]) [(.iload 6, 0), (.iconst 2, 2), (.iadd, 0), (.iload_n 2, 0)] (by decide +kernel) rfl rfl ?_
    refine ef_ast (k := 173) rfl (by decide +kernel) (fun _ => ?_)
    refine ef_V (fun _ => [some (.ref 127), some (.int p0), some (.int p1), some (.int p2), some (.int p3), some (.int p4), some (.int x5)]) (fun _ => []) (fun s8 => eh_FW s8) (fun s8 => ?_)
    refine es_blk (pc' := 51) (L' := [some (.ref 127), some (.int p0), some (.int p1), some (.int p2), some (.int p3), some (.int p4), some (.int x5)]) (st' := [.ref 127]) [(.aload_n 0, 0)] (by decide +kernel) rfl rfl ?_
    refine ef_getP (k := 127) (j := 49) (q := 173) rfl eL_12_148 rfl rfl rfl (by decide +kernel) ?_
    refine es_blk (pc' := 59) (L' := [some (.ref 127), some (.int p0), some (.int p1), some (.int p2), some (.int p3), some (.int p4), some (.int x5)]) (st' := [.ref 127, .int (x5 + 3), .ref 173]) [(.iload 6, 0), (.iconst 3, 3), (.iadd, 0), (.aload_n 0, 0)] (by decide +kernel) rfl rfl ?_
    refine ef_getP (k := 127) (j := 16) (q := 144) rfl eL_12_61 rfl rfl rfl (by decide +kernel) ?_
    refine es_blk (pc' := 63) (L' := [some (.ref 127), some (.int p0), some (.int p1), some (.int p2), some (.int p3), some (.int p4), some (.int x5)]) (st' := [.int p1, .ref 144, .int (x5 + 3), .ref 173]) [(.iload_n 2, 0)] (by decide +kernel) rfl rfl ?_
    refine ef_ald (k := 144) rfl (Or.inl ⟨rfl, rfl⟩) (by decide +kernel) (fun _ => ?_)
    refine ef_ast (k := 173) rfl (by decide +kernel) (fun _ => ?_)
    refine ef_V (fun _ => [some (.ref 127), some (.int p0), some (.int p1), some (.int p2), some (.int p3), some (.int p4), some (.int x5)]) (fun _ => []) (fun s9 => eh_FW s9) (fun s9 => ?_)
    refine es_blk (pc' := 66) (L' := [some (.ref 127), some (.int p0), some (.int p1), some (.int p2), some (.int p3), some (.int p4), some (.int x5)]) (st' := [.ref 127]) [(.aload_n 0, 0)] (by decide +kernel) rfl rfl ?_
    refine ef_getP (k := 127) (j := 49) (q := 173) rfl eL_12_148 rfl rfl rfl (by decide +kernel) ?_
    refine es_blk (pc' := 74) (L' := [some (.ref 127), some (.int p0), some (.int p1), some (.int p2), some (.int p3), some (.int p4), some (.int x5)]) (st' := [.ref 127, .int (x5 + 4), .ref 173]) [(.iload 6, 0), (.iconst 4, 4), (.iadd, 0), (.aload_n 0, 0)] (by decide +kernel) rfl rfl ?_
    refine ef_getP (k := 127) (j := 24) (q := 149) rfl eL_12_76 rfl rfl rfl (by decide +kernel) ?_
    refine es_blk (pc' := 78) (L' := [some (.ref 127), some (.int p0), some (.int p1), some (.int p2), some (.int p3), some (.int p4), some (.int x5)]) (st' := [.ref 127, .ref 149, .int (x5 + 4), .ref 173]) [(.aload_n 0, 0)] (by decide +kernel) rfl rfl ?_
    refine ef_getP (k := 127) (j := 16) (q := 144) rfl eL_12_61 rfl rfl rfl (by decide +kernel) ?_
    refine es_blk (pc' := 82) (L' := [some (.ref 127), some (.int p0), some (.int p1), some (.int p2), some (.int p3), some (.int p4), some (.int x5)]) (st' := [.int p1, .ref 144, .ref 149, .int (x5 + 4), .ref 173]) [(.iload_n 2, 0)] (by decide +kernel) rfl rfl ?_
    refine ef_ald (k := 144) rfl (Or.inl ⟨rfl, rfl⟩) (by decide +kernel) (fun _ => ?_)
    refine ef_ald (k := 149) rfl (Or.inl ⟨rfl, rfl⟩) (by decide +kernel) (fun _ => ?_)
    refine ef_ast (k := 173) rfl (by decide +kernel) (fun _ => ?_)
    refine ef_V (fun _ => [some (.ref 127), some (.int p0), some (.int p1), some (.int p2), some (.int p3), some (.int p4), some (.int x5)]) (fun _ => []) (fun s10 => eh_FW s10) (fun s10 => ?_)
    refine es_blk (pc' := 86) (L' := [some (.ref 127), some (.int p0), some (.int p1), some (.int p2), some (.int p3), some (.int p4), some (.int x5)]) (st' := [.ref 127]) [(.aload_n 0, 0)] (by decide +kernel) rfl rfl ?_
    refine ef_getP (k := 127) (j := 49) (q := 173) rfl eL_12_148 rfl rfl rfl (by decide +kernel) ?_
    refine es_blk (pc' := 94) (L' := [some (.ref 127), some (.int p0), some (.int p1), some (.int p2), some (.int p3), some (.int p4), some (.int x5)]) (st' := [.int p2, .int (x5 + 5), .ref 173]) [(.iload 6, 0), (.iconst 5, 5), (.iadd, 0), (.iload_n 3, 0)] (by decide +kernel) rfl rfl ?_
    refine ef_ast (k := 173) rfl (by decide +kernel) (fun _ => ?_)
    refine ef_V (fun _ => [some (.ref 127), some (.int p0), some (.int p1), some (.int p2), some (.int p3), some (.int p4), some (.int x5)]) (fun _ => []) (fun s11 => eh_FW s11) (fun s11 => ?_)
    refine es_blk (pc' := 96) (L' := [some (.ref 127), some (.int p0), some (.int p1), some (.int p2), some (.int p3), some (.int p4), some (.int x5)]) (st' := [.ref 127]) [(.aload_n 0, 0)] (by decide +kernel) rfl rfl ?_
    refine ef_getP (k := 127) (j := 49) (q := 173) rfl eL_12_148 rfl rfl rfl (by decide +kernel) ?_
    refine es_blk (pc' := 106) (L' := [some (.ref 127), some (.int p0), some (.int p1), some (.int p2), some (.int p3), some (.int p4), some (.int x5)]) (st' := [.int p3, .int (x5 + 6), .ref 173]) [(.iload 6, 0), (.bipush 6, 6), (.iadd, 0), (.iload 4, 0)] (by decide +kernel) rfl rfl ?_
    refine ef_ast (k := 173) rfl (by decide +kernel) (fun _ => ?_)
    refine ef_V (fun _ => [some (.ref 127), some (.int p0), some (.int p1), some (.int p2), some (.int p3), some (.int p4), some (.int x5)]) (fun _ => []) (fun s12 => eh_FW s12) (fun s12 => ?_)
    refine es_blk (pc' := 108) (L' := [some (.ref 127), some (.int p0), some (.int p1), some (.int p2), some (.int p3), some (.int p4), some (.int x5)]) (st' := [.ref 127]) [(.aload_n 0, 0)] (by decide +kernel) rfl rfl ?_
    refine ef_getP (k := 127) (j := 49) (q := 173) rfl eL_12_148 rfl rfl rfl (by decide +kernel) ?_
    refine es_blk (pc' := 118) (L' := [some (.ref 127), some (.int p0), some (.int p1), some (.int p2), some (.int p3), some (.int p4), some (.int x5)]) (st' := [.int p4, .int (x5 + 7), .ref 173]) [(.iload 6, 0), (.bipush 7, 7), (.iadd, 0), (.iload 5, 0)] (by decide +kernel) rfl rfl ?_
    refine ef_ast (k := 173) rfl (by decide +kernel) (fun _ => ?_)
    refine ef_V (fun _ => [some (.ref 127), some (.int p0), some (.int p1), some (.int p2), some (.int p3), some (.int p4), some (.int x5)]) (fun _ => []) (fun s13 => eh_FW s13) (fun s13 => ?_)
    refine ef_drop (L2 := [some (.ref 127), none, none, none, none, none, none]) [true, false, false, false, false, false, false] rfl rfl ?_
    exact Hj1 _
  refine ef_drop (L2 := [some (.ref 127), none, none, none, none, none, none]) [true, false, false, false, false, false, true] rfl rfl ?_
  exact Hj1 _
def eF_12_who (s : eh_F) (p0 : Int32) : Option (Int32) := if eh_in p0 2 then eh_J (fun (a2 : Int32) => some a2) (fun j1 => if (s.1 144 (eh_ix p0)) = (-1) then (j1 p0) else (if eh_in p0 2 then j1 (2 + (s.1 144 (eh_ix p0))) else none)) else none
set_option maxHeartbeats 4000000 in
set_option maxRecDepth 100000 in
theorem eS_12_who (g : eh_P) (s : eh_F) (p0 : Int32) : eh_Sim g eM_12_who (eh_R 1 0 0) (eh_pI s) 0 0 0 (eh_en 2 [.ref 127, .int p0]) [] (eh_FW s) (eF_12_who s p0) := by
  unfold eF_12_who
  refine ef_top (L := [some (.ref 127), some (.int p0)]) rfl ?_
  refine es_blk (pc' := 1) (L' := [some (.ref 127), some (.int p0)]) (st' := [.ref 127]) [(.aload_n 0, 0)] (by decide +kernel) rfl rfl ?_
  refine ef_getP (k := 127) (j := 16) (q := 144) rfl eL_12_61 rfl rfl rfl (by decide +kernel) ?_
  refine es_blk (pc' := 5) (L' := [some (.ref 127), some (.int p0)]) (st' := [.int p0, .ref 144]) [(.iload_n 1, 0)] (by decide +kernel) rfl rfl ?_
  refine ef_ald (k := 144) rfl (Or.inl ⟨rfl, rfl⟩) (by decide +kernel) (fun _ => ?_)
  refine es_blk (pc' := 7) (L' := [some (.ref 127), some (.int p0)]) (st' := [.int (-1), .int (s.1 144 (eh_ix p0))]) [(.iconst (-1), (-1))] (by decide +kernel) rfl rfl ?_
  refine ef_J (X := fun j1 => ∀ (a2 : Int32), eh_Sim g eM_12_who (eh_R 1 0 0) (eh_pI s) 0 0 22 [none, none] [.int a2] (eh_FW s) ((j1 a2).bind some)) ?_ (fun j1 Hj1 => ?_)
  · intro a2
    exact es_ret rfl rfl rfl ⟨by decide +kernel, _, rfl, rfl⟩ (Nat.le_refl _) (Nat.le_refl _)
  refine es_ine (tgt := 14) (off := (7)) (by decide +kernel) (by decide) (fun h3 => ?_) (fun h3 => ?_)
  · refine es_blk (pc' := 11) (L' := [some (.ref 127), some (.int p0)]) (st' := [.int p0]) [(.iload_n 1, 0)] (by decide +kernel) rfl rfl ?_
    refine es_goto (tgt := 22) (off := (11)) (by decide +kernel) (by decide) ?_
    refine ef_drop (L2 := [none, none]) [false, false] rfl rfl ?_
    exact Hj1 _
  refine es_blk (pc' := 16) (L' := [some (.ref 127), some (.int p0)]) (st' := [.ref 127, .int 2]) [(.iconst 2, 2), (.aload_n 0, 0)] (by decide +kernel) rfl rfl ?_
  refine ef_getP (k := 127) (j := 16) (q := 144) rfl eL_12_61 rfl rfl rfl (by decide +kernel) ?_
  refine es_blk (pc' := 20) (L' := [some (.ref 127), some (.int p0)]) (st' := [.int p0, .ref 144, .int 2]) [(.iload_n 1, 0)] (by decide +kernel) rfl rfl ?_
  refine ef_ald (k := 144) rfl (Or.inl ⟨rfl, rfl⟩) (by decide +kernel) (fun _ => ?_)
  refine es_blk (pc' := 22) (L' := [some (.ref 127), some (.int p0)]) (st' := [.int (2 + (s.1 144 (eh_ix p0)))]) [(.iadd, 0)] (by decide +kernel) rfl rfl ?_
  refine ef_drop (L2 := [none, none]) [false, false] rfl rfl ?_
  exact Hj1 _
def eF_12_trap (s : eh_F) (p0 : Int32) (p1 : Int32) (p2 : Int32) : Option (eh_F) := if eh_in p0 14 then if eh_in p0 2 then eh_V (eh_tI s 137 (eh_ix p0) (s.1 130 (eh_ix p0))) (fun s1 => if eh_in p0 2 then eh_V (eh_tI s1 138 (eh_ix p0) p1) (fun s2 => if eh_in p0 2 then eh_V (eh_tI s2 139 (eh_ix p0) p2) (fun s3 => if eh_in p0 2 then eh_V (((eh_shr (s3.1 133 (eh_ix p0)) 1) &&& 1) : Int32) (fun x4 => if eh_in p0 2 then if eh_in p0 2 then if eh_in p0 2 then eh_V (eh_tI s3 133 (eh_ix p0) ((((s3.1 133 (eh_ix p0)) &&& (-291)) ||| (eh_shl x4 5)) ||| (eh_shl (s3.1 131 (eh_ix p0)) 8))) (fun s5 => if eh_in p0 2 then eh_V (eh_tI s5 131 (eh_ix p0) 1) (fun s6 => if eh_in p0 2 then if eh_in p0 14 then eh_V (eh_tI s6 130 (eh_ix p0) (s6.1 135 (eh_ix p0))) (fun s7 => some s7) else none else none) else none) else none else none else none) else none) else none) else none) else none else none
set_option maxHeartbeats 4000000 in
set_option maxRecDepth 100000 in
theorem eS_12_trap (g : eh_P) (s : eh_F) (p0 : Int32) (p1 : Int32) (p2 : Int32) : eh_Sim g eM_12_trap (eh_R 1 0 0) eh_eV 0 0 0 (eh_en 5 [.ref 127, .int p0, .int p1, .int p2]) [] (eh_FW s) (eF_12_trap s p0 p1 p2) := by
  unfold eF_12_trap
  refine ef_top (L := [some (.ref 127), some (.int p0), some (.int p1), some (.int p2), none]) rfl ?_
  refine es_blk (pc' := 1) (L' := [some (.ref 127), some (.int p0), some (.int p1), some (.int p2), none]) (st' := [.ref 127]) [(.aload_n 0, 0)] (by decide +kernel) rfl rfl ?_
  refine ef_getP (k := 127) (j := 9) (q := 137) rfl eL_12_40 rfl rfl rfl (by decide +kernel) ?_
  refine es_blk (pc' := 6) (L' := [some (.ref 127), some (.int p0), some (.int p1), some (.int p2), none]) (st' := [.ref 127, .int p0, .ref 137]) [(.iload_n 1, 0), (.aload_n 0, 0)] (by decide +kernel) rfl rfl ?_
  refine ef_getP (k := 127) (j := 2) (q := 130) rfl eL_12_18 rfl rfl rfl (by decide +kernel) ?_
  refine es_blk (pc' := 10) (L' := [some (.ref 127), some (.int p0), some (.int p1), some (.int p2), none]) (st' := [.int p0, .ref 130, .int p0, .ref 137]) [(.iload_n 1, 0)] (by decide +kernel) rfl rfl ?_
  refine ef_ald (k := 130) rfl (Or.inl ⟨rfl, rfl⟩) (by decide +kernel) (fun _ => ?_)
  refine ef_ast (k := 137) rfl (by decide +kernel) (fun _ => ?_)
  refine ef_V (fun _ => [some (.ref 127), some (.int p0), some (.int p1), some (.int p2), none]) (fun _ => []) (fun s1 => eh_FW s1) (fun s1 => ?_)
  refine es_blk (pc' := 13) (L' := [some (.ref 127), some (.int p0), some (.int p1), some (.int p2), none]) (st' := [.ref 127]) [(.aload_n 0, 0)] (by decide +kernel) rfl rfl ?_
  refine ef_getP (k := 127) (j := 10) (q := 138) rfl eL_12_43 rfl rfl rfl (by decide +kernel) ?_
  refine es_blk (pc' := 18) (L' := [some (.ref 127), some (.int p0), some (.int p1), some (.int p2), none]) (st' := [.int p1, .int p0, .ref 138]) [(.iload_n 1, 0), (.iload_n 2, 0)] (by decide +kernel) rfl rfl ?_
  refine ef_ast (k := 138) rfl (by decide +kernel) (fun _ => ?_)
  refine ef_V (fun _ => [some (.ref 127), some (.int p0), some (.int p1), some (.int p2), none]) (fun _ => []) (fun s2 => eh_FW s2) (fun s2 => ?_)
  refine es_blk (pc' := 20) (L' := [some (.ref 127), some (.int p0), some (.int p1), some (.int p2), none]) (st' := [.ref 127]) [(.aload_n 0, 0)] (by decide +kernel) rfl rfl ?_
  refine ef_getP (k := 127) (j := 11) (q := 139) rfl eL_12_46 rfl rfl rfl (by decide +kernel) ?_
  refine es_blk (pc' := 25) (L' := [some (.ref 127), some (.int p0), some (.int p1), some (.int p2), none]) (st' := [.int p2, .int p0, .ref 139]) [(.iload_n 1, 0), (.iload_n 3, 0)] (by decide +kernel) rfl rfl ?_
  refine ef_ast (k := 139) rfl (by decide +kernel) (fun _ => ?_)
  refine ef_V (fun _ => [some (.ref 127), some (.int p0), some (.int p1), some (.int p2), none]) (fun _ => []) (fun s3 => eh_FW s3) (fun s3 => ?_)
  refine es_blk (pc' := 27) (L' := [some (.ref 127), some (.int p0), some (.int p1), some (.int p2), none]) (st' := [.ref 127]) [(.aload_n 0, 0)] (by decide +kernel) rfl rfl ?_
  refine ef_getP (k := 127) (j := 5) (q := 133) rfl eL_12_28 rfl rfl rfl (by decide +kernel) ?_
  refine es_blk (pc' := 31) (L' := [some (.ref 127), some (.int p0), some (.int p1), some (.int p2), none]) (st' := [.int p0, .ref 133]) [(.iload_n 1, 0)] (by decide +kernel) rfl rfl ?_
  refine ef_ald (k := 133) rfl (Or.inl ⟨rfl, rfl⟩) (by decide +kernel) (fun _ => ?_)
  refine es_blk (pc' := 38) (L' := [some (.ref 127), some (.int p0), some (.int p1), some (.int p2), some (.int ((eh_shr (s3.1 133 (eh_ix p0)) 1) &&& 1))]) (st' := []) [(.iconst 1, 1), (.ishr, 0), (.iconst 1, 1), (.iand, 0), (.istore 4, 0)] (by decide +kernel) rfl rfl ?_
  refine ef_V (fun x4 => [some (.ref 127), some (.int p0), some (.int p1), some (.int p2), some (.int x4)]) (fun _ => []) (fun _ => eh_FW s3) (fun x4 => ?_)
  refine es_blk (pc' := 39) (L' := [some (.ref 127), some (.int p0), some (.int p1), some (.int p2), some (.int x4)]) (st' := [.ref 127]) [(.aload_n 0, 0)] (by decide +kernel) rfl rfl ?_
  refine ef_getP (k := 127) (j := 5) (q := 133) rfl eL_12_28 rfl rfl rfl (by decide +kernel) ?_
  refine es_blk (pc' := 44) (L' := [some (.ref 127), some (.int p0), some (.int p1), some (.int p2), some (.int x4)]) (st' := [.ref 127, .int p0, .ref 133]) [(.iload_n 1, 0), (.aload_n 0, 0)] (by decide +kernel) rfl rfl ?_
  refine ef_getP (k := 127) (j := 5) (q := 133) rfl eL_12_28 rfl rfl rfl (by decide +kernel) ?_
  refine es_blk (pc' := 48) (L' := [some (.ref 127), some (.int p0), some (.int p1), some (.int p2), some (.int x4)]) (st' := [.int p0, .ref 133, .int p0, .ref 133]) [(.iload_n 1, 0)] (by decide +kernel) rfl rfl ?_
  refine ef_ald (k := 133) rfl (Or.inl ⟨rfl, rfl⟩) (by decide +kernel) (fun _ => ?_)
  refine es_blk (pc' := 59) (L' := [some (.ref 127), some (.int p0), some (.int p1), some (.int p2), some (.int x4)]) (st' := [.ref 127, .int (((s3.1 133 (eh_ix p0)) &&& (-291)) ||| (eh_shl x4 5)), .int p0, .ref 133]) [(.sipush (-291), (-291)), (.iand, 0), (.iload 4, 0), (.iconst 5, 5), (.ishl, 0), (.ior, 0), (.aload_n 0, 0)] (by decide +kernel) rfl rfl ?_
  refine ef_getP (k := 127) (j := 3) (q := 131) rfl eL_12_21 rfl rfl rfl (by decide +kernel) ?_
  refine es_blk (pc' := 63) (L' := [some (.ref 127), some (.int p0), some (.int p1), some (.int p2), some (.int x4)]) (st' := [.int p0, .ref 131, .int (((s3.1 133 (eh_ix p0)) &&& (-291)) ||| (eh_shl x4 5)), .int p0, .ref 133]) [(.iload_n 1, 0)] (by decide +kernel) rfl rfl ?_
  refine ef_ald (k := 131) rfl (Or.inl ⟨rfl, rfl⟩) (by decide +kernel) (fun _ => ?_)
  refine es_blk (pc' := 68) (L' := [some (.ref 127), some (.int p0), some (.int p1), some (.int p2), some (.int x4)]) (st' := [.int ((((s3.1 133 (eh_ix p0)) &&& (-291)) ||| (eh_shl x4 5)) ||| (eh_shl (s3.1 131 (eh_ix p0)) 8)), .int p0, .ref 133]) [(.bipush 8, 8), (.ishl, 0), (.ior, 0)] (by decide +kernel) rfl rfl ?_
  refine ef_ast (k := 133) rfl (by decide +kernel) (fun _ => ?_)
  refine ef_V (fun _ => [some (.ref 127), some (.int p0), some (.int p1), some (.int p2), some (.int x4)]) (fun _ => []) (fun s5 => eh_FW s5) (fun s5 => ?_)
  refine es_blk (pc' := 70) (L' := [some (.ref 127), some (.int p0), some (.int p1), some (.int p2), some (.int x4)]) (st' := [.ref 127]) [(.aload_n 0, 0)] (by decide +kernel) rfl rfl ?_
  refine ef_getP (k := 127) (j := 3) (q := 131) rfl eL_12_21 rfl rfl rfl (by decide +kernel) ?_
  refine es_blk (pc' := 75) (L' := [some (.ref 127), some (.int p0), some (.int p1), some (.int p2), some (.int x4)]) (st' := [.int 1, .int p0, .ref 131]) [(.iload_n 1, 0), (.iconst 1, 1)] (by decide +kernel) rfl rfl ?_
  refine ef_ast (k := 131) rfl (by decide +kernel) (fun _ => ?_)
  refine ef_V (fun _ => [some (.ref 127), some (.int p0), some (.int p1), some (.int p2), some (.int x4)]) (fun _ => []) (fun s6 => eh_FW s6) (fun s6 => ?_)
  refine es_blk (pc' := 77) (L' := [some (.ref 127), some (.int p0), some (.int p1), some (.int p2), some (.int x4)]) (st' := [.ref 127]) [(.aload_n 0, 0)] (by decide +kernel) rfl rfl ?_
  refine ef_getP (k := 127) (j := 2) (q := 130) rfl eL_12_18 rfl rfl rfl (by decide +kernel) ?_
  refine es_blk (pc' := 82) (L' := [some (.ref 127), some (.int p0), some (.int p1), some (.int p2), some (.int x4)]) (st' := [.ref 127, .int p0, .ref 130]) [(.iload_n 1, 0), (.aload_n 0, 0)] (by decide +kernel) rfl rfl ?_
  refine ef_getP (k := 127) (j := 7) (q := 135) rfl eL_12_34 rfl rfl rfl (by decide +kernel) ?_
  refine es_blk (pc' := 86) (L' := [some (.ref 127), some (.int p0), some (.int p1), some (.int p2), some (.int x4)]) (st' := [.int p0, .ref 135, .int p0, .ref 130]) [(.iload_n 1, 0)] (by decide +kernel) rfl rfl ?_
  refine ef_ald (k := 135) rfl (Or.inl ⟨rfl, rfl⟩) (by decide +kernel) (fun _ => ?_)
  refine ef_ast (k := 130) rfl (by decide +kernel) (fun _ => ?_)
  refine ef_V (fun _ => [some (.ref 127), some (.int p0), some (.int p1), some (.int p2), some (.int x4)]) (fun _ => []) (fun s7 => eh_FW s7) (fun s7 => ?_)
  exact es_ret rfl rfl rfl ⟨by decide +kernel, rfl⟩ (Nat.le_refl _) (Nat.le_refl _)
def eF_12_leave (s : eh_F) (p0 : Int32) (p1 : Int32) (p2 : Int32) (p3 : Int32) : Option (eh_F) := if eh_in p0 2 then eh_V ((s.1 144 (eh_ix p0)) : Int32) (fun x1 => if eh_in x1 12 then eh_V (eh_tI s 148 (eh_ix x1) p1) (fun s2 => if eh_in p0 2 then eh_V (eh_tI s2 144 (eh_ix p0) (-1)) (fun s3 => if eh_in p0 2 then eh_V (eh_tI s3 147 (eh_ix p0) (-1)) (fun s4 => if eh_in ((32 * p0) + 10) 448 then eh_V (eh_tI s4 129 (eh_ix ((32 * p0) + 10)) p2) (fun s5 => if eh_in ((32 * p0) + 11) 448 then eh_V (eh_tI s5 129 (eh_ix ((32 * p0) + 11)) p3) (fun s6 => if eh_in ((32 * p0) + 12) 448 then eh_V (eh_tI s6 129 (eh_ix ((32 * p0) + 12)) x1) (fun s7 => some s7) else none) else none) else none) else none) else none) else none) else none
set_option maxHeartbeats 4000000 in
set_option maxRecDepth 100000 in
theorem eS_12_leave (g : eh_P) (s : eh_F) (p0 : Int32) (p1 : Int32) (p2 : Int32) (p3 : Int32) : eh_Sim g eM_12_leave (eh_R 1 0 0) eh_eV 0 0 0 (eh_en 6 [.ref 127, .int p0, .int p1, .int p2, .int p3]) [] (eh_FW s) (eF_12_leave s p0 p1 p2 p3) := by
  unfold eF_12_leave
  refine ef_top (L := [some (.ref 127), some (.int p0), some (.int p1), some (.int p2), some (.int p3), none]) rfl ?_
  refine es_blk (pc' := 1) (L' := [some (.ref 127), some (.int p0), some (.int p1), some (.int p2), some (.int p3), none]) (st' := [.ref 127]) [(.aload_n 0, 0)] (by decide +kernel) rfl rfl ?_
  refine ef_getP (k := 127) (j := 16) (q := 144) rfl eL_12_61 rfl rfl rfl (by decide +kernel) ?_
  refine es_blk (pc' := 5) (L' := [some (.ref 127), some (.int p0), some (.int p1), some (.int p2), some (.int p3), none]) (st' := [.int p0, .ref 144]) [(.iload_n 1, 0)] (by decide +kernel) rfl rfl ?_
  refine ef_ald (k := 144) rfl (Or.inl ⟨rfl, rfl⟩) (by decide +kernel) (fun _ => ?_)
  refine es_blk (pc' := 8) (L' := [some (.ref 127), some (.int p0), some (.int p1), some (.int p2), some (.int p3), some (.int (s.1 144 (eh_ix p0)))]) (st' := []) [(.istore 5, 0)] (by decide +kernel) rfl rfl ?_
  refine ef_V (fun x1 => [some (.ref 127), some (.int p0), some (.int p1), some (.int p2), some (.int p3), some (.int x1)]) (fun _ => []) (fun _ => eh_FW s) (fun x1 => ?_)
  refine es_blk (pc' := 9) (L' := [some (.ref 127), some (.int p0), some (.int p1), some (.int p2), some (.int p3), some (.int x1)]) (st' := [.ref 127]) [(.aload_n 0, 0)] (by decide +kernel) rfl rfl ?_
  refine ef_getP (k := 127) (j := 23) (q := 148) rfl eL_12_73 rfl rfl rfl (by decide +kernel) ?_
  refine es_blk (pc' := 15) (L' := [some (.ref 127), some (.int p0), some (.int p1), some (.int p2), some (.int p3), some (.int x1)]) (st' := [.int p1, .int x1, .ref 148]) [(.iload 5, 0), (.iload_n 2, 0)] (by decide +kernel) rfl rfl ?_
  refine ef_ast (k := 148) rfl (by decide +kernel) (fun _ => ?_)
  refine ef_V (fun _ => [some (.ref 127), some (.int p0), some (.int p1), some (.int p2), some (.int p3), some (.int x1)]) (fun _ => []) (fun s2 => eh_FW s2) (fun s2 => ?_)
  refine es_blk (pc' := 17) (L' := [some (.ref 127), some (.int p0), some (.int p1), some (.int p2), some (.int p3), some (.int x1)]) (st' := [.ref 127]) [(.aload_n 0, 0)] (by decide +kernel) rfl rfl ?_
  refine ef_getP (k := 127) (j := 16) (q := 144) rfl eL_12_61 rfl rfl rfl (by decide +kernel) ?_
  refine es_blk (pc' := 22) (L' := [some (.ref 127), some (.int p0), some (.int p1), some (.int p2), some (.int p3), some (.int x1)]) (st' := [.int (-1), .int p0, .ref 144]) [(.iload_n 1, 0), (.iconst (-1), (-1))] (by decide +kernel) rfl rfl ?_
  refine ef_ast (k := 144) rfl (by decide +kernel) (fun _ => ?_)
  refine ef_V (fun _ => [some (.ref 127), some (.int p0), some (.int p1), some (.int p2), some (.int p3), some (.int x1)]) (fun _ => []) (fun s3 => eh_FW s3) (fun s3 => ?_)
  refine es_blk (pc' := 24) (L' := [some (.ref 127), some (.int p0), some (.int p1), some (.int p2), some (.int p3), some (.int x1)]) (st' := [.ref 127]) [(.aload_n 0, 0)] (by decide +kernel) rfl rfl ?_
  refine ef_getP (k := 127) (j := 19) (q := 147) rfl eL_12_70 rfl rfl rfl (by decide +kernel) ?_
  refine es_blk (pc' := 29) (L' := [some (.ref 127), some (.int p0), some (.int p1), some (.int p2), some (.int p3), some (.int x1)]) (st' := [.int (-1), .int p0, .ref 147]) [(.iload_n 1, 0), (.iconst (-1), (-1))] (by decide +kernel) rfl rfl ?_
  refine ef_ast (k := 147) rfl (by decide +kernel) (fun _ => ?_)
  refine ef_V (fun _ => [some (.ref 127), some (.int p0), some (.int p1), some (.int p2), some (.int p3), some (.int x1)]) (fun _ => []) (fun s4 => eh_FW s4) (fun s4 => ?_)
  refine es_blk (pc' := 31) (L' := [some (.ref 127), some (.int p0), some (.int p1), some (.int p2), some (.int p3), some (.int x1)]) (st' := [.ref 127]) [(.aload_n 0, 0)] (by decide +kernel) rfl rfl ?_
  refine ef_getP (k := 127) (j := 1) (q := 129) rfl eL_12_14 rfl rfl rfl (by decide +kernel) ?_
  refine es_blk (pc' := 42) (L' := [some (.ref 127), some (.int p0), some (.int p1), some (.int p2), some (.int p3), some (.int x1)]) (st' := [.int p2, .int ((32 * p0) + 10), .ref 129]) [(.bipush 32, 32), (.iload_n 1, 0), (.imul, 0), (.bipush 10, 10), (.iadd, 0), (.iload_n 3, 0)] (by decide +kernel) rfl rfl ?_
  refine ef_ast (k := 129) rfl (by decide +kernel) (fun _ => ?_)
  refine ef_V (fun _ => [some (.ref 127), some (.int p0), some (.int p1), some (.int p2), some (.int p3), some (.int x1)]) (fun _ => []) (fun s5 => eh_FW s5) (fun s5 => ?_)
  refine es_blk (pc' := 44) (L' := [some (.ref 127), some (.int p0), some (.int p1), some (.int p2), some (.int p3), some (.int x1)]) (st' := [.ref 127]) [(.aload_n 0, 0)] (by decide +kernel) rfl rfl ?_
  refine ef_getP (k := 127) (j := 1) (q := 129) rfl eL_12_14 rfl rfl rfl (by decide +kernel) ?_
  refine es_blk (pc' := 56) (L' := [some (.ref 127), some (.int p0), some (.int p1), some (.int p2), some (.int p3), some (.int x1)]) (st' := [.int p3, .int ((32 * p0) + 11), .ref 129]) [(.bipush 32, 32), (.iload_n 1, 0), (.imul, 0), (.bipush 11, 11), (.iadd, 0), (.iload 4, 0)] (by decide +kernel) rfl rfl ?_
  refine ef_ast (k := 129) rfl (by decide +kernel) (fun _ => ?_)
  refine ef_V (fun _ => [some (.ref 127), some (.int p0), some (.int p1), some (.int p2), some (.int p3), some (.int x1)]) (fun _ => []) (fun s6 => eh_FW s6) (fun s6 => ?_)
  refine es_blk (pc' := 58) (L' := [some (.ref 127), some (.int p0), some (.int p1), some (.int p2), some (.int p3), some (.int x1)]) (st' := [.ref 127]) [(.aload_n 0, 0)] (by decide +kernel) rfl rfl ?_
  refine ef_getP (k := 127) (j := 1) (q := 129) rfl eL_12_14 rfl rfl rfl (by decide +kernel) ?_
  refine es_blk (pc' := 70) (L' := [some (.ref 127), some (.int p0), some (.int p1), some (.int p2), some (.int p3), some (.int x1)]) (st' := [.int x1, .int ((32 * p0) + 12), .ref 129]) [(.bipush 32, 32), (.iload_n 1, 0), (.imul, 0), (.bipush 12, 12), (.iadd, 0), (.iload 5, 0)] (by decide +kernel) rfl rfl ?_
  refine ef_ast (k := 129) rfl (by decide +kernel) (fun _ => ?_)
  refine ef_V (fun _ => [some (.ref 127), some (.int p0), some (.int p1), some (.int p2), some (.int p3), some (.int x1)]) (fun _ => []) (fun s7 => eh_FW s7) (fun s7 => ?_)
  exact es_ret rfl rfl rfl ⟨by decide +kernel, rfl⟩ (Nat.le_refl _) (Nat.le_refl _)
def eF_12_enter (s : eh_F) (p0 : Int32) (p1 : Int32) : Option (eh_F) := if eh_in p1 12 then eh_V (eh_tI s 148 (eh_ix p1) 2) (fun s1 => if eh_in p0 2 then eh_V (eh_tI s1 144 (eh_ix p0) p1) (fun s2 => if eh_in p0 2 then eh_V (eh_tI s2 132 (eh_ix p0) (eh_nz 0)) (fun s3 => if eh_in p0 2 then if eh_in p0 2 then eh_V (eh_tI s3 145 (eh_ix p0) (s3.1 143 (eh_ix p0))) (fun s4 => if eh_in p0 2 then eh_V (eh_tI s4 146 (eh_ix p0) 0) (fun s5 => if eh_in p0 2 then eh_V (eh_tI s5 147 (eh_ix p0) (-1)) (fun s6 => eh_V (eh_tI s6 127 86 1) (fun s7 => some s7)) else none) else none) else none else none) else none) else none) else none
set_option maxHeartbeats 4000000 in
set_option maxRecDepth 100000 in
theorem eS_12_enter (g : eh_P) (s : eh_F) (p0 : Int32) (p1 : Int32) : eh_Sim g eM_12_enter (eh_R 1 0 0) eh_eV 0 0 0 (eh_en 3 [.ref 127, .int p0, .int p1]) [] (eh_FW s) (eF_12_enter s p0 p1) := by
  unfold eF_12_enter
  refine ef_top (L := [some (.ref 127), some (.int p0), some (.int p1)]) rfl ?_
  refine es_blk (pc' := 1) (L' := [some (.ref 127), some (.int p0), some (.int p1)]) (st' := [.ref 127]) [(.aload_n 0, 0)] (by decide +kernel) rfl rfl ?_
  refine ef_getP (k := 127) (j := 23) (q := 148) rfl eL_12_73 rfl rfl rfl (by decide +kernel) ?_
  refine es_blk (pc' := 6) (L' := [some (.ref 127), some (.int p0), some (.int p1)]) (st' := [.int 2, .int p1, .ref 148]) [(.iload_n 2, 0), (.iconst 2, 2)] (by decide +kernel) rfl rfl ?_
  refine ef_ast (k := 148) rfl (by decide +kernel) (fun _ => ?_)
  refine ef_V (fun _ => [some (.ref 127), some (.int p0), some (.int p1)]) (fun _ => []) (fun s1 => eh_FW s1) (fun s1 => ?_)
  refine es_blk (pc' := 8) (L' := [some (.ref 127), some (.int p0), some (.int p1)]) (st' := [.ref 127]) [(.aload_n 0, 0)] (by decide +kernel) rfl rfl ?_
  refine ef_getP (k := 127) (j := 16) (q := 144) rfl eL_12_61 rfl rfl rfl (by decide +kernel) ?_
  refine es_blk (pc' := 13) (L' := [some (.ref 127), some (.int p0), some (.int p1)]) (st' := [.int p1, .int p0, .ref 144]) [(.iload_n 1, 0), (.iload_n 2, 0)] (by decide +kernel) rfl rfl ?_
  refine ef_ast (k := 144) rfl (by decide +kernel) (fun _ => ?_)
  refine ef_V (fun _ => [some (.ref 127), some (.int p0), some (.int p1)]) (fun _ => []) (fun s2 => eh_FW s2) (fun s2 => ?_)
  refine es_blk (pc' := 15) (L' := [some (.ref 127), some (.int p0), some (.int p1)]) (st' := [.ref 127]) [(.aload_n 0, 0)] (by decide +kernel) rfl rfl ?_
  refine ef_getP (k := 127) (j := 4) (q := 132) rfl eL_12_24 rfl rfl rfl (by decide +kernel) ?_
  refine es_blk (pc' := 20) (L' := [some (.ref 127), some (.int p0), some (.int p1)]) (st' := [.int 0, .int p0, .ref 132]) [(.iload_n 1, 0), (.iconst 0, 0)] (by decide +kernel) rfl rfl ?_
  refine ef_astZ (k := 132) rfl (by decide +kernel) (fun _ => ?_)
  refine ef_V (fun _ => [some (.ref 127), some (.int p0), some (.int p1)]) (fun _ => []) (fun s3 => eh_FW s3) (fun s3 => ?_)
  refine es_blk (pc' := 22) (L' := [some (.ref 127), some (.int p0), some (.int p1)]) (st' := [.ref 127]) [(.aload_n 0, 0)] (by decide +kernel) rfl rfl ?_
  refine ef_getP (k := 127) (j := 17) (q := 145) rfl eL_12_64 rfl rfl rfl (by decide +kernel) ?_
  refine es_blk (pc' := 27) (L' := [some (.ref 127), some (.int p0), some (.int p1)]) (st' := [.ref 127, .int p0, .ref 145]) [(.iload_n 1, 0), (.aload_n 0, 0)] (by decide +kernel) rfl rfl ?_
  refine ef_getP (k := 127) (j := 15) (q := 143) rfl eL_12_58 rfl rfl rfl (by decide +kernel) ?_
  refine es_blk (pc' := 31) (L' := [some (.ref 127), some (.int p0), some (.int p1)]) (st' := [.int p0, .ref 143, .int p0, .ref 145]) [(.iload_n 1, 0)] (by decide +kernel) rfl rfl ?_
  refine ef_ald (k := 143) rfl (Or.inl ⟨rfl, rfl⟩) (by decide +kernel) (fun _ => ?_)
  refine ef_ast (k := 145) rfl (by decide +kernel) (fun _ => ?_)
  refine ef_V (fun _ => [some (.ref 127), some (.int p0), some (.int p1)]) (fun _ => []) (fun s4 => eh_FW s4) (fun s4 => ?_)
  refine es_blk (pc' := 34) (L' := [some (.ref 127), some (.int p0), some (.int p1)]) (st' := [.ref 127]) [(.aload_n 0, 0)] (by decide +kernel) rfl rfl ?_
  refine ef_getP (k := 127) (j := 18) (q := 146) rfl eL_12_67 rfl rfl rfl (by decide +kernel) ?_
  refine es_blk (pc' := 39) (L' := [some (.ref 127), some (.int p0), some (.int p1)]) (st' := [.int 0, .int p0, .ref 146]) [(.iload_n 1, 0), (.iconst 0, 0)] (by decide +kernel) rfl rfl ?_
  refine ef_ast (k := 146) rfl (by decide +kernel) (fun _ => ?_)
  refine ef_V (fun _ => [some (.ref 127), some (.int p0), some (.int p1)]) (fun _ => []) (fun s5 => eh_FW s5) (fun s5 => ?_)
  refine es_blk (pc' := 41) (L' := [some (.ref 127), some (.int p0), some (.int p1)]) (st' := [.ref 127]) [(.aload_n 0, 0)] (by decide +kernel) rfl rfl ?_
  refine ef_getP (k := 127) (j := 19) (q := 147) rfl eL_12_70 rfl rfl rfl (by decide +kernel) ?_
  refine es_blk (pc' := 46) (L' := [some (.ref 127), some (.int p0), some (.int p1)]) (st' := [.int (-1), .int p0, .ref 147]) [(.iload_n 1, 0), (.iconst (-1), (-1))] (by decide +kernel) rfl rfl ?_
  refine ef_ast (k := 147) rfl (by decide +kernel) (fun _ => ?_)
  refine ef_V (fun _ => [some (.ref 127), some (.int p0), some (.int p1)]) (fun _ => []) (fun s6 => eh_FW s6) (fun s6 => ?_)
  refine es_blk (pc' := 49) (L' := [some (.ref 127), some (.int p0), some (.int p1)]) (st' := [.int 1, .ref 127]) [(.aload_n 0, 0), (.iconst 1, 1)] (by decide +kernel) rfl rfl ?_
  refine ef_putZc (k := 127) (j := 86) rfl eL_12_414 rfl rfl (by decide) (by decide +kernel) ?_
  refine ef_V (fun _ => [some (.ref 127), some (.int p0), some (.int p1)]) (fun _ => []) (fun s7 => eh_FW s7) (fun s7 => ?_)
  exact es_ret rfl rfl rfl ⟨by decide +kernel, rfl⟩ (Nat.le_refl _) (Nat.le_refl _)
