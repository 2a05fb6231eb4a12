def eF_9_feedWord (s : eh_F) (th : Nat) (p0 : Int32) : Option (eh_F) := if eh_in ((eh_shr (s.1 th 3) 2) &&& 15) 64 then eh_V (eh_tI s (th + 2) (eh_ix ((eh_shr (s.1 th 3) 2) &&& 15)) p0) (fun s1 => eh_V (eh_tI s1 th 3 ((s1.1 th 3) + 4)) (fun s2 => eh_J (fun (s4 : eh_F) => some s4) (fun j3 => if ((s2.1 th 3) &&& 63) = 0 then (Option.bind (eF_9_compress s2 th) (fun q6 => j3 q6)) else (j3 s2)))) else none
set_option maxHeartbeats 4000000 in
set_option maxRecDepth 100000 in
theorem eS_9_feedWord (g : eh_P) (s : eh_F) (th : Nat) (p0 : Int32) (hth : eh_okS th = true) : eh_Sim g eM_9_feedWord (eh_R 2 0 0) eh_eV 0 0 0 (eh_en 2 [.ref th, .int p0]) [] (eh_FW s) (eF_9_feedWord s th p0) := by
  unfold eF_9_feedWord
  refine ef_top (L := [some (.ref th), some (.int p0)]) rfl ?_
  refine es_blk (pc' := 1) (L' := [some (.ref th), some (.int p0)]) (st' := [.ref th]) [(.aload_n 0, 0)] (by decide +kernel) rfl rfl ?_
  refine ef_getP (k := th) (j := 1) (q := (th + 2)) (eh_S0sh hth) eL_9_13 rfl (eh_Sx hth _).2.1 (eh_S2sh hth) (by decide +kernel) ?_
  refine es_blk (pc' := 5) (L' := [some (.ref th), some (.int p0)]) (st' := [.ref th, .ref (th + 2)]) [(.aload_n 0, 0)] (by decide +kernel) rfl rfl ?_
  refine ef_getI (k := th) (j := 3) (eh_S0sh hth) eL_9_28 (by decide) (by decide +kernel) ?_
  refine es_blk (pc' := 14) (L' := [some (.ref th), some (.int p0)]) (st' := [.int p0, .int ((eh_shr (s.1 th 3) 2) &&& 15), .ref (th + 2)]) [(.iconst 2, 2), (.ishr, 0), (.bipush 15, 15), (.iand, 0), (.iload_n 1, 0)] (by decide +kernel) rfl rfl ?_
  refine ef_ast (k := (th + 2)) (eh_S2sh hth) (by decide +kernel) (fun _ => ?_)
  refine ef_V (fun _ => [some (.ref th), some (.int p0)]) (fun _ => []) (fun s1 => eh_FW s1) (fun s1 => ?_)
  refine es_blk (pc' := 17) (L' := [some (.ref th), some (.int p0)]) (st' := [.ref th, .ref th]) [(.aload_n 0, 0), (.dup, 0)] (by decide +kernel) rfl rfl ?_
  refine ef_getI (k := th) (j := 3) (eh_S0sh hth) eL_9_28 (by decide) (by decide +kernel) ?_
  refine es_blk (pc' := 22) (L' := [some (.ref th), some (.int p0)]) (st' := [.int ((s1.1 th 3) + 4), .ref th]) [(.iconst 4, 4), (.iadd, 0)] (by decide +kernel) rfl rfl ?_
  refine ef_putI (k := th) (j := 3) (eh_S0sh hth) eL_9_28 rfl rfl (by decide +kernel) ?_
  refine ef_V (fun _ => [some (.ref th), some (.int p0)]) (fun _ => []) (fun s2 => eh_FW s2) (fun s2 => ?_)
  refine es_blk (pc' := 26) (L' := [some (.ref th), some (.int p0)]) (st' := [.ref th]) [(.aload_n 0, 0)] (by decide +kernel) rfl rfl ?_
  refine ef_getI (k := th) (j := 3) (eh_S0sh hth) eL_9_28 (by decide) (by decide +kernel) ?_
  refine es_blk (pc' := 32) (L' := [some (.ref th), some (.int p0)]) (st' := [.int ((s2.1 th 3) &&& 63)]) [(.bipush 63, 63), (.iand, 0)] (by decide +kernel) rfl rfl ?_
  refine ef_J (X := fun j3 => ∀ (s4 : eh_F), eh_Sim g eM_9_feedWord (eh_R 2 0 0) eh_eV 0 0 39 [none, none] [] (eh_FW s4) ((j3 s4).bind some)) ?_ (fun j3 Hj3 => ?_)
  · intro s4
    exact es_ret rfl rfl rfl ⟨by decide +kernel, rfl⟩ (Nat.le_refl _) (Nat.le_refl _)
  refine es_ne (tgt := 39) (off := (7)) (by decide +kernel) (by decide) (fun h5 => ?_) (fun h5 => ?_)
  · refine es_blk (pc' := 36) (L' := [some (.ref th), some (.int p0)]) (st' := [.ref th]) [(.aload_n 0, 0)] (by decide +kernel) rfl rfl ?_
    refine ef_veV (d := 1) (k := th) (As := []) (st := []) eV_9_compress eK_9_32 (eS_9_compress g s2 th hth) (eh_S0sh hth) rfl (Nat.le_of_ble_eq_true rfl) rfl (Nat.le_of_ble_eq_true rfl) ⟨Nat.le_of_ble_eq_true rfl, Nat.le_of_ble_eq_true rfl⟩ ⟨Nat.le_refl _, Nat.le_refl _⟩ (by decide +kernel) (fun q6 _ => ?_)
    refine ef_drop (L2 := [none, none]) [false, false] rfl rfl ?_
    exact Hj3 _
  refine ef_drop (L2 := [none, none]) [false, false] rfl rfl ?_
  exact Hj3 _
def eF_9_feedNumber (s : eh_F) (th : Nat) (p0 : Int32) : Option (eh_F) := Option.bind (eF_9_flip s p0) (fun q1 => if eh_in ((eh_shr (s.1 th 3) 2) &&& 15) 64 then eh_V (eh_tI s (th + 2) (eh_ix ((eh_shr (s.1 th 3) 2) &&& 15)) q1) (fun s2 => eh_V (eh_tI s2 th 3 ((s2.1 th 3) + 4)) (fun s3 => eh_J (fun (s5 : eh_F) => some s5) (fun j4 => if ((s3.1 th 3) &&& 63) = 0 then (Option.bind (eF_9_compress s3 th) (fun q7 => j4 q7)) else (j4 s3)))) else none)
set_option maxHeartbeats 4000000 in
set_option maxRecDepth 100000 in
theorem eS_9_feedNumber (g : eh_P) (s : eh_F) (th : Nat) (p0 : Int32) (hth : eh_okS th = true) : eh_Sim g eM_9_feedNumber (eh_R 2 0 0) eh_eV 0 0 0 (eh_en 2 [.ref th, .int p0]) [] (eh_FW s) (eF_9_feedNumber s th p0) := by
  unfold eF_9_feedNumber
  refine ef_top (L := [some (.ref th), some (.int p0)]) rfl ?_
  refine es_blk (pc' := 1) (L' := [some (.ref th), some (.int p0)]) (st' := [.ref th]) [(.aload_n 0, 0)] (by decide +kernel) rfl rfl ?_
  refine ef_getP (k := th) (j := 1) (q := (th + 2)) (eh_S0sh hth) eL_9_13 rfl (eh_Sx hth _).2.1 (eh_S2sh hth) (by decide +kernel) ?_
  refine es_blk (pc' := 5) (L' := [some (.ref th), some (.int p0)]) (st' := [.ref th, .ref (th + 2)]) [(.aload_n 0, 0)] (by decide +kernel) rfl rfl ?_
  refine ef_getI (k := th) (j := 3) (eh_S0sh hth) eL_9_28 (by decide) (by decide +kernel) ?_
  refine es_blk (pc' := 14) (L' := [some (.ref th), some (.int p0)]) (st' := [.int p0, .int ((eh_shr (s.1 th 3) 2) &&& 15), .ref (th + 2)]) [(.iconst 2, 2), (.ishr, 0), (.bipush 15, 15), (.iand, 0), (.iload_n 1, 0)] (by decide +kernel) rfl rfl ?_
  refine ef_spI (d := 1) (As := [.int p0]) (st := [.int ((eh_shr (s.1 th 3) 2) &&& 15), .ref (th + 2)]) eV_9_flip eK_9_35 (eS_9_flip g s p0) rfl (Nat.le_of_ble_eq_true rfl) rfl (Nat.le_of_ble_eq_true rfl) ⟨Nat.le_of_ble_eq_true rfl, Nat.le_of_ble_eq_true rfl⟩ ⟨Nat.le_refl _, Nat.le_refl _⟩ (by decide +kernel) (fun q1 _ => ?_)
  refine ef_ast (k := (th + 2)) (eh_S2sh hth) (by decide +kernel) (fun _ => ?_)
  refine ef_V (fun _ => [some (.ref th), some (.int p0)]) (fun _ => []) (fun s2 => eh_FW s2) (fun s2 => ?_)
  refine es_blk (pc' := 20) (L' := [some (.ref th), some (.int p0)]) (st' := [.ref th, .ref th]) [(.aload_n 0, 0), (.dup, 0)] (by decide +kernel) rfl rfl ?_
  refine ef_getI (k := th) (j := 3) (eh_S0sh hth) eL_9_28 (by decide) (by decide +kernel) ?_
  refine es_blk (pc' := 25) (L' := [some (.ref th), some (.int p0)]) (st' := [.int ((s2.1 th 3) + 4), .ref th]) [(.iconst 4, 4), (.iadd, 0)] (by decide +kernel) rfl rfl ?_
  refine ef_putI (k := th) (j := 3) (eh_S0sh hth) eL_9_28 rfl rfl (by decide +kernel) ?_
  refine ef_V (fun _ => [some (.ref th), some (.int p0)]) (fun _ => []) (fun s3 => eh_FW s3) (fun s3 => ?_)
  refine es_blk (pc' := 29) (L' := [some (.ref th), some (.int p0)]) (st' := [.ref th]) [(.aload_n 0, 0)] (by decide +kernel) rfl rfl ?_
  refine ef_getI (k := th) (j := 3) (eh_S0sh hth) eL_9_28 (by decide) (by decide +kernel) ?_
  refine es_blk (pc' := 35) (L' := [some (.ref th), some (.int p0)]) (st' := [.int ((s3.1 th 3) &&& 63)]) [(.bipush 63, 63), (.iand, 0)] (by decide +kernel) rfl rfl ?_
  refine ef_J (X := fun j4 => ∀ (s5 : eh_F), eh_Sim g eM_9_feedNumber (eh_R 2 0 0) eh_eV 0 0 42 [none, none] [] (eh_FW s5) ((j4 s5).bind some)) ?_ (fun j4 Hj4 => ?_)
  · intro s5
    exact es_ret rfl rfl rfl ⟨by decide +kernel, rfl⟩ (Nat.le_refl _) (Nat.le_refl _)
  refine es_ne (tgt := 42) (off := (7)) (by decide +kernel) (by decide) (fun h6 => ?_) (fun h6 => ?_)
  · refine es_blk (pc' := 39) (L' := [some (.ref th), some (.int p0)]) (st' := [.ref th]) [(.aload_n 0, 0)] (by decide +kernel) rfl rfl ?_
    refine ef_veV (d := 1) (k := th) (As := []) (st := []) eV_9_compress eK_9_32 (eS_9_compress g s3 th hth) (eh_S0sh hth) rfl (Nat.le_of_ble_eq_true rfl) rfl (Nat.le_of_ble_eq_true rfl) ⟨Nat.le_of_ble_eq_true rfl, Nat.le_of_ble_eq_true rfl⟩ ⟨Nat.le_refl _, Nat.le_refl _⟩ (by decide +kernel) (fun q7 _ => ?_)
    refine ef_drop (L2 := [none, none]) [false, false] rfl rfl ?_
    exact Hj4 _
  refine ef_drop (L2 := [none, none]) [false, false] rfl rfl ?_
  exact Hj4 _
def eF_9_end (s : eh_F) (th : Nat) (p0 np0 : Nat) : Option (eh_F) := eh_V (((s.1 th 3) &&& 63) : Int32) (fun x1 => eh_V ((eh_shr x1 2) : Int32) (fun x2 => eh_J (fun (a4 : Int32) => if eh_in x2 64 then eh_V (eh_tI s (th + 2) (eh_ix x2) (a4 ||| (eh_shl 128 (24 - (8 * (x1 &&& 3)))))) (fun s5 => Option.bind (eF_9_clearBlockFrom s5 th (x2 + 1)) (fun q6 => eh_J (fun (s8 : eh_F) => eh_V (eh_tI s8 (th + 2) 14 (eh_ushr (s8.1 th 3) 29)) (fun s9 => eh_V (eh_tI s9 (th + 2) 15 (eh_shl (s9.1 th 3) 3)) (fun s10 => Option.bind (eF_9_compress s10 th) (fun q11 => Option.bind (eh_loop (fun (r15 : (Int32 × eh_F) → Option (eh_F)) (t12 : Int32 × eh_F) => if t12.1 < 8 then (if t12.1 < (Int32.ofNat np0) then (if eh_in t12.1 8 then if eh_in t12.1 np0 then eh_V (eh_tI t12.2 p0 (eh_ix t12.1) (t12.2.1 (th + 1) (eh_ix t12.1))) (fun s18 => eh_V ((t12.1 + 1) : Int32) (fun x19 => r15 (x19, s18))) else none else none) else (some t12.2)) else (some t12.2)) eh_FU (0, q11)) (fun (e13 : eh_F) => some e13))))) (fun j7 => if 13 < x2 then (Option.bind (eF_9_compress q6 th) (fun q21 => Option.bind (eF_9_clearBlockFrom q21 th 0) (fun q22 => j7 q22))) else (j7 q6)))) else none) (fun j3 => if (x1 &&& 3) = 0 then (j3 0) else (if eh_in x2 64 then j3 (s.1 (th + 2) (eh_ix x2)) else none))))
set_option maxHeartbeats 4000000 in
set_option maxRecDepth 100000 in
theorem eS_9_end (g : eh_P) (s : eh_F) (th : Nat) (p0 np0 : Nat) (hth : eh_okS th = true) (hp0 : eh_SH[p0]? = some (100, np0)) : eh_Sim g eM_9_end (eh_R 2 0 0) eh_eV 0 0 0 (eh_en 6 [.ref th, .ref p0]) [] (eh_FW s) (eF_9_end s th p0 np0) := by
  unfold eF_9_end
  refine ef_top (L := [some (.ref th), some (.ref p0), none, none, none, none]) rfl ?_
  refine es_blk (pc' := 1) (L' := [some (.ref th), some (.ref p0), none, none, none, none]) (st' := [.ref th]) [(.aload_n 0, 0)] (by decide +kernel) rfl rfl ?_
  refine ef_getI (k := th) (j := 3) (eh_S0sh hth) eL_9_28 (by decide) (by decide +kernel) ?_
  refine es_blk (pc' := 8) (L' := [some (.ref th), some (.ref p0), some (.int ((s.1 th 3) &&& 63)), none, none, none]) (st' := []) [(.bipush 63, 63), (.iand, 0), (.istore_n 2, 0)] (by decide +kernel) rfl rfl ?_
  refine ef_V (fun x1 => [some (.ref th), some (.ref p0), some (.int x1), none, none, none]) (fun _ => []) (fun _ => eh_FW s) (fun x1 => ?_)
  refine es_blk (pc' := 12) (L' := [some (.ref th), some (.ref p0), some (.int x1), some (.int (eh_shr x1 2)), none, none]) (st' := []) [(.iload_n 2, 0), (.iconst 2, 2), (.ishr, 0), (.istore_n 3, 0)] (by decide +kernel) rfl rfl ?_
  refine ef_V (fun x2 => [some (.ref th), some (.ref p0), some (.int x1), some (.int x2), none, none]) (fun _ => []) (fun _ => eh_FW s) (fun x2 => ?_)
  refine es_blk (pc' := 15) (L' := [some (.ref th), some (.ref p0), some (.int x1), some (.int x2), none, none]) (st' := [.int (x1 &&& 3)]) [(.iload_n 2, 0), (.iconst 3, 3), (.iand, 0)] (by decide +kernel) rfl rfl ?_
  refine ef_J (X := fun j3 => ∀ (a4 : Int32), eh_Sim g eM_9_end (eh_R 2 0 0) eh_eV 0 0 28 [some (.ref th), some (.ref p0), some (.int x1), some (.int x2), none, none] [.int a4] (eh_FW s) ((j3 a4).bind some)) ?_ (fun j3 Hj3 => ?_)
  · intro a4
    refine es_blk (pc' := 31) (L' := [some (.ref th), some (.ref p0), some (.int x1), some (.int x2), some (.int a4), none]) (st' := [.ref th]) [(.istore 4, 0), (.aload_n 0, 0)] (by decide +kernel) rfl rfl ?_
    refine ef_getP (k := th) (j := 1) (q := (th + 2)) (eh_S0sh hth) eL_9_13 rfl (eh_Sx hth _).2.1 (eh_S2sh hth) (by decide +kernel) ?_
    refine es_blk (pc' := 51) (L' := [some (.ref th), some (.ref p0), some (.int x1), some (.int x2), some (.int a4), none]) (st' := [.int (a4 ||| (eh_shl 128 (24 - (8 * (x1 &&& 3))))), .int x2, .ref (th + 2)]) [(.iload_n 3, 0), (.iload 4, 0), (.sipush 128, 128), (.bipush 24, 24), (.bipush 8, 8), (.iload_n 2, 0), (.iconst 3, 3), (.iand, 0), (.imul, 0), (.isub, 0), (.ishl, 0), (.ior, 0)] (by decide +kernel) rfl rfl ?_
    refine ef_ast (k := (th + 2)) (eh_S2sh hth) (by decide +kernel) (fun _ => ?_)
    refine ef_V (fun _ => [some (.ref th), some (.ref p0), some (.int x1), some (.int x2), some (.int a4), none]) (fun _ => []) (fun s5 => eh_FW s5) (fun s5 => ?_)
    refine es_blk (pc' := 56) (L' := [some (.ref th), some (.ref p0), some (.int x1), some (.int x2), some (.int a4), none]) (st' := [.int (x2 + 1), .ref th]) [(.aload_n 0, 0), (.iload_n 3, 0), (.iconst 1, 1), (.iadd, 0)] (by decide +kernel) rfl rfl ?_
    refine ef_veV (d := 1) (k := th) (As := [.int (x2 + 1)]) (st := []) eV_9_clearBlockFrom eK_9_43 (eS_9_clearBlockFrom g s5 th (x2 + 1) hth) (eh_S0sh hth) rfl (Nat.le_of_ble_eq_true rfl) rfl (Nat.le_of_ble_eq_true rfl) ⟨Nat.le_of_ble_eq_true rfl, Nat.le_of_ble_eq_true rfl⟩ ⟨Nat.le_refl _, Nat.le_refl _⟩ (by decide +kernel) (fun q6 _ => ?_)
    refine es_blk (pc' := 62) (L' := [some (.ref th), some (.ref p0), some (.int x1), some (.int x2), some (.int a4), none]) (st' := [.int 13, .int x2]) [(.iload_n 3, 0), (.bipush 13, 13)] (by decide +kernel) rfl rfl ?_
    refine ef_J (X := fun j7 => ∀ (s8 : eh_F), eh_Sim g eM_9_end (eh_R 2 0 0) eh_eV 0 0 74 [some (.ref th), some (.ref p0), none, none, none, none] [] (eh_FW s8) ((j7 s8).bind some)) ?_ (fun j7 Hj7 => ?_)
    · intro s8
      refine es_blk (pc' := 75) (L' := [some (.ref th), some (.ref p0), none, none, none, none]) (st' := [.ref th]) [(.aload_n 0, 0)] (by decide +kernel) rfl rfl ?_
      refine ef_getP (k := th) (j := 1) (q := (th + 2)) (eh_S0sh hth) eL_9_13 rfl (eh_Sx hth _).2.1 (eh_S2sh hth) (by decide +kernel) ?_
      refine es_blk (pc' := 81) (L' := [some (.ref th), some (.ref p0), none, none, none, none]) (st' := [.ref th, .int 14, .ref (th + 2)]) [(.bipush 14, 14), (.aload_n 0, 0)] (by decide +kernel) rfl rfl ?_
      refine ef_getI (k := th) (j := 3) (eh_S0sh hth) eL_9_28 (by decide) (by decide +kernel) ?_
      refine es_blk (pc' := 87) (L' := [some (.ref th), some (.ref p0), none, none, none, none]) (st' := [.int (eh_ushr (s8.1 th 3) 29), .int 14, .ref (th + 2)]) [(.bipush 29, 29), (.iushr, 0)] (by decide +kernel) rfl rfl ?_
      refine ef_astc (k := (th + 2)) (j := 14) (eh_S2sh hth) (by decide) rfl (by decide +kernel) ?_
      refine ef_V (fun _ => [some (.ref th), some (.ref p0), none, none, none, none]) (fun _ => []) (fun s9 => eh_FW s9) (fun s9 => ?_)
      refine es_blk (pc' := 89) (L' := [some (.ref th), some (.ref p0), none, none, none, none]) (st' := [.ref th]) [(.aload_n 0, 0)] (by decide +kernel) rfl rfl ?_
      refine ef_getP (k := th) (j := 1) (q := (th + 2)) (eh_S0sh hth) eL_9_13 rfl (eh_Sx hth _).2.1 (eh_S2sh hth) (by decide +kernel) ?_
      refine es_blk (pc' := 95) (L' := [some (.ref th), some (.ref p0), none, none, none, none]) (st' := [.ref th, .int 15, .ref (th + 2)]) [(.bipush 15, 15), (.aload_n 0, 0)] (by decide +kernel) rfl rfl ?_
      refine ef_getI (k := th) (j := 3) (eh_S0sh hth) eL_9_28 (by decide) (by decide +kernel) ?_
      refine es_blk (pc' := 100) (L' := [some (.ref th), some (.ref p0), none, none, none, none]) (st' := [.int (eh_shl (s9.1 th 3) 3), .int 15, .ref (th + 2)]) [(.iconst 3, 3), (.ishl, 0)] (by decide +kernel) rfl rfl ?_
      refine ef_astc (k := (th + 2)) (j := 15) (eh_S2sh hth) (by decide) rfl (by decide +kernel) ?_
      refine ef_V (fun _ => [some (.ref th), some (.ref p0), none, none, none, none]) (fun _ => []) (fun s10 => eh_FW s10) (fun s10 => ?_)
      refine es_blk (pc' := 102) (L' := [some (.ref th), some (.ref p0), none, none, none, none]) (st' := [.ref th]) [(.aload_n 0, 0)] (by decide +kernel) rfl rfl ?_
      refine ef_veV (d := 1) (k := th) (As := []) (st := []) eV_9_compress eK_9_32 (eS_9_compress g s10 th hth) (eh_S0sh hth) rfl (Nat.le_of_ble_eq_true rfl) rfl (Nat.le_of_ble_eq_true rfl) ⟨Nat.le_of_ble_eq_true rfl, Nat.le_of_ble_eq_true rfl⟩ ⟨Nat.le_refl _, Nat.le_refl _⟩ (by decide +kernel) (fun q11 _ => ?_)
      refine es_blk (pc' := 108) (L' := [some (.ref th), some (.ref p0), none, none, none, some (.int 0)]) (st' := []) [(.iconst 0, 0), (.istore 5, 0)] (by decide +kernel) rfl rfl ?_
      refine ef_loop1 (n := eh_FU) (i := (0, q11)) (px := 139) (fun (t12 : Int32 × eh_F) => [some (.ref th), some (.ref p0), none, none, none, some (.int t12.1)]) (fun (t12 : Int32 × eh_F) => []) (fun (t12 : Int32 × eh_F) => eh_FW t12.2) (fun (e13 : eh_F) => [none, none, none, none, none, none]) (fun (e13 : eh_F) => []) (fun (e13 : eh_F) => eh_FW e13) (fun e13 => ?_) (fun K14 HxK14_0 r15 Hr15 t12 => ?_)
      · exact es_ret rfl rfl rfl ⟨by decide +kernel, rfl⟩ (Nat.le_refl _) (Nat.le_refl _)
      · refine es_blk (pc' := 112) (L' := [some (.ref th), some (.ref p0), none, none, none, some (.int t12.1)]) (st' := [.int 8, .int t12.1]) [(.iload 5, 0), (.bipush 8, 8)] (by decide +kernel) rfl rfl ?_
        refine es_ige (tgt := 139) (off := (27)) (by decide +kernel) (by decide) (fun h16 => ?_) (fun h16 => ?_)
        · refine es_blk (pc' := 118) (L' := [some (.ref th), some (.ref p0), none, none, none, some (.int t12.1)]) (st' := [.ref p0, .int t12.1]) [(.iload 5, 0), (.aload_n 1, 0)] (by decide +kernel) rfl rfl ?_
          refine ef_alen (k := p0) hp0 (by decide) (by decide +kernel) ?_
          refine es_ige (tgt := 139) (off := (20)) (by decide +kernel) (by decide) (fun h17 => ?_) (fun h17 => ?_)
          · refine es_blk (pc' := 126) (L' := [some (.ref th), some (.ref p0), none, none, none, some (.int t12.1)]) (st' := [.ref th, .int t12.1, .ref p0]) [(.aload_n 1, 0), (.iload 5, 0), (.aload_n 0, 0)] (by decide +kernel) rfl rfl ?_
            refine ef_getP (k := th) (j := 0) (q := (th + 1)) (eh_S0sh hth) eL_9_7 rfl (eh_Sx hth _).1 (eh_S1sh hth) (by decide +kernel) ?_
            refine es_blk (pc' := 131) (L' := [some (.ref th), some (.ref p0), none, none, none, some (.int t12.1)]) (st' := [.int t12.1, .ref (th + 1), .int t12.1, .ref p0]) [(.iload 5, 0)] (by decide +kernel) rfl rfl ?_
            refine ef_ald (k := (th + 1)) (eh_S1sh hth) (Or.inl ⟨rfl, rfl⟩) (by decide +kernel) (fun _ => ?_)
            refine ef_ast (k := p0) hp0 (by decide +kernel) (fun _ => ?_)
            refine ef_V (fun _ => [some (.ref th), some (.ref p0), none, none, none, some (.int t12.1)]) (fun _ => []) (fun s18 => eh_FW s18) (fun s18 => ?_)
            refine es_blk (pc' := 136) (L' := [some (.ref th), some (.ref p0), none, none, none, some (.int (t12.1 + 1))]) (st' := []) [(.iinc 5 1, 1)] (by decide +kernel) rfl rfl ?_
            refine ef_V (fun x19 => [some (.ref th), some (.ref p0), none, none, none, some (.int x19)]) (fun _ => []) (fun _ => eh_FW s18) (fun x19 => ?_)
            refine es_goto (tgt := 108) (off := (-28)) (by decide +kernel) (by decide) ?_
            exact Hr15 (x19, s18)
          refine ef_drop (L2 := [none, none, none, none, none, none]) [false, false, true, true, true, false] rfl rfl ?_
          exact HxK14_0 t12.2
        refine ef_drop (L2 := [none, none, none, none, none, none]) [false, false, true, true, true, false] rfl rfl ?_
        exact HxK14_0 t12.2
    refine es_ile (tgt := 74) (off := (12)) (by decide +kernel) (by decide) (fun h20 => ?_) (fun h20 => ?_)
    · refine es_blk (pc' := 66) (L' := [some (.ref th), some (.ref p0), some (.int x1), some (.int x2), some (.int a4), none]) (st' := [.ref th]) [(.aload_n 0, 0)] (by decide +kernel) rfl rfl ?_
      refine ef_veV (d := 1) (k := th) (As := []) (st := []) eV_9_compress eK_9_32 (eS_9_compress g q6 th hth) (eh_S0sh hth) rfl (Nat.le_of_ble_eq_true rfl) rfl (Nat.le_of_ble_eq_true rfl) ⟨Nat.le_of_ble_eq_true rfl, Nat.le_of_ble_eq_true rfl⟩ ⟨Nat.le_refl _, Nat.le_refl _⟩ (by decide +kernel) (fun q21 _ => ?_)
      refine es_blk (pc' := 71) (L' := [some (.ref th), some (.ref p0), some (.int x1), some (.int x2), some (.int a4), none]) (st' := [.int 0, .ref th]) [(.aload_n 0, 0), (.iconst 0, 0)] (by decide +kernel) rfl rfl ?_
      refine ef_veV (d := 1) (k := th) (As := [.int 0]) (st := []) eV_9_clearBlockFrom eK_9_43 (eS_9_clearBlockFrom g q21 th 0 hth) (eh_S0sh hth) rfl (Nat.le_of_ble_eq_true rfl) rfl (Nat.le_of_ble_eq_true rfl) ⟨Nat.le_of_ble_eq_true rfl, Nat.le_of_ble_eq_true rfl⟩ ⟨Nat.le_refl _, Nat.le_refl _⟩ (by decide +kernel) (fun q22 _ => ?_)
      refine ef_drop (L2 := [some (.ref th), some (.ref p0), none, none, none, none]) [true, true, false, false, false, true] rfl rfl ?_
      exact Hj7 _
    refine ef_drop (L2 := [some (.ref th), some (.ref p0), none, none, none, none]) [true, true, false, false, false, true] rfl rfl ?_
    exact Hj7 _
  refine es_ne (tgt := 22) (off := (7)) (by decide +kernel) (by decide) (fun h23 => ?_) (fun h23 => ?_)
  · refine es_blk (pc' := 19) (L' := [some (.ref th), some (.ref p0), some (.int x1), some (.int x2), none, none]) (st' := [.int 0]) [(.iconst 0, 0)] (by decide +kernel) rfl rfl ?_
    refine es_goto (tgt := 28) (off := (9)) (by decide +kernel) (by decide) ?_
    exact Hj3 _
  refine es_blk (pc' := 23) (L' := [some (.ref th), some (.ref p0), some (.int x1), some (.int x2), none, none]) (st' := [.ref th]) [(.aload_n 0, 0)] (by decide +kernel) rfl rfl ?_
  refine ef_getP (k := th) (j := 1) (q := (th + 2)) (eh_S0sh hth) eL_9_13 rfl (eh_Sx hth _).2.1 (eh_S2sh hth) (by decide +kernel) ?_
  refine es_blk (pc' := 27) (L' := [some (.ref th), some (.ref p0), some (.int x1), some (.int x2), none, none]) (st' := [.int x2, .ref (th + 2)]) [(.iload_n 3, 0)] (by decide +kernel) rfl rfl ?_
  refine ef_ald (k := (th + 2)) (eh_S2sh hth) (Or.inl ⟨rfl, rfl⟩) (by decide +kernel) (fun _ => ?_)
  exact Hj3 _
def eF_9_feedPaddedKey (s : eh_F) (th : Nat) (p0 np0 : Nat) (p1 : Int32) : Option (eh_F) := Option.bind (eh_loop (fun (r6 : (Int32 × eh_F) → Option (eh_F)) (t1 : Int32 × eh_F) => if t1.1 < 16 then (eh_J (fun (a9 : Int32) => if eh_in t1.1 64 then eh_V (eh_tI t1.2 (th + 2) (eh_ix t1.1) a9) (fun s10 => eh_V ((t1.1 + 1) : Int32) (fun x11 => r6 (x11, s10))) else none) (fun j8 => eh_J (fun (u13 : Unit) => j8 p1) (fun j12 => if t1.1 < 8 then (if t1.1 < (Int32.ofNat np0) then (if eh_in t1.1 np0 then j8 ((t1.2.1 p0 (eh_ix t1.1)) ^^^ p1) else none) else (j12 ())) else (j12 ())))) else (some t1.2)) eh_FU (0, s)) (fun (e2 : eh_F) => eh_V (eh_tI e2 th 3 ((e2.1 th 3) + 64)) (fun s3 => Option.bind (eF_9_compress s3 th) (fun q4 => some q4)))
set_option maxHeartbeats 4000000 in
set_option maxRecDepth 100000 in
theorem eS_9_feedPaddedKey (g : eh_P) (s : eh_F) (th : Nat) (p0 np0 : Nat) (p1 : Int32) (hth : eh_okS th = true) (hp0 : eh_SH[p0]? = some (100, np0)) : eh_Sim g eM_9_feedPaddedKey (eh_R 2 0 0) eh_eV 0 0 0 (eh_en 4 [.ref th, .ref p0, .int p1]) [] (eh_FW s) (eF_9_feedPaddedKey s th p0 np0 p1) := by
  unfold eF_9_feedPaddedKey
  refine ef_top (L := [some (.ref th), some (.ref p0), some (.int p1), none]) rfl ?_
  refine es_blk (pc' := 2) (L' := [some (.ref th), some (.ref p0), some (.int p1), some (.int 0)]) (st' := []) [(.iconst 0, 0), (.istore_n 3, 0)] (by decide +kernel) rfl rfl ?_
  refine ef_loop1 (n := eh_FU) (i := (0, s)) (px := 41) (fun (t1 : Int32 × eh_F) => [some (.ref th), some (.ref p0), some (.int p1), some (.int t1.1)]) (fun (t1 : Int32 × eh_F) => []) (fun (t1 : Int32 × eh_F) => eh_FW t1.2) (fun (e2 : eh_F) => [some (.ref th), none, none, none]) (fun (e2 : eh_F) => []) (fun (e2 : eh_F) => eh_FW e2) (fun e2 => ?_) (fun K5 HxK5_0 r6 Hr6 t1 => ?_)
  · refine es_blk (pc' := 43) (L' := [some (.ref th), none, none, none]) (st' := [.ref th, .ref th]) [(.aload_n 0, 0), (.dup, 0)] (by decide +kernel) rfl rfl ?_
    refine ef_getI (k := th) (j := 3) (eh_S0sh hth) eL_9_28 (by decide) (by decide +kernel) ?_
    refine es_blk (pc' := 49) (L' := [some (.ref th), none, none, none]) (st' := [.int ((e2.1 th 3) + 64), .ref th]) [(.bipush 64, 64), (.iadd, 0)] (by decide +kernel) rfl rfl ?_
    refine ef_putI (k := th) (j := 3) (eh_S0sh hth) eL_9_28 rfl rfl (by decide +kernel) ?_
    refine ef_V (fun _ => [some (.ref th), none, none, none]) (fun _ => []) (fun s3 => eh_FW s3) (fun s3 => ?_)
    refine es_blk (pc' := 53) (L' := [some (.ref th), none, none, none]) (st' := [.ref th]) [(.aload_n 0, 0)] (by decide +kernel) rfl rfl ?_
    refine ef_veV (d := 1) (k := th) (As := []) (st := []) eV_9_compress eK_9_32 (eS_9_compress g s3 th hth) (eh_S0sh hth) rfl (Nat.le_of_ble_eq_true rfl) rfl (Nat.le_of_ble_eq_true rfl) ⟨Nat.le_of_ble_eq_true rfl, Nat.le_of_ble_eq_true rfl⟩ ⟨Nat.le_refl _, Nat.le_refl _⟩ (by decide +kernel) (fun q4 _ => ?_)
    exact es_ret rfl rfl rfl ⟨by decide +kernel, rfl⟩ (Nat.le_refl _) (Nat.le_refl _)
  · refine es_blk (pc' := 5) (L' := [some (.ref th), some (.ref p0), some (.int p1), some (.int t1.1)]) (st' := [.int 16, .int t1.1]) [(.iload_n 3, 0), (.bipush 16, 16)] (by decide +kernel) rfl rfl ?_
    refine es_ige (tgt := 41) (off := (36)) (by decide +kernel) (by decide) (fun h7 => ?_) (fun h7 => ?_)
    · refine es_blk (pc' := 9) (L' := [some (.ref th), some (.ref p0), some (.int p1), some (.int t1.1)]) (st' := [.ref th]) [(.aload_n 0, 0)] (by decide +kernel) rfl rfl ?_
      refine ef_getP (k := th) (j := 1) (q := (th + 2)) (eh_S0sh hth) eL_9_13 rfl (eh_Sx hth _).2.1 (eh_S2sh hth) (by decide +kernel) ?_
      refine es_blk (pc' := 16) (L' := [some (.ref th), some (.ref p0), some (.int p1), some (.int t1.1)]) (st' := [.int 8, .int t1.1, .int t1.1, .ref (th + 2)]) [(.iload_n 3, 0), (.iload_n 3, 0), (.bipush 8, 8)] (by decide +kernel) rfl rfl ?_
      refine ef_J (X := fun j8 => ∀ (a9 : Int32), eh_Sim g eM_9_feedPaddedKey (eh_R 2 0 0) eh_eV 0 0 34 [some (.ref th), some (.ref p0), some (.int p1), some (.int t1.1)] [.int a9, .int t1.1, .ref (th + 2)] (eh_FW t1.2) ((j8 a9).bind K5)) ?_ (fun j8 Hj8 => ?_)
      · intro a9
        refine ef_ast (k := (th + 2)) (eh_S2sh hth) (by decide +kernel) (fun _ => ?_)
        refine ef_V (fun _ => [some (.ref th), some (.ref p0), some (.int p1), some (.int t1.1)]) (fun _ => []) (fun s10 => eh_FW s10) (fun s10 => ?_)
        refine es_blk (pc' := 38) (L' := [some (.ref th), some (.ref p0), some (.int p1), some (.int (t1.1 + 1))]) (st' := []) [(.iinc 3 1, 1)] (by decide +kernel) rfl rfl ?_
        refine ef_V (fun x11 => [some (.ref th), some (.ref p0), some (.int p1), some (.int x11)]) (fun _ => []) (fun _ => eh_FW s10) (fun x11 => ?_)
        refine es_goto (tgt := 2) (off := (-36)) (by decide +kernel) (by decide) ?_
        exact Hr6 (x11, s10)
      refine ef_J (X := fun j12 => ∀ (u13 : Unit), eh_Sim g eM_9_feedPaddedKey (eh_R 2 0 0) eh_eV 0 0 33 [some (.ref th), some (.ref p0), some (.int p1), some (.int t1.1)] [.int t1.1, .ref (th + 2)] (eh_FW t1.2) ((j12 u13).bind K5)) ?_ (fun j12 Hj12 => ?_)
      · intro u13
        refine es_blk (pc' := 34) (L' := [some (.ref th), some (.ref p0), some (.int p1), some (.int t1.1)]) (st' := [.int p1, .int t1.1, .ref (th + 2)]) [(.iload_n 2, 0)] (by decide +kernel) rfl rfl ?_
        exact Hj8 _
      refine es_ige (tgt := 33) (off := (17)) (by decide +kernel) (by decide) (fun h14 => ?_) (fun h14 => ?_)
      · refine es_blk (pc' := 21) (L' := [some (.ref th), some (.ref p0), some (.int p1), some (.int t1.1)]) (st' := [.ref p0, .int t1.1, .int t1.1, .ref (th + 2)]) [(.iload_n 3, 0), (.aload_n 1, 0)] (by decide +kernel) rfl rfl ?_
        refine ef_alen (k := p0) hp0 (by decide) (by decide +kernel) ?_
        refine es_ige (tgt := 33) (off := (11)) (by decide +kernel) (by decide) (fun h15 => ?_) (fun h15 => ?_)
        · refine es_blk (pc' := 27) (L' := [some (.ref th), some (.ref p0), some (.int p1), some (.int t1.1)]) (st' := [.int t1.1, .ref p0, .int t1.1, .ref (th + 2)]) [(.aload_n 1, 0), (.iload_n 3, 0)] (by decide +kernel) rfl rfl ?_
          refine ef_ald (k := p0) hp0 (Or.inl ⟨rfl, rfl⟩) (by decide +kernel) (fun _ => ?_)
          refine es_blk (pc' := 30) (L' := [some (.ref th), some (.ref p0), some (.int p1), some (.int t1.1)]) (st' := [.int ((t1.2.1 p0 (eh_ix t1.1)) ^^^ p1), .int t1.1, .ref (th + 2)]) [(.iload_n 2, 0), (.ixor, 0)] (by decide +kernel) rfl rfl ?_
          refine es_goto (tgt := 34) (off := (4)) (by decide +kernel) (by decide) ?_
          exact Hj8 _
        exact Hj12 ()
      exact Hj12 ()
    refine ef_drop (L2 := [some (.ref th), none, none, none]) [true, false, false, false] rfl rfl ?_
    exact HxK5_0 t1.2
def eF_10_stop (s : eh_F) (p0 : Int32) : Option (Int32 × eh_F) := Option.bind (eF_5_hasEnclave s p0) (fun q1 => if q1 = 0 then (some ((-1), s)) else (if eh_in p0 6 then if (s.1 (eh_ep p0) 5) = 2 then (Option.bind (eh_loop (fun (r11 : (Int32) → Option ((Unit) ⊕ (Unit))) (t5 : Int32) => if t5 < 12 then (if eh_in t5 12 then eh_J (fun (u15 : Unit) => eh_V ((t5 + 1) : Int32) (fun x16 => r11 x16)) (fun j14 => if (s.1 (eh_fp t5) 6) = 2 then (if eh_in t5 12 then if (s.1 (eh_fp t5) 3) = p0 then (some (.inr ())) else (j14 ()) else none) else (j14 ())) else none) else (some (.inl ()))) eh_FU 0) (Sum.elim (fun (e6 : Unit) => if eh_in p0 6 then eh_V (eh_tI s (eh_ep p0) 5 3) (fun s8 => some (0, s8)) else none) (fun (e9 : Unit) => some ((-3), s)))) else (some ((-2), s)) else none))
set_option maxHeartbeats 4000000 in
set_option maxRecDepth 100000 in
theorem eS_10_stop (g : eh_P) (s : eh_F) (p0 : Int32) : eh_Sim g eM_10_stop (eh_R 2 0 0) eh_eI 0 0 0 (eh_en 3 [.ref 123, .int p0]) [] (eh_FW s) (eF_10_stop s p0) := by
  unfold eF_10_stop
  refine ef_top (L := [some (.ref 123), some (.int p0), none]) rfl ?_
  refine es_blk (pc' := 1) (L' := [some (.ref 123), some (.int p0), none]) (st' := [.ref 123]) [(.aload_n 0, 0)] (by decide +kernel) rfl rfl ?_
  refine ef_getP (k := 123) (j := 0) (q := 1) rfl eL_10_9 rfl rfl rfl (by decide +kernel) ?_
  refine es_blk (pc' := 5) (L' := [some (.ref 123), some (.int p0), none]) (st' := [.int p0, .ref 1]) [(.iload_n 1, 0)] (by decide +kernel) rfl rfl ?_
  refine ef_vpI (d := 1) (k := 1) (As := [.int p0]) (st := []) eV_5_hasEnclave eK_10_150 (eS_5_hasEnclave g s p0) rfl rfl (Nat.le_of_ble_eq_true rfl) rfl (Nat.le_of_ble_eq_true rfl) ⟨Nat.le_of_ble_eq_true rfl, Nat.le_of_ble_eq_true rfl⟩ ⟨Nat.le_refl _, Nat.le_refl _⟩ (by decide +kernel) (fun q1 _ => ?_)
  refine es_ne (tgt := 13) (off := (5)) (by decide +kernel) (by decide) (fun h2 => ?_) (fun h2 => ?_)
  · refine es_blk (pc' := 12) (L' := [some (.ref 123), some (.int p0), none]) (st' := [.int (-1)]) [(.iconst (-1), (-1))] (by decide +kernel) rfl rfl ?_
    exact es_ret rfl rfl rfl ⟨by decide +kernel, _, rfl, rfl⟩ (Nat.le_refl _) (Nat.le_refl _)
  refine es_blk (pc' := 14) (L' := [some (.ref 123), some (.int p0), none]) (st' := [.ref 123]) [(.aload_n 0, 0)] (by decide +kernel) rfl rfl ?_
  refine ef_getP (k := 123) (j := 0) (q := 1) rfl eL_10_9 rfl rfl rfl (by decide +kernel) ?_
  refine ef_getP (k := 1) (j := 4) (q := 28) rfl eL_10_136 rfl rfl rfl (by decide +kernel) ?_
  refine es_blk (pc' := 21) (L' := [some (.ref 123), some (.int p0), none]) (st' := [.int p0, .ref 28]) [(.iload_n 1, 0)] (by decide +kernel) rfl rfl ?_
  refine ef_encs (by decide +kernel) (fun h3 => ?_)
  refine ef_getI (k := (eh_ep p0)) (j := 5) (eh_E0sh h3) eL_10_146 (by decide) (by decide +kernel) ?_
  refine es_blk (pc' := 26) (L' := [some (.ref 123), some (.int p0), none]) (st' := [.int 2, .int (s.1 (eh_ep p0) 5)]) [(.iconst 2, 2)] (by decide +kernel) rfl rfl ?_
  refine es_ieq (tgt := 32) (off := (6)) (by decide +kernel) (by decide) (fun h4 => ?_) (fun h4 => ?_)
  · refine es_blk (pc' := 34) (L' := [some (.ref 123), some (.int p0), some (.int 0)]) (st' := []) [(.iconst 0, 0), (.istore_n 2, 0)] (by decide +kernel) rfl rfl ?_
    refine ef_loop2 (n := eh_FU) (i := 0) (px := 81) (px2 := 72) (fun (t5 : Int32) => [some (.ref 123), some (.int p0), some (.int t5)]) (fun (t5 : Int32) => []) (fun (t5 : Int32) => eh_FW s) (fun (e6 : Unit) => [some (.ref 123), some (.int p0), none]) (fun (e6 : Unit) => []) (fun (e6 : Unit) => eh_FW s) (fun (e9 : Unit) => [none, none, none]) (fun (e9 : Unit) => []) (fun (e9 : Unit) => eh_FW s) (fun e6 => ?_) (fun e9 => ?_) (fun K10 HxK10_0 HxK10_1 r11 Hr11 t5 => ?_)
    · refine es_blk (pc' := 82) (L' := [some (.ref 123), some (.int p0), none]) (st' := [.ref 123]) [(.aload_n 0, 0)] (by decide +kernel) rfl rfl ?_
      refine ef_getP (k := 123) (j := 0) (q := 1) rfl eL_10_9 rfl rfl rfl (by decide +kernel) ?_
      refine ef_getP (k := 1) (j := 4) (q := 28) rfl eL_10_136 rfl rfl rfl (by decide +kernel) ?_
      refine es_blk (pc' := 89) (L' := [some (.ref 123), some (.int p0), none]) (st' := [.int p0, .ref 28]) [(.iload_n 1, 0)] (by decide +kernel) rfl rfl ?_
      refine ef_encs (by decide +kernel) (fun h7 => ?_)
      refine es_blk (pc' := 91) (L' := [some (.ref 123), some (.int p0), none]) (st' := [.int 3, .ref (eh_ep p0)]) [(.iconst 3, 3)] (by decide +kernel) rfl rfl ?_
      refine ef_putI (k := (eh_ep p0)) (j := 5) (eh_E0sh h7) eL_10_146 rfl rfl (by decide +kernel) ?_
      refine ef_V (fun _ => [some (.ref 123), some (.int p0), none]) (fun _ => []) (fun s8 => eh_FW s8) (fun s8 => ?_)
      refine es_blk (pc' := 95) (L' := [some (.ref 123), some (.int p0), none]) (st' := [.int 0]) [(.iconst 0, 0)] (by decide +kernel) rfl rfl ?_
      exact es_ret rfl rfl rfl ⟨by decide +kernel, _, rfl, rfl⟩ (Nat.le_refl _) (Nat.le_refl _)
    · refine es_blk (pc' := 74) (L' := [none, none, none]) (st' := [.int (-3)]) [(.bipush (-3), (-3))] (by decide +kernel) rfl rfl ?_
      exact es_ret rfl rfl rfl ⟨by decide +kernel, _, rfl, rfl⟩ (Nat.le_refl _) (Nat.le_refl _)
    · refine es_blk (pc' := 37) (L' := [some (.ref 123), some (.int p0), some (.int t5)]) (st' := [.int 12, .int t5]) [(.iload_n 2, 0), (.bipush 12, 12)] (by decide +kernel) rfl rfl ?_
      refine es_ige (tgt := 81) (off := (44)) (by decide +kernel) (by decide) (fun h12 => ?_) (fun h12 => ?_)
      · refine es_blk (pc' := 41) (L' := [some (.ref 123), some (.int p0), some (.int t5)]) (st' := [.ref 123]) [(.aload_n 0, 0)] (by decide +kernel) rfl rfl ?_
        refine ef_getP (k := 123) (j := 0) (q := 1) rfl eL_10_9 rfl rfl rfl (by decide +kernel) ?_
        refine ef_getP (k := 1) (j := 3) (q := 27) rfl eL_10_186 rfl rfl rfl (by decide +kernel) ?_
        refine es_blk (pc' := 48) (L' := [some (.ref 123), some (.int p0), some (.int t5)]) (st' := [.int t5, .ref 27]) [(.iload_n 2, 0)] (by decide +kernel) rfl rfl ?_
        refine ef_fibres (by decide +kernel) (fun h13 => ?_)
        refine ef_getI (k := (eh_fp t5)) (j := 6) (eh_F0sh h13) eL_10_193 (by decide) (by decide +kernel) ?_
        refine es_blk (pc' := 53) (L' := [some (.ref 123), some (.int p0), some (.int t5)]) (st' := [.int 2, .int (s.1 (eh_fp t5) 6)]) [(.iconst 2, 2)] (by decide +kernel) rfl rfl ?_
        refine ef_J (X := fun j14 => ∀ (u15 : Unit), eh_Sim g eM_10_stop (eh_R 2 0 0) eh_eI 0 0 75 [some (.ref 123), some (.int p0), some (.int t5)] [] (eh_FW s) ((j14 u15).bind K10)) ?_ (fun j14 Hj14 => ?_)
        · intro u15
          refine es_blk (pc' := 78) (L' := [some (.ref 123), some (.int p0), some (.int (t5 + 1))]) (st' := []) [(.iinc 2 1, 1)] (by decide +kernel) rfl rfl ?_
          refine ef_V (fun x16 => [some (.ref 123), some (.int p0), some (.int x16)]) (fun _ => []) (fun _ => eh_FW s) (fun x16 => ?_)
          refine es_goto (tgt := 34) (off := (-44)) (by decide +kernel) (by decide) ?_
          exact Hr11 x16
        refine es_ine (tgt := 75) (off := (22)) (by decide +kernel) (by decide) (fun h17 => ?_) (fun h17 => ?_)
        · refine es_blk (pc' := 57) (L' := [some (.ref 123), some (.int p0), some (.int t5)]) (st' := [.ref 123]) [(.aload_n 0, 0)] (by decide +kernel) rfl rfl ?_
          refine ef_getP (k := 123) (j := 0) (q := 1) rfl eL_10_9 rfl rfl rfl (by decide +kernel) ?_
          refine ef_getP (k := 1) (j := 3) (q := 27) rfl eL_10_186 rfl rfl rfl (by decide +kernel) ?_
          refine es_blk (pc' := 64) (L' := [some (.ref 123), some (.int p0), some (.int t5)]) (st' := [.int t5, .ref 27]) [(.iload_n 2, 0)] (by decide +kernel) rfl rfl ?_
          refine ef_fibres (by decide +kernel) (fun h18 => ?_)
          refine ef_getI (k := (eh_fp t5)) (j := 3) (eh_F0sh h18) eL_10_200 (by decide) (by decide +kernel) ?_
          refine es_blk (pc' := 69) (L' := [some (.ref 123), some (.int p0), some (.int t5)]) (st' := [.int p0, .int (s.1 (eh_fp t5) 3)]) [(.iload_n 1, 0)] (by decide +kernel) rfl rfl ?_
          refine es_ine (tgt := 75) (off := (6)) (by decide +kernel) (by decide) (fun h19 => ?_) (fun h19 => ?_)
          · refine ef_drop (L2 := [none, none, none]) [false, false, false] rfl rfl ?_
            exact HxK10_1 ()
          exact Hj14 ()
        exact Hj14 ()
      refine ef_drop (L2 := [some (.ref 123), some (.int p0), none]) [true, true, false] rfl rfl ?_
      exact HxK10_0 ()
  refine es_blk (pc' := 31) (L' := [some (.ref 123), some (.int p0), none]) (st' := [.int (-2)]) [(.bipush (-2), (-2))] (by decide +kernel) rfl rfl ?_
  exact es_ret rfl rfl rfl ⟨by decide +kernel, _, rfl, rfl⟩ (Nat.le_refl _) (Nat.le_refl _)
def eF_10_putOut (s : eh_F) (p0 : Int32) : Option (Int32 × eh_F) := Option.bind (eF_8_add s 18 (p0 &&& 255)) (fun q1 => eh_J (fun (a3 : Int32) => some (a3, q1.2)) (fun j2 => if q1.1 = 0 then (j2 (-5)) else (j2 (q1.2.1 18 1))))
set_option maxHeartbeats 4000000 in
set_option maxRecDepth 100000 in
theorem eS_10_putOut (g : eh_P) (s : eh_F) (p0 : Int32) : eh_Sim g eM_10_putOut (eh_R 2 0 0) eh_eI 0 0 0 (eh_en 2 [.ref 123, .int p0]) [] (eh_FW s) (eF_10_putOut s p0) := by
  unfold eF_10_putOut
  refine ef_top (L := [some (.ref 123), some (.int p0)]) rfl ?_
  refine es_blk (pc' := 1) (L' := [some (.ref 123), some (.int p0)]) (st' := [.ref 123]) [(.aload_n 0, 0)] (by decide +kernel) rfl rfl ?_
  refine ef_getP (k := 123) (j := 0) (q := 1) rfl eL_10_9 rfl rfl rfl (by decide +kernel) ?_
  refine ef_getP (k := 1) (j := 1) (q := 12) rfl eL_10_82 rfl rfl rfl (by decide +kernel) ?_
  refine ef_getP (k := 12) (j := 10) (q := 18) rfl eL_10_235 rfl rfl rfl (by decide +kernel) ?_
  refine es_blk (pc' := 15) (L' := [some (.ref 123), some (.int p0)]) (st' := [.int (p0 &&& 255), .ref 18]) [(.iload_n 1, 0), (.sipush 255, 255), (.iand, 0)] (by decide +kernel) rfl rfl ?_
  refine ef_veI (d := 1) (k := 18) (As := [.int (p0 &&& 255)]) (st := []) eV_8_add eK_10_238 (eS_8_add g s 18 (p0 &&& 255) rfl) rfl rfl (Nat.le_of_ble_eq_true rfl) rfl (Nat.le_of_ble_eq_true rfl) ⟨Nat.le_of_ble_eq_true rfl, Nat.le_of_ble_eq_true rfl⟩ ⟨Nat.le_refl _, Nat.le_refl _⟩ (by decide +kernel) (fun q1 _ => ?_)
  refine ef_J (X := fun j2 => ∀ (a3 : Int32), eh_Sim g eM_10_putOut (eh_R 2 0 0) eh_eI 0 0 39 [none, none] [.int a3] (eh_FW q1.2) ((j2 a3).bind some)) ?_ (fun j2 Hj2 => ?_)
  · intro a3
    exact es_ret rfl rfl rfl ⟨by decide +kernel, _, rfl, rfl⟩ (Nat.le_refl _) (Nat.le_refl _)
  refine es_eq (tgt := 37) (off := (19)) (by decide +kernel) (by decide) (fun h4 => ?_) (fun h4 => ?_)
  · refine es_blk (pc' := 39) (L' := [some (.ref 123), some (.int p0)]) (st' := [.int (-5)]) [(.bipush (-5), (-5))] (by decide +kernel) rfl rfl ?_
    refine ef_drop (L2 := [none, none]) [false, false] rfl rfl ?_
    exact Hj2 _
  refine es_blk (pc' := 22) (L' := [some (.ref 123), some (.int p0)]) (st' := [.ref 123]) [(.aload_n 0, 0)] (by decide +kernel) rfl rfl ?_
  refine ef_getP (k := 123) (j := 0) (q := 1) rfl eL_10_9 rfl rfl rfl (by decide +kernel) ?_
  refine ef_getP (k := 1) (j := 1) (q := 12) rfl eL_10_82 rfl rfl rfl (by decide +kernel) ?_
  refine ef_getP (k := 12) (j := 10) (q := 18) rfl eL_10_235 rfl rfl rfl (by decide +kernel) ?_
  refine ef_getI (k := 18) (j := 1) rfl eL_10_241 (by decide) (by decide +kernel) ?_
  refine es_goto (tgt := 39) (off := (5)) (by decide +kernel) (by decide) ?_
  refine ef_drop (L2 := [none, none]) [false, false] rfl rfl ?_
  exact Hj2 _
def eF_10_signal (s : eh_F) (p0 : Int32) : Option (Int32 × eh_F) := eh_J (fun (u2 : Unit) => some ((-1), s)) (fun j1 => if p0 < 0 then (j1 ()) else (if p0 < 2 then (if eh_in p0 2 then Option.bind (eF_4_raiseSignal s (eh_hp p0)) (fun q6 => some (0, q6)) else none) else (j1 ())))
set_option maxHeartbeats 4000000 in
set_option maxRecDepth 100000 in
theorem eS_10_signal (g : eh_P) (s : eh_F) (p0 : Int32) : eh_Sim g eM_10_signal (eh_R 2 0 0) eh_eI 0 0 0 (eh_en 2 [.ref 123, .int p0]) [] (eh_FW s) (eF_10_signal s p0) := by
  unfold eF_10_signal
  refine ef_top (L := [some (.ref 123), some (.int p0)]) rfl ?_
  refine es_blk (pc' := 1) (L' := [some (.ref 123), some (.int p0)]) (st' := [.int p0]) [(.iload_n 1, 0)] (by decide +kernel) rfl rfl ?_
  refine ef_J (X := fun j1 => ∀ (u2 : Unit), eh_Sim g eM_10_signal (eh_R 2 0 0) eh_eI 0 0 9 [none, none] [] (eh_FW s) ((j1 u2).bind some)) ?_ (fun j1 Hj1 => ?_)
  · intro u2
    refine es_blk (pc' := 10) (L' := [none, none]) (st' := [.int (-1)]) [(.iconst (-1), (-1))] (by decide +kernel) rfl rfl ?_
    exact es_ret rfl rfl rfl ⟨by decide +kernel, _, rfl, rfl⟩ (Nat.le_refl _) (Nat.le_refl _)
  refine es_lt (tgt := 9) (off := (8)) (by decide +kernel) (by decide) (fun h3 => ?_) (fun h3 => ?_)
  · refine ef_drop (L2 := [none, none]) [false, false] rfl rfl ?_
    exact Hj1 ()
  refine es_blk (pc' := 6) (L' := [some (.ref 123), some (.int p0)]) (st' := [.int 2, .int p0]) [(.iload_n 1, 0), (.iconst 2, 2)] (by decide +kernel) rfl rfl ?_
  refine es_ilt (tgt := 11) (off := (5)) (by decide +kernel) (by decide) (fun h4 => ?_) (fun h4 => ?_)
  · refine es_blk (pc' := 12) (L' := [some (.ref 123), some (.int p0)]) (st' := [.ref 123]) [(.aload_n 0, 0)] (by decide +kernel) rfl rfl ?_
    refine ef_getP (k := 123) (j := 0) (q := 1) rfl eL_10_9 rfl rfl rfl (by decide +kernel) ?_
    refine ef_getP (k := 1) (j := 2) (q := 26) rfl eL_10_244 rfl rfl rfl (by decide +kernel) ?_
    refine es_blk (pc' := 19) (L' := [some (.ref 123), some (.int p0)]) (st' := [.int p0, .ref 26]) [(.iload_n 1, 0)] (by decide +kernel) rfl rfl ?_
    refine ef_harts (by decide +kernel) (fun h5 => ?_)
    refine ef_veV (d := 1) (k := (eh_hp p0)) (As := []) (st := []) eV_4_raiseSignal eK_10_248 (eS_4_raiseSignal g s (eh_hp p0) h5) (eh_H0sh h5) rfl (Nat.le_of_ble_eq_true rfl) rfl (Nat.le_of_ble_eq_true rfl) ⟨Nat.le_of_ble_eq_true rfl, Nat.le_of_ble_eq_true rfl⟩ ⟨Nat.le_refl _, Nat.le_refl _⟩ (by decide +kernel) (fun q6 _ => ?_)
    refine es_blk (pc' := 24) (L' := [some (.ref 123), some (.int p0)]) (st' := [.int 0]) [(.iconst 0, 0)] (by decide +kernel) rfl rfl ?_
    exact es_ret rfl rfl rfl ⟨by decide +kernel, _, rfl, rfl⟩ (Nat.le_refl _) (Nat.le_refl _)
  refine ef_drop (L2 := [none, none]) [false, false] rfl rfl ?_
  exact Hj1 ()
def eF_10_askDisk (s : eh_F) (p0 : Int32) (p1 : Int32) (p2 : Int32) : Option (Int32 × eh_F) := eh_J (fun (u2 : Unit) => some ((-1), s)) (fun j1 => if p0 < 0 then (j1 ()) else (if 1 < p0 then (j1 ()) else (if p1 < 0 then (j1 ()) else (if 31 < p1 then (j1 ()) else (eh_J (fun (u8 : Unit) => some ((-1), s)) (fun j7 => if (p2 &&& 3) = 0 then (if p2 < 0 then (j7 ()) else (if 130816 < p2 then (j7 ()) else (eh_J (fun (a13 : Int32) => Option.bind (eF_0_ask s a13 p1 p2) (fun q14 => some (q14.1, q14.2))) (fun j12 => if p0 = 1 then (j12 1) else (j12 0))))) else (j7 ())))))))
set_option maxHeartbeats 4000000 in
set_option maxRecDepth 100000 in
theorem eS_10_askDisk (g : eh_P) (s : eh_F) (p0 : Int32) (p1 : Int32) (p2 : Int32) : eh_Sim g eM_10_askDisk (eh_R 2 0 0) eh_eI 0 0 0 (eh_en 4 [.ref 123, .int p0, .int p1, .int p2]) [] (eh_FW s) (eF_10_askDisk s p0 p1 p2) := by
  unfold eF_10_askDisk
  refine ef_top (L := [some (.ref 123), some (.int p0), some (.int p1), some (.int p2)]) rfl ?_
  refine es_blk (pc' := 1) (L' := [some (.ref 123), some (.int p0), some (.int p1), some (.int p2)]) (st' := [.int p0]) [(.iload_n 1, 0)] (by decide +kernel) rfl rfl ?_
  refine ef_J (X := fun j1 => ∀ (u2 : Unit), eh_Sim g eM_10_askDisk (eh_R 2 0 0) eh_eI 0 0 19 [none, none, none, none] [] (eh_FW s) ((j1 u2).bind some)) ?_ (fun j1 Hj1 => ?_)
  · intro u2
    refine es_blk (pc' := 20) (L' := [none, none, none, none]) (st' := [.int (-1)]) [(.iconst (-1), (-1))] (by decide +kernel) rfl rfl ?_
    exact es_ret rfl rfl rfl ⟨by decide +kernel, _, rfl, rfl⟩ (Nat.le_refl _) (Nat.le_refl _)
  refine es_lt (tgt := 19) (off := (18)) (by decide +kernel) (by decide) (fun h3 => ?_) (fun h3 => ?_)
  · refine ef_drop (L2 := [none, none, none, none]) [false, false, false, false] rfl rfl ?_
    exact Hj1 ()
  refine es_blk (pc' := 6) (L' := [some (.ref 123), some (.int p0), some (.int p1), some (.int p2)]) (st' := [.int 1, .int p0]) [(.iload_n 1, 0), (.iconst 1, 1)] (by decide +kernel) rfl rfl ?_
  refine es_igt (tgt := 19) (off := (13)) (by decide +kernel) (by decide) (fun h4 => ?_) (fun h4 => ?_)
  · refine ef_drop (L2 := [none, none, none, none]) [false, false, false, false] rfl rfl ?_
    exact Hj1 ()
  refine es_blk (pc' := 10) (L' := [some (.ref 123), some (.int p0), some (.int p1), some (.int p2)]) (st' := [.int p1]) [(.iload_n 2, 0)] (by decide +kernel) rfl rfl ?_
  refine es_lt (tgt := 19) (off := (9)) (by decide +kernel) (by decide) (fun h5 => ?_) (fun h5 => ?_)
  · refine ef_drop (L2 := [none, none, none, none]) [false, false, false, false] rfl rfl ?_
    exact Hj1 ()
  refine es_blk (pc' := 16) (L' := [some (.ref 123), some (.int p0), some (.int p1), some (.int p2)]) (st' := [.int 31, .int p1]) [(.iload_n 2, 0), (.bipush 31, 31)] (by decide +kernel) rfl rfl ?_
  refine es_ile (tgt := 21) (off := (5)) (by decide +kernel) (by decide) (fun h6 => ?_) (fun h6 => ?_)
  · refine ef_drop (L2 := [none, none, none, none]) [false, false, false, false] rfl rfl ?_
    exact Hj1 ()
  refine es_blk (pc' := 24) (L' := [some (.ref 123), some (.int p0), some (.int p1), some (.int p2)]) (st' := [.int (p2 &&& 3)]) [(.iload_n 3, 0), (.iconst 3, 3), (.iand, 0)] (by decide +kernel) rfl rfl ?_
  refine ef_J (X := fun j7 => ∀ (u8 : Unit), eh_Sim g eM_10_askDisk (eh_R 2 0 0) eh_eI 0 0 37 [none, none, none, none] [] (eh_FW s) ((j7 u8).bind some)) ?_ (fun j7 Hj7 => ?_)
  · intro u8
    refine es_blk (pc' := 38) (L' := [none, none, none, none]) (st' := [.int (-1)]) [(.iconst (-1), (-1))] (by decide +kernel) rfl rfl ?_
    exact es_ret rfl rfl rfl ⟨by decide +kernel, _, rfl, rfl⟩ (Nat.le_refl _) (Nat.le_refl _)
  refine es_ne (tgt := 37) (off := (13)) (by decide +kernel) (by decide) (fun h9 => ?_) (fun h9 => ?_)
  · refine es_blk (pc' := 28) (L' := [some (.ref 123), some (.int p0), some (.int p1), some (.int p2)]) (st' := [.int p2]) [(.iload_n 3, 0)] (by decide +kernel) rfl rfl ?_
    refine es_lt (tgt := 37) (off := (9)) (by decide +kernel) (by decide) (fun h10 => ?_) (fun h10 => ?_)
    · refine ef_drop (L2 := [none, none, none, none]) [false, false, false, false] rfl rfl ?_
      exact Hj7 ()
    refine es_blk (pc' := 32) (L' := [some (.ref 123), some (.int p0), some (.int p1), some (.int p2)]) (st' := [.int p2]) [(.iload_n 3, 0)] (by decide +kernel) rfl rfl ?_
    refine es_ldc (v := 130816) eC_10_253 (by decide +kernel) ?_
    refine es_ile (tgt := 39) (off := (5)) (by decide +kernel) (by decide) (fun h11 => ?_) (fun h11 => ?_)
    · refine ef_drop (L2 := [none, none, none, none]) [false, false, false, false] rfl rfl ?_
      exact Hj7 ()
    refine es_blk (pc' := 40) (L' := [some (.ref 123), some (.int p0), some (.int p1), some (.int p2)]) (st' := [.ref 123]) [(.aload_n 0, 0)] (by decide +kernel) rfl rfl ?_
    refine ef_getP (k := 123) (j := 0) (q := 1) rfl eL_10_9 rfl rfl rfl (by decide +kernel) ?_
    refine ef_getP (k := 1) (j := 1) (q := 12) rfl eL_10_82 rfl rfl rfl (by decide +kernel) ?_
    refine es_blk (pc' := 48) (L' := [some (.ref 123), some (.int p0), some (.int p1), some (.int p2)]) (st' := [.int 1, .int p0, .ref 12]) [(.iload_n 1, 0), (.iconst 1, 1)] (by decide +kernel) rfl rfl ?_
    refine ef_J (X := fun j12 => ∀ (a13 : Int32), eh_Sim g eM_10_askDisk (eh_R 2 0 0) eh_eI 0 0 56 [none, none, some (.int p1), some (.int p2)] [.int a13, .ref 12] (eh_FW s) ((j12 a13).bind some)) ?_ (fun j12 Hj12 => ?_)
    · intro a13
      refine es_blk (pc' := 58) (L' := [none, none, some (.int p1), some (.int p2)]) (st' := [.int p2, .int p1, .int a13, .ref 12]) [(.iload_n 2, 0), (.iload_n 3, 0)] (by decide +kernel) rfl rfl ?_
      refine ef_veI (d := 1) (k := 12) (As := [.int a13, .int p1, .int p2]) (st := []) eV_0_ask eK_10_254 (eS_0_ask g s a13 p1 p2) rfl rfl (Nat.le_of_ble_eq_true rfl) rfl (Nat.le_of_ble_eq_true rfl) ⟨Nat.le_of_ble_eq_true rfl, Nat.le_of_ble_eq_true rfl⟩ ⟨Nat.le_refl _, Nat.le_refl _⟩ (by decide +kernel) (fun q14 _ => ?_)
      exact es_ret rfl rfl rfl ⟨by decide +kernel, _, rfl, rfl⟩ (Nat.le_refl _) (Nat.le_refl _)
    refine es_ine (tgt := 55) (off := (7)) (by decide +kernel) (by decide) (fun h15 => ?_) (fun h15 => ?_)
    · refine es_blk (pc' := 52) (L' := [some (.ref 123), some (.int p0), some (.int p1), some (.int p2)]) (st' := [.int 1, .ref 12]) [(.iconst 1, 1)] (by decide +kernel) rfl rfl ?_
      refine es_goto (tgt := 56) (off := (4)) (by decide +kernel) (by decide) ?_
      refine ef_drop (L2 := [none, none, some (.int p1), some (.int p2)]) [false, false, true, true] rfl rfl ?_
      exact Hj12 _
    refine es_blk (pc' := 56) (L' := [some (.ref 123), some (.int p0), some (.int p1), some (.int p2)]) (st' := [.int 0, .ref 12]) [(.iconst 0, 0)] (by decide +kernel) rfl rfl ?_
    refine ef_drop (L2 := [none, none, some (.int p1), some (.int p2)]) [false, false, true, true] rfl rfl ?_
    exact Hj12 _
  refine ef_drop (L2 := [none, none, none, none]) [false, false, false, false] rfl rfl ?_
  exact Hj7 ()
def eF_10_measure (s : eh_F) (p0 : Int32) (p1 : Int32) : Option (Int32) := Option.bind (eF_5_hasEnclave s p0) (fun q1 => eh_J (fun (u3 : Unit) => some (-1)) (fun j2 => if q1 = 0 then (j2 ()) else (if p1 < 0 then (j2 ()) else (if 7 < p1 then (j2 ()) else (if eh_in p0 6 then eh_J (fun (a9 : Int32) => some a9) (fun j8 => if (s.1 (eh_ep p0) 5) = 1 then (j8 (-2)) else (if eh_in p1 8 then j8 (s.1 ((eh_ep p0) + 5) (eh_ix p1)) else none)) else none)))))
set_option maxHeartbeats 4000000 in
set_option maxRecDepth 100000 in
theorem eS_10_measure (g : eh_P) (s : eh_F) (p0 : Int32) (p1 : Int32) : eh_Sim g eM_10_measure (eh_R 2 0 0) (eh_pI s) 0 0 0 (eh_en 4 [.ref 123, .int p0, .int p1]) [] (eh_FW s) (eF_10_measure s p0 p1) := by
  unfold eF_10_measure
  refine ef_top (L := [some (.ref 123), some (.int p0), some (.int p1), none]) rfl ?_
  refine es_blk (pc' := 1) (L' := [some (.ref 123), some (.int p0), some (.int p1), none]) (st' := [.ref 123]) [(.aload_n 0, 0)] (by decide +kernel) rfl rfl ?_
  refine ef_getP (k := 123) (j := 0) (q := 1) rfl eL_10_9 rfl rfl rfl (by decide +kernel) ?_
  refine es_blk (pc' := 5) (L' := [some (.ref 123), some (.int p0), some (.int p1), none]) (st' := [.int p0, .ref 1]) [(.iload_n 1, 0)] (by decide +kernel) rfl rfl ?_
  refine ef_vpI (d := 1) (k := 1) (As := [.int p0]) (st := []) eV_5_hasEnclave eK_10_150 (eS_5_hasEnclave g s p0) rfl rfl (Nat.le_of_ble_eq_true rfl) rfl (Nat.le_of_ble_eq_true rfl) ⟨Nat.le_of_ble_eq_true rfl, Nat.le_of_ble_eq_true rfl⟩ ⟨Nat.le_refl _, Nat.le_refl _⟩ (by decide +kernel) (fun q1 _ => ?_)
  refine ef_J (X := fun j2 => ∀ (u3 : Unit), eh_Sim g eM_10_measure (eh_R 2 0 0) (eh_pI s) 0 0 21 [none, none, none, none] [] (eh_FW s) ((j2 u3).bind some)) ?_ (fun j2 Hj2 => ?_)
  · intro u3
    refine es_blk (pc' := 22) (L' := [none, none, none, none]) (st' := [.int (-1)]) [(.iconst (-1), (-1))] (by decide +kernel) rfl rfl ?_
    exact es_ret rfl rfl rfl ⟨by decide +kernel, _, rfl, rfl⟩ (Nat.le_refl _) (Nat.le_refl _)
  refine es_eq (tgt := 21) (off := (13)) (by decide +kernel) (by decide) (fun h4 => ?_) (fun h4 => ?_)
  · refine ef_drop (L2 := [none, none, none, none]) [false, false, false, true] rfl rfl ?_
    exact Hj2 ()
  refine es_blk (pc' := 12) (L' := [some (.ref 123), some (.int p0), some (.int p1), none]) (st' := [.int p1]) [(.iload_n 2, 0)] (by decide +kernel) rfl rfl ?_
  refine es_lt (tgt := 21) (off := (9)) (by decide +kernel) (by decide) (fun h5 => ?_) (fun h5 => ?_)
  · refine ef_drop (L2 := [none, none, none, none]) [false, false, false, true] rfl rfl ?_
    exact Hj2 ()
  refine es_blk (pc' := 18) (L' := [some (.ref 123), some (.int p0), some (.int p1), none]) (st' := [.int 7, .int p1]) [(.iload_n 2, 0), (.bipush 7, 7)] (by decide +kernel) rfl rfl ?_
  refine es_ile (tgt := 23) (off := (5)) (by decide +kernel) (by decide) (fun h6 => ?_) (fun h6 => ?_)
  · refine ef_drop (L2 := [none, none, none, none]) [false, false, false, true] rfl rfl ?_
    exact Hj2 ()
  refine es_blk (pc' := 24) (L' := [some (.ref 123), some (.int p0), some (.int p1), none]) (st' := [.ref 123]) [(.aload_n 0, 0)] (by decide +kernel) rfl rfl ?_
  refine ef_getP (k := 123) (j := 0) (q := 1) rfl eL_10_9 rfl rfl rfl (by decide +kernel) ?_
  refine ef_getP (k := 1) (j := 4) (q := 28) rfl eL_10_136 rfl rfl rfl (by decide +kernel) ?_
  refine es_blk (pc' := 31) (L' := [some (.ref 123), some (.int p0), some (.int p1), none]) (st' := [.int p0, .ref 28]) [(.iload_n 1, 0)] (by decide +kernel) rfl rfl ?_
  refine ef_encs (by decide +kernel) (fun h7 => ?_)
  refine es_blk (pc' := 34) (L' := [some (.ref 123), some (.int p0), some (.int p1), some (.ref (eh_ep p0))]) (st' := [.ref (eh_ep p0)]) [(.astore_n 3, 0), (.aload_n 3, 0)] (by decide +kernel) rfl rfl ?_
  refine ef_getI (k := (eh_ep p0)) (j := 5) (eh_E0sh h7) eL_10_146 (by decide) (by decide +kernel) ?_
  refine es_blk (pc' := 38) (L' := [some (.ref 123), some (.int p0), some (.int p1), some (.ref (eh_ep p0))]) (st' := [.int 1, .int (s.1 (eh_ep p0) 5)]) [(.iconst 1, 1)] (by decide +kernel) rfl rfl ?_
  refine ef_J (X := fun j8 => ∀ (a9 : Int32), eh_Sim g eM_10_measure (eh_R 2 0 0) (eh_pI s) 0 0 52 [none, none, none, none] [.int a9] (eh_FW s) ((j8 a9).bind some)) ?_ (fun j8 Hj8 => ?_)
  · intro a9
    exact es_ret rfl rfl rfl ⟨by decide +kernel, _, rfl, rfl⟩ (Nat.le_refl _) (Nat.le_refl _)
  refine es_ine (tgt := 46) (off := (8)) (by decide +kernel) (by decide) (fun h10 => ?_) (fun h10 => ?_)
  · refine es_blk (pc' := 43) (L' := [some (.ref 123), some (.int p0), some (.int p1), some (.ref (eh_ep p0))]) (st' := [.int (-2)]) [(.bipush (-2), (-2))] (by decide +kernel) rfl rfl ?_
    refine es_goto (tgt := 52) (off := (9)) (by decide +kernel) (by decide) ?_
    refine ef_drop (L2 := [none, none, none, none]) [false, false, false, false] rfl rfl ?_
    exact Hj8 _
  refine es_blk (pc' := 47) (L' := [some (.ref 123), some (.int p0), some (.int p1), some (.ref (eh_ep p0))]) (st' := [.ref (eh_ep p0)]) [(.aload_n 3, 0)] (by decide +kernel) rfl rfl ?_
  refine ef_getP (k := (eh_ep p0)) (j := 1) (q := ((eh_ep p0) + 5)) (eh_E0sh h7) eL_10_258 rfl (eh_Ex h7 _).2.1 (eh_E5sh h7) (by decide +kernel) ?_
  refine es_blk (pc' := 51) (L' := [some (.ref 123), some (.int p0), some (.int p1), some (.ref (eh_ep p0))]) (st' := [.int p1, .ref ((eh_ep p0) + 5)]) [(.iload_n 2, 0)] (by decide +kernel) rfl rfl ?_
  refine ef_ald (k := ((eh_ep p0) + 5)) (eh_E5sh h7) (Or.inl ⟨rfl, rfl⟩) (by decide +kernel) (fun _ => ?_)
  refine ef_drop (L2 := [none, none, none, none]) [false, false, false, false] rfl rfl ?_
  exact Hj8 _
def eF_10_look (s : eh_F) (p0 : Int32) (p1 : Int32) : Option (Int32) := Option.bind (eF_5_hasEnclave s p0) (fun q1 => eh_J (fun (u3 : Unit) => some (-1)) (fun j2 => if q1 = 0 then (j2 ()) else (if (p1 &&& 3) = 0 then (eh_J (fun (u7 : Unit) => some (-1)) (fun j6 => if p1 < 0 then (j6 ()) else (Option.bind (eF_5_sizeOf s p0) (fun q9 => if p1 < q9 then (if eh_in p0 6 then eh_J (fun (a13 : Int32) => some a13) (fun j12 => if (s.1 (eh_ep p0) 7) = 1 then (Option.bind (eF_5_baseOf s p0) (fun q15 => Option.bind (eF_6_wordAt s (q15 + p1)) (fun q16 => j12 q16))) else (j12 (-6))) else none) else (j6 ()))))) else (j2 ()))))
set_option maxHeartbeats 4000000 in
set_option maxRecDepth 100000 in
theorem eS_10_look (g : eh_P) (s : eh_F) (p0 : Int32) (p1 : Int32) : eh_Sim g eM_10_look (eh_R 2 0 0) (eh_pI s) 0 0 0 (eh_en 3 [.ref 123, .int p0, .int p1]) [] (eh_FW s) (eF_10_look s p0 p1) := by
  unfold eF_10_look
  refine ef_top (L := [some (.ref 123), some (.int p0), some (.int p1)]) rfl ?_
  refine es_blk (pc' := 1) (L' := [some (.ref 123), some (.int p0), some (.int p1)]) (st' := [.ref 123]) [(.aload_n 0, 0)] (by decide +kernel) rfl rfl ?_
  refine ef_getP (k := 123) (j := 0) (q := 1) rfl eL_10_9 rfl rfl rfl (by decide +kernel) ?_
  refine es_blk (pc' := 5) (L' := [some (.ref 123), some (.int p0), some (.int p1)]) (st' := [.int p0, .ref 1]) [(.iload_n 1, 0)] (by decide +kernel) rfl rfl ?_
  refine ef_vpI (d := 1) (k := 1) (As := [.int p0]) (st := []) eV_5_hasEnclave eK_10_150 (eS_5_hasEnclave g s p0) rfl rfl (Nat.le_of_ble_eq_true rfl) rfl (Nat.le_of_ble_eq_true rfl) ⟨Nat.le_of_ble_eq_true rfl, Nat.le_of_ble_eq_true rfl⟩ ⟨Nat.le_refl _, Nat.le_refl _⟩ (by decide +kernel) (fun q1 _ => ?_)
  refine ef_J (X := fun j2 => ∀ (u3 : Unit), eh_Sim g eM_10_look (eh_R 2 0 0) (eh_pI s) 0 0 17 [none, none, none] [] (eh_FW s) ((j2 u3).bind some)) ?_ (fun j2 Hj2 => ?_)
  · intro u3
    refine es_blk (pc' := 18) (L' := [none, none, none]) (st' := [.int (-1)]) [(.iconst (-1), (-1))] (by decide +kernel) rfl rfl ?_
    exact es_ret rfl rfl rfl ⟨by decide +kernel, _, rfl, rfl⟩ (Nat.le_refl _) (Nat.le_refl _)
  refine es_eq (tgt := 17) (off := (9)) (by decide +kernel) (by decide) (fun h4 => ?_) (fun h4 => ?_)
  · refine ef_drop (L2 := [none, none, none]) [false, false, false] rfl rfl ?_
    exact Hj2 ()
  refine es_blk (pc' := 14) (L' := [some (.ref 123), some (.int p0), some (.int p1)]) (st' := [.int (p1 &&& 3)]) [(.iload_n 2, 0), (.iconst 3, 3), (.iand, 0)] (by decide +kernel) rfl rfl ?_
  refine es_eq (tgt := 19) (off := (5)) (by decide +kernel) (by decide) (fun h5 => ?_) (fun h5 => ?_)
  · refine es_blk (pc' := 20) (L' := [some (.ref 123), some (.int p0), some (.int p1)]) (st' := [.int p1]) [(.iload_n 2, 0)] (by decide +kernel) rfl rfl ?_
    refine ef_J (X := fun j6 => ∀ (u7 : Unit), eh_Sim g eM_10_look (eh_R 2 0 0) (eh_pI s) 0 0 35 [none, none, none] [] (eh_FW s) ((j6 u7).bind some)) ?_ (fun j6 Hj6 => ?_)
    · intro u7
      refine es_blk (pc' := 36) (L' := [none, none, none]) (st' := [.int (-1)]) [(.iconst (-1), (-1))] (by decide +kernel) rfl rfl ?_
      exact es_ret rfl rfl rfl ⟨by decide +kernel, _, rfl, rfl⟩ (Nat.le_refl _) (Nat.le_refl _)
    refine es_lt (tgt := 35) (off := (15)) (by decide +kernel) (by decide) (fun h8 => ?_) (fun h8 => ?_)
    · refine ef_drop (L2 := [none, none, none]) [false, false, false] rfl rfl ?_
      exact Hj6 ()
    refine es_blk (pc' := 25) (L' := [some (.ref 123), some (.int p0), some (.int p1)]) (st' := [.ref 123, .int p1]) [(.iload_n 2, 0), (.aload_n 0, 0)] (by decide +kernel) rfl rfl ?_
    refine ef_getP (k := 123) (j := 0) (q := 1) rfl eL_10_9 rfl rfl rfl (by decide +kernel) ?_
    refine es_blk (pc' := 29) (L' := [some (.ref 123), some (.int p0), some (.int p1)]) (st' := [.int p0, .ref 1, .int p1]) [(.iload_n 1, 0)] (by decide +kernel) rfl rfl ?_
    refine ef_vpI (d := 1) (k := 1) (As := [.int p0]) (st := [.int p1]) eV_5_sizeOf eK_10_154 (eS_5_sizeOf g s p0) rfl rfl (Nat.le_of_ble_eq_true rfl) rfl (Nat.le_of_ble_eq_true rfl) ⟨Nat.le_of_ble_eq_true rfl, Nat.le_of_ble_eq_true rfl⟩ ⟨Nat.le_refl _, Nat.le_refl _⟩ (by decide +kernel) (fun q9 _ => ?_)
    refine es_ilt (tgt := 37) (off := (5)) (by decide +kernel) (by decide) (fun h10 => ?_) (fun h10 => ?_)
    · refine es_blk (pc' := 38) (L' := [some (.ref 123), some (.int p0), some (.int p1)]) (st' := [.ref 123]) [(.aload_n 0, 0)] (by decide +kernel) rfl rfl ?_
      refine ef_getP (k := 123) (j := 0) (q := 1) rfl eL_10_9 rfl rfl rfl (by decide +kernel) ?_
      refine ef_getP (k := 1) (j := 4) (q := 28) rfl eL_10_136 rfl rfl rfl (by decide +kernel) ?_
      refine es_blk (pc' := 45) (L' := [some (.ref 123), some (.int p0), some (.int p1)]) (st' := [.int p0, .ref 28]) [(.iload_n 1, 0)] (by decide +kernel) rfl rfl ?_
      refine ef_encs (by decide +kernel) (fun h11 => ?_)
      refine ef_getI (k := (eh_ep p0)) (j := 7) (eh_E0sh h11) eL_10_261 (by decide) (by decide +kernel) ?_
      refine es_blk (pc' := 50) (L' := [some (.ref 123), some (.int p0), some (.int p1)]) (st' := [.int 1, .int (s.1 (eh_ep p0) 7)]) [(.iconst 1, 1)] (by decide +kernel) rfl rfl ?_
      refine ef_J (X := fun j12 => ∀ (a13 : Int32), eh_Sim g eM_10_look (eh_R 2 0 0) (eh_pI s) 0 0 75 [none, none, none] [.int a13] (eh_FW s) ((j12 a13).bind some)) ?_ (fun j12 Hj12 => ?_)
      · intro a13
        exact es_ret rfl rfl rfl ⟨by decide +kernel, _, rfl, rfl⟩ (Nat.le_refl _) (Nat.le_refl _)
      refine es_ine (tgt := 73) (off := (23)) (by decide +kernel) (by decide) (fun h14 => ?_) (fun h14 => ?_)
      · refine es_blk (pc' := 54) (L' := [some (.ref 123), some (.int p0), some (.int p1)]) (st' := [.ref 123]) [(.aload_n 0, 0)] (by decide +kernel) rfl rfl ?_
        refine ef_getP (k := 123) (j := 1) (q := 2) rfl eL_10_21 rfl rfl rfl (by decide +kernel) ?_
        refine es_blk (pc' := 58) (L' := [some (.ref 123), some (.int p0), some (.int p1)]) (st' := [.ref 123, .ref 2]) [(.aload_n 0, 0)] (by decide +kernel) rfl rfl ?_
        refine ef_getP (k := 123) (j := 0) (q := 1) rfl eL_10_9 rfl rfl rfl (by decide +kernel) ?_
        refine es_blk (pc' := 62) (L' := [some (.ref 123), some (.int p0), some (.int p1)]) (st' := [.int p0, .ref 1, .ref 2]) [(.iload_n 1, 0)] (by decide +kernel) rfl rfl ?_
        refine ef_vpI (d := 1) (k := 1) (As := [.int p0]) (st := [.ref 2]) eV_5_baseOf eK_10_160 (eS_5_baseOf g s p0) rfl rfl (Nat.le_of_ble_eq_true rfl) rfl (Nat.le_of_ble_eq_true rfl) ⟨Nat.le_of_ble_eq_true rfl, Nat.le_of_ble_eq_true rfl⟩ ⟨Nat.le_refl _, Nat.le_refl _⟩ (by decide +kernel) (fun q15 _ => ?_)
        refine es_blk (pc' := 67) (L' := [some (.ref 123), some (.int p0), some (.int p1)]) (st' := [.int (q15 + p1), .ref 2]) [(.iload_n 2, 0), (.iadd, 0)] (by decide +kernel) rfl rfl ?_
        refine ef_vpI (d := 1) (k := 2) (As := [.int (q15 + p1)]) (st := []) eV_6_wordAt eK_10_173 (eS_6_wordAt g s (q15 + p1)) rfl rfl (Nat.le_of_ble_eq_true rfl) rfl (Nat.le_of_ble_eq_true rfl) ⟨Nat.le_of_ble_eq_true rfl, Nat.le_of_ble_eq_true rfl⟩ ⟨Nat.le_refl _, Nat.le_refl _⟩ (by decide +kernel) (fun q16 _ => ?_)
        refine es_goto (tgt := 75) (off := (5)) (by decide +kernel) (by decide) ?_
        refine ef_drop (L2 := [none, none, none]) [false, false, false] rfl rfl ?_
        exact Hj12 _
      refine es_blk (pc' := 75) (L' := [some (.ref 123), some (.int p0), some (.int p1)]) (st' := [.int (-6)]) [(.bipush (-6), (-6))] (by decide +kernel) rfl rfl ?_
      refine ef_drop (L2 := [none, none, none]) [false, false, false] rfl rfl ?_
      exact Hj12 _
    refine ef_drop (L2 := [none, none, none]) [false, false, false] rfl rfl ?_
    exact Hj6 ()
  refine ef_drop (L2 := [none, none, none]) [false, false, false] rfl rfl ?_
  exact Hj2 ()
def eF_11_word (s : eh_F) (p0 : Int32) : Option (Int32) := eh_J (fun (a2 : Int32) => some a2) (fun j1 => eh_J (fun (u4 : Unit) => j1 0) (fun j3 => if (p0 &&& 3) = 0 then (Option.bind (eF_6_isOpen s (p0.toInt64)) (fun q6 => if q6 = 0 then (j3 ()) else (Option.bind (eF_6_wordAt s p0) (fun q8 => j1 q8)))) else (j3 ())))
set_option maxHeartbeats 4000000 in
set_option maxRecDepth 100000 in
theorem eS_11_word (g : eh_P) (s : eh_F) (p0 : Int32) : eh_Sim g eM_11_word (eh_R 2 0 0) (eh_pI s) 0 0 0 (eh_en 2 [.ref 0, .int p0]) [] (eh_FW s) (eF_11_word s p0) := by
  unfold eF_11_word
  refine ef_top (L := [some (.ref 0), some (.int p0)]) rfl ?_
  refine es_blk (pc' := 3) (L' := [some (.ref 0), some (.int p0)]) (st' := [.int (p0 &&& 3)]) [(.iload_n 1, 0), (.iconst 3, 3), (.iand, 0)] (by decide +kernel) rfl rfl ?_
  refine ef_J (X := fun j1 => ∀ (a2 : Int32), eh_Sim g eM_11_word (eh_R 2 0 0) (eh_pI s) 0 0 36 [none, none] [.int a2] (eh_FW s) ((j1 a2).bind some)) ?_ (fun j1 Hj1 => ?_)
  · intro a2
    exact es_ret rfl rfl rfl ⟨by decide +kernel, _, rfl, rfl⟩ (Nat.le_refl _) (Nat.le_refl _)
  refine ef_J (X := fun j3 => ∀ (u4 : Unit), eh_Sim g eM_11_word (eh_R 2 0 0) (eh_pI s) 0 0 35 [none, none] [] (eh_FW s) ((j3 u4).bind some)) ?_ (fun j3 Hj3 => ?_)
  · intro u4
    refine es_blk (pc' := 36) (L' := [none, none]) (st' := [.int 0]) [(.iconst 0, 0)] (by decide +kernel) rfl rfl ?_
    exact Hj1 _
  refine es_ne (tgt := 35) (off := (32)) (by decide +kernel) (by decide) (fun h5 => ?_) (fun h5 => ?_)
  · refine es_blk (pc' := 7) (L' := [some (.ref 0), some (.int p0)]) (st' := [.ref 0]) [(.aload_n 0, 0)] (by decide +kernel) rfl rfl ?_
    refine ef_getP (k := 0) (j := 0) (q := 1) rfl eL_11_12 rfl rfl rfl (by decide +kernel) ?_
    refine ef_getP (k := 1) (j := 0) (q := 2) rfl eL_11_43 rfl rfl rfl (by decide +kernel) ?_
    refine es_blk (pc' := 15) (L' := [some (.ref 0), some (.int p0)]) (st' := [.long (p0.toInt64), .ref 2]) [(.iload_n 1, 0), (.i2l, 0)] (by decide +kernel) rfl rfl ?_
    refine ef_vpI (d := 1) (k := 2) (As := [.long (p0.toInt64)]) (st := []) eV_6_isOpen eK_11_57 (eS_6_isOpen g s (p0.toInt64)) rfl rfl (Nat.le_of_ble_eq_true rfl) rfl (Nat.le_of_ble_eq_true rfl) ⟨Nat.le_of_ble_eq_true rfl, Nat.le_of_ble_eq_true rfl⟩ ⟨Nat.le_refl _, Nat.le_refl _⟩ (by decide +kernel) (fun q6 _ => ?_)
    refine es_eq (tgt := 35) (off := (17)) (by decide +kernel) (by decide) (fun h7 => ?_) (fun h7 => ?_)
    · refine ef_drop (L2 := [none, none]) [false, false] rfl rfl ?_
      exact Hj3 ()
    refine es_blk (pc' := 22) (L' := [some (.ref 0), some (.int p0)]) (st' := [.ref 0]) [(.aload_n 0, 0)] (by decide +kernel) rfl rfl ?_
    refine ef_getP (k := 0) (j := 0) (q := 1) rfl eL_11_12 rfl rfl rfl (by decide +kernel) ?_
    refine ef_getP (k := 1) (j := 0) (q := 2) rfl eL_11_43 rfl rfl rfl (by decide +kernel) ?_
    refine es_blk (pc' := 29) (L' := [some (.ref 0), some (.int p0)]) (st' := [.int p0, .ref 2]) [(.iload_n 1, 0)] (by decide +kernel) rfl rfl ?_
    refine ef_vpI (d := 1) (k := 2) (As := [.int p0]) (st := []) eV_6_wordAt eK_11_61 (eS_6_wordAt g s p0) rfl rfl (Nat.le_of_ble_eq_true rfl) rfl (Nat.le_of_ble_eq_true rfl) ⟨Nat.le_of_ble_eq_true rfl, Nat.le_of_ble_eq_true rfl⟩ ⟨Nat.le_refl _, Nat.le_refl _⟩ (by decide +kernel) (fun q8 _ => ?_)
    refine es_goto (tgt := 36) (off := (4)) (by decide +kernel) (by decide) ?_
    refine ef_drop (L2 := [none, none]) [false, false] rfl rfl ?_
    exact Hj1 _
  refine ef_drop (L2 := [none, none]) [false, false] rfl rfl ?_
  exact Hj3 ()
def eF_11_inner (s : eh_F) (p0 : Int32) : Option (Int32) := eh_J (fun (a2 : Int32) => some a2) (fun j1 => if (p0 &&& 3) = 0 then (Option.bind (eF_6_wordAt s p0) (fun q4 => j1 q4)) else (j1 0))
set_option maxHeartbeats 4000000 in
set_option maxRecDepth 100000 in
theorem eS_11_inner (g : eh_P) (s : eh_F) (p0 : Int32) : eh_Sim g eM_11_inner (eh_R 2 0 0) (eh_pI s) 0 0 0 (eh_en 2 [.ref 0, .int p0]) [] (eh_FW s) (eF_11_inner s p0) := by
  unfold eF_11_inner
  refine ef_top (L := [some (.ref 0), some (.int p0)]) rfl ?_
  refine es_blk (pc' := 3) (L' := [some (.ref 0), some (.int p0)]) (st' := [.int (p0 &&& 3)]) [(.iload_n 1, 0), (.iconst 3, 3), (.iand, 0)] (by decide +kernel) rfl rfl ?_
  refine ef_J (X := fun j1 => ∀ (a2 : Int32), eh_Sim g eM_11_inner (eh_R 2 0 0) (eh_pI s) 0 0 21 [none, none] [.int a2] (eh_FW s) ((j1 a2).bind some)) ?_ (fun j1 Hj1 => ?_)
  · intro a2
    exact es_ret rfl rfl rfl ⟨by decide +kernel, _, rfl, rfl⟩ (Nat.le_refl _) (Nat.le_refl _)
  refine es_ne (tgt := 20) (off := (17)) (by decide +kernel) (by decide) (fun h3 => ?_) (fun h3 => ?_)
  · refine es_blk (pc' := 7) (L' := [some (.ref 0), some (.int p0)]) (st' := [.ref 0]) [(.aload_n 0, 0)] (by decide +kernel) rfl rfl ?_
    refine ef_getP (k := 0) (j := 0) (q := 1) rfl eL_11_12 rfl rfl rfl (by decide +kernel) ?_
    refine ef_getP (k := 1) (j := 0) (q := 2) rfl eL_11_43 rfl rfl rfl (by decide +kernel) ?_
    refine es_blk (pc' := 14) (L' := [some (.ref 0), some (.int p0)]) (st' := [.int p0, .ref 2]) [(.iload_n 1, 0)] (by decide +kernel) rfl rfl ?_
    refine ef_vpI (d := 1) (k := 2) (As := [.int p0]) (st := []) eV_6_wordAt eK_11_61 (eS_6_wordAt g s p0) rfl rfl (Nat.le_of_ble_eq_true rfl) rfl (Nat.le_of_ble_eq_true rfl) ⟨Nat.le_of_ble_eq_true rfl, Nat.le_of_ble_eq_true rfl⟩ ⟨Nat.le_refl _, Nat.le_refl _⟩ (by decide +kernel) (fun q4 _ => ?_)
    refine es_goto (tgt := 21) (off := (4)) (by decide +kernel) (by decide) ?_
    refine ef_drop (L2 := [none, none]) [false, false] rfl rfl ?_
    exact Hj1 _
  refine es_blk (pc' := 21) (L' := [some (.ref 0), some (.int p0)]) (st' := [.int 0]) [(.iconst 0, 0)] (by decide +kernel) rfl rfl ?_
  refine ef_drop (L2 := [none, none]) [false, false] rfl rfl ?_
  exact Hj1 _
def eF_11_inside (s : eh_F) (p0 : Int32) (p1 : Int32) : Option (Int32) := Option.bind (eF_5_hasFibre s p0) (fun q1 => eh_J (fun (u3 : Unit) => some 0) (fun j2 => if q1 = 0 then (j2 ()) else (if p1 < 0 then (j2 ()) else (if 32 < p1 then (j2 ()) else (if eh_in p0 12 then eh_J (fun (a9 : Int32) => some a9) (fun j8 => if p1 = 32 then (j8 (s.1 (eh_fp p0) 2)) else (if eh_in p1 32 then j8 (s.1 ((eh_fp p0) + 1) (eh_ix p1)) else none)) else none)))))
set_option maxHeartbeats 4000000 in
set_option maxRecDepth 100000 in
theorem eS_11_inside (g : eh_P) (s : eh_F) (p0 : Int32) (p1 : Int32) : eh_Sim g eM_11_inside (eh_R 2 0 0) (eh_pI s) 0 0 0 (eh_en 4 [.ref 0, .int p0, .int p1]) [] (eh_FW s) (eF_11_inside s p0 p1) := by
  unfold eF_11_inside
  refine ef_top (L := [some (.ref 0), some (.int p0), some (.int p1), none]) rfl ?_
  refine es_blk (pc' := 1) (L' := [some (.ref 0), some (.int p0), some (.int p1), none]) (st' := [.ref 0]) [(.aload_n 0, 0)] (by decide +kernel) rfl rfl ?_
  refine ef_getP (k := 0) (j := 0) (q := 1) rfl eL_11_12 rfl rfl rfl (by decide +kernel) ?_
  refine es_blk (pc' := 5) (L' := [some (.ref 0), some (.int p0), some (.int p1), none]) (st' := [.int p0, .ref 1]) [(.iload_n 1, 0)] (by decide +kernel) rfl rfl ?_
  refine ef_vpI (d := 1) (k := 1) (As := [.int p0]) (st := []) eV_5_hasFibre eK_11_98 (eS_5_hasFibre g s p0) rfl rfl (Nat.le_of_ble_eq_true rfl) rfl (Nat.le_of_ble_eq_true rfl) ⟨Nat.le_of_ble_eq_true rfl, Nat.le_of_ble_eq_true rfl⟩ ⟨Nat.le_refl _, Nat.le_refl _⟩ (by decide +kernel) (fun q1 _ => ?_)
  refine ef_J (X := fun j2 => ∀ (u3 : Unit), eh_Sim g eM_11_inside (eh_R 2 0 0) (eh_pI s) 0 0 21 [none, none, none, none] [] (eh_FW s) ((j2 u3).bind some)) ?_ (fun j2 Hj2 => ?_)
  · intro u3
    refine es_blk (pc' := 22) (L' := [none, none, none, none]) (st' := [.int 0]) [(.iconst 0, 0)] (by decide +kernel) rfl rfl ?_
    exact es_ret rfl rfl rfl ⟨by decide +kernel, _, rfl, rfl⟩ (Nat.le_refl _) (Nat.le_refl _)
  refine es_eq (tgt := 21) (off := (13)) (by decide +kernel) (by decide) (fun h4 => ?_) (fun h4 => ?_)
  · refine ef_drop (L2 := [none, none, none, none]) [false, false, false, true] rfl rfl ?_
    exact Hj2 ()
  refine es_blk (pc' := 12) (L' := [some (.ref 0), some (.int p0), some (.int p1), none]) (st' := [.int p1]) [(.iload_n 2, 0)] (by decide +kernel) rfl rfl ?_
  refine es_lt (tgt := 21) (off := (9)) (by decide +kernel) (by decide) (fun h5 => ?_) (fun h5 => ?_)
  · refine ef_drop (L2 := [none, none, none, none]) [false, false, false, true] rfl rfl ?_
    exact Hj2 ()
  refine es_blk (pc' := 18) (L' := [some (.ref 0), some (.int p0), some (.int p1), none]) (st' := [.int 32, .int p1]) [(.iload_n 2, 0), (.bipush 32, 32)] (by decide +kernel) rfl rfl ?_
  refine es_ile (tgt := 23) (off := (5)) (by decide +kernel) (by decide) (fun h6 => ?_) (fun h6 => ?_)
  · refine ef_drop (L2 := [none, none, none, none]) [false, false, false, true] rfl rfl ?_
    exact Hj2 ()
  refine es_blk (pc' := 24) (L' := [some (.ref 0), some (.int p0), some (.int p1), none]) (st' := [.ref 0]) [(.aload_n 0, 0)] (by decide +kernel) rfl rfl ?_
  refine ef_getP (k := 0) (j := 0) (q := 1) rfl eL_11_12 rfl rfl rfl (by decide +kernel) ?_
  refine ef_getP (k := 1) (j := 3) (q := 27) rfl eL_11_101 rfl rfl rfl (by decide +kernel) ?_
  refine es_blk (pc' := 31) (L' := [some (.ref 0), some (.int p0), some (.int p1), none]) (st' := [.int p0, .ref 27]) [(.iload_n 1, 0)] (by decide +kernel) rfl rfl ?_
  refine ef_fibres (by decide +kernel) (fun h7 => ?_)
  refine es_blk (pc' := 36) (L' := [some (.ref 0), some (.int p0), some (.int p1), some (.ref (eh_fp p0))]) (st' := [.int 32, .int p1]) [(.astore_n 3, 0), (.iload_n 2, 0), (.bipush 32, 32)] (by decide +kernel) rfl rfl ?_
  refine ef_J (X := fun j8 => ∀ (a9 : Int32), eh_Sim g eM_11_inside (eh_R 2 0 0) (eh_pI s) 0 0 52 [none, none, none, none] [.int a9] (eh_FW s) ((j8 a9).bind some)) ?_ (fun j8 Hj8 => ?_)
  · intro a9
    exact es_ret rfl rfl rfl ⟨by decide +kernel, _, rfl, rfl⟩ (Nat.le_refl _) (Nat.le_refl _)
  refine es_ine (tgt := 46) (off := (10)) (by decide +kernel) (by decide) (fun h10 => ?_) (fun h10 => ?_)
  · refine es_blk (pc' := 40) (L' := [some (.ref 0), some (.int p0), some (.int p1), some (.ref (eh_fp p0))]) (st' := [.ref (eh_fp p0)]) [(.aload_n 3, 0)] (by decide +kernel) rfl rfl ?_
    refine ef_getI (k := (eh_fp p0)) (j := 2) (eh_F0sh h7) eL_11_105 (by decide) (by decide +kernel) ?_
    refine es_goto (tgt := 52) (off := (9)) (by decide +kernel) (by decide) ?_
    refine ef_drop (L2 := [none, none, none, none]) [false, false, false, false] rfl rfl ?_
    exact Hj8 _
  refine es_blk (pc' := 47) (L' := [some (.ref 0), some (.int p0), some (.int p1), some (.ref (eh_fp p0))]) (st' := [.ref (eh_fp p0)]) [(.aload_n 3, 0)] (by decide +kernel) rfl rfl ?_
  refine ef_getP (k := (eh_fp p0)) (j := 1) (q := ((eh_fp p0) + 1)) (eh_F0sh h7) eL_11_111 rfl (eh_Fx h7 _) (eh_F1sh h7) (by decide +kernel) ?_
  refine es_blk (pc' := 51) (L' := [some (.ref 0), some (.int p0), some (.int p1), some (.ref (eh_fp p0))]) (st' := [.int p1, .ref ((eh_fp p0) + 1)]) [(.iload_n 2, 0)] (by decide +kernel) rfl rfl ?_
  refine ef_ald (k := ((eh_fp p0) + 1)) (eh_F1sh h7) (Or.inl ⟨rfl, rfl⟩) (by decide +kernel) (fun _ => ?_)
  refine ef_drop (L2 := [none, none, none, none]) [false, false, false, false] rfl rfl ?_
  exact Hj8 _
def eF_11_place (s : eh_F) (p0 : Int32) (p1 : Int32) (p2 : Int32) : Option (Int32 × eh_F) := Option.bind (eF_11_isHart s p0) (fun q1 => eh_J (fun (u3 : Unit) => some ((-1), s)) (fun j2 => if q1 = 0 then (j2 ()) else (if p2 < 0 then (j2 ()) else (if 1 < p2 then (j2 ()) else (if (p1 &&& 3) = 0 then (if eh_in p0 2 then eh_V (eh_tI s (eh_hp p0) 2 p1) (fun s9 => eh_V (eh_tI s9 (eh_hp p0) 3 p2) (fun s10 => eh_V (eh_tI s10 (eh_hp p0) 4 0) (fun s11 => some (0, s11)))) else none) else (j2 ()))))))
set_option maxHeartbeats 4000000 in
set_option maxRecDepth 100000 in
theorem eS_11_place (g : eh_P) (s : eh_F) (p0 : Int32) (p1 : Int32) (p2 : Int32) : eh_Sim g eM_11_place (eh_R 2 0 0) eh_eI 0 0 0 (eh_en 5 [.ref 0, .int p0, .int p1, .int p2]) [] (eh_FW s) (eF_11_place s p0 p1 p2) := by
  unfold eF_11_place
  refine ef_top (L := [some (.ref 0), some (.int p0), some (.int p1), some (.int p2), none]) rfl ?_
  refine es_blk (pc' := 1) (L' := [some (.ref 0), some (.int p0), some (.int p1), some (.int p2), none]) (st' := [.int p0]) [(.iload_n 1, 0)] (by decide +kernel) rfl rfl ?_
  refine ef_spI (d := 1) (As := [.int p0]) (st := []) eV_11_isHart eK_11_85 (eS_11_isHart g s p0) rfl (Nat.le_of_ble_eq_true rfl) rfl (Nat.le_of_ble_eq_true rfl) ⟨Nat.le_of_ble_eq_true rfl, Nat.le_of_ble_eq_true rfl⟩ ⟨Nat.le_refl _, Nat.le_refl _⟩ (by decide +kernel) (fun q1 _ => ?_)
  refine ef_J (X := fun j2 => ∀ (u3 : Unit), eh_Sim g eM_11_place (eh_R 2 0 0) eh_eI 0 0 22 [none, none, none, none, none] [] (eh_FW s) ((j2 u3).bind some)) ?_ (fun j2 Hj2 => ?_)
  · intro u3
    refine es_blk (pc' := 23) (L' := [none, none, none, none, none]) (st' := [.int (-1)]) [(.iconst (-1), (-1))] (by decide +kernel) rfl rfl ?_
    exact es_ret rfl rfl rfl ⟨by decide +kernel, _, rfl, rfl⟩ (Nat.le_refl _) (Nat.le_refl _)
  refine es_eq (tgt := 22) (off := (18)) (by decide +kernel) (by decide) (fun h4 => ?_) (fun h4 => ?_)
  · refine ef_drop (L2 := [none, none, none, none, none]) [false, false, false, false, true] rfl rfl ?_
    exact Hj2 ()
  refine es_blk (pc' := 8) (L' := [some (.ref 0), some (.int p0), some (.int p1), some (.int p2), none]) (st' := [.int p2]) [(.iload_n 3, 0)] (by decide +kernel) rfl rfl ?_
  refine es_lt (tgt := 22) (off := (14)) (by decide +kernel) (by decide) (fun h5 => ?_) (fun h5 => ?_)
  · refine ef_drop (L2 := [none, none, none, none, none]) [false, false, false, false, true] rfl rfl ?_
    exact Hj2 ()
  refine es_blk (pc' := 13) (L' := [some (.ref 0), some (.int p0), some (.int p1), some (.int p2), none]) (st' := [.int 1, .int p2]) [(.iload_n 3, 0), (.iconst 1, 1)] (by decide +kernel) rfl rfl ?_
  refine es_igt (tgt := 22) (off := (9)) (by decide +kernel) (by decide) (fun h6 => ?_) (fun h6 => ?_)
  · refine ef_drop (L2 := [none, none, none, none, none]) [false, false, false, false, true] rfl rfl ?_
    exact Hj2 ()
  refine es_blk (pc' := 19) (L' := [some (.ref 0), some (.int p0), some (.int p1), some (.int p2), none]) (st' := [.int (p1 &&& 3)]) [(.iload_n 2, 0), (.iconst 3, 3), (.iand, 0)] (by decide +kernel) rfl rfl ?_
  refine es_eq (tgt := 24) (off := (5)) (by decide +kernel) (by decide) (fun h7 => ?_) (fun h7 => ?_)
  · refine es_blk (pc' := 25) (L' := [some (.ref 0), some (.int p0), some (.int p1), some (.int p2), none]) (st' := [.ref 0]) [(.aload_n 0, 0)] (by decide +kernel) rfl rfl ?_
    refine ef_getP (k := 0) (j := 0) (q := 1) rfl eL_11_12 rfl rfl rfl (by decide +kernel) ?_
    refine ef_getP (k := 1) (j := 2) (q := 26) rfl eL_11_88 rfl rfl rfl (by decide +kernel) ?_
    refine es_blk (pc' := 32) (L' := [some (.ref 0), some (.int p0), some (.int p1), some (.int p2), none]) (st' := [.int p0, .ref 26]) [(.iload_n 1, 0)] (by decide +kernel) rfl rfl ?_
    refine ef_harts (by decide +kernel) (fun h8 => ?_)
    refine es_blk (pc' := 38) (L' := [some (.ref 0), some (.int p0), some (.int p1), some (.int p2), some (.ref (eh_hp p0))]) (st' := [.int p1, .ref (eh_hp p0)]) [(.astore 4, 0), (.aload 4, 0), (.iload_n 2, 0)] (by decide +kernel) rfl rfl ?_
    refine ef_putI (k := (eh_hp p0)) (j := 2) (eh_H0sh h8) eL_11_112 rfl rfl (by decide +kernel) ?_
    refine ef_V (fun _ => [some (.ref 0), some (.int p0), some (.int p1), some (.int p2), some (.ref (eh_hp p0))]) (fun _ => []) (fun s9 => eh_FW s9) (fun s9 => ?_)
    refine es_blk (pc' := 44) (L' := [some (.ref 0), some (.int p0), some (.int p1), some (.int p2), some (.ref (eh_hp p0))]) (st' := [.int p2, .ref (eh_hp p0)]) [(.aload 4, 0), (.iload_n 3, 0)] (by decide +kernel) rfl rfl ?_
    refine ef_putI (k := (eh_hp p0)) (j := 3) (eh_H0sh h8) eL_11_113 rfl rfl (by decide +kernel) ?_
    refine ef_V (fun _ => [some (.ref 0), some (.int p0), some (.int p1), some (.int p2), some (.ref (eh_hp p0))]) (fun _ => []) (fun s10 => eh_FW s10) (fun s10 => ?_)
    refine es_blk (pc' := 50) (L' := [some (.ref 0), some (.int p0), some (.int p1), some (.int p2), some (.ref (eh_hp p0))]) (st' := [.int 0, .ref (eh_hp p0)]) [(.aload 4, 0), (.iconst 0, 0)] (by decide +kernel) rfl rfl ?_
    refine ef_putZc (k := (eh_hp p0)) (j := 4) (eh_H0sh h8) eL_11_116 rfl rfl (by decide) (by decide +kernel) ?_
    refine ef_V (fun _ => [some (.ref 0), some (.int p0), some (.int p1), some (.int p2), some (.ref (eh_hp p0))]) (fun _ => []) (fun s11 => eh_FW s11) (fun s11 => ?_)
    refine es_blk (pc' := 54) (L' := [some (.ref 0), some (.int p0), some (.int p1), some (.int p2), some (.ref (eh_hp p0))]) (st' := [.int 0]) [(.iconst 0, 0)] (by decide +kernel) rfl rfl ?_
    exact es_ret rfl rfl rfl ⟨by decide +kernel, _, rfl, rfl⟩ (Nat.le_refl _) (Nat.le_refl _)
  refine ef_drop (L2 := [none, none, none, none, none]) [false, false, false, false, true] rfl rfl ?_
  exact Hj2 ()
def eF_11_setControl (s : eh_F) (p0 : Int32) (p1 : Int32) (p2 : Int32) : Option (Int32 × eh_F) := Option.bind (eF_11_isHart s p0) (fun q1 => eh_J (fun (u3 : Unit) => some ((-1), s)) (fun j2 => if q1 = 0 then (j2 ()) else (Option.bind (eF_4_maySystemUse s p1 1) (fun q5 => if q5 = 0 then (j2 ()) else (if eh_in p0 2 then Option.bind (eF_4_writeControl s (eh_hp p0) p1 p2) (fun q8 => some (0, q8)) else none)))))
set_option maxHeartbeats 4000000 in
set_option maxRecDepth 100000 in
theorem eS_11_setControl (g : eh_P) (s : eh_F) (p0 : Int32) (p1 : Int32) (p2 : Int32) : eh_Sim g eM_11_setControl (eh_R 2 0 0) eh_eI 0 0 0 (eh_en 4 [.ref 0, .int p0, .int p1, .int p2]) [] (eh_FW s) (eF_11_setControl s p0 p1 p2) := by
  unfold eF_11_setControl
  refine ef_top (L := [some (.ref 0), some (.int p0), some (.int p1), some (.int p2)]) rfl ?_
  refine es_blk (pc' := 1) (L' := [some (.ref 0), some (.int p0), some (.int p1), some (.int p2)]) (st' := [.int p0]) [(.iload_n 1, 0)] (by decide +kernel) rfl rfl ?_
  refine ef_spI (d := 1) (As := [.int p0]) (st := []) eV_11_isHart eK_11_85 (eS_11_isHart g s p0) rfl (Nat.le_of_ble_eq_true rfl) rfl (Nat.le_of_ble_eq_true rfl) ⟨Nat.le_of_ble_eq_true rfl, Nat.le_of_ble_eq_true rfl⟩ ⟨Nat.le_refl _, Nat.le_refl _⟩ (by decide +kernel) (fun q1 _ => ?_)
  refine ef_J (X := fun j2 => ∀ (u3 : Unit), eh_Sim g eM_11_setControl (eh_R 2 0 0) eh_eI 0 0 15 [none, none, none, none] [] (eh_FW s) ((j2 u3).bind some)) ?_ (fun j2 Hj2 => ?_)
  · intro u3
    refine es_blk (pc' := 16) (L' := [none, none, none, none]) (st' := [.int (-1)]) [(.iconst (-1), (-1))] (by decide +kernel) rfl rfl ?_
    exact es_ret rfl rfl rfl ⟨by decide +kernel, _, rfl, rfl⟩ (Nat.le_refl _) (Nat.le_refl _)
  refine es_eq (tgt := 15) (off := (11)) (by decide +kernel) (by decide) (fun h4 => ?_) (fun h4 => ?_)
  · refine ef_drop (L2 := [none, none, none, none]) [false, false, false, false] rfl rfl ?_
    exact Hj2 ()
  refine es_blk (pc' := 9) (L' := [some (.ref 0), some (.int p0), some (.int p1), some (.int p2)]) (st' := [.int 1, .int p1]) [(.iload_n 2, 0), (.iconst 1, 1)] (by decide +kernel) rfl rfl ?_
  refine ef_spI (d := 1) (As := [.int p1, .int 1]) (st := []) eV_4_maySystemUse eK_11_120 (eS_4_maySystemUse g s p1 1) rfl (Nat.le_of_ble_eq_true rfl) rfl (Nat.le_of_ble_eq_true rfl) ⟨Nat.le_of_ble_eq_true rfl, Nat.le_of_ble_eq_true rfl⟩ ⟨Nat.le_refl _, Nat.le_refl _⟩ (by decide +kernel) (fun q5 _ => ?_)
  refine es_ne (tgt := 17) (off := (5)) (by decide +kernel) (by decide) (fun h6 => ?_) (fun h6 => ?_)
  · refine ef_drop (L2 := [none, none, none, none]) [false, false, false, false] rfl rfl ?_
    exact Hj2 ()
  refine es_blk (pc' := 18) (L' := [some (.ref 0), some (.int p0), some (.int p1), some (.int p2)]) (st' := [.ref 0]) [(.aload_n 0, 0)] (by decide +kernel) rfl rfl ?_
  refine ef_getP (k := 0) (j := 0) (q := 1) rfl eL_11_12 rfl rfl rfl (by decide +kernel) ?_
  refine ef_getP (k := 1) (j := 2) (q := 26) rfl eL_11_88 rfl rfl rfl (by decide +kernel) ?_
  refine es_blk (pc' := 25) (L' := [some (.ref 0), some (.int p0), some (.int p1), some (.int p2)]) (st' := [.int p0, .ref 26]) [(.iload_n 1, 0)] (by decide +kernel) rfl rfl ?_
  refine ef_harts (by decide +kernel) (fun h7 => ?_)
  refine es_blk (pc' := 28) (L' := [some (.ref 0), some (.int p0), some (.int p1), some (.int p2)]) (st' := [.int p2, .int p1, .ref (eh_hp p0)]) [(.iload_n 2, 0), (.iload_n 3, 0)] (by decide +kernel) rfl rfl ?_
  refine ef_veV (d := 1) (k := (eh_hp p0)) (As := [.int p1, .int p2]) (st := []) eV_4_writeControl eK_11_124 (eS_4_writeControl g s (eh_hp p0) p1 p2 h7) (eh_H0sh h7) rfl (Nat.le_of_ble_eq_true rfl) rfl (Nat.le_of_ble_eq_true rfl) ⟨Nat.le_of_ble_eq_true rfl, Nat.le_of_ble_eq_true rfl⟩ ⟨Nat.le_refl _, Nat.le_refl _⟩ (by decide +kernel) (fun q8 _ => ?_)
  refine es_blk (pc' := 32) (L' := [some (.ref 0), some (.int p0), some (.int p1), some (.int p2)]) (st' := [.int 0]) [(.iconst 0, 0)] (by decide +kernel) rfl rfl ?_
  exact es_ret rfl rfl rfl ⟨by decide +kernel, _, rfl, rfl⟩ (Nat.le_refl _) (Nat.le_refl _)
def eF_11_type (s : eh_F) (p0 : Int32) : Option (Int32 × eh_F) := eh_J (fun (u2 : Unit) => some ((-1), s)) (fun j1 => if p0 < 0 then (j1 ()) else (if 255 < p0 then (j1 ()) else (eh_J (fun (a6 : Int32) => eh_J (fun (a8 : Nat) => Option.bind (eF_8_add s a8 p0) (fun q10 => if q10.1 = 0 then (some ((-1), q10.2)) else (eh_J (fun (a13 : Int32) => some (a13, q10.2)) (fun j12 => if a6 = 0 then (j12 0) else (j12 1))))) (fun j7 => if a6 = 0 then (j7 20) else (j7 22))) (fun j5 => if (s.1 12 14) = (-1) then (j5 0) else (j5 1)))))
set_option maxHeartbeats 4000000 in
set_option maxRecDepth 100000 in
theorem eS_11_type (g : eh_P) (s : eh_F) (p0 : Int32) : eh_Sim g eM_11_type (eh_R 2 0 0) eh_eI 0 0 0 (eh_en 4 [.ref 0, .int p0]) [] (eh_FW s) (eF_11_type s p0) := by
  unfold eF_11_type
  refine ef_top (L := [some (.ref 0), some (.int p0), none, none]) rfl ?_
  refine es_blk (pc' := 1) (L' := [some (.ref 0), some (.int p0), none, none]) (st' := [.int p0]) [(.iload_n 1, 0)] (by decide +kernel) rfl rfl ?_
  refine ef_J (X := fun j1 => ∀ (u2 : Unit), eh_Sim g eM_11_type (eh_R 2 0 0) eh_eI 0 0 11 [none, none, none, none] [] (eh_FW s) ((j1 u2).bind some)) ?_ (fun j1 Hj1 => ?_)
  · intro u2
    refine es_blk (pc' := 12) (L' := [none, none, none, none]) (st' := [.int (-1)]) [(.iconst (-1), (-1))] (by decide +kernel) rfl rfl ?_
    exact es_ret rfl rfl rfl ⟨by decide +kernel, _, rfl, rfl⟩ (Nat.le_refl _) (Nat.le_refl _)
  refine es_lt (tgt := 11) (off := (10)) (by decide +kernel) (by decide) (fun h3 => ?_) (fun h3 => ?_)
  · refine ef_drop (L2 := [none, none, none, none]) [false, false, true, true] rfl rfl ?_
    exact Hj1 ()
  refine es_blk (pc' := 8) (L' := [some (.ref 0), some (.int p0), none, none]) (st' := [.int 255, .int p0]) [(.iload_n 1, 0), (.sipush 255, 255)] (by decide +kernel) rfl rfl ?_
  refine es_ile (tgt := 13) (off := (5)) (by decide +kernel) (by decide) (fun h4 => ?_) (fun h4 => ?_)
  · refine ef_drop (L2 := [none, none, none, none]) [false, false, true, true] rfl rfl ?_
    exact Hj1 ()
  refine es_blk (pc' := 14) (L' := [some (.ref 0), some (.int p0), none, none]) (st' := [.ref 0]) [(.aload_n 0, 0)] (by decide +kernel) rfl rfl ?_
  refine ef_getP (k := 0) (j := 0) (q := 1) rfl eL_11_12 rfl rfl rfl (by decide +kernel) ?_
  refine ef_getP (k := 1) (j := 1) (q := 12) rfl eL_11_128 rfl rfl rfl (by decide +kernel) ?_
  refine ef_getI (k := 12) (j := 14) rfl eL_11_155 (by decide) (by decide +kernel) ?_
  refine es_blk (pc' := 24) (L' := [some (.ref 0), some (.int p0), none, none]) (st' := [.int (-1), .int (s.1 12 14)]) [(.iconst (-1), (-1))] (by decide +kernel) rfl rfl ?_
  refine ef_J (X := fun j5 => ∀ (a6 : Int32), eh_Sim g eM_11_type (eh_R 2 0 0) eh_eI 0 0 32 [some (.ref 0), some (.int p0), none, none] [.int a6] (eh_FW s) ((j5 a6).bind some)) ?_ (fun j5 Hj5 => ?_)
  · intro a6
    refine es_blk (pc' := 34) (L' := [some (.ref 0), some (.int p0), some (.int a6), none]) (st' := [.int a6]) [(.istore_n 2, 0), (.iload_n 2, 0)] (by decide +kernel) rfl rfl ?_
    refine ef_J (X := fun j7 => ∀ (a8 : Nat), eh_okR a8 = true → eh_Sim g eM_11_type (eh_R 2 0 0) eh_eI 0 0 60 [none, some (.int p0), some (.int a6), none] [.ref a8] (eh_FW s) ((j7 a8).bind some)) ?_ (fun j7 Hj7 => ?_)
    · intro a8 h9
      refine es_blk (pc' := 63) (L' := [none, some (.int p0), some (.int a6), some (.ref a8)]) (st' := [.int p0, .ref a8]) [(.astore_n 3, 0), (.aload_n 3, 0), (.iload_n 1, 0)] (by decide +kernel) rfl rfl ?_
      refine ef_veI (d := 1) (k := a8) (As := [.int p0]) (st := []) eV_8_add eK_11_165 (eS_8_add g s a8 p0 h9) (eh_R0sh h9) rfl (Nat.le_of_ble_eq_true rfl) rfl (Nat.le_of_ble_eq_true rfl) ⟨Nat.le_of_ble_eq_true rfl, Nat.le_of_ble_eq_true rfl⟩ ⟨Nat.le_refl _, Nat.le_refl _⟩ (by decide +kernel) (fun q10 _ => ?_)
      refine es_ne (tgt := 71) (off := (5)) (by decide +kernel) (by decide) (fun h11 => ?_) (fun h11 => ?_)
      · refine es_blk (pc' := 70) (L' := [none, some (.int p0), some (.int a6), some (.ref a8)]) (st' := [.int (-1)]) [(.iconst (-1), (-1))] (by decide +kernel) rfl rfl ?_
        exact es_ret rfl rfl rfl ⟨by decide +kernel, _, rfl, rfl⟩ (Nat.le_refl _) (Nat.le_refl _)
      refine es_blk (pc' := 72) (L' := [none, some (.int p0), some (.int a6), some (.ref a8)]) (st' := [.int a6]) [(.iload_n 2, 0)] (by decide +kernel) rfl rfl ?_
      refine ef_J (X := fun j12 => ∀ (a13 : Int32), eh_Sim g eM_11_type (eh_R 2 0 0) eh_eI 0 0 80 [none, none, none, none] [.int a13] (eh_FW q10.2) ((j12 a13).bind some)) ?_ (fun j12 Hj12 => ?_)
      · intro a13
        exact es_ret rfl rfl rfl ⟨by decide +kernel, _, rfl, rfl⟩ (Nat.le_refl _) (Nat.le_refl _)
      refine es_eq (tgt := 79) (off := (7)) (by decide +kernel) (by decide) (fun h14 => ?_) (fun h14 => ?_)
      · refine es_blk (pc' := 80) (L' := [none, some (.int p0), some (.int a6), some (.ref a8)]) (st' := [.int 0]) [(.iconst 0, 0)] (by decide +kernel) rfl rfl ?_
        refine ef_drop (L2 := [none, none, none, none]) [true, false, false, false] rfl rfl ?_
        exact Hj12 _
      refine es_blk (pc' := 76) (L' := [none, some (.int p0), some (.int a6), some (.ref a8)]) (st' := [.int 1]) [(.iconst 1, 1)] (by decide +kernel) rfl rfl ?_
      refine es_goto (tgt := 80) (off := (4)) (by decide +kernel) (by decide) ?_
      refine ef_drop (L2 := [none, none, none, none]) [true, false, false, false] rfl rfl ?_
      exact Hj12 _
    refine es_eq (tgt := 50) (off := (16)) (by decide +kernel) (by decide) (fun h15 => ?_) (fun h15 => ?_)
    · refine es_blk (pc' := 51) (L' := [some (.ref 0), some (.int p0), some (.int a6), none]) (st' := [.ref 0]) [(.aload_n 0, 0)] (by decide +kernel) rfl rfl ?_
      refine ef_getP (k := 0) (j := 0) (q := 1) rfl eL_11_12 rfl rfl rfl (by decide +kernel) ?_
      refine ef_getP (k := 1) (j := 1) (q := 12) rfl eL_11_128 rfl rfl rfl (by decide +kernel) ?_
      refine ef_getP (k := 12) (j := 11) (q := 20) rfl eL_11_162 rfl rfl rfl (by decide +kernel) ?_
      refine ef_drop (L2 := [none, some (.int p0), some (.int a6), none]) [false, true, true, true] rfl rfl ?_
      exact Hj7 _ rfl
    refine es_blk (pc' := 38) (L' := [some (.ref 0), some (.int p0), some (.int a6), none]) (st' := [.ref 0]) [(.aload_n 0, 0)] (by decide +kernel) rfl rfl ?_
    refine ef_getP (k := 0) (j := 0) (q := 1) rfl eL_11_12 rfl rfl rfl (by decide +kernel) ?_
    refine ef_getP (k := 1) (j := 1) (q := 12) rfl eL_11_128 rfl rfl rfl (by decide +kernel) ?_
    refine ef_getP (k := 12) (j := 12) (q := 22) rfl eL_11_158 rfl rfl rfl (by decide +kernel) ?_
    refine es_goto (tgt := 60) (off := (13)) (by decide +kernel) (by decide) ?_
    refine ef_drop (L2 := [none, some (.int p0), some (.int a6), none]) [false, true, true, true] rfl rfl ?_
    exact Hj7 _ rfl
  refine es_ieq (tgt := 31) (off := (7)) (by decide +kernel) (by decide) (fun h16 => ?_) (fun h16 => ?_)
  · refine es_blk (pc' := 32) (L' := [some (.ref 0), some (.int p0), none, none]) (st' := [.int 0]) [(.iconst 0, 0)] (by decide +kernel) rfl rfl ?_
    exact Hj5 _
  refine es_blk (pc' := 28) (L' := [some (.ref 0), some (.int p0), none, none]) (st' := [.int 1]) [(.iconst 1, 1)] (by decide +kernel) rfl rfl ?_
  refine es_goto (tgt := 32) (off := (4)) (by decide +kernel) (by decide) ?_
  exact Hj5 _
def eF_11_panel (s : eh_F) (p0 : Int32) : Option (Int32) := Option.bind (eF_8_at s 24 p0) (fun q1 => some q1)
set_option maxHeartbeats 4000000 in
set_option maxRecDepth 100000 in
theorem eS_11_panel (g : eh_P) (s : eh_F) (p0 : Int32) : eh_Sim g eM_11_panel (eh_R 2 0 0) (eh_pI s) 0 0 0 (eh_en 2 [.ref 0, .int p0]) [] (eh_FW s) (eF_11_panel s p0) := by
  unfold eF_11_panel
  refine ef_top (L := [some (.ref 0), some (.int p0)]) rfl ?_
  refine es_blk (pc' := 1) (L' := [some (.ref 0), some (.int p0)]) (st' := [.ref 0]) [(.aload_n 0, 0)] (by decide +kernel) rfl rfl ?_
  refine ef_getP (k := 0) (j := 0) (q := 1) rfl eL_11_12 rfl rfl rfl (by decide +kernel) ?_
  refine ef_getP (k := 1) (j := 1) (q := 12) rfl eL_11_128 rfl rfl rfl (by decide +kernel) ?_
  refine ef_getP (k := 12) (j := 13) (q := 24) rfl eL_11_170 rfl rfl rfl (by decide +kernel) ?_
  refine es_blk (pc' := 11) (L' := [some (.ref 0), some (.int p0)]) (st' := [.int p0, .ref 24]) [(.iload_n 1, 0)] (by decide +kernel) rfl rfl ?_
  refine ef_vpI (d := 1) (k := 24) (As := [.int p0]) (st := []) eV_8_at eK_11_173 (eS_8_at g s 24 p0 rfl) rfl rfl (Nat.le_of_ble_eq_true rfl) rfl (Nat.le_of_ble_eq_true rfl) ⟨Nat.le_of_ble_eq_true rfl, Nat.le_of_ble_eq_true rfl⟩ ⟨Nat.le_refl _, Nat.le_refl _⟩ (by decide +kernel) (fun q1 _ => ?_)
  exact es_ret rfl rfl rfl ⟨by decide +kernel, _, rfl, rfl⟩ (Nat.le_refl _) (Nat.le_refl _)
def eF_11_enclave (s : eh_F) (p0 : Int32) (p1 : Int32) : Option (Int32) := eh_J (fun (u2 : Unit) => some (-1)) (fun j1 => if p0 < 0 then (j1 ()) else (if p0 < 6 then (if eh_in p0 6 then if p1 = 0 then (some (s.1 (eh_ep p0) 5)) else (if p1 = 5 then (some (s.1 (eh_ep p0) 8)) else (if (s.1 (eh_ep p0) 5) = 0 then (some (-1)) else (eh_J (fun (u10 : Unit) => some (-1)) (fun j9 => if p1 = 1 then (Option.bind (eF_5_baseOf s p0) (fun q13 => some q13)) else if p1 = 2 then (Option.bind (eF_5_sizeOf s p0) (fun q15 => some q15)) else if p1 = 3 then (some (s.1 (eh_ep p0) 7)) else if p1 = 4 then (some (s.1 (eh_ep p0) 10)) else if p1 = 6 then (eh_J (fun (a20 : Int32) => some a20) (fun j19 => if (s.1 (eh_ep p0) 11) = 0 then (j19 0) else (j19 1))) else if p1 = 7 then (some (s.1 (eh_ep p0) 9)) else (j9 ()))))) else none) else (j1 ())))
set_option maxHeartbeats 4000000 in
set_option maxRecDepth 100000 in
theorem eS_11_enclave (g : eh_P) (s : eh_F) (p0 : Int32) (p1 : Int32) : eh_Sim g eM_11_enclave (eh_R 2 0 0) (eh_pI s) 0 0 0 (eh_en 4 [.ref 0, .int p0, .int p1]) [] (eh_FW s) (eF_11_enclave s p0 p1) := by
  unfold eF_11_enclave
  refine ef_top (L := [some (.ref 0), some (.int p0), some (.int p1), none]) rfl ?_
  refine es_blk (pc' := 1) (L' := [some (.ref 0), some (.int p0), some (.int p1), none]) (st' := [.int p0]) [(.iload_n 1, 0)] (by decide +kernel) rfl rfl ?_
  refine ef_J (X := fun j1 => ∀ (u2 : Unit), eh_Sim g eM_11_enclave (eh_R 2 0 0) (eh_pI s) 0 0 10 [none, none, none, none] [] (eh_FW s) ((j1 u2).bind some)) ?_ (fun j1 Hj1 => ?_)
  · intro u2
    refine es_blk (pc' := 11) (L' := [none, none, none, none]) (st' := [.int (-1)]) [(.iconst (-1), (-1))] (by decide +kernel) rfl rfl ?_
    exact es_ret rfl rfl rfl ⟨by decide +kernel, _, rfl, rfl⟩ (Nat.le_refl _) (Nat.le_refl _)
  refine es_lt (tgt := 10) (off := (9)) (by decide +kernel) (by decide) (fun h3 => ?_) (fun h3 => ?_)
  · refine ef_drop (L2 := [none, none, none, none]) [false, false, false, true] rfl rfl ?_
    exact Hj1 ()
  refine es_blk (pc' := 7) (L' := [some (.ref 0), some (.int p0), some (.int p1), none]) (st' := [.int 6, .int p0]) [(.iload_n 1, 0), (.bipush 6, 6)] (by decide +kernel) rfl rfl ?_
  refine es_ilt (tgt := 12) (off := (5)) (by decide +kernel) (by decide) (fun h4 => ?_) (fun h4 => ?_)
  · refine es_blk (pc' := 13) (L' := [some (.ref 0), some (.int p0), some (.int p1), none]) (st' := [.ref 0]) [(.aload_n 0, 0)] (by decide +kernel) rfl rfl ?_
    refine ef_getP (k := 0) (j := 0) (q := 1) rfl eL_11_12 rfl rfl rfl (by decide +kernel) ?_
    refine ef_getP (k := 1) (j := 4) (q := 28) rfl eL_11_179 rfl rfl rfl (by decide +kernel) ?_
    refine es_blk (pc' := 20) (L' := [some (.ref 0), some (.int p0), some (.int p1), none]) (st' := [.int p0, .ref 28]) [(.iload_n 1, 0)] (by decide +kernel) rfl rfl ?_
    refine ef_encs (by decide +kernel) (fun h5 => ?_)
    refine es_blk (pc' := 23) (L' := [some (.ref 0), some (.int p0), some (.int p1), some (.ref (eh_ep p0))]) (st' := [.int p1]) [(.astore_n 3, 0), (.iload_n 2, 0)] (by decide +kernel) rfl rfl ?_
    refine es_ne (tgt := 31) (off := (8)) (by decide +kernel) (by decide) (fun h6 => ?_) (fun h6 => ?_)
    · refine es_blk (pc' := 27) (L' := [some (.ref 0), some (.int p0), some (.int p1), some (.ref (eh_ep p0))]) (st' := [.ref (eh_ep p0)]) [(.aload_n 3, 0)] (by decide +kernel) rfl rfl ?_
      refine ef_getI (k := (eh_ep p0)) (j := 5) (eh_E0sh h5) eL_11_183 (by decide) (by decide +kernel) ?_
      exact es_ret rfl rfl rfl ⟨by decide +kernel, _, rfl, rfl⟩ (Nat.le_refl _) (Nat.le_refl _)
    refine es_blk (pc' := 33) (L' := [some (.ref 0), some (.int p0), some (.int p1), some (.ref (eh_ep p0))]) (st' := [.int 5, .int p1]) [(.iload_n 2, 0), (.iconst 5, 5)] (by decide +kernel) rfl rfl ?_
    refine es_ine (tgt := 41) (off := (8)) (by decide +kernel) (by decide) (fun h7 => ?_) (fun h7 => ?_)
    · refine es_blk (pc' := 37) (L' := [some (.ref 0), some (.int p0), some (.int p1), some (.ref (eh_ep p0))]) (st' := [.ref (eh_ep p0)]) [(.aload_n 3, 0)] (by decide +kernel) rfl rfl ?_
      refine ef_getI (k := (eh_ep p0)) (j := 8) (eh_E0sh h5) eL_11_188 (by decide) (by decide +kernel) ?_
      exact es_ret rfl rfl rfl ⟨by decide +kernel, _, rfl, rfl⟩ (Nat.le_refl _) (Nat.le_refl _)
    refine es_blk (pc' := 42) (L' := [some (.ref 0), some (.int p0), some (.int p1), some (.ref (eh_ep p0))]) (st' := [.ref (eh_ep p0)]) [(.aload_n 3, 0)] (by decide +kernel) rfl rfl ?_
    refine ef_getI (k := (eh_ep p0)) (j := 5) (eh_E0sh h5) eL_11_183 (by decide) (by decide +kernel) ?_
    refine es_ne (tgt := 50) (off := (5)) (by decide +kernel) (by decide) (fun h8 => ?_) (fun h8 => ?_)
    · refine es_blk (pc' := 49) (L' := [some (.ref 0), some (.int p0), some (.int p1), some (.ref (eh_ep p0))]) (st' := [.int (-1)]) [(.iconst (-1), (-1))] (by decide +kernel) rfl rfl ?_
      exact es_ret rfl rfl rfl ⟨by decide +kernel, _, rfl, rfl⟩ (Nat.le_refl _) (Nat.le_refl _)
    refine es_blk (pc' := 51) (L' := [some (.ref 0), some (.int p0), some (.int p1), some (.ref (eh_ep p0))]) (st' := [.int p1]) [(.iload_n 2, 0)] (by decide +kernel) rfl rfl ?_
    refine ef_J (X := fun j9 => ∀ (u10 : Unit), eh_Sim g eM_11_enclave (eh_R 2 0 0) (eh_pI s) 0 0 138 [none, none, none, none] [] (eh_FW s) ((j9 u10).bind some)) ?_ (fun j9 Hj9 => ?_)
    · intro u10
      refine es_blk (pc' := 139) (L' := [none, none, none, none]) (st' := [.int (-1)]) [(.iconst (-1), (-1))] (by decide +kernel) rfl rfl ?_
      exact es_ret rfl rfl rfl ⟨by decide +kernel, _, rfl, rfl⟩ (Nat.le_refl _) (Nat.le_refl _)
    have hs11 : decode eM_11_enclave.2.1 51 = .ok (.tableswitch (87) (1) (7) #[(41), (50), (59), (64), (87), (69), (82)], 41) := by decide +kernel
    refine es_ifc (fun h12 => ?_) (fun h12 => ?_)
    · refine es_tsw (off := (41)) (tgt := 92) hs11 1 h12 (by decide) ?_
      refine es_blk (pc' := 93) (L' := [some (.ref 0), some (.int p0), some (.int p1), some (.ref (eh_ep p0))]) (st' := [.ref 0]) [(.aload_n 0, 0)] (by decide +kernel) rfl rfl ?_
      refine ef_getP (k := 0) (j := 0) (q := 1) rfl eL_11_12 rfl rfl rfl (by decide +kernel) ?_
      refine es_blk (pc' := 97) (L' := [some (.ref 0), some (.int p0), some (.int p1), some (.ref (eh_ep p0))]) (st' := [.int p0, .ref 1]) [(.iload_n 1, 0)] (by decide +kernel) rfl rfl ?_
      refine ef_vpI (d := 1) (k := 1) (As := [.int p0]) (st := []) eV_5_baseOf eK_11_72 (eS_5_baseOf g s p0) rfl rfl (Nat.le_of_ble_eq_true rfl) rfl (Nat.le_of_ble_eq_true rfl) ⟨Nat.le_of_ble_eq_true rfl, Nat.le_of_ble_eq_true rfl⟩ ⟨Nat.le_refl _, Nat.le_refl _⟩ (by decide +kernel) (fun q13 _ => ?_)
      exact es_ret rfl rfl rfl ⟨by decide +kernel, _, rfl, rfl⟩ (Nat.le_refl _) (Nat.le_refl _)
    refine es_ifc (fun h14 => ?_) (fun h14 => ?_)
    · refine es_tsw (off := (50)) (tgt := 101) hs11 2 h14 (by decide) ?_
      refine es_blk (pc' := 102) (L' := [some (.ref 0), some (.int p0), some (.int p1), some (.ref (eh_ep p0))]) (st' := [.ref 0]) [(.aload_n 0, 0)] (by decide +kernel) rfl rfl ?_
      refine ef_getP (k := 0) (j := 0) (q := 1) rfl eL_11_12 rfl rfl rfl (by decide +kernel) ?_
      refine es_blk (pc' := 106) (L' := [some (.ref 0), some (.int p0), some (.int p1), some (.ref (eh_ep p0))]) (st' := [.int p0, .ref 1]) [(.iload_n 1, 0)] (by decide +kernel) rfl rfl ?_
      refine ef_vpI (d := 1) (k := 1) (As := [.int p0]) (st := []) eV_5_sizeOf eK_11_69 (eS_5_sizeOf g s p0) rfl rfl (Nat.le_of_ble_eq_true rfl) rfl (Nat.le_of_ble_eq_true rfl) ⟨Nat.le_of_ble_eq_true rfl, Nat.le_of_ble_eq_true rfl⟩ ⟨Nat.le_refl _, Nat.le_refl _⟩ (by decide +kernel) (fun q15 _ => ?_)
      exact es_ret rfl rfl rfl ⟨by decide +kernel, _, rfl, rfl⟩ (Nat.le_refl _) (Nat.le_refl _)
    refine es_ifc (fun h16 => ?_) (fun h16 => ?_)
    · refine es_tsw (off := (59)) (tgt := 110) hs11 3 h16 (by decide) ?_
      refine es_blk (pc' := 111) (L' := [some (.ref 0), some (.int p0), some (.int p1), some (.ref (eh_ep p0))]) (st' := [.ref (eh_ep p0)]) [(.aload_n 3, 0)] (by decide +kernel) rfl rfl ?_
      refine ef_getI (k := (eh_ep p0)) (j := 7) (eh_E0sh h5) eL_11_191 (by decide) (by decide +kernel) ?_
      exact es_ret rfl rfl rfl ⟨by decide +kernel, _, rfl, rfl⟩ (Nat.le_refl _) (Nat.le_refl _)
    refine es_ifc (fun h17 => ?_) (fun h17 => ?_)
    · refine es_tsw (off := (64)) (tgt := 115) hs11 4 h17 (by decide) ?_
      refine es_blk (pc' := 116) (L' := [some (.ref 0), some (.int p0), some (.int p1), some (.ref (eh_ep p0))]) (st' := [.ref (eh_ep p0)]) [(.aload_n 3, 0)] (by decide +kernel) rfl rfl ?_
      refine ef_getI (k := (eh_ep p0)) (j := 10) (eh_E0sh h5) eL_11_194 (by decide) (by decide +kernel) ?_
      exact es_ret rfl rfl rfl ⟨by decide +kernel, _, rfl, rfl⟩ (Nat.le_refl _) (Nat.le_refl _)
    refine es_ifc (fun h18 => ?_) (fun h18 => ?_)
    · refine es_tsw (off := (69)) (tgt := 120) hs11 6 h18 (by decide) ?_
      refine es_blk (pc' := 121) (L' := [some (.ref 0), some (.int p0), some (.int p1), some (.ref (eh_ep p0))]) (st' := [.ref (eh_ep p0)]) [(.aload_n 3, 0)] (by decide +kernel) rfl rfl ?_
      refine ef_getI (k := (eh_ep p0)) (j := 11) (eh_E0sh h5) eL_11_196 (by decide) (by decide +kernel) ?_
      refine ef_J (X := fun j19 => ∀ (a20 : Int32), eh_Sim g eM_11_enclave (eh_R 2 0 0) (eh_pI s) 0 0 132 [none, none, none, none] [.int a20] (eh_FW s) ((j19 a20).bind some)) ?_ (fun j19 Hj19 => ?_)
      · intro a20
        exact es_ret rfl rfl rfl ⟨by decide +kernel, _, rfl, rfl⟩ (Nat.le_refl _) (Nat.le_refl _)
      refine es_eq (tgt := 131) (off := (7)) (by decide +kernel) (by decide) (fun h21 => ?_) (fun h21 => ?_)
      · refine es_blk (pc' := 132) (L' := [some (.ref 0), some (.int p0), some (.int p1), some (.ref (eh_ep p0))]) (st' := [.int 0]) [(.iconst 0, 0)] (by decide +kernel) rfl rfl ?_
        refine ef_drop (L2 := [none, none, none, none]) [false, false, false, false] rfl rfl ?_
        exact Hj19 _
      refine es_blk (pc' := 128) (L' := [some (.ref 0), some (.int p0), some (.int p1), some (.ref (eh_ep p0))]) (st' := [.int 1]) [(.iconst 1, 1)] (by decide +kernel) rfl rfl ?_
      refine es_goto (tgt := 132) (off := (4)) (by decide +kernel) (by decide) ?_
      refine ef_drop (L2 := [none, none, none, none]) [false, false, false, false] rfl rfl ?_
      exact Hj19 _
    refine es_ifc (fun h22 => ?_) (fun h22 => ?_)
    · refine es_tsw (off := (82)) (tgt := 133) hs11 7 h22 (by decide) ?_
      refine es_blk (pc' := 134) (L' := [some (.ref 0), some (.int p0), some (.int p1), some (.ref (eh_ep p0))]) (st' := [.ref (eh_ep p0)]) [(.aload_n 3, 0)] (by decide +kernel) rfl rfl ?_
      refine ef_getI (k := (eh_ep p0)) (j := 9) (eh_E0sh h5) eL_11_199 (by decide) (by decide +kernel) ?_
      exact es_ret rfl rfl rfl ⟨by decide +kernel, _, rfl, rfl⟩ (Nat.le_refl _) (Nat.le_refl _)
    refine es_tswD (tgt := 138) hs11 [1, 2, 3, 4, 6, 7] (List.forall_mem_cons.mpr ⟨eh_nei 1 1 (by decide) h12, (List.forall_mem_cons.mpr ⟨eh_nei 2 2 (by decide) h14, (List.forall_mem_cons.mpr ⟨eh_nei 3 3 (by decide) h16, (List.forall_mem_cons.mpr ⟨eh_nei 4 4 (by decide) h17, (List.forall_mem_cons.mpr ⟨eh_nei 6 6 (by decide) h18, (List.forall_mem_cons.mpr ⟨eh_nei 7 7 (by decide) h22, (List.forall_mem_nil _)⟩)⟩)⟩)⟩)⟩)⟩) (by decide) (by decide) (by decide) ?_
    refine ef_drop (L2 := [none, none, none, none]) [false, false, false, false] rfl rfl ?_
    exact Hj9 ()
  refine ef_drop (L2 := [none, none, none, none]) [false, false, false, true] rfl rfl ?_
  exact Hj1 ()
def eF_11_event (s : eh_F) (p0 : Int32) (p1 : Int32) : Option (Int32) := Option.bind (eF_5_eventPart s p0 p1) (fun q1 => some q1)
set_option maxHeartbeats 4000000 in
set_option maxRecDepth 100000 in
theorem eS_11_event (g : eh_P) (s : eh_F) (p0 : Int32) (p1 : Int32) : eh_Sim g eM_11_event (eh_R 2 0 0) (eh_pI s) 0 0 0 (eh_en 3 [.ref 0, .int p0, .int p1]) [] (eh_FW s) (eF_11_event s p0 p1) := by
  unfold eF_11_event
  refine ef_top (L := [some (.ref 0), some (.int p0), some (.int p1)]) rfl ?_
  refine es_blk (pc' := 1) (L' := [some (.ref 0), some (.int p0), some (.int p1)]) (st' := [.ref 0]) [(.aload_n 0, 0)] (by decide +kernel) rfl rfl ?_
  refine ef_getP (k := 0) (j := 0) (q := 1) rfl eL_11_12 rfl rfl rfl (by decide +kernel) ?_
  refine es_blk (pc' := 6) (L' := [some (.ref 0), some (.int p0), some (.int p1)]) (st' := [.int p1, .int p0, .ref 1]) [(.iload_n 1, 0), (.iload_n 2, 0)] (by decide +kernel) rfl rfl ?_
  refine ef_vpI (d := 1) (k := 1) (As := [.int p0, .int p1]) (st := []) eV_5_eventPart eK_11_240 (eS_5_eventPart g s p0 p1) rfl rfl (Nat.le_of_ble_eq_true rfl) rfl (Nat.le_of_ble_eq_true rfl) ⟨Nat.le_of_ble_eq_true rfl, Nat.le_of_ble_eq_true rfl⟩ ⟨Nat.le_refl _, Nat.le_refl _⟩ (by decide +kernel) (fun q1 _ => ?_)
  exact es_ret rfl rfl rfl ⟨by decide +kernel, _, rfl, rfl⟩ (Nat.le_refl _) (Nat.le_refl _)
def eF_11_console (s : eh_F) (p0 : Int32) : Option (Int32) := Option.bind (eF_8_at s 18 p0) (fun q1 => some q1)
set_option maxHeartbeats 4000000 in
set_option maxRecDepth 100000 in
theorem eS_11_console (g : eh_P) (s : eh_F) (p0 : Int32) : eh_Sim g eM_11_console (eh_R 2 0 0) (eh_pI s) 0 0 0 (eh_en 2 [.ref 0, .int p0]) [] (eh_FW s) (eF_11_console s p0) := by
  unfold eF_11_console
  refine ef_top (L := [some (.ref 0), some (.int p0)]) rfl ?_
  refine es_blk (pc' := 1) (L' := [some (.ref 0), some (.int p0)]) (st' := [.ref 0]) [(.aload_n 0, 0)] (by decide +kernel) rfl rfl ?_
  refine ef_getP (k := 0) (j := 0) (q := 1) rfl eL_11_12 rfl rfl rfl (by decide +kernel) ?_
  refine ef_getP (k := 1) (j := 1) (q := 12) rfl eL_11_128 rfl rfl rfl (by decide +kernel) ?_
  refine ef_getP (k := 12) (j := 10) (q := 18) rfl eL_11_243 rfl rfl rfl (by decide +kernel) ?_
  refine es_blk (pc' := 11) (L' := [some (.ref 0), some (.int p0)]) (st' := [.int p0, .ref 18]) [(.iload_n 1, 0)] (by decide +kernel) rfl rfl ?_
  refine ef_vpI (d := 1) (k := 18) (As := [.int p0]) (st := []) eV_8_at eK_11_173 (eS_8_at g s 18 p0 rfl) rfl rfl (Nat.le_of_ble_eq_true rfl) rfl (Nat.le_of_ble_eq_true rfl) ⟨Nat.le_of_ble_eq_true rfl, Nat.le_of_ble_eq_true rfl⟩ ⟨Nat.le_refl _, Nat.le_refl _⟩ (by decide +kernel) (fun q1 _ => ?_)
  exact es_ret rfl rfl rfl ⟨by decide +kernel, _, rfl, rfl⟩ (Nat.le_refl _) (Nat.le_refl _)
def eF_11_disk (s : eh_F) (p0 : Int32) (p1 : Int32) (p2 : Int32) : Option (Int32 × eh_F) := eh_J (fun (u2 : Unit) => some ((-1), s)) (fun j1 => if p0 < 0 then (j1 ()) else (if 31 < p0 then (j1 ()) else (if p1 < 0 then (j1 ()) else (if 255 < p1 then (j1 ()) else (if p2 < (-1) then (j1 ()) else (if 255 < p2 then (j1 ()) else (Option.bind (eF_0_swapDiskByte s ((p0 * 256) + p1) p2) (fun q9 => some (q9.1, q9.2)))))))))
set_option maxHeartbeats 4000000 in
set_option maxRecDepth 100000 in
theorem eS_11_disk (g : eh_P) (s : eh_F) (p0 : Int32) (p1 : Int32) (p2 : Int32) : eh_Sim g eM_11_disk (eh_R 2 0 0) eh_eI 0 0 0 (eh_en 4 [.ref 0, .int p0, .int p1, .int p2]) [] (eh_FW s) (eF_11_disk s p0 p1 p2) := by
  unfold eF_11_disk
  refine ef_top (L := [some (.ref 0), some (.int p0), some (.int p1), some (.int p2)]) rfl ?_
  refine es_blk (pc' := 1) (L' := [some (.ref 0), some (.int p0), some (.int p1), some (.int p2)]) (st' := [.int p0]) [(.iload_n 1, 0)] (by decide +kernel) rfl rfl ?_
  refine ef_J (X := fun j1 => ∀ (u2 : Unit), eh_Sim g eM_11_disk (eh_R 2 0 0) eh_eI 0 0 33 [none, none, none, none] [] (eh_FW s) ((j1 u2).bind some)) ?_ (fun j1 Hj1 => ?_)
  · intro u2
    refine es_blk (pc' := 34) (L' := [none, none, none, none]) (st' := [.int (-1)]) [(.iconst (-1), (-1))] (by decide +kernel) rfl rfl ?_
    exact es_ret rfl rfl rfl ⟨by decide +kernel, _, rfl, rfl⟩ (Nat.le_refl _) (Nat.le_refl _)
  refine es_lt (tgt := 33) (off := (32)) (by decide +kernel) (by decide) (fun h3 => ?_) (fun h3 => ?_)
  · refine ef_drop (L2 := [none, none, none, none]) [false, false, false, false] rfl rfl ?_
    exact Hj1 ()
  refine es_blk (pc' := 7) (L' := [some (.ref 0), some (.int p0), some (.int p1), some (.int p2)]) (st' := [.int 31, .int p0]) [(.iload_n 1, 0), (.bipush 31, 31)] (by decide +kernel) rfl rfl ?_
  refine es_igt (tgt := 33) (off := (26)) (by decide +kernel) (by decide) (fun h4 => ?_) (fun h4 => ?_)
  · refine ef_drop (L2 := [none, none, none, none]) [false, false, false, false] rfl rfl ?_
    exact Hj1 ()
  refine es_blk (pc' := 11) (L' := [some (.ref 0), some (.int p0), some (.int p1), some (.int p2)]) (st' := [.int p1]) [(.iload_n 2, 0)] (by decide +kernel) rfl rfl ?_
  refine es_lt (tgt := 33) (off := (22)) (by decide +kernel) (by decide) (fun h5 => ?_) (fun h5 => ?_)
  · refine ef_drop (L2 := [none, none, none, none]) [false, false, false, false] rfl rfl ?_
    exact Hj1 ()
  refine es_blk (pc' := 18) (L' := [some (.ref 0), some (.int p0), some (.int p1), some (.int p2)]) (st' := [.int 255, .int p1]) [(.iload_n 2, 0), (.sipush 255, 255)] (by decide +kernel) rfl rfl ?_
  refine es_igt (tgt := 33) (off := (15)) (by decide +kernel) (by decide) (fun h6 => ?_) (fun h6 => ?_)
  · refine ef_drop (L2 := [none, none, none, none]) [false, false, false, false] rfl rfl ?_
    exact Hj1 ()
  refine es_blk (pc' := 23) (L' := [some (.ref 0), some (.int p0), some (.int p1), some (.int p2)]) (st' := [.int (-1), .int p2]) [(.iload_n 3, 0), (.iconst (-1), (-1))] (by decide +kernel) rfl rfl ?_
  refine es_ilt (tgt := 33) (off := (10)) (by decide +kernel) (by decide) (fun h7 => ?_) (fun h7 => ?_)
  · refine ef_drop (L2 := [none, none, none, none]) [false, false, false, false] rfl rfl ?_
    exact Hj1 ()
  refine es_blk (pc' := 30) (L' := [some (.ref 0), some (.int p0), some (.int p1), some (.int p2)]) (st' := [.int 255, .int p2]) [(.iload_n 3, 0), (.sipush 255, 255)] (by decide +kernel) rfl rfl ?_
  refine es_ile (tgt := 35) (off := (5)) (by decide +kernel) (by decide) (fun h8 => ?_) (fun h8 => ?_)
  · refine ef_drop (L2 := [none, none, none, none]) [false, false, false, false] rfl rfl ?_
    exact Hj1 ()
  refine es_blk (pc' := 36) (L' := [some (.ref 0), some (.int p0), some (.int p1), some (.int p2)]) (st' := [.ref 0]) [(.aload_n 0, 0)] (by decide +kernel) rfl rfl ?_
  refine ef_getP (k := 0) (j := 0) (q := 1) rfl eL_11_12 rfl rfl rfl (by decide +kernel) ?_
  refine ef_getP (k := 1) (j := 1) (q := 12) rfl eL_11_128 rfl rfl rfl (by decide +kernel) ?_
  refine es_blk (pc' := 50) (L' := [some (.ref 0), some (.int p0), some (.int p1), some (.int p2)]) (st' := [.int p2, .int ((p0 * 256) + p1), .ref 12]) [(.iload_n 1, 0), (.sipush 256, 256), (.imul, 0), (.iload_n 2, 0), (.iadd, 0), (.iload_n 3, 0)] (by decide +kernel) rfl rfl ?_
  refine ef_veI (d := 1) (k := 12) (As := [.int ((p0 * 256) + p1), .int p2]) (st := []) eV_0_swapDiskByte eK_11_246 (eS_0_swapDiskByte g s ((p0 * 256) + p1) p2) rfl rfl (Nat.le_of_ble_eq_true rfl) rfl (Nat.le_of_ble_eq_true rfl) ⟨Nat.le_of_ble_eq_true rfl, Nat.le_of_ble_eq_true rfl⟩ ⟨Nat.le_refl _, Nat.le_refl _⟩ (by decide +kernel) (fun q9 _ => ?_)
  exact es_ret rfl rfl rfl ⟨by decide +kernel, _, rfl, rfl⟩ (Nat.le_refl _) (Nat.le_refl _)
