def eF_7_jumpToRegister (s : eh_F) (p0 : Int32) : Option (eh_F) := eh_J (fun (s2 : eh_F) => some s2) (fun j1 => if ((eh_ushr p0 12) &&& 7) = 0 then (Option.bind (eF_7_leftOf s p0) (fun q4 => Option.bind (eF_7_jump s p0 ((q4 + (eh_shr p0 20)) &&& (-2))) (fun q5 => j1 q5))) else (Option.bind (eF_7_fail s 2 p0) (fun q6 => j1 q6)))
set_option maxHeartbeats 4000000 in
set_option maxRecDepth 100000 in
theorem eS_7_jumpToRegister (g : eh_P) (s : eh_F) (p0 : Int32) : eh_Sim g eM_7_jumpToRegister (eh_R 4 0 0) eh_eV 0 0 0 (eh_en 2 [.ref 124, .int p0]) [] (eh_FW s) (eF_7_jumpToRegister s p0) := by
  unfold eF_7_jumpToRegister
  refine ef_top (L := [some (.ref 124), some (.int p0)]) rfl ?_
  refine es_blk (pc' := 7) (L' := [some (.ref 124), some (.int p0)]) (st' := [.int ((eh_ushr p0 12) &&& 7)]) [(.iload_n 1, 0), (.bipush 12, 12), (.iushr, 0), (.bipush 7, 7), (.iand, 0)] (by decide +kernel) rfl rfl ?_
  refine ef_J (X := fun j1 => ∀ (s2 : eh_F), eh_Sim g eM_7_jumpToRegister (eh_R 4 0 0) eh_eV 0 0 37 [none, none] [] (eh_FW s2) ((j1 s2).bind some)) ?_ (fun j1 Hj1 => ?_)
  · intro s2
    exact es_ret rfl rfl rfl ⟨by decide +kernel, rfl⟩ (Nat.le_refl _) (Nat.le_refl _)
  refine es_eq (tgt := 19) (off := (12)) (by decide +kernel) (by decide) (fun h3 => ?_) (fun h3 => ?_)
  · refine es_blk (pc' := 23) (L' := [some (.ref 124), some (.int p0)]) (st' := [.int p0, .ref 124, .int p0, .ref 124]) [(.aload_n 0, 0), (.iload_n 1, 0), (.aload_n 0, 0), (.iload_n 1, 0)] (by decide +kernel) rfl rfl ?_
    refine ef_vpI (d := 1) (k := 124) (As := [.int p0]) (st := [.int p0, .ref 124]) eV_7_leftOf eK_7_208 (eS_7_leftOf g s p0) rfl rfl (Nat.le_of_ble_eq_true rfl) rfl (Nat.le_of_ble_eq_true rfl) ⟨Nat.le_of_ble_eq_true rfl, Nat.le_of_ble_eq_true rfl⟩ ⟨Nat.le_refl _, Nat.le_refl _⟩ (by decide +kernel) (fun q4 _ => ?_)
    refine es_blk (pc' := 34) (L' := [some (.ref 124), some (.int p0)]) (st' := [.int ((q4 + (eh_shr p0 20)) &&& (-2)), .int p0, .ref 124]) [(.iload_n 1, 0), (.bipush 20, 20), (.ishr, 0), (.iadd, 0), (.bipush (-2), (-2)), (.iand, 0)] (by decide +kernel) rfl rfl ?_
    refine ef_veV (d := 3) (k := 124) (As := [.int p0, .int ((q4 + (eh_shr p0 20)) &&& (-2))]) (st := []) eV_7_jump eK_7_171 (eS_7_jump g s p0 ((q4 + (eh_shr p0 20)) &&& (-2))) rfl rfl (Nat.le_of_ble_eq_true rfl) rfl (Nat.le_of_ble_eq_true rfl) ⟨Nat.le_of_ble_eq_true rfl, Nat.le_of_ble_eq_true rfl⟩ ⟨Nat.le_refl _, Nat.le_refl _⟩ (by decide +kernel) (fun q5 _ => ?_)
    refine ef_drop (L2 := [none, none]) [false, false] rfl rfl ?_
    exact Hj1 _
  refine es_blk (pc' := 13) (L' := [some (.ref 124), some (.int p0)]) (st' := [.int p0, .int 2, .ref 124]) [(.aload_n 0, 0), (.iconst 2, 2), (.iload_n 1, 0)] (by decide +kernel) rfl rfl ?_
  refine ef_veV (d := 1) (k := 124) (As := [.int 2, .int p0]) (st := []) eV_7_fail eK_7_201 (eS_7_fail g s 2 p0) rfl rfl (Nat.le_of_ble_eq_true rfl) rfl (Nat.le_of_ble_eq_true rfl) ⟨Nat.le_of_ble_eq_true rfl, Nat.le_of_ble_eq_true rfl⟩ ⟨Nat.le_refl _, Nat.le_refl _⟩ (by decide +kernel) (fun q6 _ => ?_)
  refine es_goto (tgt := 37) (off := (21)) (by decide +kernel) (by decide) ?_
  refine ef_drop (L2 := [none, none]) [false, false] rfl rfl ?_
  exact Hj1 _
def eF_7_keep (s : eh_F) (p0 : Int32) (p1 : Int32) (p2 : Int32) : Option (eh_F) := eh_J (fun (s2 : eh_F) => some s2) (fun j1 => if (s.1 124 6) = 0 then (Option.bind (eF_6_store s p0 p1 p2) (fun q4 => j1 q4)) else (if eh_okF (s.2.2 5) then Option.bind (eF_5_storeFor s (s.2.2 5) p0 p1 p2) (fun q6 => j1 q6) else none))
set_option maxHeartbeats 4000000 in
set_option maxRecDepth 100000 in
theorem eS_7_keep (g : eh_P) (s : eh_F) (p0 : Int32) (p1 : Int32) (p2 : Int32) : eh_Sim g eM_7_keep (eh_R 4 0 0) eh_eV 0 0 0 (eh_en 4 [.ref 124, .int p0, .int p1, .int p2]) [] (eh_FW s) (eF_7_keep s p0 p1 p2) := by
  unfold eF_7_keep
  refine ef_top (L := [some (.ref 124), some (.int p0), some (.int p1), some (.int p2)]) rfl ?_
  refine es_blk (pc' := 1) (L' := [some (.ref 124), some (.int p0), some (.int p1), some (.int p2)]) (st' := [.ref 124]) [(.aload_n 0, 0)] (by decide +kernel) rfl rfl ?_
  refine ef_getI (k := 124) (j := 6) rfl eL_7_94 (by decide) (by decide +kernel) ?_
  refine ef_J (X := fun j1 => ∀ (s2 : eh_F), eh_Sim g eM_7_keep (eh_R 4 0 0) eh_eV 0 0 34 [none, none, none, none] [] (eh_FW s2) ((j1 s2).bind some)) ?_ (fun j1 Hj1 => ?_)
  · intro s2
    exact es_ret rfl rfl rfl ⟨by decide +kernel, rfl⟩ (Nat.le_refl _) (Nat.le_refl _)
  refine es_eq (tgt := 24) (off := (20)) (by decide +kernel) (by decide) (fun h3 => ?_) (fun h3 => ?_)
  · refine es_blk (pc' := 25) (L' := [some (.ref 124), some (.int p0), some (.int p1), some (.int p2)]) (st' := [.ref 124]) [(.aload_n 0, 0)] (by decide +kernel) rfl rfl ?_
    refine ef_getP (k := 124) (j := 1) (q := 2) rfl eL_7_21 rfl rfl rfl (by decide +kernel) ?_
    refine es_blk (pc' := 31) (L' := [some (.ref 124), some (.int p0), some (.int p1), some (.int p2)]) (st' := [.int p2, .int p1, .int p0, .ref 2]) [(.iload_n 1, 0), (.iload_n 2, 0), (.iload_n 3, 0)] (by decide +kernel) rfl rfl ?_
    refine ef_veV (d := 2) (k := 2) (As := [.int p0, .int p1, .int p2]) (st := []) eV_6_store eK_7_230 (eS_6_store g s p0 p1 p2) rfl rfl (Nat.le_of_ble_eq_true rfl) rfl (Nat.le_of_ble_eq_true rfl) ⟨Nat.le_of_ble_eq_true rfl, Nat.le_of_ble_eq_true rfl⟩ ⟨Nat.le_refl _, Nat.le_refl _⟩ (by decide +kernel) (fun q4 _ => ?_)
    refine ef_drop (L2 := [none, none, none, none]) [false, false, false, false] rfl rfl ?_
    exact Hj1 _
  refine es_blk (pc' := 8) (L' := [some (.ref 124), some (.int p0), some (.int p1), some (.int p2)]) (st' := [.ref 124]) [(.aload_n 0, 0)] (by decide +kernel) rfl rfl ?_
  refine ef_getP (k := 124) (j := 0) (q := 1) rfl eL_7_9 rfl rfl rfl (by decide +kernel) ?_
  refine es_blk (pc' := 12) (L' := [some (.ref 124), some (.int p0), some (.int p1), some (.int p2)]) (st' := [.ref 124, .ref 1]) [(.aload_n 0, 0)] (by decide +kernel) rfl rfl ?_
  refine ef_getQ (j := 5) (ok := eh_okF) (by decide) eL_7_47 rfl (fun q h => eh_sh_NU (eh_F0sh h)) (by decide +kernel) (fun h5 => ?_)
  refine es_blk (pc' := 18) (L' := [some (.ref 124), some (.int p0), some (.int p1), some (.int p2)]) (st' := [.int p2, .int p1, .int p0, .ref (s.2.2 5), .ref 1]) [(.iload_n 1, 0), (.iload_n 2, 0), (.iload_n 3, 0)] (by decide +kernel) rfl rfl ?_
  refine ef_veV (d := 3) (k := 1) (As := [.ref (s.2.2 5), .int p0, .int p1, .int p2]) (st := []) eV_5_storeFor eK_7_226 (eS_5_storeFor g s (s.2.2 5) p0 p1 p2 h5) rfl rfl (Nat.le_of_ble_eq_true rfl) rfl (Nat.le_of_ble_eq_true rfl) ⟨Nat.le_of_ble_eq_true rfl, Nat.le_of_ble_eq_true rfl⟩ ⟨Nat.le_refl _, Nat.le_refl _⟩ (by decide +kernel) (fun q6 _ => ?_)
  refine es_goto (tgt := 34) (off := (13)) (by decide +kernel) (by decide) ?_
  refine ef_drop (L2 := [none, none, none, none]) [false, false, false, false] rfl rfl ?_
  exact Hj1 _
def eF_7_useControl (s : eh_F) (p0 : Int32) (p1 : Int32) (p2 : Int32) : Option (eh_F) := eh_V ((eh_ushr p0 20) : Int32) (fun x1 => eh_V (((eh_ushr p0 15) &&& 31) : Int32) (fun x2 => eh_J (fun (a4 : Int32) => eh_J (fun (a6 : Int32) => if a6 = 0 then (Option.bind (eF_7_fail s 2 p0) (fun q8 => some q8)) else (eh_J (fun (a10 : Int32) => if eh_okH (s.2.2 4) then Option.bind (eF_4_readControl s (s.2.2 4) x1) (fun q12 => eh_J (fun (s14 : eh_F) => Option.bind (eF_7_put s14 p0 q12) (fun q15 => some q15)) (fun j13 => if a4 = 0 then (j13 s) else (eh_V ((p1 &&& 3) : Int32) (fun x17 => if eh_okH (s.2.2 4) then eh_J (fun (a20 : Int32) => Option.bind (eF_4_writeControl s (s.2.2 4) x1 a20) (fun q21 => j13 q21)) (fun j19 => if x17 = 1 then (j19 a10) else (if x17 = 2 then (j19 (q12 ||| a10)) else (j19 (q12 &&& (a10 ^^^ (-1)))))) else none)))) else none) (fun j9 => if 4 < p1 then (j9 x2) else (if eh_okX (s.2.2 7) then if eh_in x2 32 then j9 (s.1 (s.2.2 7) (eh_ix x2)) else none else none)))) (fun j5 => if p2 = 0 then (eh_J (fun (u28 : Unit) => j5 0) (fun j27 => if x1 = 3073 then (if a4 = 0 then (j5 1) else (j27 ())) else (j27 ()))) else (Option.bind (eF_4_maySystemUse s x1 a4) (fun q31 => j5 q31)))) (fun j3 => eh_J (fun (u33 : Unit) => j3 1) (fun j32 => if (p1 &&& 3) = 1 then (j32 ()) else (if x2 = 0 then (j3 0) else (j32 ()))))))
set_option maxHeartbeats 4000000 in
set_option maxRecDepth 100000 in
theorem eS_7_useControl (g : eh_P) (s : eh_F) (p0 : Int32) (p1 : Int32) (p2 : Int32) : eh_Sim g eM_7_useControl (eh_R 4 0 0) eh_eV 0 0 0 (eh_en 11 [.ref 124, .int p0, .int p1, .int p2]) [] (eh_FW s) (eF_7_useControl s p0 p1 p2) := by
  unfold eF_7_useControl
  refine ef_top (L := [some (.ref 124), some (.int p0), some (.int p1), some (.int p2), none, none, none, none, none, none, none]) rfl ?_
  refine es_blk (pc' := 6) (L' := [some (.ref 124), some (.int p0), some (.int p1), some (.int p2), some (.int (eh_ushr p0 20)), none, none, none, none, none, none]) (st' := []) [(.iload_n 1, 0), (.bipush 20, 20), (.iushr, 0), (.istore 4, 0)] (by decide +kernel) rfl rfl ?_
  refine ef_V (fun x1 => [some (.ref 124), some (.int p0), some (.int p1), some (.int p2), some (.int x1), none, none, none, none, none, none]) (fun _ => []) (fun _ => eh_FW s) (fun x1 => ?_)
  refine es_blk (pc' := 15) (L' := [some (.ref 124), some (.int p0), some (.int p1), some (.int p2), some (.int x1), some (.int ((eh_ushr p0 15) &&& 31)), none, none, none, none, none]) (st' := []) [(.iload_n 1, 0), (.bipush 15, 15), (.iushr, 0), (.bipush 31, 31), (.iand, 0), (.istore 5, 0)] (by decide +kernel) rfl rfl ?_
  refine ef_V (fun x2 => [some (.ref 124), some (.int p0), some (.int p1), some (.int p2), some (.int x1), some (.int x2), none, none, none, none, none]) (fun _ => []) (fun _ => eh_FW s) (fun x2 => ?_)
  refine es_blk (pc' := 19) (L' := [some (.ref 124), some (.int p0), some (.int p1), some (.int p2), some (.int x1), some (.int x2), none, none, none, none, none]) (st' := [.int 1, .int (p1 &&& 3)]) [(.iload_n 2, 0), (.iconst 3, 3), (.iand, 0), (.iconst 1, 1)] (by decide +kernel) rfl rfl ?_
  refine ef_J (X := fun j3 => ∀ (a4 : Int32), eh_Sim g eM_7_useControl (eh_R 4 0 0) eh_eV 0 0 32 [some (.ref 124), some (.int p0), some (.int p1), some (.int p2), some (.int x1), some (.int x2), none, none, none, none, none] [.int a4] (eh_FW s) ((j3 a4).bind some)) ?_ (fun j3 Hj3 => ?_)
  · intro a4
    refine es_blk (pc' := 35) (L' := [some (.ref 124), some (.int p0), some (.int p1), some (.int p2), some (.int x1), some (.int x2), some (.int a4), none, none, none, none]) (st' := [.int p2]) [(.istore 6, 0), (.iload_n 3, 0)] (by decide +kernel) rfl rfl ?_
    refine ef_J (X := fun j5 => ∀ (a6 : Int32), eh_Sim g eM_7_useControl (eh_R 4 0 0) eh_eV 0 0 66 [some (.ref 124), some (.int p0), some (.int p1), none, some (.int x1), some (.int x2), some (.int a4), none, none, none, none] [.int a6] (eh_FW s) ((j5 a6).bind some)) ?_ (fun j5 Hj5 => ?_)
    · intro a6
      refine es_blk (pc' := 70) (L' := [some (.ref 124), some (.int p0), some (.int p1), none, some (.int x1), some (.int x2), some (.int a4), some (.int a6), none, none, none]) (st' := [.int a6]) [(.istore 7, 0), (.iload 7, 0)] (by decide +kernel) rfl rfl ?_
      refine es_ne (tgt := 80) (off := (10)) (by decide +kernel) (by decide) (fun h7 => ?_) (fun h7 => ?_)
      · refine es_blk (pc' := 76) (L' := [some (.ref 124), some (.int p0), some (.int p1), none, some (.int x1), some (.int x2), some (.int a4), some (.int a6), none, none, none]) (st' := [.int p0, .int 2, .ref 124]) [(.aload_n 0, 0), (.iconst 2, 2), (.iload_n 1, 0)] (by decide +kernel) rfl rfl ?_
        refine ef_veV (d := 1) (k := 124) (As := [.int 2, .int p0]) (st := []) eV_7_fail eK_7_201 (eS_7_fail g s 2 p0) rfl rfl (Nat.le_of_ble_eq_true rfl) rfl (Nat.le_of_ble_eq_true rfl) ⟨Nat.le_of_ble_eq_true rfl, Nat.le_of_ble_eq_true rfl⟩ ⟨Nat.le_refl _, Nat.le_refl _⟩ (by decide +kernel) (fun q8 _ => ?_)
        exact es_ret rfl rfl rfl ⟨by decide +kernel, rfl⟩ (Nat.le_refl _) (Nat.le_refl _)
      refine es_blk (pc' := 82) (L' := [some (.ref 124), some (.int p0), some (.int p1), none, some (.int x1), some (.int x2), some (.int a4), some (.int a6), none, none, none]) (st' := [.int 4, .int p1]) [(.iload_n 2, 0), (.iconst 4, 4)] (by decide +kernel) rfl rfl ?_
      refine ef_J (X := fun j9 => ∀ (a10 : Int32), eh_Sim g eM_7_useControl (eh_R 4 0 0) eh_eV 0 0 97 [some (.ref 124), some (.int p0), some (.int p1), none, some (.int x1), none, some (.int a4), none, none, none, none] [.int a10] (eh_FW s) ((j9 a10).bind some)) ?_ (fun j9 Hj9 => ?_)
      · intro a10
        refine es_blk (pc' := 100) (L' := [some (.ref 124), some (.int p0), some (.int p1), none, some (.int x1), none, some (.int a4), none, some (.int a10), none, none]) (st' := [.ref 124]) [(.istore 8, 0), (.aload_n 0, 0)] (by decide +kernel) rfl rfl ?_
        refine ef_getQ (j := 4) (ok := eh_okH) (by decide) eL_7_39 rfl (fun q h => eh_sh_NU (eh_H0sh h)) (by decide +kernel) (fun h11 => ?_)
        refine es_blk (pc' := 106) (L' := [some (.ref 124), some (.int p0), some (.int p1), none, some (.int x1), none, some (.int a4), none, some (.int a10), none, none]) (st' := [.ref 124, .int x1, .ref (s.2.2 4)]) [(.iload 4, 0), (.aload_n 0, 0)] (by decide +kernel) rfl rfl ?_
        refine ef_getP (k := 124) (j := 0) (q := 1) rfl eL_7_9 rfl rfl rfl (by decide +kernel) ?_
        refine ef_getP (k := 1) (j := 1) (q := 12) rfl eL_7_66 rfl rfl rfl (by decide +kernel) ?_
        refine ef_vpI (d := 3) (k := (s.2.2 4)) (As := [.int x1, .ref 12]) (st := []) eV_4_readControl eK_7_284 (eS_4_readControl g s (s.2.2 4) x1 h11) (eh_H0sh h11) rfl (Nat.le_of_ble_eq_true rfl) rfl (Nat.le_of_ble_eq_true rfl) ⟨Nat.le_of_ble_eq_true rfl, Nat.le_of_ble_eq_true rfl⟩ ⟨Nat.le_refl _, Nat.le_refl _⟩ (by decide +kernel) (fun q12 _ => ?_)
        refine es_blk (pc' := 119) (L' := [some (.ref 124), some (.int p0), some (.int p1), none, some (.int x1), none, some (.int a4), none, some (.int a10), some (.int q12), none]) (st' := [.int a4]) [(.istore 9, 0), (.iload 6, 0)] (by decide +kernel) rfl rfl ?_
        refine ef_J (X := fun j13 => ∀ (s14 : eh_F), eh_Sim g eM_7_useControl (eh_R 4 0 0) eh_eV 0 0 168 [some (.ref 124), some (.int p0), none, none, none, none, none, none, none, some (.int q12), none] [] (eh_FW s14) ((j13 s14).bind some)) ?_ (fun j13 Hj13 => ?_)
        · intro s14
          refine es_blk (pc' := 172) (L' := [some (.ref 124), some (.int p0), none, none, none, none, none, none, none, some (.int q12), none]) (st' := [.int q12, .int p0, .ref 124]) [(.aload_n 0, 0), (.iload_n 1, 0), (.iload 9, 0)] (by decide +kernel) rfl rfl ?_
          refine ef_veV (d := 1) (k := 124) (As := [.int p0, .int q12]) (st := []) eV_7_put eK_7_165 (eS_7_put g s14 p0 q12) rfl rfl (Nat.le_of_ble_eq_true rfl) rfl (Nat.le_of_ble_eq_true rfl) ⟨Nat.le_of_ble_eq_true rfl, Nat.le_of_ble_eq_true rfl⟩ ⟨Nat.le_refl _, Nat.le_refl _⟩ (by decide +kernel) (fun q15 _ => ?_)
          exact es_ret rfl rfl rfl ⟨by decide +kernel, rfl⟩ (Nat.le_refl _) (Nat.le_refl _)
        refine es_eq (tgt := 168) (off := (49)) (by decide +kernel) (by decide) (fun h16 => ?_) (fun h16 => ?_)
        · refine ef_drop (L2 := [some (.ref 124), some (.int p0), none, none, none, none, none, none, none, some (.int q12), none]) [true, true, false, true, false, true, false, true, false, true, true] rfl rfl ?_
          exact Hj13 _
        refine es_blk (pc' := 127) (L' := [some (.ref 124), some (.int p0), some (.int p1), none, some (.int x1), none, some (.int a4), none, some (.int a10), some (.int q12), some (.int (p1 &&& 3))]) (st' := []) [(.iload_n 2, 0), (.iconst 3, 3), (.iand, 0), (.istore 10, 0)] (by decide +kernel) rfl rfl ?_
        refine ef_V (fun x17 => [some (.ref 124), some (.int p0), some (.int p1), none, some (.int x1), none, some (.int a4), none, some (.int a10), some (.int q12), some (.int x17)]) (fun _ => []) (fun _ => eh_FW s) (fun x17 => ?_)
        refine es_blk (pc' := 128) (L' := [some (.ref 124), some (.int p0), some (.int p1), none, some (.int x1), none, some (.int a4), none, some (.int a10), some (.int q12), some (.int x17)]) (st' := [.ref 124]) [(.aload_n 0, 0)] (by decide +kernel) rfl rfl ?_
        refine ef_getQ (j := 4) (ok := eh_okH) (by decide) eL_7_39 rfl (fun q h => eh_sh_NU (eh_H0sh h)) (by decide +kernel) (fun h18 => ?_)
        refine es_blk (pc' := 136) (L' := [some (.ref 124), some (.int p0), some (.int p1), none, some (.int x1), none, some (.int a4), none, some (.int a10), some (.int q12), some (.int x17)]) (st' := [.int 1, .int x17, .int x1, .ref (s.2.2 4)]) [(.iload 4, 0), (.iload 10, 0), (.iconst 1, 1)] (by decide +kernel) rfl rfl ?_
        refine ef_J (X := fun j19 => ∀ (a20 : Int32), eh_Sim g eM_7_useControl (eh_R 4 0 0) eh_eV 0 0 165 [some (.ref 124), some (.int p0), none, none, none, none, none, none, none, some (.int q12), none] [.int a20, .int x1, .ref (s.2.2 4)] (eh_FW s) ((j19 a20).bind some)) ?_ (fun j19 Hj19 => ?_)
        · intro a20
          refine ef_veV (d := 1) (k := (s.2.2 4)) (As := [.int x1, .int a20]) (st := []) eV_4_writeControl eK_7_288 (eS_4_writeControl g s (s.2.2 4) x1 a20 h18) (eh_H0sh h18) rfl (Nat.le_of_ble_eq_true rfl) rfl (Nat.le_of_ble_eq_true rfl) ⟨Nat.le_of_ble_eq_true rfl, Nat.le_of_ble_eq_true rfl⟩ ⟨Nat.le_refl _, Nat.le_refl _⟩ (by decide +kernel) (fun q21 _ => ?_)
          exact Hj13 _
        refine es_ine (tgt := 144) (off := (8)) (by decide +kernel) (by decide) (fun h22 => ?_) (fun h22 => ?_)
        · refine es_blk (pc' := 141) (L' := [some (.ref 124), some (.int p0), some (.int p1), none, some (.int x1), none, some (.int a4), none, some (.int a10), some (.int q12), some (.int x17)]) (st' := [.int a10, .int x1, .ref (s.2.2 4)]) [(.iload 8, 0)] (by decide +kernel) rfl rfl ?_
          refine es_goto (tgt := 165) (off := (24)) (by decide +kernel) (by decide) ?_
          refine ef_drop (L2 := [some (.ref 124), some (.int p0), none, none, none, none, none, none, none, some (.int q12), none]) [true, true, false, true, false, true, false, true, false, true, false] rfl rfl ?_
          exact Hj19 _
        refine es_blk (pc' := 147) (L' := [some (.ref 124), some (.int p0), some (.int p1), none, some (.int x1), none, some (.int a4), none, some (.int a10), some (.int q12), some (.int x17)]) (st' := [.int 2, .int x17, .int x1, .ref (s.2.2 4)]) [(.iload 10, 0), (.iconst 2, 2)] (by decide +kernel) rfl rfl ?_
        refine es_ine (tgt := 158) (off := (11)) (by decide +kernel) (by decide) (fun h23 => ?_) (fun h23 => ?_)
        · refine es_blk (pc' := 155) (L' := [some (.ref 124), some (.int p0), some (.int p1), none, some (.int x1), none, some (.int a4), none, some (.int a10), some (.int q12), some (.int x17)]) (st' := [.int (q12 ||| a10), .int x1, .ref (s.2.2 4)]) [(.iload 9, 0), (.iload 8, 0), (.ior, 0)] (by decide +kernel) rfl rfl ?_
          refine es_goto (tgt := 165) (off := (10)) (by decide +kernel) (by decide) ?_
          refine ef_drop (L2 := [some (.ref 124), some (.int p0), none, none, none, none, none, none, none, some (.int q12), none]) [true, true, false, true, false, true, false, true, false, true, false] rfl rfl ?_
          exact Hj19 _
        refine es_blk (pc' := 165) (L' := [some (.ref 124), some (.int p0), some (.int p1), none, some (.int x1), none, some (.int a4), none, some (.int a10), some (.int q12), some (.int x17)]) (st' := [.int (q12 &&& (a10 ^^^ (-1))), .int x1, .ref (s.2.2 4)]) [(.iload 9, 0), (.iload 8, 0), (.iconst (-1), (-1)), (.ixor, 0), (.iand, 0)] (by decide +kernel) rfl rfl ?_
        refine ef_drop (L2 := [some (.ref 124), some (.int p0), none, none, none, none, none, none, none, some (.int q12), none]) [true, true, false, true, false, true, false, true, false, true, false] rfl rfl ?_
        exact Hj19 _
      refine es_ile (tgt := 90) (off := (8)) (by decide +kernel) (by decide) (fun h24 => ?_) (fun h24 => ?_)
      · refine es_blk (pc' := 87) (L' := [some (.ref 124), some (.int p0), some (.int p1), none, some (.int x1), some (.int x2), some (.int a4), some (.int a6), none, none, none]) (st' := [.int x2]) [(.iload 5, 0)] (by decide +kernel) rfl rfl ?_
        refine es_goto (tgt := 97) (off := (10)) (by decide +kernel) (by decide) ?_
        refine ef_drop (L2 := [some (.ref 124), some (.int p0), some (.int p1), none, some (.int x1), none, some (.int a4), none, none, none, none]) [true, true, true, true, true, false, true, false, true, true, true] rfl rfl ?_
        exact Hj9 _
      refine es_blk (pc' := 91) (L' := [some (.ref 124), some (.int p0), some (.int p1), none, some (.int x1), some (.int x2), some (.int a4), some (.int a6), none, none, none]) (st' := [.ref 124]) [(.aload_n 0, 0)] (by decide +kernel) rfl rfl ?_
      refine ef_getQ (j := 7) (ok := eh_okX) (by decide) eL_7_57 rfl (fun q h => eh_sh_NU (eh_Xsh h)) (by decide +kernel) (fun h25 => ?_)
      refine es_blk (pc' := 96) (L' := [some (.ref 124), some (.int p0), some (.int p1), none, some (.int x1), some (.int x2), some (.int a4), some (.int a6), none, none, none]) (st' := [.int x2, .ref (s.2.2 7)]) [(.iload 5, 0)] (by decide +kernel) rfl rfl ?_
      refine ef_ald (k := (s.2.2 7)) (eh_Xsh h25) (Or.inl ⟨rfl, rfl⟩) (by decide +kernel) (fun _ => ?_)
      refine ef_drop (L2 := [some (.ref 124), some (.int p0), some (.int p1), none, some (.int x1), none, some (.int a4), none, none, none, none]) [true, true, true, true, true, false, true, false, true, true, true] rfl rfl ?_
      exact Hj9 _
    refine es_eq (tgt := 48) (off := (13)) (by decide +kernel) (by decide) (fun h26 => ?_) (fun h26 => ?_)
    · refine es_blk (pc' := 53) (L' := [some (.ref 124), some (.int p0), some (.int p1), some (.int p2), some (.int x1), some (.int x2), some (.int a4), none, none, none, none]) (st' := [.int 3073, .int x1]) [(.iload 4, 0), (.sipush 3073, 3073)] (by decide +kernel) rfl rfl ?_
      refine ef_J (X := fun j27 => ∀ (u28 : Unit), eh_Sim g eM_7_useControl (eh_R 4 0 0) eh_eV 0 0 65 [some (.ref 124), some (.int p0), some (.int p1), none, some (.int x1), some (.int x2), some (.int a4), none, none, none, none] [] (eh_FW s) ((j27 u28).bind some)) ?_ (fun j27 Hj27 => ?_)
      · intro u28
        refine es_blk (pc' := 66) (L' := [some (.ref 124), some (.int p0), some (.int p1), none, some (.int x1), some (.int x2), some (.int a4), none, none, none, none]) (st' := [.int 0]) [(.iconst 0, 0)] (by decide +kernel) rfl rfl ?_
        exact Hj5 _
      refine es_ine (tgt := 65) (off := (12)) (by decide +kernel) (by decide) (fun h29 => ?_) (fun h29 => ?_)
      · refine es_blk (pc' := 58) (L' := [some (.ref 124), some (.int p0), some (.int p1), some (.int p2), some (.int x1), some (.int x2), some (.int a4), none, none, none, none]) (st' := [.int a4]) [(.iload 6, 0)] (by decide +kernel) rfl rfl ?_
        refine es_ne (tgt := 65) (off := (7)) (by decide +kernel) (by decide) (fun h30 => ?_) (fun h30 => ?_)
        · refine es_blk (pc' := 62) (L' := [some (.ref 124), some (.int p0), some (.int p1), some (.int p2), some (.int x1), some (.int x2), some (.int a4), none, none, none, none]) (st' := [.int 1]) [(.iconst 1, 1)] (by decide +kernel) rfl rfl ?_
          refine es_goto (tgt := 66) (off := (4)) (by decide +kernel) (by decide) ?_
          refine ef_drop (L2 := [some (.ref 124), some (.int p0), some (.int p1), none, some (.int x1), some (.int x2), some (.int a4), none, none, none, none]) [true, true, true, false, true, true, true, true, true, true, true] rfl rfl ?_
          exact Hj5 _
        refine ef_drop (L2 := [some (.ref 124), some (.int p0), some (.int p1), none, some (.int x1), some (.int x2), some (.int a4), none, none, none, none]) [true, true, true, false, true, true, true, true, true, true, true] rfl rfl ?_
        exact Hj27 ()
      refine ef_drop (L2 := [some (.ref 124), some (.int p0), some (.int p1), none, some (.int x1), some (.int x2), some (.int a4), none, none, none, none]) [true, true, true, false, true, true, true, true, true, true, true] rfl rfl ?_
      exact Hj27 ()
    refine es_blk (pc' := 42) (L' := [some (.ref 124), some (.int p0), some (.int p1), some (.int p2), some (.int x1), some (.int x2), some (.int a4), none, none, none, none]) (st' := [.int a4, .int x1]) [(.iload 4, 0), (.iload 6, 0)] (by decide +kernel) rfl rfl ?_
    refine ef_spI (d := 1) (As := [.int x1, .int a4]) (st := []) eV_4_maySystemUse eK_7_280 (eS_4_maySystemUse g s x1 a4) rfl (Nat.le_of_ble_eq_true rfl) rfl (Nat.le_of_ble_eq_true rfl) ⟨Nat.le_of_ble_eq_true rfl, Nat.le_of_ble_eq_true rfl⟩ ⟨Nat.le_refl _, Nat.le_refl _⟩ (by decide +kernel) (fun q31 _ => ?_)
    refine es_goto (tgt := 66) (off := (21)) (by decide +kernel) (by decide) ?_
    refine ef_drop (L2 := [some (.ref 124), some (.int p0), some (.int p1), none, some (.int x1), some (.int x2), some (.int a4), none, none, none, none]) [true, true, true, false, true, true, true, true, true, true, true] rfl rfl ?_
    exact Hj5 _
  refine ef_J (X := fun j32 => ∀ (u33 : Unit), eh_Sim g eM_7_useControl (eh_R 4 0 0) eh_eV 0 0 27 [some (.ref 124), some (.int p0), some (.int p1), some (.int p2), some (.int x1), some (.int x2), none, none, none, none, none] [] (eh_FW s) ((j32 u33).bind some)) ?_ (fun j32 Hj32 => ?_)
  · intro u33
    refine es_blk (pc' := 28) (L' := [some (.ref 124), some (.int p0), some (.int p1), some (.int p2), some (.int x1), some (.int x2), none, none, none, none, none]) (st' := [.int 1]) [(.iconst 1, 1)] (by decide +kernel) rfl rfl ?_
    refine es_goto (tgt := 32) (off := (4)) (by decide +kernel) (by decide) ?_
    exact Hj3 _
  refine es_ieq (tgt := 27) (off := (8)) (by decide +kernel) (by decide) (fun h34 => ?_) (fun h34 => ?_)
  · exact Hj32 ()
  refine es_blk (pc' := 24) (L' := [some (.ref 124), some (.int p0), some (.int p1), some (.int p2), some (.int x1), some (.int x2), none, none, none, none, none]) (st' := [.int x2]) [(.iload 5, 0)] (by decide +kernel) rfl rfl ?_
  refine es_eq (tgt := 31) (off := (7)) (by decide +kernel) (by decide) (fun h35 => ?_) (fun h35 => ?_)
  · refine es_blk (pc' := 32) (L' := [some (.ref 124), some (.int p0), some (.int p1), some (.int p2), some (.int x1), some (.int x2), none, none, none, none, none]) (st' := [.int 0]) [(.iconst 0, 0)] (by decide +kernel) rfl rfl ?_
    exact Hj3 _
  exact Hj32 ()
def eF_7_locate (s : eh_F) (p0 : Int32) (p1 : Int32) (p2 : Int32) : Option (Int32 × eh_F) := if (p0 &&& (p1 - 1)) = 0 then (eh_V (((p0.toInt64) &&& 4294967295) : Int64) (fun x2 => eh_J (fun (a4 : Int64) (s5 : eh_F) => eh_J (fun (a7 : Int32) => Option.bind (eF_6_rightsAt s5 a4 a7) (fun q8 => if (q8 &&& p2) = 0 then (Option.bind (eF_7_accessFault s5 p2) (fun q10 => Option.bind (eF_7_fail s5 q10 p0) (fun q11 => some ((-1), q11)))) else (some ((a4.toInt32), s5)))) (fun j6 => if (s5.1 124 6) = 0 then (j6 (-1)) else (if eh_okF (s5.2.2 5) then j6 (s5.1 (s5.2.2 5) 3) else none))) (fun j3 => if (s.1 124 6) = 0 then (if eh_okH (s.2.2 4) then if (s.1 (s.2.2 4) 18) < 0 then (Option.bind (eF_7_walk s p0 p2) (fun q17 => if (lg_cmp q17.1 0) < 0 then (some ((-1), q17.2)) else (j3 q17.1 q17.2))) else (j3 x2 s) else none) else (j3 x2 s)))) else (eh_J (fun (a20 : Int32) => Option.bind (eF_7_fail s a20 p0) (fun q21 => some ((-1), q21))) (fun j19 => if p2 = 1 then (j19 4) else (j19 6)))
set_option maxHeartbeats 4000000 in
set_option maxRecDepth 100000 in
theorem eS_7_locate (g : eh_P) (s : eh_F) (p0 : Int32) (p1 : Int32) (p2 : Int32) : eh_Sim g eM_7_locate (eh_R 4 0 0) eh_eI 0 0 0 (eh_en 6 [.ref 124, .int p0, .int p1, .int p2]) [] (eh_FW s) (eF_7_locate s p0 p1 p2) := by
  unfold eF_7_locate
  refine ef_top (L := [some (.ref 124), some (.int p0), some (.int p1), some (.int p2), none, none]) rfl ?_
  refine es_blk (pc' := 5) (L' := [some (.ref 124), some (.int p0), some (.int p1), some (.int p2), none, none]) (st' := [.int (p0 &&& (p1 - 1))]) [(.iload_n 1, 0), (.iload_n 2, 0), (.iconst 1, 1), (.isub, 0), (.iand, 0)] (by decide +kernel) rfl rfl ?_
  refine es_eq (tgt := 26) (off := (21)) (by decide +kernel) (by decide) (fun h1 => ?_) (fun h1 => ?_)
  · refine es_blk (pc' := 28) (L' := [some (.ref 124), some (.int p0), some (.int p1), some (.int p2), none, none]) (st' := [.long (p0.toInt64)]) [(.iload_n 1, 0), (.i2l, 0)] (by decide +kernel) rfl rfl ?_
    refine es_ldc2 (v := 4294967295) eC_7_242 (by decide +kernel) ?_
    refine es_blk (pc' := 34) (L' := [some (.ref 124), some (.int p0), some (.int p1), some (.int p2), some (.long ((p0.toInt64) &&& 4294967295)), none]) (st' := []) [(.land, 0), (.lstore 4, 0)] (by decide +kernel) rfl rfl ?_
    refine ef_V (fun x2 => [some (.ref 124), some (.int p0), some (.int p1), some (.int p2), some (.long x2), none]) (fun _ => []) (fun _ => eh_FW s) (fun x2 => ?_)
    refine es_blk (pc' := 35) (L' := [some (.ref 124), some (.int p0), some (.int p1), some (.int p2), some (.long x2), none]) (st' := [.ref 124]) [(.aload_n 0, 0)] (by decide +kernel) rfl rfl ?_
    refine ef_getI (k := 124) (j := 6) rfl eL_7_94 (by decide) (by decide +kernel) ?_
    refine ef_J (X := fun j3 => ∀ (a4 : Int64) (s5 : eh_F), eh_Sim g eM_7_locate (eh_R 4 0 0) eh_eI 0 0 68 [some (.ref 124), some (.int p0), none, some (.int p2), some (.long a4), none] [] (eh_FW s5) ((j3 a4 s5).bind some)) ?_ (fun j3 Hj3 => ?_)
    · intro a4 s5
      refine es_blk (pc' := 69) (L' := [some (.ref 124), some (.int p0), none, some (.int p2), some (.long a4), none]) (st' := [.ref 124]) [(.aload_n 0, 0)] (by decide +kernel) rfl rfl ?_
      refine ef_getP (k := 124) (j := 1) (q := 2) rfl eL_7_21 rfl rfl rfl (by decide +kernel) ?_
      refine es_blk (pc' := 75) (L' := [some (.ref 124), some (.int p0), none, some (.int p2), some (.long a4), none]) (st' := [.ref 124, .long a4, .ref 2]) [(.lload 4, 0), (.aload_n 0, 0)] (by decide +kernel) rfl rfl ?_
      refine ef_getI (k := 124) (j := 6) rfl eL_7_94 (by decide) (by decide +kernel) ?_
      refine ef_J (X := fun j6 => ∀ (a7 : Int32), eh_Sim g eM_7_locate (eh_R 4 0 0) eh_eI 0 0 92 [some (.ref 124), some (.int p0), none, some (.int p2), some (.long a4), none] [.int a7, .long a4, .ref 2] (eh_FW s5) ((j6 a7).bind some)) ?_ (fun j6 Hj6 => ?_)
      · intro a7
        refine ef_vpI (d := 3) (k := 2) (As := [.long a4, .int a7]) (st := []) eV_6_rightsAt eK_7_301 (eS_6_rightsAt g s5 a4 a7) rfl rfl (Nat.le_of_ble_eq_true rfl) rfl (Nat.le_of_ble_eq_true rfl) ⟨Nat.le_of_ble_eq_true rfl, Nat.le_of_ble_eq_true rfl⟩ ⟨Nat.le_refl _, Nat.le_refl _⟩ (by decide +kernel) (fun q8 _ => ?_)
        refine es_blk (pc' := 97) (L' := [some (.ref 124), some (.int p0), none, some (.int p2), some (.long a4), none]) (st' := [.int (q8 &&& p2)]) [(.iload_n 3, 0), (.iand, 0)] (by decide +kernel) rfl rfl ?_
        refine es_ne (tgt := 111) (off := (14)) (by decide +kernel) (by decide) (fun h9 => ?_) (fun h9 => ?_)
        · refine es_blk (pc' := 102) (L' := [some (.ref 124), some (.int p0), none, some (.int p2), some (.long a4), none]) (st' := [.int p2, .ref 124]) [(.aload_n 0, 0), (.iload_n 3, 0)] (by decide +kernel) rfl rfl ?_
          refine ef_spI (d := 1) (As := [.int p2]) (st := [.ref 124]) eV_7_accessFault eK_7_305 (eS_7_accessFault g s5 p2) rfl (Nat.le_of_ble_eq_true rfl) rfl (Nat.le_of_ble_eq_true rfl) ⟨Nat.le_of_ble_eq_true rfl, Nat.le_of_ble_eq_true rfl⟩ ⟨Nat.le_refl _, Nat.le_refl _⟩ (by decide +kernel) (fun q10 _ => ?_)
          refine es_blk (pc' := 106) (L' := [some (.ref 124), some (.int p0), none, some (.int p2), some (.long a4), none]) (st' := [.int p0, .int q10, .ref 124]) [(.iload_n 1, 0)] (by decide +kernel) rfl rfl ?_
          refine ef_veV (d := 1) (k := 124) (As := [.int q10, .int p0]) (st := []) eV_7_fail eK_7_201 (eS_7_fail g s5 q10 p0) rfl rfl (Nat.le_of_ble_eq_true rfl) rfl (Nat.le_of_ble_eq_true rfl) ⟨Nat.le_of_ble_eq_true rfl, Nat.le_of_ble_eq_true rfl⟩ ⟨Nat.le_refl _, Nat.le_refl _⟩ (by decide +kernel) (fun q11 _ => ?_)
          refine es_blk (pc' := 110) (L' := [some (.ref 124), some (.int p0), none, some (.int p2), some (.long a4), none]) (st' := [.int (-1)]) [(.iconst (-1), (-1))] (by decide +kernel) rfl rfl ?_
          exact es_ret rfl rfl rfl ⟨by decide +kernel, _, rfl, rfl⟩ (Nat.le_refl _) (Nat.le_refl _)
        refine es_blk (pc' := 114) (L' := [some (.ref 124), some (.int p0), none, some (.int p2), some (.long a4), none]) (st' := [.int (a4.toInt32)]) [(.lload 4, 0), (.l2i, 0)] (by decide +kernel) rfl rfl ?_
        exact es_ret rfl rfl rfl ⟨by decide +kernel, _, rfl, rfl⟩ (Nat.le_refl _) (Nat.le_refl _)
      refine es_eq (tgt := 91) (off := (13)) (by decide +kernel) (by decide) (fun h12 => ?_) (fun h12 => ?_)
      · refine es_blk (pc' := 92) (L' := [some (.ref 124), some (.int p0), none, some (.int p2), some (.long a4), none]) (st' := [.int (-1), .long a4, .ref 2]) [(.iconst (-1), (-1))] (by decide +kernel) rfl rfl ?_
        exact Hj6 _
      refine es_blk (pc' := 82) (L' := [some (.ref 124), some (.int p0), none, some (.int p2), some (.long a4), none]) (st' := [.ref 124, .long a4, .ref 2]) [(.aload_n 0, 0)] (by decide +kernel) rfl rfl ?_
      refine ef_getQ (j := 5) (ok := eh_okF) (by decide) eL_7_47 rfl (fun q h => eh_sh_NU (eh_F0sh h)) (by decide +kernel) (fun h13 => ?_)
      refine ef_getI (k := (s5.2.2 5)) (j := 3) (eh_F0sh h13) eL_7_298 (by decide) (by decide +kernel) ?_
      refine es_goto (tgt := 92) (off := (4)) (by decide +kernel) (by decide) ?_
      exact Hj6 _
    refine es_ne (tgt := 68) (off := (30)) (by decide +kernel) (by decide) (fun h14 => ?_) (fun h14 => ?_)
    · refine es_blk (pc' := 42) (L' := [some (.ref 124), some (.int p0), some (.int p1), some (.int p2), some (.long x2), none]) (st' := [.ref 124]) [(.aload_n 0, 0)] (by decide +kernel) rfl rfl ?_
      refine ef_getQ (j := 4) (ok := eh_okH) (by decide) eL_7_39 rfl (fun q h => eh_sh_NU (eh_H0sh h)) (by decide +kernel) (fun h15 => ?_)
      refine ef_getI (k := (s.2.2 4)) (j := 18) (eh_H0sh h15) eL_7_291 (by decide) (by decide +kernel) ?_
      refine es_ge (tgt := 68) (off := (20)) (by decide +kernel) (by decide) (fun h16 => ?_) (fun h16 => ?_)
      · refine es_blk (pc' := 54) (L' := [some (.ref 124), some (.int p0), some (.int p1), some (.int p2), some (.long x2), none]) (st' := [.int p2, .int p0, .ref 124]) [(.aload_n 0, 0), (.iload_n 1, 0), (.iload_n 3, 0)] (by decide +kernel) rfl rfl ?_
        refine ef_veL (d := 2) (k := 124) (As := [.int p0, .int p2]) (st := []) eV_7_walk eK_7_294 (eS_7_walk g s p0 p2) rfl rfl (Nat.le_of_ble_eq_true rfl) rfl (Nat.le_of_ble_eq_true rfl) ⟨Nat.le_of_ble_eq_true rfl, Nat.le_of_ble_eq_true rfl⟩ ⟨Nat.le_refl _, Nat.le_refl _⟩ (by decide +kernel) (fun q17 _ => ?_)
        refine es_blk (pc' := 63) (L' := [some (.ref 124), some (.int p0), some (.int p1), some (.int p2), some (.long q17.1), none]) (st' := [.int (lg_cmp q17.1 0)]) [(.lstore 4, 0), (.lload 4, 0), (.lconst 0, 0), (.lcmp, 0)] (by decide +kernel) rfl rfl ?_
        refine es_ge (tgt := 68) (off := (5)) (by decide +kernel) (by decide) (fun h18 => ?_) (fun h18 => ?_)
        · refine es_blk (pc' := 67) (L' := [some (.ref 124), some (.int p0), some (.int p1), some (.int p2), some (.long q17.1), none]) (st' := [.int (-1)]) [(.iconst (-1), (-1))] (by decide +kernel) rfl rfl ?_
          exact es_ret rfl rfl rfl ⟨by decide +kernel, _, rfl, rfl⟩ (Nat.le_refl _) (Nat.le_refl _)
        refine ef_drop (L2 := [some (.ref 124), some (.int p0), none, some (.int p2), some (.long q17.1), none]) [true, true, false, true, true, true] rfl rfl ?_
        exact Hj3 _ _
      refine ef_drop (L2 := [some (.ref 124), some (.int p0), none, some (.int p2), some (.long x2), none]) [true, true, false, true, true, true] rfl rfl ?_
      exact Hj3 _ _
    refine ef_drop (L2 := [some (.ref 124), some (.int p0), none, some (.int p2), some (.long x2), none]) [true, true, false, true, true, true] rfl rfl ?_
    exact Hj3 _ _
  refine es_blk (pc' := 11) (L' := [some (.ref 124), some (.int p0), some (.int p1), some (.int p2), none, none]) (st' := [.int 1, .int p2, .ref 124]) [(.aload_n 0, 0), (.iload_n 3, 0), (.iconst 1, 1)] (by decide +kernel) rfl rfl ?_
  refine ef_J (X := fun j19 => ∀ (a20 : Int32), eh_Sim g eM_7_locate (eh_R 4 0 0) eh_eI 0 0 20 [none, some (.int p0), none, none, none, none] [.int a20, .ref 124] (eh_FW s) ((j19 a20).bind some)) ?_ (fun j19 Hj19 => ?_)
  · intro a20
    refine es_blk (pc' := 21) (L' := [none, some (.int p0), none, none, none, none]) (st' := [.int p0, .int a20, .ref 124]) [(.iload_n 1, 0)] (by decide +kernel) rfl rfl ?_
    refine ef_veV (d := 1) (k := 124) (As := [.int a20, .int p0]) (st := []) eV_7_fail eK_7_201 (eS_7_fail g s a20 p0) rfl rfl (Nat.le_of_ble_eq_true rfl) rfl (Nat.le_of_ble_eq_true rfl) ⟨Nat.le_of_ble_eq_true rfl, Nat.le_of_ble_eq_true rfl⟩ ⟨Nat.le_refl _, Nat.le_refl _⟩ (by decide +kernel) (fun q21 _ => ?_)
    refine es_blk (pc' := 25) (L' := [none, some (.int p0), none, none, none, none]) (st' := [.int (-1)]) [(.iconst (-1), (-1))] (by decide +kernel) rfl rfl ?_
    exact es_ret rfl rfl rfl ⟨by decide +kernel, _, rfl, rfl⟩ (Nat.le_refl _) (Nat.le_refl _)
  refine es_ine (tgt := 18) (off := (7)) (by decide +kernel) (by decide) (fun h22 => ?_) (fun h22 => ?_)
  · refine es_blk (pc' := 15) (L' := [some (.ref 124), some (.int p0), some (.int p1), some (.int p2), none, none]) (st' := [.int 4, .ref 124]) [(.iconst 4, 4)] (by decide +kernel) rfl rfl ?_
    refine es_goto (tgt := 20) (off := (5)) (by decide +kernel) (by decide) ?_
    refine ef_drop (L2 := [none, some (.int p0), none, none, none, none]) [false, true, false, false, true, true] rfl rfl ?_
    exact Hj19 _
  refine es_blk (pc' := 20) (L' := [some (.ref 124), some (.int p0), some (.int p1), some (.int p2), none, none]) (st' := [.int 6, .ref 124]) [(.bipush 6, 6)] (by decide +kernel) rfl rfl ?_
  refine ef_drop (L2 := [none, some (.int p0), none, none, none, none]) [false, true, false, false, true, true] rfl rfl ?_
  exact Hj19 _
def eF_10_create (s : eh_F) (p0 : Int32) (p1 : Int32) : Option (Int32 × eh_F) := Option.bind (eF_6_isSpan s p0 p1) (fun q1 => if q1 = 0 then (some ((-1), s)) else (Option.bind (eF_6_overlaps s p0 p1) (fun q3 => if q3 = 0 then (Option.bind (eF_10_leastFreeEnclave s) (fun q5 => Option.bind (eF_6_leastFreeRegion s) (fun q6 => eh_J (fun (u8 : Unit) => some ((-5), s)) (fun j7 => if q5 = (-1) then (j7 ()) else (if q6 = (-1) then (j7 ()) else (Option.bind (eF_6_give s q6 1 p0 p1 q5 (-1)) (fun q11 => if eh_in q5 6 then Option.bind (eF_1_make q11 (eh_ep q5) q6 p1) (fun q13 => some (q5, q13)) else none))))))) else (some ((-4), s)))))
set_option maxHeartbeats 4000000 in
set_option maxRecDepth 100000 in
theorem eS_10_create (g : eh_P) (s : eh_F) (p0 : Int32) (p1 : Int32) : eh_Sim g eM_10_create (eh_R 4 0 0) eh_eI 0 0 0 (eh_en 5 [.ref 123, .int p0, .int p1]) [] (eh_FW s) (eF_10_create s p0 p1) := by
  unfold eF_10_create
  refine ef_top (L := [some (.ref 123), some (.int p0), some (.int p1), none, none]) rfl ?_
  refine es_blk (pc' := 2) (L' := [some (.ref 123), some (.int p0), some (.int p1), none, none]) (st' := [.int p1, .int p0]) [(.iload_n 1, 0), (.iload_n 2, 0)] (by decide +kernel) rfl rfl ?_
  refine ef_spI (d := 1) (As := [.int p0, .int p1]) (st := []) eV_6_isSpan eK_10_117 (eS_6_isSpan g s p0 p1) rfl (Nat.le_of_ble_eq_true rfl) rfl (Nat.le_of_ble_eq_true rfl) ⟨Nat.le_of_ble_eq_true rfl, Nat.le_of_ble_eq_true rfl⟩ ⟨Nat.le_refl _, Nat.le_refl _⟩ (by decide +kernel) (fun q1 _ => ?_)
  refine es_ne (tgt := 10) (off := (5)) (by decide +kernel) (by decide) (fun h2 => ?_) (fun h2 => ?_)
  · refine es_blk (pc' := 9) (L' := [some (.ref 123), some (.int p0), some (.int p1), none, none]) (st' := [.int (-1)]) [(.iconst (-1), (-1))] (by decide +kernel) rfl rfl ?_
    exact es_ret rfl rfl rfl ⟨by decide +kernel, _, rfl, rfl⟩ (Nat.le_refl _) (Nat.le_refl _)
  refine es_blk (pc' := 11) (L' := [some (.ref 123), some (.int p0), some (.int p1), none, none]) (st' := [.ref 123]) [(.aload_n 0, 0)] (by decide +kernel) rfl rfl ?_
  refine ef_getP (k := 123) (j := 1) (q := 2) rfl eL_10_21 rfl rfl rfl (by decide +kernel) ?_
  refine es_blk (pc' := 16) (L' := [some (.ref 123), some (.int p0), some (.int p1), none, none]) (st' := [.int p1, .int p0, .ref 2]) [(.iload_n 1, 0), (.iload_n 2, 0)] (by decide +kernel) rfl rfl ?_
  refine ef_vpI (d := 1) (k := 2) (As := [.int p0, .int p1]) (st := []) eV_6_overlaps eK_10_123 (eS_6_overlaps g s p0 p1) rfl rfl (Nat.le_of_ble_eq_true rfl) rfl (Nat.le_of_ble_eq_true rfl) ⟨Nat.le_of_ble_eq_true rfl, Nat.le_of_ble_eq_true rfl⟩ ⟨Nat.le_refl _, Nat.le_refl _⟩ (by decide +kernel) (fun q3 _ => ?_)
  refine es_eq (tgt := 25) (off := (6)) (by decide +kernel) (by decide) (fun h4 => ?_) (fun h4 => ?_)
  · refine es_blk (pc' := 26) (L' := [some (.ref 123), some (.int p0), some (.int p1), none, none]) (st' := [.ref 123]) [(.aload_n 0, 0)] (by decide +kernel) rfl rfl ?_
    refine ef_vpI (d := 1) (k := 123) (As := []) (st := []) eV_10_leastFreeEnclave eK_10_126 (eS_10_leastFreeEnclave g s) rfl rfl (Nat.le_of_ble_eq_true rfl) rfl (Nat.le_of_ble_eq_true rfl) ⟨Nat.le_of_ble_eq_true rfl, Nat.le_of_ble_eq_true rfl⟩ ⟨Nat.le_refl _, Nat.le_refl _⟩ (by decide +kernel) (fun q5 _ => ?_)
    refine es_blk (pc' := 31) (L' := [some (.ref 123), some (.int p0), some (.int p1), some (.int q5), none]) (st' := [.ref 123]) [(.istore_n 3, 0), (.aload_n 0, 0)] (by decide +kernel) rfl rfl ?_
    refine ef_getP (k := 123) (j := 1) (q := 2) rfl eL_10_21 rfl rfl rfl (by decide +kernel) ?_
    refine ef_vpI (d := 1) (k := 2) (As := []) (st := []) eV_6_leastFreeRegion eK_10_129 (eS_6_leastFreeRegion g s) rfl rfl (Nat.le_of_ble_eq_true rfl) rfl (Nat.le_of_ble_eq_true rfl) ⟨Nat.le_of_ble_eq_true rfl, Nat.le_of_ble_eq_true rfl⟩ ⟨Nat.le_refl _, Nat.le_refl _⟩ (by decide +kernel) (fun q6 _ => ?_)
    refine es_blk (pc' := 41) (L' := [some (.ref 123), some (.int p0), some (.int p1), some (.int q5), some (.int q6)]) (st' := [.int (-1), .int q5]) [(.istore 4, 0), (.iload_n 3, 0), (.iconst (-1), (-1))] (by decide +kernel) rfl rfl ?_
    refine ef_J (X := fun j7 => ∀ (u8 : Unit), eh_Sim g eM_10_create (eh_R 4 0 0) eh_eI 0 0 50 [none, none, none, none, none] [] (eh_FW s) ((j7 u8).bind some)) ?_ (fun j7 Hj7 => ?_)
    · intro u8
      refine es_blk (pc' := 52) (L' := [none, none, none, none, none]) (st' := [.int (-5)]) [(.bipush (-5), (-5))] (by decide +kernel) rfl rfl ?_
      exact es_ret rfl rfl rfl ⟨by decide +kernel, _, rfl, rfl⟩ (Nat.le_refl _) (Nat.le_refl _)
    refine es_ieq (tgt := 50) (off := (9)) (by decide +kernel) (by decide) (fun h9 => ?_) (fun h9 => ?_)
    · refine ef_drop (L2 := [none, none, none, none, none]) [false, false, false, false, false] rfl rfl ?_
      exact Hj7 ()
    refine es_blk (pc' := 47) (L' := [some (.ref 123), some (.int p0), some (.int p1), some (.int q5), some (.int q6)]) (st' := [.int (-1), .int q6]) [(.iload 4, 0), (.iconst (-1), (-1))] (by decide +kernel) rfl rfl ?_
    refine es_ine (tgt := 53) (off := (6)) (by decide +kernel) (by decide) (fun h10 => ?_) (fun h10 => ?_)
    · refine ef_drop (L2 := [none, none, none, none, none]) [false, false, false, false, false] rfl rfl ?_
      exact Hj7 ()
    refine es_blk (pc' := 54) (L' := [some (.ref 123), some (.int p0), some (.int p1), some (.int q5), some (.int q6)]) (st' := [.ref 123]) [(.aload_n 0, 0)] (by decide +kernel) rfl rfl ?_
    refine ef_getP (k := 123) (j := 1) (q := 2) rfl eL_10_21 rfl rfl rfl (by decide +kernel) ?_
    refine es_blk (pc' := 64) (L' := [some (.ref 123), some (.int p0), some (.int p1), some (.int q5), some (.int q6)]) (st' := [.int (-1), .int q5, .int p1, .int p0, .int 1, .int q6, .ref 2]) [(.iload 4, 0), (.iconst 1, 1), (.iload_n 1, 0), (.iload_n 2, 0), (.iload_n 3, 0), (.iconst (-1), (-1))] (by decide +kernel) rfl rfl ?_
    refine ef_veV (d := 2) (k := 2) (As := [.int q6, .int 1, .int p0, .int p1, .int q5, .int (-1)]) (st := []) eV_6_give eK_10_132 (eS_6_give g s q6 1 p0 p1 q5 (-1)) rfl rfl (Nat.le_of_ble_eq_true rfl) rfl (Nat.le_of_ble_eq_true rfl) ⟨Nat.le_of_ble_eq_true rfl, Nat.le_of_ble_eq_true rfl⟩ ⟨Nat.le_refl _, Nat.le_refl _⟩ (by decide +kernel) (fun q11 _ => ?_)
    refine es_blk (pc' := 68) (L' := [some (.ref 123), some (.int p0), some (.int p1), some (.int q5), some (.int q6)]) (st' := [.ref 123]) [(.aload_n 0, 0)] (by decide +kernel) rfl rfl ?_
    refine ef_getP (k := 123) (j := 0) (q := 1) rfl eL_10_9 rfl rfl rfl (by decide +kernel) ?_
    refine ef_getP (k := 1) (j := 4) (q := 28) rfl eL_10_136 rfl rfl rfl (by decide +kernel) ?_
    refine es_blk (pc' := 75) (L' := [some (.ref 123), some (.int p0), some (.int p1), some (.int q5), some (.int q6)]) (st' := [.int q5, .ref 28]) [(.iload_n 3, 0)] (by decide +kernel) rfl rfl ?_
    refine ef_encs (by decide +kernel) (fun h12 => ?_)
    refine es_blk (pc' := 79) (L' := [some (.ref 123), some (.int p0), some (.int p1), some (.int q5), some (.int q6)]) (st' := [.int p1, .int q6, .ref (eh_ep q5)]) [(.iload 4, 0), (.iload_n 2, 0)] (by decide +kernel) rfl rfl ?_
    refine ef_veV (d := 3) (k := (eh_ep q5)) (As := [.int q6, .int p1]) (st := []) eV_1_make eK_10_140 (eS_1_make g q11 (eh_ep q5) q6 p1 h12) (eh_E0sh h12) rfl (Nat.le_of_ble_eq_true rfl) rfl (Nat.le_of_ble_eq_true rfl) ⟨Nat.le_of_ble_eq_true rfl, Nat.le_of_ble_eq_true rfl⟩ ⟨Nat.le_refl _, Nat.le_refl _⟩ (by decide +kernel) (fun q13 _ => ?_)
    refine es_blk (pc' := 83) (L' := [some (.ref 123), some (.int p0), some (.int p1), some (.int q5), some (.int q6)]) (st' := [.int q5]) [(.iload_n 3, 0)] (by decide +kernel) rfl rfl ?_
    exact es_ret rfl rfl rfl ⟨by decide +kernel, _, rfl, rfl⟩ (Nat.le_refl _) (Nat.le_refl _)
  refine es_blk (pc' := 24) (L' := [some (.ref 123), some (.int p0), some (.int p1), none, none]) (st' := [.int (-4)]) [(.bipush (-4), (-4))] (by decide +kernel) rfl rfl ?_
  exact es_ret rfl rfl rfl ⟨by decide +kernel, _, rfl, rfl⟩ (Nat.le_refl _) (Nat.le_refl _)
def eF_10_makeFibre (s : eh_F) (p0 : Int32) (p1 : Int32) (p2 : Int32) : Option (Int32 × eh_F) := Option.bind (eF_5_hasEnclave s p0) (fun q1 => if q1 = 0 then (some ((-1), s)) else (Option.bind (eF_5_sizeOf s p0) (fun q3 => eh_J (fun (u5 : Unit) => some ((-1), s)) (fun j4 => if (p1 &&& 3) = 0 then (if p1 < 0 then (j4 ()) else (if p1 < q3 then (if (p2 &&& 15) = 0 then (if p2 < 0 then (j4 ()) else (if q3 < p2 then (j4 ()) else (if eh_in p0 6 then if (s.1 (eh_ep p0) 5) = 1 then (Option.bind (eF_10_leastFreeFibre s) (fun q14 => eh_J (fun (u16 : Unit) => some ((-5), s)) (fun j15 => if q14 = (-1) then (j15 ()) else (if (s.1 (eh_ep p0) 10) < 3 then (if eh_in q14 12 then Option.bind (eF_2_make s (eh_fp q14) p0 p1 p2) (fun q20 => eh_V (eh_tI q20 (eh_ep p0) 10 ((q20.1 (eh_ep p0) 10) + 1)) (fun s21 => Option.bind (eF_9_feedNumber s21 ((eh_ep p0) + 1) 3) (fun q22 => Option.bind (eF_9_feedNumber q22 ((eh_ep p0) + 1) p1) (fun q23 => Option.bind (eF_9_feedNumber q23 ((eh_ep p0) + 1) p2) (fun q24 => some (q14, q24)))))) else none) else (j15 ()))))) else (some ((-2), s)) else none))) else (j4 ())) else (j4 ()))) else (j4 ())))))
set_option maxHeartbeats 4000000 in
set_option maxRecDepth 100000 in
theorem eS_10_makeFibre (g : eh_P) (s : eh_F) (p0 : Int32) (p1 : Int32) (p2 : Int32) : eh_Sim g eM_10_makeFibre (eh_R 4 0 0) eh_eI 0 0 0 (eh_en 7 [.ref 123, .int p0, .int p1, .int p2]) [] (eh_FW s) (eF_10_makeFibre s p0 p1 p2) := by
  unfold eF_10_makeFibre
  refine ef_top (L := [some (.ref 123), some (.int p0), some (.int p1), some (.int p2), none, none, none]) rfl ?_
  refine es_blk (pc' := 1) (L' := [some (.ref 123), some (.int p0), some (.int p1), some (.int p2), none, none, none]) (st' := [.ref 123]) [(.aload_n 0, 0)] (by decide +kernel) rfl rfl ?_
  refine ef_getP (k := 123) (j := 0) (q := 1) rfl eL_10_9 rfl rfl rfl (by decide +kernel) ?_
  refine es_blk (pc' := 5) (L' := [some (.ref 123), some (.int p0), some (.int p1), some (.int p2), none, none, none]) (st' := [.int p0, .ref 1]) [(.iload_n 1, 0)] (by decide +kernel) rfl rfl ?_
  refine ef_vpI (d := 1) (k := 1) (As := [.int p0]) (st := []) eV_5_hasEnclave eK_10_150 (eS_5_hasEnclave g s p0) rfl rfl (Nat.le_of_ble_eq_true rfl) rfl (Nat.le_of_ble_eq_true rfl) ⟨Nat.le_of_ble_eq_true rfl, Nat.le_of_ble_eq_true rfl⟩ ⟨Nat.le_refl _, Nat.le_refl _⟩ (by decide +kernel) (fun q1 _ => ?_)
  refine es_ne (tgt := 13) (off := (5)) (by decide +kernel) (by decide) (fun h2 => ?_) (fun h2 => ?_)
  · refine es_blk (pc' := 12) (L' := [some (.ref 123), some (.int p0), some (.int p1), some (.int p2), none, none, none]) (st' := [.int (-1)]) [(.iconst (-1), (-1))] (by decide +kernel) rfl rfl ?_
    exact es_ret rfl rfl rfl ⟨by decide +kernel, _, rfl, rfl⟩ (Nat.le_refl _) (Nat.le_refl _)
  refine es_blk (pc' := 14) (L' := [some (.ref 123), some (.int p0), some (.int p1), some (.int p2), none, none, none]) (st' := [.ref 123]) [(.aload_n 0, 0)] (by decide +kernel) rfl rfl ?_
  refine ef_getP (k := 123) (j := 0) (q := 1) rfl eL_10_9 rfl rfl rfl (by decide +kernel) ?_
  refine es_blk (pc' := 18) (L' := [some (.ref 123), some (.int p0), some (.int p1), some (.int p2), none, none, none]) (st' := [.int p0, .ref 1]) [(.iload_n 1, 0)] (by decide +kernel) rfl rfl ?_
  refine ef_vpI (d := 1) (k := 1) (As := [.int p0]) (st := []) eV_5_sizeOf eK_10_154 (eS_5_sizeOf g s p0) rfl rfl (Nat.le_of_ble_eq_true rfl) rfl (Nat.le_of_ble_eq_true rfl) ⟨Nat.le_of_ble_eq_true rfl, Nat.le_of_ble_eq_true rfl⟩ ⟨Nat.le_refl _, Nat.le_refl _⟩ (by decide +kernel) (fun q3 _ => ?_)
  refine es_blk (pc' := 26) (L' := [some (.ref 123), some (.int p0), some (.int p1), some (.int p2), some (.int q3), none, none]) (st' := [.int (p1 &&& 3)]) [(.istore 4, 0), (.iload_n 2, 0), (.iconst 3, 3), (.iand, 0)] (by decide +kernel) rfl rfl ?_
  refine ef_J (X := fun j4 => ∀ (u5 : Unit), eh_Sim g eM_10_makeFibre (eh_R 4 0 0) eh_eI 0 0 56 [none, none, none, none, none, none, none] [] (eh_FW s) ((j4 u5).bind some)) ?_ (fun j4 Hj4 => ?_)
  · intro u5
    refine es_blk (pc' := 57) (L' := [none, none, none, none, none, none, none]) (st' := [.int (-1)]) [(.iconst (-1), (-1))] (by decide +kernel) rfl rfl ?_
    exact es_ret rfl rfl rfl ⟨by decide +kernel, _, rfl, rfl⟩ (Nat.le_refl _) (Nat.le_refl _)
  refine es_ne (tgt := 56) (off := (30)) (by decide +kernel) (by decide) (fun h6 => ?_) (fun h6 => ?_)
  · refine es_blk (pc' := 30) (L' := [some (.ref 123), some (.int p0), some (.int p1), some (.int p2), some (.int q3), none, none]) (st' := [.int p1]) [(.iload_n 2, 0)] (by decide +kernel) rfl rfl ?_
    refine es_lt (tgt := 56) (off := (26)) (by decide +kernel) (by decide) (fun h7 => ?_) (fun h7 => ?_)
    · refine ef_drop (L2 := [none, none, none, none, none, none, none]) [false, false, false, false, false, true, true] rfl rfl ?_
      exact Hj4 ()
    refine es_blk (pc' := 36) (L' := [some (.ref 123), some (.int p0), some (.int p1), some (.int p2), some (.int q3), none, none]) (st' := [.int q3, .int p1]) [(.iload_n 2, 0), (.iload 4, 0)] (by decide +kernel) rfl rfl ?_
    refine es_ige (tgt := 56) (off := (20)) (by decide +kernel) (by decide) (fun h8 => ?_) (fun h8 => ?_)
    · refine es_blk (pc' := 43) (L' := [some (.ref 123), some (.int p0), some (.int p1), some (.int p2), some (.int q3), none, none]) (st' := [.int (p2 &&& 15)]) [(.iload_n 3, 0), (.bipush 15, 15), (.iand, 0)] (by decide +kernel) rfl rfl ?_
      refine es_ne (tgt := 56) (off := (13)) (by decide +kernel) (by decide) (fun h9 => ?_) (fun h9 => ?_)
      · refine es_blk (pc' := 47) (L' := [some (.ref 123), some (.int p0), some (.int p1), some (.int p2), some (.int q3), none, none]) (st' := [.int p2]) [(.iload_n 3, 0)] (by decide +kernel) rfl rfl ?_
        refine es_lt (tgt := 56) (off := (9)) (by decide +kernel) (by decide) (fun h10 => ?_) (fun h10 => ?_)
        · refine ef_drop (L2 := [none, none, none, none, none, none, none]) [false, false, false, false, false, true, true] rfl rfl ?_
          exact Hj4 ()
        refine es_blk (pc' := 53) (L' := [some (.ref 123), some (.int p0), some (.int p1), some (.int p2), some (.int q3), none, none]) (st' := [.int q3, .int p2]) [(.iload_n 3, 0), (.iload 4, 0)] (by decide +kernel) rfl rfl ?_
        refine es_ile (tgt := 58) (off := (5)) (by decide +kernel) (by decide) (fun h11 => ?_) (fun h11 => ?_)
        · refine ef_drop (L2 := [none, none, none, none, none, none, none]) [false, false, false, false, false, true, true] rfl rfl ?_
          exact Hj4 ()
        refine es_blk (pc' := 59) (L' := [some (.ref 123), some (.int p0), some (.int p1), some (.int p2), some (.int q3), none, none]) (st' := [.ref 123]) [(.aload_n 0, 0)] (by decide +kernel) rfl rfl ?_
        refine ef_getP (k := 123) (j := 0) (q := 1) rfl eL_10_9 rfl rfl rfl (by decide +kernel) ?_
        refine ef_getP (k := 1) (j := 4) (q := 28) rfl eL_10_136 rfl rfl rfl (by decide +kernel) ?_
        refine es_blk (pc' := 66) (L' := [some (.ref 123), some (.int p0), some (.int p1), some (.int p2), some (.int q3), none, none]) (st' := [.int p0, .ref 28]) [(.iload_n 1, 0)] (by decide +kernel) rfl rfl ?_
        refine ef_encs (by decide +kernel) (fun h12 => ?_)
        refine es_blk (pc' := 71) (L' := [some (.ref 123), some (.int p0), some (.int p1), some (.int p2), some (.int q3), some (.ref (eh_ep p0)), none]) (st' := [.ref (eh_ep p0)]) [(.astore 5, 0), (.aload 5, 0)] (by decide +kernel) rfl rfl ?_
        refine ef_getI (k := (eh_ep p0)) (j := 5) (eh_E0sh h12) eL_10_146 (by decide) (by decide +kernel) ?_
        refine es_blk (pc' := 75) (L' := [some (.ref 123), some (.int p0), some (.int p1), some (.int p2), some (.int q3), some (.ref (eh_ep p0)), none]) (st' := [.int 1, .int (s.1 (eh_ep p0) 5)]) [(.iconst 1, 1)] (by decide +kernel) rfl rfl ?_
        refine es_ieq (tgt := 81) (off := (6)) (by decide +kernel) (by decide) (fun h13 => ?_) (fun h13 => ?_)
        · refine es_blk (pc' := 82) (L' := [some (.ref 123), some (.int p0), some (.int p1), some (.int p2), some (.int q3), some (.ref (eh_ep p0)), none]) (st' := [.ref 123]) [(.aload_n 0, 0)] (by decide +kernel) rfl rfl ?_
          refine ef_vpI (d := 1) (k := 123) (As := []) (st := []) eV_10_leastFreeFibre eK_10_180 (eS_10_leastFreeFibre g s) rfl rfl (Nat.le_of_ble_eq_true rfl) rfl (Nat.le_of_ble_eq_true rfl) ⟨Nat.le_of_ble_eq_true rfl, Nat.le_of_ble_eq_true rfl⟩ ⟨Nat.le_refl _, Nat.le_refl _⟩ (by decide +kernel) (fun q14 _ => ?_)
          refine es_blk (pc' := 90) (L' := [some (.ref 123), some (.int p0), some (.int p1), some (.int p2), some (.int q3), some (.ref (eh_ep p0)), some (.int q14)]) (st' := [.int (-1), .int q14]) [(.istore 6, 0), (.iload 6, 0), (.iconst (-1), (-1))] (by decide +kernel) rfl rfl ?_
          refine ef_J (X := fun j15 => ∀ (u16 : Unit), eh_Sim g eM_10_makeFibre (eh_R 4 0 0) eh_eI 0 0 102 [none, none, none, none, none, none, none] [] (eh_FW s) ((j15 u16).bind some)) ?_ (fun j15 Hj15 => ?_)
          · intro u16
            refine es_blk (pc' := 104) (L' := [none, none, none, none, none, none, none]) (st' := [.int (-5)]) [(.bipush (-5), (-5))] (by decide +kernel) rfl rfl ?_
            exact es_ret rfl rfl rfl ⟨by decide +kernel, _, rfl, rfl⟩ (Nat.le_refl _) (Nat.le_refl _)
          refine es_ieq (tgt := 102) (off := (12)) (by decide +kernel) (by decide) (fun h17 => ?_) (fun h17 => ?_)
          · refine ef_drop (L2 := [none, none, none, none, none, none, none]) [false, false, false, false, false, false, false] rfl rfl ?_
            exact Hj15 ()
          refine es_blk (pc' := 95) (L' := [some (.ref 123), some (.int p0), some (.int p1), some (.int p2), some (.int q3), some (.ref (eh_ep p0)), some (.int q14)]) (st' := [.ref (eh_ep p0)]) [(.aload 5, 0)] (by decide +kernel) rfl rfl ?_
          refine ef_getI (k := (eh_ep p0)) (j := 10) (eh_E0sh h12) eL_10_183 (by decide) (by decide +kernel) ?_
          refine es_blk (pc' := 99) (L' := [some (.ref 123), some (.int p0), some (.int p1), some (.int p2), some (.int q3), some (.ref (eh_ep p0)), some (.int q14)]) (st' := [.int 3, .int (s.1 (eh_ep p0) 10)]) [(.iconst 3, 3)] (by decide +kernel) rfl rfl ?_
          refine es_ilt (tgt := 105) (off := (6)) (by decide +kernel) (by decide) (fun h18 => ?_) (fun h18 => ?_)
          · refine es_blk (pc' := 106) (L' := [some (.ref 123), some (.int p0), some (.int p1), some (.int p2), some (.int q3), some (.ref (eh_ep p0)), some (.int q14)]) (st' := [.ref 123]) [(.aload_n 0, 0)] (by decide +kernel) rfl rfl ?_
            refine ef_getP (k := 123) (j := 0) (q := 1) rfl eL_10_9 rfl rfl rfl (by decide +kernel) ?_
            refine ef_getP (k := 1) (j := 3) (q := 27) rfl eL_10_186 rfl rfl rfl (by decide +kernel) ?_
            refine es_blk (pc' := 114) (L' := [some (.ref 123), some (.int p0), some (.int p1), some (.int p2), some (.int q3), some (.ref (eh_ep p0)), some (.int q14)]) (st' := [.int q14, .ref 27]) [(.iload 6, 0)] (by decide +kernel) rfl rfl ?_
            refine ef_fibres (by decide +kernel) (fun h19 => ?_)
            refine es_blk (pc' := 118) (L' := [some (.ref 123), some (.int p0), some (.int p1), some (.int p2), some (.int q3), some (.ref (eh_ep p0)), some (.int q14)]) (st' := [.int p2, .int p1, .int p0, .ref (eh_fp q14)]) [(.iload_n 1, 0), (.iload_n 2, 0), (.iload_n 3, 0)] (by decide +kernel) rfl rfl ?_
            refine ef_veV (d := 3) (k := (eh_fp q14)) (As := [.int p0, .int p1, .int p2]) (st := []) eV_2_make eK_10_189 (eS_2_make g s (eh_fp q14) p0 p1 p2 h19) (eh_F0sh h19) rfl (Nat.le_of_ble_eq_true rfl) rfl (Nat.le_of_ble_eq_true rfl) ⟨Nat.le_of_ble_eq_true rfl, Nat.le_of_ble_eq_true rfl⟩ ⟨Nat.le_refl _, Nat.le_refl _⟩ (by decide +kernel) (fun q20 _ => ?_)
            refine es_blk (pc' := 124) (L' := [some (.ref 123), some (.int p0), some (.int p1), some (.int p2), some (.int q3), some (.ref (eh_ep p0)), some (.int q14)]) (st' := [.ref (eh_ep p0), .ref (eh_ep p0)]) [(.aload 5, 0), (.dup, 0)] (by decide +kernel) rfl rfl ?_
            refine ef_getI (k := (eh_ep p0)) (j := 10) (eh_E0sh h12) eL_10_183 (by decide) (by decide +kernel) ?_
            refine es_blk (pc' := 129) (L' := [some (.ref 123), some (.int p0), some (.int p1), some (.int p2), some (.int q3), some (.ref (eh_ep p0)), some (.int q14)]) (st' := [.int ((q20.1 (eh_ep p0) 10) + 1), .ref (eh_ep p0)]) [(.iconst 1, 1), (.iadd, 0)] (by decide +kernel) rfl rfl ?_
            refine ef_putI (k := (eh_ep p0)) (j := 10) (eh_E0sh h12) eL_10_183 rfl rfl (by decide +kernel) ?_
            refine ef_V (fun _ => [some (.ref 123), some (.int p0), some (.int p1), some (.int p2), some (.int q3), some (.ref (eh_ep p0)), some (.int q14)]) (fun _ => []) (fun s21 => eh_FW s21) (fun s21 => ?_)
            refine es_blk (pc' := 134) (L' := [some (.ref 123), some (.int p0), some (.int p1), some (.int p2), some (.int q3), some (.ref (eh_ep p0)), some (.int q14)]) (st' := [.ref (eh_ep p0)]) [(.aload 5, 0)] (by decide +kernel) rfl rfl ?_
            refine ef_getP (k := (eh_ep p0)) (j := 0) (q := ((eh_ep p0) + 1)) (eh_E0sh h12) eL_10_163 rfl (eh_Ex h12 _).1 (eh_S0sh (eh_E1S h12)) (by decide +kernel) ?_
            refine es_blk (pc' := 138) (L' := [some (.ref 123), some (.int p0), some (.int p1), some (.int p2), some (.int q3), some (.ref (eh_ep p0)), some (.int q14)]) (st' := [.int 3, .ref ((eh_ep p0) + 1)]) [(.iconst 3, 3)] (by decide +kernel) rfl rfl ?_
            refine ef_veV (d := 2) (k := ((eh_ep p0) + 1)) (As := [.int 3]) (st := []) eV_9_feedNumber eK_10_167 (eS_9_feedNumber g s21 ((eh_ep p0) + 1) 3 (eh_E1S h12)) (eh_S0sh (eh_E1S h12)) rfl (Nat.le_of_ble_eq_true rfl) rfl (Nat.le_of_ble_eq_true rfl) ⟨Nat.le_of_ble_eq_true rfl, Nat.le_of_ble_eq_true rfl⟩ ⟨Nat.le_refl _, Nat.le_refl _⟩ (by decide +kernel) (fun q22 _ => ?_)
            refine es_blk (pc' := 143) (L' := [some (.ref 123), some (.int p0), some (.int p1), some (.int p2), some (.int q3), some (.ref (eh_ep p0)), some (.int q14)]) (st' := [.ref (eh_ep p0)]) [(.aload 5, 0)] (by decide +kernel) rfl rfl ?_
            refine ef_getP (k := (eh_ep p0)) (j := 0) (q := ((eh_ep p0) + 1)) (eh_E0sh h12) eL_10_163 rfl (eh_Ex h12 _).1 (eh_S0sh (eh_E1S h12)) (by decide +kernel) ?_
            refine es_blk (pc' := 147) (L' := [some (.ref 123), some (.int p0), some (.int p1), some (.int p2), some (.int q3), some (.ref (eh_ep p0)), some (.int q14)]) (st' := [.int p1, .ref ((eh_ep p0) + 1)]) [(.iload_n 2, 0)] (by decide +kernel) rfl rfl ?_
            refine ef_veV (d := 2) (k := ((eh_ep p0) + 1)) (As := [.int p1]) (st := []) eV_9_feedNumber eK_10_167 (eS_9_feedNumber g q22 ((eh_ep p0) + 1) p1 (eh_E1S h12)) (eh_S0sh (eh_E1S h12)) rfl (Nat.le_of_ble_eq_true rfl) rfl (Nat.le_of_ble_eq_true rfl) ⟨Nat.le_of_ble_eq_true rfl, Nat.le_of_ble_eq_true rfl⟩ ⟨Nat.le_refl _, Nat.le_refl _⟩ (by decide +kernel) (fun q23 _ => ?_)
            refine es_blk (pc' := 152) (L' := [some (.ref 123), some (.int p0), some (.int p1), some (.int p2), some (.int q3), some (.ref (eh_ep p0)), some (.int q14)]) (st' := [.ref (eh_ep p0)]) [(.aload 5, 0)] (by decide +kernel) rfl rfl ?_
            refine ef_getP (k := (eh_ep p0)) (j := 0) (q := ((eh_ep p0) + 1)) (eh_E0sh h12) eL_10_163 rfl (eh_Ex h12 _).1 (eh_S0sh (eh_E1S h12)) (by decide +kernel) ?_
            refine es_blk (pc' := 156) (L' := [some (.ref 123), some (.int p0), some (.int p1), some (.int p2), some (.int q3), some (.ref (eh_ep p0)), some (.int q14)]) (st' := [.int p2, .ref ((eh_ep p0) + 1)]) [(.iload_n 3, 0)] (by decide +kernel) rfl rfl ?_
            refine ef_veV (d := 2) (k := ((eh_ep p0) + 1)) (As := [.int p2]) (st := []) eV_9_feedNumber eK_10_167 (eS_9_feedNumber g q23 ((eh_ep p0) + 1) p2 (eh_E1S h12)) (eh_S0sh (eh_E1S h12)) rfl (Nat.le_of_ble_eq_true rfl) rfl (Nat.le_of_ble_eq_true rfl) ⟨Nat.le_of_ble_eq_true rfl, Nat.le_of_ble_eq_true rfl⟩ ⟨Nat.le_refl _, Nat.le_refl _⟩ (by decide +kernel) (fun q24 _ => ?_)
            refine es_blk (pc' := 161) (L' := [some (.ref 123), some (.int p0), some (.int p1), some (.int p2), some (.int q3), some (.ref (eh_ep p0)), some (.int q14)]) (st' := [.int q14]) [(.iload 6, 0)] (by decide +kernel) rfl rfl ?_
            exact es_ret rfl rfl rfl ⟨by decide +kernel, _, rfl, rfl⟩ (Nat.le_refl _) (Nat.le_refl _)
          refine ef_drop (L2 := [none, none, none, none, none, none, none]) [false, false, false, false, false, false, false] rfl rfl ?_
          exact Hj15 ()
        refine es_blk (pc' := 80) (L' := [some (.ref 123), some (.int p0), some (.int p1), some (.int p2), some (.int q3), some (.ref (eh_ep p0)), none]) (st' := [.int (-2)]) [(.bipush (-2), (-2))] (by decide +kernel) rfl rfl ?_
        exact es_ret rfl rfl rfl ⟨by decide +kernel, _, rfl, rfl⟩ (Nat.le_refl _) (Nat.le_refl _)
      refine ef_drop (L2 := [none, none, none, none, none, none, none]) [false, false, false, false, false, true, true] rfl rfl ?_
      exact Hj4 ()
    refine ef_drop (L2 := [none, none, none, none, none, none, none]) [false, false, false, false, false, true, true] rfl rfl ?_
    exact Hj4 ()
  refine ef_drop (L2 := [none, none, none, none, none, none, none]) [false, false, false, false, false, true, true] rfl rfl ?_
  exact Hj4 ()
def eF_10_finalise (s : eh_F) (p0 : Int32) (p1 : Int32) : Option (Int32 × eh_F) := Option.bind (eF_5_hasEnclave s p0) (fun q1 => eh_J (fun (u3 : Unit) => some ((-1), s)) (fun j2 => if q1 = 0 then (j2 ()) else (if p1 < 0 then (j2 ()) else (if 1 < p1 then (j2 ()) else (if eh_in p0 6 then if (s.1 (eh_ep p0) 5) = 1 then (if eh_in p0 6 then Option.bind (eF_1_finish s (eh_ep p0) p1) (fun q10 => some (0, q10)) else none) else (some ((-2), s)) else none)))))
set_option maxHeartbeats 4000000 in
set_option maxRecDepth 100000 in
theorem eS_10_finalise (g : eh_P) (s : eh_F) (p0 : Int32) (p1 : Int32) : eh_Sim g eM_10_finalise (eh_R 4 0 0) eh_eI 0 0 0 (eh_en 3 [.ref 123, .int p0, .int p1]) [] (eh_FW s) (eF_10_finalise s p0 p1) := by
  unfold eF_10_finalise
  refine ef_top (L := [some (.ref 123), some (.int p0), some (.int p1)]) rfl ?_
  refine es_blk (pc' := 1) (L' := [some (.ref 123), some (.int p0), some (.int p1)]) (st' := [.ref 123]) [(.aload_n 0, 0)] (by decide +kernel) rfl rfl ?_
  refine ef_getP (k := 123) (j := 0) (q := 1) rfl eL_10_9 rfl rfl rfl (by decide +kernel) ?_
  refine es_blk (pc' := 5) (L' := [some (.ref 123), some (.int p0), some (.int p1)]) (st' := [.int p0, .ref 1]) [(.iload_n 1, 0)] (by decide +kernel) rfl rfl ?_
  refine ef_vpI (d := 1) (k := 1) (As := [.int p0]) (st := []) eV_5_hasEnclave eK_10_150 (eS_5_hasEnclave g s p0) rfl rfl (Nat.le_of_ble_eq_true rfl) rfl (Nat.le_of_ble_eq_true rfl) ⟨Nat.le_of_ble_eq_true rfl, Nat.le_of_ble_eq_true rfl⟩ ⟨Nat.le_refl _, Nat.le_refl _⟩ (by decide +kernel) (fun q1 _ => ?_)
  refine ef_J (X := fun j2 => ∀ (u3 : Unit), eh_Sim g eM_10_finalise (eh_R 4 0 0) eh_eI 0 0 20 [none, none, none] [] (eh_FW s) ((j2 u3).bind some)) ?_ (fun j2 Hj2 => ?_)
  · intro u3
    refine es_blk (pc' := 21) (L' := [none, none, none]) (st' := [.int (-1)]) [(.iconst (-1), (-1))] (by decide +kernel) rfl rfl ?_
    exact es_ret rfl rfl rfl ⟨by decide +kernel, _, rfl, rfl⟩ (Nat.le_refl _) (Nat.le_refl _)
  refine es_eq (tgt := 20) (off := (12)) (by decide +kernel) (by decide) (fun h4 => ?_) (fun h4 => ?_)
  · refine ef_drop (L2 := [none, none, none]) [false, false, false] rfl rfl ?_
    exact Hj2 ()
  refine es_blk (pc' := 12) (L' := [some (.ref 123), some (.int p0), some (.int p1)]) (st' := [.int p1]) [(.iload_n 2, 0)] (by decide +kernel) rfl rfl ?_
  refine es_lt (tgt := 20) (off := (8)) (by decide +kernel) (by decide) (fun h5 => ?_) (fun h5 => ?_)
  · refine ef_drop (L2 := [none, none, none]) [false, false, false] rfl rfl ?_
    exact Hj2 ()
  refine es_blk (pc' := 17) (L' := [some (.ref 123), some (.int p0), some (.int p1)]) (st' := [.int 1, .int p1]) [(.iload_n 2, 0), (.iconst 1, 1)] (by decide +kernel) rfl rfl ?_
  refine es_ile (tgt := 22) (off := (5)) (by decide +kernel) (by decide) (fun h6 => ?_) (fun h6 => ?_)
  · refine ef_drop (L2 := [none, none, none]) [false, false, false] rfl rfl ?_
    exact Hj2 ()
  refine es_blk (pc' := 23) (L' := [some (.ref 123), some (.int p0), some (.int p1)]) (st' := [.ref 123]) [(.aload_n 0, 0)] (by decide +kernel) rfl rfl ?_
  refine ef_getP (k := 123) (j := 0) (q := 1) rfl eL_10_9 rfl rfl rfl (by decide +kernel) ?_
  refine ef_getP (k := 1) (j := 4) (q := 28) rfl eL_10_136 rfl rfl rfl (by decide +kernel) ?_
  refine es_blk (pc' := 30) (L' := [some (.ref 123), some (.int p0), some (.int p1)]) (st' := [.int p0, .ref 28]) [(.iload_n 1, 0)] (by decide +kernel) rfl rfl ?_
  refine ef_encs (by decide +kernel) (fun h7 => ?_)
  refine ef_getI (k := (eh_ep p0)) (j := 5) (eh_E0sh h7) eL_10_146 (by decide) (by decide +kernel) ?_
  refine es_blk (pc' := 35) (L' := [some (.ref 123), some (.int p0), some (.int p1)]) (st' := [.int 1, .int (s.1 (eh_ep p0) 5)]) [(.iconst 1, 1)] (by decide +kernel) rfl rfl ?_
  refine es_ieq (tgt := 41) (off := (6)) (by decide +kernel) (by decide) (fun h8 => ?_) (fun h8 => ?_)
  · refine es_blk (pc' := 42) (L' := [some (.ref 123), some (.int p0), some (.int p1)]) (st' := [.ref 123]) [(.aload_n 0, 0)] (by decide +kernel) rfl rfl ?_
    refine ef_getP (k := 123) (j := 0) (q := 1) rfl eL_10_9 rfl rfl rfl (by decide +kernel) ?_
    refine ef_getP (k := 1) (j := 4) (q := 28) rfl eL_10_136 rfl rfl rfl (by decide +kernel) ?_
    refine es_blk (pc' := 49) (L' := [some (.ref 123), some (.int p0), some (.int p1)]) (st' := [.int p0, .ref 28]) [(.iload_n 1, 0)] (by decide +kernel) rfl rfl ?_
    refine ef_encs (by decide +kernel) (fun h9 => ?_)
    refine es_blk (pc' := 51) (L' := [some (.ref 123), some (.int p0), some (.int p1)]) (st' := [.int p1, .ref (eh_ep p0)]) [(.iload_n 2, 0)] (by decide +kernel) rfl rfl ?_
    refine ef_veV (d := 3) (k := (eh_ep p0)) (As := [.int p1]) (st := []) eV_1_finish eK_10_194 (eS_1_finish g s (eh_ep p0) p1 h9) (eh_E0sh h9) rfl (Nat.le_of_ble_eq_true rfl) rfl (Nat.le_of_ble_eq_true rfl) ⟨Nat.le_of_ble_eq_true rfl, Nat.le_of_ble_eq_true rfl⟩ ⟨Nat.le_refl _, Nat.le_refl _⟩ (by decide +kernel) (fun q10 _ => ?_)
    refine es_blk (pc' := 55) (L' := [some (.ref 123), some (.int p0), some (.int p1)]) (st' := [.int 0]) [(.iconst 0, 0)] (by decide +kernel) rfl rfl ?_
    exact es_ret rfl rfl rfl ⟨by decide +kernel, _, rfl, rfl⟩ (Nat.le_refl _) (Nat.le_refl _)
  refine es_blk (pc' := 40) (L' := [some (.ref 123), some (.int p0), some (.int p1)]) (st' := [.int (-2)]) [(.bipush (-2), (-2))] (by decide +kernel) rfl rfl ?_
  exact es_ret rfl rfl rfl ⟨by decide +kernel, _, rfl, rfl⟩ (Nat.le_refl _) (Nat.le_refl _)
def eF_10_enter (s : eh_F) (p0 : Nat) (p1 : Int32) (p2 : Int32) (p3 : Int32) : Option (Int32 × eh_F) := Option.bind (eF_5_hasFibre s p1) (fun q1 => if q1 = 0 then (some ((-1), s)) else (if eh_in p1 12 then if eh_in (s.1 (eh_fp p1) 3) 6 then eh_J (fun (u6 : Unit) => some ((-2), s)) (fun j5 => if (s.1 (eh_ep (s.1 (eh_fp p1) 3)) 5) = 2 then (if (s.1 (eh_fp p1) 6) = 1 then (Option.bind (eF_5_baseOf s (s.1 (eh_fp p1) 3)) (fun q9 => Option.bind (eF_2_enter s (eh_fp p1) q9 p2 p3) (fun q10 => Option.bind (eF_5_begin q10 p0 (eh_fp p1)) (fun q11 => some (p1, q11))))) else (j5 ())) else (j5 ())) else none else none))
set_option maxHeartbeats 4000000 in
set_option maxRecDepth 100000 in
theorem eS_10_enter (g : eh_P) (s : eh_F) (p0 : Nat) (p1 : Int32) (p2 : Int32) (p3 : Int32) (hp0 : eh_okH p0 = true) : eh_Sim g eM_10_enter (eh_R 4 0 0) eh_eI 0 0 0 (eh_en 6 [.ref 123, .ref p0, .int p1, .int p2, .int p3]) [] (eh_FW s) (eF_10_enter s p0 p1 p2 p3) := by
  unfold eF_10_enter
  refine ef_top (L := [some (.ref 123), some (.ref p0), some (.int p1), some (.int p2), some (.int p3), none]) rfl ?_
  refine es_blk (pc' := 1) (L' := [some (.ref 123), some (.ref p0), some (.int p1), some (.int p2), some (.int p3), none]) (st' := [.ref 123]) [(.aload_n 0, 0)] (by decide +kernel) rfl rfl ?_
  refine ef_getP (k := 123) (j := 0) (q := 1) rfl eL_10_9 rfl rfl rfl (by decide +kernel) ?_
  refine es_blk (pc' := 5) (L' := [some (.ref 123), some (.ref p0), some (.int p1), some (.int p2), some (.int p3), none]) (st' := [.int p1, .ref 1]) [(.iload_n 2, 0)] (by decide +kernel) rfl rfl ?_
  refine ef_vpI (d := 1) (k := 1) (As := [.int p1]) (st := []) eV_5_hasFibre eK_10_197 (eS_5_hasFibre g s p1) rfl rfl (Nat.le_of_ble_eq_true rfl) rfl (Nat.le_of_ble_eq_true rfl) ⟨Nat.le_of_ble_eq_true rfl, Nat.le_of_ble_eq_true rfl⟩ ⟨Nat.le_refl _, Nat.le_refl _⟩ (by decide +kernel) (fun q1 _ => ?_)
  refine es_ne (tgt := 13) (off := (5)) (by decide +kernel) (by decide) (fun h2 => ?_) (fun h2 => ?_)
  · refine es_blk (pc' := 12) (L' := [some (.ref 123), some (.ref p0), some (.int p1), some (.int p2), some (.int p3), none]) (st' := [.int (-1)]) [(.iconst (-1), (-1))] (by decide +kernel) rfl rfl ?_
    exact es_ret rfl rfl rfl ⟨by decide +kernel, _, rfl, rfl⟩ (Nat.le_refl _) (Nat.le_refl _)
  refine es_blk (pc' := 14) (L' := [some (.ref 123), some (.ref p0), some (.int p1), some (.int p2), some (.int p3), none]) (st' := [.ref 123]) [(.aload_n 0, 0)] (by decide +kernel) rfl rfl ?_
  refine ef_getP (k := 123) (j := 0) (q := 1) rfl eL_10_9 rfl rfl rfl (by decide +kernel) ?_
  refine ef_getP (k := 1) (j := 3) (q := 27) rfl eL_10_186 rfl rfl rfl (by decide +kernel) ?_
  refine es_blk (pc' := 21) (L' := [some (.ref 123), some (.ref p0), some (.int p1), some (.int p2), some (.int p3), none]) (st' := [.int p1, .ref 27]) [(.iload_n 2, 0)] (by decide +kernel) rfl rfl ?_
  refine ef_fibres (by decide +kernel) (fun h3 => ?_)
  refine es_blk (pc' := 25) (L' := [some (.ref 123), some (.ref p0), some (.int p1), some (.int p2), some (.int p3), some (.ref (eh_fp p1))]) (st' := [.ref 123]) [(.astore 5, 0), (.aload_n 0, 0)] (by decide +kernel) rfl rfl ?_
  refine ef_getP (k := 123) (j := 0) (q := 1) rfl eL_10_9 rfl rfl rfl (by decide +kernel) ?_
  refine ef_getP (k := 1) (j := 4) (q := 28) rfl eL_10_136 rfl rfl rfl (by decide +kernel) ?_
  refine es_blk (pc' := 33) (L' := [some (.ref 123), some (.ref p0), some (.int p1), some (.int p2), some (.int p3), some (.ref (eh_fp p1))]) (st' := [.ref (eh_fp p1), .ref 28]) [(.aload 5, 0)] (by decide +kernel) rfl rfl ?_
  refine ef_getI (k := (eh_fp p1)) (j := 3) (eh_F0sh h3) eL_10_200 (by decide) (by decide +kernel) ?_
  refine ef_encs (by decide +kernel) (fun h4 => ?_)
  refine ef_getI (k := (eh_ep (s.1 (eh_fp p1) 3))) (j := 5) (eh_E0sh h4) eL_10_146 (by decide) (by decide +kernel) ?_
  refine es_blk (pc' := 41) (L' := [some (.ref 123), some (.ref p0), some (.int p1), some (.int p2), some (.int p3), some (.ref (eh_fp p1))]) (st' := [.int 2, .int (s.1 (eh_ep (s.1 (eh_fp p1) 3)) 5)]) [(.iconst 2, 2)] (by decide +kernel) rfl rfl ?_
  refine ef_J (X := fun j5 => ∀ (u6 : Unit), eh_Sim g eM_10_enter (eh_R 4 0 0) eh_eI 0 0 53 [none, none, none, none, none, none] [] (eh_FW s) ((j5 u6).bind some)) ?_ (fun j5 Hj5 => ?_)
  · intro u6
    refine es_blk (pc' := 55) (L' := [none, none, none, none, none, none]) (st' := [.int (-2)]) [(.bipush (-2), (-2))] (by decide +kernel) rfl rfl ?_
    exact es_ret rfl rfl rfl ⟨by decide +kernel, _, rfl, rfl⟩ (Nat.le_refl _) (Nat.le_refl _)
  refine es_ine (tgt := 53) (off := (12)) (by decide +kernel) (by decide) (fun h7 => ?_) (fun h7 => ?_)
  · refine es_blk (pc' := 46) (L' := [some (.ref 123), some (.ref p0), some (.int p1), some (.int p2), some (.int p3), some (.ref (eh_fp p1))]) (st' := [.ref (eh_fp p1)]) [(.aload 5, 0)] (by decide +kernel) rfl rfl ?_
    refine ef_getI (k := (eh_fp p1)) (j := 6) (eh_F0sh h3) eL_10_193 (by decide) (by decide +kernel) ?_
    refine es_blk (pc' := 50) (L' := [some (.ref 123), some (.ref p0), some (.int p1), some (.int p2), some (.int p3), some (.ref (eh_fp p1))]) (st' := [.int 1, .int (s.1 (eh_fp p1) 6)]) [(.iconst 1, 1)] (by decide +kernel) rfl rfl ?_
    refine es_ieq (tgt := 56) (off := (6)) (by decide +kernel) (by decide) (fun h8 => ?_) (fun h8 => ?_)
    · refine es_blk (pc' := 59) (L' := [some (.ref 123), some (.ref p0), some (.int p1), some (.int p2), some (.int p3), some (.ref (eh_fp p1))]) (st' := [.ref 123, .ref (eh_fp p1)]) [(.aload 5, 0), (.aload_n 0, 0)] (by decide +kernel) rfl rfl ?_
      refine ef_getP (k := 123) (j := 0) (q := 1) rfl eL_10_9 rfl rfl rfl (by decide +kernel) ?_
      refine es_blk (pc' := 64) (L' := [some (.ref 123), some (.ref p0), some (.int p1), some (.int p2), some (.int p3), some (.ref (eh_fp p1))]) (st' := [.ref (eh_fp p1), .ref 1, .ref (eh_fp p1)]) [(.aload 5, 0)] (by decide +kernel) rfl rfl ?_
      refine ef_getI (k := (eh_fp p1)) (j := 3) (eh_F0sh h3) eL_10_200 (by decide) (by decide +kernel) ?_
      refine ef_vpI (d := 1) (k := 1) (As := [.int (s.1 (eh_fp p1) 3)]) (st := [.ref (eh_fp p1)]) eV_5_baseOf eK_10_160 (eS_5_baseOf g s (s.1 (eh_fp p1) 3)) rfl rfl (Nat.le_of_ble_eq_true rfl) rfl (Nat.le_of_ble_eq_true rfl) ⟨Nat.le_of_ble_eq_true rfl, Nat.le_of_ble_eq_true rfl⟩ ⟨Nat.le_refl _, Nat.le_refl _⟩ (by decide +kernel) (fun q9 _ => ?_)
      refine es_blk (pc' := 73) (L' := [some (.ref 123), some (.ref p0), some (.int p1), some (.int p2), some (.int p3), some (.ref (eh_fp p1))]) (st' := [.int p3, .int p2, .int q9, .ref (eh_fp p1)]) [(.iload_n 3, 0), (.iload 4, 0)] (by decide +kernel) rfl rfl ?_
      refine ef_veV (d := 3) (k := (eh_fp p1)) (As := [.int q9, .int p2, .int p3]) (st := []) eV_2_enter eK_10_203 (eS_2_enter g s (eh_fp p1) q9 p2 p3 h3) (eh_F0sh h3) rfl (Nat.le_of_ble_eq_true rfl) rfl (Nat.le_of_ble_eq_true rfl) ⟨Nat.le_of_ble_eq_true rfl, Nat.le_of_ble_eq_true rfl⟩ ⟨Nat.le_refl _, Nat.le_refl _⟩ (by decide +kernel) (fun q10 _ => ?_)
      refine es_blk (pc' := 77) (L' := [some (.ref 123), some (.ref p0), some (.int p1), some (.int p2), some (.int p3), some (.ref (eh_fp p1))]) (st' := [.ref 123]) [(.aload_n 0, 0)] (by decide +kernel) rfl rfl ?_
      refine ef_getP (k := 123) (j := 0) (q := 1) rfl eL_10_9 rfl rfl rfl (by decide +kernel) ?_
      refine es_blk (pc' := 83) (L' := [some (.ref 123), some (.ref p0), some (.int p1), some (.int p2), some (.int p3), some (.ref (eh_fp p1))]) (st' := [.ref (eh_fp p1), .ref p0, .ref 1]) [(.aload_n 1, 0), (.aload 5, 0)] (by decide +kernel) rfl rfl ?_
      refine ef_veV (d := 2) (k := 1) (As := [.ref p0, .ref (eh_fp p1)]) (st := []) eV_5_begin eK_10_205 (eS_5_begin g q10 p0 (eh_fp p1) hp0 h3) rfl rfl (Nat.le_of_ble_eq_true rfl) rfl (Nat.le_of_ble_eq_true rfl) ⟨Nat.le_of_ble_eq_true rfl, Nat.le_of_ble_eq_true rfl⟩ ⟨Nat.le_refl _, Nat.le_refl _⟩ (by decide +kernel) (fun q11 _ => ?_)
      refine es_blk (pc' := 87) (L' := [some (.ref 123), some (.ref p0), some (.int p1), some (.int p2), some (.int p3), some (.ref (eh_fp p1))]) (st' := [.int p1]) [(.iload_n 2, 0)] (by decide +kernel) rfl rfl ?_
      exact es_ret rfl rfl rfl ⟨by decide +kernel, _, rfl, rfl⟩ (Nat.le_refl _) (Nat.le_refl _)
    refine ef_drop (L2 := [none, none, none, none, none, none]) [false, false, false, false, false, false] rfl rfl ?_
    exact Hj5 ()
  refine ef_drop (L2 := [none, none, none, none, none, none]) [false, false, false, false, false, false] rfl rfl ?_
  exact Hj5 ()
def eF_10_share (s : eh_F) (p0 : Int32) (p1 : Int32) (p2 : Int32) : Option (Int32 × eh_F) := Option.bind (eF_5_hasEnclave s p0) (fun q1 => eh_J (fun (u3 : Unit) => some ((-1), s)) (fun j2 => if q1 = 0 then (j2 ()) else (Option.bind (eF_6_isSpan s p1 p2) (fun q5 => if q5 = 0 then (j2 ()) else (if eh_in p0 6 then if (s.1 (eh_ep p0) 5) = 3 then (some ((-2), s)) else (Option.bind (eF_10_giveRegion s 2 p1 p2 p0 (-1)) (fun q9 => some (q9.1, q9.2))) else none)))))
set_option maxHeartbeats 4000000 in
set_option maxRecDepth 100000 in
theorem eS_10_share (g : eh_P) (s : eh_F) (p0 : Int32) (p1 : Int32) (p2 : Int32) : eh_Sim g eM_10_share (eh_R 4 0 0) eh_eI 0 0 0 (eh_en 4 [.ref 123, .int p0, .int p1, .int p2]) [] (eh_FW s) (eF_10_share s p0 p1 p2) := by
  unfold eF_10_share
  refine ef_top (L := [some (.ref 123), some (.int p0), some (.int p1), some (.int p2)]) rfl ?_
  refine es_blk (pc' := 1) (L' := [some (.ref 123), some (.int p0), some (.int p1), some (.int p2)]) (st' := [.ref 123]) [(.aload_n 0, 0)] (by decide +kernel) rfl rfl ?_
  refine ef_getP (k := 123) (j := 0) (q := 1) rfl eL_10_9 rfl rfl rfl (by decide +kernel) ?_
  refine es_blk (pc' := 5) (L' := [some (.ref 123), some (.int p0), some (.int p1), some (.int p2)]) (st' := [.int p0, .ref 1]) [(.iload_n 1, 0)] (by decide +kernel) rfl rfl ?_
  refine ef_vpI (d := 1) (k := 1) (As := [.int p0]) (st := []) eV_5_hasEnclave eK_10_150 (eS_5_hasEnclave g s p0) rfl rfl (Nat.le_of_ble_eq_true rfl) rfl (Nat.le_of_ble_eq_true rfl) ⟨Nat.le_of_ble_eq_true rfl, Nat.le_of_ble_eq_true rfl⟩ ⟨Nat.le_refl _, Nat.le_refl _⟩ (by decide +kernel) (fun q1 _ => ?_)
  refine ef_J (X := fun j2 => ∀ (u3 : Unit), eh_Sim g eM_10_share (eh_R 4 0 0) eh_eI 0 0 19 [none, none, none, none] [] (eh_FW s) ((j2 u3).bind some)) ?_ (fun j2 Hj2 => ?_)
  · intro u3
    refine es_blk (pc' := 20) (L' := [none, none, none, none]) (st' := [.int (-1)]) [(.iconst (-1), (-1))] (by decide +kernel) rfl rfl ?_
    exact es_ret rfl rfl rfl ⟨by decide +kernel, _, rfl, rfl⟩ (Nat.le_refl _) (Nat.le_refl _)
  refine es_eq (tgt := 19) (off := (11)) (by decide +kernel) (by decide) (fun h4 => ?_) (fun h4 => ?_)
  · refine ef_drop (L2 := [none, none, none, none]) [false, false, false, false] rfl rfl ?_
    exact Hj2 ()
  refine es_blk (pc' := 13) (L' := [some (.ref 123), some (.int p0), some (.int p1), some (.int p2)]) (st' := [.int p2, .int p1]) [(.iload_n 2, 0), (.iload_n 3, 0)] (by decide +kernel) rfl rfl ?_
  refine ef_spI (d := 1) (As := [.int p1, .int p2]) (st := []) eV_6_isSpan eK_10_117 (eS_6_isSpan g s p1 p2) rfl (Nat.le_of_ble_eq_true rfl) rfl (Nat.le_of_ble_eq_true rfl) ⟨Nat.le_of_ble_eq_true rfl, Nat.le_of_ble_eq_true rfl⟩ ⟨Nat.le_refl _, Nat.le_refl _⟩ (by decide +kernel) (fun q5 _ => ?_)
  refine es_ne (tgt := 21) (off := (5)) (by decide +kernel) (by decide) (fun h6 => ?_) (fun h6 => ?_)
  · refine ef_drop (L2 := [none, none, none, none]) [false, false, false, false] rfl rfl ?_
    exact Hj2 ()
  refine es_blk (pc' := 22) (L' := [some (.ref 123), some (.int p0), some (.int p1), some (.int p2)]) (st' := [.ref 123]) [(.aload_n 0, 0)] (by decide +kernel) rfl rfl ?_
  refine ef_getP (k := 123) (j := 0) (q := 1) rfl eL_10_9 rfl rfl rfl (by decide +kernel) ?_
  refine ef_getP (k := 1) (j := 4) (q := 28) rfl eL_10_136 rfl rfl rfl (by decide +kernel) ?_
  refine es_blk (pc' := 29) (L' := [some (.ref 123), some (.int p0), some (.int p1), some (.int p2)]) (st' := [.int p0, .ref 28]) [(.iload_n 1, 0)] (by decide +kernel) rfl rfl ?_
  refine ef_encs (by decide +kernel) (fun h7 => ?_)
  refine ef_getI (k := (eh_ep p0)) (j := 5) (eh_E0sh h7) eL_10_146 (by decide) (by decide +kernel) ?_
  refine es_blk (pc' := 34) (L' := [some (.ref 123), some (.int p0), some (.int p1), some (.int p2)]) (st' := [.int 3, .int (s.1 (eh_ep p0) 5)]) [(.iconst 3, 3)] (by decide +kernel) rfl rfl ?_
  refine es_ine (tgt := 40) (off := (6)) (by decide +kernel) (by decide) (fun h8 => ?_) (fun h8 => ?_)
  · refine es_blk (pc' := 39) (L' := [some (.ref 123), some (.int p0), some (.int p1), some (.int p2)]) (st' := [.int (-2)]) [(.bipush (-2), (-2))] (by decide +kernel) rfl rfl ?_
    exact es_ret rfl rfl rfl ⟨by decide +kernel, _, rfl, rfl⟩ (Nat.le_refl _) (Nat.le_refl _)
  refine es_blk (pc' := 46) (L' := [some (.ref 123), some (.int p0), some (.int p1), some (.int p2)]) (st' := [.int (-1), .int p0, .int p2, .int p1, .int 2, .ref 123]) [(.aload_n 0, 0), (.iconst 2, 2), (.iload_n 2, 0), (.iload_n 3, 0), (.iload_n 1, 0), (.iconst (-1), (-1))] (by decide +kernel) rfl rfl ?_
  refine ef_veI (d := 3) (k := 123) (As := [.int 2, .int p1, .int p2, .int p0, .int (-1)]) (st := []) eV_10_giveRegion eK_10_228 (eS_10_giveRegion g s 2 p1 p2 p0 (-1)) rfl rfl (Nat.le_of_ble_eq_true rfl) rfl (Nat.le_of_ble_eq_true rfl) ⟨Nat.le_of_ble_eq_true rfl, Nat.le_of_ble_eq_true rfl⟩ ⟨Nat.le_refl _, Nat.le_refl _⟩ (by decide +kernel) (fun q9 _ => ?_)
  exact es_ret rfl rfl rfl ⟨by decide +kernel, _, rfl, rfl⟩ (Nat.le_refl _) (Nat.le_refl _)
def eF_10_join (s : eh_F) (p0 : Int32) (p1 : Int32) (p2 : Int32) (p3 : Int32) : Option (Int32 × eh_F) := Option.bind (eF_5_hasEnclave s p0) (fun q1 => eh_J (fun (u3 : Unit) => some ((-1), s)) (fun j2 => if q1 = 0 then (j2 ()) else (Option.bind (eF_5_hasEnclave s p1) (fun q5 => if q5 = 0 then (j2 ()) else (if p0 = p1 then (j2 ()) else (Option.bind (eF_6_isSpan s p2 p3) (fun q8 => if q8 = 0 then (some ((-1), s)) else (if eh_in p0 6 then eh_J (fun (u12 : Unit) => some ((-2), s)) (fun j11 => if (s.1 (eh_ep p0) 5) = 3 then (j11 ()) else (if eh_in p1 6 then if (s.1 (eh_ep p1) 5) = 3 then (j11 ()) else (Option.bind (eF_10_giveRegion s 3 p2 p3 p0 p1) (fun q16 => some (q16.1, q16.2))) else none)) else none))))))))
set_option maxHeartbeats 4000000 in
set_option maxRecDepth 100000 in
theorem eS_10_join (g : eh_P) (s : eh_F) (p0 : Int32) (p1 : Int32) (p2 : Int32) (p3 : Int32) : eh_Sim g eM_10_join (eh_R 4 0 0) eh_eI 0 0 0 (eh_en 5 [.ref 123, .int p0, .int p1, .int p2, .int p3]) [] (eh_FW s) (eF_10_join s p0 p1 p2 p3) := by
  unfold eF_10_join
  refine ef_top (L := [some (.ref 123), some (.int p0), some (.int p1), some (.int p2), some (.int p3)]) rfl ?_
  refine es_blk (pc' := 1) (L' := [some (.ref 123), some (.int p0), some (.int p1), some (.int p2), some (.int p3)]) (st' := [.ref 123]) [(.aload_n 0, 0)] (by decide +kernel) rfl rfl ?_
  refine ef_getP (k := 123) (j := 0) (q := 1) rfl eL_10_9 rfl rfl rfl (by decide +kernel) ?_
  refine es_blk (pc' := 5) (L' := [some (.ref 123), some (.int p0), some (.int p1), some (.int p2), some (.int p3)]) (st' := [.int p0, .ref 1]) [(.iload_n 1, 0)] (by decide +kernel) rfl rfl ?_
  refine ef_vpI (d := 1) (k := 1) (As := [.int p0]) (st := []) eV_5_hasEnclave eK_10_150 (eS_5_hasEnclave g s p0) rfl rfl (Nat.le_of_ble_eq_true rfl) rfl (Nat.le_of_ble_eq_true rfl) ⟨Nat.le_of_ble_eq_true rfl, Nat.le_of_ble_eq_true rfl⟩ ⟨Nat.le_refl _, Nat.le_refl _⟩ (by decide +kernel) (fun q1 _ => ?_)
  refine ef_J (X := fun j2 => ∀ (u3 : Unit), eh_Sim g eM_10_join (eh_R 4 0 0) eh_eI 0 0 27 [none, none, none, none, none] [] (eh_FW s) ((j2 u3).bind some)) ?_ (fun j2 Hj2 => ?_)
  · intro u3
    refine es_blk (pc' := 28) (L' := [none, none, none, none, none]) (st' := [.int (-1)]) [(.iconst (-1), (-1))] (by decide +kernel) rfl rfl ?_
    exact es_ret rfl rfl rfl ⟨by decide +kernel, _, rfl, rfl⟩ (Nat.le_refl _) (Nat.le_refl _)
  refine es_eq (tgt := 27) (off := (19)) (by decide +kernel) (by decide) (fun h4 => ?_) (fun h4 => ?_)
  · refine ef_drop (L2 := [none, none, none, none, none]) [false, false, false, false, false] rfl rfl ?_
    exact Hj2 ()
  refine es_blk (pc' := 12) (L' := [some (.ref 123), some (.int p0), some (.int p1), some (.int p2), some (.int p3)]) (st' := [.ref 123]) [(.aload_n 0, 0)] (by decide +kernel) rfl rfl ?_
  refine ef_getP (k := 123) (j := 0) (q := 1) rfl eL_10_9 rfl rfl rfl (by decide +kernel) ?_
  refine es_blk (pc' := 16) (L' := [some (.ref 123), some (.int p0), some (.int p1), some (.int p2), some (.int p3)]) (st' := [.int p1, .ref 1]) [(.iload_n 2, 0)] (by decide +kernel) rfl rfl ?_
  refine ef_vpI (d := 1) (k := 1) (As := [.int p1]) (st := []) eV_5_hasEnclave eK_10_150 (eS_5_hasEnclave g s p1) rfl rfl (Nat.le_of_ble_eq_true rfl) rfl (Nat.le_of_ble_eq_true rfl) ⟨Nat.le_of_ble_eq_true rfl, Nat.le_of_ble_eq_true rfl⟩ ⟨Nat.le_refl _, Nat.le_refl _⟩ (by decide +kernel) (fun q5 _ => ?_)
  refine es_eq (tgt := 27) (off := (8)) (by decide +kernel) (by decide) (fun h6 => ?_) (fun h6 => ?_)
  · refine ef_drop (L2 := [none, none, none, none, none]) [false, false, false, false, false] rfl rfl ?_
    exact Hj2 ()
  refine es_blk (pc' := 24) (L' := [some (.ref 123), some (.int p0), some (.int p1), some (.int p2), some (.int p3)]) (st' := [.int p1, .int p0]) [(.iload_n 1, 0), (.iload_n 2, 0)] (by decide +kernel) rfl rfl ?_
  refine es_ine (tgt := 29) (off := (5)) (by decide +kernel) (by decide) (fun h7 => ?_) (fun h7 => ?_)
  · refine ef_drop (L2 := [none, none, none, none, none]) [false, false, false, false, false] rfl rfl ?_
    exact Hj2 ()
  refine es_blk (pc' := 32) (L' := [some (.ref 123), some (.int p0), some (.int p1), some (.int p2), some (.int p3)]) (st' := [.int p3, .int p2]) [(.iload_n 3, 0), (.iload 4, 0)] (by decide +kernel) rfl rfl ?_
  refine ef_spI (d := 1) (As := [.int p2, .int p3]) (st := []) eV_6_isSpan eK_10_117 (eS_6_isSpan g s p2 p3) rfl (Nat.le_of_ble_eq_true rfl) rfl (Nat.le_of_ble_eq_true rfl) ⟨Nat.le_of_ble_eq_true rfl, Nat.le_of_ble_eq_true rfl⟩ ⟨Nat.le_refl _, Nat.le_refl _⟩ (by decide +kernel) (fun q8 _ => ?_)
  refine es_ne (tgt := 40) (off := (5)) (by decide +kernel) (by decide) (fun h9 => ?_) (fun h9 => ?_)
  · refine es_blk (pc' := 39) (L' := [some (.ref 123), some (.int p0), some (.int p1), some (.int p2), some (.int p3)]) (st' := [.int (-1)]) [(.iconst (-1), (-1))] (by decide +kernel) rfl rfl ?_
    exact es_ret rfl rfl rfl ⟨by decide +kernel, _, rfl, rfl⟩ (Nat.le_refl _) (Nat.le_refl _)
  refine es_blk (pc' := 41) (L' := [some (.ref 123), some (.int p0), some (.int p1), some (.int p2), some (.int p3)]) (st' := [.ref 123]) [(.aload_n 0, 0)] (by decide +kernel) rfl rfl ?_
  refine ef_getP (k := 123) (j := 0) (q := 1) rfl eL_10_9 rfl rfl rfl (by decide +kernel) ?_
  refine ef_getP (k := 1) (j := 4) (q := 28) rfl eL_10_136 rfl rfl rfl (by decide +kernel) ?_
  refine es_blk (pc' := 48) (L' := [some (.ref 123), some (.int p0), some (.int p1), some (.int p2), some (.int p3)]) (st' := [.int p0, .ref 28]) [(.iload_n 1, 0)] (by decide +kernel) rfl rfl ?_
  refine ef_encs (by decide +kernel) (fun h10 => ?_)
  refine ef_getI (k := (eh_ep p0)) (j := 5) (eh_E0sh h10) eL_10_146 (by decide) (by decide +kernel) ?_
  refine es_blk (pc' := 53) (L' := [some (.ref 123), some (.int p0), some (.int p1), some (.int p2), some (.int p3)]) (st' := [.int 3, .int (s.1 (eh_ep p0) 5)]) [(.iconst 3, 3)] (by decide +kernel) rfl rfl ?_
  refine ef_J (X := fun j11 => ∀ (u12 : Unit), eh_Sim g eM_10_join (eh_R 4 0 0) eh_eI 0 0 72 [none, none, none, none, none] [] (eh_FW s) ((j11 u12).bind some)) ?_ (fun j11 Hj11 => ?_)
  · intro u12
    refine es_blk (pc' := 74) (L' := [none, none, none, none, none]) (st' := [.int (-2)]) [(.bipush (-2), (-2))] (by decide +kernel) rfl rfl ?_
    exact es_ret rfl rfl rfl ⟨by decide +kernel, _, rfl, rfl⟩ (Nat.le_refl _) (Nat.le_refl _)
  refine es_ieq (tgt := 72) (off := (19)) (by decide +kernel) (by decide) (fun h13 => ?_) (fun h13 => ?_)
  · refine ef_drop (L2 := [none, none, none, none, none]) [false, false, false, false, false] rfl rfl ?_
    exact Hj11 ()
  refine es_blk (pc' := 57) (L' := [some (.ref 123), some (.int p0), some (.int p1), some (.int p2), some (.int p3)]) (st' := [.ref 123]) [(.aload_n 0, 0)] (by decide +kernel) rfl rfl ?_
  refine ef_getP (k := 123) (j := 0) (q := 1) rfl eL_10_9 rfl rfl rfl (by decide +kernel) ?_
  refine ef_getP (k := 1) (j := 4) (q := 28) rfl eL_10_136 rfl rfl rfl (by decide +kernel) ?_
  refine es_blk (pc' := 64) (L' := [some (.ref 123), some (.int p0), some (.int p1), some (.int p2), some (.int p3)]) (st' := [.int p1, .ref 28]) [(.iload_n 2, 0)] (by decide +kernel) rfl rfl ?_
  refine ef_encs (by decide +kernel) (fun h14 => ?_)
  refine ef_getI (k := (eh_ep p1)) (j := 5) (eh_E0sh h14) eL_10_146 (by decide) (by decide +kernel) ?_
  refine es_blk (pc' := 69) (L' := [some (.ref 123), some (.int p0), some (.int p1), some (.int p2), some (.int p3)]) (st' := [.int 3, .int (s.1 (eh_ep p1) 5)]) [(.iconst 3, 3)] (by decide +kernel) rfl rfl ?_
  refine es_ine (tgt := 75) (off := (6)) (by decide +kernel) (by decide) (fun h15 => ?_) (fun h15 => ?_)
  · refine ef_drop (L2 := [none, none, none, none, none]) [false, false, false, false, false] rfl rfl ?_
    exact Hj11 ()
  refine es_blk (pc' := 82) (L' := [some (.ref 123), some (.int p0), some (.int p1), some (.int p2), some (.int p3)]) (st' := [.int p1, .int p0, .int p3, .int p2, .int 3, .ref 123]) [(.aload_n 0, 0), (.iconst 3, 3), (.iload_n 3, 0), (.iload 4, 0), (.iload_n 1, 0), (.iload_n 2, 0)] (by decide +kernel) rfl rfl ?_
  refine ef_veI (d := 3) (k := 123) (As := [.int 3, .int p2, .int p3, .int p0, .int p1]) (st := []) eV_10_giveRegion eK_10_228 (eS_10_giveRegion g s 3 p2 p3 p0 p1) rfl rfl (Nat.le_of_ble_eq_true rfl) rfl (Nat.le_of_ble_eq_true rfl) ⟨Nat.le_of_ble_eq_true rfl, Nat.le_of_ble_eq_true rfl⟩ ⟨Nat.le_refl _, Nat.le_refl _⟩ (by decide +kernel) (fun q16 _ => ?_)
  exact es_ret rfl rfl rfl ⟨by decide +kernel, _, rfl, rfl⟩ (Nat.le_refl _) (Nat.le_refl _)
def eF_10_offer (s : eh_F) (p0 : Int32) (p1 : Int32) (p2 : Int32) : Option (Int32 × eh_F) := Option.bind (eF_5_hasEnclave s p0) (fun q1 => eh_J (fun (u3 : Unit) => some ((-1), s)) (fun j2 => if q1 = 0 then (j2 ()) else (Option.bind (eF_6_isSpan s p1 p2) (fun q5 => if q5 = 0 then (j2 ()) else (if eh_in p0 6 then if (s.1 (eh_ep p0) 5) = 2 then (Option.bind (eF_10_giveRegion s 4 p1 p2 p0 (-1)) (fun q9 => some (q9.1, q9.2))) else (some ((-2), s)) else none)))))
set_option maxHeartbeats 4000000 in
set_option maxRecDepth 100000 in
theorem eS_10_offer (g : eh_P) (s : eh_F) (p0 : Int32) (p1 : Int32) (p2 : Int32) : eh_Sim g eM_10_offer (eh_R 4 0 0) eh_eI 0 0 0 (eh_en 4 [.ref 123, .int p0, .int p1, .int p2]) [] (eh_FW s) (eF_10_offer s p0 p1 p2) := by
  unfold eF_10_offer
  refine ef_top (L := [some (.ref 123), some (.int p0), some (.int p1), some (.int p2)]) rfl ?_
  refine es_blk (pc' := 1) (L' := [some (.ref 123), some (.int p0), some (.int p1), some (.int p2)]) (st' := [.ref 123]) [(.aload_n 0, 0)] (by decide +kernel) rfl rfl ?_
  refine ef_getP (k := 123) (j := 0) (q := 1) rfl eL_10_9 rfl rfl rfl (by decide +kernel) ?_
  refine es_blk (pc' := 5) (L' := [some (.ref 123), some (.int p0), some (.int p1), some (.int p2)]) (st' := [.int p0, .ref 1]) [(.iload_n 1, 0)] (by decide +kernel) rfl rfl ?_
  refine ef_vpI (d := 1) (k := 1) (As := [.int p0]) (st := []) eV_5_hasEnclave eK_10_150 (eS_5_hasEnclave g s p0) rfl rfl (Nat.le_of_ble_eq_true rfl) rfl (Nat.le_of_ble_eq_true rfl) ⟨Nat.le_of_ble_eq_true rfl, Nat.le_of_ble_eq_true rfl⟩ ⟨Nat.le_refl _, Nat.le_refl _⟩ (by decide +kernel) (fun q1 _ => ?_)
  refine ef_J (X := fun j2 => ∀ (u3 : Unit), eh_Sim g eM_10_offer (eh_R 4 0 0) eh_eI 0 0 19 [none, none, none, none] [] (eh_FW s) ((j2 u3).bind some)) ?_ (fun j2 Hj2 => ?_)
  · intro u3
    refine es_blk (pc' := 20) (L' := [none, none, none, none]) (st' := [.int (-1)]) [(.iconst (-1), (-1))] (by decide +kernel) rfl rfl ?_
    exact es_ret rfl rfl rfl ⟨by decide +kernel, _, rfl, rfl⟩ (Nat.le_refl _) (Nat.le_refl _)
  refine es_eq (tgt := 19) (off := (11)) (by decide +kernel) (by decide) (fun h4 => ?_) (fun h4 => ?_)
  · refine ef_drop (L2 := [none, none, none, none]) [false, false, false, false] rfl rfl ?_
    exact Hj2 ()
  refine es_blk (pc' := 13) (L' := [some (.ref 123), some (.int p0), some (.int p1), some (.int p2)]) (st' := [.int p2, .int p1]) [(.iload_n 2, 0), (.iload_n 3, 0)] (by decide +kernel) rfl rfl ?_
  refine ef_spI (d := 1) (As := [.int p1, .int p2]) (st := []) eV_6_isSpan eK_10_117 (eS_6_isSpan g s p1 p2) rfl (Nat.le_of_ble_eq_true rfl) rfl (Nat.le_of_ble_eq_true rfl) ⟨Nat.le_of_ble_eq_true rfl, Nat.le_of_ble_eq_true rfl⟩ ⟨Nat.le_refl _, Nat.le_refl _⟩ (by decide +kernel) (fun q5 _ => ?_)
  refine es_ne (tgt := 21) (off := (5)) (by decide +kernel) (by decide) (fun h6 => ?_) (fun h6 => ?_)
  · refine ef_drop (L2 := [none, none, none, none]) [false, false, false, false] rfl rfl ?_
    exact Hj2 ()
  refine es_blk (pc' := 22) (L' := [some (.ref 123), some (.int p0), some (.int p1), some (.int p2)]) (st' := [.ref 123]) [(.aload_n 0, 0)] (by decide +kernel) rfl rfl ?_
  refine ef_getP (k := 123) (j := 0) (q := 1) rfl eL_10_9 rfl rfl rfl (by decide +kernel) ?_
  refine ef_getP (k := 1) (j := 4) (q := 28) rfl eL_10_136 rfl rfl rfl (by decide +kernel) ?_
  refine es_blk (pc' := 29) (L' := [some (.ref 123), some (.int p0), some (.int p1), some (.int p2)]) (st' := [.int p0, .ref 28]) [(.iload_n 1, 0)] (by decide +kernel) rfl rfl ?_
  refine ef_encs (by decide +kernel) (fun h7 => ?_)
  refine ef_getI (k := (eh_ep p0)) (j := 5) (eh_E0sh h7) eL_10_146 (by decide) (by decide +kernel) ?_
  refine es_blk (pc' := 34) (L' := [some (.ref 123), some (.int p0), some (.int p1), some (.int p2)]) (st' := [.int 2, .int (s.1 (eh_ep p0) 5)]) [(.iconst 2, 2)] (by decide +kernel) rfl rfl ?_
  refine es_ieq (tgt := 40) (off := (6)) (by decide +kernel) (by decide) (fun h8 => ?_) (fun h8 => ?_)
  · refine es_blk (pc' := 46) (L' := [some (.ref 123), some (.int p0), some (.int p1), some (.int p2)]) (st' := [.int (-1), .int p0, .int p2, .int p1, .int 4, .ref 123]) [(.aload_n 0, 0), (.iconst 4, 4), (.iload_n 2, 0), (.iload_n 3, 0), (.iload_n 1, 0), (.iconst (-1), (-1))] (by decide +kernel) rfl rfl ?_
    refine ef_veI (d := 3) (k := 123) (As := [.int 4, .int p1, .int p2, .int p0, .int (-1)]) (st := []) eV_10_giveRegion eK_10_228 (eS_10_giveRegion g s 4 p1 p2 p0 (-1)) rfl rfl (Nat.le_of_ble_eq_true rfl) rfl (Nat.le_of_ble_eq_true rfl) ⟨Nat.le_of_ble_eq_true rfl, Nat.le_of_ble_eq_true rfl⟩ ⟨Nat.le_refl _, Nat.le_refl _⟩ (by decide +kernel) (fun q9 _ => ?_)
    exact es_ret rfl rfl rfl ⟨by decide +kernel, _, rfl, rfl⟩ (Nat.le_refl _) (Nat.le_refl _)
  refine es_blk (pc' := 39) (L' := [some (.ref 123), some (.int p0), some (.int p1), some (.int p2)]) (st' := [.int (-2)]) [(.bipush (-2), (-2))] (by decide +kernel) rfl rfl ?_
  exact es_ret rfl rfl rfl ⟨by decide +kernel, _, rfl, rfl⟩ (Nat.le_refl _) (Nat.le_refl _)
def eF_11_control (s : eh_F) (p0 : Int32) (p1 : Int32) : Option (Int32) := Option.bind (eF_11_isHart s p0) (fun q1 => eh_J (fun (a3 : Int32) => some a3) (fun j2 => if q1 = 0 then (j2 0) else (if eh_in p0 2 then Option.bind (eF_4_readControl s (eh_hp p0) p1) (fun q6 => j2 q6) else none)))
set_option maxHeartbeats 4000000 in
set_option maxRecDepth 100000 in
theorem eS_11_control (g : eh_P) (s : eh_F) (p0 : Int32) (p1 : Int32) : eh_Sim g eM_11_control (eh_R 4 0 0) (eh_pI s) 0 0 0 (eh_en 3 [.ref 0, .int p0, .int p1]) [] (eh_FW s) (eF_11_control s p0 p1) := by
  unfold eF_11_control
  refine ef_top (L := [some (.ref 0), some (.int p0), some (.int p1)]) rfl ?_
  refine es_blk (pc' := 1) (L' := [some (.ref 0), some (.int p0), some (.int p1)]) (st' := [.int p0]) [(.iload_n 1, 0)] (by decide +kernel) rfl rfl ?_
  refine ef_spI (d := 1) (As := [.int p0]) (st := []) eV_11_isHart eK_11_85 (eS_11_isHart g s p0) rfl (Nat.le_of_ble_eq_true rfl) rfl (Nat.le_of_ble_eq_true rfl) ⟨Nat.le_of_ble_eq_true rfl, Nat.le_of_ble_eq_true rfl⟩ ⟨Nat.le_refl _, Nat.le_refl _⟩ (by decide +kernel) (fun q1 _ => ?_)
  refine ef_J (X := fun j2 => ∀ (a3 : Int32), eh_Sim g eM_11_control (eh_R 4 0 0) (eh_pI s) 0 0 31 [none, none, none] [.int a3] (eh_FW s) ((j2 a3).bind some)) ?_ (fun j2 Hj2 => ?_)
  · intro a3
    exact es_ret rfl rfl rfl ⟨by decide +kernel, _, rfl, rfl⟩ (Nat.le_refl _) (Nat.le_refl _)
  refine es_eq (tgt := 30) (off := (26)) (by decide +kernel) (by decide) (fun h4 => ?_) (fun h4 => ?_)
  · refine es_blk (pc' := 31) (L' := [some (.ref 0), some (.int p0), some (.int p1)]) (st' := [.int 0]) [(.iconst 0, 0)] (by decide +kernel) rfl rfl ?_
    refine ef_drop (L2 := [none, none, none]) [false, false, false] rfl rfl ?_
    exact Hj2 _
  refine es_blk (pc' := 8) (L' := [some (.ref 0), some (.int p0), some (.int p1)]) (st' := [.ref 0]) [(.aload_n 0, 0)] (by decide +kernel) rfl rfl ?_
  refine ef_getP (k := 0) (j := 0) (q := 1) rfl eL_11_12 rfl rfl rfl (by decide +kernel) ?_
  refine ef_getP (k := 1) (j := 2) (q := 26) rfl eL_11_88 rfl rfl rfl (by decide +kernel) ?_
  refine es_blk (pc' := 15) (L' := [some (.ref 0), some (.int p0), some (.int p1)]) (st' := [.int p0, .ref 26]) [(.iload_n 1, 0)] (by decide +kernel) rfl rfl ?_
  refine ef_harts (by decide +kernel) (fun h5 => ?_)
  refine es_blk (pc' := 18) (L' := [some (.ref 0), some (.int p0), some (.int p1)]) (st' := [.ref 0, .int p1, .ref (eh_hp p0)]) [(.iload_n 2, 0), (.aload_n 0, 0)] (by decide +kernel) rfl rfl ?_
  refine ef_getP (k := 0) (j := 0) (q := 1) rfl eL_11_12 rfl rfl rfl (by decide +kernel) ?_
  refine ef_getP (k := 1) (j := 1) (q := 12) rfl eL_11_128 rfl rfl rfl (by decide +kernel) ?_
  refine ef_vpI (d := 3) (k := (eh_hp p0)) (As := [.int p1, .ref 12]) (st := []) eV_4_readControl eK_11_132 (eS_4_readControl g s (eh_hp p0) p1 h5) (eh_H0sh h5) rfl (Nat.le_of_ble_eq_true rfl) rfl (Nat.le_of_ble_eq_true rfl) ⟨Nat.le_of_ble_eq_true rfl, Nat.le_of_ble_eq_true rfl⟩ ⟨Nat.le_refl _, Nat.le_refl _⟩ (by decide +kernel) (fun q6 _ => ?_)
  refine es_goto (tgt := 31) (off := (4)) (by decide +kernel) (by decide) ?_
  refine ef_drop (L2 := [none, none, none]) [false, false, false] rfl rfl ?_
  exact Hj2 _
def eF_11_entry (s : eh_F) (p0 : Int32) (p1 : Int32) (p2 : Int32) : Option (Int32) := Option.bind (eF_11_isHart s p0) (fun q1 => eh_J (fun (u3 : Unit) => some (-1)) (fun j2 => if q1 = 0 then (j2 ()) else (if p1 < 0 then (j2 ()) else (if p2 < 0 then (j2 ()) else (if 2 < p2 then (j2 ()) else (if eh_in p0 2 then eh_V ((s.1 (eh_hp p0) 5) : Int32) (fun x9 => Option.bind (eF_5_hasFibre s x9) (fun q10 => if q10 = 0 then (Option.bind (eF_6_entryOfSystem s p1 p2) (fun q12 => some q12)) else (if eh_in x9 12 then Option.bind (eF_6_entryOfEnclave s (s.1 (eh_fp x9) 3) p1 p2) (fun q14 => some q14) else none))) else none))))))
set_option maxHeartbeats 4000000 in
set_option maxRecDepth 100000 in
theorem eS_11_entry (g : eh_P) (s : eh_F) (p0 : Int32) (p1 : Int32) (p2 : Int32) : eh_Sim g eM_11_entry (eh_R 4 0 0) (eh_pI s) 0 0 0 (eh_en 5 [.ref 0, .int p0, .int p1, .int p2]) [] (eh_FW s) (eF_11_entry s p0 p1 p2) := by
  unfold eF_11_entry
  refine ef_top (L := [some (.ref 0), some (.int p0), some (.int p1), some (.int p2), none]) rfl ?_
  refine es_blk (pc' := 1) (L' := [some (.ref 0), some (.int p0), some (.int p1), some (.int p2), none]) (st' := [.int p0]) [(.iload_n 1, 0)] (by decide +kernel) rfl rfl ?_
  refine ef_spI (d := 1) (As := [.int p0]) (st := []) eV_11_isHart eK_11_85 (eS_11_isHart g s p0) rfl (Nat.le_of_ble_eq_true rfl) rfl (Nat.le_of_ble_eq_true rfl) ⟨Nat.le_of_ble_eq_true rfl, Nat.le_of_ble_eq_true rfl⟩ ⟨Nat.le_refl _, Nat.le_refl _⟩ (by decide +kernel) (fun q1 _ => ?_)
  refine ef_J (X := fun j2 => ∀ (u3 : Unit), eh_Sim g eM_11_entry (eh_R 4 0 0) (eh_pI s) 0 0 20 [none, none, none, none, none] [] (eh_FW s) ((j2 u3).bind some)) ?_ (fun j2 Hj2 => ?_)
  · intro u3
    refine es_blk (pc' := 21) (L' := [none, none, none, none, none]) (st' := [.int (-1)]) [(.iconst (-1), (-1))] (by decide +kernel) rfl rfl ?_
    exact es_ret rfl rfl rfl ⟨by decide +kernel, _, rfl, rfl⟩ (Nat.le_refl _) (Nat.le_refl _)
  refine es_eq (tgt := 20) (off := (16)) (by decide +kernel) (by decide) (fun h4 => ?_) (fun h4 => ?_)
  · refine ef_drop (L2 := [none, none, none, none, none]) [false, false, false, false, true] rfl rfl ?_
    exact Hj2 ()
  refine es_blk (pc' := 8) (L' := [some (.ref 0), some (.int p0), some (.int p1), some (.int p2), none]) (st' := [.int p1]) [(.iload_n 2, 0)] (by decide +kernel) rfl rfl ?_
  refine es_lt (tgt := 20) (off := (12)) (by decide +kernel) (by decide) (fun h5 => ?_) (fun h5 => ?_)
  · refine ef_drop (L2 := [none, none, none, none, none]) [false, false, false, false, true] rfl rfl ?_
    exact Hj2 ()
  refine es_blk (pc' := 12) (L' := [some (.ref 0), some (.int p0), some (.int p1), some (.int p2), none]) (st' := [.int p2]) [(.iload_n 3, 0)] (by decide +kernel) rfl rfl ?_
  refine es_lt (tgt := 20) (off := (8)) (by decide +kernel) (by decide) (fun h6 => ?_) (fun h6 => ?_)
  · refine ef_drop (L2 := [none, none, none, none, none]) [false, false, false, false, true] rfl rfl ?_
    exact Hj2 ()
  refine es_blk (pc' := 17) (L' := [some (.ref 0), some (.int p0), some (.int p1), some (.int p2), none]) (st' := [.int 2, .int p2]) [(.iload_n 3, 0), (.iconst 2, 2)] (by decide +kernel) rfl rfl ?_
  refine es_ile (tgt := 22) (off := (5)) (by decide +kernel) (by decide) (fun h7 => ?_) (fun h7 => ?_)
  · refine ef_drop (L2 := [none, none, none, none, none]) [false, false, false, false, true] rfl rfl ?_
    exact Hj2 ()
  refine es_blk (pc' := 23) (L' := [some (.ref 0), some (.int p0), some (.int p1), some (.int p2), none]) (st' := [.ref 0]) [(.aload_n 0, 0)] (by decide +kernel) rfl rfl ?_
  refine ef_getP (k := 0) (j := 0) (q := 1) rfl eL_11_12 rfl rfl rfl (by decide +kernel) ?_
  refine ef_getP (k := 1) (j := 2) (q := 26) rfl eL_11_88 rfl rfl rfl (by decide +kernel) ?_
  refine es_blk (pc' := 30) (L' := [some (.ref 0), some (.int p0), some (.int p1), some (.int p2), none]) (st' := [.int p0, .ref 26]) [(.iload_n 1, 0)] (by decide +kernel) rfl rfl ?_
  refine ef_harts (by decide +kernel) (fun h8 => ?_)
  refine ef_getI (k := (eh_hp p0)) (j := 5) (eh_H0sh h8) eL_11_139 (by decide) (by decide +kernel) ?_
  refine es_blk (pc' := 36) (L' := [some (.ref 0), some (.int p0), some (.int p1), some (.int p2), some (.int (s.1 (eh_hp p0) 5))]) (st' := []) [(.istore 4, 0)] (by decide +kernel) rfl rfl ?_
  refine ef_V (fun x9 => [some (.ref 0), some (.int p0), some (.int p1), some (.int p2), some (.int x9)]) (fun _ => []) (fun _ => eh_FW s) (fun x9 => ?_)
  refine es_blk (pc' := 37) (L' := [some (.ref 0), some (.int p0), some (.int p1), some (.int p2), some (.int x9)]) (st' := [.ref 0]) [(.aload_n 0, 0)] (by decide +kernel) rfl rfl ?_
  refine ef_getP (k := 0) (j := 0) (q := 1) rfl eL_11_12 rfl rfl rfl (by decide +kernel) ?_
  refine es_blk (pc' := 42) (L' := [some (.ref 0), some (.int p0), some (.int p1), some (.int p2), some (.int x9)]) (st' := [.int x9, .ref 1]) [(.iload 4, 0)] (by decide +kernel) rfl rfl ?_
  refine ef_vpI (d := 1) (k := 1) (As := [.int x9]) (st := []) eV_5_hasFibre eK_11_98 (eS_5_hasFibre g s x9) rfl rfl (Nat.le_of_ble_eq_true rfl) rfl (Nat.le_of_ble_eq_true rfl) ⟨Nat.le_of_ble_eq_true rfl, Nat.le_of_ble_eq_true rfl⟩ ⟨Nat.le_refl _, Nat.le_refl _⟩ (by decide +kernel) (fun q10 _ => ?_)
  refine es_eq (tgt := 74) (off := (29)) (by decide +kernel) (by decide) (fun h11 => ?_) (fun h11 => ?_)
  · refine es_blk (pc' := 75) (L' := [some (.ref 0), some (.int p0), some (.int p1), some (.int p2), some (.int x9)]) (st' := [.ref 0]) [(.aload_n 0, 0)] (by decide +kernel) rfl rfl ?_
    refine ef_getP (k := 0) (j := 0) (q := 1) rfl eL_11_12 rfl rfl rfl (by decide +kernel) ?_
    refine ef_getP (k := 1) (j := 0) (q := 2) rfl eL_11_43 rfl rfl rfl (by decide +kernel) ?_
    refine es_blk (pc' := 83) (L' := [some (.ref 0), some (.int p0), some (.int p1), some (.int p2), some (.int x9)]) (st' := [.int p2, .int p1, .ref 2]) [(.iload_n 2, 0), (.iload_n 3, 0)] (by decide +kernel) rfl rfl ?_
    refine ef_vpI (d := 2) (k := 2) (As := [.int p1, .int p2]) (st := []) eV_6_entryOfSystem eK_11_237 (eS_6_entryOfSystem g s p1 p2) rfl rfl (Nat.le_of_ble_eq_true rfl) rfl (Nat.le_of_ble_eq_true rfl) ⟨Nat.le_of_ble_eq_true rfl, Nat.le_of_ble_eq_true rfl⟩ ⟨Nat.le_refl _, Nat.le_refl _⟩ (by decide +kernel) (fun q12 _ => ?_)
    exact es_ret rfl rfl rfl ⟨by decide +kernel, _, rfl, rfl⟩ (Nat.le_refl _) (Nat.le_refl _)
  refine es_blk (pc' := 49) (L' := [some (.ref 0), some (.int p0), some (.int p1), some (.int p2), some (.int x9)]) (st' := [.ref 0]) [(.aload_n 0, 0)] (by decide +kernel) rfl rfl ?_
  refine ef_getP (k := 0) (j := 0) (q := 1) rfl eL_11_12 rfl rfl rfl (by decide +kernel) ?_
  refine ef_getP (k := 1) (j := 0) (q := 2) rfl eL_11_43 rfl rfl rfl (by decide +kernel) ?_
  refine es_blk (pc' := 56) (L' := [some (.ref 0), some (.int p0), some (.int p1), some (.int p2), some (.int x9)]) (st' := [.ref 0, .ref 2]) [(.aload_n 0, 0)] (by decide +kernel) rfl rfl ?_
  refine ef_getP (k := 0) (j := 0) (q := 1) rfl eL_11_12 rfl rfl rfl (by decide +kernel) ?_
  refine ef_getP (k := 1) (j := 3) (q := 27) rfl eL_11_101 rfl rfl rfl (by decide +kernel) ?_
  refine es_blk (pc' := 64) (L' := [some (.ref 0), some (.int p0), some (.int p1), some (.int p2), some (.int x9)]) (st' := [.int x9, .ref 27, .ref 2]) [(.iload 4, 0)] (by decide +kernel) rfl rfl ?_
  refine ef_fibres (by decide +kernel) (fun h13 => ?_)
  refine ef_getI (k := (eh_fp x9)) (j := 3) (eh_F0sh h13) eL_11_203 (by decide) (by decide +kernel) ?_
  refine es_blk (pc' := 70) (L' := [some (.ref 0), some (.int p0), some (.int p1), some (.int p2), some (.int x9)]) (st' := [.int p2, .int p1, .int (s.1 (eh_fp x9) 3), .ref 2]) [(.iload_n 2, 0), (.iload_n 3, 0)] (by decide +kernel) rfl rfl ?_
  refine ef_vpI (d := 3) (k := 2) (As := [.int (s.1 (eh_fp x9) 3), .int p1, .int p2]) (st := []) eV_6_entryOfEnclave eK_11_233 (eS_6_entryOfEnclave g s (s.1 (eh_fp x9) 3) p1 p2) rfl rfl (Nat.le_of_ble_eq_true rfl) rfl (Nat.le_of_ble_eq_true rfl) ⟨Nat.le_of_ble_eq_true rfl, Nat.le_of_ble_eq_true rfl⟩ ⟨Nat.le_refl _, Nat.le_refl _⟩ (by decide +kernel) (fun q14 _ => ?_)
  exact es_ret rfl rfl rfl ⟨by decide +kernel, _, rfl, rfl⟩ (Nat.le_refl _) (Nat.le_refl _)
def eF_11_digest (s : eh_F) (p0 : Int32) (p1 : Int32) (p2 : Int32) : Option (Int32 × eh_F) := eh_J (fun (u2 : Unit) => some (0, s)) (fun j1 => if p1 < 0 then (j1 ()) else (if 4096 < p1 then (j1 ()) else (if p2 < 0 then (j1 ()) else (if 7 < p2 then (j1 ()) else (if p0 < 0 then (j1 ()) else (if (131072 - p1) < p0 then (j1 ()) else (Option.bind (eF_9_begin s 29) (fun q9 => Option.bind (eh_loop (fun (r14 : (Int32 × eh_F) → Option (eh_F)) (t10 : Int32 × eh_F) => if t10.1 < p1 then (Option.bind (eF_6_openByteAt t10.2 (p0 + t10.1)) (fun q16 => Option.bind (eF_9_feedByte t10.2 29 q16) (fun q17 => eh_V ((t10.1 + 1) : Int32) (fun x18 => r14 (x18, q17))))) else (some t10.2)) eh_FU (0, q9)) (fun (e11 : eh_F) => Option.bind (eF_9_end e11 29 35 8) (fun q12 => if eh_in p2 8 then some ((q12.1 35 (eh_ix p2)), q12) else none))))))))))
set_option maxHeartbeats 4000000 in
set_option maxRecDepth 100000 in
theorem eS_11_digest (g : eh_P) (s : eh_F) (p0 : Int32) (p1 : Int32) (p2 : Int32) : eh_Sim g eM_11_digest (eh_R 4 0 0) eh_eI 0 0 0 (eh_en 6 [.ref 0, .int p0, .int p1, .int p2]) [] (eh_FW s) (eF_11_digest s p0 p1 p2) := by
  unfold eF_11_digest
  refine ef_top (L := [some (.ref 0), some (.int p0), some (.int p1), some (.int p2), none, none]) rfl ?_
  refine es_blk (pc' := 1) (L' := [some (.ref 0), some (.int p0), some (.int p1), some (.int p2), none, none]) (st' := [.int p1]) [(.iload_n 2, 0)] (by decide +kernel) rfl rfl ?_
  refine ef_J (X := fun j1 => ∀ (u2 : Unit), eh_Sim g eM_11_digest (eh_R 4 0 0) eh_eI 0 0 33 [none, none, none, none, none, none] [] (eh_FW s) ((j1 u2).bind some)) ?_ (fun j1 Hj1 => ?_)
  · intro u2
    refine es_blk (pc' := 34) (L' := [none, none, none, none, none, none]) (st' := [.int 0]) [(.iconst 0, 0)] (by decide +kernel) rfl rfl ?_
    exact es_ret rfl rfl rfl ⟨by decide +kernel, _, rfl, rfl⟩ (Nat.le_refl _) (Nat.le_refl _)
  refine es_lt (tgt := 33) (off := (32)) (by decide +kernel) (by decide) (fun h3 => ?_) (fun h3 => ?_)
  · refine ef_drop (L2 := [none, none, none, none, none, none]) [false, false, false, false, true, true] rfl rfl ?_
    exact Hj1 ()
  refine es_blk (pc' := 8) (L' := [some (.ref 0), some (.int p0), some (.int p1), some (.int p2), none, none]) (st' := [.int 4096, .int p1]) [(.iload_n 2, 0), (.sipush 4096, 4096)] (by decide +kernel) rfl rfl ?_
  refine es_igt (tgt := 33) (off := (25)) (by decide +kernel) (by decide) (fun h4 => ?_) (fun h4 => ?_)
  · refine ef_drop (L2 := [none, none, none, none, none, none]) [false, false, false, false, true, true] rfl rfl ?_
    exact Hj1 ()
  refine es_blk (pc' := 12) (L' := [some (.ref 0), some (.int p0), some (.int p1), some (.int p2), none, none]) (st' := [.int p2]) [(.iload_n 3, 0)] (by decide +kernel) rfl rfl ?_
  refine es_lt (tgt := 33) (off := (21)) (by decide +kernel) (by decide) (fun h5 => ?_) (fun h5 => ?_)
  · refine ef_drop (L2 := [none, none, none, none, none, none]) [false, false, false, false, true, true] rfl rfl ?_
    exact Hj1 ()
  refine es_blk (pc' := 18) (L' := [some (.ref 0), some (.int p0), some (.int p1), some (.int p2), none, none]) (st' := [.int 7, .int p2]) [(.iload_n 3, 0), (.bipush 7, 7)] (by decide +kernel) rfl rfl ?_
  refine es_igt (tgt := 33) (off := (15)) (by decide +kernel) (by decide) (fun h6 => ?_) (fun h6 => ?_)
  · refine ef_drop (L2 := [none, none, none, none, none, none]) [false, false, false, false, true, true] rfl rfl ?_
    exact Hj1 ()
  refine es_blk (pc' := 22) (L' := [some (.ref 0), some (.int p0), some (.int p1), some (.int p2), none, none]) (st' := [.int p0]) [(.iload_n 1, 0)] (by decide +kernel) rfl rfl ?_
  refine es_lt (tgt := 33) (off := (11)) (by decide +kernel) (by decide) (fun h7 => ?_) (fun h7 => ?_)
  · refine ef_drop (L2 := [none, none, none, none, none, none]) [false, false, false, false, true, true] rfl rfl ?_
    exact Hj1 ()
  refine es_blk (pc' := 26) (L' := [some (.ref 0), some (.int p0), some (.int p1), some (.int p2), none, none]) (st' := [.int p0]) [(.iload_n 1, 0)] (by decide +kernel) rfl rfl ?_
  refine es_ldc (v := 131072) eC_11_249 (by decide +kernel) ?_
  refine es_blk (pc' := 30) (L' := [some (.ref 0), some (.int p0), some (.int p1), some (.int p2), none, none]) (st' := [.int (131072 - p1), .int p0]) [(.iload_n 2, 0), (.isub, 0)] (by decide +kernel) rfl rfl ?_
  refine es_ile (tgt := 35) (off := (5)) (by decide +kernel) (by decide) (fun h8 => ?_) (fun h8 => ?_)
  · refine ef_drop (L2 := [none, none, none, none, none, none]) [false, false, false, false, true, true] rfl rfl ?_
    exact Hj1 ()
  refine es_blk (pc' := 36) (L' := [some (.ref 0), some (.int p0), some (.int p1), some (.int p2), none, none]) (st' := [.ref 0]) [(.aload_n 0, 0)] (by decide +kernel) rfl rfl ?_
  refine ef_getP (k := 0) (j := 0) (q := 1) rfl eL_11_12 rfl rfl rfl (by decide +kernel) ?_
  refine ef_getP (k := 1) (j := 5) (q := 29) rfl eL_11_250 rfl rfl rfl (by decide +kernel) ?_
  refine es_blk (pc' := 46) (L' := [some (.ref 0), some (.int p0), some (.int p1), some (.int p2), some (.ref 29), none]) (st' := [.ref 29]) [(.astore 4, 0), (.aload 4, 0)] (by decide +kernel) rfl rfl ?_
  refine ef_veV (d := 1) (k := 29) (As := []) (st := []) eV_9_begin eK_11_254 (eS_9_begin g s 29 rfl) rfl rfl (Nat.le_of_ble_eq_true rfl) rfl (Nat.le_of_ble_eq_true rfl) ⟨Nat.le_of_ble_eq_true rfl, Nat.le_of_ble_eq_true rfl⟩ ⟨Nat.le_refl _, Nat.le_refl _⟩ (by decide +kernel) (fun q9 _ => ?_)
  refine es_blk (pc' := 52) (L' := [some (.ref 0), some (.int p0), some (.int p1), some (.int p2), some (.ref 29), some (.int 0)]) (st' := []) [(.iconst 0, 0), (.istore 5, 0)] (by decide +kernel) rfl rfl ?_
  refine ef_loop1 (n := eh_FU) (i := (0, q9)) (px := 83) (fun (t10 : Int32 × eh_F) => [some (.ref 0), some (.int p0), some (.int p1), some (.int p2), some (.ref 29), some (.int t10.1)]) (fun (t10 : Int32 × eh_F) => []) (fun (t10 : Int32 × eh_F) => eh_FW t10.2) (fun (e11 : eh_F) => [some (.ref 0), none, none, some (.int p2), some (.ref 29), none]) (fun (e11 : eh_F) => []) (fun (e11 : eh_F) => eh_FW e11) (fun e11 => ?_) (fun K13 HxK13_0 r14 Hr14 t10 => ?_)
  · refine es_blk (pc' := 86) (L' := [some (.ref 0), none, none, some (.int p2), some (.ref 29), none]) (st' := [.ref 0, .ref 29]) [(.aload 4, 0), (.aload_n 0, 0)] (by decide +kernel) rfl rfl ?_
    refine ef_getP (k := 0) (j := 0) (q := 1) rfl eL_11_12 rfl rfl rfl (by decide +kernel) ?_
    refine ef_getP (k := 1) (j := 8) (q := 35) rfl eL_11_265 rfl rfl rfl (by decide +kernel) ?_
    refine ef_veV (d := 2) (k := 29) (As := [.ref 35]) (st := []) eV_9_end eK_11_268 (eS_9_end g e11 29 35 8 rfl rfl) rfl rfl (Nat.le_of_ble_eq_true rfl) rfl (Nat.le_of_ble_eq_true rfl) ⟨Nat.le_of_ble_eq_true rfl, Nat.le_of_ble_eq_true rfl⟩ ⟨Nat.le_refl _, Nat.le_refl _⟩ (by decide +kernel) (fun q12 _ => ?_)
    refine es_blk (pc' := 96) (L' := [some (.ref 0), none, none, some (.int p2), some (.ref 29), none]) (st' := [.ref 0]) [(.aload_n 0, 0)] (by decide +kernel) rfl rfl ?_
    refine ef_getP (k := 0) (j := 0) (q := 1) rfl eL_11_12 rfl rfl rfl (by decide +kernel) ?_
    refine ef_getP (k := 1) (j := 8) (q := 35) rfl eL_11_265 rfl rfl rfl (by decide +kernel) ?_
    refine es_blk (pc' := 103) (L' := [some (.ref 0), none, none, some (.int p2), some (.ref 29), none]) (st' := [.int p2, .ref 35]) [(.iload_n 3, 0)] (by decide +kernel) rfl rfl ?_
    refine ef_ald (k := 35) rfl (Or.inl ⟨rfl, rfl⟩) (by decide +kernel) (fun _ => ?_)
    exact es_ret rfl rfl rfl ⟨by decide +kernel, _, rfl, rfl⟩ (Nat.le_refl _) (Nat.le_refl _)
  · refine es_blk (pc' := 55) (L' := [some (.ref 0), some (.int p0), some (.int p1), some (.int p2), some (.ref 29), some (.int t10.1)]) (st' := [.int p1, .int t10.1]) [(.iload 5, 0), (.iload_n 2, 0)] (by decide +kernel) rfl rfl ?_
    refine es_ige (tgt := 83) (off := (28)) (by decide +kernel) (by decide) (fun h15 => ?_) (fun h15 => ?_)
    · refine es_blk (pc' := 61) (L' := [some (.ref 0), some (.int p0), some (.int p1), some (.int p2), some (.ref 29), some (.int t10.1)]) (st' := [.ref 0, .ref 29]) [(.aload 4, 0), (.aload_n 0, 0)] (by decide +kernel) rfl rfl ?_
      refine ef_getP (k := 0) (j := 0) (q := 1) rfl eL_11_12 rfl rfl rfl (by decide +kernel) ?_
      refine ef_getP (k := 1) (j := 0) (q := 2) rfl eL_11_43 rfl rfl rfl (by decide +kernel) ?_
      refine es_blk (pc' := 71) (L' := [some (.ref 0), some (.int p0), some (.int p1), some (.int p2), some (.ref 29), some (.int t10.1)]) (st' := [.int (p0 + t10.1), .ref 2, .ref 29]) [(.iload_n 1, 0), (.iload 5, 0), (.iadd, 0)] (by decide +kernel) rfl rfl ?_
      refine ef_vpI (d := 3) (k := 2) (As := [.int (p0 + t10.1)]) (st := [.ref 29]) eV_6_openByteAt eK_11_259 (eS_6_openByteAt g t10.2 (p0 + t10.1)) rfl rfl (Nat.le_of_ble_eq_true rfl) rfl (Nat.le_of_ble_eq_true rfl) ⟨Nat.le_of_ble_eq_true rfl, Nat.le_of_ble_eq_true rfl⟩ ⟨Nat.le_refl _, Nat.le_refl _⟩ (by decide +kernel) (fun q16 _ => ?_)
      refine ef_veV (d := 2) (k := 29) (As := [.int q16]) (st := []) eV_9_feedByte eK_11_262 (eS_9_feedByte g t10.2 29 q16 rfl) rfl rfl (Nat.le_of_ble_eq_true rfl) rfl (Nat.le_of_ble_eq_true rfl) ⟨Nat.le_of_ble_eq_true rfl, Nat.le_of_ble_eq_true rfl⟩ ⟨Nat.le_refl _, Nat.le_refl _⟩ (by decide +kernel) (fun q17 _ => ?_)
      refine es_blk (pc' := 80) (L' := [some (.ref 0), some (.int p0), some (.int p1), some (.int p2), some (.ref 29), some (.int (t10.1 + 1))]) (st' := []) [(.iinc 5 1, 1)] (by decide +kernel) rfl rfl ?_
      refine ef_V (fun x18 => [some (.ref 0), some (.int p0), some (.int p1), some (.int p2), some (.ref 29), some (.int x18)]) (fun _ => []) (fun _ => eh_FW q17) (fun x18 => ?_)
      refine es_goto (tgt := 52) (off := (-28)) (by decide +kernel) (by decide) ?_
      exact Hr14 (x18, q17)
    refine ef_drop (L2 := [some (.ref 0), none, none, some (.int p2), some (.ref 29), none]) [true, false, false, true, true, false] rfl rfl ?_
    exact HxK13_0 t10.2
def eF_11_outside (s : eh_F)  : Option (Int64) := Option.bind (eF_5_survey s) (fun q1 => some q1)
set_option maxHeartbeats 4000000 in
set_option maxRecDepth 100000 in
theorem eS_11_outside (g : eh_P) (s : eh_F)  : eh_Sim g eM_11_outside (eh_R 4 0 0) (eh_pL s) 0 0 0 (eh_en 1 [.ref 0]) [] (eh_FW s) (eF_11_outside s) := by
  unfold eF_11_outside
  refine ef_top (L := [some (.ref 0)]) rfl ?_
  refine es_blk (pc' := 1) (L' := [some (.ref 0)]) (st' := [.ref 0]) [(.aload_n 0, 0)] (by decide +kernel) rfl rfl ?_
  refine ef_getP (k := 0) (j := 0) (q := 1) rfl eL_11_12 rfl rfl rfl (by decide +kernel) ?_
  refine ef_vpL (d := 3) (k := 1) (As := []) (st := []) eV_5_survey eK_11_283 (eS_5_survey g s) rfl rfl (Nat.le_of_ble_eq_true rfl) rfl (Nat.le_of_ble_eq_true rfl) ⟨Nat.le_of_ble_eq_true rfl, Nat.le_of_ble_eq_true rfl⟩ ⟨Nat.le_refl _, Nat.le_refl _⟩ (by decide +kernel) (fun q1 _ => ?_)
  exact es_ret rfl rfl rfl ⟨by decide +kernel, rfl⟩ (Nat.le_refl _) (Nat.le_refl _)
def eF_12_addNumber (s : eh_F) (p0 : Int32) (p1 : Int32) : Option (eh_F) := Option.bind (eh_loop (fun (r4 : (Int32 × eh_F) → Option (eh_F)) (t1 : Int32 × eh_F) => if t1.1 < 4 then (Option.bind (eF_12_add t1.2 p0 (eh_shr p1 (8 * t1.1))) (fun q6 => eh_V ((t1.1 + 1) : Int32) (fun x7 => r4 (x7, q6)))) else (some t1.2)) eh_FU (0, s)) (fun (e2 : eh_F) => some e2)
set_option maxHeartbeats 4000000 in
set_option maxRecDepth 100000 in
theorem eS_12_addNumber (g : eh_P) (s : eh_F) (p0 : Int32) (p1 : Int32) : eh_Sim g eM_12_addNumber (eh_R 4 0 0) eh_eV 0 0 0 (eh_en 4 [.ref 127, .int p0, .int p1]) [] (eh_FW s) (eF_12_addNumber s p0 p1) := by
  unfold eF_12_addNumber
  refine ef_top (L := [some (.ref 127), some (.int p0), some (.int p1), none]) rfl ?_
  refine es_blk (pc' := 2) (L' := [some (.ref 127), some (.int p0), some (.int p1), some (.int 0)]) (st' := []) [(.iconst 0, 0), (.istore_n 3, 0)] (by decide +kernel) rfl rfl ?_
  refine ef_loop1 (n := eh_FU) (i := (0, s)) (px := 24) (fun (t1 : Int32 × eh_F) => [some (.ref 127), some (.int p0), some (.int p1), some (.int t1.1)]) (fun (t1 : Int32 × eh_F) => []) (fun (t1 : Int32 × eh_F) => eh_FW t1.2) (fun (e2 : eh_F) => [none, none, none, none]) (fun (e2 : eh_F) => []) (fun (e2 : eh_F) => eh_FW e2) (fun e2 => ?_) (fun K3 HxK3_0 r4 Hr4 t1 => ?_)
  · exact es_ret rfl rfl rfl ⟨by decide +kernel, rfl⟩ (Nat.le_refl _) (Nat.le_refl _)
  · refine es_blk (pc' := 4) (L' := [some (.ref 127), some (.int p0), some (.int p1), some (.int t1.1)]) (st' := [.int 4, .int t1.1]) [(.iload_n 3, 0), (.iconst 4, 4)] (by decide +kernel) rfl rfl ?_
    refine es_ige (tgt := 24) (off := (20)) (by decide +kernel) (by decide) (fun h5 => ?_) (fun h5 => ?_)
    · refine es_blk (pc' := 15) (L' := [some (.ref 127), some (.int p0), some (.int p1), some (.int t1.1)]) (st' := [.int (eh_shr p1 (8 * t1.1)), .int p0, .ref 127]) [(.aload_n 0, 0), (.iload_n 1, 0), (.iload_n 2, 0), (.bipush 8, 8), (.iload_n 3, 0), (.imul, 0), (.ishr, 0)] (by decide +kernel) rfl rfl ?_
      refine ef_veV (d := 3) (k := 127) (As := [.int p0, .int (eh_shr p1 (8 * t1.1))]) (st := []) eV_12_add eK_12_242 (eS_12_add g t1.2 p0 (eh_shr p1 (8 * t1.1))) rfl rfl (Nat.le_of_ble_eq_true rfl) rfl (Nat.le_of_ble_eq_true rfl) ⟨Nat.le_of_ble_eq_true rfl, Nat.le_of_ble_eq_true rfl⟩ ⟨Nat.le_refl _, Nat.le_refl _⟩ (by decide +kernel) (fun q6 _ => ?_)
      refine es_blk (pc' := 21) (L' := [some (.ref 127), some (.int p0), some (.int p1), some (.int (t1.1 + 1))]) (st' := []) [(.iinc 3 1, 1)] (by decide +kernel) rfl rfl ?_
      refine ef_V (fun x7 => [some (.ref 127), some (.int p0), some (.int p1), some (.int x7)]) (fun _ => []) (fun _ => eh_FW q6) (fun x7 => ?_)
      refine es_goto (tgt := 2) (off := (-19)) (by decide +kernel) (by decide) ?_
      exact Hr4 (x7, q6)
    refine ef_drop (L2 := [none, none, none, none]) [false, false, false, false] rfl rfl ?_
    exact HxK3_0 t1.2
def eF_12_addBytes (s : eh_F) (p0 : Int32) (p1 np1 : Nat) (p2 : Int32) (p3 : Int32) : Option (eh_F) := Option.bind (eh_loop (fun (r4 : (Int32 × eh_F) → Option (eh_F)) (t1 : Int32 × eh_F) => if t1.1 < p3 then (if eh_in (p2 + t1.1) np1 then Option.bind (eF_12_add t1.2 p0 (t1.2.1 p1 (eh_ix (p2 + t1.1)))) (fun q6 => eh_V ((t1.1 + 1) : Int32) (fun x7 => r4 (x7, q6))) else none) else (some t1.2)) eh_FU (0, s)) (fun (e2 : eh_F) => some e2)
set_option maxHeartbeats 4000000 in
set_option maxRecDepth 100000 in
theorem eS_12_addBytes (g : eh_P) (s : eh_F) (p0 : Int32) (p1 np1 : Nat) (p2 : Int32) (p3 : Int32) (hp1 : eh_SH[p1]? = some (101, np1)) : eh_Sim g eM_12_addBytes (eh_R 4 0 0) eh_eV 0 0 0 (eh_en 6 [.ref 127, .int p0, .ref p1, .int p2, .int p3]) [] (eh_FW s) (eF_12_addBytes s p0 p1 np1 p2 p3) := by
  unfold eF_12_addBytes
  refine ef_top (L := [some (.ref 127), some (.int p0), some (.ref p1), some (.int p2), some (.int p3), none]) rfl ?_
  refine es_blk (pc' := 3) (L' := [some (.ref 127), some (.int p0), some (.ref p1), some (.int p2), some (.int p3), some (.int 0)]) (st' := []) [(.iconst 0, 0), (.istore 5, 0)] (by decide +kernel) rfl rfl ?_
  refine ef_loop1 (n := eh_FU) (i := (0, s)) (px := 27) (fun (t1 : Int32 × eh_F) => [some (.ref 127), some (.int p0), some (.ref p1), some (.int p2), some (.int p3), some (.int t1.1)]) (fun (t1 : Int32 × eh_F) => []) (fun (t1 : Int32 × eh_F) => eh_FW t1.2) (fun (e2 : eh_F) => [none, none, none, none, none, none]) (fun (e2 : eh_F) => []) (fun (e2 : eh_F) => eh_FW e2) (fun e2 => ?_) (fun K3 HxK3_0 r4 Hr4 t1 => ?_)
  · exact es_ret rfl rfl rfl ⟨by decide +kernel, rfl⟩ (Nat.le_refl _) (Nat.le_refl _)
  · refine es_blk (pc' := 7) (L' := [some (.ref 127), some (.int p0), some (.ref p1), some (.int p2), some (.int p3), some (.int t1.1)]) (st' := [.int p3, .int t1.1]) [(.iload 5, 0), (.iload 4, 0)] (by decide +kernel) rfl rfl ?_
    refine es_ige (tgt := 27) (off := (20)) (by decide +kernel) (by decide) (fun h5 => ?_) (fun h5 => ?_)
    · refine es_blk (pc' := 17) (L' := [some (.ref 127), some (.int p0), some (.ref p1), some (.int p2), some (.int p3), some (.int t1.1)]) (st' := [.int (p2 + t1.1), .ref p1, .int p0, .ref 127]) [(.aload_n 0, 0), (.iload_n 1, 0), (.aload_n 2, 0), (.iload_n 3, 0), (.iload 5, 0), (.iadd, 0)] (by decide +kernel) rfl rfl ?_
      refine ef_ald (k := p1) hp1 (Or.inr ⟨Or.inl rfl, rfl⟩) (by decide +kernel) (fun _ => ?_)
      refine ef_veV (d := 3) (k := 127) (As := [.int p0, .int (t1.2.1 p1 (eh_ix (p2 + t1.1)))]) (st := []) eV_12_add eK_12_242 (eS_12_add g t1.2 p0 (t1.2.1 p1 (eh_ix (p2 + t1.1)))) rfl rfl (Nat.le_of_ble_eq_true rfl) rfl (Nat.le_of_ble_eq_true rfl) ⟨Nat.le_of_ble_eq_true rfl, Nat.le_of_ble_eq_true rfl⟩ ⟨Nat.le_refl _, Nat.le_refl _⟩ (by decide +kernel) (fun q6 _ => ?_)
      refine es_blk (pc' := 24) (L' := [some (.ref 127), some (.int p0), some (.ref p1), some (.int p2), some (.int p3), some (.int (t1.1 + 1))]) (st' := []) [(.iinc 5 1, 1)] (by decide +kernel) rfl rfl ?_
      refine ef_V (fun x7 => [some (.ref 127), some (.int p0), some (.ref p1), some (.int p2), some (.int p3), some (.int x7)]) (fun _ => []) (fun _ => eh_FW q6) (fun x7 => ?_)
      refine es_goto (tgt := 3) (off := (-21)) (by decide +kernel) (by decide) ?_
      exact Hr4 (x7, q6)
    refine ef_drop (L2 := [none, none, none, none, none, none]) [false, false, false, false, false, false] rfl rfl ?_
    exact HxK3_0 t1.2
def eF_12_finish (s : eh_F) (p0 : Int32) (p1 np1 : Nat) (p2 : Int32) : Option (eh_F) := if eh_in p0 8 then eh_V ((8 * (s.2.1 190 (eh_ix p0))) : Int64) (fun x1 => Option.bind (eF_12_add s p0 128) (fun q2 => Option.bind (eh_loop (fun (r20 : (eh_F) → Option (eh_F)) (t3 : eh_F) => if eh_in p0 8 then if (lg_cmp ((t3.2.1 190 (eh_ix p0)) &&& 63) 56) = 0 then (some t3) else (Option.bind (eF_12_add t3 p0 0) (fun q22 => r20 q22)) else none) eh_FU q2) (fun (e4 : eh_F) => Option.bind (eh_loop (fun (r15 : (Int32 × eh_F) → Option (eh_F)) (t5 : Int32 × eh_F) => if t5.1 < 0 then (some t5.2) else (Option.bind (eF_12_add t5.2 p0 ((eh_lshr x1 (8 * t5.1)).toInt32)) (fun q17 => eh_V ((t5.1 + (-1)) : Int32) (fun x18 => r15 (x18, q17))))) eh_FU (7, e4)) (fun (e6 : eh_F) => Option.bind (eh_loop (fun (r10 : (Int32 × eh_F) → Option (eh_F)) (t7 : Int32 × eh_F) => if t7.1 < 32 then (if eh_in ((8 * p0) + (t7.1 / 4)) 64 then if eh_in (p2 + t7.1) np1 then eh_V (eh_tI t7.2 p1 (eh_ix (p2 + t7.1)) (eh_nb (eh_nb (eh_shr (t7.2.1 188 (eh_ix ((8 * p0) + (t7.1 / 4)))) (24 - (8 * (eh_rem t7.1 4))))))) (fun s12 => eh_V ((t7.1 + 1) : Int32) (fun x13 => r10 (x13, s12))) else none else none) else (some t7.2)) eh_FU (0, e6)) (fun (e8 : eh_F) => some e8))))) else none
set_option maxHeartbeats 4000000 in
set_option maxRecDepth 100000 in
theorem eS_12_finish (g : eh_P) (s : eh_F) (p0 : Int32) (p1 np1 : Nat) (p2 : Int32) (hp1 : eh_SH[p1]? = some (101, np1)) : eh_Sim g eM_12_finish (eh_R 4 0 0) eh_eV 0 0 0 (eh_en 7 [.ref 127, .int p0, .ref p1, .int p2]) [] (eh_FW s) (eF_12_finish s p0 p1 np1 p2) := by
  unfold eF_12_finish
  refine ef_top (L := [some (.ref 127), some (.int p0), some (.ref p1), some (.int p2), none, none, none]) rfl ?_
  refine es_ldc2 (v := 8) eC_12_254 (by decide +kernel) ?_
  refine es_blk (pc' := 4) (L' := [some (.ref 127), some (.int p0), some (.ref p1), some (.int p2), none, none, none]) (st' := [.ref 127, .long 8]) [(.aload_n 0, 0)] (by decide +kernel) rfl rfl ?_
  refine ef_getP (k := 127) (j := 76) (q := 190) rfl eL_12_199 rfl rfl rfl (by decide +kernel) ?_
  refine es_blk (pc' := 8) (L' := [some (.ref 127), some (.int p0), some (.ref p1), some (.int p2), none, none, none]) (st' := [.int p0, .ref 190, .long 8]) [(.iload_n 1, 0)] (by decide +kernel) rfl rfl ?_
  refine ef_aldJ (k := 190) rfl (by decide +kernel) (fun _ => ?_)
  refine es_blk (pc' := 12) (L' := [some (.ref 127), some (.int p0), some (.ref p1), some (.int p2), some (.long (8 * (s.2.1 190 (eh_ix p0)))), none, none]) (st' := []) [(.lmul, 0), (.lstore 4, 0)] (by decide +kernel) rfl rfl ?_
  refine ef_V (fun x1 => [some (.ref 127), some (.int p0), some (.ref p1), some (.int p2), some (.long x1), none, none]) (fun _ => []) (fun _ => eh_FW s) (fun x1 => ?_)
  refine es_blk (pc' := 17) (L' := [some (.ref 127), some (.int p0), some (.ref p1), some (.int p2), some (.long x1), none, none]) (st' := [.int 128, .int p0, .ref 127]) [(.aload_n 0, 0), (.iload_n 1, 0), (.sipush 128, 128)] (by decide +kernel) rfl rfl ?_
  refine ef_veV (d := 3) (k := 127) (As := [.int p0, .int 128]) (st := []) eV_12_add eK_12_242 (eS_12_add g s p0 128) rfl rfl (Nat.le_of_ble_eq_true rfl) rfl (Nat.le_of_ble_eq_true rfl) ⟨Nat.le_of_ble_eq_true rfl, Nat.le_of_ble_eq_true rfl⟩ ⟨Nat.le_refl _, Nat.le_refl _⟩ (by decide +kernel) (fun q2 _ => ?_)
  refine ef_loop1 (n := eh_FU) (i := q2) (px := 46) (fun (t3 : eh_F) => [some (.ref 127), some (.int p0), some (.ref p1), some (.int p2), some (.long x1), none, none]) (fun (t3 : eh_F) => []) (fun (t3 : eh_F) => eh_FW t3) (fun (e4 : eh_F) => [some (.ref 127), some (.int p0), some (.ref p1), some (.int p2), some (.long x1), none, none]) (fun (e4 : eh_F) => []) (fun (e4 : eh_F) => eh_FW e4) (fun e4 => ?_) (fun K19 HxK19_0 r20 Hr20 t3 => ?_)
  · refine es_blk (pc' := 50) (L' := [some (.ref 127), some (.int p0), some (.ref p1), some (.int p2), some (.long x1), none, some (.int 7)]) (st' := []) [(.bipush 7, 7), (.istore 6, 0)] (by decide +kernel) rfl rfl ?_
    refine ef_loop1 (n := eh_FU) (i := (7, e4)) (px := 75) (fun (t5 : Int32 × eh_F) => [some (.ref 127), some (.int p0), some (.ref p1), some (.int p2), some (.long x1), none, some (.int t5.1)]) (fun (t5 : Int32 × eh_F) => []) (fun (t5 : Int32 × eh_F) => eh_FW t5.2) (fun (e6 : eh_F) => [some (.ref 127), some (.int p0), some (.ref p1), some (.int p2), none, none, none]) (fun (e6 : eh_F) => []) (fun (e6 : eh_F) => eh_FW e6) (fun e6 => ?_) (fun K14 HxK14_0 r15 Hr15 t5 => ?_)
    · refine es_blk (pc' := 78) (L' := [some (.ref 127), some (.int p0), some (.ref p1), some (.int p2), none, none, some (.int 0)]) (st' := []) [(.iconst 0, 0), (.istore 6, 0)] (by decide +kernel) rfl rfl ?_
      refine ef_loop1 (n := eh_FU) (i := (0, e6)) (px := 123) (fun (t7 : Int32 × eh_F) => [some (.ref 127), some (.int p0), some (.ref p1), some (.int p2), none, none, some (.int t7.1)]) (fun (t7 : Int32 × eh_F) => []) (fun (t7 : Int32 × eh_F) => eh_FW t7.2) (fun (e8 : eh_F) => [none, none, none, none, none, none, none]) (fun (e8 : eh_F) => []) (fun (e8 : eh_F) => eh_FW e8) (fun e8 => ?_) (fun K9 HxK9_0 r10 Hr10 t7 => ?_)
      · exact es_ret rfl rfl rfl ⟨by decide +kernel, rfl⟩ (Nat.le_refl _) (Nat.le_refl _)
      · refine es_blk (pc' := 82) (L' := [some (.ref 127), some (.int p0), some (.ref p1), some (.int p2), none, none, some (.int t7.1)]) (st' := [.int 32, .int t7.1]) [(.iload 6, 0), (.bipush 32, 32)] (by decide +kernel) rfl rfl ?_
        refine es_ige (tgt := 123) (off := (41)) (by decide +kernel) (by decide) (fun h11 => ?_) (fun h11 => ?_)
        · refine es_blk (pc' := 91) (L' := [some (.ref 127), some (.int p0), some (.ref p1), some (.int p2), none, none, some (.int t7.1)]) (st' := [.ref 127, .int (p2 + t7.1), .ref p1]) [(.aload_n 2, 0), (.iload_n 3, 0), (.iload 6, 0), (.iadd, 0), (.aload_n 0, 0)] (by decide +kernel) rfl rfl ?_
          refine ef_getP (k := 127) (j := 74) (q := 188) rfl eL_12_193 rfl rfl rfl (by decide +kernel) ?_
          refine es_blk (pc' := 101) (L' := [some (.ref 127), some (.int p0), some (.ref p1), some (.int p2), none, none, some (.int t7.1)]) (st' := [.int 4, .int t7.1, .int (8 * p0), .ref 188, .int (p2 + t7.1), .ref p1]) [(.bipush 8, 8), (.iload_n 1, 0), (.imul, 0), (.iload 6, 0), (.iconst 4, 4)] (by decide +kernel) rfl rfl ?_
          refine es_idiv (by decide +kernel) (by decide) ?_
          refine es_blk (pc' := 103) (L' := [some (.ref 127), some (.int p0), some (.ref p1), some (.int p2), none, none, some (.int t7.1)]) (st' := [.int ((8 * p0) + (t7.1 / 4)), .ref 188, .int (p2 + t7.1), .ref p1]) [(.iadd, 0)] (by decide +kernel) rfl rfl ?_
          refine ef_ald (k := 188) rfl (Or.inl ⟨rfl, rfl⟩) (by decide +kernel) (fun _ => ?_)
          refine es_blk (pc' := 111) (L' := [some (.ref 127), some (.int p0), some (.ref p1), some (.int p2), none, none, some (.int t7.1)]) (st' := [.int 4, .int t7.1, .int 8, .int 24, .int (t7.2.1 188 (eh_ix ((8 * p0) + (t7.1 / 4)))), .int (p2 + t7.1), .ref p1]) [(.bipush 24, 24), (.bipush 8, 8), (.iload 6, 0), (.iconst 4, 4)] (by decide +kernel) rfl rfl ?_
          refine es_irem (by decide +kernel) (by decide) ?_
          refine es_blk (pc' := 116) (L' := [some (.ref 127), some (.int p0), some (.ref p1), some (.int p2), none, none, some (.int t7.1)]) (st' := [.int (eh_nb (eh_shr (t7.2.1 188 (eh_ix ((8 * p0) + (t7.1 / 4)))) (24 - (8 * (eh_rem t7.1 4))))), .int (p2 + t7.1), .ref p1]) [(.imul, 0), (.isub, 0), (.ishr, 0), (.i2b, 0)] (by decide +kernel) rfl rfl ?_
          refine ef_astB (k := p1) hp1 (by decide +kernel) (fun _ => ?_)
          refine ef_V (fun _ => [some (.ref 127), some (.int p0), some (.ref p1), some (.int p2), none, none, some (.int t7.1)]) (fun _ => []) (fun s12 => eh_FW s12) (fun s12 => ?_)
          refine es_blk (pc' := 120) (L' := [some (.ref 127), some (.int p0), some (.ref p1), some (.int p2), none, none, some (.int (t7.1 + 1))]) (st' := []) [(.iinc 6 1, 1)] (by decide +kernel) rfl rfl ?_
          refine ef_V (fun x13 => [some (.ref 127), some (.int p0), some (.ref p1), some (.int p2), none, none, some (.int x13)]) (fun _ => []) (fun _ => eh_FW s12) (fun x13 => ?_)
          refine es_goto (tgt := 78) (off := (-42)) (by decide +kernel) (by decide) ?_
          exact Hr10 (x13, s12)
        refine ef_drop (L2 := [none, none, none, none, none, none, none]) [false, false, false, false, true, true, false] rfl rfl ?_
        exact HxK9_0 t7.2
    · refine es_blk (pc' := 52) (L' := [some (.ref 127), some (.int p0), some (.ref p1), some (.int p2), some (.long x1), none, some (.int t5.1)]) (st' := [.int t5.1]) [(.iload 6, 0)] (by decide +kernel) rfl rfl ?_
      refine es_lt (tgt := 75) (off := (23)) (by decide +kernel) (by decide) (fun h16 => ?_) (fun h16 => ?_)
      · refine ef_drop (L2 := [some (.ref 127), some (.int p0), some (.ref p1), some (.int p2), none, none, none]) [true, true, true, true, false, true, false] rfl rfl ?_
        exact HxK14_0 t5.2
      refine es_blk (pc' := 66) (L' := [some (.ref 127), some (.int p0), some (.ref p1), some (.int p2), some (.long x1), none, some (.int t5.1)]) (st' := [.int ((eh_lshr x1 (8 * t5.1)).toInt32), .int p0, .ref 127]) [(.aload_n 0, 0), (.iload_n 1, 0), (.lload 4, 0), (.bipush 8, 8), (.iload 6, 0), (.imul, 0), (.lshr, 0), (.l2i, 0)] (by decide +kernel) rfl rfl ?_
      refine ef_veV (d := 3) (k := 127) (As := [.int p0, .int ((eh_lshr x1 (8 * t5.1)).toInt32)]) (st := []) eV_12_add eK_12_242 (eS_12_add g t5.2 p0 ((eh_lshr x1 (8 * t5.1)).toInt32)) rfl rfl (Nat.le_of_ble_eq_true rfl) rfl (Nat.le_of_ble_eq_true rfl) ⟨Nat.le_of_ble_eq_true rfl, Nat.le_of_ble_eq_true rfl⟩ ⟨Nat.le_refl _, Nat.le_refl _⟩ (by decide +kernel) (fun q17 _ => ?_)
      refine es_blk (pc' := 72) (L' := [some (.ref 127), some (.int p0), some (.ref p1), some (.int p2), some (.long x1), none, some (.int (t5.1 + (-1)))]) (st' := []) [(.iinc 6 (-1), (-1))] (by decide +kernel) rfl rfl ?_
      refine ef_V (fun x18 => [some (.ref 127), some (.int p0), some (.ref p1), some (.int p2), some (.long x1), none, some (.int x18)]) (fun _ => []) (fun _ => eh_FW q17) (fun x18 => ?_)
      refine es_goto (tgt := 50) (off := (-22)) (by decide +kernel) (by decide) ?_
      exact Hr15 (x18, q17)
  · refine es_blk (pc' := 21) (L' := [some (.ref 127), some (.int p0), some (.ref p1), some (.int p2), some (.long x1), none, none]) (st' := [.ref 127]) [(.aload_n 0, 0)] (by decide +kernel) rfl rfl ?_
    refine ef_getP (k := 127) (j := 76) (q := 190) rfl eL_12_199 rfl rfl rfl (by decide +kernel) ?_
    refine es_blk (pc' := 25) (L' := [some (.ref 127), some (.int p0), some (.ref p1), some (.int p2), some (.long x1), none, none]) (st' := [.int p0, .ref 190]) [(.iload_n 1, 0)] (by decide +kernel) rfl rfl ?_
    refine ef_aldJ (k := 190) rfl (by decide +kernel) (fun _ => ?_)
    refine es_ldc2 (v := 63) eC_12_237 (by decide +kernel) ?_
    refine es_blk (pc' := 30) (L' := [some (.ref 127), some (.int p0), some (.ref p1), some (.int p2), some (.long x1), none, none]) (st' := [.long ((t3.2.1 190 (eh_ix p0)) &&& 63)]) [(.land, 0)] (by decide +kernel) rfl rfl ?_
    refine es_ldc2 (v := 56) eC_12_256 (by decide +kernel) ?_
    refine es_blk (pc' := 34) (L' := [some (.ref 127), some (.int p0), some (.ref p1), some (.int p2), some (.long x1), none, none]) (st' := [.int (lg_cmp ((t3.2.1 190 (eh_ix p0)) &&& 63) 56)]) [(.lcmp, 0)] (by decide +kernel) rfl rfl ?_
    refine es_eq (tgt := 46) (off := (12)) (by decide +kernel) (by decide) (fun h21 => ?_) (fun h21 => ?_)
    · exact HxK19_0 t3
    refine es_blk (pc' := 40) (L' := [some (.ref 127), some (.int p0), some (.ref p1), some (.int p2), some (.long x1), none, none]) (st' := [.int 0, .int p0, .ref 127]) [(.aload_n 0, 0), (.iload_n 1, 0), (.iconst 0, 0)] (by decide +kernel) rfl rfl ?_
    refine ef_veV (d := 3) (k := 127) (As := [.int p0, .int 0]) (st := []) eV_12_add eK_12_242 (eS_12_add g t3 p0 0) rfl rfl (Nat.le_of_ble_eq_true rfl) rfl (Nat.le_of_ble_eq_true rfl) ⟨Nat.le_of_ble_eq_true rfl, Nat.le_of_ble_eq_true rfl⟩ ⟨Nat.le_refl _, Nat.le_refl _⟩ (by decide +kernel) (fun q22 _ => ?_)
    refine es_goto (tgt := 20) (off := (-23)) (by decide +kernel) (by decide) ?_
    exact Hr20 q22
