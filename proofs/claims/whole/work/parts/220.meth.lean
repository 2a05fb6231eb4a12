def eF_12_threadCall (s : eh_F) (p0 : Int32) (p1 : Int32) : Option (eh_F) := Option.bind (eF_12_who s p0) (fun q1 => eh_V ((32 * q1) : Int32) (fun x2 => if eh_in (x2 + 10) 448 then eh_V ((s.1 129 (eh_ix (x2 + 10))) : Int32) (fun x3 => if eh_in (x2 + 11) 448 then eh_V ((s.1 129 (eh_ix (x2 + 11))) : Int32) (fun x4 => if eh_in p0 2 then eh_V ((s.1 144 (eh_ix p0)) : Int32) (fun x5 => if eh_in (x2 + 17) 448 then eh_V ((s.1 129 (eh_ix (x2 + 17))) : Int32) (fun x6 => eh_J (fun (s8 : eh_F) => some s8) (fun j7 => if x6 = 32 then (Option.bind (eF_12_happens s 1 p0 x3 0 0) (fun q11 => Option.bind (eF_12_leave q11 p0 1 0 x3) (fun q12 => j7 q12))) else if x6 = 33 then (Option.bind (eF_12_happens s 2 p0 x3 0 0) (fun q14 => Option.bind (eF_12_leave q14 p0 4 1 x3) (fun q15 => j7 q15))) else if x6 = 44 then (if eh_in ((4 * x5) + 2) 48 then eh_V (((s.1 154 (eh_ix ((4 * x5) + 2))) + x3) : Int32) (fun x17 => if eh_in x5 12 then eh_J (fun (u19 : Unit) => if eh_in (x2 + 10) 448 then eh_V (eh_tI s 129 (eh_ix (x2 + 10)) (-1)) (fun s20 => j7 s20) else none) (fun j18 => if (s.1 153 (eh_ix x5)) = 0 then (j18 ()) else (if (x17 &&& 3) = 0 then (if eh_in (4 * x5) 48 then if eh_in (x2 + 10) 448 then eh_V (eh_tI s 129 (eh_ix (x2 + 10)) (s.1 154 (eh_ix (4 * x5)))) (fun s23 => if eh_in ((4 * x5) + 1) 48 then if eh_in (x2 + 11) 448 then eh_V (eh_tI s23 129 (eh_ix (x2 + 11)) (s23.1 154 (eh_ix ((4 * x5) + 1)))) (fun s24 => if eh_in ((4 * x5) + 3) 48 then if eh_in x5 12 then eh_V (eh_tI s24 152 (eh_ix x5) (s24.1 154 (eh_ix ((4 * x5) + 3)))) (fun s25 => if eh_in x5 12 then eh_V (eh_tI s25 153 (eh_ix x5) (eh_nz 0)) (fun s26 => eh_V (eh_tI s26 127 85 x17) (fun s27 => j7 s27)) else none) else none else none) else none else none) else none else none) else (j18 ()))) else none) else none) else (if eh_in x5 12 then if eh_in (x2 + 17) 448 then Option.bind (eF_12_answered s p0 x5 (s.1 149 (eh_ix x5)) (s.1 129 (eh_ix (x2 + 17))) x3 x4) (fun q28 => if eh_in (x2 + 10) 448 then eh_V (eh_tI q28.2 129 (eh_ix (x2 + 10)) q28.1) (fun s29 => j7 s29) else none) else none else none))) else none) else none) else none) else none))
set_option maxHeartbeats 4000000 in
set_option maxRecDepth 100000 in
theorem eS_12_threadCall (g : eh_P) (s : eh_F) (p0 : Int32) (p1 : Int32) : eh_Sim g eM_12_threadCall (eh_R 9 0 0) eh_eV 0 0 0 (eh_en 8 [.ref 127, .int p0, .int p1]) [] (eh_FW s) (eF_12_threadCall s p0 p1) := by
  unfold eF_12_threadCall
  refine ef_top (L := [some (.ref 127), some (.int p0), some (.int p1), none, none, none, none, none]) rfl ?_
  refine es_blk (pc' := 4) (L' := [some (.ref 127), some (.int p0), some (.int p1), none, none, none, none, none]) (st' := [.int p0, .ref 127, .int 32]) [(.bipush 32, 32), (.aload_n 0, 0), (.iload_n 1, 0)] (by decide +kernel) rfl rfl ?_
  refine ef_vpI (d := 1) (k := 127) (As := [.int p0]) (st := [.int 32]) eV_12_who eK_12_401 (eS_12_who g s p0) rfl rfl (Nat.le_of_ble_eq_true rfl) rfl (Nat.le_of_ble_eq_true rfl) ⟨Nat.le_of_ble_eq_true rfl, Nat.le_of_ble_eq_true rfl⟩ ⟨Nat.le_refl _, Nat.le_refl _⟩ (by decide +kernel) (fun q1 _ => ?_)
  refine es_blk (pc' := 9) (L' := [some (.ref 127), some (.int p0), some (.int p1), some (.int (32 * q1)), none, none, none, none]) (st' := []) [(.imul, 0), (.istore_n 3, 0)] (by decide +kernel) rfl rfl ?_
  refine ef_V (fun x2 => [some (.ref 127), some (.int p0), some (.int p1), some (.int x2), none, none, none, none]) (fun _ => []) (fun _ => eh_FW s) (fun x2 => ?_)
  refine es_blk (pc' := 10) (L' := [some (.ref 127), some (.int p0), some (.int p1), some (.int x2), none, none, none, none]) (st' := [.ref 127]) [(.aload_n 0, 0)] (by decide +kernel) rfl rfl ?_
  refine ef_getP (k := 127) (j := 1) (q := 129) rfl eL_12_14 rfl rfl rfl (by decide +kernel) ?_
  refine es_blk (pc' := 17) (L' := [some (.ref 127), some (.int p0), some (.int p1), some (.int x2), none, none, none, none]) (st' := [.int (x2 + 10), .ref 129]) [(.iload_n 3, 0), (.bipush 10, 10), (.iadd, 0)] (by decide +kernel) rfl rfl ?_
  refine ef_ald (k := 129) rfl (Or.inl ⟨rfl, rfl⟩) (by decide +kernel) (fun _ => ?_)
  refine es_blk (pc' := 20) (L' := [some (.ref 127), some (.int p0), some (.int p1), some (.int x2), some (.int (s.1 129 (eh_ix (x2 + 10)))), none, none, none]) (st' := []) [(.istore 4, 0)] (by decide +kernel) rfl rfl ?_
  refine ef_V (fun x3 => [some (.ref 127), some (.int p0), some (.int p1), some (.int x2), some (.int x3), none, none, none]) (fun _ => []) (fun _ => eh_FW s) (fun x3 => ?_)
  refine es_blk (pc' := 21) (L' := [some (.ref 127), some (.int p0), some (.int p1), some (.int x2), some (.int x3), none, none, none]) (st' := [.ref 127]) [(.aload_n 0, 0)] (by decide +kernel) rfl rfl ?_
  refine ef_getP (k := 127) (j := 1) (q := 129) rfl eL_12_14 rfl rfl rfl (by decide +kernel) ?_
  refine es_blk (pc' := 28) (L' := [some (.ref 127), some (.int p0), some (.int p1), some (.int x2), some (.int x3), none, none, none]) (st' := [.int (x2 + 11), .ref 129]) [(.iload_n 3, 0), (.bipush 11, 11), (.iadd, 0)] (by decide +kernel) rfl rfl ?_
  refine ef_ald (k := 129) rfl (Or.inl ⟨rfl, rfl⟩) (by decide +kernel) (fun _ => ?_)
  refine es_blk (pc' := 31) (L' := [some (.ref 127), some (.int p0), some (.int p1), some (.int x2), some (.int x3), some (.int (s.1 129 (eh_ix (x2 + 11)))), none, none]) (st' := []) [(.istore 5, 0)] (by decide +kernel) rfl rfl ?_
  refine ef_V (fun x4 => [some (.ref 127), some (.int p0), some (.int p1), some (.int x2), some (.int x3), some (.int x4), none, none]) (fun _ => []) (fun _ => eh_FW s) (fun x4 => ?_)
  refine es_blk (pc' := 32) (L' := [some (.ref 127), some (.int p0), some (.int p1), some (.int x2), some (.int x3), some (.int x4), none, none]) (st' := [.ref 127]) [(.aload_n 0, 0)] (by decide +kernel) rfl rfl ?_
  refine ef_getP (k := 127) (j := 16) (q := 144) rfl eL_12_61 rfl rfl rfl (by decide +kernel) ?_
  refine es_blk (pc' := 36) (L' := [some (.ref 127), some (.int p0), some (.int p1), some (.int x2), some (.int x3), some (.int x4), none, none]) (st' := [.int p0, .ref 144]) [(.iload_n 1, 0)] (by decide +kernel) rfl rfl ?_
  refine ef_ald (k := 144) rfl (Or.inl ⟨rfl, rfl⟩) (by decide +kernel) (fun _ => ?_)
  refine es_blk (pc' := 39) (L' := [some (.ref 127), some (.int p0), some (.int p1), some (.int x2), some (.int x3), some (.int x4), some (.int (s.1 144 (eh_ix p0))), none]) (st' := []) [(.istore 6, 0)] (by decide +kernel) rfl rfl ?_
  refine ef_V (fun x5 => [some (.ref 127), some (.int p0), some (.int p1), some (.int x2), some (.int x3), some (.int x4), some (.int x5), none]) (fun _ => []) (fun _ => eh_FW s) (fun x5 => ?_)
  refine es_blk (pc' := 40) (L' := [some (.ref 127), some (.int p0), some (.int p1), some (.int x2), some (.int x3), some (.int x4), some (.int x5), none]) (st' := [.ref 127]) [(.aload_n 0, 0)] (by decide +kernel) rfl rfl ?_
  refine ef_getP (k := 127) (j := 1) (q := 129) rfl eL_12_14 rfl rfl rfl (by decide +kernel) ?_
  refine es_blk (pc' := 47) (L' := [some (.ref 127), some (.int p0), some (.int p1), some (.int x2), some (.int x3), some (.int x4), some (.int x5), none]) (st' := [.int (x2 + 17), .ref 129]) [(.iload_n 3, 0), (.bipush 17, 17), (.iadd, 0)] (by decide +kernel) rfl rfl ?_
  refine ef_ald (k := 129) rfl (Or.inl ⟨rfl, rfl⟩) (by decide +kernel) (fun _ => ?_)
  refine ef_V (fun _ => [some (.ref 127), some (.int p0), some (.int p1), some (.int x2), some (.int x3), some (.int x4), some (.int x5), none]) (fun x6 => [.int x6]) (fun _ => eh_FW s) (fun x6 => ?_)
  refine ef_J (X := fun j7 => ∀ (s8 : eh_F), eh_Sim g eM_12_threadCall (eh_R 9 0 0) eh_eV 0 0 283 [none, none, none, none, none, none, none, none] [] (eh_FW s8) ((j7 s8).bind some)) ?_ (fun j7 Hj7 => ?_)
  · intro s8
    exact es_ret rfl rfl rfl ⟨by decide +kernel, rfl⟩ (Nat.le_refl _) (Nat.le_refl _)
  have hs9 : decode eM_12_threadCall.2.1 48 = .ok (.lookupswitch (199) #[(32, 36), (33, 58), (44, 80)], 36) := by decide +kernel
  refine es_ifc (fun h10 => ?_) (fun h10 => ?_)
  · refine es_lsw (off := (36)) (tgt := 84) hs9 32 h10 (by decide) (by decide) (by decide) ?_
    refine es_blk (pc' := 91) (L' := [some (.ref 127), some (.int p0), some (.int p1), some (.int x2), some (.int x3), some (.int x4), some (.int x5), none]) (st' := [.int 0, .int 0, .int x3, .int p0, .int 1, .ref 127]) [(.aload_n 0, 0), (.iconst 1, 1), (.iload_n 1, 0), (.iload 4, 0), (.iconst 0, 0), (.iconst 0, 0)] (by decide +kernel) rfl rfl ?_
    refine ef_veV (d := 1) (k := 127) (As := [.int 1, .int p0, .int x3, .int 0, .int 0]) (st := []) eV_12_happens eK_12_394 (eS_12_happens g s 1 p0 x3 0 0) rfl rfl (Nat.le_of_ble_eq_true rfl) rfl (Nat.le_of_ble_eq_true rfl) ⟨Nat.le_of_ble_eq_true rfl, Nat.le_of_ble_eq_true rfl⟩ ⟨Nat.le_refl _, Nat.le_refl _⟩ (by decide +kernel) (fun q11 _ => ?_)
    refine es_blk (pc' := 100) (L' := [some (.ref 127), some (.int p0), some (.int p1), some (.int x2), some (.int x3), some (.int x4), some (.int x5), none]) (st' := [.int x3, .int 0, .int 1, .int p0, .ref 127]) [(.aload_n 0, 0), (.iload_n 1, 0), (.iconst 1, 1), (.iconst 0, 0), (.iload 4, 0)] (by decide +kernel) rfl rfl ?_
    refine ef_veV (d := 1) (k := 127) (As := [.int p0, .int 1, .int 0, .int x3]) (st := []) eV_12_leave eK_12_407 (eS_12_leave g q11 p0 1 0 x3) rfl rfl (Nat.le_of_ble_eq_true rfl) rfl (Nat.le_of_ble_eq_true rfl) ⟨Nat.le_of_ble_eq_true rfl, Nat.le_of_ble_eq_true rfl⟩ ⟨Nat.le_refl _, Nat.le_refl _⟩ (by decide +kernel) (fun q12 _ => ?_)
    refine es_goto (tgt := 283) (off := (180)) (by decide +kernel) (by decide) ?_
    refine ef_drop (L2 := [none, none, none, none, none, none, none, none]) [false, false, false, false, false, false, false, true] rfl rfl ?_
    exact Hj7 _
  refine es_ifc (fun h13 => ?_) (fun h13 => ?_)
  · refine es_lsw (off := (58)) (tgt := 106) hs9 33 h13 (by decide) (by decide) (by decide) ?_
    refine es_blk (pc' := 113) (L' := [some (.ref 127), some (.int p0), some (.int p1), some (.int x2), some (.int x3), some (.int x4), some (.int x5), none]) (st' := [.int 0, .int 0, .int x3, .int p0, .int 2, .ref 127]) [(.aload_n 0, 0), (.iconst 2, 2), (.iload_n 1, 0), (.iload 4, 0), (.iconst 0, 0), (.iconst 0, 0)] (by decide +kernel) rfl rfl ?_
    refine ef_veV (d := 1) (k := 127) (As := [.int 2, .int p0, .int x3, .int 0, .int 0]) (st := []) eV_12_happens eK_12_394 (eS_12_happens g s 2 p0 x3 0 0) rfl rfl (Nat.le_of_ble_eq_true rfl) rfl (Nat.le_of_ble_eq_true rfl) ⟨Nat.le_of_ble_eq_true rfl, Nat.le_of_ble_eq_true rfl⟩ ⟨Nat.le_refl _, Nat.le_refl _⟩ (by decide +kernel) (fun q14 _ => ?_)
    refine es_blk (pc' := 122) (L' := [some (.ref 127), some (.int p0), some (.int p1), some (.int x2), some (.int x3), some (.int x4), some (.int x5), none]) (st' := [.int x3, .int 1, .int 4, .int p0, .ref 127]) [(.aload_n 0, 0), (.iload_n 1, 0), (.iconst 4, 4), (.iconst 1, 1), (.iload 4, 0)] (by decide +kernel) rfl rfl ?_
    refine ef_veV (d := 1) (k := 127) (As := [.int p0, .int 4, .int 1, .int x3]) (st := []) eV_12_leave eK_12_407 (eS_12_leave g q14 p0 4 1 x3) rfl rfl (Nat.le_of_ble_eq_true rfl) rfl (Nat.le_of_ble_eq_true rfl) ⟨Nat.le_of_ble_eq_true rfl, Nat.le_of_ble_eq_true rfl⟩ ⟨Nat.le_refl _, Nat.le_refl _⟩ (by decide +kernel) (fun q15 _ => ?_)
    refine es_goto (tgt := 283) (off := (158)) (by decide +kernel) (by decide) ?_
    refine ef_drop (L2 := [none, none, none, none, none, none, none, none]) [false, false, false, false, false, false, false, true] rfl rfl ?_
    exact Hj7 _
  refine es_ifc (fun h16 => ?_) (fun h16 => ?_)
  · refine es_lsw (off := (80)) (tgt := 128) hs9 44 h16 (by decide) (by decide) (by decide) ?_
    refine es_blk (pc' := 129) (L' := [some (.ref 127), some (.int p0), some (.int p1), some (.int x2), some (.int x3), some (.int x4), some (.int x5), none]) (st' := [.ref 127]) [(.aload_n 0, 0)] (by decide +kernel) rfl rfl ?_
    refine ef_getP (k := 127) (j := 29) (q := 154) rfl eL_12_91 rfl rfl rfl (by decide +kernel) ?_
    refine es_blk (pc' := 138) (L' := [some (.ref 127), some (.int p0), some (.int p1), some (.int x2), some (.int x3), some (.int x4), some (.int x5), none]) (st' := [.int ((4 * x5) + 2), .ref 154]) [(.iconst 4, 4), (.iload 6, 0), (.imul, 0), (.iconst 2, 2), (.iadd, 0)] (by decide +kernel) rfl rfl ?_
    refine ef_ald (k := 154) rfl (Or.inl ⟨rfl, rfl⟩) (by decide +kernel) (fun _ => ?_)
    refine es_blk (pc' := 144) (L' := [some (.ref 127), some (.int p0), some (.int p1), some (.int x2), some (.int x3), some (.int x4), some (.int x5), some (.int ((s.1 154 (eh_ix ((4 * x5) + 2))) + x3))]) (st' := []) [(.iload 4, 0), (.iadd, 0), (.istore 7, 0)] (by decide +kernel) rfl rfl ?_
    refine ef_V (fun x17 => [some (.ref 127), some (.int p0), some (.int p1), some (.int x2), some (.int x3), some (.int x4), some (.int x5), some (.int x17)]) (fun _ => []) (fun _ => eh_FW s) (fun x17 => ?_)
    refine es_blk (pc' := 145) (L' := [some (.ref 127), some (.int p0), some (.int p1), some (.int x2), some (.int x3), some (.int x4), some (.int x5), some (.int x17)]) (st' := [.ref 127]) [(.aload_n 0, 0)] (by decide +kernel) rfl rfl ?_
    refine ef_getP (k := 127) (j := 28) (q := 153) rfl eL_12_88 rfl rfl rfl (by decide +kernel) ?_
    refine es_blk (pc' := 150) (L' := [some (.ref 127), some (.int p0), some (.int p1), some (.int x2), some (.int x3), some (.int x4), some (.int x5), some (.int x17)]) (st' := [.int x5, .ref 153]) [(.iload 6, 0)] (by decide +kernel) rfl rfl ?_
    refine ef_ald (k := 153) rfl (Or.inr ⟨Or.inr rfl, rfl⟩) (by decide +kernel) (fun _ => ?_)
    refine ef_J (X := fun j18 => ∀ (u19 : Unit), eh_Sim g eM_12_threadCall (eh_R 9 0 0) eh_eV 0 0 161 [some (.ref 127), none, none, some (.int x2), none, none, none, none] [] (eh_FW s) ((j18 u19).bind some)) ?_ (fun j18 Hj18 => ?_)
    · intro u19
      refine es_blk (pc' := 162) (L' := [some (.ref 127), none, none, some (.int x2), none, none, none, none]) (st' := [.ref 127]) [(.aload_n 0, 0)] (by decide +kernel) rfl rfl ?_
      refine ef_getP (k := 127) (j := 1) (q := 129) rfl eL_12_14 rfl rfl rfl (by decide +kernel) ?_
      refine es_blk (pc' := 170) (L' := [some (.ref 127), none, none, some (.int x2), none, none, none, none]) (st' := [.int (-1), .int (x2 + 10), .ref 129]) [(.iload_n 3, 0), (.bipush 10, 10), (.iadd, 0), (.iconst (-1), (-1))] (by decide +kernel) rfl rfl ?_
      refine ef_ast (k := 129) rfl (by decide +kernel) (fun _ => ?_)
      refine ef_V (fun _ => [some (.ref 127), none, none, some (.int x2), none, none, none, none]) (fun _ => []) (fun s20 => eh_FW s20) (fun s20 => ?_)
      refine es_goto (tgt := 283) (off := (112)) (by decide +kernel) (by decide) ?_
      refine ef_drop (L2 := [none, none, none, none, none, none, none, none]) [false, true, true, false, true, true, true, true] rfl rfl ?_
      exact Hj7 _
    refine es_eq (tgt := 161) (off := (10)) (by decide +kernel) (by decide) (fun h21 => ?_) (fun h21 => ?_)
    · refine ef_drop (L2 := [some (.ref 127), none, none, some (.int x2), none, none, none, none]) [true, false, false, true, false, false, false, false] rfl rfl ?_
      exact Hj18 ()
    refine es_blk (pc' := 158) (L' := [some (.ref 127), some (.int p0), some (.int p1), some (.int x2), some (.int x3), some (.int x4), some (.int x5), some (.int x17)]) (st' := [.int (x17 &&& 3)]) [(.iload 7, 0), (.iconst 3, 3), (.iand, 0)] (by decide +kernel) rfl rfl ?_
    refine es_eq (tgt := 174) (off := (16)) (by decide +kernel) (by decide) (fun h22 => ?_) (fun h22 => ?_)
    · refine es_blk (pc' := 175) (L' := [some (.ref 127), some (.int p0), some (.int p1), some (.int x2), some (.int x3), some (.int x4), some (.int x5), some (.int x17)]) (st' := [.ref 127]) [(.aload_n 0, 0)] (by decide +kernel) rfl rfl ?_
      refine ef_getP (k := 127) (j := 1) (q := 129) rfl eL_12_14 rfl rfl rfl (by decide +kernel) ?_
      refine es_blk (pc' := 183) (L' := [some (.ref 127), some (.int p0), some (.int p1), some (.int x2), some (.int x3), some (.int x4), some (.int x5), some (.int x17)]) (st' := [.ref 127, .int (x2 + 10), .ref 129]) [(.iload_n 3, 0), (.bipush 10, 10), (.iadd, 0), (.aload_n 0, 0)] (by decide +kernel) rfl rfl ?_
      refine ef_getP (k := 127) (j := 29) (q := 154) rfl eL_12_91 rfl rfl rfl (by decide +kernel) ?_
      refine es_blk (pc' := 190) (L' := [some (.ref 127), some (.int p0), some (.int p1), some (.int x2), some (.int x3), some (.int x4), some (.int x5), some (.int x17)]) (st' := [.int (4 * x5), .ref 154, .int (x2 + 10), .ref 129]) [(.iconst 4, 4), (.iload 6, 0), (.imul, 0)] (by decide +kernel) rfl rfl ?_
      refine ef_ald (k := 154) rfl (Or.inl ⟨rfl, rfl⟩) (by decide +kernel) (fun _ => ?_)
      refine ef_ast (k := 129) rfl (by decide +kernel) (fun _ => ?_)
      refine ef_V (fun _ => [some (.ref 127), some (.int p0), some (.int p1), some (.int x2), some (.int x3), some (.int x4), some (.int x5), some (.int x17)]) (fun _ => []) (fun s23 => eh_FW s23) (fun s23 => ?_)
      refine es_blk (pc' := 193) (L' := [some (.ref 127), some (.int p0), some (.int p1), some (.int x2), some (.int x3), some (.int x4), some (.int x5), some (.int x17)]) (st' := [.ref 127]) [(.aload_n 0, 0)] (by decide +kernel) rfl rfl ?_
      refine ef_getP (k := 127) (j := 1) (q := 129) rfl eL_12_14 rfl rfl rfl (by decide +kernel) ?_
      refine es_blk (pc' := 201) (L' := [some (.ref 127), some (.int p0), some (.int p1), some (.int x2), some (.int x3), some (.int x4), some (.int x5), some (.int x17)]) (st' := [.ref 127, .int (x2 + 11), .ref 129]) [(.iload_n 3, 0), (.bipush 11, 11), (.iadd, 0), (.aload_n 0, 0)] (by decide +kernel) rfl rfl ?_
      refine ef_getP (k := 127) (j := 29) (q := 154) rfl eL_12_91 rfl rfl rfl (by decide +kernel) ?_
      refine es_blk (pc' := 210) (L' := [some (.ref 127), some (.int p0), some (.int p1), some (.int x2), some (.int x3), some (.int x4), some (.int x5), some (.int x17)]) (st' := [.int ((4 * x5) + 1), .ref 154, .int (x2 + 11), .ref 129]) [(.iconst 4, 4), (.iload 6, 0), (.imul, 0), (.iconst 1, 1), (.iadd, 0)] (by decide +kernel) rfl rfl ?_
      refine ef_ald (k := 154) rfl (Or.inl ⟨rfl, rfl⟩) (by decide +kernel) (fun _ => ?_)
      refine ef_ast (k := 129) rfl (by decide +kernel) (fun _ => ?_)
      refine ef_V (fun _ => [some (.ref 127), some (.int p0), some (.int p1), some (.int x2), some (.int x3), some (.int x4), some (.int x5), some (.int x17)]) (fun _ => []) (fun s24 => eh_FW s24) (fun s24 => ?_)
      refine es_blk (pc' := 213) (L' := [some (.ref 127), some (.int p0), some (.int p1), some (.int x2), some (.int x3), some (.int x4), some (.int x5), some (.int x17)]) (st' := [.ref 127]) [(.aload_n 0, 0)] (by decide +kernel) rfl rfl ?_
      refine ef_getP (k := 127) (j := 27) (q := 152) rfl eL_12_85 rfl rfl rfl (by decide +kernel) ?_
      refine es_blk (pc' := 219) (L' := [some (.ref 127), some (.int p0), some (.int p1), some (.int x2), some (.int x3), some (.int x4), some (.int x5), some (.int x17)]) (st' := [.ref 127, .int x5, .ref 152]) [(.iload 6, 0), (.aload_n 0, 0)] (by decide +kernel) rfl rfl ?_
      refine ef_getP (k := 127) (j := 29) (q := 154) rfl eL_12_91 rfl rfl rfl (by decide +kernel) ?_
      refine es_blk (pc' := 228) (L' := [some (.ref 127), some (.int p0), some (.int p1), some (.int x2), some (.int x3), some (.int x4), some (.int x5), some (.int x17)]) (st' := [.int ((4 * x5) + 3), .ref 154, .int x5, .ref 152]) [(.iconst 4, 4), (.iload 6, 0), (.imul, 0), (.iconst 3, 3), (.iadd, 0)] (by decide +kernel) rfl rfl ?_
      refine ef_ald (k := 154) rfl (Or.inl ⟨rfl, rfl⟩) (by decide +kernel) (fun _ => ?_)
      refine ef_ast (k := 152) rfl (by decide +kernel) (fun _ => ?_)
      refine ef_V (fun _ => [some (.ref 127), some (.int p0), some (.int p1), some (.int x2), some (.int x3), some (.int x4), some (.int x5), some (.int x17)]) (fun _ => []) (fun s25 => eh_FW s25) (fun s25 => ?_)
      refine es_blk (pc' := 231) (L' := [some (.ref 127), some (.int p0), some (.int p1), some (.int x2), some (.int x3), some (.int x4), some (.int x5), some (.int x17)]) (st' := [.ref 127]) [(.aload_n 0, 0)] (by decide +kernel) rfl rfl ?_
      refine ef_getP (k := 127) (j := 28) (q := 153) rfl eL_12_88 rfl rfl rfl (by decide +kernel) ?_
      refine es_blk (pc' := 237) (L' := [some (.ref 127), some (.int p0), some (.int p1), some (.int x2), some (.int x3), some (.int x4), some (.int x5), some (.int x17)]) (st' := [.int 0, .int x5, .ref 153]) [(.iload 6, 0), (.iconst 0, 0)] (by decide +kernel) rfl rfl ?_
      refine ef_astZ (k := 153) rfl (by decide +kernel) (fun _ => ?_)
      refine ef_V (fun _ => [some (.ref 127), some (.int p0), some (.int p1), some (.int x2), some (.int x3), some (.int x4), some (.int x5), some (.int x17)]) (fun _ => []) (fun s26 => eh_FW s26) (fun s26 => ?_)
      refine es_blk (pc' := 241) (L' := [some (.ref 127), some (.int p0), some (.int p1), some (.int x2), some (.int x3), some (.int x4), some (.int x5), some (.int x17)]) (st' := [.int x17, .ref 127]) [(.aload_n 0, 0), (.iload 7, 0)] (by decide +kernel) rfl rfl ?_
      refine ef_putI (k := 127) (j := 85) rfl eL_12_417 rfl rfl (by decide +kernel) ?_
      refine ef_V (fun _ => [some (.ref 127), some (.int p0), some (.int p1), some (.int x2), some (.int x3), some (.int x4), some (.int x5), some (.int x17)]) (fun _ => []) (fun s27 => eh_FW s27) (fun s27 => ?_)
      refine es_goto (tgt := 283) (off := (39)) (by decide +kernel) (by decide) ?_
      refine ef_drop (L2 := [none, none, none, none, none, none, none, none]) [false, false, false, false, false, false, false, false] rfl rfl ?_
      exact Hj7 _
    refine ef_drop (L2 := [some (.ref 127), none, none, some (.int x2), none, none, none, none]) [true, false, false, true, false, false, false, false] rfl rfl ?_
    exact Hj18 ()
  refine es_lswD (tgt := 247) hs9 [32, 33, 44] (List.forall_mem_cons.mpr ⟨eh_nei 32 32 (by decide) h10, (List.forall_mem_cons.mpr ⟨eh_nei 33 33 (by decide) h13, (List.forall_mem_cons.mpr ⟨eh_nei 44 44 (by decide) h16, (List.forall_mem_nil _)⟩)⟩)⟩) (by decide) (by decide) (by decide) ?_
  refine es_blk (pc' := 248) (L' := [some (.ref 127), some (.int p0), some (.int p1), some (.int x2), some (.int x3), some (.int x4), some (.int x5), none]) (st' := [.ref 127]) [(.aload_n 0, 0)] (by decide +kernel) rfl rfl ?_
  refine ef_getP (k := 127) (j := 1) (q := 129) rfl eL_12_14 rfl rfl rfl (by decide +kernel) ?_
  refine es_blk (pc' := 260) (L' := [some (.ref 127), some (.int p0), some (.int p1), some (.int x2), some (.int x3), some (.int x4), some (.int x5), none]) (st' := [.ref 127, .int x5, .int p0, .ref 127, .int (x2 + 10), .ref 129]) [(.iload_n 3, 0), (.bipush 10, 10), (.iadd, 0), (.aload_n 0, 0), (.iload_n 1, 0), (.iload 6, 0), (.aload_n 0, 0)] (by decide +kernel) rfl rfl ?_
  refine ef_getP (k := 127) (j := 24) (q := 149) rfl eL_12_76 rfl rfl rfl (by decide +kernel) ?_
  refine es_blk (pc' := 265) (L' := [some (.ref 127), some (.int p0), some (.int p1), some (.int x2), some (.int x3), some (.int x4), some (.int x5), none]) (st' := [.int x5, .ref 149, .int x5, .int p0, .ref 127, .int (x2 + 10), .ref 129]) [(.iload 6, 0)] (by decide +kernel) rfl rfl ?_
  refine ef_ald (k := 149) rfl (Or.inl ⟨rfl, rfl⟩) (by decide +kernel) (fun _ => ?_)
  refine es_blk (pc' := 267) (L' := [some (.ref 127), some (.int p0), some (.int p1), some (.int x2), some (.int x3), some (.int x4), some (.int x5), none]) (st' := [.ref 127, .int (s.1 149 (eh_ix x5)), .int x5, .int p0, .ref 127, .int (x2 + 10), .ref 129]) [(.aload_n 0, 0)] (by decide +kernel) rfl rfl ?_
  refine ef_getP (k := 127) (j := 1) (q := 129) rfl eL_12_14 rfl rfl rfl (by decide +kernel) ?_
  refine es_blk (pc' := 274) (L' := [some (.ref 127), some (.int p0), some (.int p1), some (.int x2), some (.int x3), some (.int x4), some (.int x5), none]) (st' := [.int (x2 + 17), .ref 129, .int (s.1 149 (eh_ix x5)), .int x5, .int p0, .ref 127, .int (x2 + 10), .ref 129]) [(.iload_n 3, 0), (.bipush 17, 17), (.iadd, 0)] (by decide +kernel) rfl rfl ?_
  refine ef_ald (k := 129) rfl (Or.inl ⟨rfl, rfl⟩) (by decide +kernel) (fun _ => ?_)
  refine es_blk (pc' := 279) (L' := [some (.ref 127), some (.int p0), some (.int p1), some (.int x2), some (.int x3), some (.int x4), some (.int x5), none]) (st' := [.int x4, .int x3, .int (s.1 129 (eh_ix (x2 + 17))), .int (s.1 149 (eh_ix x5)), .int x5, .int p0, .ref 127, .int (x2 + 10), .ref 129]) [(.iload 4, 0), (.iload 5, 0)] (by decide +kernel) rfl rfl ?_
  refine ef_veI (d := 8) (k := 127) (As := [.int p0, .int x5, .int (s.1 149 (eh_ix x5)), .int (s.1 129 (eh_ix (x2 + 17))), .int x3, .int x4]) (st := [.int (x2 + 10), .ref 129]) eV_12_answered eK_12_582 (eS_12_answered g s p0 x5 (s.1 149 (eh_ix x5)) (s.1 129 (eh_ix (x2 + 17))) x3 x4) rfl rfl (Nat.le_of_ble_eq_true rfl) rfl (Nat.le_of_ble_eq_true rfl) ⟨Nat.le_of_ble_eq_true rfl, Nat.le_of_ble_eq_true rfl⟩ ⟨Nat.le_refl _, Nat.le_refl _⟩ (by decide +kernel) (fun q28 _ => ?_)
  refine ef_ast (k := 129) rfl (by decide +kernel) (fun _ => ?_)
  refine ef_V (fun _ => [some (.ref 127), some (.int p0), some (.int p1), some (.int x2), some (.int x3), some (.int x4), some (.int x5), none]) (fun _ => []) (fun s29 => eh_FW s29) (fun s29 => ?_)
  refine ef_drop (L2 := [none, none, none, none, none, none, none, none]) [false, false, false, false, false, false, false, true] rfl rfl ?_
  exact Hj7 _
def eF_12_calls (s : eh_F) (p0 : Int32) (p1 : Int32) : Option (eh_F) := if eh_in p0 2 then eh_J (fun (s2 : eh_F) => some s2) (fun j1 => if (s.1 144 (eh_ix p0)) = (-1) then (if eh_in p0 2 then if (s.1 131 (eh_ix p0)) = 0 then (Option.bind (eF_12_except s 8 0) (fun q5 => j1 q5)) else (if eh_in ((32 * p0) + 17) 448 then if eh_in ((32 * p0) + 10) 448 then if eh_in ((32 * p0) + 11) 448 then if eh_in ((32 * p0) + 12) 448 then if eh_in ((32 * p0) + 13) 448 then Option.bind (eF_12_systemCall s p0 (s.1 129 (eh_ix ((32 * p0) + 17))) (s.1 129 (eh_ix ((32 * p0) + 10))) (s.1 129 (eh_ix ((32 * p0) + 11))) (s.1 129 (eh_ix ((32 * p0) + 12))) (s.1 129 (eh_ix ((32 * p0) + 13)))) (fun q6 => if (q6.2.1 127 86) = 0 then (if eh_in ((32 * p0) + 10) 448 then eh_V (eh_tI q6.2 129 (eh_ix ((32 * p0) + 10)) q6.1) (fun s8 => j1 s8) else none) else (j1 q6.2)) else none else none else none else none else none) else none) else (Option.bind (eF_12_threadCall s p0 p1) (fun q9 => j1 q9))) else none
set_option maxHeartbeats 4000000 in
set_option maxRecDepth 100000 in
theorem eS_12_calls (g : eh_P) (s : eh_F) (p0 : Int32) (p1 : Int32) : eh_Sim g eM_12_calls (eh_R 10 0 0) eh_eV 0 0 0 (eh_en 4 [.ref 127, .int p0, .int p1]) [] (eh_FW s) (eF_12_calls s p0 p1) := by
  unfold eF_12_calls
  refine ef_top (L := [some (.ref 127), some (.int p0), some (.int p1), none]) rfl ?_
  refine es_blk (pc' := 1) (L' := [some (.ref 127), some (.int p0), some (.int p1), none]) (st' := [.ref 127]) [(.aload_n 0, 0)] (by decide +kernel) rfl rfl ?_
  refine ef_getP (k := 127) (j := 16) (q := 144) rfl eL_12_61 rfl rfl rfl (by decide +kernel) ?_
  refine es_blk (pc' := 5) (L' := [some (.ref 127), some (.int p0), some (.int p1), none]) (st' := [.int p0, .ref 144]) [(.iload_n 1, 0)] (by decide +kernel) rfl rfl ?_
  refine ef_ald (k := 144) rfl (Or.inl ⟨rfl, rfl⟩) (by decide +kernel) (fun _ => ?_)
  refine es_blk (pc' := 7) (L' := [some (.ref 127), some (.int p0), some (.int p1), none]) (st' := [.int (-1), .int (s.1 144 (eh_ix p0))]) [(.iconst (-1), (-1))] (by decide +kernel) rfl rfl ?_
  refine ef_J (X := fun j1 => ∀ (s2 : eh_F), eh_Sim g eM_12_calls (eh_R 10 0 0) eh_eV 0 0 124 [none, none, none, none] [] (eh_FW s2) ((j1 s2).bind some)) ?_ (fun j1 Hj1 => ?_)
  · intro s2
    exact es_ret rfl rfl rfl ⟨by decide +kernel, rfl⟩ (Nat.le_refl _) (Nat.le_refl _)
  refine es_ieq (tgt := 19) (off := (12)) (by decide +kernel) (by decide) (fun h3 => ?_) (fun h3 => ?_)
  · refine es_blk (pc' := 20) (L' := [some (.ref 127), some (.int p0), some (.int p1), none]) (st' := [.ref 127]) [(.aload_n 0, 0)] (by decide +kernel) rfl rfl ?_
    refine ef_getP (k := 127) (j := 3) (q := 131) rfl eL_12_21 rfl rfl rfl (by decide +kernel) ?_
    refine es_blk (pc' := 24) (L' := [some (.ref 127), some (.int p0), some (.int p1), none]) (st' := [.int p0, .ref 131]) [(.iload_n 1, 0)] (by decide +kernel) rfl rfl ?_
    refine ef_ald (k := 131) rfl (Or.inl ⟨rfl, rfl⟩) (by decide +kernel) (fun _ => ?_)
    refine es_ne (tgt := 38) (off := (13)) (by decide +kernel) (by decide) (fun h4 => ?_) (fun h4 => ?_)
    · refine es_blk (pc' := 32) (L' := [some (.ref 127), some (.int p0), some (.int p1), none]) (st' := [.int 0, .int 8, .ref 127]) [(.aload_n 0, 0), (.bipush 8, 8), (.iconst 0, 0)] (by decide +kernel) rfl rfl ?_
      refine ef_veV (d := 1) (k := 127) (As := [.int 8, .int 0]) (st := []) eV_12_except eK_12_359 (eS_12_except g s 8 0) rfl rfl (Nat.le_of_ble_eq_true rfl) rfl (Nat.le_of_ble_eq_true rfl) ⟨Nat.le_of_ble_eq_true rfl, Nat.le_of_ble_eq_true rfl⟩ ⟨Nat.le_refl _, Nat.le_refl _⟩ (by decide +kernel) (fun q5 _ => ?_)
      refine es_goto (tgt := 124) (off := (89)) (by decide +kernel) (by decide) ?_
      refine ef_drop (L2 := [none, none, none, none]) [false, false, false, true] rfl rfl ?_
      exact Hj1 _
    refine es_blk (pc' := 41) (L' := [some (.ref 127), some (.int p0), some (.int p1), none]) (st' := [.ref 127, .int p0, .ref 127]) [(.aload_n 0, 0), (.iload_n 1, 0), (.aload_n 0, 0)] (by decide +kernel) rfl rfl ?_
    refine ef_getP (k := 127) (j := 1) (q := 129) rfl eL_12_14 rfl rfl rfl (by decide +kernel) ?_
    refine es_blk (pc' := 51) (L' := [some (.ref 127), some (.int p0), some (.int p1), none]) (st' := [.int ((32 * p0) + 17), .ref 129, .int p0, .ref 127]) [(.bipush 32, 32), (.iload_n 1, 0), (.imul, 0), (.bipush 17, 17), (.iadd, 0)] (by decide +kernel) rfl rfl ?_
    refine ef_ald (k := 129) rfl (Or.inl ⟨rfl, rfl⟩) (by decide +kernel) (fun _ => ?_)
    refine es_blk (pc' := 53) (L' := [some (.ref 127), some (.int p0), some (.int p1), none]) (st' := [.ref 127, .int (s.1 129 (eh_ix ((32 * p0) + 17))), .int p0, .ref 127]) [(.aload_n 0, 0)] (by decide +kernel) rfl rfl ?_
    refine ef_getP (k := 127) (j := 1) (q := 129) rfl eL_12_14 rfl rfl rfl (by decide +kernel) ?_
    refine es_blk (pc' := 63) (L' := [some (.ref 127), some (.int p0), some (.int p1), none]) (st' := [.int ((32 * p0) + 10), .ref 129, .int (s.1 129 (eh_ix ((32 * p0) + 17))), .int p0, .ref 127]) [(.bipush 32, 32), (.iload_n 1, 0), (.imul, 0), (.bipush 10, 10), (.iadd, 0)] (by decide +kernel) rfl rfl ?_
    refine ef_ald (k := 129) rfl (Or.inl ⟨rfl, rfl⟩) (by decide +kernel) (fun _ => ?_)
    refine es_blk (pc' := 65) (L' := [some (.ref 127), some (.int p0), some (.int p1), none]) (st' := [.ref 127, .int (s.1 129 (eh_ix ((32 * p0) + 10))), .int (s.1 129 (eh_ix ((32 * p0) + 17))), .int p0, .ref 127]) [(.aload_n 0, 0)] (by decide +kernel) rfl rfl ?_
    refine ef_getP (k := 127) (j := 1) (q := 129) rfl eL_12_14 rfl rfl rfl (by decide +kernel) ?_
    refine es_blk (pc' := 75) (L' := [some (.ref 127), some (.int p0), some (.int p1), none]) (st' := [.int ((32 * p0) + 11), .ref 129, .int (s.1 129 (eh_ix ((32 * p0) + 10))), .int (s.1 129 (eh_ix ((32 * p0) + 17))), .int p0, .ref 127]) [(.bipush 32, 32), (.iload_n 1, 0), (.imul, 0), (.bipush 11, 11), (.iadd, 0)] (by decide +kernel) rfl rfl ?_
    refine ef_ald (k := 129) rfl (Or.inl ⟨rfl, rfl⟩) (by decide +kernel) (fun _ => ?_)
    refine es_blk (pc' := 77) (L' := [some (.ref 127), some (.int p0), some (.int p1), none]) (st' := [.ref 127, .int (s.1 129 (eh_ix ((32 * p0) + 11))), .int (s.1 129 (eh_ix ((32 * p0) + 10))), .int (s.1 129 (eh_ix ((32 * p0) + 17))), .int p0, .ref 127]) [(.aload_n 0, 0)] (by decide +kernel) rfl rfl ?_
    refine ef_getP (k := 127) (j := 1) (q := 129) rfl eL_12_14 rfl rfl rfl (by decide +kernel) ?_
    refine es_blk (pc' := 87) (L' := [some (.ref 127), some (.int p0), some (.int p1), none]) (st' := [.int ((32 * p0) + 12), .ref 129, .int (s.1 129 (eh_ix ((32 * p0) + 11))), .int (s.1 129 (eh_ix ((32 * p0) + 10))), .int (s.1 129 (eh_ix ((32 * p0) + 17))), .int p0, .ref 127]) [(.bipush 32, 32), (.iload_n 1, 0), (.imul, 0), (.bipush 12, 12), (.iadd, 0)] (by decide +kernel) rfl rfl ?_
    refine ef_ald (k := 129) rfl (Or.inl ⟨rfl, rfl⟩) (by decide +kernel) (fun _ => ?_)
    refine es_blk (pc' := 89) (L' := [some (.ref 127), some (.int p0), some (.int p1), none]) (st' := [.ref 127, .int (s.1 129 (eh_ix ((32 * p0) + 12))), .int (s.1 129 (eh_ix ((32 * p0) + 11))), .int (s.1 129 (eh_ix ((32 * p0) + 10))), .int (s.1 129 (eh_ix ((32 * p0) + 17))), .int p0, .ref 127]) [(.aload_n 0, 0)] (by decide +kernel) rfl rfl ?_
    refine ef_getP (k := 127) (j := 1) (q := 129) rfl eL_12_14 rfl rfl rfl (by decide +kernel) ?_
    refine es_blk (pc' := 99) (L' := [some (.ref 127), some (.int p0), some (.int p1), none]) (st' := [.int ((32 * p0) + 13), .ref 129, .int (s.1 129 (eh_ix ((32 * p0) + 12))), .int (s.1 129 (eh_ix ((32 * p0) + 11))), .int (s.1 129 (eh_ix ((32 * p0) + 10))), .int (s.1 129 (eh_ix ((32 * p0) + 17))), .int p0, .ref 127]) [(.bipush 32, 32), (.iload_n 1, 0), (.imul, 0), (.bipush 13, 13), (.iadd, 0)] (by decide +kernel) rfl rfl ?_
    refine ef_ald (k := 129) rfl (Or.inl ⟨rfl, rfl⟩) (by decide +kernel) (fun _ => ?_)
    refine ef_veI (d := 7) (k := 127) (As := [.int p0, .int (s.1 129 (eh_ix ((32 * p0) + 17))), .int (s.1 129 (eh_ix ((32 * p0) + 10))), .int (s.1 129 (eh_ix ((32 * p0) + 11))), .int (s.1 129 (eh_ix ((32 * p0) + 12))), .int (s.1 129 (eh_ix ((32 * p0) + 13)))]) (st := []) eV_12_systemCall eK_12_501 (eS_12_systemCall g s p0 (s.1 129 (eh_ix ((32 * p0) + 17))) (s.1 129 (eh_ix ((32 * p0) + 10))) (s.1 129 (eh_ix ((32 * p0) + 11))) (s.1 129 (eh_ix ((32 * p0) + 12))) (s.1 129 (eh_ix ((32 * p0) + 13)))) rfl rfl (Nat.le_of_ble_eq_true rfl) rfl (Nat.le_of_ble_eq_true rfl) ⟨Nat.le_of_ble_eq_true rfl, Nat.le_of_ble_eq_true rfl⟩ ⟨Nat.le_refl _, Nat.le_refl _⟩ (by decide +kernel) (fun q6 _ => ?_)
    refine es_blk (pc' := 105) (L' := [some (.ref 127), some (.int p0), some (.int p1), some (.int q6.1)]) (st' := [.ref 127]) [(.istore_n 3, 0), (.aload_n 0, 0)] (by decide +kernel) rfl rfl ?_
    refine ef_getI (k := 127) (j := 86) rfl eL_12_414 (by decide) (by decide +kernel) ?_
    refine es_ne (tgt := 124) (off := (16)) (by decide +kernel) (by decide) (fun h7 => ?_) (fun h7 => ?_)
    · refine es_blk (pc' := 112) (L' := [some (.ref 127), some (.int p0), some (.int p1), some (.int q6.1)]) (st' := [.ref 127]) [(.aload_n 0, 0)] (by decide +kernel) rfl rfl ?_
      refine ef_getP (k := 127) (j := 1) (q := 129) rfl eL_12_14 rfl rfl rfl (by decide +kernel) ?_
      refine es_blk (pc' := 123) (L' := [some (.ref 127), some (.int p0), some (.int p1), some (.int q6.1)]) (st' := [.int q6.1, .int ((32 * p0) + 10), .ref 129]) [(.bipush 32, 32), (.iload_n 1, 0), (.imul, 0), (.bipush 10, 10), (.iadd, 0), (.iload_n 3, 0)] (by decide +kernel) rfl rfl ?_
      refine ef_ast (k := 129) rfl (by decide +kernel) (fun _ => ?_)
      refine ef_V (fun _ => [some (.ref 127), some (.int p0), some (.int p1), some (.int q6.1)]) (fun _ => []) (fun s8 => eh_FW s8) (fun s8 => ?_)
      refine ef_drop (L2 := [none, none, none, none]) [false, false, false, false] rfl rfl ?_
      exact Hj1 _
    refine ef_drop (L2 := [none, none, none, none]) [false, false, false, false] rfl rfl ?_
    exact Hj1 _
  refine es_blk (pc' := 13) (L' := [some (.ref 127), some (.int p0), some (.int p1), none]) (st' := [.int p1, .int p0, .ref 127]) [(.aload_n 0, 0), (.iload_n 1, 0), (.iload_n 2, 0)] (by decide +kernel) rfl rfl ?_
  refine ef_veV (d := 9) (k := 127) (As := [.int p0, .int p1]) (st := []) eV_12_threadCall eK_12_498 (eS_12_threadCall g s p0 p1) rfl rfl (Nat.le_of_ble_eq_true rfl) rfl (Nat.le_of_ble_eq_true rfl) ⟨Nat.le_of_ble_eq_true rfl, Nat.le_of_ble_eq_true rfl⟩ ⟨Nat.le_refl _, Nat.le_refl _⟩ (by decide +kernel) (fun q9 _ => ?_)
  refine es_goto (tgt := 124) (off := (108)) (by decide +kernel) (by decide) ?_
  refine ef_drop (L2 := [none, none, none, none]) [false, false, false, true] rfl rfl ?_
  exact Hj1 _
def eF_12_control (s : eh_F) (p0 : Int32) (p1 : Int32) (p2 : Int32) (p3 : Int32) (p4 : Int32) (p5 : Int32) : Option (eh_F) := eh_V ((eh_ushr p1 20) : Int32) (fun x1 => if eh_in p0 2 then eh_J (fun (a3 : Int32) => eh_J (fun (u5 : Unit) => eh_J (fun (s7 : eh_F) => some s7) (fun j6 => eh_J (fun (u9 : Unit) => Option.bind (eF_12_except s 2 p1) (fun q10 => j6 q10)) (fun j8 => if p2 = 0 then (if p3 = 0 then (if x1 = 0 then (Option.bind (eF_12_calls s p0 p5) (fun q14 => j6 q14)) else (if x1 = 1 then (Option.bind (eF_12_except s 3 p5) (fun q16 => j6 q16)) else (eh_J (fun (u18 : Unit) => eh_J (fun (u20 : Unit) => Option.bind (eF_12_except s 2 p1) (fun q21 => j6 q21)) (fun j19 => if x1 = 261 then (if a3 = 0 then (j19 ()) else (if eh_in p0 2 then eh_V (eh_tI s 132 (eh_ix p0) (eh_nz 1)) (fun s24 => j6 s24) else none)) else (j19 ()))) (fun j17 => if x1 = 258 then (if a3 = 0 then (j17 ()) else (if eh_in p0 2 then eh_V (eh_tI s 127 85 (s.1 137 (eh_ix p0))) (fun s27 => if eh_in p0 2 then if eh_in p0 2 then eh_V (eh_tI s27 131 (eh_ix p0) ((eh_shr (s27.1 133 (eh_ix p0)) 8) &&& 1)) (fun s28 => if eh_in p0 2 then eh_V (((eh_shr (s28.1 133 (eh_ix p0)) 5) &&& 1) : Int32) (fun x29 => if eh_in p0 2 then if eh_in p0 2 then eh_V (eh_tI s28 133 (eh_ix p0) ((((s28.1 133 (eh_ix p0)) &&& (-259)) ||| (eh_shl x29 1)) ||| 32)) (fun s30 => j6 s30) else none else none) else none) else none else none) else none)) else (j17 ()))))) else (j8 ())) else (j8 ())))) (fun j4 => if p2 = 0 then (if p4 = 9 then (if a3 = 0 then (j4 ()) else (some s)) else (j4 ())) else (j4 ()))) (fun j2 => eh_J (fun (u35 : Unit) => j2 0) (fun j34 => if (s.1 144 (eh_ix p0)) = (-1) then (if eh_in p0 2 then if (s.1 131 (eh_ix p0)) = 1 then (j2 1) else (j34 ()) else none) else (j34 ()))) else none)
set_option maxHeartbeats 4000000 in
set_option maxRecDepth 100000 in
theorem eS_12_control (g : eh_P) (s : eh_F) (p0 : Int32) (p1 : Int32) (p2 : Int32) (p3 : Int32) (p4 : Int32) (p5 : Int32) : eh_Sim g eM_12_control (eh_R 11 0 0) eh_eV 0 0 0 (eh_en 10 [.ref 127, .int p0, .int p1, .int p2, .int p3, .int p4, .int p5]) [] (eh_FW s) (eF_12_control s p0 p1 p2 p3 p4 p5) := by
  unfold eF_12_control
  refine ef_top (L := [some (.ref 127), some (.int p0), some (.int p1), some (.int p2), some (.int p3), some (.int p4), some (.int p5), none, none, none]) rfl ?_
  refine es_blk (pc' := 6) (L' := [some (.ref 127), some (.int p0), some (.int p1), some (.int p2), some (.int p3), some (.int p4), some (.int p5), some (.int (eh_ushr p1 20)), none, none]) (st' := []) [(.iload_n 2, 0), (.bipush 20, 20), (.iushr, 0), (.istore 7, 0)] (by decide +kernel) rfl rfl ?_
  refine ef_V (fun x1 => [some (.ref 127), some (.int p0), some (.int p1), some (.int p2), some (.int p3), some (.int p4), some (.int p5), some (.int x1), none, none]) (fun _ => []) (fun _ => eh_FW s) (fun x1 => ?_)
  refine es_blk (pc' := 7) (L' := [some (.ref 127), some (.int p0), some (.int p1), some (.int p2), some (.int p3), some (.int p4), some (.int p5), some (.int x1), none, none]) (st' := [.ref 127]) [(.aload_n 0, 0)] (by decide +kernel) rfl rfl ?_
  refine ef_getP (k := 127) (j := 16) (q := 144) rfl eL_12_61 rfl rfl rfl (by decide +kernel) ?_
  refine es_blk (pc' := 11) (L' := [some (.ref 127), some (.int p0), some (.int p1), some (.int p2), some (.int p3), some (.int p4), some (.int p5), some (.int x1), none, none]) (st' := [.int p0, .ref 144]) [(.iload_n 1, 0)] (by decide +kernel) rfl rfl ?_
  refine ef_ald (k := 144) rfl (Or.inl ⟨rfl, rfl⟩) (by decide +kernel) (fun _ => ?_)
  refine es_blk (pc' := 13) (L' := [some (.ref 127), some (.int p0), some (.int p1), some (.int p2), some (.int p3), some (.int p4), some (.int p5), some (.int x1), none, none]) (st' := [.int (-1), .int (s.1 144 (eh_ix p0))]) [(.iconst (-1), (-1))] (by decide +kernel) rfl rfl ?_
  refine ef_J (X := fun j2 => ∀ (a3 : Int32), eh_Sim g eM_12_control (eh_R 11 0 0) eh_eV 0 0 31 [some (.ref 127), some (.int p0), some (.int p1), some (.int p2), some (.int p3), some (.int p4), some (.int p5), some (.int x1), none, none] [.int a3] (eh_FW s) ((j2 a3).bind some)) ?_ (fun j2 Hj2 => ?_)
  · intro a3
    refine es_blk (pc' := 34) (L' := [some (.ref 127), some (.int p0), some (.int p1), some (.int p2), some (.int p3), some (.int p4), some (.int p5), some (.int x1), some (.int a3), none]) (st' := [.int p2]) [(.istore 8, 0), (.iload_n 3, 0)] (by decide +kernel) rfl rfl ?_
    refine ef_J (X := fun j4 => ∀ (u5 : Unit), eh_Sim g eM_12_control (eh_R 11 0 0) eh_eV 0 0 50 [some (.ref 127), some (.int p0), some (.int p1), some (.int p2), some (.int p3), none, some (.int p5), some (.int x1), some (.int a3), none] [] (eh_FW s) ((j4 u5).bind some)) ?_ (fun j4 Hj4 => ?_)
    · intro u5
      refine es_blk (pc' := 51) (L' := [some (.ref 127), some (.int p0), some (.int p1), some (.int p2), some (.int p3), none, some (.int p5), some (.int x1), some (.int a3), none]) (st' := [.int p2]) [(.iload_n 3, 0)] (by decide +kernel) rfl rfl ?_
      refine ef_J (X := fun j6 => ∀ (s7 : eh_F), eh_Sim g eM_12_control (eh_R 11 0 0) eh_eV 0 0 207 [none, none, none, none, none, none, none, none, none, none] [] (eh_FW s7) ((j6 s7).bind some)) ?_ (fun j6 Hj6 => ?_)
      · intro s7
        exact es_ret rfl rfl rfl ⟨by decide +kernel, rfl⟩ (Nat.le_refl _) (Nat.le_refl _)
      refine ef_J (X := fun j8 => ∀ (u9 : Unit), eh_Sim g eM_12_control (eh_R 11 0 0) eh_eV 0 0 59 [some (.ref 127), none, some (.int p1), none, none, none, none, none, none, none] [] (eh_FW s) ((j8 u9).bind some)) ?_ (fun j8 Hj8 => ?_)
      · intro u9
        refine es_blk (pc' := 62) (L' := [some (.ref 127), none, some (.int p1), none, none, none, none, none, none, none]) (st' := [.int p1, .int 2, .ref 127]) [(.aload_n 0, 0), (.iconst 2, 2), (.iload_n 2, 0)] (by decide +kernel) rfl rfl ?_
        refine ef_veV (d := 1) (k := 127) (As := [.int 2, .int p1]) (st := []) eV_12_except eK_12_359 (eS_12_except g s 2 p1) rfl rfl (Nat.le_of_ble_eq_true rfl) rfl (Nat.le_of_ble_eq_true rfl) ⟨Nat.le_of_ble_eq_true rfl, Nat.le_of_ble_eq_true rfl⟩ ⟨Nat.le_refl _, Nat.le_refl _⟩ (by decide +kernel) (fun q10 _ => ?_)
        refine es_goto (tgt := 207) (off := (142)) (by decide +kernel) (by decide) ?_
        refine ef_drop (L2 := [none, none, none, none, none, none, none, none, none, none]) [false, true, false, true, true, true, true, true, true, true] rfl rfl ?_
        exact Hj6 _
      refine es_ne (tgt := 59) (off := (8)) (by decide +kernel) (by decide) (fun h11 => ?_) (fun h11 => ?_)
      · refine es_blk (pc' := 56) (L' := [some (.ref 127), some (.int p0), some (.int p1), some (.int p2), some (.int p3), none, some (.int p5), some (.int x1), some (.int a3), none]) (st' := [.int p3]) [(.iload 4, 0)] (by decide +kernel) rfl rfl ?_
        refine es_eq (tgt := 68) (off := (12)) (by decide +kernel) (by decide) (fun h12 => ?_) (fun h12 => ?_)
        · refine es_blk (pc' := 70) (L' := [some (.ref 127), some (.int p0), some (.int p1), some (.int p2), some (.int p3), none, some (.int p5), some (.int x1), some (.int a3), none]) (st' := [.int x1]) [(.iload 7, 0)] (by decide +kernel) rfl rfl ?_
          refine es_ne (tgt := 83) (off := (13)) (by decide +kernel) (by decide) (fun h13 => ?_) (fun h13 => ?_)
          · refine es_blk (pc' := 77) (L' := [some (.ref 127), some (.int p0), some (.int p1), some (.int p2), some (.int p3), none, some (.int p5), some (.int x1), some (.int a3), none]) (st' := [.int p5, .int p0, .ref 127]) [(.aload_n 0, 0), (.iload_n 1, 0), (.iload 6, 0)] (by decide +kernel) rfl rfl ?_
            refine ef_veV (d := 10) (k := 127) (As := [.int p0, .int p5]) (st := []) eV_12_calls eK_12_483 (eS_12_calls g s p0 p5) rfl rfl (Nat.le_of_ble_eq_true rfl) rfl (Nat.le_of_ble_eq_true rfl) ⟨Nat.le_of_ble_eq_true rfl, Nat.le_of_ble_eq_true rfl⟩ ⟨Nat.le_refl _, Nat.le_refl _⟩ (by decide +kernel) (fun q14 _ => ?_)
            refine es_goto (tgt := 207) (off := (127)) (by decide +kernel) (by decide) ?_
            refine ef_drop (L2 := [none, none, none, none, none, none, none, none, none, none]) [false, false, false, false, false, true, false, false, false, true] rfl rfl ?_
            exact Hj6 _
          refine es_blk (pc' := 86) (L' := [some (.ref 127), some (.int p0), some (.int p1), some (.int p2), some (.int p3), none, some (.int p5), some (.int x1), some (.int a3), none]) (st' := [.int 1, .int x1]) [(.iload 7, 0), (.iconst 1, 1)] (by decide +kernel) rfl rfl ?_
          refine es_ine (tgt := 99) (off := (13)) (by decide +kernel) (by decide) (fun h15 => ?_) (fun h15 => ?_)
          · refine es_blk (pc' := 93) (L' := [some (.ref 127), some (.int p0), some (.int p1), some (.int p2), some (.int p3), none, some (.int p5), some (.int x1), some (.int a3), none]) (st' := [.int p5, .int 3, .ref 127]) [(.aload_n 0, 0), (.iconst 3, 3), (.iload 6, 0)] (by decide +kernel) rfl rfl ?_
            refine ef_veV (d := 1) (k := 127) (As := [.int 3, .int p5]) (st := []) eV_12_except eK_12_359 (eS_12_except g s 3 p5) rfl rfl (Nat.le_of_ble_eq_true rfl) rfl (Nat.le_of_ble_eq_true rfl) ⟨Nat.le_of_ble_eq_true rfl, Nat.le_of_ble_eq_true rfl⟩ ⟨Nat.le_refl _, Nat.le_refl _⟩ (by decide +kernel) (fun q16 _ => ?_)
            refine es_goto (tgt := 207) (off := (111)) (by decide +kernel) (by decide) ?_
            refine ef_drop (L2 := [none, none, none, none, none, none, none, none, none, none]) [false, false, false, false, false, true, false, false, false, true] rfl rfl ?_
            exact Hj6 _
          refine es_blk (pc' := 104) (L' := [some (.ref 127), some (.int p0), some (.int p1), some (.int p2), some (.int p3), none, some (.int p5), some (.int x1), some (.int a3), none]) (st' := [.int 258, .int x1]) [(.iload 7, 0), (.sipush 258, 258)] (by decide +kernel) rfl rfl ?_
          refine ef_J (X := fun j17 => ∀ (u18 : Unit), eh_Sim g eM_12_control (eh_R 11 0 0) eh_eV 0 0 178 [some (.ref 127), some (.int p0), some (.int p1), none, none, none, none, some (.int x1), some (.int a3), none] [] (eh_FW s) ((j17 u18).bind some)) ?_ (fun j17 Hj17 => ?_)
          · intro u18
            refine es_blk (pc' := 183) (L' := [some (.ref 127), some (.int p0), some (.int p1), none, none, none, none, some (.int x1), some (.int a3), none]) (st' := [.int 261, .int x1]) [(.iload 7, 0), (.sipush 261, 261)] (by decide +kernel) rfl rfl ?_
            refine ef_J (X := fun j19 => ∀ (u20 : Unit), eh_Sim g eM_12_control (eh_R 11 0 0) eh_eV 0 0 201 [some (.ref 127), none, some (.int p1), none, none, none, none, none, none, none] [] (eh_FW s) ((j19 u20).bind some)) ?_ (fun j19 Hj19 => ?_)
            · intro u20
              refine es_blk (pc' := 204) (L' := [some (.ref 127), none, some (.int p1), none, none, none, none, none, none, none]) (st' := [.int p1, .int 2, .ref 127]) [(.aload_n 0, 0), (.iconst 2, 2), (.iload_n 2, 0)] (by decide +kernel) rfl rfl ?_
              refine ef_veV (d := 1) (k := 127) (As := [.int 2, .int p1]) (st := []) eV_12_except eK_12_359 (eS_12_except g s 2 p1) rfl rfl (Nat.le_of_ble_eq_true rfl) rfl (Nat.le_of_ble_eq_true rfl) ⟨Nat.le_of_ble_eq_true rfl, Nat.le_of_ble_eq_true rfl⟩ ⟨Nat.le_refl _, Nat.le_refl _⟩ (by decide +kernel) (fun q21 _ => ?_)
              refine ef_drop (L2 := [none, none, none, none, none, none, none, none, none, none]) [false, true, false, true, true, true, true, true, true, true] rfl rfl ?_
              exact Hj6 _
            refine es_ine (tgt := 201) (off := (18)) (by decide +kernel) (by decide) (fun h22 => ?_) (fun h22 => ?_)
            · refine es_blk (pc' := 188) (L' := [some (.ref 127), some (.int p0), some (.int p1), none, none, none, none, some (.int x1), some (.int a3), none]) (st' := [.int a3]) [(.iload 8, 0)] (by decide +kernel) rfl rfl ?_
              refine es_eq (tgt := 201) (off := (13)) (by decide +kernel) (by decide) (fun h23 => ?_) (fun h23 => ?_)
              · refine ef_drop (L2 := [some (.ref 127), none, some (.int p1), none, none, none, none, none, none, none]) [true, false, true, true, true, true, true, false, false, true] rfl rfl ?_
                exact Hj19 ()
              refine es_blk (pc' := 192) (L' := [some (.ref 127), some (.int p0), some (.int p1), none, none, none, none, some (.int x1), some (.int a3), none]) (st' := [.ref 127]) [(.aload_n 0, 0)] (by decide +kernel) rfl rfl ?_
              refine ef_getP (k := 127) (j := 4) (q := 132) rfl eL_12_24 rfl rfl rfl (by decide +kernel) ?_
              refine es_blk (pc' := 197) (L' := [some (.ref 127), some (.int p0), some (.int p1), none, none, none, none, some (.int x1), some (.int a3), none]) (st' := [.int 1, .int p0, .ref 132]) [(.iload_n 1, 0), (.iconst 1, 1)] (by decide +kernel) rfl rfl ?_
              refine ef_astZ (k := 132) rfl (by decide +kernel) (fun _ => ?_)
              refine ef_V (fun _ => [some (.ref 127), some (.int p0), some (.int p1), none, none, none, none, some (.int x1), some (.int a3), none]) (fun _ => []) (fun s24 => eh_FW s24) (fun s24 => ?_)
              refine es_goto (tgt := 207) (off := (9)) (by decide +kernel) (by decide) ?_
              refine ef_drop (L2 := [none, none, none, none, none, none, none, none, none, none]) [false, false, false, true, true, true, true, false, false, true] rfl rfl ?_
              exact Hj6 _
            refine ef_drop (L2 := [some (.ref 127), none, some (.int p1), none, none, none, none, none, none, none]) [true, false, true, true, true, true, true, false, false, true] rfl rfl ?_
            exact Hj19 ()
          refine es_ine (tgt := 178) (off := (74)) (by decide +kernel) (by decide) (fun h25 => ?_) (fun h25 => ?_)
          · refine es_blk (pc' := 109) (L' := [some (.ref 127), some (.int p0), some (.int p1), some (.int p2), some (.int p3), none, some (.int p5), some (.int x1), some (.int a3), none]) (st' := [.int a3]) [(.iload 8, 0)] (by decide +kernel) rfl rfl ?_
            refine es_eq (tgt := 178) (off := (69)) (by decide +kernel) (by decide) (fun h26 => ?_) (fun h26 => ?_)
            · refine ef_drop (L2 := [some (.ref 127), some (.int p0), some (.int p1), none, none, none, none, some (.int x1), some (.int a3), none]) [true, true, true, false, false, true, false, true, true, true] rfl rfl ?_
              exact Hj17 ()
            refine es_blk (pc' := 114) (L' := [some (.ref 127), some (.int p0), some (.int p1), some (.int p2), some (.int p3), none, some (.int p5), some (.int x1), some (.int a3), none]) (st' := [.ref 127, .ref 127]) [(.aload_n 0, 0), (.aload_n 0, 0)] (by decide +kernel) rfl rfl ?_
            refine ef_getP (k := 127) (j := 9) (q := 137) rfl eL_12_40 rfl rfl rfl (by decide +kernel) ?_
            refine es_blk (pc' := 118) (L' := [some (.ref 127), some (.int p0), some (.int p1), some (.int p2), some (.int p3), none, some (.int p5), some (.int x1), some (.int a3), none]) (st' := [.int p0, .ref 137, .ref 127]) [(.iload_n 1, 0)] (by decide +kernel) rfl rfl ?_
            refine ef_ald (k := 137) rfl (Or.inl ⟨rfl, rfl⟩) (by decide +kernel) (fun _ => ?_)
            refine ef_putI (k := 127) (j := 85) rfl eL_12_417 rfl rfl (by decide +kernel) ?_
            refine ef_V (fun _ => [some (.ref 127), some (.int p0), some (.int p1), some (.int p2), some (.int p3), none, some (.int p5), some (.int x1), some (.int a3), none]) (fun _ => []) (fun s27 => eh_FW s27) (fun s27 => ?_)
            refine es_blk (pc' := 123) (L' := [some (.ref 127), some (.int p0), some (.int p1), some (.int p2), some (.int p3), none, some (.int p5), some (.int x1), some (.int a3), none]) (st' := [.ref 127]) [(.aload_n 0, 0)] (by decide +kernel) rfl rfl ?_
            refine ef_getP (k := 127) (j := 3) (q := 131) rfl eL_12_21 rfl rfl rfl (by decide +kernel) ?_
            refine es_blk (pc' := 128) (L' := [some (.ref 127), some (.int p0), some (.int p1), some (.int p2), some (.int p3), none, some (.int p5), some (.int x1), some (.int a3), none]) (st' := [.ref 127, .int p0, .ref 131]) [(.iload_n 1, 0), (.aload_n 0, 0)] (by decide +kernel) rfl rfl ?_
            refine ef_getP (k := 127) (j := 5) (q := 133) rfl eL_12_28 rfl rfl rfl (by decide +kernel) ?_
            refine es_blk (pc' := 132) (L' := [some (.ref 127), some (.int p0), some (.int p1), some (.int p2), some (.int p3), none, some (.int p5), some (.int x1), some (.int a3), none]) (st' := [.int p0, .ref 133, .int p0, .ref 131]) [(.iload_n 1, 0)] (by decide +kernel) rfl rfl ?_
            refine ef_ald (k := 133) rfl (Or.inl ⟨rfl, rfl⟩) (by decide +kernel) (fun _ => ?_)
            refine es_blk (pc' := 138) (L' := [some (.ref 127), some (.int p0), some (.int p1), some (.int p2), some (.int p3), none, some (.int p5), some (.int x1), some (.int a3), none]) (st' := [.int ((eh_shr (s27.1 133 (eh_ix p0)) 8) &&& 1), .int p0, .ref 131]) [(.bipush 8, 8), (.ishr, 0), (.iconst 1, 1), (.iand, 0)] (by decide +kernel) rfl rfl ?_
            refine ef_ast (k := 131) rfl (by decide +kernel) (fun _ => ?_)
            refine ef_V (fun _ => [some (.ref 127), some (.int p0), some (.int p1), some (.int p2), some (.int p3), none, some (.int p5), some (.int x1), some (.int a3), none]) (fun _ => []) (fun s28 => eh_FW s28) (fun s28 => ?_)
            refine es_blk (pc' := 140) (L' := [some (.ref 127), some (.int p0), some (.int p1), some (.int p2), some (.int p3), none, some (.int p5), some (.int x1), some (.int a3), none]) (st' := [.ref 127]) [(.aload_n 0, 0)] (by decide +kernel) rfl rfl ?_
            refine ef_getP (k := 127) (j := 5) (q := 133) rfl eL_12_28 rfl rfl rfl (by decide +kernel) ?_
            refine es_blk (pc' := 144) (L' := [some (.ref 127), some (.int p0), some (.int p1), some (.int p2), some (.int p3), none, some (.int p5), some (.int x1), some (.int a3), none]) (st' := [.int p0, .ref 133]) [(.iload_n 1, 0)] (by decide +kernel) rfl rfl ?_
            refine ef_ald (k := 133) rfl (Or.inl ⟨rfl, rfl⟩) (by decide +kernel) (fun _ => ?_)
            refine es_blk (pc' := 151) (L' := [some (.ref 127), some (.int p0), some (.int p1), some (.int p2), some (.int p3), none, some (.int p5), some (.int x1), some (.int a3), some (.int ((eh_shr (s28.1 133 (eh_ix p0)) 5) &&& 1))]) (st' := []) [(.iconst 5, 5), (.ishr, 0), (.iconst 1, 1), (.iand, 0), (.istore 9, 0)] (by decide +kernel) rfl rfl ?_
            refine ef_V (fun x29 => [some (.ref 127), some (.int p0), some (.int p1), some (.int p2), some (.int p3), none, some (.int p5), some (.int x1), some (.int a3), some (.int x29)]) (fun _ => []) (fun _ => eh_FW s28) (fun x29 => ?_)
            refine es_blk (pc' := 152) (L' := [some (.ref 127), some (.int p0), some (.int p1), some (.int p2), some (.int p3), none, some (.int p5), some (.int x1), some (.int a3), some (.int x29)]) (st' := [.ref 127]) [(.aload_n 0, 0)] (by decide +kernel) rfl rfl ?_
            refine ef_getP (k := 127) (j := 5) (q := 133) rfl eL_12_28 rfl rfl rfl (by decide +kernel) ?_
            refine es_blk (pc' := 157) (L' := [some (.ref 127), some (.int p0), some (.int p1), some (.int p2), some (.int p3), none, some (.int p5), some (.int x1), some (.int a3), some (.int x29)]) (st' := [.ref 127, .int p0, .ref 133]) [(.iload_n 1, 0), (.aload_n 0, 0)] (by decide +kernel) rfl rfl ?_
            refine ef_getP (k := 127) (j := 5) (q := 133) rfl eL_12_28 rfl rfl rfl (by decide +kernel) ?_
            refine es_blk (pc' := 161) (L' := [some (.ref 127), some (.int p0), some (.int p1), some (.int p2), some (.int p3), none, some (.int p5), some (.int x1), some (.int a3), some (.int x29)]) (st' := [.int p0, .ref 133, .int p0, .ref 133]) [(.iload_n 1, 0)] (by decide +kernel) rfl rfl ?_
            refine ef_ald (k := 133) rfl (Or.inl ⟨rfl, rfl⟩) (by decide +kernel) (fun _ => ?_)
            refine es_blk (pc' := 174) (L' := [some (.ref 127), some (.int p0), some (.int p1), some (.int p2), some (.int p3), none, some (.int p5), some (.int x1), some (.int a3), some (.int x29)]) (st' := [.int ((((s28.1 133 (eh_ix p0)) &&& (-259)) ||| (eh_shl x29 1)) ||| 32), .int p0, .ref 133]) [(.sipush (-259), (-259)), (.iand, 0), (.iload 9, 0), (.iconst 1, 1), (.ishl, 0), (.ior, 0), (.bipush 32, 32), (.ior, 0)] (by decide +kernel) rfl rfl ?_
            refine ef_ast (k := 133) rfl (by decide +kernel) (fun _ => ?_)
            refine ef_V (fun _ => [some (.ref 127), some (.int p0), some (.int p1), some (.int p2), some (.int p3), none, some (.int p5), some (.int x1), some (.int a3), some (.int x29)]) (fun _ => []) (fun s30 => eh_FW s30) (fun s30 => ?_)
            refine es_goto (tgt := 207) (off := (32)) (by decide +kernel) (by decide) ?_
            refine ef_drop (L2 := [none, none, none, none, none, none, none, none, none, none]) [false, false, false, false, false, true, false, false, false, false] rfl rfl ?_
            exact Hj6 _
          refine ef_drop (L2 := [some (.ref 127), some (.int p0), some (.int p1), none, none, none, none, some (.int x1), some (.int a3), none]) [true, true, true, false, false, true, false, true, true, true] rfl rfl ?_
          exact Hj17 ()
        refine ef_drop (L2 := [some (.ref 127), none, some (.int p1), none, none, none, none, none, none, none]) [true, false, true, false, false, true, false, false, false, true] rfl rfl ?_
        exact Hj8 ()
      refine ef_drop (L2 := [some (.ref 127), none, some (.int p1), none, none, none, none, none, none, none]) [true, false, true, false, false, true, false, false, false, true] rfl rfl ?_
      exact Hj8 ()
    refine es_ne (tgt := 50) (off := (16)) (by decide +kernel) (by decide) (fun h31 => ?_) (fun h31 => ?_)
    · refine es_blk (pc' := 41) (L' := [some (.ref 127), some (.int p0), some (.int p1), some (.int p2), some (.int p3), some (.int p4), some (.int p5), some (.int x1), some (.int a3), none]) (st' := [.int 9, .int p4]) [(.iload 5, 0), (.bipush 9, 9)] (by decide +kernel) rfl rfl ?_
      refine es_ine (tgt := 50) (off := (9)) (by decide +kernel) (by decide) (fun h32 => ?_) (fun h32 => ?_)
      · refine es_blk (pc' := 46) (L' := [some (.ref 127), some (.int p0), some (.int p1), some (.int p2), some (.int p3), some (.int p4), some (.int p5), some (.int x1), some (.int a3), none]) (st' := [.int a3]) [(.iload 8, 0)] (by decide +kernel) rfl rfl ?_
        refine es_eq (tgt := 50) (off := (4)) (by decide +kernel) (by decide) (fun h33 => ?_) (fun h33 => ?_)
        · refine ef_drop (L2 := [some (.ref 127), some (.int p0), some (.int p1), some (.int p2), some (.int p3), none, some (.int p5), some (.int x1), some (.int a3), none]) [true, true, true, true, true, false, true, true, true, true] rfl rfl ?_
          exact Hj4 ()
        exact es_ret rfl rfl rfl ⟨by decide +kernel, rfl⟩ (Nat.le_refl _) (Nat.le_refl _)
      refine ef_drop (L2 := [some (.ref 127), some (.int p0), some (.int p1), some (.int p2), some (.int p3), none, some (.int p5), some (.int x1), some (.int a3), none]) [true, true, true, true, true, false, true, true, true, true] rfl rfl ?_
      exact Hj4 ()
    refine ef_drop (L2 := [some (.ref 127), some (.int p0), some (.int p1), some (.int p2), some (.int p3), none, some (.int p5), some (.int x1), some (.int a3), none]) [true, true, true, true, true, false, true, true, true, true] rfl rfl ?_
    exact Hj4 ()
  refine ef_J (X := fun j34 => ∀ (u35 : Unit), eh_Sim g eM_12_control (eh_R 11 0 0) eh_eV 0 0 30 [some (.ref 127), some (.int p0), some (.int p1), some (.int p2), some (.int p3), some (.int p4), some (.int p5), some (.int x1), none, none] [] (eh_FW s) ((j34 u35).bind some)) ?_ (fun j34 Hj34 => ?_)
  · intro u35
    refine es_blk (pc' := 31) (L' := [some (.ref 127), some (.int p0), some (.int p1), some (.int p2), some (.int p3), some (.int p4), some (.int p5), some (.int x1), none, none]) (st' := [.int 0]) [(.iconst 0, 0)] (by decide +kernel) rfl rfl ?_
    exact Hj2 _
  refine es_ine (tgt := 30) (off := (17)) (by decide +kernel) (by decide) (fun h36 => ?_) (fun h36 => ?_)
  · refine es_blk (pc' := 17) (L' := [some (.ref 127), some (.int p0), some (.int p1), some (.int p2), some (.int p3), some (.int p4), some (.int p5), some (.int x1), none, none]) (st' := [.ref 127]) [(.aload_n 0, 0)] (by decide +kernel) rfl rfl ?_
    refine ef_getP (k := 127) (j := 3) (q := 131) rfl eL_12_21 rfl rfl rfl (by decide +kernel) ?_
    refine es_blk (pc' := 21) (L' := [some (.ref 127), some (.int p0), some (.int p1), some (.int p2), some (.int p3), some (.int p4), some (.int p5), some (.int x1), none, none]) (st' := [.int p0, .ref 131]) [(.iload_n 1, 0)] (by decide +kernel) rfl rfl ?_
    refine ef_ald (k := 131) rfl (Or.inl ⟨rfl, rfl⟩) (by decide +kernel) (fun _ => ?_)
    refine es_blk (pc' := 23) (L' := [some (.ref 127), some (.int p0), some (.int p1), some (.int p2), some (.int p3), some (.int p4), some (.int p5), some (.int x1), none, none]) (st' := [.int 1, .int (s.1 131 (eh_ix p0))]) [(.iconst 1, 1)] (by decide +kernel) rfl rfl ?_
    refine es_ine (tgt := 30) (off := (7)) (by decide +kernel) (by decide) (fun h37 => ?_) (fun h37 => ?_)
    · refine es_blk (pc' := 27) (L' := [some (.ref 127), some (.int p0), some (.int p1), some (.int p2), some (.int p3), some (.int p4), some (.int p5), some (.int x1), none, none]) (st' := [.int 1]) [(.iconst 1, 1)] (by decide +kernel) rfl rfl ?_
      refine es_goto (tgt := 31) (off := (4)) (by decide +kernel) (by decide) ?_
      exact Hj2 _
    exact Hj34 ()
  exact Hj34 ()
def eF_12_execute (s : eh_F) (p0 : Int32) (p1 : Int32) (p2 : Int32) : Option (eh_F) := eh_V (((eh_shr p1 7) &&& 31) : Int32) (fun x1 => eh_V (((eh_shr p1 12) &&& 7) : Int32) (fun x2 => eh_V (((eh_shr p1 15) &&& 31) : Int32) (fun x3 => eh_V (((eh_shr p1 20) &&& 31) : Int32) (fun x4 => eh_V ((eh_ushr p1 25) : Int32) (fun x5 => Option.bind (eF_12_get s p0 x3) (fun q6 => Option.bind (eF_12_get s p0 x4) (fun q7 => eh_V ((eh_shr p1 20) : Int32) (fun x8 => eh_V ((p1 &&& 127) : Int32) (fun x9 => eh_J (fun (s11 : eh_F) => some s11) (fun j10 => if x9 = 3 then (Option.bind (eF_12_loads s p0 p1 x2 x1 (q6 + x8)) (fun q14 => j10 q14)) else if x9 = 15 then (if 1 < x2 then (Option.bind (eF_12_except s 2 p1) (fun q17 => j10 q17)) else (j10 s)) else if x9 = 19 then (Option.bind (eF_12_immediate s p0 p1 x1 x2 x4 x5 q6 x8) (fun q19 => j10 q19)) else if x9 = 23 then (Option.bind (eF_12_set s p0 x1 (p2 + (p1 &&& (-4096)))) (fun q21 => j10 q21)) else if x9 = 35 then (if 2 < x2 then (Option.bind (eF_12_except s 2 p1) (fun q24 => j10 q24)) else (Option.bind (eF_12_store s p0 (q6 + ((eh_shl (eh_shr p1 25) 5) ||| x1)) (eh_shl 1 x2) q7) (fun q25 => j10 q25))) else if x9 = 47 then (Option.bind (eF_12_atomic s p0 p1 x1 x2 x4 (eh_shr x5 2) q6 q7) (fun q27 => j10 q27)) else if x9 = 51 then (Option.bind (eF_12_sums s p0 p1 x1 x2 x5 q6 q7) (fun q29 => j10 q29)) else if x9 = 55 then (Option.bind (eF_12_set s p0 x1 (p1 &&& (-4096))) (fun q31 => j10 q31)) else if x9 = 99 then (eh_J (fun (u34 : Unit) => Option.bind (eF_12_except s 2 p1) (fun q35 => j10 q35)) (fun j33 => if x2 = 2 then (j33 ()) else (if x2 = 3 then (j33 ()) else (Option.bind (eF_12_isTaken s x2 q6 q7) (fun q38 => if q38 = 0 then (j10 s) else (Option.bind (eF_12_jump s (p2 + ((((eh_shl (eh_shr p1 31) 12) ||| (eh_shl ((eh_shr p1 7) &&& 1) 11)) ||| (eh_shl ((eh_shr p1 25) &&& 63) 5)) ||| (eh_shl ((eh_shr p1 8) &&& 15) 1)))) (fun q40 => j10 q40))))))) else if x9 = 103 then (if x2 = 0 then (Option.bind (eF_12_jump s ((q6 + x8) &&& (-2))) (fun q43 => if (q43.1 127 83) = (-1) then (Option.bind (eF_12_set q43 p0 x1 (p2 + 4)) (fun q45 => j10 q45)) else (j10 q43))) else (Option.bind (eF_12_except s 2 p1) (fun q46 => j10 q46))) else if x9 = 111 then (eh_V (((((eh_shl (eh_shr p1 31) 20) ||| (p1 &&& 1044480)) ||| (eh_shl ((eh_shr p1 20) &&& 1) 11)) ||| (eh_shl ((eh_shr p1 21) &&& 1023) 1)) : Int32) (fun x48 => Option.bind (eF_12_jump s (p2 + x48)) (fun q49 => if (q49.1 127 83) = (-1) then (Option.bind (eF_12_set q49 p0 x1 (p2 + 4)) (fun q51 => j10 q51)) else (j10 q49)))) else if x9 = 115 then (if x2 = 0 then (Option.bind (eF_12_control s p0 p1 x1 x3 x5 p2) (fun q54 => j10 q54)) else (if x2 = 4 then (Option.bind (eF_12_except s 2 p1) (fun q56 => j10 q56)) else (Option.bind (eF_12_registers s p0 p1 x1 x2 x3 q6) (fun q57 => j10 q57)))) else (Option.bind (eF_12_except s 2 p1) (fun q58 => j10 q58))))))))))))
set_option maxHeartbeats 4000000 in
set_option maxRecDepth 100000 in
theorem eS_12_execute (g : eh_P) (s : eh_F) (p0 : Int32) (p1 : Int32) (p2 : Int32) : eh_Sim g eM_12_execute (eh_R 12 0 0) eh_eV 0 0 0 (eh_en 13 [.ref 127, .int p0, .int p1, .int p2]) [] (eh_FW s) (eF_12_execute s p0 p1 p2) := by
  unfold eF_12_execute
  refine ef_top (L := [some (.ref 127), some (.int p0), some (.int p1), some (.int p2), none, none, none, none, none, none, none, none, none]) rfl ?_
  refine es_blk (pc' := 9) (L' := [some (.ref 127), some (.int p0), some (.int p1), some (.int p2), some (.int ((eh_shr p1 7) &&& 31)), none, none, none, none, none, none, none, none]) (st' := []) [(.iload_n 2, 0), (.bipush 7, 7), (.ishr, 0), (.bipush 31, 31), (.iand, 0), (.istore 4, 0)] (by decide +kernel) rfl rfl ?_
  refine ef_V (fun x1 => [some (.ref 127), some (.int p0), some (.int p1), some (.int p2), some (.int x1), none, none, none, none, none, none, none, none]) (fun _ => []) (fun _ => eh_FW s) (fun x1 => ?_)
  refine es_blk (pc' := 18) (L' := [some (.ref 127), some (.int p0), some (.int p1), some (.int p2), some (.int x1), some (.int ((eh_shr p1 12) &&& 7)), none, none, none, none, none, none, none]) (st' := []) [(.iload_n 2, 0), (.bipush 12, 12), (.ishr, 0), (.bipush 7, 7), (.iand, 0), (.istore 5, 0)] (by decide +kernel) rfl rfl ?_
  refine ef_V (fun x2 => [some (.ref 127), some (.int p0), some (.int p1), some (.int p2), some (.int x1), some (.int x2), none, none, none, none, none, none, none]) (fun _ => []) (fun _ => eh_FW s) (fun x2 => ?_)
  refine es_blk (pc' := 27) (L' := [some (.ref 127), some (.int p0), some (.int p1), some (.int p2), some (.int x1), some (.int x2), some (.int ((eh_shr p1 15) &&& 31)), none, none, none, none, none, none]) (st' := []) [(.iload_n 2, 0), (.bipush 15, 15), (.ishr, 0), (.bipush 31, 31), (.iand, 0), (.istore 6, 0)] (by decide +kernel) rfl rfl ?_
  refine ef_V (fun x3 => [some (.ref 127), some (.int p0), some (.int p1), some (.int p2), some (.int x1), some (.int x2), some (.int x3), none, none, none, none, none, none]) (fun _ => []) (fun _ => eh_FW s) (fun x3 => ?_)
  refine es_blk (pc' := 36) (L' := [some (.ref 127), some (.int p0), some (.int p1), some (.int p2), some (.int x1), some (.int x2), some (.int x3), some (.int ((eh_shr p1 20) &&& 31)), none, none, none, none, none]) (st' := []) [(.iload_n 2, 0), (.bipush 20, 20), (.ishr, 0), (.bipush 31, 31), (.iand, 0), (.istore 7, 0)] (by decide +kernel) rfl rfl ?_
  refine ef_V (fun x4 => [some (.ref 127), some (.int p0), some (.int p1), some (.int p2), some (.int x1), some (.int x2), some (.int x3), some (.int x4), none, none, none, none, none]) (fun _ => []) (fun _ => eh_FW s) (fun x4 => ?_)
  refine es_blk (pc' := 42) (L' := [some (.ref 127), some (.int p0), some (.int p1), some (.int p2), some (.int x1), some (.int x2), some (.int x3), some (.int x4), some (.int (eh_ushr p1 25)), none, none, none, none]) (st' := []) [(.iload_n 2, 0), (.bipush 25, 25), (.iushr, 0), (.istore 8, 0)] (by decide +kernel) rfl rfl ?_
  refine ef_V (fun x5 => [some (.ref 127), some (.int p0), some (.int p1), some (.int p2), some (.int x1), some (.int x2), some (.int x3), some (.int x4), some (.int x5), none, none, none, none]) (fun _ => []) (fun _ => eh_FW s) (fun x5 => ?_)
  refine es_blk (pc' := 46) (L' := [some (.ref 127), some (.int p0), some (.int p1), some (.int p2), some (.int x1), some (.int x2), some (.int x3), some (.int x4), some (.int x5), none, none, none, none]) (st' := [.int x3, .int p0, .ref 127]) [(.aload_n 0, 0), (.iload_n 1, 0), (.iload 6, 0)] (by decide +kernel) rfl rfl ?_
  refine ef_vpI (d := 2) (k := 127) (As := [.int p0, .int x3]) (st := []) eV_12_get eK_12_423 (eS_12_get g s p0 x3) rfl rfl (Nat.le_of_ble_eq_true rfl) rfl (Nat.le_of_ble_eq_true rfl) ⟨Nat.le_of_ble_eq_true rfl, Nat.le_of_ble_eq_true rfl⟩ ⟨Nat.le_refl _, Nat.le_refl _⟩ (by decide +kernel) (fun q6 _ => ?_)
  refine es_blk (pc' := 55) (L' := [some (.ref 127), some (.int p0), some (.int p1), some (.int p2), some (.int x1), some (.int x2), some (.int x3), some (.int x4), some (.int x5), some (.int q6), none, none, none]) (st' := [.int x4, .int p0, .ref 127]) [(.istore 9, 0), (.aload_n 0, 0), (.iload_n 1, 0), (.iload 7, 0)] (by decide +kernel) rfl rfl ?_
  refine ef_vpI (d := 2) (k := 127) (As := [.int p0, .int x4]) (st := []) eV_12_get eK_12_423 (eS_12_get g s p0 x4) rfl rfl (Nat.le_of_ble_eq_true rfl) rfl (Nat.le_of_ble_eq_true rfl) ⟨Nat.le_of_ble_eq_true rfl, Nat.le_of_ble_eq_true rfl⟩ ⟨Nat.le_refl _, Nat.le_refl _⟩ (by decide +kernel) (fun q7 _ => ?_)
  refine es_blk (pc' := 66) (L' := [some (.ref 127), some (.int p0), some (.int p1), some (.int p2), some (.int x1), some (.int x2), some (.int x3), some (.int x4), some (.int x5), some (.int q6), some (.int q7), some (.int (eh_shr p1 20)), none]) (st' := []) [(.istore 10, 0), (.iload_n 2, 0), (.bipush 20, 20), (.ishr, 0), (.istore 11, 0)] (by decide +kernel) rfl rfl ?_
  refine ef_V (fun x8 => [some (.ref 127), some (.int p0), some (.int p1), some (.int p2), some (.int x1), some (.int x2), some (.int x3), some (.int x4), some (.int x5), some (.int q6), some (.int q7), some (.int x8), none]) (fun _ => []) (fun _ => eh_FW s) (fun x8 => ?_)
  refine es_blk (pc' := 70) (L' := [some (.ref 127), some (.int p0), some (.int p1), some (.int p2), some (.int x1), some (.int x2), some (.int x3), some (.int x4), some (.int x5), some (.int q6), some (.int q7), some (.int x8), none]) (st' := [.int (p1 &&& 127)]) [(.iload_n 2, 0), (.bipush 127, 127), (.iand, 0)] (by decide +kernel) rfl rfl ?_
  refine ef_V (fun _ => [some (.ref 127), some (.int p0), some (.int p1), some (.int p2), some (.int x1), some (.int x2), some (.int x3), some (.int x4), some (.int x5), some (.int q6), some (.int q7), some (.int x8), none]) (fun x9 => [.int x9]) (fun _ => eh_FW s) (fun x9 => ?_)
  refine ef_J (X := fun j10 => ∀ (s11 : eh_F), eh_Sim g eM_12_execute (eh_R 12 0 0) eh_eV 0 0 595 [none, none, none, none, none, none, none, none, none, none, none, none, none] [] (eh_FW s11) ((j10 s11).bind some)) ?_ (fun j10 Hj10 => ?_)
  · intro s11
    exact es_ret rfl rfl rfl ⟨by decide +kernel, rfl⟩ (Nat.le_refl _) (Nat.le_refl _)
  have hs12 : decode eM_12_execute.2.1 70 = .ok (.lookupswitch (519) #[(3, 329), (15, 388), (19, 403), (23, 121), (35, 347), (47, 443), (51, 424), (55, 106), (99, 250), (103, 203), (111, 138), (115, 466)], 106) := by decide +kernel
  refine es_ifc (fun h13 => ?_) (fun h13 => ?_)
  · refine es_lsw (off := (329)) (tgt := 399) hs12 3 h13 (by decide) (by decide) (by decide) ?_
    refine es_blk (pc' := 411) (L' := [some (.ref 127), some (.int p0), some (.int p1), some (.int p2), some (.int x1), some (.int x2), some (.int x3), some (.int x4), some (.int x5), some (.int q6), some (.int q7), some (.int x8), none]) (st' := [.int (q6 + x8), .int x1, .int x2, .int p1, .int p0, .ref 127]) [(.aload_n 0, 0), (.iload_n 1, 0), (.iload_n 2, 0), (.iload 5, 0), (.iload 4, 0), (.iload 9, 0), (.iload 11, 0), (.iadd, 0)] (by decide +kernel) rfl rfl ?_
    refine ef_veV (d := 7) (k := 127) (As := [.int p0, .int p1, .int x2, .int x1, .int (q6 + x8)]) (st := []) eV_12_loads eK_12_437 (eS_12_loads g s p0 p1 x2 x1 (q6 + x8)) rfl rfl (Nat.le_of_ble_eq_true rfl) rfl (Nat.le_of_ble_eq_true rfl) ⟨Nat.le_of_ble_eq_true rfl, Nat.le_of_ble_eq_true rfl⟩ ⟨Nat.le_refl _, Nat.le_refl _⟩ (by decide +kernel) (fun q14 _ => ?_)
    refine es_goto (tgt := 595) (off := (181)) (by decide +kernel) (by decide) ?_
    refine ef_drop (L2 := [none, none, none, none, none, none, none, none, none, none, none, none, none]) [false, false, false, false, false, false, false, false, false, false, false, false, true] rfl rfl ?_
    exact Hj10 _
  refine es_ifc (fun h15 => ?_) (fun h15 => ?_)
  · refine es_lsw (off := (388)) (tgt := 458) hs12 15 h15 (by decide) (by decide) (by decide) ?_
    refine es_blk (pc' := 461) (L' := [some (.ref 127), some (.int p0), some (.int p1), some (.int p2), some (.int x1), some (.int x2), some (.int x3), some (.int x4), some (.int x5), some (.int q6), some (.int q7), some (.int x8), none]) (st' := [.int 1, .int x2]) [(.iload 5, 0), (.iconst 1, 1)] (by decide +kernel) rfl rfl ?_
    refine es_ile (tgt := 595) (off := (134)) (by decide +kernel) (by decide) (fun h16 => ?_) (fun h16 => ?_)
    · refine es_blk (pc' := 467) (L' := [some (.ref 127), some (.int p0), some (.int p1), some (.int p2), some (.int x1), some (.int x2), some (.int x3), some (.int x4), some (.int x5), some (.int q6), some (.int q7), some (.int x8), none]) (st' := [.int p1, .int 2, .ref 127]) [(.aload_n 0, 0), (.iconst 2, 2), (.iload_n 2, 0)] (by decide +kernel) rfl rfl ?_
      refine ef_veV (d := 1) (k := 127) (As := [.int 2, .int p1]) (st := []) eV_12_except eK_12_359 (eS_12_except g s 2 p1) rfl rfl (Nat.le_of_ble_eq_true rfl) rfl (Nat.le_of_ble_eq_true rfl) ⟨Nat.le_of_ble_eq_true rfl, Nat.le_of_ble_eq_true rfl⟩ ⟨Nat.le_refl _, Nat.le_refl _⟩ (by decide +kernel) (fun q17 _ => ?_)
      refine es_goto (tgt := 595) (off := (125)) (by decide +kernel) (by decide) ?_
      refine ef_drop (L2 := [none, none, none, none, none, none, none, none, none, none, none, none, none]) [false, false, false, false, false, false, false, false, false, false, false, false, true] rfl rfl ?_
      exact Hj10 _
    refine ef_drop (L2 := [none, none, none, none, none, none, none, none, none, none, none, none, none]) [false, false, false, false, false, false, false, false, false, false, false, false, true] rfl rfl ?_
    exact Hj10 _
  refine es_ifc (fun h18 => ?_) (fun h18 => ?_)
  · refine es_lsw (off := (403)) (tgt := 473) hs12 19 h18 (by decide) (by decide) (by decide) ?_
    refine es_blk (pc' := 488) (L' := [some (.ref 127), some (.int p0), some (.int p1), some (.int p2), some (.int x1), some (.int x2), some (.int x3), some (.int x4), some (.int x5), some (.int q6), some (.int q7), some (.int x8), none]) (st' := [.int x8, .int q6, .int x5, .int x4, .int x2, .int x1, .int p1, .int p0, .ref 127]) [(.aload_n 0, 0), (.iload_n 1, 0), (.iload_n 2, 0), (.iload 4, 0), (.iload 5, 0), (.iload 7, 0), (.iload 8, 0), (.iload 9, 0), (.iload 11, 0)] (by decide +kernel) rfl rfl ?_
    refine ef_veV (d := 3) (k := 127) (As := [.int p0, .int p1, .int x1, .int x2, .int x4, .int x5, .int q6, .int x8]) (st := []) eV_12_immediate eK_12_443 (eS_12_immediate g s p0 p1 x1 x2 x4 x5 q6 x8) rfl rfl (Nat.le_of_ble_eq_true rfl) rfl (Nat.le_of_ble_eq_true rfl) ⟨Nat.le_of_ble_eq_true rfl, Nat.le_of_ble_eq_true rfl⟩ ⟨Nat.le_refl _, Nat.le_refl _⟩ (by decide +kernel) (fun q19 _ => ?_)
    refine es_goto (tgt := 595) (off := (104)) (by decide +kernel) (by decide) ?_
    refine ef_drop (L2 := [none, none, none, none, none, none, none, none, none, none, none, none, none]) [false, false, false, false, false, false, false, false, false, false, false, false, true] rfl rfl ?_
    exact Hj10 _
  refine es_ifc (fun h20 => ?_) (fun h20 => ?_)
  · refine es_lsw (off := (121)) (tgt := 191) hs12 23 h20 (by decide) (by decide) (by decide) ?_
    refine es_blk (pc' := 202) (L' := [some (.ref 127), some (.int p0), some (.int p1), some (.int p2), some (.int x1), some (.int x2), some (.int x3), some (.int x4), some (.int x5), some (.int q6), some (.int q7), some (.int x8), none]) (st' := [.int (p2 + (p1 &&& (-4096))), .int x1, .int p0, .ref 127]) [(.aload_n 0, 0), (.iload_n 1, 0), (.iload 4, 0), (.iload_n 3, 0), (.iload_n 2, 0), (.sipush (-4096), (-4096)), (.iand, 0), (.iadd, 0)] (by decide +kernel) rfl rfl ?_
    refine ef_veV (d := 2) (k := 127) (As := [.int p0, .int x1, .int (p2 + (p1 &&& (-4096)))]) (st := []) eV_12_set eK_12_426 (eS_12_set g s p0 x1 (p2 + (p1 &&& (-4096)))) rfl rfl (Nat.le_of_ble_eq_true rfl) rfl (Nat.le_of_ble_eq_true rfl) ⟨Nat.le_of_ble_eq_true rfl, Nat.le_of_ble_eq_true rfl⟩ ⟨Nat.le_refl _, Nat.le_refl _⟩ (by decide +kernel) (fun q21 _ => ?_)
    refine es_goto (tgt := 595) (off := (390)) (by decide +kernel) (by decide) ?_
    refine ef_drop (L2 := [none, none, none, none, none, none, none, none, none, none, none, none, none]) [false, false, false, false, false, false, false, false, false, false, false, false, true] rfl rfl ?_
    exact Hj10 _
  refine es_ifc (fun h22 => ?_) (fun h22 => ?_)
  · refine es_lsw (off := (347)) (tgt := 417) hs12 35 h22 (by decide) (by decide) (by decide) ?_
    refine es_blk (pc' := 420) (L' := [some (.ref 127), some (.int p0), some (.int p1), some (.int p2), some (.int x1), some (.int x2), some (.int x3), some (.int x4), some (.int x5), some (.int q6), some (.int q7), some (.int x8), none]) (st' := [.int 2, .int x2]) [(.iload 5, 0), (.iconst 2, 2)] (by decide +kernel) rfl rfl ?_
    refine es_ile (tgt := 432) (off := (12)) (by decide +kernel) (by decide) (fun h23 => ?_) (fun h23 => ?_)
    · refine es_blk (pc' := 426) (L' := [some (.ref 127), some (.int p0), some (.int p1), some (.int p2), some (.int x1), some (.int x2), some (.int x3), some (.int x4), some (.int x5), some (.int q6), some (.int q7), some (.int x8), none]) (st' := [.int p1, .int 2, .ref 127]) [(.aload_n 0, 0), (.iconst 2, 2), (.iload_n 2, 0)] (by decide +kernel) rfl rfl ?_
      refine ef_veV (d := 1) (k := 127) (As := [.int 2, .int p1]) (st := []) eV_12_except eK_12_359 (eS_12_except g s 2 p1) rfl rfl (Nat.le_of_ble_eq_true rfl) rfl (Nat.le_of_ble_eq_true rfl) ⟨Nat.le_of_ble_eq_true rfl, Nat.le_of_ble_eq_true rfl⟩ ⟨Nat.le_refl _, Nat.le_refl _⟩ (by decide +kernel) (fun q24 _ => ?_)
      refine es_goto (tgt := 595) (off := (166)) (by decide +kernel) (by decide) ?_
      refine ef_drop (L2 := [none, none, none, none, none, none, none, none, none, none, none, none, none]) [false, false, false, false, false, false, false, false, false, false, false, false, true] rfl rfl ?_
      exact Hj10 _
    refine es_blk (pc' := 452) (L' := [some (.ref 127), some (.int p0), some (.int p1), some (.int p2), some (.int x1), some (.int x2), some (.int x3), some (.int x4), some (.int x5), some (.int q6), some (.int q7), some (.int x8), none]) (st' := [.int q7, .int (eh_shl 1 x2), .int (q6 + ((eh_shl (eh_shr p1 25) 5) ||| x1)), .int p0, .ref 127]) [(.aload_n 0, 0), (.iload_n 1, 0), (.iload 9, 0), (.iload_n 2, 0), (.bipush 25, 25), (.ishr, 0), (.iconst 5, 5), (.ishl, 0), (.iload 4, 0), (.ior, 0), (.iadd, 0), (.iconst 1, 1), (.iload 5, 0), (.ishl, 0), (.iload 10, 0)] (by decide +kernel) rfl rfl ?_
    refine ef_veV (d := 6) (k := 127) (As := [.int p0, .int (q6 + ((eh_shl (eh_shr p1 25) 5) ||| x1)), .int (eh_shl 1 x2), .int q7]) (st := []) eV_12_store eK_12_440 (eS_12_store g s p0 (q6 + ((eh_shl (eh_shr p1 25) 5) ||| x1)) (eh_shl 1 x2) q7) rfl rfl (Nat.le_of_ble_eq_true rfl) rfl (Nat.le_of_ble_eq_true rfl) ⟨Nat.le_of_ble_eq_true rfl, Nat.le_of_ble_eq_true rfl⟩ ⟨Nat.le_refl _, Nat.le_refl _⟩ (by decide +kernel) (fun q25 _ => ?_)
    refine es_goto (tgt := 595) (off := (140)) (by decide +kernel) (by decide) ?_
    refine ef_drop (L2 := [none, none, none, none, none, none, none, none, none, none, none, none, none]) [false, false, false, false, false, false, false, false, false, false, false, false, true] rfl rfl ?_
    exact Hj10 _
  refine es_ifc (fun h26 => ?_) (fun h26 => ?_)
  · refine es_lsw (off := (443)) (tgt := 513) hs12 47 h26 (by decide) (by decide) (by decide) ?_
    refine es_blk (pc' := 530) (L' := [some (.ref 127), some (.int p0), some (.int p1), some (.int p2), some (.int x1), some (.int x2), some (.int x3), some (.int x4), some (.int x5), some (.int q6), some (.int q7), some (.int x8), none]) (st' := [.int q7, .int q6, .int (eh_shr x5 2), .int x4, .int x2, .int x1, .int p1, .int p0, .ref 127]) [(.aload_n 0, 0), (.iload_n 1, 0), (.iload_n 2, 0), (.iload 4, 0), (.iload 5, 0), (.iload 7, 0), (.iload 8, 0), (.iconst 2, 2), (.ishr, 0), (.iload 9, 0), (.iload 10, 0)] (by decide +kernel) rfl rfl ?_
    refine ef_veV (d := 7) (k := 127) (As := [.int p0, .int p1, .int x1, .int x2, .int x4, .int (eh_shr x5 2), .int q6, .int q7]) (st := []) eV_12_atomic eK_12_451 (eS_12_atomic g s p0 p1 x1 x2 x4 (eh_shr x5 2) q6 q7) rfl rfl (Nat.le_of_ble_eq_true rfl) rfl (Nat.le_of_ble_eq_true rfl) ⟨Nat.le_of_ble_eq_true rfl, Nat.le_of_ble_eq_true rfl⟩ ⟨Nat.le_refl _, Nat.le_refl _⟩ (by decide +kernel) (fun q27 _ => ?_)
    refine es_goto (tgt := 595) (off := (62)) (by decide +kernel) (by decide) ?_
    refine ef_drop (L2 := [none, none, none, none, none, none, none, none, none, none, none, none, none]) [false, false, false, false, false, false, false, false, false, false, false, false, true] rfl rfl ?_
    exact Hj10 _
  refine es_ifc (fun h28 => ?_) (fun h28 => ?_)
  · refine es_lsw (off := (424)) (tgt := 494) hs12 51 h28 (by decide) (by decide) (by decide) ?_
    refine es_blk (pc' := 507) (L' := [some (.ref 127), some (.int p0), some (.int p1), some (.int p2), some (.int x1), some (.int x2), some (.int x3), some (.int x4), some (.int x5), some (.int q6), some (.int q7), some (.int x8), none]) (st' := [.int q7, .int q6, .int x5, .int x2, .int x1, .int p1, .int p0, .ref 127]) [(.aload_n 0, 0), (.iload_n 1, 0), (.iload_n 2, 0), (.iload 4, 0), (.iload 5, 0), (.iload 8, 0), (.iload 9, 0), (.iload 10, 0)] (by decide +kernel) rfl rfl ?_
    refine ef_veV (d := 4) (k := 127) (As := [.int p0, .int p1, .int x1, .int x2, .int x5, .int q6, .int q7]) (st := []) eV_12_sums eK_12_447 (eS_12_sums g s p0 p1 x1 x2 x5 q6 q7) rfl rfl (Nat.le_of_ble_eq_true rfl) rfl (Nat.le_of_ble_eq_true rfl) ⟨Nat.le_of_ble_eq_true rfl, Nat.le_of_ble_eq_true rfl⟩ ⟨Nat.le_refl _, Nat.le_refl _⟩ (by decide +kernel) (fun q29 _ => ?_)
    refine es_goto (tgt := 595) (off := (85)) (by decide +kernel) (by decide) ?_
    refine ef_drop (L2 := [none, none, none, none, none, none, none, none, none, none, none, none, none]) [false, false, false, false, false, false, false, false, false, false, false, false, true] rfl rfl ?_
    exact Hj10 _
  refine es_ifc (fun h30 => ?_) (fun h30 => ?_)
  · refine es_lsw (off := (106)) (tgt := 176) hs12 55 h30 (by decide) (by decide) (by decide) ?_
    refine es_blk (pc' := 185) (L' := [some (.ref 127), some (.int p0), some (.int p1), some (.int p2), some (.int x1), some (.int x2), some (.int x3), some (.int x4), some (.int x5), some (.int q6), some (.int q7), some (.int x8), none]) (st' := [.int (p1 &&& (-4096)), .int x1, .int p0, .ref 127]) [(.aload_n 0, 0), (.iload_n 1, 0), (.iload 4, 0), (.iload_n 2, 0), (.sipush (-4096), (-4096)), (.iand, 0)] (by decide +kernel) rfl rfl ?_
    refine ef_veV (d := 2) (k := 127) (As := [.int p0, .int x1, .int (p1 &&& (-4096))]) (st := []) eV_12_set eK_12_426 (eS_12_set g s p0 x1 (p1 &&& (-4096))) rfl rfl (Nat.le_of_ble_eq_true rfl) rfl (Nat.le_of_ble_eq_true rfl) ⟨Nat.le_of_ble_eq_true rfl, Nat.le_of_ble_eq_true rfl⟩ ⟨Nat.le_refl _, Nat.le_refl _⟩ (by decide +kernel) (fun q31 _ => ?_)
    refine es_goto (tgt := 595) (off := (407)) (by decide +kernel) (by decide) ?_
    refine ef_drop (L2 := [none, none, none, none, none, none, none, none, none, none, none, none, none]) [false, false, false, false, false, false, false, false, false, false, false, false, true] rfl rfl ?_
    exact Hj10 _
  refine es_ifc (fun h32 => ?_) (fun h32 => ?_)
  · refine es_lsw (off := (250)) (tgt := 320) hs12 99 h32 (by decide) (by decide) (by decide) ?_
    refine es_blk (pc' := 323) (L' := [some (.ref 127), some (.int p0), some (.int p1), some (.int p2), some (.int x1), some (.int x2), some (.int x3), some (.int x4), some (.int x5), some (.int q6), some (.int q7), some (.int x8), none]) (st' := [.int 2, .int x2]) [(.iload 5, 0), (.iconst 2, 2)] (by decide +kernel) rfl rfl ?_
    refine ef_J (X := fun j33 => ∀ (u34 : Unit), eh_Sim g eM_12_execute (eh_R 12 0 0) eh_eV 0 0 332 [some (.ref 127), none, some (.int p1), none, none, none, none, none, none, none, none, none, none] [] (eh_FW s) ((j33 u34).bind some)) ?_ (fun j33 Hj33 => ?_)
    · intro u34
      refine es_blk (pc' := 335) (L' := [some (.ref 127), none, some (.int p1), none, none, none, none, none, none, none, none, none, none]) (st' := [.int p1, .int 2, .ref 127]) [(.aload_n 0, 0), (.iconst 2, 2), (.iload_n 2, 0)] (by decide +kernel) rfl rfl ?_
      refine ef_veV (d := 1) (k := 127) (As := [.int 2, .int p1]) (st := []) eV_12_except eK_12_359 (eS_12_except g s 2 p1) rfl rfl (Nat.le_of_ble_eq_true rfl) rfl (Nat.le_of_ble_eq_true rfl) ⟨Nat.le_of_ble_eq_true rfl, Nat.le_of_ble_eq_true rfl⟩ ⟨Nat.le_refl _, Nat.le_refl _⟩ (by decide +kernel) (fun q35 _ => ?_)
      refine es_goto (tgt := 595) (off := (257)) (by decide +kernel) (by decide) ?_
      refine ef_drop (L2 := [none, none, none, none, none, none, none, none, none, none, none, none, none]) [false, true, false, true, true, true, true, true, true, true, true, true, true] rfl rfl ?_
      exact Hj10 _
    refine es_ieq (tgt := 332) (off := (9)) (by decide +kernel) (by decide) (fun h36 => ?_) (fun h36 => ?_)
    · refine ef_drop (L2 := [some (.ref 127), none, some (.int p1), none, none, none, none, none, none, none, none, none, none]) [true, false, true, false, false, false, false, false, false, false, false, false, true] rfl rfl ?_
      exact Hj33 ()
    refine es_blk (pc' := 329) (L' := [some (.ref 127), some (.int p0), some (.int p1), some (.int p2), some (.int x1), some (.int x2), some (.int x3), some (.int x4), some (.int x5), some (.int q6), some (.int q7), some (.int x8), none]) (st' := [.int 3, .int x2]) [(.iload 5, 0), (.iconst 3, 3)] (by decide +kernel) rfl rfl ?_
    refine es_ine (tgt := 341) (off := (12)) (by decide +kernel) (by decide) (fun h37 => ?_) (fun h37 => ?_)
    · refine ef_drop (L2 := [some (.ref 127), none, some (.int p1), none, none, none, none, none, none, none, none, none, none]) [true, false, true, false, false, false, false, false, false, false, false, false, true] rfl rfl ?_
      exact Hj33 ()
    refine es_blk (pc' := 347) (L' := [some (.ref 127), some (.int p0), some (.int p1), some (.int p2), some (.int x1), some (.int x2), some (.int x3), some (.int x4), some (.int x5), some (.int q6), some (.int q7), some (.int x8), none]) (st' := [.int q7, .int q6, .int x2]) [(.iload 5, 0), (.iload 9, 0), (.iload 10, 0)] (by decide +kernel) rfl rfl ?_
    refine ef_spI (d := 3) (As := [.int x2, .int q6, .int q7]) (st := []) eV_12_isTaken eK_12_433 (eS_12_isTaken g s x2 q6 q7) rfl (Nat.le_of_ble_eq_true rfl) rfl (Nat.le_of_ble_eq_true rfl) ⟨Nat.le_of_ble_eq_true rfl, Nat.le_of_ble_eq_true rfl⟩ ⟨Nat.le_refl _, Nat.le_refl _⟩ (by decide +kernel) (fun q38 _ => ?_)
    refine es_eq (tgt := 595) (off := (245)) (by decide +kernel) (by decide) (fun h39 => ?_) (fun h39 => ?_)
    · refine ef_drop (L2 := [none, none, none, none, none, none, none, none, none, none, none, none, none]) [false, false, false, false, false, false, false, false, false, false, false, false, true] rfl rfl ?_
      exact Hj10 _
    refine es_blk (pc' := 393) (L' := [some (.ref 127), some (.int p0), some (.int p1), some (.int p2), some (.int x1), some (.int x2), some (.int x3), some (.int x4), some (.int x5), some (.int q6), some (.int q7), some (.int x8), none]) (st' := [.int (p2 + ((((eh_shl (eh_shr p1 31) 12) ||| (eh_shl ((eh_shr p1 7) &&& 1) 11)) ||| (eh_shl ((eh_shr p1 25) &&& 63) 5)) ||| (eh_shl ((eh_shr p1 8) &&& 15) 1))), .ref 127]) [(.aload_n 0, 0), (.iload_n 3, 0), (.iload_n 2, 0), (.bipush 31, 31), (.ishr, 0), (.bipush 12, 12), (.ishl, 0), (.iload_n 2, 0), (.bipush 7, 7), (.ishr, 0), (.iconst 1, 1), (.iand, 0), (.bipush 11, 11), (.ishl, 0), (.ior, 0), (.iload_n 2, 0), (.bipush 25, 25), (.ishr, 0), (.bipush 63, 63), (.iand, 0), (.iconst 5, 5), (.ishl, 0), (.ior, 0), (.iload_n 2, 0), (.bipush 8, 8), (.ishr, 0), (.bipush 15, 15), (.iand, 0), (.iconst 1, 1), (.ishl, 0), (.ior, 0), (.iadd, 0)] (by decide +kernel) rfl rfl ?_
    refine ef_veV (d := 2) (k := 127) (As := [.int (p2 + ((((eh_shl (eh_shr p1 31) 12) ||| (eh_shl ((eh_shr p1 7) &&& 1) 11)) ||| (eh_shl ((eh_shr p1 25) &&& 63) 5)) ||| (eh_shl ((eh_shr p1 8) &&& 15) 1)))]) (st := []) eV_12_jump eK_12_430 (eS_12_jump g s (p2 + ((((eh_shl (eh_shr p1 31) 12) ||| (eh_shl ((eh_shr p1 7) &&& 1) 11)) ||| (eh_shl ((eh_shr p1 25) &&& 63) 5)) ||| (eh_shl ((eh_shr p1 8) &&& 15) 1)))) rfl rfl (Nat.le_of_ble_eq_true rfl) rfl (Nat.le_of_ble_eq_true rfl) ⟨Nat.le_of_ble_eq_true rfl, Nat.le_of_ble_eq_true rfl⟩ ⟨Nat.le_refl _, Nat.le_refl _⟩ (by decide +kernel) (fun q40 _ => ?_)
    refine es_goto (tgt := 595) (off := (199)) (by decide +kernel) (by decide) ?_
    refine ef_drop (L2 := [none, none, none, none, none, none, none, none, none, none, none, none, none]) [false, false, false, false, false, false, false, false, false, false, false, false, true] rfl rfl ?_
    exact Hj10 _
  refine es_ifc (fun h41 => ?_) (fun h41 => ?_)
  · refine es_lsw (off := (203)) (tgt := 273) hs12 103 h41 (by decide) (by decide) (by decide) ?_
    refine es_blk (pc' := 275) (L' := [some (.ref 127), some (.int p0), some (.int p1), some (.int p2), some (.int x1), some (.int x2), some (.int x3), some (.int x4), some (.int x5), some (.int q6), some (.int q7), some (.int x8), none]) (st' := [.int x2]) [(.iload 5, 0)] (by decide +kernel) rfl rfl ?_
    refine es_eq (tgt := 287) (off := (12)) (by decide +kernel) (by decide) (fun h42 => ?_) (fun h42 => ?_)
    · refine es_blk (pc' := 296) (L' := [some (.ref 127), some (.int p0), some (.int p1), some (.int p2), some (.int x1), some (.int x2), some (.int x3), some (.int x4), some (.int x5), some (.int q6), some (.int q7), some (.int x8), none]) (st' := [.int ((q6 + x8) &&& (-2)), .ref 127]) [(.aload_n 0, 0), (.iload 9, 0), (.iload 11, 0), (.iadd, 0), (.bipush (-2), (-2)), (.iand, 0)] (by decide +kernel) rfl rfl ?_
      refine ef_veV (d := 2) (k := 127) (As := [.int ((q6 + x8) &&& (-2))]) (st := []) eV_12_jump eK_12_430 (eS_12_jump g s ((q6 + x8) &&& (-2))) rfl rfl (Nat.le_of_ble_eq_true rfl) rfl (Nat.le_of_ble_eq_true rfl) ⟨Nat.le_of_ble_eq_true rfl, Nat.le_of_ble_eq_true rfl⟩ ⟨Nat.le_refl _, Nat.le_refl _⟩ (by decide +kernel) (fun q43 _ => ?_)
      refine es_blk (pc' := 300) (L' := [some (.ref 127), some (.int p0), some (.int p1), some (.int p2), some (.int x1), some (.int x2), some (.int x3), some (.int x4), some (.int x5), some (.int q6), some (.int q7), some (.int x8), none]) (st' := [.ref 127]) [(.aload_n 0, 0)] (by decide +kernel) rfl rfl ?_
      refine ef_getI (k := 127) (j := 83) rfl eL_12_340 (by decide) (by decide +kernel) ?_
      refine es_blk (pc' := 304) (L' := [some (.ref 127), some (.int p0), some (.int p1), some (.int p2), some (.int x1), some (.int x2), some (.int x3), some (.int x4), some (.int x5), some (.int q6), some (.int q7), some (.int x8), none]) (st' := [.int (-1), .int (q43.1 127 83)]) [(.iconst (-1), (-1))] (by decide +kernel) rfl rfl ?_
      refine es_ine (tgt := 595) (off := (291)) (by decide +kernel) (by decide) (fun h44 => ?_) (fun h44 => ?_)
      · refine es_blk (pc' := 314) (L' := [some (.ref 127), some (.int p0), some (.int p1), some (.int p2), some (.int x1), some (.int x2), some (.int x3), some (.int x4), some (.int x5), some (.int q6), some (.int q7), some (.int x8), none]) (st' := [.int (p2 + 4), .int x1, .int p0, .ref 127]) [(.aload_n 0, 0), (.iload_n 1, 0), (.iload 4, 0), (.iload_n 3, 0), (.iconst 4, 4), (.iadd, 0)] (by decide +kernel) rfl rfl ?_
        refine ef_veV (d := 2) (k := 127) (As := [.int p0, .int x1, .int (p2 + 4)]) (st := []) eV_12_set eK_12_426 (eS_12_set g q43 p0 x1 (p2 + 4)) rfl rfl (Nat.le_of_ble_eq_true rfl) rfl (Nat.le_of_ble_eq_true rfl) ⟨Nat.le_of_ble_eq_true rfl, Nat.le_of_ble_eq_true rfl⟩ ⟨Nat.le_refl _, Nat.le_refl _⟩ (by decide +kernel) (fun q45 _ => ?_)
        refine es_goto (tgt := 595) (off := (278)) (by decide +kernel) (by decide) ?_
        refine ef_drop (L2 := [none, none, none, none, none, none, none, none, none, none, none, none, none]) [false, false, false, false, false, false, false, false, false, false, false, false, true] rfl rfl ?_
        exact Hj10 _
      refine ef_drop (L2 := [none, none, none, none, none, none, none, none, none, none, none, none, none]) [false, false, false, false, false, false, false, false, false, false, false, false, true] rfl rfl ?_
      exact Hj10 _
    refine es_blk (pc' := 281) (L' := [some (.ref 127), some (.int p0), some (.int p1), some (.int p2), some (.int x1), some (.int x2), some (.int x3), some (.int x4), some (.int x5), some (.int q6), some (.int q7), some (.int x8), none]) (st' := [.int p1, .int 2, .ref 127]) [(.aload_n 0, 0), (.iconst 2, 2), (.iload_n 2, 0)] (by decide +kernel) rfl rfl ?_
    refine ef_veV (d := 1) (k := 127) (As := [.int 2, .int p1]) (st := []) eV_12_except eK_12_359 (eS_12_except g s 2 p1) rfl rfl (Nat.le_of_ble_eq_true rfl) rfl (Nat.le_of_ble_eq_true rfl) ⟨Nat.le_of_ble_eq_true rfl, Nat.le_of_ble_eq_true rfl⟩ ⟨Nat.le_refl _, Nat.le_refl _⟩ (by decide +kernel) (fun q46 _ => ?_)
    refine es_goto (tgt := 595) (off := (311)) (by decide +kernel) (by decide) ?_
    refine ef_drop (L2 := [none, none, none, none, none, none, none, none, none, none, none, none, none]) [false, false, false, false, false, false, false, false, false, false, false, false, true] rfl rfl ?_
    exact Hj10 _
  refine es_ifc (fun h47 => ?_) (fun h47 => ?_)
  · refine es_lsw (off := (138)) (tgt := 208) hs12 111 h47 (by decide) (by decide) (by decide) ?_
    refine es_blk (pc' := 216) (L' := [some (.ref 127), some (.int p0), some (.int p1), some (.int p2), some (.int x1), some (.int x2), some (.int x3), some (.int x4), some (.int x5), some (.int q6), some (.int q7), some (.int x8), none]) (st' := [.int p1, .int (eh_shl (eh_shr p1 31) 20)]) [(.iload_n 2, 0), (.bipush 31, 31), (.ishr, 0), (.bipush 20, 20), (.ishl, 0), (.iload_n 2, 0)] (by decide +kernel) rfl rfl ?_
    refine es_ldcw (v := 1044480) eC_12_429 (by decide +kernel) ?_
    refine es_blk (pc' := 244) (L' := [some (.ref 127), some (.int p0), some (.int p1), some (.int p2), some (.int x1), some (.int x2), some (.int x3), some (.int x4), some (.int x5), some (.int q6), some (.int q7), some (.int x8), some (.int ((((eh_shl (eh_shr p1 31) 20) ||| (p1 &&& 1044480)) ||| (eh_shl ((eh_shr p1 20) &&& 1) 11)) ||| (eh_shl ((eh_shr p1 21) &&& 1023) 1)))]) (st' := []) [(.iand, 0), (.ior, 0), (.iload_n 2, 0), (.bipush 20, 20), (.ishr, 0), (.iconst 1, 1), (.iand, 0), (.bipush 11, 11), (.ishl, 0), (.ior, 0), (.iload_n 2, 0), (.bipush 21, 21), (.ishr, 0), (.sipush 1023, 1023), (.iand, 0), (.iconst 1, 1), (.ishl, 0), (.ior, 0), (.istore 12, 0)] (by decide +kernel) rfl rfl ?_
    refine ef_V (fun x48 => [some (.ref 127), some (.int p0), some (.int p1), some (.int p2), some (.int x1), some (.int x2), some (.int x3), some (.int x4), some (.int x5), some (.int q6), some (.int q7), some (.int x8), some (.int x48)]) (fun _ => []) (fun _ => eh_FW s) (fun x48 => ?_)
    refine es_blk (pc' := 249) (L' := [some (.ref 127), some (.int p0), some (.int p1), some (.int p2), some (.int x1), some (.int x2), some (.int x3), some (.int x4), some (.int x5), some (.int q6), some (.int q7), some (.int x8), some (.int x48)]) (st' := [.int (p2 + x48), .ref 127]) [(.aload_n 0, 0), (.iload_n 3, 0), (.iload 12, 0), (.iadd, 0)] (by decide +kernel) rfl rfl ?_
    refine ef_veV (d := 2) (k := 127) (As := [.int (p2 + x48)]) (st := []) eV_12_jump eK_12_430 (eS_12_jump g s (p2 + x48)) rfl rfl (Nat.le_of_ble_eq_true rfl) rfl (Nat.le_of_ble_eq_true rfl) ⟨Nat.le_of_ble_eq_true rfl, Nat.le_of_ble_eq_true rfl⟩ ⟨Nat.le_refl _, Nat.le_refl _⟩ (by decide +kernel) (fun q49 _ => ?_)
    refine es_blk (pc' := 253) (L' := [some (.ref 127), some (.int p0), some (.int p1), some (.int p2), some (.int x1), some (.int x2), some (.int x3), some (.int x4), some (.int x5), some (.int q6), some (.int q7), some (.int x8), some (.int x48)]) (st' := [.ref 127]) [(.aload_n 0, 0)] (by decide +kernel) rfl rfl ?_
    refine ef_getI (k := 127) (j := 83) rfl eL_12_340 (by decide) (by decide +kernel) ?_
    refine es_blk (pc' := 257) (L' := [some (.ref 127), some (.int p0), some (.int p1), some (.int p2), some (.int x1), some (.int x2), some (.int x3), some (.int x4), some (.int x5), some (.int q6), some (.int q7), some (.int x8), some (.int x48)]) (st' := [.int (-1), .int (q49.1 127 83)]) [(.iconst (-1), (-1))] (by decide +kernel) rfl rfl ?_
    refine es_ine (tgt := 595) (off := (338)) (by decide +kernel) (by decide) (fun h50 => ?_) (fun h50 => ?_)
    · refine es_blk (pc' := 267) (L' := [some (.ref 127), some (.int p0), some (.int p1), some (.int p2), some (.int x1), some (.int x2), some (.int x3), some (.int x4), some (.int x5), some (.int q6), some (.int q7), some (.int x8), some (.int x48)]) (st' := [.int (p2 + 4), .int x1, .int p0, .ref 127]) [(.aload_n 0, 0), (.iload_n 1, 0), (.iload 4, 0), (.iload_n 3, 0), (.iconst 4, 4), (.iadd, 0)] (by decide +kernel) rfl rfl ?_
      refine ef_veV (d := 2) (k := 127) (As := [.int p0, .int x1, .int (p2 + 4)]) (st := []) eV_12_set eK_12_426 (eS_12_set g q49 p0 x1 (p2 + 4)) rfl rfl (Nat.le_of_ble_eq_true rfl) rfl (Nat.le_of_ble_eq_true rfl) ⟨Nat.le_of_ble_eq_true rfl, Nat.le_of_ble_eq_true rfl⟩ ⟨Nat.le_refl _, Nat.le_refl _⟩ (by decide +kernel) (fun q51 _ => ?_)
      refine es_goto (tgt := 595) (off := (325)) (by decide +kernel) (by decide) ?_
      refine ef_drop (L2 := [none, none, none, none, none, none, none, none, none, none, none, none, none]) [false, false, false, false, false, false, false, false, false, false, false, false, false] rfl rfl ?_
      exact Hj10 _
    refine ef_drop (L2 := [none, none, none, none, none, none, none, none, none, none, none, none, none]) [false, false, false, false, false, false, false, false, false, false, false, false, false] rfl rfl ?_
    exact Hj10 _
  refine es_ifc (fun h52 => ?_) (fun h52 => ?_)
  · refine es_lsw (off := (466)) (tgt := 536) hs12 115 h52 (by decide) (by decide) (by decide) ?_
    refine es_blk (pc' := 538) (L' := [some (.ref 127), some (.int p0), some (.int p1), some (.int p2), some (.int x1), some (.int x2), some (.int x3), some (.int x4), some (.int x5), some (.int q6), some (.int q7), some (.int x8), none]) (st' := [.int x2]) [(.iload 5, 0)] (by decide +kernel) rfl rfl ?_
    refine es_ne (tgt := 557) (off := (19)) (by decide +kernel) (by decide) (fun h53 => ?_) (fun h53 => ?_)
    · refine es_blk (pc' := 551) (L' := [some (.ref 127), some (.int p0), some (.int p1), some (.int p2), some (.int x1), some (.int x2), some (.int x3), some (.int x4), some (.int x5), some (.int q6), some (.int q7), some (.int x8), none]) (st' := [.int p2, .int x5, .int x3, .int x1, .int p1, .int p0, .ref 127]) [(.aload_n 0, 0), (.iload_n 1, 0), (.iload_n 2, 0), (.iload 4, 0), (.iload 6, 0), (.iload 8, 0), (.iload_n 3, 0)] (by decide +kernel) rfl rfl ?_
      refine ef_veV (d := 11) (k := 127) (As := [.int p0, .int p1, .int x1, .int x3, .int x5, .int p2]) (st := []) eV_12_control eK_12_454 (eS_12_control g s p0 p1 x1 x3 x5 p2) rfl rfl (Nat.le_of_ble_eq_true rfl) rfl (Nat.le_of_ble_eq_true rfl) ⟨Nat.le_of_ble_eq_true rfl, Nat.le_of_ble_eq_true rfl⟩ ⟨Nat.le_refl _, Nat.le_refl _⟩ (by decide +kernel) (fun q54 _ => ?_)
      refine es_goto (tgt := 595) (off := (41)) (by decide +kernel) (by decide) ?_
      refine ef_drop (L2 := [none, none, none, none, none, none, none, none, none, none, none, none, none]) [false, false, false, false, false, false, false, false, false, false, false, false, true] rfl rfl ?_
      exact Hj10 _
    refine es_blk (pc' := 560) (L' := [some (.ref 127), some (.int p0), some (.int p1), some (.int p2), some (.int x1), some (.int x2), some (.int x3), some (.int x4), some (.int x5), some (.int q6), some (.int q7), some (.int x8), none]) (st' := [.int 4, .int x2]) [(.iload 5, 0), (.iconst 4, 4)] (by decide +kernel) rfl rfl ?_
    refine es_ine (tgt := 572) (off := (12)) (by decide +kernel) (by decide) (fun h55 => ?_) (fun h55 => ?_)
    · refine es_blk (pc' := 566) (L' := [some (.ref 127), some (.int p0), some (.int p1), some (.int p2), some (.int x1), some (.int x2), some (.int x3), some (.int x4), some (.int x5), some (.int q6), some (.int q7), some (.int x8), none]) (st' := [.int p1, .int 2, .ref 127]) [(.aload_n 0, 0), (.iconst 2, 2), (.iload_n 2, 0)] (by decide +kernel) rfl rfl ?_
      refine ef_veV (d := 1) (k := 127) (As := [.int 2, .int p1]) (st := []) eV_12_except eK_12_359 (eS_12_except g s 2 p1) rfl rfl (Nat.le_of_ble_eq_true rfl) rfl (Nat.le_of_ble_eq_true rfl) ⟨Nat.le_of_ble_eq_true rfl, Nat.le_of_ble_eq_true rfl⟩ ⟨Nat.le_refl _, Nat.le_refl _⟩ (by decide +kernel) (fun q56 _ => ?_)
      refine es_goto (tgt := 595) (off := (26)) (by decide +kernel) (by decide) ?_
      refine ef_drop (L2 := [none, none, none, none, none, none, none, none, none, none, none, none, none]) [false, false, false, false, false, false, false, false, false, false, false, false, true] rfl rfl ?_
      exact Hj10 _
    refine es_blk (pc' := 583) (L' := [some (.ref 127), some (.int p0), some (.int p1), some (.int p2), some (.int x1), some (.int x2), some (.int x3), some (.int x4), some (.int x5), some (.int q6), some (.int q7), some (.int x8), none]) (st' := [.int q6, .int x3, .int x2, .int x1, .int p1, .int p0, .ref 127]) [(.aload_n 0, 0), (.iload_n 1, 0), (.iload_n 2, 0), (.iload 4, 0), (.iload 5, 0), (.iload 6, 0), (.iload 9, 0)] (by decide +kernel) rfl rfl ?_
    refine ef_veV (d := 5) (k := 127) (As := [.int p0, .int p1, .int x1, .int x2, .int x3, .int q6]) (st := []) eV_12_registers eK_12_458 (eS_12_registers g s p0 p1 x1 x2 x3 q6) rfl rfl (Nat.le_of_ble_eq_true rfl) rfl (Nat.le_of_ble_eq_true rfl) ⟨Nat.le_of_ble_eq_true rfl, Nat.le_of_ble_eq_true rfl⟩ ⟨Nat.le_refl _, Nat.le_refl _⟩ (by decide +kernel) (fun q57 _ => ?_)
    refine es_goto (tgt := 595) (off := (9)) (by decide +kernel) (by decide) ?_
    refine ef_drop (L2 := [none, none, none, none, none, none, none, none, none, none, none, none, none]) [false, false, false, false, false, false, false, false, false, false, false, false, true] rfl rfl ?_
    exact Hj10 _
  refine es_lswD (tgt := 589) hs12 [3, 15, 19, 23, 35, 47, 51, 55, 99, 103, 111, 115] (List.forall_mem_cons.mpr ⟨eh_nei 3 3 (by decide) h13, (List.forall_mem_cons.mpr ⟨eh_nei 15 15 (by decide) h15, (List.forall_mem_cons.mpr ⟨eh_nei 19 19 (by decide) h18, (List.forall_mem_cons.mpr ⟨eh_nei 23 23 (by decide) h20, (List.forall_mem_cons.mpr ⟨eh_nei 35 35 (by decide) h22, (List.forall_mem_cons.mpr ⟨eh_nei 47 47 (by decide) h26, (List.forall_mem_cons.mpr ⟨eh_nei 51 51 (by decide) h28, (List.forall_mem_cons.mpr ⟨eh_nei 55 55 (by decide) h30, (List.forall_mem_cons.mpr ⟨eh_nei 99 99 (by decide) h32, (List.forall_mem_cons.mpr ⟨eh_nei 103 103 (by decide) h41, (List.forall_mem_cons.mpr ⟨eh_nei 111 111 (by decide) h47, (List.forall_mem_cons.mpr ⟨eh_nei 115 115 (by decide) h52, (List.forall_mem_nil _)⟩)⟩)⟩)⟩)⟩)⟩)⟩)⟩)⟩)⟩)⟩)⟩) (by decide) (by decide) (by decide) ?_
  refine es_blk (pc' := 592) (L' := [some (.ref 127), some (.int p0), some (.int p1), some (.int p2), some (.int x1), some (.int x2), some (.int x3), some (.int x4), some (.int x5), some (.int q6), some (.int q7), some (.int x8), none]) (st' := [.int p1, .int 2, .ref 127]) [(.aload_n 0, 0), (.iconst 2, 2), (.iload_n 2, 0)] (by decide +kernel) rfl rfl ?_
  refine ef_veV (d := 1) (k := 127) (As := [.int 2, .int p1]) (st := []) eV_12_except eK_12_359 (eS_12_except g s 2 p1) rfl rfl (Nat.le_of_ble_eq_true rfl) rfl (Nat.le_of_ble_eq_true rfl) ⟨Nat.le_of_ble_eq_true rfl, Nat.le_of_ble_eq_true rfl⟩ ⟨Nat.le_refl _, Nat.le_refl _⟩ (by decide +kernel) (fun q58 _ => ?_)
  refine ef_drop (L2 := [none, none, none, none, none, none, none, none, none, none, none, none, none]) [false, false, false, false, false, false, false, false, false, false, false, false, true] rfl rfl ?_
  exact Hj10 _
def eF_12_step (s : eh_F) (p0 : Int32) : Option (eh_F) := Option.bind (eF_12_pending s p0) (fun q1 => if eh_in p0 2 then eh_V ((q1 &&& (s.1 134 (eh_ix p0))) : Int32) (fun x2 => if eh_in p0 2 then eh_J (fun (s4 : eh_F) => if eh_in p0 2 then eh_V ((s4.1 144 (eh_ix p0)) : Int32) (fun x5 => eh_J (fun (u7 : Unit) => eh_J (fun (u9 : Unit) => if eh_in p0 2 then if eh_in p0 2 then eh_V (eh_tI s4 146 (eh_ix p0) ((s4.1 146 (eh_ix p0)) + 1)) (fun s10 => eh_V (eh_tI s10 127 83 (-1)) (fun s11 => eh_V (eh_tI s11 127 86 0) (fun s12 => Option.bind (eF_12_who s12 p0) (fun q13 => if eh_in q13 14 then eh_V (eh_tI s12 127 85 ((s12.1 130 (eh_ix q13)) + 4)) (fun s14 => if eh_in q13 14 then Option.bind (eF_12_locate s14 p0 (s14.1 130 (eh_ix q13)) 4 0) (fun q15 => eh_J (fun (s17 : eh_F) => eh_J (fun (s19 : eh_F) => some s19) (fun j18 => if (s17.1 127 83) = (-1) then (if eh_in q13 14 then eh_V (eh_tI s17 130 (eh_ix q13) (s17.1 127 85)) (fun s21 => j18 s21) else none) else (if x5 = (-1) then (Option.bind (eF_12_trap s17 p0 (s17.1 127 83) (s17.1 127 84)) (fun q23 => j18 q23)) else (if eh_in x5 12 then if (s17.1 152 (eh_ix x5)) = 0 then (Option.bind (eF_12_happens s17 3 p0 (s17.1 127 83) 0 0) (fun q25 => Option.bind (eF_12_leave q25 p0 5 3 (q25.1 127 83)) (fun q26 => j18 q26))) else (if eh_in ((32 * q13) + 10) 448 then if eh_in (4 * x5) 48 then eh_V (eh_tI s17 154 (eh_ix (4 * x5)) (s17.1 129 (eh_ix ((32 * q13) + 10)))) (fun s27 => if eh_in ((32 * q13) + 11) 448 then if eh_in ((4 * x5) + 1) 48 then eh_V (eh_tI s27 154 (eh_ix ((4 * x5) + 1)) (s27.1 129 (eh_ix ((32 * q13) + 11)))) (fun s28 => if eh_in q13 14 then if eh_in ((4 * x5) + 2) 48 then eh_V (eh_tI s28 154 (eh_ix ((4 * x5) + 2)) (s28.1 130 (eh_ix q13))) (fun s29 => if eh_in x5 12 then if eh_in ((4 * x5) + 3) 48 then eh_V (eh_tI s29 154 (eh_ix ((4 * x5) + 3)) (s29.1 152 (eh_ix x5))) (fun s30 => if eh_in x5 12 then eh_V (eh_tI s30 153 (eh_ix x5) (eh_nz 1)) (fun s31 => if eh_in ((32 * q13) + 10) 448 then eh_V (eh_tI s31 129 (eh_ix ((32 * q13) + 10)) (s31.1 127 83)) (fun s32 => if eh_in q13 14 then if eh_in ((32 * q13) + 11) 448 then eh_V (eh_tI s32 129 (eh_ix ((32 * q13) + 11)) (s32.1 130 (eh_ix q13))) (fun s33 => if eh_in x5 12 then if eh_in q13 14 then eh_V (eh_tI s33 130 (eh_ix q13) (s33.1 152 (eh_ix x5))) (fun s34 => if eh_in x5 12 then eh_V (eh_tI s34 152 (eh_ix x5) 0) (fun s35 => j18 s35) else none) else none else none) else none else none) else none) else none) else none else none) else none else none) else none else none) else none else none) else none)))) (fun j16 => if (q15.2.1 127 83) = (-1) then (Option.bind (eF_12_littleWord q15.2 128 131072 q15.1) (fun q37 => if eh_in q13 14 then Option.bind (eF_12_execute q15.2 p0 q37 (q15.2.1 130 (eh_ix q13))) (fun q38 => j16 q38) else none)) else (j16 q15.2))) else none) else none)))) else none else none) (fun j8 => if x5 = (-1) then (j8 ()) else (if eh_in p0 2 then if 0 < (s4.1 145 (eh_ix p0)) then (if eh_in p0 2 then if eh_in p0 2 then if (s4.1 146 (eh_ix p0)) < (s4.1 145 (eh_ix p0)) then (j8 ()) else (Option.bind (eF_12_leave s4 p0 3 4 0) (fun q42 => some q42)) else none else none) else (j8 ()) else none))) (fun j6 => if x2 = 0 then (j6 ()) else (eh_J (fun (u45 : Unit) => eh_J (fun (s47 : eh_F) => some s47) (fun j46 => if x5 = (-1) then (eh_J (fun (a50 : Int32) => Option.bind (eF_12_trap s4 p0 (a50 ||| (-2147483648)) 0) (fun q51 => j46 q51)) (fun j49 => if (x2 &&& 512) = 0 then (if (x2 &&& 2) = 0 then (j49 5) else (j49 1)) else (j49 9))) else (Option.bind (eF_12_leave s4 p0 3 2 0) (fun q54 => j46 q54)))) (fun j44 => if x5 = (-1) then (if eh_in p0 2 then if (s4.1 131 (eh_ix p0)) = 0 then (j44 ()) else (if eh_in p0 2 then if ((s4.1 133 (eh_ix p0)) &&& 2) = 0 then (j6 ()) else (j44 ()) else none) else none) else (j44 ()))))) else none) (fun j3 => if (s.1 132 (eh_ix p0)) = 0 then (j3 s) else (if x2 = 0 then (some s) else (if eh_in p0 2 then eh_V (eh_tI s 132 (eh_ix p0) (eh_nz 0)) (fun s60 => j3 s60) else none))) else none) else none)
set_option maxHeartbeats 4000000 in
set_option maxRecDepth 100000 in
theorem eS_12_step (g : eh_P) (s : eh_F) (p0 : Int32) : eh_Sim g eM_12_step (eh_R 13 0 0) eh_eV 0 0 0 (eh_en 6 [.ref 127, .int p0]) [] (eh_FW s) (eF_12_step s p0) := by
  unfold eF_12_step
  refine ef_top (L := [some (.ref 127), some (.int p0), none, none, none, none]) rfl ?_
  refine es_blk (pc' := 2) (L' := [some (.ref 127), some (.int p0), none, none, none, none]) (st' := [.int p0, .ref 127]) [(.aload_n 0, 0), (.iload_n 1, 0)] (by decide +kernel) rfl rfl ?_
  refine ef_vpI (d := 3) (k := 127) (As := [.int p0]) (st := []) eV_12_pending eK_12_404 (eS_12_pending g s p0) rfl rfl (Nat.le_of_ble_eq_true rfl) rfl (Nat.le_of_ble_eq_true rfl) ⟨Nat.le_of_ble_eq_true rfl, Nat.le_of_ble_eq_true rfl⟩ ⟨Nat.le_refl _, Nat.le_refl _⟩ (by decide +kernel) (fun q1 _ => ?_)
  refine es_blk (pc' := 6) (L' := [some (.ref 127), some (.int p0), none, none, none, none]) (st' := [.ref 127, .int q1]) [(.aload_n 0, 0)] (by decide +kernel) rfl rfl ?_
  refine ef_getP (k := 127) (j := 6) (q := 134) rfl eL_12_31 rfl rfl rfl (by decide +kernel) ?_
  refine es_blk (pc' := 10) (L' := [some (.ref 127), some (.int p0), none, none, none, none]) (st' := [.int p0, .ref 134, .int q1]) [(.iload_n 1, 0)] (by decide +kernel) rfl rfl ?_
  refine ef_ald (k := 134) rfl (Or.inl ⟨rfl, rfl⟩) (by decide +kernel) (fun _ => ?_)
  refine es_blk (pc' := 13) (L' := [some (.ref 127), some (.int p0), some (.int (q1 &&& (s.1 134 (eh_ix p0)))), none, none, none]) (st' := []) [(.iand, 0), (.istore_n 2, 0)] (by decide +kernel) rfl rfl ?_
  refine ef_V (fun x2 => [some (.ref 127), some (.int p0), some (.int x2), none, none, none]) (fun _ => []) (fun _ => eh_FW s) (fun x2 => ?_)
  refine es_blk (pc' := 14) (L' := [some (.ref 127), some (.int p0), some (.int x2), none, none, none]) (st' := [.ref 127]) [(.aload_n 0, 0)] (by decide +kernel) rfl rfl ?_
  refine ef_getP (k := 127) (j := 4) (q := 132) rfl eL_12_24 rfl rfl rfl (by decide +kernel) ?_
  refine es_blk (pc' := 18) (L' := [some (.ref 127), some (.int p0), some (.int x2), none, none, none]) (st' := [.int p0, .ref 132]) [(.iload_n 1, 0)] (by decide +kernel) rfl rfl ?_
  refine ef_ald (k := 132) rfl (Or.inr ⟨Or.inr rfl, rfl⟩) (by decide +kernel) (fun _ => ?_)
  refine ef_J (X := fun j3 => ∀ (s4 : eh_F), eh_Sim g eM_12_step (eh_R 13 0 0) eh_eV 0 0 34 [some (.ref 127), some (.int p0), some (.int x2), none, none, none] [] (eh_FW s4) ((j3 s4).bind some)) ?_ (fun j3 Hj3 => ?_)
  · intro s4
    refine es_blk (pc' := 35) (L' := [some (.ref 127), some (.int p0), some (.int x2), none, none, none]) (st' := [.ref 127]) [(.aload_n 0, 0)] (by decide +kernel) rfl rfl ?_
    refine ef_getP (k := 127) (j := 16) (q := 144) rfl eL_12_61 rfl rfl rfl (by decide +kernel) ?_
    refine es_blk (pc' := 39) (L' := [some (.ref 127), some (.int p0), some (.int x2), none, none, none]) (st' := [.int p0, .ref 144]) [(.iload_n 1, 0)] (by decide +kernel) rfl rfl ?_
    refine ef_ald (k := 144) rfl (Or.inl ⟨rfl, rfl⟩) (by decide +kernel) (fun _ => ?_)
    refine es_blk (pc' := 41) (L' := [some (.ref 127), some (.int p0), some (.int x2), some (.int (s4.1 144 (eh_ix p0))), none, none]) (st' := []) [(.istore_n 3, 0)] (by decide +kernel) rfl rfl ?_
    refine ef_V (fun x5 => [some (.ref 127), some (.int p0), some (.int x2), some (.int x5), none, none]) (fun _ => []) (fun _ => eh_FW s4) (fun x5 => ?_)
    refine es_blk (pc' := 42) (L' := [some (.ref 127), some (.int p0), some (.int x2), some (.int x5), none, none]) (st' := [.int x2]) [(.iload_n 2, 0)] (by decide +kernel) rfl rfl ?_
    refine ef_J (X := fun j6 => ∀ (u7 : Unit), eh_Sim g eM_12_step (eh_R 13 0 0) eh_eV 0 0 121 [some (.ref 127), some (.int p0), none, some (.int x5), none, none] [] (eh_FW s4) ((j6 u7).bind some)) ?_ (fun j6 Hj6 => ?_)
    · intro u7
      refine es_blk (pc' := 123) (L' := [some (.ref 127), some (.int p0), none, some (.int x5), none, none]) (st' := [.int (-1), .int x5]) [(.iload_n 3, 0), (.iconst (-1), (-1))] (by decide +kernel) rfl rfl ?_
      refine ef_J (X := fun j8 => ∀ (u9 : Unit), eh_Sim g eM_12_step (eh_R 13 0 0) eh_eV 0 0 159 [some (.ref 127), some (.int p0), none, some (.int x5), none, none] [] (eh_FW s4) ((j8 u9).bind some)) ?_ (fun j8 Hj8 => ?_)
      · intro u9
        refine es_blk (pc' := 160) (L' := [some (.ref 127), some (.int p0), none, some (.int x5), none, none]) (st' := [.ref 127]) [(.aload_n 0, 0)] (by decide +kernel) rfl rfl ?_
        refine ef_getP (k := 127) (j := 18) (q := 146) rfl eL_12_67 rfl rfl rfl (by decide +kernel) ?_
        refine es_blk (pc' := 165) (L' := [some (.ref 127), some (.int p0), none, some (.int x5), none, none]) (st' := [.int p0, .ref 146, .int p0, .ref 146]) [(.iload_n 1, 0), (.dup2, 0)] (by decide +kernel) rfl rfl ?_
        refine ef_ald (k := 146) rfl (Or.inl ⟨rfl, rfl⟩) (by decide +kernel) (fun _ => ?_)
        refine es_blk (pc' := 168) (L' := [some (.ref 127), some (.int p0), none, some (.int x5), none, none]) (st' := [.int ((s4.1 146 (eh_ix p0)) + 1), .int p0, .ref 146]) [(.iconst 1, 1), (.iadd, 0)] (by decide +kernel) rfl rfl ?_
        refine ef_ast (k := 146) rfl (by decide +kernel) (fun _ => ?_)
        refine ef_V (fun _ => [some (.ref 127), some (.int p0), none, some (.int x5), none, none]) (fun _ => []) (fun s10 => eh_FW s10) (fun s10 => ?_)
        refine es_blk (pc' := 171) (L' := [some (.ref 127), some (.int p0), none, some (.int x5), none, none]) (st' := [.int (-1), .ref 127]) [(.aload_n 0, 0), (.iconst (-1), (-1))] (by decide +kernel) rfl rfl ?_
        refine ef_putI (k := 127) (j := 83) rfl eL_12_340 rfl rfl (by decide +kernel) ?_
        refine ef_V (fun _ => [some (.ref 127), some (.int p0), none, some (.int x5), none, none]) (fun _ => []) (fun s11 => eh_FW s11) (fun s11 => ?_)
        refine es_blk (pc' := 176) (L' := [some (.ref 127), some (.int p0), none, some (.int x5), none, none]) (st' := [.int 0, .ref 127]) [(.aload_n 0, 0), (.iconst 0, 0)] (by decide +kernel) rfl rfl ?_
        refine ef_putZc (k := 127) (j := 86) rfl eL_12_414 rfl rfl (by decide) (by decide +kernel) ?_
        refine ef_V (fun _ => [some (.ref 127), some (.int p0), none, some (.int x5), none, none]) (fun _ => []) (fun s12 => eh_FW s12) (fun s12 => ?_)
        refine es_blk (pc' := 181) (L' := [some (.ref 127), some (.int p0), none, some (.int x5), none, none]) (st' := [.int p0, .ref 127]) [(.aload_n 0, 0), (.iload_n 1, 0)] (by decide +kernel) rfl rfl ?_
        refine ef_vpI (d := 1) (k := 127) (As := [.int p0]) (st := []) eV_12_who eK_12_401 (eS_12_who g s12 p0) rfl rfl (Nat.le_of_ble_eq_true rfl) rfl (Nat.le_of_ble_eq_true rfl) ⟨Nat.le_of_ble_eq_true rfl, Nat.le_of_ble_eq_true rfl⟩ ⟨Nat.le_refl _, Nat.le_refl _⟩ (by decide +kernel) (fun q13 _ => ?_)
        refine es_blk (pc' := 188) (L' := [some (.ref 127), some (.int p0), none, some (.int x5), some (.int q13), none]) (st' := [.ref 127, .ref 127]) [(.istore 4, 0), (.aload_n 0, 0), (.aload_n 0, 0)] (by decide +kernel) rfl rfl ?_
        refine ef_getP (k := 127) (j := 2) (q := 130) rfl eL_12_18 rfl rfl rfl (by decide +kernel) ?_
        refine es_blk (pc' := 193) (L' := [some (.ref 127), some (.int p0), none, some (.int x5), some (.int q13), none]) (st' := [.int q13, .ref 130, .ref 127]) [(.iload 4, 0)] (by decide +kernel) rfl rfl ?_
        refine ef_ald (k := 130) rfl (Or.inl ⟨rfl, rfl⟩) (by decide +kernel) (fun _ => ?_)
        refine es_blk (pc' := 196) (L' := [some (.ref 127), some (.int p0), none, some (.int x5), some (.int q13), none]) (st' := [.int ((s12.1 130 (eh_ix q13)) + 4), .ref 127]) [(.iconst 4, 4), (.iadd, 0)] (by decide +kernel) rfl rfl ?_
        refine ef_putI (k := 127) (j := 85) rfl eL_12_417 rfl rfl (by decide +kernel) ?_
        refine ef_V (fun _ => [some (.ref 127), some (.int p0), none, some (.int x5), some (.int q13), none]) (fun _ => []) (fun s14 => eh_FW s14) (fun s14 => ?_)
        refine es_blk (pc' := 202) (L' := [some (.ref 127), some (.int p0), none, some (.int x5), some (.int q13), none]) (st' := [.ref 127, .int p0, .ref 127]) [(.aload_n 0, 0), (.iload_n 1, 0), (.aload_n 0, 0)] (by decide +kernel) rfl rfl ?_
        refine ef_getP (k := 127) (j := 2) (q := 130) rfl eL_12_18 rfl rfl rfl (by decide +kernel) ?_
        refine es_blk (pc' := 207) (L' := [some (.ref 127), some (.int p0), none, some (.int x5), some (.int q13), none]) (st' := [.int q13, .ref 130, .int p0, .ref 127]) [(.iload 4, 0)] (by decide +kernel) rfl rfl ?_
        refine ef_ald (k := 130) rfl (Or.inl ⟨rfl, rfl⟩) (by decide +kernel) (fun _ => ?_)
        refine es_blk (pc' := 210) (L' := [some (.ref 127), some (.int p0), none, some (.int x5), some (.int q13), none]) (st' := [.int 0, .int 4, .int (s14.1 130 (eh_ix q13)), .int p0, .ref 127]) [(.iconst 4, 4), (.iconst 0, 0)] (by decide +kernel) rfl rfl ?_
        refine ef_veI (d := 5) (k := 127) (As := [.int p0, .int (s14.1 130 (eh_ix q13)), .int 4, .int 0]) (st := []) eV_12_locate eK_12_382 (eS_12_locate g s14 p0 (s14.1 130 (eh_ix q13)) 4 0) rfl rfl (Nat.le_of_ble_eq_true rfl) rfl (Nat.le_of_ble_eq_true rfl) ⟨Nat.le_of_ble_eq_true rfl, Nat.le_of_ble_eq_true rfl⟩ ⟨Nat.le_refl _, Nat.le_refl _⟩ (by decide +kernel) (fun q15 _ => ?_)
        refine es_blk (pc' := 216) (L' := [some (.ref 127), some (.int p0), none, some (.int x5), some (.int q13), some (.int q15.1)]) (st' := [.ref 127]) [(.istore 5, 0), (.aload_n 0, 0)] (by decide +kernel) rfl rfl ?_
        refine ef_getI (k := 127) (j := 83) rfl eL_12_340 (by decide) (by decide +kernel) ?_
        refine es_blk (pc' := 220) (L' := [some (.ref 127), some (.int p0), none, some (.int x5), some (.int q13), some (.int q15.1)]) (st' := [.int (-1), .int (q15.2.1 127 83)]) [(.iconst (-1), (-1))] (by decide +kernel) rfl rfl ?_
        refine ef_J (X := fun j16 => ∀ (s17 : eh_F), eh_Sim g eM_12_step (eh_R 13 0 0) eh_eV 0 0 244 [some (.ref 127), some (.int p0), none, some (.int x5), some (.int q13), none] [] (eh_FW s17) ((j16 s17).bind some)) ?_ (fun j16 Hj16 => ?_)
        · intro s17
          refine es_blk (pc' := 245) (L' := [some (.ref 127), some (.int p0), none, some (.int x5), some (.int q13), none]) (st' := [.ref 127]) [(.aload_n 0, 0)] (by decide +kernel) rfl rfl ?_
          refine ef_getI (k := 127) (j := 83) rfl eL_12_340 (by decide) (by decide +kernel) ?_
          refine es_blk (pc' := 249) (L' := [some (.ref 127), some (.int p0), none, some (.int x5), some (.int q13), none]) (st' := [.int (-1), .int (s17.1 127 83)]) [(.iconst (-1), (-1))] (by decide +kernel) rfl rfl ?_
          refine ef_J (X := fun j18 => ∀ (s19 : eh_F), eh_Sim g eM_12_step (eh_R 13 0 0) eh_eV 0 0 463 [none, none, none, none, none, none] [] (eh_FW s19) ((j18 s19).bind some)) ?_ (fun j18 Hj18 => ?_)
          · intro s19
            exact es_ret rfl rfl rfl ⟨by decide +kernel, rfl⟩ (Nat.le_refl _) (Nat.le_refl _)
          refine es_ine (tgt := 266) (off := (17)) (by decide +kernel) (by decide) (fun h20 => ?_) (fun h20 => ?_)
          · refine es_blk (pc' := 253) (L' := [some (.ref 127), some (.int p0), none, some (.int x5), some (.int q13), none]) (st' := [.ref 127]) [(.aload_n 0, 0)] (by decide +kernel) rfl rfl ?_
            refine ef_getP (k := 127) (j := 2) (q := 130) rfl eL_12_18 rfl rfl rfl (by decide +kernel) ?_
            refine es_blk (pc' := 259) (L' := [some (.ref 127), some (.int p0), none, some (.int x5), some (.int q13), none]) (st' := [.ref 127, .int q13, .ref 130]) [(.iload 4, 0), (.aload_n 0, 0)] (by decide +kernel) rfl rfl ?_
            refine ef_getI (k := 127) (j := 85) rfl eL_12_417 (by decide) (by decide +kernel) ?_
            refine ef_ast (k := 130) rfl (by decide +kernel) (fun _ => ?_)
            refine ef_V (fun _ => [some (.ref 127), some (.int p0), none, some (.int x5), some (.int q13), none]) (fun _ => []) (fun s21 => eh_FW s21) (fun s21 => ?_)
            refine es_goto (tgt := 463) (off := (200)) (by decide +kernel) (by decide) ?_
            refine ef_drop (L2 := [none, none, none, none, none, none]) [false, false, true, false, false, true] rfl rfl ?_
            exact Hj18 _
          refine es_blk (pc' := 268) (L' := [some (.ref 127), some (.int p0), none, some (.int x5), some (.int q13), none]) (st' := [.int (-1), .int x5]) [(.iload_n 3, 0), (.iconst (-1), (-1))] (by decide +kernel) rfl rfl ?_
          refine es_ine (tgt := 287) (off := (19)) (by decide +kernel) (by decide) (fun h22 => ?_) (fun h22 => ?_)
          · refine es_blk (pc' := 274) (L' := [some (.ref 127), some (.int p0), none, some (.int x5), some (.int q13), none]) (st' := [.ref 127, .int p0, .ref 127]) [(.aload_n 0, 0), (.iload_n 1, 0), (.aload_n 0, 0)] (by decide +kernel) rfl rfl ?_
            refine ef_getI (k := 127) (j := 83) rfl eL_12_340 (by decide) (by decide +kernel) ?_
            refine es_blk (pc' := 278) (L' := [some (.ref 127), some (.int p0), none, some (.int x5), some (.int q13), none]) (st' := [.ref 127, .int (s17.1 127 83), .int p0, .ref 127]) [(.aload_n 0, 0)] (by decide +kernel) rfl rfl ?_
            refine ef_getI (k := 127) (j := 84) rfl eL_12_343 (by decide) (by decide +kernel) ?_
            refine ef_veV (d := 1) (k := 127) (As := [.int p0, .int (s17.1 127 83), .int (s17.1 127 84)]) (st := []) eV_12_trap eK_12_411 (eS_12_trap g s17 p0 (s17.1 127 83) (s17.1 127 84)) rfl rfl (Nat.le_of_ble_eq_true rfl) rfl (Nat.le_of_ble_eq_true rfl) ⟨Nat.le_of_ble_eq_true rfl, Nat.le_of_ble_eq_true rfl⟩ ⟨Nat.le_refl _, Nat.le_refl _⟩ (by decide +kernel) (fun q23 _ => ?_)
            refine es_goto (tgt := 463) (off := (179)) (by decide +kernel) (by decide) ?_
            refine ef_drop (L2 := [none, none, none, none, none, none]) [false, false, true, false, false, true] rfl rfl ?_
            exact Hj18 _
          refine es_blk (pc' := 288) (L' := [some (.ref 127), some (.int p0), none, some (.int x5), some (.int q13), none]) (st' := [.ref 127]) [(.aload_n 0, 0)] (by decide +kernel) rfl rfl ?_
          refine ef_getP (k := 127) (j := 27) (q := 152) rfl eL_12_85 rfl rfl rfl (by decide +kernel) ?_
          refine es_blk (pc' := 292) (L' := [some (.ref 127), some (.int p0), none, some (.int x5), some (.int q13), none]) (st' := [.int x5, .ref 152]) [(.iload_n 3, 0)] (by decide +kernel) rfl rfl ?_
          refine ef_ald (k := 152) rfl (Or.inl ⟨rfl, rfl⟩) (by decide +kernel) (fun _ => ?_)
          refine es_eq (tgt := 440) (off := (147)) (by decide +kernel) (by decide) (fun h24 => ?_) (fun h24 => ?_)
          · refine es_blk (pc' := 444) (L' := [some (.ref 127), some (.int p0), none, some (.int x5), some (.int q13), none]) (st' := [.ref 127, .int p0, .int 3, .ref 127]) [(.aload_n 0, 0), (.iconst 3, 3), (.iload_n 1, 0), (.aload_n 0, 0)] (by decide +kernel) rfl rfl ?_
            refine ef_getI (k := 127) (j := 83) rfl eL_12_340 (by decide) (by decide +kernel) ?_
            refine es_blk (pc' := 449) (L' := [some (.ref 127), some (.int p0), none, some (.int x5), some (.int q13), none]) (st' := [.int 0, .int 0, .int (s17.1 127 83), .int p0, .int 3, .ref 127]) [(.iconst 0, 0), (.iconst 0, 0)] (by decide +kernel) rfl rfl ?_
            refine ef_veV (d := 1) (k := 127) (As := [.int 3, .int p0, .int (s17.1 127 83), .int 0, .int 0]) (st := []) eV_12_happens eK_12_394 (eS_12_happens g s17 3 p0 (s17.1 127 83) 0 0) rfl rfl (Nat.le_of_ble_eq_true rfl) rfl (Nat.le_of_ble_eq_true rfl) ⟨Nat.le_of_ble_eq_true rfl, Nat.le_of_ble_eq_true rfl⟩ ⟨Nat.le_refl _, Nat.le_refl _⟩ (by decide +kernel) (fun q25 _ => ?_)
            refine es_blk (pc' := 457) (L' := [some (.ref 127), some (.int p0), none, some (.int x5), some (.int q13), none]) (st' := [.ref 127, .int 3, .int 5, .int p0, .ref 127]) [(.aload_n 0, 0), (.iload_n 1, 0), (.iconst 5, 5), (.iconst 3, 3), (.aload_n 0, 0)] (by decide +kernel) rfl rfl ?_
            refine ef_getI (k := 127) (j := 83) rfl eL_12_340 (by decide) (by decide +kernel) ?_
            refine ef_veV (d := 1) (k := 127) (As := [.int p0, .int 5, .int 3, .int (q25.1 127 83)]) (st := []) eV_12_leave eK_12_407 (eS_12_leave g q25 p0 5 3 (q25.1 127 83)) rfl rfl (Nat.le_of_ble_eq_true rfl) rfl (Nat.le_of_ble_eq_true rfl) ⟨Nat.le_of_ble_eq_true rfl, Nat.le_of_ble_eq_true rfl⟩ ⟨Nat.le_refl _, Nat.le_refl _⟩ (by decide +kernel) (fun q26 _ => ?_)
            refine ef_drop (L2 := [none, none, none, none, none, none]) [false, false, true, false, false, true] rfl rfl ?_
            exact Hj18 _
          refine es_blk (pc' := 297) (L' := [some (.ref 127), some (.int p0), none, some (.int x5), some (.int q13), none]) (st' := [.ref 127]) [(.aload_n 0, 0)] (by decide +kernel) rfl rfl ?_
          refine ef_getP (k := 127) (j := 29) (q := 154) rfl eL_12_91 rfl rfl rfl (by decide +kernel) ?_
          refine es_blk (pc' := 304) (L' := [some (.ref 127), some (.int p0), none, some (.int x5), some (.int q13), none]) (st' := [.ref 127, .int (4 * x5), .ref 154]) [(.iconst 4, 4), (.iload_n 3, 0), (.imul, 0), (.aload_n 0, 0)] (by decide +kernel) rfl rfl ?_
          refine ef_getP (k := 127) (j := 1) (q := 129) rfl eL_12_14 rfl rfl rfl (by decide +kernel) ?_
          refine es_blk (pc' := 315) (L' := [some (.ref 127), some (.int p0), none, some (.int x5), some (.int q13), none]) (st' := [.int ((32 * q13) + 10), .ref 129, .int (4 * x5), .ref 154]) [(.bipush 32, 32), (.iload 4, 0), (.imul, 0), (.bipush 10, 10), (.iadd, 0)] (by decide +kernel) rfl rfl ?_
          refine ef_ald (k := 129) rfl (Or.inl ⟨rfl, rfl⟩) (by decide +kernel) (fun _ => ?_)
          refine ef_ast (k := 154) rfl (by decide +kernel) (fun _ => ?_)
          refine ef_V (fun _ => [some (.ref 127), some (.int p0), none, some (.int x5), some (.int q13), none]) (fun _ => []) (fun s27 => eh_FW s27) (fun s27 => ?_)
          refine es_blk (pc' := 318) (L' := [some (.ref 127), some (.int p0), none, some (.int x5), some (.int q13), none]) (st' := [.ref 127]) [(.aload_n 0, 0)] (by decide +kernel) rfl rfl ?_
          refine ef_getP (k := 127) (j := 29) (q := 154) rfl eL_12_91 rfl rfl rfl (by decide +kernel) ?_
          refine es_blk (pc' := 327) (L' := [some (.ref 127), some (.int p0), none, some (.int x5), some (.int q13), none]) (st' := [.ref 127, .int ((4 * x5) + 1), .ref 154]) [(.iconst 4, 4), (.iload_n 3, 0), (.imul, 0), (.iconst 1, 1), (.iadd, 0), (.aload_n 0, 0)] (by decide +kernel) rfl rfl ?_
          refine ef_getP (k := 127) (j := 1) (q := 129) rfl eL_12_14 rfl rfl rfl (by decide +kernel) ?_
          refine es_blk (pc' := 338) (L' := [some (.ref 127), some (.int p0), none, some (.int x5), some (.int q13), none]) (st' := [.int ((32 * q13) + 11), .ref 129, .int ((4 * x5) + 1), .ref 154]) [(.bipush 32, 32), (.iload 4, 0), (.imul, 0), (.bipush 11, 11), (.iadd, 0)] (by decide +kernel) rfl rfl ?_
          refine ef_ald (k := 129) rfl (Or.inl ⟨rfl, rfl⟩) (by decide +kernel) (fun _ => ?_)
          refine ef_ast (k := 154) rfl (by decide +kernel) (fun _ => ?_)
          refine ef_V (fun _ => [some (.ref 127), some (.int p0), none, some (.int x5), some (.int q13), none]) (fun _ => []) (fun s28 => eh_FW s28) (fun s28 => ?_)
          refine es_blk (pc' := 341) (L' := [some (.ref 127), some (.int p0), none, some (.int x5), some (.int q13), none]) (st' := [.ref 127]) [(.aload_n 0, 0)] (by decide +kernel) rfl rfl ?_
          refine ef_getP (k := 127) (j := 29) (q := 154) rfl eL_12_91 rfl rfl rfl (by decide +kernel) ?_
          refine es_blk (pc' := 350) (L' := [some (.ref 127), some (.int p0), none, some (.int x5), some (.int q13), none]) (st' := [.ref 127, .int ((4 * x5) + 2), .ref 154]) [(.iconst 4, 4), (.iload_n 3, 0), (.imul, 0), (.iconst 2, 2), (.iadd, 0), (.aload_n 0, 0)] (by decide +kernel) rfl rfl ?_
          refine ef_getP (k := 127) (j := 2) (q := 130) rfl eL_12_18 rfl rfl rfl (by decide +kernel) ?_
          refine es_blk (pc' := 355) (L' := [some (.ref 127), some (.int p0), none, some (.int x5), some (.int q13), none]) (st' := [.int q13, .ref 130, .int ((4 * x5) + 2), .ref 154]) [(.iload 4, 0)] (by decide +kernel) rfl rfl ?_
          refine ef_ald (k := 130) rfl (Or.inl ⟨rfl, rfl⟩) (by decide +kernel) (fun _ => ?_)
          refine ef_ast (k := 154) rfl (by decide +kernel) (fun _ => ?_)
          refine ef_V (fun _ => [some (.ref 127), some (.int p0), none, some (.int x5), some (.int q13), none]) (fun _ => []) (fun s29 => eh_FW s29) (fun s29 => ?_)
          refine es_blk (pc' := 358) (L' := [some (.ref 127), some (.int p0), none, some (.int x5), some (.int q13), none]) (st' := [.ref 127]) [(.aload_n 0, 0)] (by decide +kernel) rfl rfl ?_
          refine ef_getP (k := 127) (j := 29) (q := 154) rfl eL_12_91 rfl rfl rfl (by decide +kernel) ?_
          refine es_blk (pc' := 367) (L' := [some (.ref 127), some (.int p0), none, some (.int x5), some (.int q13), none]) (st' := [.ref 127, .int ((4 * x5) + 3), .ref 154]) [(.iconst 4, 4), (.iload_n 3, 0), (.imul, 0), (.iconst 3, 3), (.iadd, 0), (.aload_n 0, 0)] (by decide +kernel) rfl rfl ?_
          refine ef_getP (k := 127) (j := 27) (q := 152) rfl eL_12_85 rfl rfl rfl (by decide +kernel) ?_
          refine es_blk (pc' := 371) (L' := [some (.ref 127), some (.int p0), none, some (.int x5), some (.int q13), none]) (st' := [.int x5, .ref 152, .int ((4 * x5) + 3), .ref 154]) [(.iload_n 3, 0)] (by decide +kernel) rfl rfl ?_
          refine ef_ald (k := 152) rfl (Or.inl ⟨rfl, rfl⟩) (by decide +kernel) (fun _ => ?_)
          refine ef_ast (k := 154) rfl (by decide +kernel) (fun _ => ?_)
          refine ef_V (fun _ => [some (.ref 127), some (.int p0), none, some (.int x5), some (.int q13), none]) (fun _ => []) (fun s30 => eh_FW s30) (fun s30 => ?_)
          refine es_blk (pc' := 374) (L' := [some (.ref 127), some (.int p0), none, some (.int x5), some (.int q13), none]) (st' := [.ref 127]) [(.aload_n 0, 0)] (by decide +kernel) rfl rfl ?_
          refine ef_getP (k := 127) (j := 28) (q := 153) rfl eL_12_88 rfl rfl rfl (by decide +kernel) ?_
          refine es_blk (pc' := 379) (L' := [some (.ref 127), some (.int p0), none, some (.int x5), some (.int q13), none]) (st' := [.int 1, .int x5, .ref 153]) [(.iload_n 3, 0), (.iconst 1, 1)] (by decide +kernel) rfl rfl ?_
          refine ef_astZ (k := 153) rfl (by decide +kernel) (fun _ => ?_)
          refine ef_V (fun _ => [some (.ref 127), some (.int p0), none, some (.int x5), some (.int q13), none]) (fun _ => []) (fun s31 => eh_FW s31) (fun s31 => ?_)
          refine es_blk (pc' := 381) (L' := [some (.ref 127), some (.int p0), none, some (.int x5), some (.int q13), none]) (st' := [.ref 127]) [(.aload_n 0, 0)] (by decide +kernel) rfl rfl ?_
          refine ef_getP (k := 127) (j := 1) (q := 129) rfl eL_12_14 rfl rfl rfl (by decide +kernel) ?_
          refine es_blk (pc' := 393) (L' := [some (.ref 127), some (.int p0), none, some (.int x5), some (.int q13), none]) (st' := [.ref 127, .int ((32 * q13) + 10), .ref 129]) [(.bipush 32, 32), (.iload 4, 0), (.imul, 0), (.bipush 10, 10), (.iadd, 0), (.aload_n 0, 0)] (by decide +kernel) rfl rfl ?_
          refine ef_getI (k := 127) (j := 83) rfl eL_12_340 (by decide) (by decide +kernel) ?_
          refine ef_ast (k := 129) rfl (by decide +kernel) (fun _ => ?_)
          refine ef_V (fun _ => [some (.ref 127), some (.int p0), none, some (.int x5), some (.int q13), none]) (fun _ => []) (fun s32 => eh_FW s32) (fun s32 => ?_)
          refine es_blk (pc' := 398) (L' := [some (.ref 127), some (.int p0), none, some (.int x5), some (.int q13), none]) (st' := [.ref 127]) [(.aload_n 0, 0)] (by decide +kernel) rfl rfl ?_
          refine ef_getP (k := 127) (j := 1) (q := 129) rfl eL_12_14 rfl rfl rfl (by decide +kernel) ?_
          refine es_blk (pc' := 410) (L' := [some (.ref 127), some (.int p0), none, some (.int x5), some (.int q13), none]) (st' := [.ref 127, .int ((32 * q13) + 11), .ref 129]) [(.bipush 32, 32), (.iload 4, 0), (.imul, 0), (.bipush 11, 11), (.iadd, 0), (.aload_n 0, 0)] (by decide +kernel) rfl rfl ?_
          refine ef_getP (k := 127) (j := 2) (q := 130) rfl eL_12_18 rfl rfl rfl (by decide +kernel) ?_
          refine es_blk (pc' := 415) (L' := [some (.ref 127), some (.int p0), none, some (.int x5), some (.int q13), none]) (st' := [.int q13, .ref 130, .int ((32 * q13) + 11), .ref 129]) [(.iload 4, 0)] (by decide +kernel) rfl rfl ?_
          refine ef_ald (k := 130) rfl (Or.inl ⟨rfl, rfl⟩) (by decide +kernel) (fun _ => ?_)
          refine ef_ast (k := 129) rfl (by decide +kernel) (fun _ => ?_)
          refine ef_V (fun _ => [some (.ref 127), some (.int p0), none, some (.int x5), some (.int q13), none]) (fun _ => []) (fun s33 => eh_FW s33) (fun s33 => ?_)
          refine es_blk (pc' := 418) (L' := [some (.ref 127), some (.int p0), none, some (.int x5), some (.int q13), none]) (st' := [.ref 127]) [(.aload_n 0, 0)] (by decide +kernel) rfl rfl ?_
          refine ef_getP (k := 127) (j := 2) (q := 130) rfl eL_12_18 rfl rfl rfl (by decide +kernel) ?_
          refine es_blk (pc' := 424) (L' := [some (.ref 127), some (.int p0), none, some (.int x5), some (.int q13), none]) (st' := [.ref 127, .int q13, .ref 130]) [(.iload 4, 0), (.aload_n 0, 0)] (by decide +kernel) rfl rfl ?_
          refine ef_getP (k := 127) (j := 27) (q := 152) rfl eL_12_85 rfl rfl rfl (by decide +kernel) ?_
          refine es_blk (pc' := 428) (L' := [some (.ref 127), some (.int p0), none, some (.int x5), some (.int q13), none]) (st' := [.int x5, .ref 152, .int q13, .ref 130]) [(.iload_n 3, 0)] (by decide +kernel) rfl rfl ?_
          refine ef_ald (k := 152) rfl (Or.inl ⟨rfl, rfl⟩) (by decide +kernel) (fun _ => ?_)
          refine ef_ast (k := 130) rfl (by decide +kernel) (fun _ => ?_)
          refine ef_V (fun _ => [some (.ref 127), some (.int p0), none, some (.int x5), some (.int q13), none]) (fun _ => []) (fun s34 => eh_FW s34) (fun s34 => ?_)
          refine es_blk (pc' := 431) (L' := [some (.ref 127), some (.int p0), none, some (.int x5), some (.int q13), none]) (st' := [.ref 127]) [(.aload_n 0, 0)] (by decide +kernel) rfl rfl ?_
          refine ef_getP (k := 127) (j := 27) (q := 152) rfl eL_12_85 rfl rfl rfl (by decide +kernel) ?_
          refine es_blk (pc' := 436) (L' := [some (.ref 127), some (.int p0), none, some (.int x5), some (.int q13), none]) (st' := [.int 0, .int x5, .ref 152]) [(.iload_n 3, 0), (.iconst 0, 0)] (by decide +kernel) rfl rfl ?_
          refine ef_ast (k := 152) rfl (by decide +kernel) (fun _ => ?_)
          refine ef_V (fun _ => [some (.ref 127), some (.int p0), none, some (.int x5), some (.int q13), none]) (fun _ => []) (fun s35 => eh_FW s35) (fun s35 => ?_)
          refine es_goto (tgt := 463) (off := (26)) (by decide +kernel) (by decide) ?_
          refine ef_drop (L2 := [none, none, none, none, none, none]) [false, false, true, false, false, true] rfl rfl ?_
          exact Hj18 _
        refine es_ine (tgt := 244) (off := (24)) (by decide +kernel) (by decide) (fun h36 => ?_) (fun h36 => ?_)
        · refine es_blk (pc' := 226) (L' := [some (.ref 127), some (.int p0), none, some (.int x5), some (.int q13), some (.int q15.1)]) (st' := [.ref 127, .int p0, .ref 127]) [(.aload_n 0, 0), (.iload_n 1, 0), (.aload_n 0, 0)] (by decide +kernel) rfl rfl ?_
          refine ef_getP (k := 127) (j := 0) (q := 128) rfl eL_12_10 rfl rfl rfl (by decide +kernel) ?_
          refine es_blk (pc' := 231) (L' := [some (.ref 127), some (.int p0), none, some (.int x5), some (.int q13), some (.int q15.1)]) (st' := [.int q15.1, .ref 128, .int p0, .ref 127]) [(.iload 5, 0)] (by decide +kernel) rfl rfl ?_
          refine ef_spI (d := 1) (As := [.ref 128, .int q15.1]) (st := [.int p0, .ref 127]) eV_12_littleWord eK_12_368 (eS_12_littleWord g q15.2 128 131072 q15.1 rfl) rfl (Nat.le_of_ble_eq_true rfl) rfl (Nat.le_of_ble_eq_true rfl) ⟨Nat.le_of_ble_eq_true rfl, Nat.le_of_ble_eq_true rfl⟩ ⟨Nat.le_refl _, Nat.le_refl _⟩ (by decide +kernel) (fun q37 _ => ?_)
          refine es_blk (pc' := 235) (L' := [some (.ref 127), some (.int p0), none, some (.int x5), some (.int q13), some (.int q15.1)]) (st' := [.ref 127, .int q37, .int p0, .ref 127]) [(.aload_n 0, 0)] (by decide +kernel) rfl rfl ?_
          refine ef_getP (k := 127) (j := 2) (q := 130) rfl eL_12_18 rfl rfl rfl (by decide +kernel) ?_
          refine es_blk (pc' := 240) (L' := [some (.ref 127), some (.int p0), none, some (.int x5), some (.int q13), some (.int q15.1)]) (st' := [.int q13, .ref 130, .int q37, .int p0, .ref 127]) [(.iload 4, 0)] (by decide +kernel) rfl rfl ?_
          refine ef_ald (k := 130) rfl (Or.inl ⟨rfl, rfl⟩) (by decide +kernel) (fun _ => ?_)
          refine ef_veV (d := 12) (k := 127) (As := [.int p0, .int q37, .int (q15.2.1 130 (eh_ix q13))]) (st := []) eV_12_execute eK_12_420 (eS_12_execute g q15.2 p0 q37 (q15.2.1 130 (eh_ix q13))) rfl rfl (Nat.le_of_ble_eq_true rfl) rfl (Nat.le_of_ble_eq_true rfl) ⟨Nat.le_of_ble_eq_true rfl, Nat.le_of_ble_eq_true rfl⟩ ⟨Nat.le_refl _, Nat.le_refl _⟩ (by decide +kernel) (fun q38 _ => ?_)
          refine ef_drop (L2 := [some (.ref 127), some (.int p0), none, some (.int x5), some (.int q13), none]) [true, true, true, true, true, false] rfl rfl ?_
          exact Hj16 _
        refine ef_drop (L2 := [some (.ref 127), some (.int p0), none, some (.int x5), some (.int q13), none]) [true, true, true, true, true, false] rfl rfl ?_
        exact Hj16 _
      refine es_ieq (tgt := 159) (off := (36)) (by decide +kernel) (by decide) (fun h39 => ?_) (fun h39 => ?_)
      · exact Hj8 ()
      refine es_blk (pc' := 127) (L' := [some (.ref 127), some (.int p0), none, some (.int x5), none, none]) (st' := [.ref 127]) [(.aload_n 0, 0)] (by decide +kernel) rfl rfl ?_
      refine ef_getP (k := 127) (j := 17) (q := 145) rfl eL_12_64 rfl rfl rfl (by decide +kernel) ?_
      refine es_blk (pc' := 131) (L' := [some (.ref 127), some (.int p0), none, some (.int x5), none, none]) (st' := [.int p0, .ref 145]) [(.iload_n 1, 0)] (by decide +kernel) rfl rfl ?_
      refine ef_ald (k := 145) rfl (Or.inl ⟨rfl, rfl⟩) (by decide +kernel) (fun _ => ?_)
      refine es_le (tgt := 159) (off := (27)) (by decide +kernel) (by decide) (fun h40 => ?_) (fun h40 => ?_)
      · refine es_blk (pc' := 136) (L' := [some (.ref 127), some (.int p0), none, some (.int x5), none, none]) (st' := [.ref 127]) [(.aload_n 0, 0)] (by decide +kernel) rfl rfl ?_
        refine ef_getP (k := 127) (j := 18) (q := 146) rfl eL_12_67 rfl rfl rfl (by decide +kernel) ?_
        refine es_blk (pc' := 140) (L' := [some (.ref 127), some (.int p0), none, some (.int x5), none, none]) (st' := [.int p0, .ref 146]) [(.iload_n 1, 0)] (by decide +kernel) rfl rfl ?_
        refine ef_ald (k := 146) rfl (Or.inl ⟨rfl, rfl⟩) (by decide +kernel) (fun _ => ?_)
        refine es_blk (pc' := 142) (L' := [some (.ref 127), some (.int p0), none, some (.int x5), none, none]) (st' := [.ref 127, .int (s4.1 146 (eh_ix p0))]) [(.aload_n 0, 0)] (by decide +kernel) rfl rfl ?_
        refine ef_getP (k := 127) (j := 17) (q := 145) rfl eL_12_64 rfl rfl rfl (by decide +kernel) ?_
        refine es_blk (pc' := 146) (L' := [some (.ref 127), some (.int p0), none, some (.int x5), none, none]) (st' := [.int p0, .ref 145, .int (s4.1 146 (eh_ix p0))]) [(.iload_n 1, 0)] (by decide +kernel) rfl rfl ?_
        refine ef_ald (k := 145) rfl (Or.inl ⟨rfl, rfl⟩) (by decide +kernel) (fun _ => ?_)
        refine es_ilt (tgt := 159) (off := (12)) (by decide +kernel) (by decide) (fun h41 => ?_) (fun h41 => ?_)
        · exact Hj8 ()
        refine es_blk (pc' := 155) (L' := [some (.ref 127), some (.int p0), none, some (.int x5), none, none]) (st' := [.int 0, .int 4, .int 3, .int p0, .ref 127]) [(.aload_n 0, 0), (.iload_n 1, 0), (.iconst 3, 3), (.iconst 4, 4), (.iconst 0, 0)] (by decide +kernel) rfl rfl ?_
        refine ef_veV (d := 1) (k := 127) (As := [.int p0, .int 3, .int 4, .int 0]) (st := []) eV_12_leave eK_12_407 (eS_12_leave g s4 p0 3 4 0) rfl rfl (Nat.le_of_ble_eq_true rfl) rfl (Nat.le_of_ble_eq_true rfl) ⟨Nat.le_of_ble_eq_true rfl, Nat.le_of_ble_eq_true rfl⟩ ⟨Nat.le_refl _, Nat.le_refl _⟩ (by decide +kernel) (fun q42 _ => ?_)
        exact es_ret rfl rfl rfl ⟨by decide +kernel, rfl⟩ (Nat.le_refl _) (Nat.le_refl _)
      exact Hj8 ()
    refine es_eq (tgt := 121) (off := (79)) (by decide +kernel) (by decide) (fun h43 => ?_) (fun h43 => ?_)
    · refine ef_drop (L2 := [some (.ref 127), some (.int p0), none, some (.int x5), none, none]) [true, true, false, true, true, true] rfl rfl ?_
      exact Hj6 ()
    refine es_blk (pc' := 47) (L' := [some (.ref 127), some (.int p0), some (.int x2), some (.int x5), none, none]) (st' := [.int (-1), .int x5]) [(.iload_n 3, 0), (.iconst (-1), (-1))] (by decide +kernel) rfl rfl ?_
    refine ef_J (X := fun j44 => ∀ (u45 : Unit), eh_Sim g eM_12_step (eh_R 13 0 0) eh_eV 0 0 70 [some (.ref 127), some (.int p0), some (.int x2), some (.int x5), none, none] [] (eh_FW s4) ((j44 u45).bind some)) ?_ (fun j44 Hj44 => ?_)
    · intro u45
      refine es_blk (pc' := 72) (L' := [some (.ref 127), some (.int p0), some (.int x2), some (.int x5), none, none]) (st' := [.int (-1), .int x5]) [(.iload_n 3, 0), (.iconst (-1), (-1))] (by decide +kernel) rfl rfl ?_
      refine ef_J (X := fun j46 => ∀ (s47 : eh_F), eh_Sim g eM_12_step (eh_R 13 0 0) eh_eV 0 0 120 [none, none, none, none, none, none] [] (eh_FW s47) ((j46 s47).bind some)) ?_ (fun j46 Hj46 => ?_)
      · intro s47
        exact es_ret rfl rfl rfl ⟨by decide +kernel, rfl⟩ (Nat.le_refl _) (Nat.le_refl _)
      refine es_ieq (tgt := 86) (off := (14)) (by decide +kernel) (by decide) (fun h48 => ?_) (fun h48 => ?_)
      · refine es_blk (pc' := 93) (L' := [some (.ref 127), some (.int p0), some (.int x2), some (.int x5), none, none]) (st' := [.int (x2 &&& 512), .int p0, .ref 127]) [(.aload_n 0, 0), (.iload_n 1, 0), (.iload_n 2, 0), (.sipush 512, 512), (.iand, 0)] (by decide +kernel) rfl rfl ?_
        refine ef_J (X := fun j49 => ∀ (a50 : Int32), eh_Sim g eM_12_step (eh_R 13 0 0) eh_eV 0 0 112 [none, none, none, none, none, none] [.int a50, .int p0, .ref 127] (eh_FW s4) ((j49 a50).bind some)) ?_ (fun j49 Hj49 => ?_)
        · intro a50
          refine es_ldcw (v := (-2147483648)) eC_12_410 (by decide +kernel) ?_
          refine es_blk (pc' := 117) (L' := [none, none, none, none, none, none]) (st' := [.int 0, .int (a50 ||| (-2147483648)), .int p0, .ref 127]) [(.ior, 0), (.iconst 0, 0)] (by decide +kernel) rfl rfl ?_
          refine ef_veV (d := 1) (k := 127) (As := [.int p0, .int (a50 ||| (-2147483648)), .int 0]) (st := []) eV_12_trap eK_12_411 (eS_12_trap g s4 p0 (a50 ||| (-2147483648)) 0) rfl rfl (Nat.le_of_ble_eq_true rfl) rfl (Nat.le_of_ble_eq_true rfl) ⟨Nat.le_of_ble_eq_true rfl, Nat.le_of_ble_eq_true rfl⟩ ⟨Nat.le_refl _, Nat.le_refl _⟩ (by decide +kernel) (fun q51 _ => ?_)
          exact Hj46 _
        refine es_eq (tgt := 101) (off := (8)) (by decide +kernel) (by decide) (fun h52 => ?_) (fun h52 => ?_)
        · refine es_blk (pc' := 104) (L' := [some (.ref 127), some (.int p0), some (.int x2), some (.int x5), none, none]) (st' := [.int (x2 &&& 2), .int p0, .ref 127]) [(.iload_n 2, 0), (.iconst 2, 2), (.iand, 0)] (by decide +kernel) rfl rfl ?_
          refine es_eq (tgt := 111) (off := (7)) (by decide +kernel) (by decide) (fun h53 => ?_) (fun h53 => ?_)
          · refine es_blk (pc' := 112) (L' := [some (.ref 127), some (.int p0), some (.int x2), some (.int x5), none, none]) (st' := [.int 5, .int p0, .ref 127]) [(.iconst 5, 5)] (by decide +kernel) rfl rfl ?_
            refine ef_drop (L2 := [none, none, none, none, none, none]) [false, false, false, false, true, true] rfl rfl ?_
            exact Hj49 _
          refine es_blk (pc' := 108) (L' := [some (.ref 127), some (.int p0), some (.int x2), some (.int x5), none, none]) (st' := [.int 1, .int p0, .ref 127]) [(.iconst 1, 1)] (by decide +kernel) rfl rfl ?_
          refine es_goto (tgt := 112) (off := (4)) (by decide +kernel) (by decide) ?_
          refine ef_drop (L2 := [none, none, none, none, none, none]) [false, false, false, false, true, true] rfl rfl ?_
          exact Hj49 _
        refine es_blk (pc' := 98) (L' := [some (.ref 127), some (.int p0), some (.int x2), some (.int x5), none, none]) (st' := [.int 9, .int p0, .ref 127]) [(.bipush 9, 9)] (by decide +kernel) rfl rfl ?_
        refine es_goto (tgt := 112) (off := (14)) (by decide +kernel) (by decide) ?_
        refine ef_drop (L2 := [none, none, none, none, none, none]) [false, false, false, false, true, true] rfl rfl ?_
        exact Hj49 _
      refine es_blk (pc' := 80) (L' := [some (.ref 127), some (.int p0), some (.int x2), some (.int x5), none, none]) (st' := [.int 0, .int 2, .int 3, .int p0, .ref 127]) [(.aload_n 0, 0), (.iload_n 1, 0), (.iconst 3, 3), (.iconst 2, 2), (.iconst 0, 0)] (by decide +kernel) rfl rfl ?_
      refine ef_veV (d := 1) (k := 127) (As := [.int p0, .int 3, .int 2, .int 0]) (st := []) eV_12_leave eK_12_407 (eS_12_leave g s4 p0 3 2 0) rfl rfl (Nat.le_of_ble_eq_true rfl) rfl (Nat.le_of_ble_eq_true rfl) ⟨Nat.le_of_ble_eq_true rfl, Nat.le_of_ble_eq_true rfl⟩ ⟨Nat.le_refl _, Nat.le_refl _⟩ (by decide +kernel) (fun q54 _ => ?_)
      refine es_goto (tgt := 120) (off := (37)) (by decide +kernel) (by decide) ?_
      refine ef_drop (L2 := [none, none, none, none, none, none]) [false, false, false, false, true, true] rfl rfl ?_
      exact Hj46 _
    refine es_ine (tgt := 70) (off := (23)) (by decide +kernel) (by decide) (fun h55 => ?_) (fun h55 => ?_)
    · refine es_blk (pc' := 51) (L' := [some (.ref 127), some (.int p0), some (.int x2), some (.int x5), none, none]) (st' := [.ref 127]) [(.aload_n 0, 0)] (by decide +kernel) rfl rfl ?_
      refine ef_getP (k := 127) (j := 3) (q := 131) rfl eL_12_21 rfl rfl rfl (by decide +kernel) ?_
      refine es_blk (pc' := 55) (L' := [some (.ref 127), some (.int p0), some (.int x2), some (.int x5), none, none]) (st' := [.int p0, .ref 131]) [(.iload_n 1, 0)] (by decide +kernel) rfl rfl ?_
      refine ef_ald (k := 131) rfl (Or.inl ⟨rfl, rfl⟩) (by decide +kernel) (fun _ => ?_)
      refine es_eq (tgt := 70) (off := (14)) (by decide +kernel) (by decide) (fun h56 => ?_) (fun h56 => ?_)
      · exact Hj44 ()
      refine es_blk (pc' := 60) (L' := [some (.ref 127), some (.int p0), some (.int x2), some (.int x5), none, none]) (st' := [.ref 127]) [(.aload_n 0, 0)] (by decide +kernel) rfl rfl ?_
      refine ef_getP (k := 127) (j := 5) (q := 133) rfl eL_12_28 rfl rfl rfl (by decide +kernel) ?_
      refine es_blk (pc' := 64) (L' := [some (.ref 127), some (.int p0), some (.int x2), some (.int x5), none, none]) (st' := [.int p0, .ref 133]) [(.iload_n 1, 0)] (by decide +kernel) rfl rfl ?_
      refine ef_ald (k := 133) rfl (Or.inl ⟨rfl, rfl⟩) (by decide +kernel) (fun _ => ?_)
      refine es_blk (pc' := 67) (L' := [some (.ref 127), some (.int p0), some (.int x2), some (.int x5), none, none]) (st' := [.int ((s4.1 133 (eh_ix p0)) &&& 2)]) [(.iconst 2, 2), (.iand, 0)] (by decide +kernel) rfl rfl ?_
      refine es_eq (tgt := 121) (off := (54)) (by decide +kernel) (by decide) (fun h57 => ?_) (fun h57 => ?_)
      · refine ef_drop (L2 := [some (.ref 127), some (.int p0), none, some (.int x5), none, none]) [true, true, false, true, true, true] rfl rfl ?_
        exact Hj6 ()
      exact Hj44 ()
    exact Hj44 ()
  refine es_eq (tgt := 34) (off := (15)) (by decide +kernel) (by decide) (fun h58 => ?_) (fun h58 => ?_)
  · exact Hj3 _
  refine es_blk (pc' := 23) (L' := [some (.ref 127), some (.int p0), some (.int x2), none, none, none]) (st' := [.int x2]) [(.iload_n 2, 0)] (by decide +kernel) rfl rfl ?_
  refine es_ne (tgt := 27) (off := (4)) (by decide +kernel) (by decide) (fun h59 => ?_) (fun h59 => ?_)
  · exact es_ret rfl rfl rfl ⟨by decide +kernel, rfl⟩ (Nat.le_refl _) (Nat.le_refl _)
  refine es_blk (pc' := 28) (L' := [some (.ref 127), some (.int p0), some (.int x2), none, none, none]) (st' := [.ref 127]) [(.aload_n 0, 0)] (by decide +kernel) rfl rfl ?_
  refine ef_getP (k := 127) (j := 4) (q := 132) rfl eL_12_24 rfl rfl rfl (by decide +kernel) ?_
  refine es_blk (pc' := 33) (L' := [some (.ref 127), some (.int p0), some (.int x2), none, none, none]) (st' := [.int 0, .int p0, .ref 132]) [(.iload_n 1, 0), (.iconst 0, 0)] (by decide +kernel) rfl rfl ?_
  refine ef_astZ (k := 132) rfl (by decide +kernel) (fun _ => ?_)
  refine ef_V (fun _ => [some (.ref 127), some (.int p0), some (.int x2), none, none, none]) (fun _ => []) (fun s60 => eh_FW s60) (fun s60 => ?_)
  exact Hj3 _
def eF_12_run_2 (s : eh_F) (p0 : Int32) : Option (Int32 × eh_F) := eh_J (fun (u2 : Unit) => some ((-1), s)) (fun j1 => if p0 < 0 then (j1 ()) else (if 2000 < p0 then (j1 ()) else (Option.bind (eh_loop (fun (r8 : (Int32 × eh_F) → Option (Int32 × eh_F)) (t5 : Int32 × eh_F) => if t5.1 < p0 then (if (t5.2.1 127 21) = 0 then (eh_V ((t5.1 + 1) : Int32) (fun x11 => Option.bind (eF_12_step t5.2 0) (fun q12 => eh_J (fun (s14 : eh_F) => if (s14.1 127 21) = 0 then (Option.bind (eF_12_device s14) (fun q16 => eh_V (eh_tI q16 127 20 ((q16.1 127 20) + 1)) (fun s17 => r8 (x11, s17)))) else (r8 (x11, s14))) (fun j13 => if (q12.1 127 21) = 0 then (Option.bind (eF_12_step q12 1) (fun q19 => j13 q19)) else (j13 q12))))) else (some (t5.1, t5.2))) else (some (t5.1, t5.2))) eh_FU (0, s)) (fun (e6 : Int32 × eh_F) => some (e6.1, e6.2)))))
set_option maxHeartbeats 4000000 in
set_option maxRecDepth 100000 in
theorem eS_12_run_2 (g : eh_P) (s : eh_F) (p0 : Int32) : eh_Sim g eM_12_run_2 (eh_R 14 0 0) eh_eI 0 0 0 (eh_en 3 [.ref 127, .int p0]) [] (eh_FW s) (eF_12_run_2 s p0) := by
  unfold eF_12_run_2
  refine ef_top (L := [some (.ref 127), some (.int p0), none]) rfl ?_
  refine es_blk (pc' := 1) (L' := [some (.ref 127), some (.int p0), none]) (st' := [.int p0]) [(.iload_n 1, 0)] (by decide +kernel) rfl rfl ?_
  refine ef_J (X := fun j1 => ∀ (u2 : Unit), eh_Sim g eM_12_run_2 (eh_R 14 0 0) eh_eI 0 0 11 [none, none, none] [] (eh_FW s) ((j1 u2).bind some)) ?_ (fun j1 Hj1 => ?_)
  · intro u2
    refine es_blk (pc' := 12) (L' := [none, none, none]) (st' := [.int (-1)]) [(.iconst (-1), (-1))] (by decide +kernel) rfl rfl ?_
    exact es_ret rfl rfl rfl ⟨by decide +kernel, _, rfl, rfl⟩ (Nat.le_refl _) (Nat.le_refl _)
  refine es_lt (tgt := 11) (off := (10)) (by decide +kernel) (by decide) (fun h3 => ?_) (fun h3 => ?_)
  · refine ef_drop (L2 := [none, none, none]) [false, false, true] rfl rfl ?_
    exact Hj1 ()
  refine es_blk (pc' := 8) (L' := [some (.ref 127), some (.int p0), none]) (st' := [.int 2000, .int p0]) [(.iload_n 1, 0), (.sipush 2000, 2000)] (by decide +kernel) rfl rfl ?_
  refine es_ile (tgt := 13) (off := (5)) (by decide +kernel) (by decide) (fun h4 => ?_) (fun h4 => ?_)
  · refine ef_drop (L2 := [none, none, none]) [false, false, true] rfl rfl ?_
    exact Hj1 ()
  refine es_blk (pc' := 15) (L' := [some (.ref 127), some (.int p0), some (.int 0)]) (st' := []) [(.iconst 0, 0), (.istore_n 2, 0)] (by decide +kernel) rfl rfl ?_
  refine ef_loop1 (n := eh_FU) (i := (0, s)) (px := 71) (fun (t5 : Int32 × eh_F) => [some (.ref 127), some (.int p0), some (.int t5.1)]) (fun (t5 : Int32 × eh_F) => []) (fun (t5 : Int32 × eh_F) => eh_FW t5.2) (fun (e6 : Int32 × eh_F) => [none, none, some (.int e6.1)]) (fun (e6 : Int32 × eh_F) => []) (fun (e6 : Int32 × eh_F) => eh_FW e6.2) (fun e6 => ?_) (fun K7 HxK7_0 r8 Hr8 t5 => ?_)
  · refine es_blk (pc' := 72) (L' := [none, none, some (.int e6.1)]) (st' := [.int e6.1]) [(.iload_n 2, 0)] (by decide +kernel) rfl rfl ?_
    exact es_ret rfl rfl rfl ⟨by decide +kernel, _, rfl, rfl⟩ (Nat.le_refl _) (Nat.le_refl _)
  · refine es_blk (pc' := 17) (L' := [some (.ref 127), some (.int p0), some (.int t5.1)]) (st' := [.int p0, .int t5.1]) [(.iload_n 2, 0), (.iload_n 1, 0)] (by decide +kernel) rfl rfl ?_
    refine es_ige (tgt := 71) (off := (54)) (by decide +kernel) (by decide) (fun h9 => ?_) (fun h9 => ?_)
    · refine es_blk (pc' := 21) (L' := [some (.ref 127), some (.int p0), some (.int t5.1)]) (st' := [.ref 127]) [(.aload_n 0, 0)] (by decide +kernel) rfl rfl ?_
      refine ef_getI (k := 127) (j := 21) rfl eL_12_283 (by decide) (by decide +kernel) ?_
      refine es_ne (tgt := 71) (off := (47)) (by decide +kernel) (by decide) (fun h10 => ?_) (fun h10 => ?_)
      · refine es_blk (pc' := 30) (L' := [some (.ref 127), some (.int p0), some (.int (t5.1 + 1))]) (st' := []) [(.iinc 2 1, 1)] (by decide +kernel) rfl rfl ?_
        refine ef_V (fun x11 => [some (.ref 127), some (.int p0), some (.int x11)]) (fun _ => []) (fun _ => eh_FW t5.2) (fun x11 => ?_)
        refine es_blk (pc' := 32) (L' := [some (.ref 127), some (.int p0), some (.int x11)]) (st' := [.int 0, .ref 127]) [(.aload_n 0, 0), (.iconst 0, 0)] (by decide +kernel) rfl rfl ?_
        refine ef_veV (d := 13) (k := 127) (As := [.int 0]) (st := []) eV_12_step eK_12_620 (eS_12_step g t5.2 0) rfl rfl (Nat.le_of_ble_eq_true rfl) rfl (Nat.le_of_ble_eq_true rfl) ⟨Nat.le_of_ble_eq_true rfl, Nat.le_of_ble_eq_true rfl⟩ ⟨Nat.le_refl _, Nat.le_refl _⟩ (by decide +kernel) (fun q12 _ => ?_)
        refine es_blk (pc' := 36) (L' := [some (.ref 127), some (.int p0), some (.int x11)]) (st' := [.ref 127]) [(.aload_n 0, 0)] (by decide +kernel) rfl rfl ?_
        refine ef_getI (k := 127) (j := 21) rfl eL_12_283 (by decide) (by decide +kernel) ?_
        refine ef_J (X := fun j13 => ∀ (s14 : eh_F), eh_Sim g eM_12_run_2 (eh_R 14 0 0) eh_eI 0 0 47 [some (.ref 127), some (.int p0), some (.int x11)] [] (eh_FW s14) ((j13 s14).bind K7)) ?_ (fun j13 Hj13 => ?_)
        · intro s14
          refine es_blk (pc' := 48) (L' := [some (.ref 127), some (.int p0), some (.int x11)]) (st' := [.ref 127]) [(.aload_n 0, 0)] (by decide +kernel) rfl rfl ?_
          refine ef_getI (k := 127) (j := 21) rfl eL_12_283 (by decide) (by decide +kernel) ?_
          refine es_ne (tgt := 15) (off := (-36)) (by decide +kernel) (by decide) (fun h15 => ?_) (fun h15 => ?_)
          · refine es_blk (pc' := 55) (L' := [some (.ref 127), some (.int p0), some (.int x11)]) (st' := [.ref 127]) [(.aload_n 0, 0)] (by decide +kernel) rfl rfl ?_
            refine ef_veV (d := 2) (k := 127) (As := []) (st := []) eV_12_device eK_12_623 (eS_12_device g s14) rfl rfl (Nat.le_of_ble_eq_true rfl) rfl (Nat.le_of_ble_eq_true rfl) ⟨Nat.le_of_ble_eq_true rfl, Nat.le_of_ble_eq_true rfl⟩ ⟨Nat.le_refl _, Nat.le_refl _⟩ (by decide +kernel) (fun q16 _ => ?_)
            refine es_blk (pc' := 60) (L' := [some (.ref 127), some (.int p0), some (.int x11)]) (st' := [.ref 127, .ref 127]) [(.aload_n 0, 0), (.dup, 0)] (by decide +kernel) rfl rfl ?_
            refine ef_getI (k := 127) (j := 20) rfl eL_12_280 (by decide) (by decide +kernel) ?_
            refine es_blk (pc' := 65) (L' := [some (.ref 127), some (.int p0), some (.int x11)]) (st' := [.int ((q16.1 127 20) + 1), .ref 127]) [(.iconst 1, 1), (.iadd, 0)] (by decide +kernel) rfl rfl ?_
            refine ef_putI (k := 127) (j := 20) rfl eL_12_280 rfl rfl (by decide +kernel) ?_
            refine ef_V (fun _ => [some (.ref 127), some (.int p0), some (.int x11)]) (fun _ => []) (fun s17 => eh_FW s17) (fun s17 => ?_)
            refine es_goto (tgt := 15) (off := (-53)) (by decide +kernel) (by decide) ?_
            exact Hr8 (x11, s17)
          exact Hr8 (x11, s14)
        refine es_ne (tgt := 47) (off := (8)) (by decide +kernel) (by decide) (fun h18 => ?_) (fun h18 => ?_)
        · refine es_blk (pc' := 44) (L' := [some (.ref 127), some (.int p0), some (.int x11)]) (st' := [.int 1, .ref 127]) [(.aload_n 0, 0), (.iconst 1, 1)] (by decide +kernel) rfl rfl ?_
          refine ef_veV (d := 13) (k := 127) (As := [.int 1]) (st := []) eV_12_step eK_12_620 (eS_12_step g q12 1) rfl rfl (Nat.le_of_ble_eq_true rfl) rfl (Nat.le_of_ble_eq_true rfl) ⟨Nat.le_of_ble_eq_true rfl, Nat.le_of_ble_eq_true rfl⟩ ⟨Nat.le_refl _, Nat.le_refl _⟩ (by decide +kernel) (fun q19 _ => ?_)
          exact Hj13 _
        exact Hj13 _
      refine ef_drop (L2 := [none, none, some (.int t5.1)]) [false, false, true] rfl rfl ?_
      exact HxK7_0 (t5.1, t5.2)
    refine ef_drop (L2 := [none, none, some (.int t5.1)]) [false, false, true] rfl rfl ?_
    exact HxK7_0 (t5.1, t5.2)
