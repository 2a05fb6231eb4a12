def eF_12_walk (s : eh_F) (p0 : Int32) (p1 : Int32) (p2 : Int32) : Option (Int64 × eh_F) := if eh_in p0 2 then eh_V ((((((s.1 142 (eh_ix p0)).toInt64) &&& 4194303) * 4096) + (4 * ((eh_ushr p1 22).toInt64))) : Int64) (fun x1 => Option.bind (eh_loop (fun (r22 : (Int64 × Int32 × eh_F) → Option ((eh_F) ⊕ (eh_F) ⊕ (eh_F) ⊕ (Int32 × Int32 × eh_F))) (t2 : Int64 × Int32 × eh_F) => if t2.2.1 < 2 then (if (1 : Int32) = 0 then (some (.inl t2.2.2)) else (Option.bind (eF_12_isLet t2.2.2 p0 t2.1 4 1) (fun q25 => if q25.1 = 0 then (some (.inr (.inl q25.2))) else (Option.bind (eF_12_littleWord q25.2 128 131072 (t2.1.toInt32)) (fun q27 => if (q27 &&& 1) = 0 then (some (.inr (.inr (.inl q25.2)))) else (eh_J (fun (u30 : Unit) => eh_J (fun (u32 : Unit) => if (q27 &&& 14) = 0 then (eh_V (((((eh_ushr q27 10).toInt64) * 4096) + (4 * (((eh_ushr p1 12) &&& 1023).toInt64))) : Int64) (fun x34 => eh_V ((t2.2.1 + 1) : Int32) (fun x35 => r22 (x34, x35, q25.2)))) else (some (.inr (.inr (.inr (q27, t2.2.1, q25.2)))))) (fun j31 => if t2.2.1 = 1 then (if (q27 &&& 14) = 0 then (some (.inr (.inr (.inl q25.2)))) else (j31 ())) else (j31 ()))) (fun j29 => if (q27 &&& 2) = 0 then (if (q27 &&& 4) = 0 then (j29 ()) else (some (.inr (.inr (.inl q25.2))))) else (j29 ())))))))) else (some (.inl t2.2.2))) eh_FU (x1, 0, s)) (Sum.elim (fun (e3 : eh_F) => some (0, e3)) (Sum.elim (fun (e4 : eh_F) => Option.bind (eF_12_denied e4 p2) (fun q5 => Option.bind (eF_12_except e4 q5 p1) (fun q6 => some (0, q6)))) (Sum.elim (fun (e7 : eh_F) => Option.bind (eF_12_unpaged e7 p2) (fun q8 => Option.bind (eF_12_except e7 q8 p1) (fun q9 => some (0, q9)))) (fun (e10 : Int32 × Int32 × eh_F) => eh_J (fun (u12 : Unit) => eh_J (fun (a14 : Int32) => Option.bind (eF_12_allowed e10.2.2 p0 e10.1 p1 p2 a14) (fun q15 => some (q15.1, q15.2))) (fun j13 => if e10.2.1 = 0 then (j13 1) else (j13 0))) (fun j11 => if e10.2.1 = 0 then (if ((eh_ushr e10.1 10) &&& 1023) = 0 then (j11 ()) else (Option.bind (eF_12_unpaged e10.2.2 p2) (fun q19 => Option.bind (eF_12_except e10.2.2 q19 p1) (fun q20 => some (0, q20))))) else (j11 ()))))))) else none
set_option maxHeartbeats 4000000 in
set_option maxRecDepth 100000 in
theorem eS_12_walk (g : eh_P) (s : eh_F) (p0 : Int32) (p1 : Int32) (p2 : Int32) : eh_Sim g eM_12_walk (eh_R 4 0 0) eh_eL 0 0 0 (eh_en 9 [.ref 127, .int p0, .int p1, .int p2]) [] (eh_FW s) (eF_12_walk s p0 p1 p2) := by
  unfold eF_12_walk
  refine ef_top (L := [some (.ref 127), some (.int p0), some (.int p1), some (.int p2), none, none, none, none, none]) rfl ?_
  refine es_blk (pc' := 1) (L' := [some (.ref 127), some (.int p0), some (.int p1), some (.int p2), none, none, none, none, none]) (st' := [.ref 127]) [(.aload_n 0, 0)] (by decide +kernel) rfl rfl ?_
  refine ef_getP (k := 127) (j := 14) (q := 142) rfl eL_12_55 rfl rfl rfl (by decide +kernel) ?_
  refine es_blk (pc' := 5) (L' := [some (.ref 127), some (.int p0), some (.int p1), some (.int p2), none, none, none, none, none]) (st' := [.int p0, .ref 142]) [(.iload_n 1, 0)] (by decide +kernel) rfl rfl ?_
  refine ef_ald (k := 142) rfl (Or.inl ⟨rfl, rfl⟩) (by decide +kernel) (fun _ => ?_)
  refine es_blk (pc' := 7) (L' := [some (.ref 127), some (.int p0), some (.int p1), some (.int p2), none, none, none, none, none]) (st' := [.long ((s.1 142 (eh_ix p0)).toInt64)]) [(.i2l, 0)] (by decide +kernel) rfl rfl ?_
  refine es_ldc2 (v := 4194303) eC_12_362 (by decide +kernel) ?_
  refine es_blk (pc' := 11) (L' := [some (.ref 127), some (.int p0), some (.int p1), some (.int p2), none, none, none, none, none]) (st' := [.long (((s.1 142 (eh_ix p0)).toInt64) &&& 4194303)]) [(.land, 0)] (by decide +kernel) rfl rfl ?_
  refine es_ldc2 (v := 4096) eC_12_364 (by decide +kernel) ?_
  refine es_blk (pc' := 15) (L' := [some (.ref 127), some (.int p0), some (.int p1), some (.int p2), none, none, none, none, none]) (st' := [.long ((((s.1 142 (eh_ix p0)).toInt64) &&& 4194303) * 4096)]) [(.lmul, 0)] (by decide +kernel) rfl rfl ?_
  refine es_ldc2 (v := 4) eC_12_366 (by decide +kernel) ?_
  refine es_blk (pc' := 27) (L' := [some (.ref 127), some (.int p0), some (.int p1), some (.int p2), some (.long (((((s.1 142 (eh_ix p0)).toInt64) &&& 4194303) * 4096) + (4 * ((eh_ushr p1 22).toInt64)))), none, none, none, none]) (st' := []) [(.iload_n 2, 0), (.bipush 22, 22), (.iushr, 0), (.i2l, 0), (.lmul, 0), (.ladd, 0), (.lstore 4, 0)] (by decide +kernel) rfl rfl ?_
  refine ef_V (fun x1 => [some (.ref 127), some (.int p0), some (.int p1), some (.int p2), some (.long x1), none, none, none, none]) (fun _ => []) (fun _ => eh_FW s) (fun x1 => ?_)
  refine es_blk (pc' := 36) (L' := [some (.ref 127), some (.int p0), some (.int p1), some (.int p2), some (.long x1), none, some (.int 1), some (.int 0), some (.int 0)]) (st' := []) [(.iconst 1, 1), (.istore 6, 0), (.iconst 0, 0), (.istore 7, 0), (.iconst 0, 0), (.istore 8, 0)] (by decide +kernel) rfl rfl ?_
  refine ef_drop (L2 := [some (.ref 127), some (.int p0), some (.int p1), some (.int p2), some (.long x1), none, some (.int 1), none, some (.int 0)]) [true, true, true, true, true, true, true, false, true] rfl rfl ?_
  refine ef_loop4 (n := eh_FU) (i := (x1, 0, s)) (px := 216) (px2 := 59) (px3 := 117) (px4 := 136) (fun (t2 : Int64 × Int32 × eh_F) => [some (.ref 127), some (.int p0), some (.int p1), some (.int p2), some (.long t2.1), none, some (.int 1), none, some (.int t2.2.1)]) (fun (t2 : Int64 × Int32 × eh_F) => []) (fun (t2 : Int64 × Int32 × eh_F) => eh_FW t2.2.2) (fun (e3 : eh_F) => [none, none, none, none, none, none, none, none, none]) (fun (e3 : eh_F) => []) (fun (e3 : eh_F) => eh_FW e3) (fun (e4 : eh_F) => [some (.ref 127), none, some (.int p1), some (.int p2), none, none, none, none, none]) (fun (e4 : eh_F) => []) (fun (e4 : eh_F) => eh_FW e4) (fun (e7 : eh_F) => [some (.ref 127), none, some (.int p1), some (.int p2), none, none, none, none, none]) (fun (e7 : eh_F) => []) (fun (e7 : eh_F) => eh_FW e7) (fun (e10 : Int32 × Int32 × eh_F) => [some (.ref 127), some (.int p0), some (.int p1), some (.int p2), none, none, none, some (.int e10.1), some (.int e10.2.1)]) (fun (e10 : Int32 × Int32 × eh_F) => []) (fun (e10 : Int32 × Int32 × eh_F) => eh_FW e10.2.2) (fun e3 => ?_) (fun e4 => ?_) (fun e7 => ?_) (fun e10 => ?_) (fun K21 HxK21_0 HxK21_1 HxK21_2 HxK21_3 r22 Hr22 t2 => ?_)
  · refine es_blk (pc' := 217) (L' := [none, none, none, none, none, none, none, none, none]) (st' := [.long 0]) [(.lconst 0, 0)] (by decide +kernel) rfl rfl ?_
    exact es_ret rfl rfl rfl ⟨by decide +kernel, rfl⟩ (Nat.le_refl _) (Nat.le_refl _)
  · refine es_blk (pc' := 61) (L' := [some (.ref 127), none, some (.int p1), some (.int p2), none, none, none, none, none]) (st' := [.int p2, .ref 127]) [(.aload_n 0, 0), (.iload_n 3, 0)] (by decide +kernel) rfl rfl ?_
    refine ef_spI (d := 1) (As := [.int p2]) (st := [.ref 127]) eV_12_denied eK_12_356 (eS_12_denied g e4 p2) rfl (Nat.le_of_ble_eq_true rfl) rfl (Nat.le_of_ble_eq_true rfl) ⟨Nat.le_of_ble_eq_true rfl, Nat.le_of_ble_eq_true rfl⟩ ⟨Nat.le_refl _, Nat.le_refl _⟩ (by decide +kernel) (fun q5 _ => ?_)
    refine es_blk (pc' := 65) (L' := [some (.ref 127), none, some (.int p1), some (.int p2), none, none, none, none, none]) (st' := [.int p1, .int q5, .ref 127]) [(.iload_n 2, 0)] (by decide +kernel) rfl rfl ?_
    refine ef_veV (d := 1) (k := 127) (As := [.int q5, .int p1]) (st := []) eV_12_except eK_12_359 (eS_12_except g e4 q5 p1) rfl rfl (Nat.le_of_ble_eq_true rfl) rfl (Nat.le_of_ble_eq_true rfl) ⟨Nat.le_of_ble_eq_true rfl, Nat.le_of_ble_eq_true rfl⟩ ⟨Nat.le_refl _, Nat.le_refl _⟩ (by decide +kernel) (fun q6 _ => ?_)
    refine es_blk (pc' := 69) (L' := [some (.ref 127), none, some (.int p1), some (.int p2), none, none, none, none, none]) (st' := [.long 0]) [(.lconst 0, 0)] (by decide +kernel) rfl rfl ?_
    exact es_ret rfl rfl rfl ⟨by decide +kernel, rfl⟩ (Nat.le_refl _) (Nat.le_refl _)
  · refine es_blk (pc' := 119) (L' := [some (.ref 127), none, some (.int p1), some (.int p2), none, none, none, none, none]) (st' := [.int p2, .ref 127]) [(.aload_n 0, 0), (.iload_n 3, 0)] (by decide +kernel) rfl rfl ?_
    refine ef_spI (d := 1) (As := [.int p2]) (st := [.ref 127]) eV_12_unpaged eK_12_372 (eS_12_unpaged g e7 p2) rfl (Nat.le_of_ble_eq_true rfl) rfl (Nat.le_of_ble_eq_true rfl) ⟨Nat.le_of_ble_eq_true rfl, Nat.le_of_ble_eq_true rfl⟩ ⟨Nat.le_refl _, Nat.le_refl _⟩ (by decide +kernel) (fun q8 _ => ?_)
    refine es_blk (pc' := 123) (L' := [some (.ref 127), none, some (.int p1), some (.int p2), none, none, none, none, none]) (st' := [.int p1, .int q8, .ref 127]) [(.iload_n 2, 0)] (by decide +kernel) rfl rfl ?_
    refine ef_veV (d := 1) (k := 127) (As := [.int q8, .int p1]) (st := []) eV_12_except eK_12_359 (eS_12_except g e7 q8 p1) rfl rfl (Nat.le_of_ble_eq_true rfl) rfl (Nat.le_of_ble_eq_true rfl) ⟨Nat.le_of_ble_eq_true rfl, Nat.le_of_ble_eq_true rfl⟩ ⟨Nat.le_refl _, Nat.le_refl _⟩ (by decide +kernel) (fun q9 _ => ?_)
    refine es_blk (pc' := 127) (L' := [some (.ref 127), none, some (.int p1), some (.int p2), none, none, none, none, none]) (st' := [.long 0]) [(.lconst 0, 0)] (by decide +kernel) rfl rfl ?_
    exact es_ret rfl rfl rfl ⟨by decide +kernel, rfl⟩ (Nat.le_refl _) (Nat.le_refl _)
  · refine es_blk (pc' := 138) (L' := [some (.ref 127), some (.int p0), some (.int p1), some (.int p2), none, none, none, some (.int e10.1), some (.int e10.2.1)]) (st' := [.int e10.2.1]) [(.iload 8, 0)] (by decide +kernel) rfl rfl ?_
    refine ef_J (X := fun j11 => ∀ (u12 : Unit), eh_Sim g eM_12_walk (eh_R 4 0 0) eh_eL 0 0 164 [some (.ref 127), some (.int p0), some (.int p1), some (.int p2), none, none, none, some (.int e10.1), some (.int e10.2.1)] [] (eh_FW e10.2.2) ((j11 u12).bind some)) ?_ (fun j11 Hj11 => ?_)
    · intro u12
      refine es_blk (pc' := 172) (L' := [some (.ref 127), some (.int p0), some (.int p1), some (.int p2), none, none, none, some (.int e10.1), some (.int e10.2.1)]) (st' := [.int e10.2.1, .int p2, .int p1, .int e10.1, .int p0, .ref 127]) [(.aload_n 0, 0), (.iload_n 1, 0), (.iload 7, 0), (.iload_n 2, 0), (.iload_n 3, 0), (.iload 8, 0)] (by decide +kernel) rfl rfl ?_
      refine ef_J (X := fun j13 => ∀ (a14 : Int32), eh_Sim g eM_12_walk (eh_R 4 0 0) eh_eL 0 0 180 [none, none, none, none, none, none, none, none, none] [.int a14, .int p2, .int p1, .int e10.1, .int p0, .ref 127] (eh_FW e10.2.2) ((j13 a14).bind some)) ?_ (fun j13 Hj13 => ?_)
      · intro a14
        refine ef_veL (d := 2) (k := 127) (As := [.int p0, .int e10.1, .int p1, .int p2, .int a14]) (st := []) eV_12_allowed eK_12_375 (eS_12_allowed g e10.2.2 p0 e10.1 p1 p2 a14) rfl rfl (Nat.le_of_ble_eq_true rfl) rfl (Nat.le_of_ble_eq_true rfl) ⟨Nat.le_of_ble_eq_true rfl, Nat.le_of_ble_eq_true rfl⟩ ⟨Nat.le_refl _, Nat.le_refl _⟩ (by decide +kernel) (fun q15 _ => ?_)
        exact es_ret rfl rfl rfl ⟨by decide +kernel, rfl⟩ (Nat.le_refl _) (Nat.le_refl _)
      refine es_ne (tgt := 179) (off := (7)) (by decide +kernel) (by decide) (fun h16 => ?_) (fun h16 => ?_)
      · refine es_blk (pc' := 176) (L' := [some (.ref 127), some (.int p0), some (.int p1), some (.int p2), none, none, none, some (.int e10.1), some (.int e10.2.1)]) (st' := [.int 1, .int p2, .int p1, .int e10.1, .int p0, .ref 127]) [(.iconst 1, 1)] (by decide +kernel) rfl rfl ?_
        refine es_goto (tgt := 180) (off := (4)) (by decide +kernel) (by decide) ?_
        refine ef_drop (L2 := [none, none, none, none, none, none, none, none, none]) [false, false, false, false, true, true, true, false, false] rfl rfl ?_
        exact Hj13 _
      refine es_blk (pc' := 180) (L' := [some (.ref 127), some (.int p0), some (.int p1), some (.int p2), none, none, none, some (.int e10.1), some (.int e10.2.1)]) (st' := [.int 0, .int p2, .int p1, .int e10.1, .int p0, .ref 127]) [(.iconst 0, 0)] (by decide +kernel) rfl rfl ?_
      refine ef_drop (L2 := [none, none, none, none, none, none, none, none, none]) [false, false, false, false, true, true, true, false, false] rfl rfl ?_
      exact Hj13 _
    refine es_ne (tgt := 164) (off := (26)) (by decide +kernel) (by decide) (fun h17 => ?_) (fun h17 => ?_)
    · refine es_blk (pc' := 150) (L' := [some (.ref 127), some (.int p0), some (.int p1), some (.int p2), none, none, none, some (.int e10.1), some (.int e10.2.1)]) (st' := [.int ((eh_ushr e10.1 10) &&& 1023)]) [(.iload 7, 0), (.bipush 10, 10), (.iushr, 0), (.sipush 1023, 1023), (.iand, 0)] (by decide +kernel) rfl rfl ?_
      refine es_eq (tgt := 164) (off := (14)) (by decide +kernel) (by decide) (fun h18 => ?_) (fun h18 => ?_)
      · exact Hj11 ()
      refine es_blk (pc' := 155) (L' := [some (.ref 127), some (.int p0), some (.int p1), some (.int p2), none, none, none, some (.int e10.1), some (.int e10.2.1)]) (st' := [.int p2, .ref 127]) [(.aload_n 0, 0), (.iload_n 3, 0)] (by decide +kernel) rfl rfl ?_
      refine ef_spI (d := 1) (As := [.int p2]) (st := [.ref 127]) eV_12_unpaged eK_12_372 (eS_12_unpaged g e10.2.2 p2) rfl (Nat.le_of_ble_eq_true rfl) rfl (Nat.le_of_ble_eq_true rfl) ⟨Nat.le_of_ble_eq_true rfl, Nat.le_of_ble_eq_true rfl⟩ ⟨Nat.le_refl _, Nat.le_refl _⟩ (by decide +kernel) (fun q19 _ => ?_)
      refine es_blk (pc' := 159) (L' := [some (.ref 127), some (.int p0), some (.int p1), some (.int p2), none, none, none, some (.int e10.1), some (.int e10.2.1)]) (st' := [.int p1, .int q19, .ref 127]) [(.iload_n 2, 0)] (by decide +kernel) rfl rfl ?_
      refine ef_veV (d := 1) (k := 127) (As := [.int q19, .int p1]) (st := []) eV_12_except eK_12_359 (eS_12_except g e10.2.2 q19 p1) rfl rfl (Nat.le_of_ble_eq_true rfl) rfl (Nat.le_of_ble_eq_true rfl) ⟨Nat.le_of_ble_eq_true rfl, Nat.le_of_ble_eq_true rfl⟩ ⟨Nat.le_refl _, Nat.le_refl _⟩ (by decide +kernel) (fun q20 _ => ?_)
      refine es_blk (pc' := 163) (L' := [some (.ref 127), some (.int p0), some (.int p1), some (.int p2), none, none, none, some (.int e10.1), some (.int e10.2.1)]) (st' := [.long 0]) [(.lconst 0, 0)] (by decide +kernel) rfl rfl ?_
      exact es_ret rfl rfl rfl ⟨by decide +kernel, rfl⟩ (Nat.le_refl _) (Nat.le_refl _)
    exact Hj11 ()
  · refine es_blk (pc' := 39) (L' := [some (.ref 127), some (.int p0), some (.int p1), some (.int p2), some (.long t2.1), none, some (.int 1), none, some (.int t2.2.1)]) (st' := [.int 2, .int t2.2.1]) [(.iload 8, 0), (.iconst 2, 2)] (by decide +kernel) rfl rfl ?_
    refine es_ige (tgt := 216) (off := (177)) (by decide +kernel) (by decide) (fun h23 => ?_) (fun h23 => ?_)
    · refine es_blk (pc' := 44) (L' := [some (.ref 127), some (.int p0), some (.int p1), some (.int p2), some (.long t2.1), none, some (.int 1), none, some (.int t2.2.1)]) (st' := [.int 1]) [(.iload 6, 0)] (by decide +kernel) rfl rfl ?_
      refine es_eq (tgt := 216) (off := (172)) (by decide +kernel) (by decide) (fun h24 => ?_) (fun h24 => ?_)
      · refine ef_drop (L2 := [none, none, none, none, none, none, none, none, none]) [false, false, false, false, false, true, false, true, false] rfl rfl ?_
        exact HxK21_0 t2.2.2
      refine es_blk (pc' := 53) (L' := [some (.ref 127), some (.int p0), some (.int p1), some (.int p2), some (.long t2.1), none, some (.int 1), none, some (.int t2.2.1)]) (st' := [.int 1, .int 4, .long t2.1, .int p0, .ref 127]) [(.aload_n 0, 0), (.iload_n 1, 0), (.lload 4, 0), (.iconst 4, 4), (.iconst 1, 1)] (by decide +kernel) rfl rfl ?_
      refine ef_veI (d := 3) (k := 127) (As := [.int p0, .long t2.1, .int 4, .int 1]) (st := []) eV_12_isLet eK_12_352 (eS_12_isLet g t2.2.2 p0 t2.1 4 1) rfl rfl (Nat.le_of_ble_eq_true rfl) rfl (Nat.le_of_ble_eq_true rfl) ⟨Nat.le_of_ble_eq_true rfl, Nat.le_of_ble_eq_true rfl⟩ ⟨Nat.le_refl _, Nat.le_refl _⟩ (by decide +kernel) (fun q25 _ => ?_)
      refine es_ne (tgt := 70) (off := (14)) (by decide +kernel) (by decide) (fun h26 => ?_) (fun h26 => ?_)
      · refine ef_drop (L2 := [some (.ref 127), none, some (.int p1), some (.int p2), none, none, none, none, none]) [true, false, true, true, false, true, false, true, false] rfl rfl ?_
        exact HxK21_1 q25.2
      refine es_blk (pc' := 71) (L' := [some (.ref 127), some (.int p0), some (.int p1), some (.int p2), some (.long t2.1), none, some (.int 1), none, some (.int t2.2.1)]) (st' := [.ref 127]) [(.aload_n 0, 0)] (by decide +kernel) rfl rfl ?_
      refine ef_getP (k := 127) (j := 0) (q := 128) rfl eL_12_10 rfl rfl rfl (by decide +kernel) ?_
      refine es_blk (pc' := 77) (L' := [some (.ref 127), some (.int p0), some (.int p1), some (.int p2), some (.long t2.1), none, some (.int 1), none, some (.int t2.2.1)]) (st' := [.int (t2.1.toInt32), .ref 128]) [(.lload 4, 0), (.l2i, 0)] (by decide +kernel) rfl rfl ?_
      refine ef_spI (d := 1) (As := [.ref 128, .int (t2.1.toInt32)]) (st := []) eV_12_littleWord eK_12_368 (eS_12_littleWord g q25.2 128 131072 (t2.1.toInt32) rfl) rfl (Nat.le_of_ble_eq_true rfl) rfl (Nat.le_of_ble_eq_true rfl) ⟨Nat.le_of_ble_eq_true rfl, Nat.le_of_ble_eq_true rfl⟩ ⟨Nat.le_refl _, Nat.le_refl _⟩ (by decide +kernel) (fun q27 _ => ?_)
      refine es_blk (pc' := 86) (L' := [some (.ref 127), some (.int p0), some (.int p1), some (.int p2), some (.long t2.1), none, some (.int 1), some (.int q27), some (.int t2.2.1)]) (st' := [.int (q27 &&& 1)]) [(.istore 7, 0), (.iload 7, 0), (.iconst 1, 1), (.iand, 0)] (by decide +kernel) rfl rfl ?_
      refine es_eq (tgt := 117) (off := (31)) (by decide +kernel) (by decide) (fun h28 => ?_) (fun h28 => ?_)
      · refine ef_drop (L2 := [some (.ref 127), none, some (.int p1), some (.int p2), none, none, none, none, none]) [true, false, true, true, false, true, false, false, false] rfl rfl ?_
        exact HxK21_2 q25.2
      refine es_blk (pc' := 93) (L' := [some (.ref 127), some (.int p0), some (.int p1), some (.int p2), some (.long t2.1), none, some (.int 1), some (.int q27), some (.int t2.2.1)]) (st' := [.int (q27 &&& 2)]) [(.iload 7, 0), (.iconst 2, 2), (.iand, 0)] (by decide +kernel) rfl rfl ?_
      refine ef_J (X := fun j29 => ∀ (u30 : Unit), eh_Sim g eM_12_walk (eh_R 4 0 0) eh_eL 0 0 103 [some (.ref 127), some (.int p0), some (.int p1), some (.int p2), none, none, some (.int 1), some (.int q27), some (.int t2.2.1)] [] (eh_FW q25.2) ((j29 u30).bind K21)) ?_ (fun j29 Hj29 => ?_)
      · intro u30
        refine es_blk (pc' := 106) (L' := [some (.ref 127), some (.int p0), some (.int p1), some (.int p2), none, none, some (.int 1), some (.int q27), some (.int t2.2.1)]) (st' := [.int 1, .int t2.2.1]) [(.iload 8, 0), (.iconst 1, 1)] (by decide +kernel) rfl rfl ?_
        refine ef_J (X := fun j31 => ∀ (u32 : Unit), eh_Sim g eM_12_walk (eh_R 4 0 0) eh_eL 0 0 128 [some (.ref 127), some (.int p0), some (.int p1), some (.int p2), none, none, some (.int 1), some (.int q27), some (.int t2.2.1)] [] (eh_FW q25.2) ((j31 u32).bind K21)) ?_ (fun j31 Hj31 => ?_)
        · intro u32
          refine es_blk (pc' := 133) (L' := [some (.ref 127), some (.int p0), some (.int p1), some (.int p2), none, none, some (.int 1), some (.int q27), some (.int t2.2.1)]) (st' := [.int (q27 &&& 14)]) [(.iload 7, 0), (.bipush 14, 14), (.iand, 0)] (by decide +kernel) rfl rfl ?_
          refine es_eq (tgt := 184) (off := (51)) (by decide +kernel) (by decide) (fun h33 => ?_) (fun h33 => ?_)
          · refine es_blk (pc' := 190) (L' := [some (.ref 127), some (.int p0), some (.int p1), some (.int p2), none, none, some (.int 1), some (.int q27), some (.int t2.2.1)]) (st' := [.long ((eh_ushr q27 10).toInt64)]) [(.iload 7, 0), (.bipush 10, 10), (.iushr, 0), (.i2l, 0)] (by decide +kernel) rfl rfl ?_
            refine es_ldc2 (v := 4096) eC_12_364 (by decide +kernel) ?_
            refine es_blk (pc' := 194) (L' := [some (.ref 127), some (.int p0), some (.int p1), some (.int p2), none, none, some (.int 1), some (.int q27), some (.int t2.2.1)]) (st' := [.long (((eh_ushr q27 10).toInt64) * 4096)]) [(.lmul, 0)] (by decide +kernel) rfl rfl ?_
            refine es_ldc2 (v := 4) eC_12_366 (by decide +kernel) ?_
            refine es_blk (pc' := 210) (L' := [some (.ref 127), some (.int p0), some (.int p1), some (.int p2), some (.long ((((eh_ushr q27 10).toInt64) * 4096) + (4 * (((eh_ushr p1 12) &&& 1023).toInt64)))), none, some (.int 1), some (.int q27), some (.int t2.2.1)]) (st' := []) [(.iload_n 2, 0), (.bipush 12, 12), (.iushr, 0), (.sipush 1023, 1023), (.iand, 0), (.i2l, 0), (.lmul, 0), (.ladd, 0), (.lstore 4, 0)] (by decide +kernel) rfl rfl ?_
            refine ef_V (fun x34 => [some (.ref 127), some (.int p0), some (.int p1), some (.int p2), some (.long x34), none, some (.int 1), some (.int q27), some (.int t2.2.1)]) (fun _ => []) (fun _ => eh_FW q25.2) (fun x34 => ?_)
            refine es_blk (pc' := 213) (L' := [some (.ref 127), some (.int p0), some (.int p1), some (.int p2), some (.long x34), none, some (.int 1), some (.int q27), some (.int (t2.2.1 + 1))]) (st' := []) [(.iinc 8 1, 1)] (by decide +kernel) rfl rfl ?_
            refine ef_V (fun x35 => [some (.ref 127), some (.int p0), some (.int p1), some (.int p2), some (.long x34), none, some (.int 1), some (.int q27), some (.int x35)]) (fun _ => []) (fun _ => eh_FW q25.2) (fun x35 => ?_)
            refine es_goto (tgt := 36) (off := (-177)) (by decide +kernel) (by decide) ?_
            refine ef_drop (L2 := [some (.ref 127), some (.int p0), some (.int p1), some (.int p2), some (.long x34), none, some (.int 1), none, some (.int x35)]) [true, true, true, true, true, true, true, false, true] rfl rfl ?_
            exact Hr22 (x34, x35, q25.2)
          refine ef_drop (L2 := [some (.ref 127), some (.int p0), some (.int p1), some (.int p2), none, none, none, some (.int q27), some (.int t2.2.1)]) [true, true, true, true, true, true, false, true, true] rfl rfl ?_
          exact HxK21_3 (q27, t2.2.1, q25.2)
        refine es_ine (tgt := 128) (off := (22)) (by decide +kernel) (by decide) (fun h36 => ?_) (fun h36 => ?_)
        · refine es_blk (pc' := 114) (L' := [some (.ref 127), some (.int p0), some (.int p1), some (.int p2), none, none, some (.int 1), some (.int q27), some (.int t2.2.1)]) (st' := [.int (q27 &&& 14)]) [(.iload 7, 0), (.bipush 14, 14), (.iand, 0)] (by decide +kernel) rfl rfl ?_
          refine es_ne (tgt := 128) (off := (14)) (by decide +kernel) (by decide) (fun h37 => ?_) (fun h37 => ?_)
          · refine ef_drop (L2 := [some (.ref 127), none, some (.int p1), some (.int p2), none, none, none, none, none]) [true, false, true, true, true, true, false, false, false] rfl rfl ?_
            exact HxK21_2 q25.2
          exact Hj31 ()
        exact Hj31 ()
      refine es_ne (tgt := 103) (off := (10)) (by decide +kernel) (by decide) (fun h38 => ?_) (fun h38 => ?_)
      · refine es_blk (pc' := 100) (L' := [some (.ref 127), some (.int p0), some (.int p1), some (.int p2), some (.long t2.1), none, some (.int 1), some (.int q27), some (.int t2.2.1)]) (st' := [.int (q27 &&& 4)]) [(.iload 7, 0), (.iconst 4, 4), (.iand, 0)] (by decide +kernel) rfl rfl ?_
        refine es_ne (tgt := 117) (off := (17)) (by decide +kernel) (by decide) (fun h39 => ?_) (fun h39 => ?_)
        · refine ef_drop (L2 := [some (.ref 127), some (.int p0), some (.int p1), some (.int p2), none, none, some (.int 1), some (.int q27), some (.int t2.2.1)]) [true, true, true, true, false, true, true, true, true] rfl rfl ?_
          exact Hj29 ()
        refine ef_drop (L2 := [some (.ref 127), none, some (.int p1), some (.int p2), none, none, none, none, none]) [true, false, true, true, false, true, false, false, false] rfl rfl ?_
        exact HxK21_2 q25.2
      refine ef_drop (L2 := [some (.ref 127), some (.int p0), some (.int p1), some (.int p2), none, none, some (.int 1), some (.int q27), some (.int t2.2.1)]) [true, true, true, true, false, true, true, true, true] rfl rfl ?_
      exact Hj29 ()
    refine ef_drop (L2 := [none, none, none, none, none, none, none, none, none]) [false, false, false, false, false, true, false, true, false] rfl rfl ?_
    exact HxK21_0 t2.2.2
def eF_12_sums (s : eh_F) (p0 : Int32) (p1 : Int32) (p2 : Int32) (p3 : Int32) (p4 : Int32) (p5 : Int32) (p6 : Int32) : Option (eh_F) := eh_J (fun (s2 : eh_F) => some s2) (fun j1 => if p4 = 0 then (Option.bind (eF_12_plain s p3 p5 p6) (fun q4 => Option.bind (eF_12_set s p0 p2 q4) (fun q5 => j1 q5))) else (if p4 = 1 then (Option.bind (eF_12_product s p3 p5 p6) (fun q7 => Option.bind (eF_12_set s p0 p2 q7) (fun q8 => j1 q8))) else (eh_J (fun (u10 : Unit) => eh_J (fun (u12 : Unit) => Option.bind (eF_12_except s 2 p1) (fun q13 => j1 q13)) (fun j11 => if p4 = 32 then (if p3 = 5 then (Option.bind (eF_12_set s p0 p2 (eh_shr p5 p6)) (fun q16 => j1 q16)) else (j11 ())) else (j11 ()))) (fun j9 => if p4 = 32 then (if p3 = 0 then (Option.bind (eF_12_set s p0 p2 (p5 - p6)) (fun q19 => j1 q19)) else (j9 ())) else (j9 ())))))
set_option maxHeartbeats 4000000 in
set_option maxRecDepth 100000 in
theorem eS_12_sums (g : eh_P) (s : eh_F) (p0 : Int32) (p1 : Int32) (p2 : Int32) (p3 : Int32) (p4 : Int32) (p5 : Int32) (p6 : Int32) : eh_Sim g eM_12_sums (eh_R 4 0 0) eh_eV 0 0 0 (eh_en 8 [.ref 127, .int p0, .int p1, .int p2, .int p3, .int p4, .int p5, .int p6]) [] (eh_FW s) (eF_12_sums s p0 p1 p2 p3 p4 p5 p6) := by
  unfold eF_12_sums
  refine ef_top (L := [some (.ref 127), some (.int p0), some (.int p1), some (.int p2), some (.int p3), some (.int p4), some (.int p5), some (.int p6)]) rfl ?_
  refine es_blk (pc' := 2) (L' := [some (.ref 127), some (.int p0), some (.int p1), some (.int p2), some (.int p3), some (.int p4), some (.int p5), some (.int p6)]) (st' := [.int p4]) [(.iload 5, 0)] (by decide +kernel) rfl rfl ?_
  refine ef_J (X := fun j1 => ∀ (s2 : eh_F), eh_Sim g eM_12_sums (eh_R 4 0 0) eh_eV 0 0 106 [none, none, none, none, none, none, none, none] [] (eh_FW s2) ((j1 s2).bind some)) ?_ (fun j1 Hj1 => ?_)
  · intro s2
    exact es_ret rfl rfl rfl ⟨by decide +kernel, rfl⟩ (Nat.le_refl _) (Nat.le_refl _)
  refine es_ne (tgt := 23) (off := (21)) (by decide +kernel) (by decide) (fun h3 => ?_) (fun h3 => ?_)
  · refine es_blk (pc' := 14) (L' := [some (.ref 127), some (.int p0), some (.int p1), some (.int p2), some (.int p3), some (.int p4), some (.int p5), some (.int p6)]) (st' := [.int p6, .int p5, .int p3, .int p2, .int p0, .ref 127]) [(.aload_n 0, 0), (.iload_n 1, 0), (.iload_n 3, 0), (.iload 4, 0), (.iload 6, 0), (.iload 7, 0)] (by decide +kernel) rfl rfl ?_
    refine ef_spI (d := 3) (As := [.int p3, .int p5, .int p6]) (st := [.int p2, .int p0, .ref 127]) eV_12_plain eK_12_465 (eS_12_plain g s p3 p5 p6) rfl (Nat.le_of_ble_eq_true rfl) rfl (Nat.le_of_ble_eq_true rfl) ⟨Nat.le_of_ble_eq_true rfl, Nat.le_of_ble_eq_true rfl⟩ ⟨Nat.le_refl _, Nat.le_refl _⟩ (by decide +kernel) (fun q4 _ => ?_)
    refine ef_veV (d := 2) (k := 127) (As := [.int p0, .int p2, .int q4]) (st := []) eV_12_set eK_12_426 (eS_12_set g s p0 p2 q4) rfl rfl (Nat.le_of_ble_eq_true rfl) rfl (Nat.le_of_ble_eq_true rfl) ⟨Nat.le_of_ble_eq_true rfl, Nat.le_of_ble_eq_true rfl⟩ ⟨Nat.le_refl _, Nat.le_refl _⟩ (by decide +kernel) (fun q5 _ => ?_)
    refine es_goto (tgt := 106) (off := (86)) (by decide +kernel) (by decide) ?_
    refine ef_drop (L2 := [none, none, none, none, none, none, none, none]) [false, false, false, false, false, false, false, false] rfl rfl ?_
    exact Hj1 _
  refine es_blk (pc' := 26) (L' := [some (.ref 127), some (.int p0), some (.int p1), some (.int p2), some (.int p3), some (.int p4), some (.int p5), some (.int p6)]) (st' := [.int 1, .int p4]) [(.iload 5, 0), (.iconst 1, 1)] (by decide +kernel) rfl rfl ?_
  refine es_ine (tgt := 47) (off := (21)) (by decide +kernel) (by decide) (fun h6 => ?_) (fun h6 => ?_)
  · refine es_blk (pc' := 38) (L' := [some (.ref 127), some (.int p0), some (.int p1), some (.int p2), some (.int p3), some (.int p4), some (.int p5), some (.int p6)]) (st' := [.int p6, .int p5, .int p3, .int p2, .int p0, .ref 127]) [(.aload_n 0, 0), (.iload_n 1, 0), (.iload_n 3, 0), (.iload 4, 0), (.iload 6, 0), (.iload 7, 0)] (by decide +kernel) rfl rfl ?_
    refine ef_spI (d := 1) (As := [.int p3, .int p5, .int p6]) (st := [.int p2, .int p0, .ref 127]) eV_12_product eK_12_469 (eS_12_product g s p3 p5 p6) rfl (Nat.le_of_ble_eq_true rfl) rfl (Nat.le_of_ble_eq_true rfl) ⟨Nat.le_of_ble_eq_true rfl, Nat.le_of_ble_eq_true rfl⟩ ⟨Nat.le_refl _, Nat.le_refl _⟩ (by decide +kernel) (fun q7 _ => ?_)
    refine ef_veV (d := 2) (k := 127) (As := [.int p0, .int p2, .int q7]) (st := []) eV_12_set eK_12_426 (eS_12_set g s p0 p2 q7) rfl rfl (Nat.le_of_ble_eq_true rfl) rfl (Nat.le_of_ble_eq_true rfl) ⟨Nat.le_of_ble_eq_true rfl, Nat.le_of_ble_eq_true rfl⟩ ⟨Nat.le_refl _, Nat.le_refl _⟩ (by decide +kernel) (fun q8 _ => ?_)
    refine es_goto (tgt := 106) (off := (62)) (by decide +kernel) (by decide) ?_
    refine ef_drop (L2 := [none, none, none, none, none, none, none, none]) [false, false, false, false, false, false, false, false] rfl rfl ?_
    exact Hj1 _
  refine es_blk (pc' := 51) (L' := [some (.ref 127), some (.int p0), some (.int p1), some (.int p2), some (.int p3), some (.int p4), some (.int p5), some (.int p6)]) (st' := [.int 32, .int p4]) [(.iload 5, 0), (.bipush 32, 32)] (by decide +kernel) rfl rfl ?_
  refine ef_J (X := fun j9 => ∀ (u10 : Unit), eh_Sim g eM_12_sums (eh_R 4 0 0) eh_eV 0 0 73 [some (.ref 127), some (.int p0), some (.int p1), some (.int p2), some (.int p3), some (.int p4), some (.int p5), some (.int p6)] [] (eh_FW s) ((j9 u10).bind some)) ?_ (fun j9 Hj9 => ?_)
  · intro u10
    refine es_blk (pc' := 77) (L' := [some (.ref 127), some (.int p0), some (.int p1), some (.int p2), some (.int p3), some (.int p4), some (.int p5), some (.int p6)]) (st' := [.int 32, .int p4]) [(.iload 5, 0), (.bipush 32, 32)] (by decide +kernel) rfl rfl ?_
    refine ef_J (X := fun j11 => ∀ (u12 : Unit), eh_Sim g eM_12_sums (eh_R 4 0 0) eh_eV 0 0 100 [some (.ref 127), none, some (.int p1), none, none, none, none, none] [] (eh_FW s) ((j11 u12).bind some)) ?_ (fun j11 Hj11 => ?_)
    · intro u12
      refine es_blk (pc' := 103) (L' := [some (.ref 127), none, some (.int p1), none, none, none, none, none]) (st' := [.int p1, .int 2, .ref 127]) [(.aload_n 0, 0), (.iconst 2, 2), (.iload_n 2, 0)] (by decide +kernel) rfl rfl ?_
      refine ef_veV (d := 1) (k := 127) (As := [.int 2, .int p1]) (st := []) eV_12_except eK_12_359 (eS_12_except g s 2 p1) rfl rfl (Nat.le_of_ble_eq_true rfl) rfl (Nat.le_of_ble_eq_true rfl) ⟨Nat.le_of_ble_eq_true rfl, Nat.le_of_ble_eq_true rfl⟩ ⟨Nat.le_refl _, Nat.le_refl _⟩ (by decide +kernel) (fun q13 _ => ?_)
      refine ef_drop (L2 := [none, none, none, none, none, none, none, none]) [false, true, false, true, true, true, true, true] rfl rfl ?_
      exact Hj1 _
    refine es_ine (tgt := 100) (off := (23)) (by decide +kernel) (by decide) (fun h14 => ?_) (fun h14 => ?_)
    · refine es_blk (pc' := 83) (L' := [some (.ref 127), some (.int p0), some (.int p1), some (.int p2), some (.int p3), some (.int p4), some (.int p5), some (.int p6)]) (st' := [.int 5, .int p3]) [(.iload 4, 0), (.iconst 5, 5)] (by decide +kernel) rfl rfl ?_
      refine es_ine (tgt := 100) (off := (17)) (by decide +kernel) (by decide) (fun h15 => ?_) (fun h15 => ?_)
      · refine es_blk (pc' := 94) (L' := [some (.ref 127), some (.int p0), some (.int p1), some (.int p2), some (.int p3), some (.int p4), some (.int p5), some (.int p6)]) (st' := [.int (eh_shr p5 p6), .int p2, .int p0, .ref 127]) [(.aload_n 0, 0), (.iload_n 1, 0), (.iload_n 3, 0), (.iload 6, 0), (.iload 7, 0), (.ishr, 0)] (by decide +kernel) rfl rfl ?_
        refine ef_veV (d := 2) (k := 127) (As := [.int p0, .int p2, .int (eh_shr p5 p6)]) (st := []) eV_12_set eK_12_426 (eS_12_set g s p0 p2 (eh_shr p5 p6)) rfl rfl (Nat.le_of_ble_eq_true rfl) rfl (Nat.le_of_ble_eq_true rfl) ⟨Nat.le_of_ble_eq_true rfl, Nat.le_of_ble_eq_true rfl⟩ ⟨Nat.le_refl _, Nat.le_refl _⟩ (by decide +kernel) (fun q16 _ => ?_)
        refine es_goto (tgt := 106) (off := (9)) (by decide +kernel) (by decide) ?_
        refine ef_drop (L2 := [none, none, none, none, none, none, none, none]) [false, false, false, false, false, false, false, false] rfl rfl ?_
        exact Hj1 _
      refine ef_drop (L2 := [some (.ref 127), none, some (.int p1), none, none, none, none, none]) [true, false, true, false, false, false, false, false] rfl rfl ?_
      exact Hj11 ()
    refine ef_drop (L2 := [some (.ref 127), none, some (.int p1), none, none, none, none, none]) [true, false, true, false, false, false, false, false] rfl rfl ?_
    exact Hj11 ()
  refine es_ine (tgt := 73) (off := (22)) (by decide +kernel) (by decide) (fun h17 => ?_) (fun h17 => ?_)
  · refine es_blk (pc' := 56) (L' := [some (.ref 127), some (.int p0), some (.int p1), some (.int p2), some (.int p3), some (.int p4), some (.int p5), some (.int p6)]) (st' := [.int p3]) [(.iload 4, 0)] (by decide +kernel) rfl rfl ?_
    refine es_ne (tgt := 73) (off := (17)) (by decide +kernel) (by decide) (fun h18 => ?_) (fun h18 => ?_)
    · refine es_blk (pc' := 67) (L' := [some (.ref 127), some (.int p0), some (.int p1), some (.int p2), some (.int p3), some (.int p4), some (.int p5), some (.int p6)]) (st' := [.int (p5 - p6), .int p2, .int p0, .ref 127]) [(.aload_n 0, 0), (.iload_n 1, 0), (.iload_n 3, 0), (.iload 6, 0), (.iload 7, 0), (.isub, 0)] (by decide +kernel) rfl rfl ?_
      refine ef_veV (d := 2) (k := 127) (As := [.int p0, .int p2, .int (p5 - p6)]) (st := []) eV_12_set eK_12_426 (eS_12_set g s p0 p2 (p5 - p6)) rfl rfl (Nat.le_of_ble_eq_true rfl) rfl (Nat.le_of_ble_eq_true rfl) ⟨Nat.le_of_ble_eq_true rfl, Nat.le_of_ble_eq_true rfl⟩ ⟨Nat.le_refl _, Nat.le_refl _⟩ (by decide +kernel) (fun q19 _ => ?_)
      refine es_goto (tgt := 106) (off := (36)) (by decide +kernel) (by decide) ?_
      refine ef_drop (L2 := [none, none, none, none, none, none, none, none]) [false, false, false, false, false, false, false, false] rfl rfl ?_
      exact Hj1 _
    exact Hj9 ()
  exact Hj9 ()
def eF_12_readRegister (s : eh_F) (p0 : Int32) (p1 : Int32) : Option (Int32) := if p1 = 256 then (if eh_in p0 2 then some (s.1 133 (eh_ix p0)) else none) else if p1 = 260 then (if eh_in p0 2 then some (s.1 134 (eh_ix p0)) else none) else if p1 = 261 then (if eh_in p0 2 then some (s.1 135 (eh_ix p0)) else none) else if p1 = 320 then (if eh_in p0 2 then some (s.1 136 (eh_ix p0)) else none) else if p1 = 321 then (if eh_in p0 2 then some (s.1 137 (eh_ix p0)) else none) else if p1 = 322 then (if eh_in p0 2 then some (s.1 138 (eh_ix p0)) else none) else if p1 = 323 then (if eh_in p0 2 then some (s.1 139 (eh_ix p0)) else none) else if p1 = 324 then (Option.bind (eF_12_pending s p0) (fun q10 => some q10)) else if p1 = 333 then (if eh_in p0 2 then some (s.1 141 (eh_ix p0)) else none) else if p1 = 384 then (if eh_in p0 2 then some (s.1 142 (eh_ix p0)) else none) else if p1 = 3073 then (some (s.1 127 20)) else (some p0)
set_option maxHeartbeats 4000000 in
set_option maxRecDepth 100000 in
theorem eS_12_readRegister (g : eh_P) (s : eh_F) (p0 : Int32) (p1 : Int32) : eh_Sim g eM_12_readRegister (eh_R 4 0 0) (eh_pI s) 0 0 0 (eh_en 3 [.ref 127, .int p0, .int p1]) [] (eh_FW s) (eF_12_readRegister s p0 p1) := by
  unfold eF_12_readRegister
  refine ef_top (L := [some (.ref 127), some (.int p0), some (.int p1)]) rfl ?_
  refine es_blk (pc' := 1) (L' := [some (.ref 127), some (.int p0), some (.int p1)]) (st' := [.int p1]) [(.iload_n 2, 0)] (by decide +kernel) rfl rfl ?_
  have hs1 : decode eM_12_readRegister.2.1 1 = .ok (.lookupswitch (173) #[(256, 99), (260, 106), (261, 113), (320, 120), (321, 127), (322, 134), (323, 141), (324, 148), (333, 154), (384, 161), (3073, 168)], 99) := by decide +kernel
  refine es_ifc (fun h2 => ?_) (fun h2 => ?_)
  · refine es_lsw (off := (99)) (tgt := 100) hs1 256 h2 (by decide) (by decide) (by decide) ?_
    refine es_blk (pc' := 101) (L' := [some (.ref 127), some (.int p0), some (.int p1)]) (st' := [.ref 127]) [(.aload_n 0, 0)] (by decide +kernel) rfl rfl ?_
    refine ef_getP (k := 127) (j := 5) (q := 133) rfl eL_12_28 rfl rfl rfl (by decide +kernel) ?_
    refine es_blk (pc' := 105) (L' := [some (.ref 127), some (.int p0), some (.int p1)]) (st' := [.int p0, .ref 133]) [(.iload_n 1, 0)] (by decide +kernel) rfl rfl ?_
    refine ef_ald (k := 133) rfl (Or.inl ⟨rfl, rfl⟩) (by decide +kernel) (fun _ => ?_)
    exact es_ret rfl rfl rfl ⟨by decide +kernel, _, rfl, rfl⟩ (Nat.le_refl _) (Nat.le_refl _)
  refine es_ifc (fun h3 => ?_) (fun h3 => ?_)
  · refine es_lsw (off := (106)) (tgt := 107) hs1 260 h3 (by decide) (by decide) (by decide) ?_
    refine es_blk (pc' := 108) (L' := [some (.ref 127), some (.int p0), some (.int p1)]) (st' := [.ref 127]) [(.aload_n 0, 0)] (by decide +kernel) rfl rfl ?_
    refine ef_getP (k := 127) (j := 6) (q := 134) rfl eL_12_31 rfl rfl rfl (by decide +kernel) ?_
    refine es_blk (pc' := 112) (L' := [some (.ref 127), some (.int p0), some (.int p1)]) (st' := [.int p0, .ref 134]) [(.iload_n 1, 0)] (by decide +kernel) rfl rfl ?_
    refine ef_ald (k := 134) rfl (Or.inl ⟨rfl, rfl⟩) (by decide +kernel) (fun _ => ?_)
    exact es_ret rfl rfl rfl ⟨by decide +kernel, _, rfl, rfl⟩ (Nat.le_refl _) (Nat.le_refl _)
  refine es_ifc (fun h4 => ?_) (fun h4 => ?_)
  · refine es_lsw (off := (113)) (tgt := 114) hs1 261 h4 (by decide) (by decide) (by decide) ?_
    refine es_blk (pc' := 115) (L' := [some (.ref 127), some (.int p0), some (.int p1)]) (st' := [.ref 127]) [(.aload_n 0, 0)] (by decide +kernel) rfl rfl ?_
    refine ef_getP (k := 127) (j := 7) (q := 135) rfl eL_12_34 rfl rfl rfl (by decide +kernel) ?_
    refine es_blk (pc' := 119) (L' := [some (.ref 127), some (.int p0), some (.int p1)]) (st' := [.int p0, .ref 135]) [(.iload_n 1, 0)] (by decide +kernel) rfl rfl ?_
    refine ef_ald (k := 135) rfl (Or.inl ⟨rfl, rfl⟩) (by decide +kernel) (fun _ => ?_)
    exact es_ret rfl rfl rfl ⟨by decide +kernel, _, rfl, rfl⟩ (Nat.le_refl _) (Nat.le_refl _)
  refine es_ifc (fun h5 => ?_) (fun h5 => ?_)
  · refine es_lsw (off := (120)) (tgt := 121) hs1 320 h5 (by decide) (by decide) (by decide) ?_
    refine es_blk (pc' := 122) (L' := [some (.ref 127), some (.int p0), some (.int p1)]) (st' := [.ref 127]) [(.aload_n 0, 0)] (by decide +kernel) rfl rfl ?_
    refine ef_getP (k := 127) (j := 8) (q := 136) rfl eL_12_37 rfl rfl rfl (by decide +kernel) ?_
    refine es_blk (pc' := 126) (L' := [some (.ref 127), some (.int p0), some (.int p1)]) (st' := [.int p0, .ref 136]) [(.iload_n 1, 0)] (by decide +kernel) rfl rfl ?_
    refine ef_ald (k := 136) rfl (Or.inl ⟨rfl, rfl⟩) (by decide +kernel) (fun _ => ?_)
    exact es_ret rfl rfl rfl ⟨by decide +kernel, _, rfl, rfl⟩ (Nat.le_refl _) (Nat.le_refl _)
  refine es_ifc (fun h6 => ?_) (fun h6 => ?_)
  · refine es_lsw (off := (127)) (tgt := 128) hs1 321 h6 (by decide) (by decide) (by decide) ?_
    refine es_blk (pc' := 129) (L' := [some (.ref 127), some (.int p0), some (.int p1)]) (st' := [.ref 127]) [(.aload_n 0, 0)] (by decide +kernel) rfl rfl ?_
    refine ef_getP (k := 127) (j := 9) (q := 137) rfl eL_12_40 rfl rfl rfl (by decide +kernel) ?_
    refine es_blk (pc' := 133) (L' := [some (.ref 127), some (.int p0), some (.int p1)]) (st' := [.int p0, .ref 137]) [(.iload_n 1, 0)] (by decide +kernel) rfl rfl ?_
    refine ef_ald (k := 137) rfl (Or.inl ⟨rfl, rfl⟩) (by decide +kernel) (fun _ => ?_)
    exact es_ret rfl rfl rfl ⟨by decide +kernel, _, rfl, rfl⟩ (Nat.le_refl _) (Nat.le_refl _)
  refine es_ifc (fun h7 => ?_) (fun h7 => ?_)
  · refine es_lsw (off := (134)) (tgt := 135) hs1 322 h7 (by decide) (by decide) (by decide) ?_
    refine es_blk (pc' := 136) (L' := [some (.ref 127), some (.int p0), some (.int p1)]) (st' := [.ref 127]) [(.aload_n 0, 0)] (by decide +kernel) rfl rfl ?_
    refine ef_getP (k := 127) (j := 10) (q := 138) rfl eL_12_43 rfl rfl rfl (by decide +kernel) ?_
    refine es_blk (pc' := 140) (L' := [some (.ref 127), some (.int p0), some (.int p1)]) (st' := [.int p0, .ref 138]) [(.iload_n 1, 0)] (by decide +kernel) rfl rfl ?_
    refine ef_ald (k := 138) rfl (Or.inl ⟨rfl, rfl⟩) (by decide +kernel) (fun _ => ?_)
    exact es_ret rfl rfl rfl ⟨by decide +kernel, _, rfl, rfl⟩ (Nat.le_refl _) (Nat.le_refl _)
  refine es_ifc (fun h8 => ?_) (fun h8 => ?_)
  · refine es_lsw (off := (141)) (tgt := 142) hs1 323 h8 (by decide) (by decide) (by decide) ?_
    refine es_blk (pc' := 143) (L' := [some (.ref 127), some (.int p0), some (.int p1)]) (st' := [.ref 127]) [(.aload_n 0, 0)] (by decide +kernel) rfl rfl ?_
    refine ef_getP (k := 127) (j := 11) (q := 139) rfl eL_12_46 rfl rfl rfl (by decide +kernel) ?_
    refine es_blk (pc' := 147) (L' := [some (.ref 127), some (.int p0), some (.int p1)]) (st' := [.int p0, .ref 139]) [(.iload_n 1, 0)] (by decide +kernel) rfl rfl ?_
    refine ef_ald (k := 139) rfl (Or.inl ⟨rfl, rfl⟩) (by decide +kernel) (fun _ => ?_)
    exact es_ret rfl rfl rfl ⟨by decide +kernel, _, rfl, rfl⟩ (Nat.le_refl _) (Nat.le_refl _)
  refine es_ifc (fun h9 => ?_) (fun h9 => ?_)
  · refine es_lsw (off := (148)) (tgt := 149) hs1 324 h9 (by decide) (by decide) (by decide) ?_
    refine es_blk (pc' := 151) (L' := [some (.ref 127), some (.int p0), some (.int p1)]) (st' := [.int p0, .ref 127]) [(.aload_n 0, 0), (.iload_n 1, 0)] (by decide +kernel) rfl rfl ?_
    refine ef_vpI (d := 3) (k := 127) (As := [.int p0]) (st := []) eV_12_pending eK_12_404 (eS_12_pending g s p0) rfl rfl (Nat.le_of_ble_eq_true rfl) rfl (Nat.le_of_ble_eq_true rfl) ⟨Nat.le_of_ble_eq_true rfl, Nat.le_of_ble_eq_true rfl⟩ ⟨Nat.le_refl _, Nat.le_refl _⟩ (by decide +kernel) (fun q10 _ => ?_)
    exact es_ret rfl rfl rfl ⟨by decide +kernel, _, rfl, rfl⟩ (Nat.le_refl _) (Nat.le_refl _)
  refine es_ifc (fun h11 => ?_) (fun h11 => ?_)
  · refine es_lsw (off := (154)) (tgt := 155) hs1 333 h11 (by decide) (by decide) (by decide) ?_
    refine es_blk (pc' := 156) (L' := [some (.ref 127), some (.int p0), some (.int p1)]) (st' := [.ref 127]) [(.aload_n 0, 0)] (by decide +kernel) rfl rfl ?_
    refine ef_getP (k := 127) (j := 13) (q := 141) rfl eL_12_52 rfl rfl rfl (by decide +kernel) ?_
    refine es_blk (pc' := 160) (L' := [some (.ref 127), some (.int p0), some (.int p1)]) (st' := [.int p0, .ref 141]) [(.iload_n 1, 0)] (by decide +kernel) rfl rfl ?_
    refine ef_ald (k := 141) rfl (Or.inl ⟨rfl, rfl⟩) (by decide +kernel) (fun _ => ?_)
    exact es_ret rfl rfl rfl ⟨by decide +kernel, _, rfl, rfl⟩ (Nat.le_refl _) (Nat.le_refl _)
  refine es_ifc (fun h12 => ?_) (fun h12 => ?_)
  · refine es_lsw (off := (161)) (tgt := 162) hs1 384 h12 (by decide) (by decide) (by decide) ?_
    refine es_blk (pc' := 163) (L' := [some (.ref 127), some (.int p0), some (.int p1)]) (st' := [.ref 127]) [(.aload_n 0, 0)] (by decide +kernel) rfl rfl ?_
    refine ef_getP (k := 127) (j := 14) (q := 142) rfl eL_12_55 rfl rfl rfl (by decide +kernel) ?_
    refine es_blk (pc' := 167) (L' := [some (.ref 127), some (.int p0), some (.int p1)]) (st' := [.int p0, .ref 142]) [(.iload_n 1, 0)] (by decide +kernel) rfl rfl ?_
    refine ef_ald (k := 142) rfl (Or.inl ⟨rfl, rfl⟩) (by decide +kernel) (fun _ => ?_)
    exact es_ret rfl rfl rfl ⟨by decide +kernel, _, rfl, rfl⟩ (Nat.le_refl _) (Nat.le_refl _)
  refine es_ifc (fun h13 => ?_) (fun h13 => ?_)
  · refine es_lsw (off := (168)) (tgt := 169) hs1 3073 h13 (by decide) (by decide) (by decide) ?_
    refine es_blk (pc' := 170) (L' := [some (.ref 127), some (.int p0), some (.int p1)]) (st' := [.ref 127]) [(.aload_n 0, 0)] (by decide +kernel) rfl rfl ?_
    refine ef_getI (k := 127) (j := 20) rfl eL_12_280 (by decide) (by decide +kernel) ?_
    exact es_ret rfl rfl rfl ⟨by decide +kernel, _, rfl, rfl⟩ (Nat.le_refl _) (Nat.le_refl _)
  refine es_lswD (tgt := 174) hs1 [256, 260, 261, 320, 321, 322, 323, 324, 333, 384, 3073] (List.forall_mem_cons.mpr ⟨eh_nei 256 256 (by decide) h2, (List.forall_mem_cons.mpr ⟨eh_nei 260 260 (by decide) h3, (List.forall_mem_cons.mpr ⟨eh_nei 261 261 (by decide) h4, (List.forall_mem_cons.mpr ⟨eh_nei 320 320 (by decide) h5, (List.forall_mem_cons.mpr ⟨eh_nei 321 321 (by decide) h6, (List.forall_mem_cons.mpr ⟨eh_nei 322 322 (by decide) h7, (List.forall_mem_cons.mpr ⟨eh_nei 323 323 (by decide) h8, (List.forall_mem_cons.mpr ⟨eh_nei 324 324 (by decide) h9, (List.forall_mem_cons.mpr ⟨eh_nei 333 333 (by decide) h11, (List.forall_mem_cons.mpr ⟨eh_nei 384 384 (by decide) h12, (List.forall_mem_cons.mpr ⟨eh_nei 3073 3073 (by decide) h13, (List.forall_mem_nil _)⟩)⟩)⟩)⟩)⟩)⟩)⟩)⟩)⟩)⟩)⟩) (by decide) (by decide) (by decide) ?_
  refine es_blk (pc' := 175) (L' := [some (.ref 127), some (.int p0), some (.int p1)]) (st' := [.int p0]) [(.iload_n 1, 0)] (by decide +kernel) rfl rfl ?_
  exact es_ret rfl rfl rfl ⟨by decide +kernel, _, rfl, rfl⟩ (Nat.le_refl _) (Nat.le_refl _)
def eF_12_destroy (s : eh_F) (p0 : Int32) : Option (Int32 × eh_F) := Option.bind (eF_12_isEnclave s p0) (fun q1 => if q1 = 0 then (some ((-1), s)) else (if eh_in p0 6 then if (s.1 155 (eh_ix p0)) = 2 then (some ((-2), s)) else (Option.bind (eh_loop (fun (r12 : (Int32 × eh_F) → Option (eh_F)) (t4 : Int32 × eh_F) => if t4.1 < 12 then (if eh_in t4.1 12 then eh_J (fun (s15 : eh_F) => if eh_in t4.1 12 then eh_J (fun (a17 : Int32) => if eh_in t4.1 12 then eh_V (eh_tI s15 148 (eh_ix t4.1) a17) (fun s18 => eh_V ((t4.1 + 1) : Int32) (fun x19 => r12 (x19, s18))) else none) (fun j16 => if (s15.1 149 (eh_ix t4.1)) = p0 then (j16 0) else (if eh_in t4.1 12 then j16 (s15.1 148 (eh_ix t4.1)) else none)) else none) (fun j14 => if (t4.2.1 164 (eh_ix t4.1)) = 0 then (j14 t4.2) else (Option.bind (eF_12_isOf t4.2 t4.1 p0) (fun q22 => if q22 = 0 then (j14 t4.2) else (Option.bind (eF_12_drop t4.2 t4.1) (fun q24 => j14 q24))))) else none) else (some t4.2)) eh_FU (0, s)) (fun (e5 : eh_F) => if eh_in p0 6 then eh_V (eh_tI e5 155 (eh_ix p0) 0) (fun s6 => eh_J (fun (s8 : eh_F) => some (0, s8)) (fun j7 => if (s6.1 127 67) = p0 then (Option.bind (eF_12_clearPath s6 (-1)) (fun q10 => j7 q10)) else (j7 s6))) else none)) else none))
set_option maxHeartbeats 4000000 in
set_option maxRecDepth 100000 in
theorem eS_12_destroy (g : eh_P) (s : eh_F) (p0 : Int32) : eh_Sim g eM_12_destroy (eh_R 4 0 0) eh_eI 0 0 0 (eh_en 3 [.ref 127, .int p0]) [] (eh_FW s) (eF_12_destroy s p0) := by
  unfold eF_12_destroy
  refine ef_top (L := [some (.ref 127), some (.int p0), none]) rfl ?_
  refine es_blk (pc' := 2) (L' := [some (.ref 127), some (.int p0), none]) (st' := [.int p0, .ref 127]) [(.aload_n 0, 0), (.iload_n 1, 0)] (by decide +kernel) rfl rfl ?_
  refine ef_vpI (d := 1) (k := 127) (As := [.int p0]) (st := []) eV_12_isEnclave eK_12_549 (eS_12_isEnclave g s p0) rfl rfl (Nat.le_of_ble_eq_true rfl) rfl (Nat.le_of_ble_eq_true rfl) ⟨Nat.le_of_ble_eq_true rfl, Nat.le_of_ble_eq_true rfl⟩ ⟨Nat.le_refl _, Nat.le_refl _⟩ (by decide +kernel) (fun q1 _ => ?_)
  refine es_ne (tgt := 10) (off := (5)) (by decide +kernel) (by decide) (fun h2 => ?_) (fun h2 => ?_)
  · refine es_blk (pc' := 9) (L' := [some (.ref 127), some (.int p0), none]) (st' := [.int (-1)]) [(.iconst (-1), (-1))] (by decide +kernel) rfl rfl ?_
    exact es_ret rfl rfl rfl ⟨by decide +kernel, _, rfl, rfl⟩ (Nat.le_refl _) (Nat.le_refl _)
  refine es_blk (pc' := 11) (L' := [some (.ref 127), some (.int p0), none]) (st' := [.ref 127]) [(.aload_n 0, 0)] (by decide +kernel) rfl rfl ?_
  refine ef_getP (k := 127) (j := 30) (q := 155) rfl eL_12_94 rfl rfl rfl (by decide +kernel) ?_
  refine es_blk (pc' := 15) (L' := [some (.ref 127), some (.int p0), none]) (st' := [.int p0, .ref 155]) [(.iload_n 1, 0)] (by decide +kernel) rfl rfl ?_
  refine ef_ald (k := 155) rfl (Or.inl ⟨rfl, rfl⟩) (by decide +kernel) (fun _ => ?_)
  refine es_blk (pc' := 17) (L' := [some (.ref 127), some (.int p0), none]) (st' := [.int 2, .int (s.1 155 (eh_ix p0))]) [(.iconst 2, 2)] (by decide +kernel) rfl rfl ?_
  refine es_ine (tgt := 23) (off := (6)) (by decide +kernel) (by decide) (fun h3 => ?_) (fun h3 => ?_)
  · refine es_blk (pc' := 22) (L' := [some (.ref 127), some (.int p0), none]) (st' := [.int (-2)]) [(.bipush (-2), (-2))] (by decide +kernel) rfl rfl ?_
    exact es_ret rfl rfl rfl ⟨by decide +kernel, _, rfl, rfl⟩ (Nat.le_refl _) (Nat.le_refl _)
  refine es_blk (pc' := 25) (L' := [some (.ref 127), some (.int p0), some (.int 0)]) (st' := []) [(.iconst 0, 0), (.istore_n 2, 0)] (by decide +kernel) rfl rfl ?_
  refine ef_loop1 (n := eh_FU) (i := (0, s)) (px := 86) (fun (t4 : Int32 × eh_F) => [some (.ref 127), some (.int p0), some (.int t4.1)]) (fun (t4 : Int32 × eh_F) => []) (fun (t4 : Int32 × eh_F) => eh_FW t4.2) (fun (e5 : eh_F) => [some (.ref 127), some (.int p0), none]) (fun (e5 : eh_F) => []) (fun (e5 : eh_F) => eh_FW e5) (fun e5 => ?_) (fun K11 HxK11_0 r12 Hr12 t4 => ?_)
  · refine es_blk (pc' := 87) (L' := [some (.ref 127), some (.int p0), none]) (st' := [.ref 127]) [(.aload_n 0, 0)] (by decide +kernel) rfl rfl ?_
    refine ef_getP (k := 127) (j := 30) (q := 155) rfl eL_12_94 rfl rfl rfl (by decide +kernel) ?_
    refine es_blk (pc' := 92) (L' := [some (.ref 127), some (.int p0), none]) (st' := [.int 0, .int p0, .ref 155]) [(.iload_n 1, 0), (.iconst 0, 0)] (by decide +kernel) rfl rfl ?_
    refine ef_ast (k := 155) rfl (by decide +kernel) (fun _ => ?_)
    refine ef_V (fun _ => [some (.ref 127), some (.int p0), none]) (fun _ => []) (fun s6 => eh_FW s6) (fun s6 => ?_)
    refine es_blk (pc' := 94) (L' := [some (.ref 127), some (.int p0), none]) (st' := [.ref 127]) [(.aload_n 0, 0)] (by decide +kernel) rfl rfl ?_
    refine ef_getI (k := 127) (j := 67) rfl eL_12_311 (by decide) (by decide +kernel) ?_
    refine es_blk (pc' := 98) (L' := [some (.ref 127), some (.int p0), none]) (st' := [.int p0, .int (s6.1 127 67)]) [(.iload_n 1, 0)] (by decide +kernel) rfl rfl ?_
    refine ef_J (X := fun j7 => ∀ (s8 : eh_F), eh_Sim g eM_12_destroy (eh_R 4 0 0) eh_eI 0 0 106 [none, none, none] [] (eh_FW s8) ((j7 s8).bind some)) ?_ (fun j7 Hj7 => ?_)
    · intro s8
      refine es_blk (pc' := 107) (L' := [none, none, none]) (st' := [.int 0]) [(.iconst 0, 0)] (by decide +kernel) rfl rfl ?_
      exact es_ret rfl rfl rfl ⟨by decide +kernel, _, rfl, rfl⟩ (Nat.le_refl _) (Nat.le_refl _)
    refine es_ine (tgt := 106) (off := (8)) (by decide +kernel) (by decide) (fun h9 => ?_) (fun h9 => ?_)
    · refine es_blk (pc' := 103) (L' := [some (.ref 127), some (.int p0), none]) (st' := [.int (-1), .ref 127]) [(.aload_n 0, 0), (.iconst (-1), (-1))] (by decide +kernel) rfl rfl ?_
      refine ef_veV (d := 1) (k := 127) (As := [.int (-1)]) (st := []) eV_12_clearPath eK_12_308 (eS_12_clearPath g s6 (-1)) rfl rfl (Nat.le_of_ble_eq_true rfl) rfl (Nat.le_of_ble_eq_true rfl) ⟨Nat.le_of_ble_eq_true rfl, Nat.le_of_ble_eq_true rfl⟩ ⟨Nat.le_refl _, Nat.le_refl _⟩ (by decide +kernel) (fun q10 _ => ?_)
      refine ef_drop (L2 := [none, none, none]) [false, false, true] rfl rfl ?_
      exact Hj7 _
    refine ef_drop (L2 := [none, none, none]) [false, false, true] rfl rfl ?_
    exact Hj7 _
  · refine es_blk (pc' := 28) (L' := [some (.ref 127), some (.int p0), some (.int t4.1)]) (st' := [.int 12, .int t4.1]) [(.iload_n 2, 0), (.bipush 12, 12)] (by decide +kernel) rfl rfl ?_
    refine es_ige (tgt := 86) (off := (58)) (by decide +kernel) (by decide) (fun h13 => ?_) (fun h13 => ?_)
    · refine es_blk (pc' := 32) (L' := [some (.ref 127), some (.int p0), some (.int t4.1)]) (st' := [.ref 127]) [(.aload_n 0, 0)] (by decide +kernel) rfl rfl ?_
      refine ef_getP (k := 127) (j := 39) (q := 164) rfl eL_12_121 rfl rfl rfl (by decide +kernel) ?_
      refine es_blk (pc' := 36) (L' := [some (.ref 127), some (.int p0), some (.int t4.1)]) (st' := [.int t4.1, .ref 164]) [(.iload_n 2, 0)] (by decide +kernel) rfl rfl ?_
      refine ef_ald (k := 164) rfl (Or.inl ⟨rfl, rfl⟩) (by decide +kernel) (fun _ => ?_)
      refine ef_J (X := fun j14 => ∀ (s15 : eh_F), eh_Sim g eM_12_destroy (eh_R 4 0 0) eh_eI 0 0 54 [some (.ref 127), some (.int p0), some (.int t4.1)] [] (eh_FW s15) ((j14 s15).bind K11)) ?_ (fun j14 Hj14 => ?_)
      · intro s15
        refine es_blk (pc' := 55) (L' := [some (.ref 127), some (.int p0), some (.int t4.1)]) (st' := [.ref 127]) [(.aload_n 0, 0)] (by decide +kernel) rfl rfl ?_
        refine ef_getP (k := 127) (j := 23) (q := 148) rfl eL_12_73 rfl rfl rfl (by decide +kernel) ?_
        refine es_blk (pc' := 60) (L' := [some (.ref 127), some (.int p0), some (.int t4.1)]) (st' := [.ref 127, .int t4.1, .ref 148]) [(.iload_n 2, 0), (.aload_n 0, 0)] (by decide +kernel) rfl rfl ?_
        refine ef_getP (k := 127) (j := 24) (q := 149) rfl eL_12_76 rfl rfl rfl (by decide +kernel) ?_
        refine es_blk (pc' := 64) (L' := [some (.ref 127), some (.int p0), some (.int t4.1)]) (st' := [.int t4.1, .ref 149, .int t4.1, .ref 148]) [(.iload_n 2, 0)] (by decide +kernel) rfl rfl ?_
        refine ef_ald (k := 149) rfl (Or.inl ⟨rfl, rfl⟩) (by decide +kernel) (fun _ => ?_)
        refine es_blk (pc' := 66) (L' := [some (.ref 127), some (.int p0), some (.int t4.1)]) (st' := [.int p0, .int (s15.1 149 (eh_ix t4.1)), .int t4.1, .ref 148]) [(.iload_n 1, 0)] (by decide +kernel) rfl rfl ?_
        refine ef_J (X := fun j16 => ∀ (a17 : Int32), eh_Sim g eM_12_destroy (eh_R 4 0 0) eh_eI 0 0 79 [some (.ref 127), some (.int p0), some (.int t4.1)] [.int a17, .int t4.1, .ref 148] (eh_FW s15) ((j16 a17).bind K11)) ?_ (fun j16 Hj16 => ?_)
        · intro a17
          refine ef_ast (k := 148) rfl (by decide +kernel) (fun _ => ?_)
          refine ef_V (fun _ => [some (.ref 127), some (.int p0), some (.int t4.1)]) (fun _ => []) (fun s18 => eh_FW s18) (fun s18 => ?_)
          refine es_blk (pc' := 83) (L' := [some (.ref 127), some (.int p0), some (.int (t4.1 + 1))]) (st' := []) [(.iinc 2 1, 1)] (by decide +kernel) rfl rfl ?_
          refine ef_V (fun x19 => [some (.ref 127), some (.int p0), some (.int x19)]) (fun _ => []) (fun _ => eh_FW s18) (fun x19 => ?_)
          refine es_goto (tgt := 25) (off := (-58)) (by decide +kernel) (by decide) ?_
          exact Hr12 (x19, s18)
        refine es_ine (tgt := 73) (off := (7)) (by decide +kernel) (by decide) (fun h20 => ?_) (fun h20 => ?_)
        · refine es_blk (pc' := 70) (L' := [some (.ref 127), some (.int p0), some (.int t4.1)]) (st' := [.int 0, .int t4.1, .ref 148]) [(.iconst 0, 0)] (by decide +kernel) rfl rfl ?_
          refine es_goto (tgt := 79) (off := (9)) (by decide +kernel) (by decide) ?_
          exact Hj16 _
        refine es_blk (pc' := 74) (L' := [some (.ref 127), some (.int p0), some (.int t4.1)]) (st' := [.ref 127, .int t4.1, .ref 148]) [(.aload_n 0, 0)] (by decide +kernel) rfl rfl ?_
        refine ef_getP (k := 127) (j := 23) (q := 148) rfl eL_12_73 rfl rfl rfl (by decide +kernel) ?_
        refine es_blk (pc' := 78) (L' := [some (.ref 127), some (.int p0), some (.int t4.1)]) (st' := [.int t4.1, .ref 148, .int t4.1, .ref 148]) [(.iload_n 2, 0)] (by decide +kernel) rfl rfl ?_
        refine ef_ald (k := 148) rfl (Or.inl ⟨rfl, rfl⟩) (by decide +kernel) (fun _ => ?_)
        exact Hj16 _
      refine es_eq (tgt := 54) (off := (17)) (by decide +kernel) (by decide) (fun h21 => ?_) (fun h21 => ?_)
      · exact Hj14 _
      refine es_blk (pc' := 43) (L' := [some (.ref 127), some (.int p0), some (.int t4.1)]) (st' := [.int p0, .int t4.1, .ref 127]) [(.aload_n 0, 0), (.iload_n 2, 0), (.iload_n 1, 0)] (by decide +kernel) rfl rfl ?_
      refine ef_vpI (d := 1) (k := 127) (As := [.int t4.1, .int p0]) (st := []) eV_12_isOf eK_12_330 (eS_12_isOf g t4.2 t4.1 p0) rfl rfl (Nat.le_of_ble_eq_true rfl) rfl (Nat.le_of_ble_eq_true rfl) ⟨Nat.le_of_ble_eq_true rfl, Nat.le_of_ble_eq_true rfl⟩ ⟨Nat.le_refl _, Nat.le_refl _⟩ (by decide +kernel) (fun q22 _ => ?_)
      refine es_eq (tgt := 54) (off := (8)) (by decide +kernel) (by decide) (fun h23 => ?_) (fun h23 => ?_)
      · exact Hj14 _
      refine es_blk (pc' := 51) (L' := [some (.ref 127), some (.int p0), some (.int t4.1)]) (st' := [.int t4.1, .ref 127]) [(.aload_n 0, 0), (.iload_n 2, 0)] (by decide +kernel) rfl rfl ?_
      refine ef_veV (d := 3) (k := 127) (As := [.int t4.1]) (st := []) eV_12_drop eK_12_543 (eS_12_drop g t4.2 t4.1) rfl rfl (Nat.le_of_ble_eq_true rfl) rfl (Nat.le_of_ble_eq_true rfl) ⟨Nat.le_of_ble_eq_true rfl, Nat.le_of_ble_eq_true rfl⟩ ⟨Nat.le_refl _, Nat.le_refl _⟩ (by decide +kernel) (fun q24 _ => ?_)
      exact Hj14 _
    refine ef_drop (L2 := [some (.ref 127), some (.int p0), none]) [true, true, false] rfl rfl ?_
    exact HxK11_0 t4.2
def eF_12_share (s : eh_F) (p0 : Int32) (p1 : Int32) (p2 : Int32) (p3 : Int32) : Option (Int32 × eh_F) := Option.bind (eF_12_isEnclave s p1) (fun q1 => eh_J (fun (u3 : Unit) => some ((-1), s)) (fun j2 => if q1 = 0 then (j2 ()) else (Option.bind (eF_12_isSpan s p2 p3) (fun q5 => if q5 = 0 then (j2 ()) else (eh_J (fun (u8 : Unit) => some ((-2), s)) (fun j7 => eh_J (fun (u10 : Unit) => Option.bind (eF_12_isOverlap s p2 p3) (fun q11 => if q11 = 0 then (Option.bind (eF_12_free s 164 12) (fun q13 => eh_J (fun (a15 : Int32) (s16 : eh_F) => some (a15, s16)) (fun j14 => if q13 = (-1) then (j14 (-5) s) else (eh_J (fun (a19 : Int32) => Option.bind (eF_12_makeRegion s a19 p2 p3 p1 (-1)) (fun q20 => j14 q20.1 q20.2)) (fun j18 => if p0 = 9 then (j18 2) else (j18 4)))))) else (some ((-4), s)))) (fun j9 => if p0 = 9 then (if eh_in p1 6 then if (s.1 155 (eh_ix p1)) = 3 then (j7 ()) else (j9 ()) else none) else (if eh_in p1 6 then if (s.1 155 (eh_ix p1)) = 2 then (j9 ()) else (j7 ()) else none))))))))
set_option maxHeartbeats 4000000 in
set_option maxRecDepth 100000 in
theorem eS_12_share (g : eh_P) (s : eh_F) (p0 : Int32) (p1 : Int32) (p2 : Int32) (p3 : Int32) : eh_Sim g eM_12_share (eh_R 4 0 0) eh_eI 0 0 0 (eh_en 5 [.ref 127, .int p0, .int p1, .int p2, .int p3]) [] (eh_FW s) (eF_12_share s p0 p1 p2 p3) := by
  unfold eF_12_share
  refine ef_top (L := [some (.ref 127), some (.int p0), some (.int p1), some (.int p2), some (.int p3)]) rfl ?_
  refine es_blk (pc' := 2) (L' := [some (.ref 127), some (.int p0), some (.int p1), some (.int p2), some (.int p3)]) (st' := [.int p1, .ref 127]) [(.aload_n 0, 0), (.iload_n 2, 0)] (by decide +kernel) rfl rfl ?_
  refine ef_vpI (d := 1) (k := 127) (As := [.int p1]) (st := []) eV_12_isEnclave eK_12_549 (eS_12_isEnclave g s p1) rfl rfl (Nat.le_of_ble_eq_true rfl) rfl (Nat.le_of_ble_eq_true rfl) ⟨Nat.le_of_ble_eq_true rfl, Nat.le_of_ble_eq_true rfl⟩ ⟨Nat.le_refl _, Nat.le_refl _⟩ (by decide +kernel) (fun q1 _ => ?_)
  refine ef_J (X := fun j2 => ∀ (u3 : Unit), eh_Sim g eM_12_share (eh_R 4 0 0) eh_eI 0 0 17 [none, none, none, none, none] [] (eh_FW s) ((j2 u3).bind some)) ?_ (fun j2 Hj2 => ?_)
  · intro u3
    refine es_blk (pc' := 18) (L' := [none, none, none, none, none]) (st' := [.int (-1)]) [(.iconst (-1), (-1))] (by decide +kernel) rfl rfl ?_
    exact es_ret rfl rfl rfl ⟨by decide +kernel, _, rfl, rfl⟩ (Nat.le_refl _) (Nat.le_refl _)
  refine es_eq (tgt := 17) (off := (12)) (by decide +kernel) (by decide) (fun h4 => ?_) (fun h4 => ?_)
  · refine ef_drop (L2 := [none, none, none, none, none]) [false, false, false, false, false] rfl rfl ?_
    exact Hj2 ()
  refine es_blk (pc' := 11) (L' := [some (.ref 127), some (.int p0), some (.int p1), some (.int p2), some (.int p3)]) (st' := [.int p3, .int p2]) [(.iload_n 3, 0), (.iload 4, 0)] (by decide +kernel) rfl rfl ?_
  refine ef_spI (d := 1) (As := [.int p2, .int p3]) (st := []) eV_12_isSpan eK_12_560 (eS_12_isSpan g s p2 p3) rfl (Nat.le_of_ble_eq_true rfl) rfl (Nat.le_of_ble_eq_true rfl) ⟨Nat.le_of_ble_eq_true rfl, Nat.le_of_ble_eq_true rfl⟩ ⟨Nat.le_refl _, Nat.le_refl _⟩ (by decide +kernel) (fun q5 _ => ?_)
  refine es_ne (tgt := 19) (off := (5)) (by decide +kernel) (by decide) (fun h6 => ?_) (fun h6 => ?_)
  · refine ef_drop (L2 := [none, none, none, none, none]) [false, false, false, false, false] rfl rfl ?_
    exact Hj2 ()
  refine es_blk (pc' := 22) (L' := [some (.ref 127), some (.int p0), some (.int p1), some (.int p2), some (.int p3)]) (st' := [.int 9, .int p0]) [(.iload_n 1, 0), (.bipush 9, 9)] (by decide +kernel) rfl rfl ?_
  refine ef_J (X := fun j7 => ∀ (u8 : Unit), eh_Sim g eM_12_share (eh_R 4 0 0) eh_eI 0 0 48 [none, none, none, none, none] [] (eh_FW s) ((j7 u8).bind some)) ?_ (fun j7 Hj7 => ?_)
  · intro u8
    refine es_blk (pc' := 50) (L' := [none, none, none, none, none]) (st' := [.int (-2)]) [(.bipush (-2), (-2))] (by decide +kernel) rfl rfl ?_
    exact es_ret rfl rfl rfl ⟨by decide +kernel, _, rfl, rfl⟩ (Nat.le_refl _) (Nat.le_refl _)
  refine ef_J (X := fun j9 => ∀ (u10 : Unit), eh_Sim g eM_12_share (eh_R 4 0 0) eh_eI 0 0 51 [some (.ref 127), some (.int p0), some (.int p1), some (.int p2), some (.int p3)] [] (eh_FW s) ((j9 u10).bind some)) ?_ (fun j9 Hj9 => ?_)
  · intro u10
    refine es_blk (pc' := 55) (L' := [some (.ref 127), some (.int p0), some (.int p1), some (.int p2), some (.int p3)]) (st' := [.int p3, .int p2, .ref 127]) [(.aload_n 0, 0), (.iload_n 3, 0), (.iload 4, 0)] (by decide +kernel) rfl rfl ?_
    refine ef_vpI (d := 1) (k := 127) (As := [.int p2, .int p3]) (st := []) eV_12_isOverlap eK_12_563 (eS_12_isOverlap g s p2 p3) rfl rfl (Nat.le_of_ble_eq_true rfl) rfl (Nat.le_of_ble_eq_true rfl) ⟨Nat.le_of_ble_eq_true rfl, Nat.le_of_ble_eq_true rfl⟩ ⟨Nat.le_refl _, Nat.le_refl _⟩ (by decide +kernel) (fun q11 _ => ?_)
    refine es_eq (tgt := 64) (off := (6)) (by decide +kernel) (by decide) (fun h12 => ?_) (fun h12 => ?_)
    · refine es_blk (pc' := 65) (L' := [some (.ref 127), some (.int p0), some (.int p1), some (.int p2), some (.int p3)]) (st' := [.ref 127]) [(.aload_n 0, 0)] (by decide +kernel) rfl rfl ?_
      refine ef_getP (k := 127) (j := 39) (q := 164) rfl eL_12_121 rfl rfl rfl (by decide +kernel) ?_
      refine ef_spI (d := 1) (As := [.ref 164]) (st := []) eV_12_free eK_12_506 (eS_12_free g s 164 12 rfl) rfl (Nat.le_of_ble_eq_true rfl) rfl (Nat.le_of_ble_eq_true rfl) ⟨Nat.le_of_ble_eq_true rfl, Nat.le_of_ble_eq_true rfl⟩ ⟨Nat.le_refl _, Nat.le_refl _⟩ (by decide +kernel) (fun q13 _ => ?_)
      refine es_blk (pc' := 72) (L' := [some (.ref 127), some (.int p0), some (.int p1), some (.int p2), some (.int p3)]) (st' := [.int (-1), .int q13]) [(.iconst (-1), (-1))] (by decide +kernel) rfl rfl ?_
      refine ef_J (X := fun j14 => ∀ (a15 : Int32) (s16 : eh_F), eh_Sim g eM_12_share (eh_R 4 0 0) eh_eI 0 0 100 [none, none, none, none, none] [.int a15] (eh_FW s16) ((j14 a15 s16).bind some)) ?_ (fun j14 Hj14 => ?_)
      · intro a15 s16
        exact es_ret rfl rfl rfl ⟨by decide +kernel, _, rfl, rfl⟩ (Nat.le_refl _) (Nat.le_refl _)
      refine es_ine (tgt := 80) (off := (8)) (by decide +kernel) (by decide) (fun h17 => ?_) (fun h17 => ?_)
      · refine es_blk (pc' := 77) (L' := [some (.ref 127), some (.int p0), some (.int p1), some (.int p2), some (.int p3)]) (st' := [.int (-5)]) [(.bipush (-5), (-5))] (by decide +kernel) rfl rfl ?_
        refine es_goto (tgt := 100) (off := (23)) (by decide +kernel) (by decide) ?_
        refine ef_drop (L2 := [none, none, none, none, none]) [false, false, false, false, false] rfl rfl ?_
        exact Hj14 _ _
      refine es_blk (pc' := 84) (L' := [some (.ref 127), some (.int p0), some (.int p1), some (.int p2), some (.int p3)]) (st' := [.int 9, .int p0, .ref 127]) [(.aload_n 0, 0), (.iload_n 1, 0), (.bipush 9, 9)] (by decide +kernel) rfl rfl ?_
      refine ef_J (X := fun j18 => ∀ (a19 : Int32), eh_Sim g eM_12_share (eh_R 4 0 0) eh_eI 0 0 92 [none, none, some (.int p1), some (.int p2), some (.int p3)] [.int a19, .ref 127] (eh_FW s) ((j18 a19).bind some)) ?_ (fun j18 Hj18 => ?_)
      · intro a19
        refine es_blk (pc' := 97) (L' := [none, none, some (.int p1), some (.int p2), some (.int p3)]) (st' := [.int (-1), .int p1, .int p3, .int p2, .int a19, .ref 127]) [(.iload_n 3, 0), (.iload 4, 0), (.iload_n 2, 0), (.iconst (-1), (-1))] (by decide +kernel) rfl rfl ?_
        refine ef_veI (d := 3) (k := 127) (As := [.int a19, .int p2, .int p3, .int p1, .int (-1)]) (st := []) eV_12_makeRegion eK_12_566 (eS_12_makeRegion g s a19 p2 p3 p1 (-1)) rfl rfl (Nat.le_of_ble_eq_true rfl) rfl (Nat.le_of_ble_eq_true rfl) ⟨Nat.le_of_ble_eq_true rfl, Nat.le_of_ble_eq_true rfl⟩ ⟨Nat.le_refl _, Nat.le_refl _⟩ (by decide +kernel) (fun q20 _ => ?_)
        refine ef_drop (L2 := [none, none, none, none, none]) [true, true, false, false, false] rfl rfl ?_
        exact Hj14 _ _
      refine es_ine (tgt := 91) (off := (7)) (by decide +kernel) (by decide) (fun h21 => ?_) (fun h21 => ?_)
      · refine es_blk (pc' := 88) (L' := [some (.ref 127), some (.int p0), some (.int p1), some (.int p2), some (.int p3)]) (st' := [.int 2, .ref 127]) [(.iconst 2, 2)] (by decide +kernel) rfl rfl ?_
        refine es_goto (tgt := 92) (off := (4)) (by decide +kernel) (by decide) ?_
        refine ef_drop (L2 := [none, none, some (.int p1), some (.int p2), some (.int p3)]) [false, false, true, true, true] rfl rfl ?_
        exact Hj18 _
      refine es_blk (pc' := 92) (L' := [some (.ref 127), some (.int p0), some (.int p1), some (.int p2), some (.int p3)]) (st' := [.int 4, .ref 127]) [(.iconst 4, 4)] (by decide +kernel) rfl rfl ?_
      refine ef_drop (L2 := [none, none, some (.int p1), some (.int p2), some (.int p3)]) [false, false, true, true, true] rfl rfl ?_
      exact Hj18 _
    refine es_blk (pc' := 63) (L' := [some (.ref 127), some (.int p0), some (.int p1), some (.int p2), some (.int p3)]) (st' := [.int (-4)]) [(.bipush (-4), (-4))] (by decide +kernel) rfl rfl ?_
    exact es_ret rfl rfl rfl ⟨by decide +kernel, _, rfl, rfl⟩ (Nat.le_refl _) (Nat.le_refl _)
  refine es_ine (tgt := 38) (off := (16)) (by decide +kernel) (by decide) (fun h22 => ?_) (fun h22 => ?_)
  · refine es_blk (pc' := 26) (L' := [some (.ref 127), some (.int p0), some (.int p1), some (.int p2), some (.int p3)]) (st' := [.ref 127]) [(.aload_n 0, 0)] (by decide +kernel) rfl rfl ?_
    refine ef_getP (k := 127) (j := 30) (q := 155) rfl eL_12_94 rfl rfl rfl (by decide +kernel) ?_
    refine es_blk (pc' := 30) (L' := [some (.ref 127), some (.int p0), some (.int p1), some (.int p2), some (.int p3)]) (st' := [.int p1, .ref 155]) [(.iload_n 2, 0)] (by decide +kernel) rfl rfl ?_
    refine ef_ald (k := 155) rfl (Or.inl ⟨rfl, rfl⟩) (by decide +kernel) (fun _ => ?_)
    refine es_blk (pc' := 32) (L' := [some (.ref 127), some (.int p0), some (.int p1), some (.int p2), some (.int p3)]) (st' := [.int 3, .int (s.1 155 (eh_ix p1))]) [(.iconst 3, 3)] (by decide +kernel) rfl rfl ?_
    refine es_ine (tgt := 51) (off := (19)) (by decide +kernel) (by decide) (fun h23 => ?_) (fun h23 => ?_)
    · refine es_goto (tgt := 48) (off := (13)) (by decide +kernel) (by decide) ?_
      refine ef_drop (L2 := [none, none, none, none, none]) [false, false, false, false, false] rfl rfl ?_
      exact Hj7 ()
    exact Hj9 ()
  refine es_blk (pc' := 39) (L' := [some (.ref 127), some (.int p0), some (.int p1), some (.int p2), some (.int p3)]) (st' := [.ref 127]) [(.aload_n 0, 0)] (by decide +kernel) rfl rfl ?_
  refine ef_getP (k := 127) (j := 30) (q := 155) rfl eL_12_94 rfl rfl rfl (by decide +kernel) ?_
  refine es_blk (pc' := 43) (L' := [some (.ref 127), some (.int p0), some (.int p1), some (.int p2), some (.int p3)]) (st' := [.int p1, .ref 155]) [(.iload_n 2, 0)] (by decide +kernel) rfl rfl ?_
  refine ef_ald (k := 155) rfl (Or.inl ⟨rfl, rfl⟩) (by decide +kernel) (fun _ => ?_)
  refine es_blk (pc' := 45) (L' := [some (.ref 127), some (.int p0), some (.int p1), some (.int p2), some (.int p3)]) (st' := [.int 2, .int (s.1 155 (eh_ix p1))]) [(.iconst 2, 2)] (by decide +kernel) rfl rfl ?_
  refine es_ieq (tgt := 51) (off := (6)) (by decide +kernel) (by decide) (fun h24 => ?_) (fun h24 => ?_)
  · exact Hj9 ()
  refine ef_drop (L2 := [none, none, none, none, none]) [false, false, false, false, false] rfl rfl ?_
  exact Hj7 ()
def eF_12_link (s : eh_F) (p0 : Int32) (p1 : Int32) (p2 : Int32) (p3 : Int32) : Option (Int32 × eh_F) := Option.bind (eF_12_isEnclave s p0) (fun q1 => eh_J (fun (u3 : Unit) => some ((-1), s)) (fun j2 => if q1 = 0 then (j2 ()) else (Option.bind (eF_12_isEnclave s p1) (fun q5 => if q5 = 0 then (j2 ()) else (if p0 = p1 then (j2 ()) else (Option.bind (eF_12_isSpan s p2 p3) (fun q8 => if q8 = 0 then (j2 ()) else (if eh_in p0 6 then eh_J (fun (u11 : Unit) => some ((-2), s)) (fun j10 => if (s.1 155 (eh_ix p0)) = 3 then (j10 ()) else (if eh_in p1 6 then if (s.1 155 (eh_ix p1)) = 3 then (j10 ()) else (Option.bind (eF_12_isOverlap s p2 p3) (fun q14 => if q14 = 0 then (Option.bind (eF_12_free s 164 12) (fun q16 => eh_J (fun (a18 : Int32) (s19 : eh_F) => some (a18, s19)) (fun j17 => if q16 = (-1) then (j17 (-5) s) else (Option.bind (eF_12_makeRegion s 3 p2 p3 p0 p1) (fun q21 => j17 q21.1 q21.2))))) else (some ((-4), s)))) else none)) else none))))))))
set_option maxHeartbeats 4000000 in
set_option maxRecDepth 100000 in
theorem eS_12_link (g : eh_P) (s : eh_F) (p0 : Int32) (p1 : Int32) (p2 : Int32) (p3 : Int32) : eh_Sim g eM_12_link (eh_R 4 0 0) eh_eI 0 0 0 (eh_en 5 [.ref 127, .int p0, .int p1, .int p2, .int p3]) [] (eh_FW s) (eF_12_link s p0 p1 p2 p3) := by
  unfold eF_12_link
  refine ef_top (L := [some (.ref 127), some (.int p0), some (.int p1), some (.int p2), some (.int p3)]) rfl ?_
  refine es_blk (pc' := 2) (L' := [some (.ref 127), some (.int p0), some (.int p1), some (.int p2), some (.int p3)]) (st' := [.int p0, .ref 127]) [(.aload_n 0, 0), (.iload_n 1, 0)] (by decide +kernel) rfl rfl ?_
  refine ef_vpI (d := 1) (k := 127) (As := [.int p0]) (st := []) eV_12_isEnclave eK_12_549 (eS_12_isEnclave g s p0) rfl rfl (Nat.le_of_ble_eq_true rfl) rfl (Nat.le_of_ble_eq_true rfl) ⟨Nat.le_of_ble_eq_true rfl, Nat.le_of_ble_eq_true rfl⟩ ⟨Nat.le_refl _, Nat.le_refl _⟩ (by decide +kernel) (fun q1 _ => ?_)
  refine ef_J (X := fun j2 => ∀ (u3 : Unit), eh_Sim g eM_12_link (eh_R 4 0 0) eh_eI 0 0 30 [none, none, none, none, none] [] (eh_FW s) ((j2 u3).bind some)) ?_ (fun j2 Hj2 => ?_)
  · intro u3
    refine es_blk (pc' := 31) (L' := [none, none, none, none, none]) (st' := [.int (-1)]) [(.iconst (-1), (-1))] (by decide +kernel) rfl rfl ?_
    exact es_ret rfl rfl rfl ⟨by decide +kernel, _, rfl, rfl⟩ (Nat.le_refl _) (Nat.le_refl _)
  refine es_eq (tgt := 30) (off := (25)) (by decide +kernel) (by decide) (fun h4 => ?_) (fun h4 => ?_)
  · refine ef_drop (L2 := [none, none, none, none, none]) [false, false, false, false, false] rfl rfl ?_
    exact Hj2 ()
  refine es_blk (pc' := 10) (L' := [some (.ref 127), some (.int p0), some (.int p1), some (.int p2), some (.int p3)]) (st' := [.int p1, .ref 127]) [(.aload_n 0, 0), (.iload_n 2, 0)] (by decide +kernel) rfl rfl ?_
  refine ef_vpI (d := 1) (k := 127) (As := [.int p1]) (st := []) eV_12_isEnclave eK_12_549 (eS_12_isEnclave g s p1) rfl rfl (Nat.le_of_ble_eq_true rfl) rfl (Nat.le_of_ble_eq_true rfl) ⟨Nat.le_of_ble_eq_true rfl, Nat.le_of_ble_eq_true rfl⟩ ⟨Nat.le_refl _, Nat.le_refl _⟩ (by decide +kernel) (fun q5 _ => ?_)
  refine es_eq (tgt := 30) (off := (17)) (by decide +kernel) (by decide) (fun h6 => ?_) (fun h6 => ?_)
  · refine ef_drop (L2 := [none, none, none, none, none]) [false, false, false, false, false] rfl rfl ?_
    exact Hj2 ()
  refine es_blk (pc' := 18) (L' := [some (.ref 127), some (.int p0), some (.int p1), some (.int p2), some (.int p3)]) (st' := [.int p1, .int p0]) [(.iload_n 1, 0), (.iload_n 2, 0)] (by decide +kernel) rfl rfl ?_
  refine es_ieq (tgt := 30) (off := (12)) (by decide +kernel) (by decide) (fun h7 => ?_) (fun h7 => ?_)
  · refine ef_drop (L2 := [none, none, none, none, none]) [false, false, false, false, false] rfl rfl ?_
    exact Hj2 ()
  refine es_blk (pc' := 24) (L' := [some (.ref 127), some (.int p0), some (.int p1), some (.int p2), some (.int p3)]) (st' := [.int p3, .int p2]) [(.iload_n 3, 0), (.iload 4, 0)] (by decide +kernel) rfl rfl ?_
  refine ef_spI (d := 1) (As := [.int p2, .int p3]) (st := []) eV_12_isSpan eK_12_560 (eS_12_isSpan g s p2 p3) rfl (Nat.le_of_ble_eq_true rfl) rfl (Nat.le_of_ble_eq_true rfl) ⟨Nat.le_of_ble_eq_true rfl, Nat.le_of_ble_eq_true rfl⟩ ⟨Nat.le_refl _, Nat.le_refl _⟩ (by decide +kernel) (fun q8 _ => ?_)
  refine es_ne (tgt := 32) (off := (5)) (by decide +kernel) (by decide) (fun h9 => ?_) (fun h9 => ?_)
  · refine ef_drop (L2 := [none, none, none, none, none]) [false, false, false, false, false] rfl rfl ?_
    exact Hj2 ()
  refine es_blk (pc' := 33) (L' := [some (.ref 127), some (.int p0), some (.int p1), some (.int p2), some (.int p3)]) (st' := [.ref 127]) [(.aload_n 0, 0)] (by decide +kernel) rfl rfl ?_
  refine ef_getP (k := 127) (j := 30) (q := 155) rfl eL_12_94 rfl rfl rfl (by decide +kernel) ?_
  refine es_blk (pc' := 37) (L' := [some (.ref 127), some (.int p0), some (.int p1), some (.int p2), some (.int p3)]) (st' := [.int p0, .ref 155]) [(.iload_n 1, 0)] (by decide +kernel) rfl rfl ?_
  refine ef_ald (k := 155) rfl (Or.inl ⟨rfl, rfl⟩) (by decide +kernel) (fun _ => ?_)
  refine es_blk (pc' := 39) (L' := [some (.ref 127), some (.int p0), some (.int p1), some (.int p2), some (.int p3)]) (st' := [.int 3, .int (s.1 155 (eh_ix p0))]) [(.iconst 3, 3)] (by decide +kernel) rfl rfl ?_
  refine ef_J (X := fun j10 => ∀ (u11 : Unit), eh_Sim g eM_12_link (eh_R 4 0 0) eh_eI 0 0 52 [none, none, none, none, none] [] (eh_FW s) ((j10 u11).bind some)) ?_ (fun j10 Hj10 => ?_)
  · intro u11
    refine es_blk (pc' := 54) (L' := [none, none, none, none, none]) (st' := [.int (-2)]) [(.bipush (-2), (-2))] (by decide +kernel) rfl rfl ?_
    exact es_ret rfl rfl rfl ⟨by decide +kernel, _, rfl, rfl⟩ (Nat.le_refl _) (Nat.le_refl _)
  refine es_ieq (tgt := 52) (off := (13)) (by decide +kernel) (by decide) (fun h12 => ?_) (fun h12 => ?_)
  · refine ef_drop (L2 := [none, none, none, none, none]) [false, false, false, false, false] rfl rfl ?_
    exact Hj10 ()
  refine es_blk (pc' := 43) (L' := [some (.ref 127), some (.int p0), some (.int p1), some (.int p2), some (.int p3)]) (st' := [.ref 127]) [(.aload_n 0, 0)] (by decide +kernel) rfl rfl ?_
  refine ef_getP (k := 127) (j := 30) (q := 155) rfl eL_12_94 rfl rfl rfl (by decide +kernel) ?_
  refine es_blk (pc' := 47) (L' := [some (.ref 127), some (.int p0), some (.int p1), some (.int p2), some (.int p3)]) (st' := [.int p1, .ref 155]) [(.iload_n 2, 0)] (by decide +kernel) rfl rfl ?_
  refine ef_ald (k := 155) rfl (Or.inl ⟨rfl, rfl⟩) (by decide +kernel) (fun _ => ?_)
  refine es_blk (pc' := 49) (L' := [some (.ref 127), some (.int p0), some (.int p1), some (.int p2), some (.int p3)]) (st' := [.int 3, .int (s.1 155 (eh_ix p1))]) [(.iconst 3, 3)] (by decide +kernel) rfl rfl ?_
  refine es_ine (tgt := 55) (off := (6)) (by decide +kernel) (by decide) (fun h13 => ?_) (fun h13 => ?_)
  · refine ef_drop (L2 := [none, none, none, none, none]) [false, false, false, false, false] rfl rfl ?_
    exact Hj10 ()
  refine es_blk (pc' := 59) (L' := [some (.ref 127), some (.int p0), some (.int p1), some (.int p2), some (.int p3)]) (st' := [.int p3, .int p2, .ref 127]) [(.aload_n 0, 0), (.iload_n 3, 0), (.iload 4, 0)] (by decide +kernel) rfl rfl ?_
  refine ef_vpI (d := 1) (k := 127) (As := [.int p2, .int p3]) (st := []) eV_12_isOverlap eK_12_563 (eS_12_isOverlap g s p2 p3) rfl rfl (Nat.le_of_ble_eq_true rfl) rfl (Nat.le_of_ble_eq_true rfl) ⟨Nat.le_of_ble_eq_true rfl, Nat.le_of_ble_eq_true rfl⟩ ⟨Nat.le_refl _, Nat.le_refl _⟩ (by decide +kernel) (fun q14 _ => ?_)
  refine es_eq (tgt := 68) (off := (6)) (by decide +kernel) (by decide) (fun h15 => ?_) (fun h15 => ?_)
  · refine es_blk (pc' := 69) (L' := [some (.ref 127), some (.int p0), some (.int p1), some (.int p2), some (.int p3)]) (st' := [.ref 127]) [(.aload_n 0, 0)] (by decide +kernel) rfl rfl ?_
    refine ef_getP (k := 127) (j := 39) (q := 164) rfl eL_12_121 rfl rfl rfl (by decide +kernel) ?_
    refine ef_spI (d := 1) (As := [.ref 164]) (st := []) eV_12_free eK_12_506 (eS_12_free g s 164 12 rfl) rfl (Nat.le_of_ble_eq_true rfl) rfl (Nat.le_of_ble_eq_true rfl) ⟨Nat.le_of_ble_eq_true rfl, Nat.le_of_ble_eq_true rfl⟩ ⟨Nat.le_refl _, Nat.le_refl _⟩ (by decide +kernel) (fun q16 _ => ?_)
    refine es_blk (pc' := 76) (L' := [some (.ref 127), some (.int p0), some (.int p1), some (.int p2), some (.int p3)]) (st' := [.int (-1), .int q16]) [(.iconst (-1), (-1))] (by decide +kernel) rfl rfl ?_
    refine ef_J (X := fun j17 => ∀ (a18 : Int32) (s19 : eh_F), eh_Sim g eM_12_link (eh_R 4 0 0) eh_eI 0 0 94 [none, none, none, none, none] [.int a18] (eh_FW s19) ((j17 a18 s19).bind some)) ?_ (fun j17 Hj17 => ?_)
    · intro a18 s19
      exact es_ret rfl rfl rfl ⟨by decide +kernel, _, rfl, rfl⟩ (Nat.le_refl _) (Nat.le_refl _)
    refine es_ine (tgt := 84) (off := (8)) (by decide +kernel) (by decide) (fun h20 => ?_) (fun h20 => ?_)
    · refine es_blk (pc' := 81) (L' := [some (.ref 127), some (.int p0), some (.int p1), some (.int p2), some (.int p3)]) (st' := [.int (-5)]) [(.bipush (-5), (-5))] (by decide +kernel) rfl rfl ?_
      refine es_goto (tgt := 94) (off := (13)) (by decide +kernel) (by decide) ?_
      refine ef_drop (L2 := [none, none, none, none, none]) [false, false, false, false, false] rfl rfl ?_
      exact Hj17 _ _
    refine es_blk (pc' := 91) (L' := [some (.ref 127), some (.int p0), some (.int p1), some (.int p2), some (.int p3)]) (st' := [.int p1, .int p0, .int p3, .int p2, .int 3, .ref 127]) [(.aload_n 0, 0), (.iconst 3, 3), (.iload_n 3, 0), (.iload 4, 0), (.iload_n 1, 0), (.iload_n 2, 0)] (by decide +kernel) rfl rfl ?_
    refine ef_veI (d := 3) (k := 127) (As := [.int 3, .int p2, .int p3, .int p0, .int p1]) (st := []) eV_12_makeRegion eK_12_566 (eS_12_makeRegion g s 3 p2 p3 p0 p1) rfl rfl (Nat.le_of_ble_eq_true rfl) rfl (Nat.le_of_ble_eq_true rfl) ⟨Nat.le_of_ble_eq_true rfl, Nat.le_of_ble_eq_true rfl⟩ ⟨Nat.le_refl _, Nat.le_refl _⟩ (by decide +kernel) (fun q21 _ => ?_)
    refine ef_drop (L2 := [none, none, none, none, none]) [false, false, false, false, false] rfl rfl ?_
    exact Hj17 _ _
  refine es_blk (pc' := 67) (L' := [some (.ref 127), some (.int p0), some (.int p1), some (.int p2), some (.int p3)]) (st' := [.int (-4)]) [(.bipush (-4), (-4))] (by decide +kernel) rfl rfl ?_
  exact es_ret rfl rfl rfl ⟨by decide +kernel, _, rfl, rfl⟩ (Nat.le_refl _) (Nat.le_refl _)
def eF_12_canRead (s : eh_F) (p0 : Int32) (p1 : Int32) (p2 : Int32) : Option (Int32 × eh_F) := Option.bind (eh_loop (fun (r5 : (Int32 × Int32 × eh_F) → Option (Int32 × eh_F)) (t1 : Int32 × Int32 × eh_F) => if t1.2.1 < p2 then (if t1.1 = 0 then (some (t1.1, t1.2.2)) else (eh_V ((((p1 + t1.2.1).toInt64) &&& 4294967295) : Int64) (fun x8 => Option.bind (eF_12_isLet t1.2.2 p0 x8 1 1) (fun q9 => eh_J (fun (s11 : eh_F) => eh_V ((t1.2.1 + 1) : Int32) (fun x12 => r5 (q9.1, x12, s11))) (fun j10 => if q9.1 = 0 then (j10 q9.2) else (if eh_in (x8.toInt32) 131072 then if eh_in t1.2.1 128 then eh_V (eh_tI q9.2 195 (eh_ix t1.2.1) (eh_nb (q9.2.1 128 (eh_ix (x8.toInt32))))) (fun s14 => j10 s14) else none else none)))))) else (some (t1.1, t1.2.2))) eh_FU (1, 0, s)) (fun (e2 : Int32 × eh_F) => if e2.1 = 0 ∨ e2.1 = 1 then some (e2.1, e2.2) else none)
set_option maxHeartbeats 4000000 in
set_option maxRecDepth 100000 in
theorem eS_12_canRead (g : eh_P) (s : eh_F) (p0 : Int32) (p1 : Int32) (p2 : Int32) : eh_Sim g eM_12_canRead (eh_R 4 0 0) eh_eI 0 0 0 (eh_en 8 [.ref 127, .int p0, .int p1, .int p2]) [] (eh_FW s) (eF_12_canRead s p0 p1 p2) := by
  unfold eF_12_canRead
  refine ef_top (L := [some (.ref 127), some (.int p0), some (.int p1), some (.int p2), none, none, none, none]) rfl ?_
  refine es_blk (pc' := 6) (L' := [some (.ref 127), some (.int p0), some (.int p1), some (.int p2), some (.int 1), some (.int 0), none, none]) (st' := []) [(.iconst 1, 1), (.istore 4, 0), (.iconst 0, 0), (.istore 5, 0)] (by decide +kernel) rfl rfl ?_
  refine ef_loop1 (n := eh_FU) (i := (1, 0, s)) (px := 65) (fun (t1 : Int32 × Int32 × eh_F) => [some (.ref 127), some (.int p0), some (.int p1), some (.int p2), some (.int t1.1), some (.int t1.2.1), none, none]) (fun (t1 : Int32 × Int32 × eh_F) => []) (fun (t1 : Int32 × Int32 × eh_F) => eh_FW t1.2.2) (fun (e2 : Int32 × eh_F) => [none, none, none, none, some (.int e2.1), none, none, none]) (fun (e2 : Int32 × eh_F) => []) (fun (e2 : Int32 × eh_F) => eh_FW e2.2) (fun e2 => ?_) (fun K4 HxK4_0 r5 Hr5 t1 => ?_)
  · refine es_blk (pc' := 67) (L' := [none, none, none, none, some (.int e2.1), none, none, none]) (st' := [.int e2.1]) [(.iload 4, 0)] (by decide +kernel) rfl rfl ?_
    refine es_chk (fun h3 => ?_)
    exact es_ret rfl rfl rfl ⟨by decide +kernel, _, rfl, eh_narZ h3⟩ (Nat.le_refl _) (Nat.le_refl _)
  · refine es_blk (pc' := 9) (L' := [some (.ref 127), some (.int p0), some (.int p1), some (.int p2), some (.int t1.1), some (.int t1.2.1), none, none]) (st' := [.int p2, .int t1.2.1]) [(.iload 5, 0), (.iload_n 3, 0)] (by decide +kernel) rfl rfl ?_
    refine es_ige (tgt := 65) (off := (56)) (by decide +kernel) (by decide) (fun h6 => ?_) (fun h6 => ?_)
    · refine es_blk (pc' := 14) (L' := [some (.ref 127), some (.int p0), some (.int p1), some (.int p2), some (.int t1.1), some (.int t1.2.1), none, none]) (st' := [.int t1.1]) [(.iload 4, 0)] (by decide +kernel) rfl rfl ?_
      refine es_eq (tgt := 65) (off := (51)) (by decide +kernel) (by decide) (fun h7 => ?_) (fun h7 => ?_)
      · refine ef_drop (L2 := [none, none, none, none, some (.int t1.1), none, none, none]) [false, false, false, false, true, false, true, true] rfl rfl ?_
        exact HxK4_0 (t1.1, t1.2.2)
      refine es_blk (pc' := 22) (L' := [some (.ref 127), some (.int p0), some (.int p1), some (.int p2), some (.int t1.1), some (.int t1.2.1), none, none]) (st' := [.long ((p1 + t1.2.1).toInt64)]) [(.iload_n 2, 0), (.iload 5, 0), (.iadd, 0), (.i2l, 0)] (by decide +kernel) rfl rfl ?_
      refine es_ldc2 (v := 4294967295) eC_12_346 (by decide +kernel) ?_
      refine es_blk (pc' := 28) (L' := [some (.ref 127), some (.int p0), some (.int p1), some (.int p2), some (.int t1.1), some (.int t1.2.1), some (.long (((p1 + t1.2.1).toInt64) &&& 4294967295)), none]) (st' := []) [(.land, 0), (.lstore 6, 0)] (by decide +kernel) rfl rfl ?_
      refine ef_V (fun x8 => [some (.ref 127), some (.int p0), some (.int p1), some (.int p2), some (.int t1.1), some (.int t1.2.1), some (.long x8), none]) (fun _ => []) (fun _ => eh_FW t1.2.2) (fun x8 => ?_)
      refine es_blk (pc' := 34) (L' := [some (.ref 127), some (.int p0), some (.int p1), some (.int p2), some (.int t1.1), some (.int t1.2.1), some (.long x8), none]) (st' := [.int 1, .int 1, .long x8, .int p0, .ref 127]) [(.aload_n 0, 0), (.iload_n 1, 0), (.lload 6, 0), (.iconst 1, 1), (.iconst 1, 1)] (by decide +kernel) rfl rfl ?_
      refine ef_veI (d := 3) (k := 127) (As := [.int p0, .long x8, .int 1, .int 1]) (st := []) eV_12_isLet eK_12_352 (eS_12_isLet g t1.2.2 p0 x8 1 1) rfl rfl (Nat.le_of_ble_eq_true rfl) rfl (Nat.le_of_ble_eq_true rfl) ⟨Nat.le_of_ble_eq_true rfl, Nat.le_of_ble_eq_true rfl⟩ ⟨Nat.le_refl _, Nat.le_refl _⟩ (by decide +kernel) (fun q9 _ => ?_)
      refine es_blk (pc' := 41) (L' := [some (.ref 127), some (.int p0), some (.int p1), some (.int p2), some (.int q9.1), some (.int t1.2.1), some (.long x8), none]) (st' := [.int q9.1]) [(.istore 4, 0), (.iload 4, 0)] (by decide +kernel) rfl rfl ?_
      refine ef_J (X := fun j10 => ∀ (s11 : eh_F), eh_Sim g eM_12_canRead (eh_R 4 0 0) eh_eI 0 0 59 [some (.ref 127), some (.int p0), some (.int p1), some (.int p2), some (.int q9.1), some (.int t1.2.1), none, none] [] (eh_FW s11) ((j10 s11).bind K4)) ?_ (fun j10 Hj10 => ?_)
      · intro s11
        refine es_blk (pc' := 62) (L' := [some (.ref 127), some (.int p0), some (.int p1), some (.int p2), some (.int q9.1), some (.int (t1.2.1 + 1)), none, none]) (st' := []) [(.iinc 5 1, 1)] (by decide +kernel) rfl rfl ?_
        refine ef_V (fun x12 => [some (.ref 127), some (.int p0), some (.int p1), some (.int p2), some (.int q9.1), some (.int x12), none, none]) (fun _ => []) (fun _ => eh_FW s11) (fun x12 => ?_)
        refine es_goto (tgt := 6) (off := (-56)) (by decide +kernel) (by decide) ?_
        exact Hr5 (q9.1, x12, s11)
      refine es_eq (tgt := 59) (off := (18)) (by decide +kernel) (by decide) (fun h13 => ?_) (fun h13 => ?_)
      · refine ef_drop (L2 := [some (.ref 127), some (.int p0), some (.int p1), some (.int p2), some (.int q9.1), some (.int t1.2.1), none, none]) [true, true, true, true, true, true, false, true] rfl rfl ?_
        exact Hj10 _
      refine es_blk (pc' := 45) (L' := [some (.ref 127), some (.int p0), some (.int p1), some (.int p2), some (.int q9.1), some (.int t1.2.1), some (.long x8), none]) (st' := [.ref 127]) [(.aload_n 0, 0)] (by decide +kernel) rfl rfl ?_
      refine ef_getP (k := 127) (j := 82) (q := 195) rfl eL_12_215 rfl rfl rfl (by decide +kernel) ?_
      refine es_blk (pc' := 51) (L' := [some (.ref 127), some (.int p0), some (.int p1), some (.int p2), some (.int q9.1), some (.int t1.2.1), some (.long x8), none]) (st' := [.ref 127, .int t1.2.1, .ref 195]) [(.iload 5, 0), (.aload_n 0, 0)] (by decide +kernel) rfl rfl ?_
      refine ef_getP (k := 127) (j := 0) (q := 128) rfl eL_12_10 rfl rfl rfl (by decide +kernel) ?_
      refine es_blk (pc' := 57) (L' := [some (.ref 127), some (.int p0), some (.int p1), some (.int p2), some (.int q9.1), some (.int t1.2.1), some (.long x8), none]) (st' := [.int (x8.toInt32), .ref 128, .int t1.2.1, .ref 195]) [(.lload 6, 0), (.l2i, 0)] (by decide +kernel) rfl rfl ?_
      refine ef_ald (k := 128) rfl (Or.inr ⟨Or.inl rfl, rfl⟩) (by decide +kernel) (fun _ => ?_)
      refine ef_astB (k := 195) rfl (by decide +kernel) (fun _ => ?_)
      refine ef_V (fun _ => [some (.ref 127), some (.int p0), some (.int p1), some (.int p2), some (.int q9.1), some (.int t1.2.1), some (.long x8), none]) (fun _ => []) (fun s14 => eh_FW s14) (fun s14 => ?_)
      refine ef_drop (L2 := [some (.ref 127), some (.int p0), some (.int p1), some (.int p2), some (.int q9.1), some (.int t1.2.1), none, none]) [true, true, true, true, true, true, false, true] rfl rfl ?_
      exact Hj10 _
    refine ef_drop (L2 := [none, none, none, none, some (.int t1.1), none, none, none]) [false, false, false, false, true, false, true, true] rfl rfl ?_
    exact HxK4_0 (t1.1, t1.2.2)
def eF_12_canWrite (s : eh_F) (p0 : Int32) (p1 : Int32) (p2 : Int32) : Option (Int32 × eh_F) := Option.bind (eh_loop (fun (r5 : (Int32 × Int32 × eh_F) → Option (Int32 × eh_F)) (t1 : Int32 × Int32 × eh_F) => if t1.2.1 < p2 then (if t1.1 = 0 then (some (t1.1, t1.2.2)) else (Option.bind (eF_12_isLet t1.2.2 p0 (((p1 + t1.2.1).toInt64) &&& 4294967295) 1 2) (fun q8 => eh_V ((t1.2.1 + 1) : Int32) (fun x9 => r5 (q8.1, x9, q8.2))))) else (some (t1.1, t1.2.2))) eh_FU (1, 0, s)) (fun (e2 : Int32 × eh_F) => if e2.1 = 0 ∨ e2.1 = 1 then some (e2.1, e2.2) else none)
set_option maxHeartbeats 4000000 in
set_option maxRecDepth 100000 in
theorem eS_12_canWrite (g : eh_P) (s : eh_F) (p0 : Int32) (p1 : Int32) (p2 : Int32) : eh_Sim g eM_12_canWrite (eh_R 4 0 0) eh_eI 0 0 0 (eh_en 6 [.ref 127, .int p0, .int p1, .int p2]) [] (eh_FW s) (eF_12_canWrite s p0 p1 p2) := by
  unfold eF_12_canWrite
  refine ef_top (L := [some (.ref 127), some (.int p0), some (.int p1), some (.int p2), none, none]) rfl ?_
  refine es_blk (pc' := 6) (L' := [some (.ref 127), some (.int p0), some (.int p1), some (.int p2), some (.int 1), some (.int 0)]) (st' := []) [(.iconst 1, 1), (.istore 4, 0), (.iconst 0, 0), (.istore 5, 0)] (by decide +kernel) rfl rfl ?_
  refine ef_loop1 (n := eh_FU) (i := (1, 0, s)) (px := 41) (fun (t1 : Int32 × Int32 × eh_F) => [some (.ref 127), some (.int p0), some (.int p1), some (.int p2), some (.int t1.1), some (.int t1.2.1)]) (fun (t1 : Int32 × Int32 × eh_F) => []) (fun (t1 : Int32 × Int32 × eh_F) => eh_FW t1.2.2) (fun (e2 : Int32 × eh_F) => [none, none, none, none, some (.int e2.1), none]) (fun (e2 : Int32 × eh_F) => []) (fun (e2 : Int32 × eh_F) => eh_FW e2.2) (fun e2 => ?_) (fun K4 HxK4_0 r5 Hr5 t1 => ?_)
  · refine es_blk (pc' := 43) (L' := [none, none, none, none, some (.int e2.1), none]) (st' := [.int e2.1]) [(.iload 4, 0)] (by decide +kernel) rfl rfl ?_
    refine es_chk (fun h3 => ?_)
    exact es_ret rfl rfl rfl ⟨by decide +kernel, _, rfl, eh_narZ h3⟩ (Nat.le_refl _) (Nat.le_refl _)
  · refine es_blk (pc' := 9) (L' := [some (.ref 127), some (.int p0), some (.int p1), some (.int p2), some (.int t1.1), some (.int t1.2.1)]) (st' := [.int p2, .int t1.2.1]) [(.iload 5, 0), (.iload_n 3, 0)] (by decide +kernel) rfl rfl ?_
    refine es_ige (tgt := 41) (off := (32)) (by decide +kernel) (by decide) (fun h6 => ?_) (fun h6 => ?_)
    · refine es_blk (pc' := 14) (L' := [some (.ref 127), some (.int p0), some (.int p1), some (.int p2), some (.int t1.1), some (.int t1.2.1)]) (st' := [.int t1.1]) [(.iload 4, 0)] (by decide +kernel) rfl rfl ?_
      refine es_eq (tgt := 41) (off := (27)) (by decide +kernel) (by decide) (fun h7 => ?_) (fun h7 => ?_)
      · refine ef_drop (L2 := [none, none, none, none, some (.int t1.1), none]) [false, false, false, false, true, false] rfl rfl ?_
        exact HxK4_0 (t1.1, t1.2.2)
      refine es_blk (pc' := 24) (L' := [some (.ref 127), some (.int p0), some (.int p1), some (.int p2), some (.int t1.1), some (.int t1.2.1)]) (st' := [.long ((p1 + t1.2.1).toInt64), .int p0, .ref 127]) [(.aload_n 0, 0), (.iload_n 1, 0), (.iload_n 2, 0), (.iload 5, 0), (.iadd, 0), (.i2l, 0)] (by decide +kernel) rfl rfl ?_
      refine es_ldc2 (v := 4294967295) eC_12_346 (by decide +kernel) ?_
      refine es_blk (pc' := 30) (L' := [some (.ref 127), some (.int p0), some (.int p1), some (.int p2), some (.int t1.1), some (.int t1.2.1)]) (st' := [.int 2, .int 1, .long (((p1 + t1.2.1).toInt64) &&& 4294967295), .int p0, .ref 127]) [(.land, 0), (.iconst 1, 1), (.iconst 2, 2)] (by decide +kernel) rfl rfl ?_
      refine ef_veI (d := 3) (k := 127) (As := [.int p0, .long (((p1 + t1.2.1).toInt64) &&& 4294967295), .int 1, .int 2]) (st := []) eV_12_isLet eK_12_352 (eS_12_isLet g t1.2.2 p0 (((p1 + t1.2.1).toInt64) &&& 4294967295) 1 2) rfl rfl (Nat.le_of_ble_eq_true rfl) rfl (Nat.le_of_ble_eq_true rfl) ⟨Nat.le_of_ble_eq_true rfl, Nat.le_of_ble_eq_true rfl⟩ ⟨Nat.le_refl _, Nat.le_refl _⟩ (by decide +kernel) (fun q8 _ => ?_)
      refine es_blk (pc' := 38) (L' := [some (.ref 127), some (.int p0), some (.int p1), some (.int p2), some (.int q8.1), some (.int (t1.2.1 + 1))]) (st' := []) [(.istore 4, 0), (.iinc 5 1, 1)] (by decide +kernel) rfl rfl ?_
      refine ef_V (fun x9 => [some (.ref 127), some (.int p0), some (.int p1), some (.int p2), some (.int q8.1), some (.int x9)]) (fun _ => []) (fun _ => eh_FW q8.2) (fun x9 => ?_)
      refine es_goto (tgt := 6) (off := (-32)) (by decide +kernel) (by decide) ?_
      exact Hr5 (q8.1, x9, q8.2)
    refine ef_drop (L2 := [none, none, none, none, some (.int t1.1), none]) [false, false, false, false, true, false] rfl rfl ?_
    exact HxK4_0 (t1.1, t1.2.2)
def eF_3_attest (s : eh_F) (p0 : Nat) (p1 : Int32) (p2 : Int32) : Option (Int32 × eh_F) := Option.bind (eF_3_reaches s p0 p1 32 1) (fun q1 => eh_J (fun (u3 : Unit) => some ((-1), s)) (fun j2 => if q1 = 0 then (j2 ()) else (Option.bind (eF_3_reaches s p0 p2 128 2) (fun q5 => if q5 = 0 then (j2 ()) else (if eh_in (s.1 p0 3) 6 then if eh_cok 0 0 8 8 32 then eh_V (eh_tF s 36 (va_cpy (s.1 ((eh_ep (s.1 p0 3)) + 5)) (s.1 36) (eh_ix 0) (eh_ix 0) (eh_ix 8))) (fun s8 => if eh_cok 0 8 8 8 32 then eh_V (eh_tF s8 36 (va_cpy (s8.1 ((eh_ep (s.1 p0 3)) + 6)) (s8.1 36) (eh_ix 0) (eh_ix 8) (eh_ix 8))) (fun s9 => Option.bind (eF_3_read s9 p1 32 36 32 16) (fun q10 => Option.bind (eF_5_sealReport q10 35 8) (fun q11 => if eh_cok 0 24 8 8 32 then eh_V (eh_tF q11 36 (va_cpy (q11.1 35) (q11.1 36) (eh_ix 0) (eh_ix 24) (eh_ix 8))) (fun s12 => Option.bind (eF_3_write s12 p0 p2 36 32 128) (fun q13 => some (0, q13))) else none))) else none) else none else none)))))
set_option maxHeartbeats 4000000 in
set_option maxRecDepth 100000 in
theorem eS_3_attest (g : eh_P) (s : eh_F) (p0 : Nat) (p1 : Int32) (p2 : Int32) (hp0 : eh_okF p0 = true) : eh_Sim g eM_3_attest (eh_R 5 0 0) eh_eI 0 0 0 (eh_en 5 [.ref 125, .ref p0, .int p1, .int p2]) [] (eh_FW s) (eF_3_attest s p0 p1 p2) := by
  unfold eF_3_attest
  refine ef_top (L := [some (.ref 125), some (.ref p0), some (.int p1), some (.int p2), none]) rfl ?_
  refine es_blk (pc' := 6) (L' := [some (.ref 125), some (.ref p0), some (.int p1), some (.int p2), none]) (st' := [.int 1, .int 32, .int p1, .ref p0, .ref 125]) [(.aload_n 0, 0), (.aload_n 1, 0), (.iload_n 2, 0), (.bipush 32, 32), (.iconst 1, 1)] (by decide +kernel) rfl rfl ?_
  refine ef_vpI (d := 4) (k := 125) (As := [.ref p0, .int p1, .int 32, .int 1]) (st := []) eV_3_reaches eK_3_134 (eS_3_reaches g s p0 p1 32 1 hp0) rfl rfl (Nat.le_of_ble_eq_true rfl) rfl (Nat.le_of_ble_eq_true rfl) ⟨Nat.le_of_ble_eq_true rfl, Nat.le_of_ble_eq_true rfl⟩ ⟨Nat.le_refl _, Nat.le_refl _⟩ (by decide +kernel) (fun q1 _ => ?_)
  refine ef_J (X := fun j2 => ∀ (u3 : Unit), eh_Sim g eM_3_attest (eh_R 5 0 0) eh_eI 0 0 25 [none, none, none, none, none] [] (eh_FW s) ((j2 u3).bind some)) ?_ (fun j2 Hj2 => ?_)
  · intro u3
    refine es_blk (pc' := 26) (L' := [none, none, none, none, none]) (st' := [.int (-1)]) [(.iconst (-1), (-1))] (by decide +kernel) rfl rfl ?_
    exact es_ret rfl rfl rfl ⟨by decide +kernel, _, rfl, rfl⟩ (Nat.le_refl _) (Nat.le_refl _)
  refine es_eq (tgt := 25) (off := (16)) (by decide +kernel) (by decide) (fun h4 => ?_) (fun h4 => ?_)
  · refine ef_drop (L2 := [none, none, none, none, none]) [false, false, false, false, true] rfl rfl ?_
    exact Hj2 ()
  refine es_blk (pc' := 19) (L' := [some (.ref 125), some (.ref p0), some (.int p1), some (.int p2), none]) (st' := [.int 2, .int 128, .int p2, .ref p0, .ref 125]) [(.aload_n 0, 0), (.aload_n 1, 0), (.iload_n 3, 0), (.sipush 128, 128), (.iconst 2, 2)] (by decide +kernel) rfl rfl ?_
  refine ef_vpI (d := 4) (k := 125) (As := [.ref p0, .int p2, .int 128, .int 2]) (st := []) eV_3_reaches eK_3_134 (eS_3_reaches g s p0 p2 128 2 hp0) rfl rfl (Nat.le_of_ble_eq_true rfl) rfl (Nat.le_of_ble_eq_true rfl) ⟨Nat.le_of_ble_eq_true rfl, Nat.le_of_ble_eq_true rfl⟩ ⟨Nat.le_refl _, Nat.le_refl _⟩ (by decide +kernel) (fun q5 _ => ?_)
  refine es_ne (tgt := 27) (off := (5)) (by decide +kernel) (by decide) (fun h6 => ?_) (fun h6 => ?_)
  · refine ef_drop (L2 := [none, none, none, none, none]) [false, false, false, false, true] rfl rfl ?_
    exact Hj2 ()
  refine es_blk (pc' := 28) (L' := [some (.ref 125), some (.ref p0), some (.int p1), some (.int p2), none]) (st' := [.ref 125]) [(.aload_n 0, 0)] (by decide +kernel) rfl rfl ?_
  refine ef_getP (k := 125) (j := 0) (q := 1) rfl eL_3_15 rfl rfl rfl (by decide +kernel) ?_
  refine ef_getP (k := 1) (j := 4) (q := 28) rfl eL_3_69 rfl rfl rfl (by decide +kernel) ?_
  refine es_blk (pc' := 35) (L' := [some (.ref 125), some (.ref p0), some (.int p1), some (.int p2), none]) (st' := [.ref p0, .ref 28]) [(.aload_n 1, 0)] (by decide +kernel) rfl rfl ?_
  refine ef_getI (k := p0) (j := 3) (eh_F0sh hp0) eL_3_73 (by decide) (by decide +kernel) ?_
  refine ef_encs (by decide +kernel) (fun h7 => ?_)
  refine es_blk (pc' := 43) (L' := [some (.ref 125), some (.ref p0), some (.int p1), some (.int p2), some (.ref (eh_ep (s.1 p0 3)))]) (st' := [.ref (eh_ep (s.1 p0 3))]) [(.astore 4, 0), (.aload 4, 0)] (by decide +kernel) rfl rfl ?_
  refine ef_getP (k := (eh_ep (s.1 p0 3))) (j := 1) (q := ((eh_ep (s.1 p0 3)) + 5)) (eh_E0sh h7) eL_3_77 rfl (eh_Ex h7 _).2.1 (eh_E5sh h7) (by decide +kernel) ?_
  refine es_blk (pc' := 48) (L' := [some (.ref 125), some (.ref p0), some (.int p1), some (.int p2), some (.ref (eh_ep (s.1 p0 3)))]) (st' := [.ref 125, .int 0, .ref ((eh_ep (s.1 p0 3)) + 5)]) [(.iconst 0, 0), (.aload_n 0, 0)] (by decide +kernel) rfl rfl ?_
  refine ef_getP (k := 125) (j := 0) (q := 1) rfl eL_3_15 rfl rfl rfl (by decide +kernel) ?_
  refine ef_getP (k := 1) (j := 9) (q := 36) rfl eL_3_138 rfl rfl rfl (by decide +kernel) ?_
  refine es_blk (pc' := 57) (L' := [some (.ref 125), some (.ref p0), some (.int p1), some (.int p2), some (.ref (eh_ep (s.1 p0 3)))]) (st' := [.int 8, .int 0, .ref 36, .int 0, .ref ((eh_ep (s.1 p0 3)) + 5)]) [(.iconst 0, 0), (.bipush 8, 8)] (by decide +kernel) rfl rfl ?_
  refine ef_copyI (k0 := ((eh_ep (s.1 p0 3)) + 5)) (k1 := 36) (eh_E5sh h7) rfl eK_3_141 eh_acN eh_acS eh_acI ⟨Nat.le_of_ble_eq_true rfl, Nat.le_of_ble_eq_true rfl⟩ (Nat.le_of_ble_eq_true rfl) (by decide +kernel) (fun _ => ?_)
  refine ef_V (fun _ => [some (.ref 125), some (.ref p0), some (.int p1), some (.int p2), some (.ref (eh_ep (s.1 p0 3)))]) (fun _ => []) (fun s8 => eh_FW s8) (fun s8 => ?_)
  refine es_blk (pc' := 62) (L' := [some (.ref 125), some (.ref p0), some (.int p1), some (.int p2), some (.ref (eh_ep (s.1 p0 3)))]) (st' := [.ref (eh_ep (s.1 p0 3))]) [(.aload 4, 0)] (by decide +kernel) rfl rfl ?_
  refine ef_getP (k := (eh_ep (s.1 p0 3))) (j := 2) (q := ((eh_ep (s.1 p0 3)) + 6)) (eh_E0sh h7) eL_3_147 rfl (eh_Ex h7 _).2.2.1 (eh_E6sh h7) (by decide +kernel) ?_
  refine es_blk (pc' := 67) (L' := [some (.ref 125), some (.ref p0), some (.int p1), some (.int p2), some (.ref (eh_ep (s.1 p0 3)))]) (st' := [.ref 125, .int 0, .ref ((eh_ep (s.1 p0 3)) + 6)]) [(.iconst 0, 0), (.aload_n 0, 0)] (by decide +kernel) rfl rfl ?_
  refine ef_getP (k := 125) (j := 0) (q := 1) rfl eL_3_15 rfl rfl rfl (by decide +kernel) ?_
  refine ef_getP (k := 1) (j := 9) (q := 36) rfl eL_3_138 rfl rfl rfl (by decide +kernel) ?_
  refine es_blk (pc' := 77) (L' := [some (.ref 125), some (.ref p0), some (.int p1), some (.int p2), some (.ref (eh_ep (s.1 p0 3)))]) (st' := [.int 8, .int 8, .ref 36, .int 0, .ref ((eh_ep (s.1 p0 3)) + 6)]) [(.bipush 8, 8), (.bipush 8, 8)] (by decide +kernel) rfl rfl ?_
  refine ef_copyI (k0 := ((eh_ep (s.1 p0 3)) + 6)) (k1 := 36) (eh_E6sh h7) rfl eK_3_141 eh_acN eh_acS eh_acI ⟨Nat.le_of_ble_eq_true rfl, Nat.le_of_ble_eq_true rfl⟩ (Nat.le_of_ble_eq_true rfl) (by decide +kernel) (fun _ => ?_)
  refine ef_V (fun _ => [some (.ref 125), some (.ref p0), some (.int p1), some (.int p2), some (.ref (eh_ep (s.1 p0 3)))]) (fun _ => []) (fun s9 => eh_FW s9) (fun s9 => ?_)
  refine es_blk (pc' := 85) (L' := [some (.ref 125), some (.ref p0), some (.int p1), some (.int p2), some (.ref (eh_ep (s.1 p0 3)))]) (st' := [.ref 125, .int 32, .int p1, .ref 125]) [(.aload_n 0, 0), (.iload_n 2, 0), (.bipush 32, 32), (.aload_n 0, 0)] (by decide +kernel) rfl rfl ?_
  refine ef_getP (k := 125) (j := 0) (q := 1) rfl eL_3_15 rfl rfl rfl (by decide +kernel) ?_
  refine ef_getP (k := 1) (j := 9) (q := 36) rfl eL_3_138 rfl rfl rfl (by decide +kernel) ?_
  refine es_blk (pc' := 93) (L' := [some (.ref 125), some (.ref p0), some (.int p1), some (.int p2), some (.ref (eh_ep (s.1 p0 3)))]) (st' := [.int 16, .ref 36, .int 32, .int p1, .ref 125]) [(.bipush 16, 16)] (by decide +kernel) rfl rfl ?_
  refine ef_veV (d := 3) (k := 125) (As := [.int p1, .int 32, .ref 36, .int 16]) (st := []) eV_3_read eK_3_150 (eS_3_read g s9 p1 32 36 32 16 rfl) rfl rfl (Nat.le_of_ble_eq_true rfl) rfl (Nat.le_of_ble_eq_true rfl) ⟨Nat.le_of_ble_eq_true rfl, Nat.le_of_ble_eq_true rfl⟩ ⟨Nat.le_refl _, Nat.le_refl _⟩ (by decide +kernel) (fun q10 _ => ?_)
  refine es_blk (pc' := 97) (L' := [some (.ref 125), some (.ref p0), some (.int p1), some (.int p2), some (.ref (eh_ep (s.1 p0 3)))]) (st' := [.ref 125]) [(.aload_n 0, 0)] (by decide +kernel) rfl rfl ?_
  refine ef_getP (k := 125) (j := 0) (q := 1) rfl eL_3_15 rfl rfl rfl (by decide +kernel) ?_
  refine es_blk (pc' := 101) (L' := [some (.ref 125), some (.ref p0), some (.int p1), some (.int p2), some (.ref (eh_ep (s.1 p0 3)))]) (st' := [.ref 125, .ref 1]) [(.aload_n 0, 0)] (by decide +kernel) rfl rfl ?_
  refine ef_getP (k := 125) (j := 0) (q := 1) rfl eL_3_15 rfl rfl rfl (by decide +kernel) ?_
  refine ef_getP (k := 1) (j := 8) (q := 35) rfl eL_3_154 rfl rfl rfl (by decide +kernel) ?_
  refine ef_veV (d := 4) (k := 1) (As := [.ref 35]) (st := []) eV_5_sealReport eK_3_157 (eS_5_sealReport g q10 35 8 rfl) rfl rfl (Nat.le_of_ble_eq_true rfl) rfl (Nat.le_of_ble_eq_true rfl) ⟨Nat.le_of_ble_eq_true rfl, Nat.le_of_ble_eq_true rfl⟩ ⟨Nat.le_refl _, Nat.le_refl _⟩ (by decide +kernel) (fun q11 _ => ?_)
  refine es_blk (pc' := 111) (L' := [some (.ref 125), some (.ref p0), some (.int p1), some (.int p2), some (.ref (eh_ep (s.1 p0 3)))]) (st' := [.ref 125]) [(.aload_n 0, 0)] (by decide +kernel) rfl rfl ?_
  refine ef_getP (k := 125) (j := 0) (q := 1) rfl eL_3_15 rfl rfl rfl (by decide +kernel) ?_
  refine ef_getP (k := 1) (j := 8) (q := 35) rfl eL_3_154 rfl rfl rfl (by decide +kernel) ?_
  refine es_blk (pc' := 119) (L' := [some (.ref 125), some (.ref p0), some (.int p1), some (.int p2), some (.ref (eh_ep (s.1 p0 3)))]) (st' := [.ref 125, .int 0, .ref 35]) [(.iconst 0, 0), (.aload_n 0, 0)] (by decide +kernel) rfl rfl ?_
  refine ef_getP (k := 125) (j := 0) (q := 1) rfl eL_3_15 rfl rfl rfl (by decide +kernel) ?_
  refine ef_getP (k := 1) (j := 9) (q := 36) rfl eL_3_138 rfl rfl rfl (by decide +kernel) ?_
  refine es_blk (pc' := 129) (L' := [some (.ref 125), some (.ref p0), some (.int p1), some (.int p2), some (.ref (eh_ep (s.1 p0 3)))]) (st' := [.int 8, .int 24, .ref 36, .int 0, .ref 35]) [(.bipush 24, 24), (.bipush 8, 8)] (by decide +kernel) rfl rfl ?_
  refine ef_copyI (k0 := 35) (k1 := 36) rfl rfl eK_3_141 eh_acN eh_acS eh_acI ⟨Nat.le_of_ble_eq_true rfl, Nat.le_of_ble_eq_true rfl⟩ (Nat.le_of_ble_eq_true rfl) (by decide +kernel) (fun _ => ?_)
  refine ef_V (fun _ => [some (.ref 125), some (.ref p0), some (.int p1), some (.int p2), some (.ref (eh_ep (s.1 p0 3)))]) (fun _ => []) (fun s12 => eh_FW s12) (fun s12 => ?_)
  refine es_blk (pc' := 136) (L' := [some (.ref 125), some (.ref p0), some (.int p1), some (.int p2), some (.ref (eh_ep (s.1 p0 3)))]) (st' := [.ref 125, .int p2, .ref p0, .ref 125]) [(.aload_n 0, 0), (.aload_n 1, 0), (.iload_n 3, 0), (.aload_n 0, 0)] (by decide +kernel) rfl rfl ?_
  refine ef_getP (k := 125) (j := 0) (q := 1) rfl eL_3_15 rfl rfl rfl (by decide +kernel) ?_
  refine ef_getP (k := 1) (j := 9) (q := 36) rfl eL_3_138 rfl rfl rfl (by decide +kernel) ?_
  refine es_blk (pc' := 145) (L' := [some (.ref 125), some (.ref p0), some (.int p1), some (.int p2), some (.ref (eh_ep (s.1 p0 3)))]) (st' := [.int 128, .ref 36, .int p2, .ref p0, .ref 125]) [(.sipush 128, 128)] (by decide +kernel) rfl rfl ?_
  refine ef_veV (d := 4) (k := 125) (As := [.ref p0, .int p2, .ref 36, .int 128]) (st := []) eV_3_write eK_3_161 (eS_3_write g s12 p0 p2 36 32 128 hp0 rfl) rfl rfl (Nat.le_of_ble_eq_true rfl) rfl (Nat.le_of_ble_eq_true rfl) ⟨Nat.le_of_ble_eq_true rfl, Nat.le_of_ble_eq_true rfl⟩ ⟨Nat.le_refl _, Nat.le_refl _⟩ (by decide +kernel) (fun q13 _ => ?_)
  refine es_blk (pc' := 149) (L' := [some (.ref 125), some (.ref p0), some (.int p1), some (.int p2), some (.ref (eh_ep (s.1 p0 3)))]) (st' := [.int 0]) [(.iconst 0, 0)] (by decide +kernel) rfl rfl ?_
  exact es_ret rfl rfl rfl ⟨by decide +kernel, _, rfl, rfl⟩ (Nat.le_refl _) (Nat.le_refl _)
def eF_3_verify (s : eh_F) (p0 : Nat) (p1 : Int32) : Option (Int32 × eh_F) := Option.bind (eF_3_reaches s p0 p1 128 1) (fun q1 => if q1 = 0 then (some ((-1), s)) else (Option.bind (eF_3_read s p1 128 36 32 0) (fun q3 => Option.bind (eF_5_sealReport q3 35 8) (fun q4 => Option.bind (eF_5_bears q4 35 8) (fun q5 => eh_J (fun (a7 : Int32) => some (a7, q4)) (fun j6 => if q5 = 0 then (j6 0) else (j6 1)))))))
set_option maxHeartbeats 4000000 in
set_option maxRecDepth 100000 in
theorem eS_3_verify (g : eh_P) (s : eh_F) (p0 : Nat) (p1 : Int32) (hp0 : eh_okF p0 = true) : eh_Sim g eM_3_verify (eh_R 5 0 0) eh_eI 0 0 0 (eh_en 3 [.ref 125, .ref p0, .int p1]) [] (eh_FW s) (eF_3_verify s p0 p1) := by
  unfold eF_3_verify
  refine ef_top (L := [some (.ref 125), some (.ref p0), some (.int p1)]) rfl ?_
  refine es_blk (pc' := 7) (L' := [some (.ref 125), some (.ref p0), some (.int p1)]) (st' := [.int 1, .int 128, .int p1, .ref p0, .ref 125]) [(.aload_n 0, 0), (.aload_n 1, 0), (.iload_n 2, 0), (.sipush 128, 128), (.iconst 1, 1)] (by decide +kernel) rfl rfl ?_
  refine ef_vpI (d := 4) (k := 125) (As := [.ref p0, .int p1, .int 128, .int 1]) (st := []) eV_3_reaches eK_3_134 (eS_3_reaches g s p0 p1 128 1 hp0) rfl rfl (Nat.le_of_ble_eq_true rfl) rfl (Nat.le_of_ble_eq_true rfl) ⟨Nat.le_of_ble_eq_true rfl, Nat.le_of_ble_eq_true rfl⟩ ⟨Nat.le_refl _, Nat.le_refl _⟩ (by decide +kernel) (fun q1 _ => ?_)
  refine es_ne (tgt := 15) (off := (5)) (by decide +kernel) (by decide) (fun h2 => ?_) (fun h2 => ?_)
  · refine es_blk (pc' := 14) (L' := [some (.ref 125), some (.ref p0), some (.int p1)]) (st' := [.int (-1)]) [(.iconst (-1), (-1))] (by decide +kernel) rfl rfl ?_
    exact es_ret rfl rfl rfl ⟨by decide +kernel, _, rfl, rfl⟩ (Nat.le_refl _) (Nat.le_refl _)
  refine es_blk (pc' := 21) (L' := [some (.ref 125), some (.ref p0), some (.int p1)]) (st' := [.ref 125, .int 128, .int p1, .ref 125]) [(.aload_n 0, 0), (.iload_n 2, 0), (.sipush 128, 128), (.aload_n 0, 0)] (by decide +kernel) rfl rfl ?_
  refine ef_getP (k := 125) (j := 0) (q := 1) rfl eL_3_15 rfl rfl rfl (by decide +kernel) ?_
  refine ef_getP (k := 1) (j := 9) (q := 36) rfl eL_3_138 rfl rfl rfl (by decide +kernel) ?_
  refine es_blk (pc' := 28) (L' := [some (.ref 125), some (.ref p0), some (.int p1)]) (st' := [.int 0, .ref 36, .int 128, .int p1, .ref 125]) [(.iconst 0, 0)] (by decide +kernel) rfl rfl ?_
  refine ef_veV (d := 3) (k := 125) (As := [.int p1, .int 128, .ref 36, .int 0]) (st := []) eV_3_read eK_3_150 (eS_3_read g s p1 128 36 32 0 rfl) rfl rfl (Nat.le_of_ble_eq_true rfl) rfl (Nat.le_of_ble_eq_true rfl) ⟨Nat.le_of_ble_eq_true rfl, Nat.le_of_ble_eq_true rfl⟩ ⟨Nat.le_refl _, Nat.le_refl _⟩ (by decide +kernel) (fun q3 _ => ?_)
  refine es_blk (pc' := 32) (L' := [some (.ref 125), some (.ref p0), some (.int p1)]) (st' := [.ref 125]) [(.aload_n 0, 0)] (by decide +kernel) rfl rfl ?_
  refine ef_getP (k := 125) (j := 0) (q := 1) rfl eL_3_15 rfl rfl rfl (by decide +kernel) ?_
  refine es_blk (pc' := 36) (L' := [some (.ref 125), some (.ref p0), some (.int p1)]) (st' := [.ref 125, .ref 1]) [(.aload_n 0, 0)] (by decide +kernel) rfl rfl ?_
  refine ef_getP (k := 125) (j := 0) (q := 1) rfl eL_3_15 rfl rfl rfl (by decide +kernel) ?_
  refine ef_getP (k := 1) (j := 8) (q := 35) rfl eL_3_154 rfl rfl rfl (by decide +kernel) ?_
  refine ef_veV (d := 4) (k := 1) (As := [.ref 35]) (st := []) eV_5_sealReport eK_3_157 (eS_5_sealReport g q3 35 8 rfl) rfl rfl (Nat.le_of_ble_eq_true rfl) rfl (Nat.le_of_ble_eq_true rfl) ⟨Nat.le_of_ble_eq_true rfl, Nat.le_of_ble_eq_true rfl⟩ ⟨Nat.le_refl _, Nat.le_refl _⟩ (by decide +kernel) (fun q4 _ => ?_)
  refine es_blk (pc' := 46) (L' := [some (.ref 125), some (.ref p0), some (.int p1)]) (st' := [.ref 125]) [(.aload_n 0, 0)] (by decide +kernel) rfl rfl ?_
  refine ef_getP (k := 125) (j := 0) (q := 1) rfl eL_3_15 rfl rfl rfl (by decide +kernel) ?_
  refine es_blk (pc' := 50) (L' := [some (.ref 125), some (.ref p0), some (.int p1)]) (st' := [.ref 125, .ref 1]) [(.aload_n 0, 0)] (by decide +kernel) rfl rfl ?_
  refine ef_getP (k := 125) (j := 0) (q := 1) rfl eL_3_15 rfl rfl rfl (by decide +kernel) ?_
  refine ef_getP (k := 1) (j := 8) (q := 35) rfl eL_3_154 rfl rfl rfl (by decide +kernel) ?_
  refine ef_vpI (d := 1) (k := 1) (As := [.ref 35]) (st := []) eV_5_bears eK_3_165 (eS_5_bears g q4 35 8 rfl) rfl rfl (Nat.le_of_ble_eq_true rfl) rfl (Nat.le_of_ble_eq_true rfl) ⟨Nat.le_of_ble_eq_true rfl, Nat.le_of_ble_eq_true rfl⟩ ⟨Nat.le_refl _, Nat.le_refl _⟩ (by decide +kernel) (fun q5 _ => ?_)
  refine ef_J (X := fun j6 => ∀ (a7 : Int32), eh_Sim g eM_3_verify (eh_R 5 0 0) eh_eI 0 0 67 [none, none, none] [.int a7] (eh_FW q4) ((j6 a7).bind some)) ?_ (fun j6 Hj6 => ?_)
  · intro a7
    exact es_ret rfl rfl rfl ⟨by decide +kernel, _, rfl, rfl⟩ (Nat.le_refl _) (Nat.le_refl _)
  refine es_eq (tgt := 66) (off := (7)) (by decide +kernel) (by decide) (fun h8 => ?_) (fun h8 => ?_)
  · refine es_blk (pc' := 67) (L' := [some (.ref 125), some (.ref p0), some (.int p1)]) (st' := [.int 0]) [(.iconst 0, 0)] (by decide +kernel) rfl rfl ?_
    refine ef_drop (L2 := [none, none, none]) [false, false, false] rfl rfl ?_
    exact Hj6 _
  refine es_blk (pc' := 63) (L' := [some (.ref 125), some (.ref p0), some (.int p1)]) (st' := [.int 1]) [(.iconst 1, 1)] (by decide +kernel) rfl rfl ?_
  refine es_goto (tgt := 67) (off := (4)) (by decide +kernel) (by decide) ?_
  refine ef_drop (L2 := [none, none, none]) [false, false, false] rfl rfl ?_
  exact Hj6 _
def eF_3_giveKey (s : eh_F) (p0 : Nat) (p1 : Int32) (p2 : Int32) : Option (Int32 × eh_F) := Option.bind (eF_3_reaches s p0 p2 32 2) (fun q1 => if q1 = 0 then (some ((-1), s)) else (Option.bind (eF_9_beginKeyed s 29 33 8) (fun q3 => Option.bind (eF_9_feedNumber q3 29 6) (fun q4 => if eh_in (q4.1 p0 3) 6 then Option.bind (eF_9_feedWords q4 29 ((eh_ep (q4.1 p0 3)) + 5) 8 8) (fun q6 => Option.bind (eF_9_feedNumber q6 29 p1) (fun q7 => Option.bind (eF_9_endKeyed q7 29 33 8 126 8) (fun q8 => Option.bind (eF_3_write q8 p0 p2 126 8 32) (fun q9 => some (0, q9))))) else none))))
set_option maxHeartbeats 4000000 in
set_option maxRecDepth 100000 in
theorem eS_3_giveKey (g : eh_P) (s : eh_F) (p0 : Nat) (p1 : Int32) (p2 : Int32) (hp0 : eh_okF p0 = true) : eh_Sim g eM_3_giveKey (eh_R 5 0 0) eh_eI 0 0 0 (eh_en 5 [.ref 125, .ref p0, .int p1, .int p2]) [] (eh_FW s) (eF_3_giveKey s p0 p1 p2) := by
  unfold eF_3_giveKey
  refine ef_top (L := [some (.ref 125), some (.ref p0), some (.int p1), some (.int p2), none]) rfl ?_
  refine es_blk (pc' := 6) (L' := [some (.ref 125), some (.ref p0), some (.int p1), some (.int p2), none]) (st' := [.int 2, .int 32, .int p2, .ref p0, .ref 125]) [(.aload_n 0, 0), (.aload_n 1, 0), (.iload_n 3, 0), (.bipush 32, 32), (.iconst 2, 2)] (by decide +kernel) rfl rfl ?_
  refine ef_vpI (d := 4) (k := 125) (As := [.ref p0, .int p2, .int 32, .int 2]) (st := []) eV_3_reaches eK_3_134 (eS_3_reaches g s p0 p2 32 2 hp0) rfl rfl (Nat.le_of_ble_eq_true rfl) rfl (Nat.le_of_ble_eq_true rfl) ⟨Nat.le_of_ble_eq_true rfl, Nat.le_of_ble_eq_true rfl⟩ ⟨Nat.le_refl _, Nat.le_refl _⟩ (by decide +kernel) (fun q1 _ => ?_)
  refine es_ne (tgt := 14) (off := (5)) (by decide +kernel) (by decide) (fun h2 => ?_) (fun h2 => ?_)
  · refine es_blk (pc' := 13) (L' := [some (.ref 125), some (.ref p0), some (.int p1), some (.int p2), none]) (st' := [.int (-1)]) [(.iconst (-1), (-1))] (by decide +kernel) rfl rfl ?_
    exact es_ret rfl rfl rfl ⟨by decide +kernel, _, rfl, rfl⟩ (Nat.le_refl _) (Nat.le_refl _)
  refine es_blk (pc' := 15) (L' := [some (.ref 125), some (.ref p0), some (.int p1), some (.int p2), none]) (st' := [.ref 125]) [(.aload_n 0, 0)] (by decide +kernel) rfl rfl ?_
  refine ef_getP (k := 125) (j := 0) (q := 1) rfl eL_3_15 rfl rfl rfl (by decide +kernel) ?_
  refine ef_getP (k := 1) (j := 5) (q := 29) rfl eL_3_169 rfl rfl rfl (by decide +kernel) ?_
  refine es_blk (pc' := 26) (L' := [some (.ref 125), some (.ref p0), some (.int p1), some (.int p2), some (.ref 29)]) (st' := [.ref 125, .ref 29]) [(.astore 4, 0), (.aload 4, 0), (.aload_n 0, 0)] (by decide +kernel) rfl rfl ?_
  refine ef_getP (k := 125) (j := 0) (q := 1) rfl eL_3_15 rfl rfl rfl (by decide +kernel) ?_
  refine ef_getP (k := 1) (j := 6) (q := 33) rfl eL_3_173 rfl rfl rfl (by decide +kernel) ?_
  refine ef_veV (d := 3) (k := 29) (As := [.ref 33]) (st := []) eV_9_beginKeyed eK_3_176 (eS_9_beginKeyed g s 29 33 8 rfl rfl) rfl rfl (Nat.le_of_ble_eq_true rfl) rfl (Nat.le_of_ble_eq_true rfl) ⟨Nat.le_of_ble_eq_true rfl, Nat.le_of_ble_eq_true rfl⟩ ⟨Nat.le_refl _, Nat.le_refl _⟩ (by decide +kernel) (fun q3 _ => ?_)
  refine es_blk (pc' := 39) (L' := [some (.ref 125), some (.ref p0), some (.int p1), some (.int p2), some (.ref 29)]) (st' := [.int 6, .ref 29]) [(.aload 4, 0), (.bipush 6, 6)] (by decide +kernel) rfl rfl ?_
  refine ef_veV (d := 2) (k := 29) (As := [.int 6]) (st := []) eV_9_feedNumber eK_3_181 (eS_9_feedNumber g q3 29 6 rfl) rfl rfl (Nat.le_of_ble_eq_true rfl) rfl (Nat.le_of_ble_eq_true rfl) ⟨Nat.le_of_ble_eq_true rfl, Nat.le_of_ble_eq_true rfl⟩ ⟨Nat.le_refl _, Nat.le_refl _⟩ (by decide +kernel) (fun q4 _ => ?_)
  refine es_blk (pc' := 45) (L' := [some (.ref 125), some (.ref p0), some (.int p1), some (.int p2), some (.ref 29)]) (st' := [.ref 125, .ref 29]) [(.aload 4, 0), (.aload_n 0, 0)] (by decide +kernel) rfl rfl ?_
  refine ef_getP (k := 125) (j := 0) (q := 1) rfl eL_3_15 rfl rfl rfl (by decide +kernel) ?_
  refine ef_getP (k := 1) (j := 4) (q := 28) rfl eL_3_69 rfl rfl rfl (by decide +kernel) ?_
  refine es_blk (pc' := 52) (L' := [some (.ref 125), some (.ref p0), some (.int p1), some (.int p2), some (.ref 29)]) (st' := [.ref p0, .ref 28, .ref 29]) [(.aload_n 1, 0)] (by decide +kernel) rfl rfl ?_
  refine ef_getI (k := p0) (j := 3) (eh_F0sh hp0) eL_3_73 (by decide) (by decide +kernel) ?_
  refine ef_encs (by decide +kernel) (fun h5 => ?_)
  refine ef_getP (k := (eh_ep (q4.1 p0 3))) (j := 1) (q := ((eh_ep (q4.1 p0 3)) + 5)) (eh_E0sh h5) eL_3_77 rfl (eh_Ex h5 _).2.1 (eh_E5sh h5) (by decide +kernel) ?_
  refine es_blk (pc' := 61) (L' := [some (.ref 125), some (.ref p0), some (.int p1), some (.int p2), some (.ref 29)]) (st' := [.int 8, .ref ((eh_ep (q4.1 p0 3)) + 5), .ref 29]) [(.bipush 8, 8)] (by decide +kernel) rfl rfl ?_
  refine ef_veV (d := 3) (k := 29) (As := [.ref ((eh_ep (q4.1 p0 3)) + 5), .int 8]) (st := []) eV_9_feedWords eK_3_184 (eS_9_feedWords g q4 29 ((eh_ep (q4.1 p0 3)) + 5) 8 8 rfl (eh_E5sh h5)) rfl rfl (Nat.le_of_ble_eq_true rfl) rfl (Nat.le_of_ble_eq_true rfl) ⟨Nat.le_of_ble_eq_true rfl, Nat.le_of_ble_eq_true rfl⟩ ⟨Nat.le_refl _, Nat.le_refl _⟩ (by decide +kernel) (fun q6 _ => ?_)
  refine es_blk (pc' := 67) (L' := [some (.ref 125), some (.ref p0), some (.int p1), some (.int p2), some (.ref 29)]) (st' := [.int p1, .ref 29]) [(.aload 4, 0), (.iload_n 2, 0)] (by decide +kernel) rfl rfl ?_
  refine ef_veV (d := 2) (k := 29) (As := [.int p1]) (st := []) eV_9_feedNumber eK_3_181 (eS_9_feedNumber g q6 29 p1 rfl) rfl rfl (Nat.le_of_ble_eq_true rfl) rfl (Nat.le_of_ble_eq_true rfl) ⟨Nat.le_of_ble_eq_true rfl, Nat.le_of_ble_eq_true rfl⟩ ⟨Nat.le_refl _, Nat.le_refl _⟩ (by decide +kernel) (fun q7 _ => ?_)
  refine es_blk (pc' := 73) (L' := [some (.ref 125), some (.ref p0), some (.int p1), some (.int p2), some (.ref 29)]) (st' := [.ref 125, .ref 29]) [(.aload 4, 0), (.aload_n 0, 0)] (by decide +kernel) rfl rfl ?_
  refine ef_getP (k := 125) (j := 0) (q := 1) rfl eL_3_15 rfl rfl rfl (by decide +kernel) ?_
  refine ef_getP (k := 1) (j := 6) (q := 33) rfl eL_3_173 rfl rfl rfl (by decide +kernel) ?_
  refine es_blk (pc' := 80) (L' := [some (.ref 125), some (.ref p0), some (.int p1), some (.int p2), some (.ref 29)]) (st' := [.ref 125, .ref 33, .ref 29]) [(.aload_n 0, 0)] (by decide +kernel) rfl rfl ?_
  refine ef_getP (k := 125) (j := 3) (q := 126) rfl eL_3_9 rfl rfl rfl (by decide +kernel) ?_
  refine ef_veV (d := 3) (k := 29) (As := [.ref 33, .ref 126]) (st := []) eV_9_endKeyed eK_3_188 (eS_9_endKeyed g q7 29 33 8 126 8 rfl rfl rfl) rfl rfl (Nat.le_of_ble_eq_true rfl) rfl (Nat.le_of_ble_eq_true rfl) ⟨Nat.le_of_ble_eq_true rfl, Nat.le_of_ble_eq_true rfl⟩ ⟨Nat.le_refl _, Nat.le_refl _⟩ (by decide +kernel) (fun q8 _ => ?_)
  refine es_blk (pc' := 90) (L' := [some (.ref 125), some (.ref p0), some (.int p1), some (.int p2), some (.ref 29)]) (st' := [.ref 125, .int p2, .ref p0, .ref 125]) [(.aload_n 0, 0), (.aload_n 1, 0), (.iload_n 3, 0), (.aload_n 0, 0)] (by decide +kernel) rfl rfl ?_
  refine ef_getP (k := 125) (j := 3) (q := 126) rfl eL_3_9 rfl rfl rfl (by decide +kernel) ?_
  refine es_blk (pc' := 95) (L' := [some (.ref 125), some (.ref p0), some (.int p1), some (.int p2), some (.ref 29)]) (st' := [.int 32, .ref 126, .int p2, .ref p0, .ref 125]) [(.bipush 32, 32)] (by decide +kernel) rfl rfl ?_
  refine ef_veV (d := 4) (k := 125) (As := [.ref p0, .int p2, .ref 126, .int 32]) (st := []) eV_3_write eK_3_161 (eS_3_write g q8 p0 p2 126 8 32 hp0 rfl) rfl rfl (Nat.le_of_ble_eq_true rfl) rfl (Nat.le_of_ble_eq_true rfl) ⟨Nat.le_of_ble_eq_true rfl, Nat.le_of_ble_eq_true rfl⟩ ⟨Nat.le_refl _, Nat.le_refl _⟩ (by decide +kernel) (fun q9 _ => ?_)
  refine es_blk (pc' := 99) (L' := [some (.ref 125), some (.ref p0), some (.int p1), some (.int p2), some (.ref 29)]) (st' := [.int 0]) [(.iconst 0, 0)] (by decide +kernel) rfl rfl ?_
  exact es_ret rfl rfl rfl ⟨by decide +kernel, _, rfl, rfl⟩ (Nat.le_refl _) (Nat.le_refl _)
def eF_3_giveRandom (s : eh_F) (p0 : Nat) (p1 : Int32) (p2 : Int32) : Option (Int32 × eh_F) := eh_J (fun (u2 : Unit) => some ((-1), s)) (fun j1 => if p2 < 1 then (j1 ()) else (if 32 < p2 then (j1 ()) else (Option.bind (eF_3_reaches s p0 p1 p2 2) (fun q5 => if q5 = 0 then (j1 ()) else (if eh_in (s.1 p0 3) 6 then Option.bind (eF_9_beginKeyed s 29 33 8) (fun q8 => Option.bind (eF_9_feedNumber q8 29 7) (fun q9 => Option.bind (eF_9_feedWords q9 29 ((eh_ep (s.1 p0 3)) + 5) 8 8) (fun q10 => Option.bind (eF_9_feedNumber q10 29 (q10.1 (eh_ep (s.1 p0 3)) 8)) (fun q11 => Option.bind (eF_9_feedNumber q11 29 (q11.1 (eh_ep (s.1 p0 3)) 9)) (fun q12 => Option.bind (eF_9_endKeyed q12 29 33 8 126 8) (fun q13 => eh_V (eh_tI q13 (eh_ep (s.1 p0 3)) 9 ((q13.1 (eh_ep (s.1 p0 3)) 9) + 1)) (fun s14 => Option.bind (eF_3_write s14 p0 p1 126 8 p2) (fun q15 => some (0, q15))))))))) else none)))))
set_option maxHeartbeats 4000000 in
set_option maxRecDepth 100000 in
theorem eS_3_giveRandom (g : eh_P) (s : eh_F) (p0 : Nat) (p1 : Int32) (p2 : Int32) (hp0 : eh_okF p0 = true) : eh_Sim g eM_3_giveRandom (eh_R 5 0 0) eh_eI 0 0 0 (eh_en 6 [.ref 125, .ref p0, .int p1, .int p2]) [] (eh_FW s) (eF_3_giveRandom s p0 p1 p2) := by
  unfold eF_3_giveRandom
  refine ef_top (L := [some (.ref 125), some (.ref p0), some (.int p1), some (.int p2), none, none]) rfl ?_
  refine es_blk (pc' := 2) (L' := [some (.ref 125), some (.ref p0), some (.int p1), some (.int p2), none, none]) (st' := [.int 1, .int p2]) [(.iload_n 3, 0), (.iconst 1, 1)] (by decide +kernel) rfl rfl ?_
  refine ef_J (X := fun j1 => ∀ (u2 : Unit), eh_Sim g eM_3_giveRandom (eh_R 5 0 0) eh_eI 0 0 22 [none, none, none, none, none, none] [] (eh_FW s) ((j1 u2).bind some)) ?_ (fun j1 Hj1 => ?_)
  · intro u2
    refine es_blk (pc' := 23) (L' := [none, none, none, none, none, none]) (st' := [.int (-1)]) [(.iconst (-1), (-1))] (by decide +kernel) rfl rfl ?_
    exact es_ret rfl rfl rfl ⟨by decide +kernel, _, rfl, rfl⟩ (Nat.le_refl _) (Nat.le_refl _)
  refine es_ilt (tgt := 22) (off := (20)) (by decide +kernel) (by decide) (fun h3 => ?_) (fun h3 => ?_)
  · refine ef_drop (L2 := [none, none, none, none, none, none]) [false, false, false, false, true, true] rfl rfl ?_
    exact Hj1 ()
  refine es_blk (pc' := 8) (L' := [some (.ref 125), some (.ref p0), some (.int p1), some (.int p2), none, none]) (st' := [.int 32, .int p2]) [(.iload_n 3, 0), (.bipush 32, 32)] (by decide +kernel) rfl rfl ?_
  refine es_igt (tgt := 22) (off := (14)) (by decide +kernel) (by decide) (fun h4 => ?_) (fun h4 => ?_)
  · refine ef_drop (L2 := [none, none, none, none, none, none]) [false, false, false, false, true, true] rfl rfl ?_
    exact Hj1 ()
  refine es_blk (pc' := 16) (L' := [some (.ref 125), some (.ref p0), some (.int p1), some (.int p2), none, none]) (st' := [.int 2, .int p2, .int p1, .ref p0, .ref 125]) [(.aload_n 0, 0), (.aload_n 1, 0), (.iload_n 2, 0), (.iload_n 3, 0), (.iconst 2, 2)] (by decide +kernel) rfl rfl ?_
  refine ef_vpI (d := 4) (k := 125) (As := [.ref p0, .int p1, .int p2, .int 2]) (st := []) eV_3_reaches eK_3_134 (eS_3_reaches g s p0 p1 p2 2 hp0) rfl rfl (Nat.le_of_ble_eq_true rfl) rfl (Nat.le_of_ble_eq_true rfl) ⟨Nat.le_of_ble_eq_true rfl, Nat.le_of_ble_eq_true rfl⟩ ⟨Nat.le_refl _, Nat.le_refl _⟩ (by decide +kernel) (fun q5 _ => ?_)
  refine es_ne (tgt := 24) (off := (5)) (by decide +kernel) (by decide) (fun h6 => ?_) (fun h6 => ?_)
  · refine ef_drop (L2 := [none, none, none, none, none, none]) [false, false, false, false, true, true] rfl rfl ?_
    exact Hj1 ()
  refine es_blk (pc' := 25) (L' := [some (.ref 125), some (.ref p0), some (.int p1), some (.int p2), none, none]) (st' := [.ref 125]) [(.aload_n 0, 0)] (by decide +kernel) rfl rfl ?_
  refine ef_getP (k := 125) (j := 0) (q := 1) rfl eL_3_15 rfl rfl rfl (by decide +kernel) ?_
  refine ef_getP (k := 1) (j := 4) (q := 28) rfl eL_3_69 rfl rfl rfl (by decide +kernel) ?_
  refine es_blk (pc' := 32) (L' := [some (.ref 125), some (.ref p0), some (.int p1), some (.int p2), none, none]) (st' := [.ref p0, .ref 28]) [(.aload_n 1, 0)] (by decide +kernel) rfl rfl ?_
  refine ef_getI (k := p0) (j := 3) (eh_F0sh hp0) eL_3_73 (by decide) (by decide +kernel) ?_
  refine ef_encs (by decide +kernel) (fun h7 => ?_)
  refine es_blk (pc' := 39) (L' := [some (.ref 125), some (.ref p0), some (.int p1), some (.int p2), some (.ref (eh_ep (s.1 p0 3))), none]) (st' := [.ref 125]) [(.astore 4, 0), (.aload_n 0, 0)] (by decide +kernel) rfl rfl ?_
  refine ef_getP (k := 125) (j := 0) (q := 1) rfl eL_3_15 rfl rfl rfl (by decide +kernel) ?_
  refine ef_getP (k := 1) (j := 5) (q := 29) rfl eL_3_169 rfl rfl rfl (by decide +kernel) ?_
  refine es_blk (pc' := 50) (L' := [some (.ref 125), some (.ref p0), some (.int p1), some (.int p2), some (.ref (eh_ep (s.1 p0 3))), some (.ref 29)]) (st' := [.ref 125, .ref 29]) [(.astore 5, 0), (.aload 5, 0), (.aload_n 0, 0)] (by decide +kernel) rfl rfl ?_
  refine ef_getP (k := 125) (j := 0) (q := 1) rfl eL_3_15 rfl rfl rfl (by decide +kernel) ?_
  refine ef_getP (k := 1) (j := 6) (q := 33) rfl eL_3_173 rfl rfl rfl (by decide +kernel) ?_
  refine ef_veV (d := 3) (k := 29) (As := [.ref 33]) (st := []) eV_9_beginKeyed eK_3_176 (eS_9_beginKeyed g s 29 33 8 rfl rfl) rfl rfl (Nat.le_of_ble_eq_true rfl) rfl (Nat.le_of_ble_eq_true rfl) ⟨Nat.le_of_ble_eq_true rfl, Nat.le_of_ble_eq_true rfl⟩ ⟨Nat.le_refl _, Nat.le_refl _⟩ (by decide +kernel) (fun q8 _ => ?_)
  refine es_blk (pc' := 63) (L' := [some (.ref 125), some (.ref p0), some (.int p1), some (.int p2), some (.ref (eh_ep (s.1 p0 3))), some (.ref 29)]) (st' := [.int 7, .ref 29]) [(.aload 5, 0), (.bipush 7, 7)] (by decide +kernel) rfl rfl ?_
  refine ef_veV (d := 2) (k := 29) (As := [.int 7]) (st := []) eV_9_feedNumber eK_3_181 (eS_9_feedNumber g q8 29 7 rfl) rfl rfl (Nat.le_of_ble_eq_true rfl) rfl (Nat.le_of_ble_eq_true rfl) ⟨Nat.le_of_ble_eq_true rfl, Nat.le_of_ble_eq_true rfl⟩ ⟨Nat.le_refl _, Nat.le_refl _⟩ (by decide +kernel) (fun q9 _ => ?_)
  refine es_blk (pc' := 70) (L' := [some (.ref 125), some (.ref p0), some (.int p1), some (.int p2), some (.ref (eh_ep (s.1 p0 3))), some (.ref 29)]) (st' := [.ref (eh_ep (s.1 p0 3)), .ref 29]) [(.aload 5, 0), (.aload 4, 0)] (by decide +kernel) rfl rfl ?_
  refine ef_getP (k := (eh_ep (s.1 p0 3))) (j := 1) (q := ((eh_ep (s.1 p0 3)) + 5)) (eh_E0sh h7) eL_3_77 rfl (eh_Ex h7 _).2.1 (eh_E5sh h7) (by decide +kernel) ?_
  refine es_blk (pc' := 75) (L' := [some (.ref 125), some (.ref p0), some (.int p1), some (.int p2), some (.ref (eh_ep (s.1 p0 3))), some (.ref 29)]) (st' := [.int 8, .ref ((eh_ep (s.1 p0 3)) + 5), .ref 29]) [(.bipush 8, 8)] (by decide +kernel) rfl rfl ?_
  refine ef_veV (d := 3) (k := 29) (As := [.ref ((eh_ep (s.1 p0 3)) + 5), .int 8]) (st := []) eV_9_feedWords eK_3_184 (eS_9_feedWords g q9 29 ((eh_ep (s.1 p0 3)) + 5) 8 8 rfl (eh_E5sh h7)) rfl rfl (Nat.le_of_ble_eq_true rfl) rfl (Nat.le_of_ble_eq_true rfl) ⟨Nat.le_of_ble_eq_true rfl, Nat.le_of_ble_eq_true rfl⟩ ⟨Nat.le_refl _, Nat.le_refl _⟩ (by decide +kernel) (fun q10 _ => ?_)
  refine es_blk (pc' := 82) (L' := [some (.ref 125), some (.ref p0), some (.int p1), some (.int p2), some (.ref (eh_ep (s.1 p0 3))), some (.ref 29)]) (st' := [.ref (eh_ep (s.1 p0 3)), .ref 29]) [(.aload 5, 0), (.aload 4, 0)] (by decide +kernel) rfl rfl ?_
  refine ef_getI (k := (eh_ep (s.1 p0 3))) (j := 8) (eh_E0sh h7) eL_3_192 (by decide) (by decide +kernel) ?_
  refine ef_veV (d := 2) (k := 29) (As := [.int (q10.1 (eh_ep (s.1 p0 3)) 8)]) (st := []) eV_9_feedNumber eK_3_181 (eS_9_feedNumber g q10 29 (q10.1 (eh_ep (s.1 p0 3)) 8) rfl) rfl rfl (Nat.le_of_ble_eq_true rfl) rfl (Nat.le_of_ble_eq_true rfl) ⟨Nat.le_of_ble_eq_true rfl, Nat.le_of_ble_eq_true rfl⟩ ⟨Nat.le_refl _, Nat.le_refl _⟩ (by decide +kernel) (fun q11 _ => ?_)
  refine es_blk (pc' := 92) (L' := [some (.ref 125), some (.ref p0), some (.int p1), some (.int p2), some (.ref (eh_ep (s.1 p0 3))), some (.ref 29)]) (st' := [.ref (eh_ep (s.1 p0 3)), .ref 29]) [(.aload 5, 0), (.aload 4, 0)] (by decide +kernel) rfl rfl ?_
  refine ef_getI (k := (eh_ep (s.1 p0 3))) (j := 9) (eh_E0sh h7) eL_3_195 (by decide) (by decide +kernel) ?_
  refine ef_veV (d := 2) (k := 29) (As := [.int (q11.1 (eh_ep (s.1 p0 3)) 9)]) (st := []) eV_9_feedNumber eK_3_181 (eS_9_feedNumber g q11 29 (q11.1 (eh_ep (s.1 p0 3)) 9) rfl) rfl rfl (Nat.le_of_ble_eq_true rfl) rfl (Nat.le_of_ble_eq_true rfl) ⟨Nat.le_of_ble_eq_true rfl, Nat.le_of_ble_eq_true rfl⟩ ⟨Nat.le_refl _, Nat.le_refl _⟩ (by decide +kernel) (fun q12 _ => ?_)
  refine es_blk (pc' := 101) (L' := [some (.ref 125), some (.ref p0), some (.int p1), some (.int p2), some (.ref (eh_ep (s.1 p0 3))), some (.ref 29)]) (st' := [.ref 125, .ref 29]) [(.aload 5, 0), (.aload_n 0, 0)] (by decide +kernel) rfl rfl ?_
  refine ef_getP (k := 125) (j := 0) (q := 1) rfl eL_3_15 rfl rfl rfl (by decide +kernel) ?_
  refine ef_getP (k := 1) (j := 6) (q := 33) rfl eL_3_173 rfl rfl rfl (by decide +kernel) ?_
  refine es_blk (pc' := 108) (L' := [some (.ref 125), some (.ref p0), some (.int p1), some (.int p2), some (.ref (eh_ep (s.1 p0 3))), some (.ref 29)]) (st' := [.ref 125, .ref 33, .ref 29]) [(.aload_n 0, 0)] (by decide +kernel) rfl rfl ?_
  refine ef_getP (k := 125) (j := 3) (q := 126) rfl eL_3_9 rfl rfl rfl (by decide +kernel) ?_
  refine ef_veV (d := 3) (k := 29) (As := [.ref 33, .ref 126]) (st := []) eV_9_endKeyed eK_3_188 (eS_9_endKeyed g q12 29 33 8 126 8 rfl rfl rfl) rfl rfl (Nat.le_of_ble_eq_true rfl) rfl (Nat.le_of_ble_eq_true rfl) ⟨Nat.le_of_ble_eq_true rfl, Nat.le_of_ble_eq_true rfl⟩ ⟨Nat.le_refl _, Nat.le_refl _⟩ (by decide +kernel) (fun q13 _ => ?_)
  refine es_blk (pc' := 117) (L' := [some (.ref 125), some (.ref p0), some (.int p1), some (.int p2), some (.ref (eh_ep (s.1 p0 3))), some (.ref 29)]) (st' := [.ref (eh_ep (s.1 p0 3)), .ref (eh_ep (s.1 p0 3))]) [(.aload 4, 0), (.dup, 0)] (by decide +kernel) rfl rfl ?_
  refine ef_getI (k := (eh_ep (s.1 p0 3))) (j := 9) (eh_E0sh h7) eL_3_195 (by decide) (by decide +kernel) ?_
  refine es_blk (pc' := 122) (L' := [some (.ref 125), some (.ref p0), some (.int p1), some (.int p2), some (.ref (eh_ep (s.1 p0 3))), some (.ref 29)]) (st' := [.int ((q13.1 (eh_ep (s.1 p0 3)) 9) + 1), .ref (eh_ep (s.1 p0 3))]) [(.iconst 1, 1), (.iadd, 0)] (by decide +kernel) rfl rfl ?_
  refine ef_putI (k := (eh_ep (s.1 p0 3))) (j := 9) (eh_E0sh h7) eL_3_195 rfl rfl (by decide +kernel) ?_
  refine ef_V (fun _ => [some (.ref 125), some (.ref p0), some (.int p1), some (.int p2), some (.ref (eh_ep (s.1 p0 3))), some (.ref 29)]) (fun _ => []) (fun s14 => eh_FW s14) (fun s14 => ?_)
  refine es_blk (pc' := 129) (L' := [some (.ref 125), some (.ref p0), some (.int p1), some (.int p2), some (.ref (eh_ep (s.1 p0 3))), some (.ref 29)]) (st' := [.ref 125, .int p1, .ref p0, .ref 125]) [(.aload_n 0, 0), (.aload_n 1, 0), (.iload_n 2, 0), (.aload_n 0, 0)] (by decide +kernel) rfl rfl ?_
  refine ef_getP (k := 125) (j := 3) (q := 126) rfl eL_3_9 rfl rfl rfl (by decide +kernel) ?_
  refine es_blk (pc' := 133) (L' := [some (.ref 125), some (.ref p0), some (.int p1), some (.int p2), some (.ref (eh_ep (s.1 p0 3))), some (.ref 29)]) (st' := [.int p2, .ref 126, .int p1, .ref p0, .ref 125]) [(.iload_n 3, 0)] (by decide +kernel) rfl rfl ?_
  refine ef_veV (d := 4) (k := 125) (As := [.ref p0, .int p1, .ref 126, .int p2]) (st := []) eV_3_write eK_3_161 (eS_3_write g s14 p0 p1 126 8 p2 hp0 rfl) rfl rfl (Nat.le_of_ble_eq_true rfl) rfl (Nat.le_of_ble_eq_true rfl) ⟨Nat.le_of_ble_eq_true rfl, Nat.le_of_ble_eq_true rfl⟩ ⟨Nat.le_refl _, Nat.le_refl _⟩ (by decide +kernel) (fun q15 _ => ?_)
  refine es_blk (pc' := 137) (L' := [some (.ref 125), some (.ref p0), some (.int p1), some (.int p2), some (.ref (eh_ep (s.1 p0 3))), some (.ref 29)]) (st' := [.int 0]) [(.iconst 0, 0)] (by decide +kernel) rfl rfl ?_
  exact es_ret rfl rfl rfl ⟨by decide +kernel, _, rfl, rfl⟩ (Nat.le_refl _) (Nat.le_refl _)
def eF_3_giveDigest (s : eh_F) (p0 : Nat) (p1 : Int32) (p2 np2 : Nat) : Option (Int32 × eh_F) := Option.bind (eF_3_reaches s p0 p1 32 2) (fun q1 => if q1 = 0 then (some ((-1), s)) else (Option.bind (eF_3_write s p0 p1 p2 np2 32) (fun q3 => some (0, q3))))
set_option maxHeartbeats 4000000 in
set_option maxRecDepth 100000 in
theorem eS_3_giveDigest (g : eh_P) (s : eh_F) (p0 : Nat) (p1 : Int32) (p2 np2 : Nat) (hp0 : eh_okF p0 = true) (hp2 : eh_SH[p2]? = some (100, np2)) : eh_Sim g eM_3_giveDigest (eh_R 5 0 0) eh_eI 0 0 0 (eh_en 4 [.ref 125, .ref p0, .int p1, .ref p2]) [] (eh_FW s) (eF_3_giveDigest s p0 p1 p2 np2) := by
  unfold eF_3_giveDigest
  refine ef_top (L := [some (.ref 125), some (.ref p0), some (.int p1), some (.ref p2)]) rfl ?_
  refine es_blk (pc' := 6) (L' := [some (.ref 125), some (.ref p0), some (.int p1), some (.ref p2)]) (st' := [.int 2, .int 32, .int p1, .ref p0, .ref 125]) [(.aload_n 0, 0), (.aload_n 1, 0), (.iload_n 2, 0), (.bipush 32, 32), (.iconst 2, 2)] (by decide +kernel) rfl rfl ?_
  refine ef_vpI (d := 4) (k := 125) (As := [.ref p0, .int p1, .int 32, .int 2]) (st := []) eV_3_reaches eK_3_134 (eS_3_reaches g s p0 p1 32 2 hp0) rfl rfl (Nat.le_of_ble_eq_true rfl) rfl (Nat.le_of_ble_eq_true rfl) ⟨Nat.le_of_ble_eq_true rfl, Nat.le_of_ble_eq_true rfl⟩ ⟨Nat.le_refl _, Nat.le_refl _⟩ (by decide +kernel) (fun q1 _ => ?_)
  refine es_ne (tgt := 14) (off := (5)) (by decide +kernel) (by decide) (fun h2 => ?_) (fun h2 => ?_)
  · refine es_blk (pc' := 13) (L' := [some (.ref 125), some (.ref p0), some (.int p1), some (.ref p2)]) (st' := [.int (-1)]) [(.iconst (-1), (-1))] (by decide +kernel) rfl rfl ?_
    exact es_ret rfl rfl rfl ⟨by decide +kernel, _, rfl, rfl⟩ (Nat.le_refl _) (Nat.le_refl _)
  refine es_blk (pc' := 20) (L' := [some (.ref 125), some (.ref p0), some (.int p1), some (.ref p2)]) (st' := [.int 32, .ref p2, .int p1, .ref p0, .ref 125]) [(.aload_n 0, 0), (.aload_n 1, 0), (.iload_n 2, 0), (.aload_n 3, 0), (.bipush 32, 32)] (by decide +kernel) rfl rfl ?_
  refine ef_veV (d := 4) (k := 125) (As := [.ref p0, .int p1, .ref p2, .int 32]) (st := []) eV_3_write eK_3_161 (eS_3_write g s p0 p1 p2 np2 32 hp0 hp2) rfl rfl (Nat.le_of_ble_eq_true rfl) rfl (Nat.le_of_ble_eq_true rfl) ⟨Nat.le_of_ble_eq_true rfl, Nat.le_of_ble_eq_true rfl⟩ ⟨Nat.le_refl _, Nat.le_refl _⟩ (by decide +kernel) (fun q3 _ => ?_)
  refine es_blk (pc' := 24) (L' := [some (.ref 125), some (.ref p0), some (.int p1), some (.ref p2)]) (st' := [.int 0]) [(.iconst 0, 0)] (by decide +kernel) rfl rfl ?_
  exact es_ret rfl rfl rfl ⟨by decide +kernel, _, rfl, rfl⟩ (Nat.le_refl _) (Nat.le_refl _)
def eF_3_send (s : eh_F) (p0 : Nat) (p1 : Int32) (p2 : Int32) : Option (Int32 × eh_F) := Option.bind (eF_5_hasEnclave s p1) (fun q1 => eh_J (fun (u3 : Unit) => some ((-1), s)) (fun j2 => if q1 = 0 then (j2 ()) else (if p1 = (s.1 p0 3) then (j2 ()) else (Option.bind (eF_3_reaches s p0 p2 32 1) (fun q6 => if q6 = 0 then (j2 ()) else (if eh_in p1 6 then if (s.1 (eh_ep p1) 5) = 2 then (if (s.1 (eh_ep p1) 11) = 0 then (Option.bind (eF_3_read s p2 32 ((eh_ep p1) + 7) 8 0) (fun q11 => if eh_in (q11.1 p0 3) 6 then if eh_cok 0 0 8 8 8 then eh_V (eh_tF q11 ((eh_ep p1) + 8) (va_cpy (q11.1 ((eh_ep (q11.1 p0 3)) + 5)) (q11.1 ((eh_ep p1) + 8)) (eh_ix 0) (eh_ix 0) (eh_ix 8))) (fun s13 => eh_V (eh_tI s13 (eh_ep p1) 11 1) (fun s14 => Option.bind (eh_loop (fun (r18 : (Int32 × eh_F) → Option (eh_F)) (t15 : Int32 × eh_F) => if t15.1 < 8 then (if eh_in t15.1 8 then Option.bind (eF_9_flip t15.2 (t15.2.1 ((eh_ep p1) + 7) (eh_ix t15.1))) (fun q20 => Option.bind (eF_5_note t15.2 6 p0 p1 t15.1 q20) (fun q21 => eh_V ((t15.1 + 1) : Int32) (fun x22 => r18 (x22, q21)))) else none) else (some t15.2)) eh_FU (0, s14)) (fun (e16 : eh_F) => some (0, e16)))) else none else none)) else (some ((-5), s))) else (some ((-2), s)) else none))))))
set_option maxHeartbeats 4000000 in
set_option maxRecDepth 100000 in
theorem eS_3_send (g : eh_P) (s : eh_F) (p0 : Nat) (p1 : Int32) (p2 : Int32) (hp0 : eh_okF p0 = true) : eh_Sim g eM_3_send (eh_R 5 0 0) eh_eI 0 0 0 (eh_en 6 [.ref 125, .ref p0, .int p1, .int p2]) [] (eh_FW s) (eF_3_send s p0 p1 p2) := by
  unfold eF_3_send
  refine ef_top (L := [some (.ref 125), some (.ref p0), some (.int p1), some (.int p2), none, none]) rfl ?_
  refine es_blk (pc' := 1) (L' := [some (.ref 125), some (.ref p0), some (.int p1), some (.int p2), none, none]) (st' := [.ref 125]) [(.aload_n 0, 0)] (by decide +kernel) rfl rfl ?_
  refine ef_getP (k := 125) (j := 0) (q := 1) rfl eL_3_15 rfl rfl rfl (by decide +kernel) ?_
  refine es_blk (pc' := 5) (L' := [some (.ref 125), some (.ref p0), some (.int p1), some (.int p2), none, none]) (st' := [.int p1, .ref 1]) [(.iload_n 2, 0)] (by decide +kernel) rfl rfl ?_
  refine ef_vpI (d := 1) (k := 1) (As := [.int p1]) (st := []) eV_5_hasEnclave eK_3_212 (eS_5_hasEnclave g s p1) rfl rfl (Nat.le_of_ble_eq_true rfl) rfl (Nat.le_of_ble_eq_true rfl) ⟨Nat.le_of_ble_eq_true rfl, Nat.le_of_ble_eq_true rfl⟩ ⟨Nat.le_refl _, Nat.le_refl _⟩ (by decide +kernel) (fun q1 _ => ?_)
  refine ef_J (X := fun j2 => ∀ (u3 : Unit), eh_Sim g eM_3_send (eh_R 5 0 0) eh_eI 0 0 31 [none, none, none, none, none, none] [] (eh_FW s) ((j2 u3).bind some)) ?_ (fun j2 Hj2 => ?_)
  · intro u3
    refine es_blk (pc' := 32) (L' := [none, none, none, none, none, none]) (st' := [.int (-1)]) [(.iconst (-1), (-1))] (by decide +kernel) rfl rfl ?_
    exact es_ret rfl rfl rfl ⟨by decide +kernel, _, rfl, rfl⟩ (Nat.le_refl _) (Nat.le_refl _)
  refine es_eq (tgt := 31) (off := (23)) (by decide +kernel) (by decide) (fun h4 => ?_) (fun h4 => ?_)
  · refine ef_drop (L2 := [none, none, none, none, none, none]) [false, false, false, false, true, true] rfl rfl ?_
    exact Hj2 ()
  refine es_blk (pc' := 13) (L' := [some (.ref 125), some (.ref p0), some (.int p1), some (.int p2), none, none]) (st' := [.ref p0, .int p1]) [(.iload_n 2, 0), (.aload_n 1, 0)] (by decide +kernel) rfl rfl ?_
  refine ef_getI (k := p0) (j := 3) (eh_F0sh hp0) eL_3_73 (by decide) (by decide +kernel) ?_
  refine es_ieq (tgt := 31) (off := (15)) (by decide +kernel) (by decide) (fun h5 => ?_) (fun h5 => ?_)
  · refine ef_drop (L2 := [none, none, none, none, none, none]) [false, false, false, false, true, true] rfl rfl ?_
    exact Hj2 ()
  refine es_blk (pc' := 25) (L' := [some (.ref 125), some (.ref p0), some (.int p1), some (.int p2), none, none]) (st' := [.int 1, .int 32, .int p2, .ref p0, .ref 125]) [(.aload_n 0, 0), (.aload_n 1, 0), (.iload_n 3, 0), (.bipush 32, 32), (.iconst 1, 1)] (by decide +kernel) rfl rfl ?_
  refine ef_vpI (d := 4) (k := 125) (As := [.ref p0, .int p2, .int 32, .int 1]) (st := []) eV_3_reaches eK_3_134 (eS_3_reaches g s p0 p2 32 1 hp0) rfl rfl (Nat.le_of_ble_eq_true rfl) rfl (Nat.le_of_ble_eq_true rfl) ⟨Nat.le_of_ble_eq_true rfl, Nat.le_of_ble_eq_true rfl⟩ ⟨Nat.le_refl _, Nat.le_refl _⟩ (by decide +kernel) (fun q6 _ => ?_)
  refine es_ne (tgt := 33) (off := (5)) (by decide +kernel) (by decide) (fun h7 => ?_) (fun h7 => ?_)
  · refine ef_drop (L2 := [none, none, none, none, none, none]) [false, false, false, false, true, true] rfl rfl ?_
    exact Hj2 ()
  refine es_blk (pc' := 34) (L' := [some (.ref 125), some (.ref p0), some (.int p1), some (.int p2), none, none]) (st' := [.ref 125]) [(.aload_n 0, 0)] (by decide +kernel) rfl rfl ?_
  refine ef_getP (k := 125) (j := 0) (q := 1) rfl eL_3_15 rfl rfl rfl (by decide +kernel) ?_
  refine ef_getP (k := 1) (j := 4) (q := 28) rfl eL_3_69 rfl rfl rfl (by decide +kernel) ?_
  refine es_blk (pc' := 41) (L' := [some (.ref 125), some (.ref p0), some (.int p1), some (.int p2), none, none]) (st' := [.int p1, .ref 28]) [(.iload_n 2, 0)] (by decide +kernel) rfl rfl ?_
  refine ef_encs (by decide +kernel) (fun h8 => ?_)
  refine es_blk (pc' := 46) (L' := [some (.ref 125), some (.ref p0), some (.int p1), some (.int p2), some (.ref (eh_ep p1)), none]) (st' := [.ref (eh_ep p1)]) [(.astore 4, 0), (.aload 4, 0)] (by decide +kernel) rfl rfl ?_
  refine ef_getI (k := (eh_ep p1)) (j := 5) (eh_E0sh h8) eL_3_215 (by decide) (by decide +kernel) ?_
  refine es_blk (pc' := 50) (L' := [some (.ref 125), some (.ref p0), some (.int p1), some (.int p2), some (.ref (eh_ep p1)), none]) (st' := [.int 2, .int (s.1 (eh_ep p1) 5)]) [(.iconst 2, 2)] (by decide +kernel) rfl rfl ?_
  refine es_ieq (tgt := 56) (off := (6)) (by decide +kernel) (by decide) (fun h9 => ?_) (fun h9 => ?_)
  · refine es_blk (pc' := 58) (L' := [some (.ref 125), some (.ref p0), some (.int p1), some (.int p2), some (.ref (eh_ep p1)), none]) (st' := [.ref (eh_ep p1)]) [(.aload 4, 0)] (by decide +kernel) rfl rfl ?_
    refine ef_getI (k := (eh_ep p1)) (j := 11) (eh_E0sh h8) eL_3_218 (by decide) (by decide +kernel) ?_
    refine es_eq (tgt := 67) (off := (6)) (by decide +kernel) (by decide) (fun h10 => ?_) (fun h10 => ?_)
    · refine es_blk (pc' := 73) (L' := [some (.ref 125), some (.ref p0), some (.int p1), some (.int p2), some (.ref (eh_ep p1)), none]) (st' := [.ref (eh_ep p1), .int 32, .int p2, .ref 125]) [(.aload_n 0, 0), (.iload_n 3, 0), (.bipush 32, 32), (.aload 4, 0)] (by decide +kernel) rfl rfl ?_
      refine ef_getP (k := (eh_ep p1)) (j := 3) (q := ((eh_ep p1) + 7)) (eh_E0sh h8) eL_3_221 rfl (eh_Ex h8 _).2.2.2.1 (eh_E7sh h8) (by decide +kernel) ?_
      refine es_blk (pc' := 77) (L' := [some (.ref 125), some (.ref p0), some (.int p1), some (.int p2), some (.ref (eh_ep p1)), none]) (st' := [.int 0, .ref ((eh_ep p1) + 7), .int 32, .int p2, .ref 125]) [(.iconst 0, 0)] (by decide +kernel) rfl rfl ?_
      refine ef_veV (d := 3) (k := 125) (As := [.int p2, .int 32, .ref ((eh_ep p1) + 7), .int 0]) (st := []) eV_3_read eK_3_150 (eS_3_read g s p2 32 ((eh_ep p1) + 7) 8 0 (eh_E7sh h8)) rfl rfl (Nat.le_of_ble_eq_true rfl) rfl (Nat.le_of_ble_eq_true rfl) ⟨Nat.le_of_ble_eq_true rfl, Nat.le_of_ble_eq_true rfl⟩ ⟨Nat.le_refl _, Nat.le_refl _⟩ (by decide +kernel) (fun q11 _ => ?_)
      refine es_blk (pc' := 81) (L' := [some (.ref 125), some (.ref p0), some (.int p1), some (.int p2), some (.ref (eh_ep p1)), none]) (st' := [.ref 125]) [(.aload_n 0, 0)] (by decide +kernel) rfl rfl ?_
      refine ef_getP (k := 125) (j := 0) (q := 1) rfl eL_3_15 rfl rfl rfl (by decide +kernel) ?_
      refine ef_getP (k := 1) (j := 4) (q := 28) rfl eL_3_69 rfl rfl rfl (by decide +kernel) ?_
      refine es_blk (pc' := 88) (L' := [some (.ref 125), some (.ref p0), some (.int p1), some (.int p2), some (.ref (eh_ep p1)), none]) (st' := [.ref p0, .ref 28]) [(.aload_n 1, 0)] (by decide +kernel) rfl rfl ?_
      refine ef_getI (k := p0) (j := 3) (eh_F0sh hp0) eL_3_73 (by decide) (by decide +kernel) ?_
      refine ef_encs (by decide +kernel) (fun h12 => ?_)
      refine ef_getP (k := (eh_ep (q11.1 p0 3))) (j := 1) (q := ((eh_ep (q11.1 p0 3)) + 5)) (eh_E0sh h12) eL_3_77 rfl (eh_Ex h12 _).2.1 (eh_E5sh h12) (by decide +kernel) ?_
      refine es_blk (pc' := 98) (L' := [some (.ref 125), some (.ref p0), some (.int p1), some (.int p2), some (.ref (eh_ep p1)), none]) (st' := [.ref (eh_ep p1), .int 0, .ref ((eh_ep (q11.1 p0 3)) + 5)]) [(.iconst 0, 0), (.aload 4, 0)] (by decide +kernel) rfl rfl ?_
      refine ef_getP (k := (eh_ep p1)) (j := 4) (q := ((eh_ep p1) + 8)) (eh_E0sh h8) eL_3_224 rfl (eh_Ex h8 _).2.2.2.2 (eh_E8sh h8) (by decide +kernel) ?_
      refine es_blk (pc' := 104) (L' := [some (.ref 125), some (.ref p0), some (.int p1), some (.int p2), some (.ref (eh_ep p1)), none]) (st' := [.int 8, .int 0, .ref ((eh_ep p1) + 8), .int 0, .ref ((eh_ep (q11.1 p0 3)) + 5)]) [(.iconst 0, 0), (.bipush 8, 8)] (by decide +kernel) rfl rfl ?_
      refine ef_copyI (k0 := ((eh_ep (q11.1 p0 3)) + 5)) (k1 := ((eh_ep p1) + 8)) (eh_E5sh h12) (eh_E8sh h8) eK_3_141 eh_acN eh_acS eh_acI ⟨Nat.le_of_ble_eq_true rfl, Nat.le_of_ble_eq_true rfl⟩ (Nat.le_of_ble_eq_true rfl) (by decide +kernel) (fun _ => ?_)
      refine ef_V (fun _ => [some (.ref 125), some (.ref p0), some (.int p1), some (.int p2), some (.ref (eh_ep p1)), none]) (fun _ => []) (fun s13 => eh_FW s13) (fun s13 => ?_)
      refine es_blk (pc' := 110) (L' := [some (.ref 125), some (.ref p0), some (.int p1), some (.int p2), some (.ref (eh_ep p1)), none]) (st' := [.int 1, .ref (eh_ep p1)]) [(.aload 4, 0), (.iconst 1, 1)] (by decide +kernel) rfl rfl ?_
      refine ef_putZc (k := (eh_ep p1)) (j := 11) (eh_E0sh h8) eL_3_218 rfl rfl (by decide) (by decide +kernel) ?_
      refine ef_V (fun _ => [some (.ref 125), some (.ref p0), some (.int p1), some (.int p2), some (.ref (eh_ep p1)), none]) (fun _ => []) (fun s14 => eh_FW s14) (fun s14 => ?_)
      refine es_blk (pc' := 116) (L' := [some (.ref 125), some (.ref p0), some (.int p1), some (.int p2), some (.ref (eh_ep p1)), some (.int 0)]) (st' := []) [(.iconst 0, 0), (.istore 5, 0)] (by decide +kernel) rfl rfl ?_
      refine ef_drop (L2 := [some (.ref 125), some (.ref p0), some (.int p1), none, some (.ref (eh_ep p1)), some (.int 0)]) [true, true, true, false, true, true] rfl rfl ?_
      refine ef_loop1 (n := eh_FU) (i := (0, s14)) (px := 153) (fun (t15 : Int32 × eh_F) => [some (.ref 125), some (.ref p0), some (.int p1), none, some (.ref (eh_ep p1)), some (.int t15.1)]) (fun (t15 : Int32 × eh_F) => []) (fun (t15 : Int32 × eh_F) => eh_FW t15.2) (fun (e16 : eh_F) => [none, none, none, none, none, none]) (fun (e16 : eh_F) => []) (fun (e16 : eh_F) => eh_FW e16) (fun e16 => ?_) (fun K17 HxK17_0 r18 Hr18 t15 => ?_)
      · refine es_blk (pc' := 154) (L' := [none, none, none, none, none, none]) (st' := [.int 0]) [(.iconst 0, 0)] (by decide +kernel) rfl rfl ?_
        exact es_ret rfl rfl rfl ⟨by decide +kernel, _, rfl, rfl⟩ (Nat.le_refl _) (Nat.le_refl _)
      · refine es_blk (pc' := 120) (L' := [some (.ref 125), some (.ref p0), some (.int p1), none, some (.ref (eh_ep p1)), some (.int t15.1)]) (st' := [.int 8, .int t15.1]) [(.iload 5, 0), (.bipush 8, 8)] (by decide +kernel) rfl rfl ?_
        refine es_ige (tgt := 153) (off := (33)) (by decide +kernel) (by decide) (fun h19 => ?_) (fun h19 => ?_)
        · refine es_blk (pc' := 124) (L' := [some (.ref 125), some (.ref p0), some (.int p1), none, some (.ref (eh_ep p1)), some (.int t15.1)]) (st' := [.ref 125]) [(.aload_n 0, 0)] (by decide +kernel) rfl rfl ?_
          refine ef_getP (k := 125) (j := 0) (q := 1) rfl eL_3_15 rfl rfl rfl (by decide +kernel) ?_
          refine es_blk (pc' := 135) (L' := [some (.ref 125), some (.ref p0), some (.int p1), none, some (.ref (eh_ep p1)), some (.int t15.1)]) (st' := [.ref (eh_ep p1), .int t15.1, .int p1, .ref p0, .int 6, .ref 1]) [(.bipush 6, 6), (.aload_n 1, 0), (.iload_n 2, 0), (.iload 5, 0), (.aload 4, 0)] (by decide +kernel) rfl rfl ?_
          refine ef_getP (k := (eh_ep p1)) (j := 3) (q := ((eh_ep p1) + 7)) (eh_E0sh h8) eL_3_221 rfl (eh_Ex h8 _).2.2.2.1 (eh_E7sh h8) (by decide +kernel) ?_
          refine es_blk (pc' := 140) (L' := [some (.ref 125), some (.ref p0), some (.int p1), none, some (.ref (eh_ep p1)), some (.int t15.1)]) (st' := [.int t15.1, .ref ((eh_ep p1) + 7), .int t15.1, .int p1, .ref p0, .int 6, .ref 1]) [(.iload 5, 0)] (by decide +kernel) rfl rfl ?_
          refine ef_ald (k := ((eh_ep p1) + 7)) (eh_E7sh h8) (Or.inl ⟨rfl, rfl⟩) (by decide +kernel) (fun _ => ?_)
          refine ef_spI (d := 1) (As := [.int (t15.2.1 ((eh_ep p1) + 7) (eh_ix t15.1))]) (st := [.int t15.1, .int p1, .ref p0, .int 6, .ref 1]) eV_9_flip eK_3_227 (eS_9_flip g t15.2 (t15.2.1 ((eh_ep p1) + 7) (eh_ix t15.1))) rfl (Nat.le_of_ble_eq_true rfl) rfl (Nat.le_of_ble_eq_true rfl) ⟨Nat.le_of_ble_eq_true rfl, Nat.le_of_ble_eq_true rfl⟩ ⟨Nat.le_refl _, Nat.le_refl _⟩ (by decide +kernel) (fun q20 _ => ?_)
          refine ef_veV (d := 1) (k := 1) (As := [.int 6, .ref p0, .int p1, .int t15.1, .int q20]) (st := []) eV_5_note eK_3_111 (eS_5_note g t15.2 6 p0 p1 t15.1 q20 hp0) rfl rfl (Nat.le_of_ble_eq_true rfl) rfl (Nat.le_of_ble_eq_true rfl) ⟨Nat.le_of_ble_eq_true rfl, Nat.le_of_ble_eq_true rfl⟩ ⟨Nat.le_refl _, Nat.le_refl _⟩ (by decide +kernel) (fun q21 _ => ?_)
          refine es_blk (pc' := 150) (L' := [some (.ref 125), some (.ref p0), some (.int p1), none, some (.ref (eh_ep p1)), some (.int (t15.1 + 1))]) (st' := []) [(.iinc 5 1, 1)] (by decide +kernel) rfl rfl ?_
          refine ef_V (fun x22 => [some (.ref 125), some (.ref p0), some (.int p1), none, some (.ref (eh_ep p1)), some (.int x22)]) (fun _ => []) (fun _ => eh_FW q21) (fun x22 => ?_)
          refine es_goto (tgt := 116) (off := (-34)) (by decide +kernel) (by decide) ?_
          exact Hr18 (x22, q21)
        refine ef_drop (L2 := [none, none, none, none, none, none]) [false, false, false, true, false, false] rfl rfl ?_
        exact HxK17_0 t15.2
    refine es_blk (pc' := 66) (L' := [some (.ref 125), some (.ref p0), some (.int p1), some (.int p2), some (.ref (eh_ep p1)), none]) (st' := [.int (-5)]) [(.bipush (-5), (-5))] (by decide +kernel) rfl rfl ?_
    exact es_ret rfl rfl rfl ⟨by decide +kernel, _, rfl, rfl⟩ (Nat.le_refl _) (Nat.le_refl _)
  refine es_blk (pc' := 55) (L' := [some (.ref 125), some (.ref p0), some (.int p1), some (.int p2), some (.ref (eh_ep p1)), none]) (st' := [.int (-2)]) [(.bipush (-2), (-2))] (by decide +kernel) rfl rfl ?_
  exact es_ret rfl rfl rfl ⟨by decide +kernel, _, rfl, rfl⟩ (Nat.le_refl _) (Nat.le_refl _)
