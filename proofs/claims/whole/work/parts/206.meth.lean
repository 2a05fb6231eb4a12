def eF_6_rightsIn (s : eh_F) (p0 : Int32) (p1 : Int32) : Option (Int32) := Option.bind (eF_6_sideOf s p0 p1) (fun q1 => if eh_in p0 12 then if (s.1 3 (eh_ix p0)) = 1 then (eh_J (fun (a4 : Int32) => some a4) (fun j3 => if q1 = 0 then (j3 0) else (j3 7))) else (if eh_in p0 12 then if ((s.1 8 (eh_ix p0)) &&& q1) = 0 then (some 0) else (if eh_in p0 12 then eh_J (fun (a8 : Int32) => some a8) (fun j7 => if (s.1 3 (eh_ix p0)) = 4 then (j7 7) else (j7 3)) else none) else none) else none)
set_option maxHeartbeats 4000000 in
set_option maxRecDepth 100000 in
theorem eS_6_rightsIn (g : eh_P) (s : eh_F) (p0 : Int32) (p1 : Int32) : eh_Sim g eM_6_rightsIn (eh_R 2 0 0) (eh_pI s) 0 0 0 (eh_en 4 [.ref 2, .int p0, .int p1]) [] (eh_FW s) (eF_6_rightsIn s p0 p1) := by
  unfold eF_6_rightsIn
  refine ef_top (L := [some (.ref 2), some (.int p0), some (.int p1), none]) rfl ?_
  refine es_blk (pc' := 3) (L' := [some (.ref 2), some (.int p0), some (.int p1), none]) (st' := [.int p1, .int p0, .ref 2]) [(.aload_n 0, 0), (.iload_n 1, 0), (.iload_n 2, 0)] (by decide +kernel) rfl rfl ?_
  refine ef_vpI (d := 1) (k := 2) (As := [.int p0, .int p1]) (st := []) eV_6_sideOf eK_6_64 (eS_6_sideOf g s p0 p1) rfl rfl (Nat.le_of_ble_eq_true rfl) rfl (Nat.le_of_ble_eq_true rfl) ⟨Nat.le_of_ble_eq_true rfl, Nat.le_of_ble_eq_true rfl⟩ ⟨Nat.le_refl _, Nat.le_refl _⟩ (by decide +kernel) (fun q1 _ => ?_)
  refine es_blk (pc' := 8) (L' := [some (.ref 2), some (.int p0), some (.int p1), some (.int q1)]) (st' := [.ref 2]) [(.istore_n 3, 0), (.aload_n 0, 0)] (by decide +kernel) rfl rfl ?_
  refine ef_getP (k := 2) (j := 0) (q := 3) rfl eL_6_11 rfl rfl rfl (by decide +kernel) ?_
  refine es_blk (pc' := 12) (L' := [some (.ref 2), some (.int p0), some (.int p1), some (.int q1)]) (st' := [.int p0, .ref 3]) [(.iload_n 1, 0)] (by decide +kernel) rfl rfl ?_
  refine ef_ald (k := 3) rfl (Or.inl ⟨rfl, rfl⟩) (by decide +kernel) (fun _ => ?_)
  refine es_blk (pc' := 14) (L' := [some (.ref 2), some (.int p0), some (.int p1), some (.int q1)]) (st' := [.int 1, .int (s.1 3 (eh_ix p0))]) [(.iconst 1, 1)] (by decide +kernel) rfl rfl ?_
  refine es_ine (tgt := 28) (off := (14)) (by decide +kernel) (by decide) (fun h2 => ?_) (fun h2 => ?_)
  · refine es_blk (pc' := 18) (L' := [some (.ref 2), some (.int p0), some (.int p1), some (.int q1)]) (st' := [.int q1]) [(.iload_n 3, 0)] (by decide +kernel) rfl rfl ?_
    refine ef_J (X := fun j3 => ∀ (a4 : Int32), eh_Sim g eM_6_rightsIn (eh_R 2 0 0) (eh_pI s) 0 0 27 [none, none, none, none] [.int a4] (eh_FW s) ((j3 a4).bind some)) ?_ (fun j3 Hj3 => ?_)
    · intro a4
      exact es_ret rfl rfl rfl ⟨by decide +kernel, _, rfl, rfl⟩ (Nat.le_refl _) (Nat.le_refl _)
    refine es_eq (tgt := 26) (off := (8)) (by decide +kernel) (by decide) (fun h5 => ?_) (fun h5 => ?_)
    · refine es_blk (pc' := 27) (L' := [some (.ref 2), some (.int p0), some (.int p1), some (.int q1)]) (st' := [.int 0]) [(.iconst 0, 0)] (by decide +kernel) rfl rfl ?_
      refine ef_drop (L2 := [none, none, none, none]) [false, false, false, false] rfl rfl ?_
      exact Hj3 _
    refine es_blk (pc' := 23) (L' := [some (.ref 2), some (.int p0), some (.int p1), some (.int q1)]) (st' := [.int 7]) [(.bipush 7, 7)] (by decide +kernel) rfl rfl ?_
    refine es_goto (tgt := 27) (off := (4)) (by decide +kernel) (by decide) ?_
    refine ef_drop (L2 := [none, none, none, none]) [false, false, false, false] rfl rfl ?_
    exact Hj3 _
  refine es_blk (pc' := 29) (L' := [some (.ref 2), some (.int p0), some (.int p1), some (.int q1)]) (st' := [.ref 2]) [(.aload_n 0, 0)] (by decide +kernel) rfl rfl ?_
  refine ef_getP (k := 2) (j := 5) (q := 8) rfl eL_6_27 rfl rfl rfl (by decide +kernel) ?_
  refine es_blk (pc' := 33) (L' := [some (.ref 2), some (.int p0), some (.int p1), some (.int q1)]) (st' := [.int p0, .ref 8]) [(.iload_n 1, 0)] (by decide +kernel) rfl rfl ?_
  refine ef_ald (k := 8) rfl (Or.inl ⟨rfl, rfl⟩) (by decide +kernel) (fun _ => ?_)
  refine es_blk (pc' := 36) (L' := [some (.ref 2), some (.int p0), some (.int p1), some (.int q1)]) (st' := [.int ((s.1 8 (eh_ix p0)) &&& q1)]) [(.iload_n 3, 0), (.iand, 0)] (by decide +kernel) rfl rfl ?_
  refine es_ne (tgt := 41) (off := (5)) (by decide +kernel) (by decide) (fun h6 => ?_) (fun h6 => ?_)
  · refine es_blk (pc' := 40) (L' := [some (.ref 2), some (.int p0), some (.int p1), some (.int q1)]) (st' := [.int 0]) [(.iconst 0, 0)] (by decide +kernel) rfl rfl ?_
    exact es_ret rfl rfl rfl ⟨by decide +kernel, _, rfl, rfl⟩ (Nat.le_refl _) (Nat.le_refl _)
  refine es_blk (pc' := 42) (L' := [some (.ref 2), some (.int p0), some (.int p1), some (.int q1)]) (st' := [.ref 2]) [(.aload_n 0, 0)] (by decide +kernel) rfl rfl ?_
  refine ef_getP (k := 2) (j := 0) (q := 3) rfl eL_6_11 rfl rfl rfl (by decide +kernel) ?_
  refine es_blk (pc' := 46) (L' := [some (.ref 2), some (.int p0), some (.int p1), some (.int q1)]) (st' := [.int p0, .ref 3]) [(.iload_n 1, 0)] (by decide +kernel) rfl rfl ?_
  refine ef_ald (k := 3) rfl (Or.inl ⟨rfl, rfl⟩) (by decide +kernel) (fun _ => ?_)
  refine es_blk (pc' := 48) (L' := [some (.ref 2), some (.int p0), some (.int p1), some (.int q1)]) (st' := [.int 4, .int (s.1 3 (eh_ix p0))]) [(.iconst 4, 4)] (by decide +kernel) rfl rfl ?_
  refine ef_J (X := fun j7 => ∀ (a8 : Int32), eh_Sim g eM_6_rightsIn (eh_R 2 0 0) (eh_pI s) 0 0 57 [none, none, none, none] [.int a8] (eh_FW s) ((j7 a8).bind some)) ?_ (fun j7 Hj7 => ?_)
  · intro a8
    exact es_ret rfl rfl rfl ⟨by decide +kernel, _, rfl, rfl⟩ (Nat.le_refl _) (Nat.le_refl _)
  refine es_ine (tgt := 56) (off := (8)) (by decide +kernel) (by decide) (fun h9 => ?_) (fun h9 => ?_)
  · refine es_blk (pc' := 53) (L' := [some (.ref 2), some (.int p0), some (.int p1), some (.int q1)]) (st' := [.int 7]) [(.bipush 7, 7)] (by decide +kernel) rfl rfl ?_
    refine es_goto (tgt := 57) (off := (4)) (by decide +kernel) (by decide) ?_
    refine ef_drop (L2 := [none, none, none, none]) [false, false, false, false] rfl rfl ?_
    exact Hj7 _
  refine es_blk (pc' := 57) (L' := [some (.ref 2), some (.int p0), some (.int p1), some (.int q1)]) (st' := [.int 3]) [(.iconst 3, 3)] (by decide +kernel) rfl rfl ?_
  refine ef_drop (L2 := [none, none, none, none]) [false, false, false, false] rfl rfl ?_
  exact Hj7 _
def eF_6_store (s : eh_F) (p0 : Int32) (p1 : Int32) (p2 : Int32) : Option (eh_F) := Option.bind (eF_6_change s p0 p1 p2) (fun q1 => Option.bind (eh_loop (fun (r5 : (Int32 × eh_F) → Option (eh_F)) (t2 : Int32 × eh_F) => if t2.1 < 2 then (if eh_in t2.1 2 then eh_J (fun (s8 : eh_F) => eh_V ((t2.1 + 1) : Int32) (fun x9 => r5 (x9, s8))) (fun j7 => if (t2.2.1 11 (eh_ix t2.1)) = (eh_shr p0 2) then (if eh_in t2.1 2 then eh_V (eh_tI t2.2 11 (eh_ix t2.1) (-1)) (fun s11 => j7 s11) else none) else (j7 t2.2)) else none) else (some t2.2)) eh_FU (0, q1)) (fun (e3 : eh_F) => some e3))
set_option maxHeartbeats 4000000 in
set_option maxRecDepth 100000 in
theorem eS_6_store (g : eh_P) (s : eh_F) (p0 : Int32) (p1 : Int32) (p2 : Int32) : eh_Sim g eM_6_store (eh_R 2 0 0) eh_eV 0 0 0 (eh_en 5 [.ref 2, .int p0, .int p1, .int p2]) [] (eh_FW s) (eF_6_store s p0 p1 p2) := by
  unfold eF_6_store
  refine ef_top (L := [some (.ref 2), some (.int p0), some (.int p1), some (.int p2), none]) rfl ?_
  refine es_blk (pc' := 4) (L' := [some (.ref 2), some (.int p0), some (.int p1), some (.int p2), none]) (st' := [.int p2, .int p1, .int p0, .ref 2]) [(.aload_n 0, 0), (.iload_n 1, 0), (.iload_n 2, 0), (.iload_n 3, 0)] (by decide +kernel) rfl rfl ?_
  refine ef_veV (d := 1) (k := 2) (As := [.int p0, .int p1, .int p2]) (st := []) eV_6_change eK_6_68 (eS_6_change g s p0 p1 p2) rfl rfl (Nat.le_of_ble_eq_true rfl) rfl (Nat.le_of_ble_eq_true rfl) ⟨Nat.le_of_ble_eq_true rfl, Nat.le_of_ble_eq_true rfl⟩ ⟨Nat.le_refl _, Nat.le_refl _⟩ (by decide +kernel) (fun q1 _ => ?_)
  refine es_blk (pc' := 10) (L' := [some (.ref 2), some (.int p0), some (.int p1), some (.int p2), some (.int 0)]) (st' := []) [(.iconst 0, 0), (.istore 4, 0)] (by decide +kernel) rfl rfl ?_
  refine ef_drop (L2 := [some (.ref 2), some (.int p0), none, none, some (.int 0)]) [true, true, false, false, true] rfl rfl ?_
  refine ef_loop1 (n := eh_FU) (i := (0, q1)) (px := 43) (fun (t2 : Int32 × eh_F) => [some (.ref 2), some (.int p0), none, none, some (.int t2.1)]) (fun (t2 : Int32 × eh_F) => []) (fun (t2 : Int32 × eh_F) => eh_FW t2.2) (fun (e3 : eh_F) => [none, none, none, none, none]) (fun (e3 : eh_F) => []) (fun (e3 : eh_F) => eh_FW e3) (fun e3 => ?_) (fun K4 HxK4_0 r5 Hr5 t2 => ?_)
  · exact es_ret rfl rfl rfl ⟨by decide +kernel, rfl⟩ (Nat.le_refl _) (Nat.le_refl _)
  · refine es_blk (pc' := 13) (L' := [some (.ref 2), some (.int p0), none, none, some (.int t2.1)]) (st' := [.int 2, .int t2.1]) [(.iload 4, 0), (.iconst 2, 2)] (by decide +kernel) rfl rfl ?_
    refine es_ige (tgt := 43) (off := (30)) (by decide +kernel) (by decide) (fun h6 => ?_) (fun h6 => ?_)
    · refine es_blk (pc' := 17) (L' := [some (.ref 2), some (.int p0), none, none, some (.int t2.1)]) (st' := [.ref 2]) [(.aload_n 0, 0)] (by decide +kernel) rfl rfl ?_
      refine ef_getP (k := 2) (j := 8) (q := 11) rfl eL_6_37 rfl rfl rfl (by decide +kernel) ?_
      refine es_blk (pc' := 22) (L' := [some (.ref 2), some (.int p0), none, none, some (.int t2.1)]) (st' := [.int t2.1, .ref 11]) [(.iload 4, 0)] (by decide +kernel) rfl rfl ?_
      refine ef_ald (k := 11) rfl (Or.inl ⟨rfl, rfl⟩) (by decide +kernel) (fun _ => ?_)
      refine es_blk (pc' := 26) (L' := [some (.ref 2), some (.int p0), none, none, some (.int t2.1)]) (st' := [.int (eh_shr p0 2), .int (t2.2.1 11 (eh_ix t2.1))]) [(.iload_n 1, 0), (.iconst 2, 2), (.ishr, 0)] (by decide +kernel) rfl rfl ?_
      refine ef_J (X := fun j7 => ∀ (s8 : eh_F), eh_Sim g eM_6_store (eh_R 2 0 0) eh_eV 0 0 37 [some (.ref 2), some (.int p0), none, none, some (.int t2.1)] [] (eh_FW s8) ((j7 s8).bind K4)) ?_ (fun j7 Hj7 => ?_)
      · intro s8
        refine es_blk (pc' := 40) (L' := [some (.ref 2), some (.int p0), none, none, some (.int (t2.1 + 1))]) (st' := []) [(.iinc 4 1, 1)] (by decide +kernel) rfl rfl ?_
        refine ef_V (fun x9 => [some (.ref 2), some (.int p0), none, none, some (.int x9)]) (fun _ => []) (fun _ => eh_FW s8) (fun x9 => ?_)
        refine es_goto (tgt := 10) (off := (-30)) (by decide +kernel) (by decide) ?_
        exact Hr5 (x9, s8)
      refine es_ine (tgt := 37) (off := (11)) (by decide +kernel) (by decide) (fun h10 => ?_) (fun h10 => ?_)
      · refine es_blk (pc' := 30) (L' := [some (.ref 2), some (.int p0), none, none, some (.int t2.1)]) (st' := [.ref 2]) [(.aload_n 0, 0)] (by decide +kernel) rfl rfl ?_
        refine ef_getP (k := 2) (j := 8) (q := 11) rfl eL_6_37 rfl rfl rfl (by decide +kernel) ?_
        refine es_blk (pc' := 36) (L' := [some (.ref 2), some (.int p0), none, none, some (.int t2.1)]) (st' := [.int (-1), .int t2.1, .ref 11]) [(.iload 4, 0), (.iconst (-1), (-1))] (by decide +kernel) rfl rfl ?_
        refine ef_ast (k := 11) rfl (by decide +kernel) (fun _ => ?_)
        refine ef_V (fun _ => [some (.ref 2), some (.int p0), none, none, some (.int t2.1)]) (fun _ => []) (fun s11 => eh_FW s11) (fun s11 => ?_)
        exact Hj7 _
      exact Hj7 _
    refine ef_drop (L2 := [none, none, none, none, none]) [false, false, true, true, false] rfl rfl ?_
    exact HxK4_0 t2.2
def eF_6_give (s : eh_F) (p0 : Int32) (p1 : Int32) (p2 : Int32) (p3 : Int32) (p4 : Int32) (p5 : Int32) : Option (eh_F) := if eh_in p0 12 then eh_V (eh_tI s 3 (eh_ix p0) p1) (fun s1 => if eh_in p0 12 then eh_V (eh_tI s1 4 (eh_ix p0) p2) (fun s2 => if eh_in p0 12 then eh_V (eh_tI s2 5 (eh_ix p0) p3) (fun s3 => if eh_in p0 12 then eh_V (eh_tI s3 6 (eh_ix p0) p4) (fun s4 => if eh_in p0 12 then eh_V (eh_tI s4 7 (eh_ix p0) p5) (fun s5 => if eh_in p0 12 then eh_V (eh_tI s5 8 (eh_ix p0) 0) (fun s6 => Option.bind (eF_6_markPages s6 p0 p0) (fun q7 => eh_J (fun (s9 : eh_F) => some s9) (fun j8 => if p1 = 2 then (j8 q7) else (Option.bind (eF_6_wipe q7 p2 p3) (fun q11 => j8 q11))))) else none) else none) else none) else none) else none) else none
set_option maxHeartbeats 4000000 in
set_option maxRecDepth 100000 in
theorem eS_6_give (g : eh_P) (s : eh_F) (p0 : Int32) (p1 : Int32) (p2 : Int32) (p3 : Int32) (p4 : Int32) (p5 : Int32) : eh_Sim g eM_6_give (eh_R 2 0 0) eh_eV 0 0 0 (eh_en 7 [.ref 2, .int p0, .int p1, .int p2, .int p3, .int p4, .int p5]) [] (eh_FW s) (eF_6_give s p0 p1 p2 p3 p4 p5) := by
  unfold eF_6_give
  refine ef_top (L := [some (.ref 2), some (.int p0), some (.int p1), some (.int p2), some (.int p3), some (.int p4), some (.int p5)]) rfl ?_
  refine es_blk (pc' := 1) (L' := [some (.ref 2), some (.int p0), some (.int p1), some (.int p2), some (.int p3), some (.int p4), some (.int p5)]) (st' := [.ref 2]) [(.aload_n 0, 0)] (by decide +kernel) rfl rfl ?_
  refine ef_getP (k := 2) (j := 0) (q := 3) rfl eL_6_11 rfl rfl rfl (by decide +kernel) ?_
  refine es_blk (pc' := 6) (L' := [some (.ref 2), some (.int p0), some (.int p1), some (.int p2), some (.int p3), some (.int p4), some (.int p5)]) (st' := [.int p1, .int p0, .ref 3]) [(.iload_n 1, 0), (.iload_n 2, 0)] (by decide +kernel) rfl rfl ?_
  refine ef_ast (k := 3) rfl (by decide +kernel) (fun _ => ?_)
  refine ef_V (fun _ => [some (.ref 2), some (.int p0), some (.int p1), some (.int p2), some (.int p3), some (.int p4), some (.int p5)]) (fun _ => []) (fun s1 => eh_FW s1) (fun s1 => ?_)
  refine es_blk (pc' := 8) (L' := [some (.ref 2), some (.int p0), some (.int p1), some (.int p2), some (.int p3), some (.int p4), some (.int p5)]) (st' := [.ref 2]) [(.aload_n 0, 0)] (by decide +kernel) rfl rfl ?_
  refine ef_getP (k := 2) (j := 1) (q := 4) rfl eL_6_15 rfl rfl rfl (by decide +kernel) ?_
  refine es_blk (pc' := 13) (L' := [some (.ref 2), some (.int p0), some (.int p1), some (.int p2), some (.int p3), some (.int p4), some (.int p5)]) (st' := [.int p2, .int p0, .ref 4]) [(.iload_n 1, 0), (.iload_n 3, 0)] (by decide +kernel) rfl rfl ?_
  refine ef_ast (k := 4) rfl (by decide +kernel) (fun _ => ?_)
  refine ef_V (fun _ => [some (.ref 2), some (.int p0), some (.int p1), some (.int p2), some (.int p3), some (.int p4), some (.int p5)]) (fun _ => []) (fun s2 => eh_FW s2) (fun s2 => ?_)
  refine es_blk (pc' := 15) (L' := [some (.ref 2), some (.int p0), some (.int p1), some (.int p2), some (.int p3), some (.int p4), some (.int p5)]) (st' := [.ref 2]) [(.aload_n 0, 0)] (by decide +kernel) rfl rfl ?_
  refine ef_getP (k := 2) (j := 2) (q := 5) rfl eL_6_18 rfl rfl rfl (by decide +kernel) ?_
  refine es_blk (pc' := 21) (L' := [some (.ref 2), some (.int p0), some (.int p1), some (.int p2), some (.int p3), some (.int p4), some (.int p5)]) (st' := [.int p3, .int p0, .ref 5]) [(.iload_n 1, 0), (.iload 4, 0)] (by decide +kernel) rfl rfl ?_
  refine ef_ast (k := 5) rfl (by decide +kernel) (fun _ => ?_)
  refine ef_V (fun _ => [some (.ref 2), some (.int p0), some (.int p1), some (.int p2), some (.int p3), some (.int p4), some (.int p5)]) (fun _ => []) (fun s3 => eh_FW s3) (fun s3 => ?_)
  refine es_blk (pc' := 23) (L' := [some (.ref 2), some (.int p0), some (.int p1), some (.int p2), some (.int p3), some (.int p4), some (.int p5)]) (st' := [.ref 2]) [(.aload_n 0, 0)] (by decide +kernel) rfl rfl ?_
  refine ef_getP (k := 2) (j := 3) (q := 6) rfl eL_6_21 rfl rfl rfl (by decide +kernel) ?_
  refine es_blk (pc' := 29) (L' := [some (.ref 2), some (.int p0), some (.int p1), some (.int p2), some (.int p3), some (.int p4), some (.int p5)]) (st' := [.int p4, .int p0, .ref 6]) [(.iload_n 1, 0), (.iload 5, 0)] (by decide +kernel) rfl rfl ?_
  refine ef_ast (k := 6) rfl (by decide +kernel) (fun _ => ?_)
  refine ef_V (fun _ => [some (.ref 2), some (.int p0), some (.int p1), some (.int p2), some (.int p3), some (.int p4), some (.int p5)]) (fun _ => []) (fun s4 => eh_FW s4) (fun s4 => ?_)
  refine es_blk (pc' := 31) (L' := [some (.ref 2), some (.int p0), some (.int p1), some (.int p2), some (.int p3), some (.int p4), some (.int p5)]) (st' := [.ref 2]) [(.aload_n 0, 0)] (by decide +kernel) rfl rfl ?_
  refine ef_getP (k := 2) (j := 4) (q := 7) rfl eL_6_24 rfl rfl rfl (by decide +kernel) ?_
  refine es_blk (pc' := 37) (L' := [some (.ref 2), some (.int p0), some (.int p1), some (.int p2), some (.int p3), some (.int p4), some (.int p5)]) (st' := [.int p5, .int p0, .ref 7]) [(.iload_n 1, 0), (.iload 6, 0)] (by decide +kernel) rfl rfl ?_
  refine ef_ast (k := 7) rfl (by decide +kernel) (fun _ => ?_)
  refine ef_V (fun _ => [some (.ref 2), some (.int p0), some (.int p1), some (.int p2), some (.int p3), some (.int p4), some (.int p5)]) (fun _ => []) (fun s5 => eh_FW s5) (fun s5 => ?_)
  refine es_blk (pc' := 39) (L' := [some (.ref 2), some (.int p0), some (.int p1), some (.int p2), some (.int p3), some (.int p4), some (.int p5)]) (st' := [.ref 2]) [(.aload_n 0, 0)] (by decide +kernel) rfl rfl ?_
  refine ef_getP (k := 2) (j := 5) (q := 8) rfl eL_6_27 rfl rfl rfl (by decide +kernel) ?_
  refine es_blk (pc' := 44) (L' := [some (.ref 2), some (.int p0), some (.int p1), some (.int p2), some (.int p3), some (.int p4), some (.int p5)]) (st' := [.int 0, .int p0, .ref 8]) [(.iload_n 1, 0), (.iconst 0, 0)] (by decide +kernel) rfl rfl ?_
  refine ef_ast (k := 8) rfl (by decide +kernel) (fun _ => ?_)
  refine ef_V (fun _ => [some (.ref 2), some (.int p0), some (.int p1), some (.int p2), some (.int p3), some (.int p4), some (.int p5)]) (fun _ => []) (fun s6 => eh_FW s6) (fun s6 => ?_)
  refine es_blk (pc' := 48) (L' := [some (.ref 2), some (.int p0), some (.int p1), some (.int p2), some (.int p3), some (.int p4), some (.int p5)]) (st' := [.int p0, .int p0, .ref 2]) [(.aload_n 0, 0), (.iload_n 1, 0), (.iload_n 1, 0)] (by decide +kernel) rfl rfl ?_
  refine ef_veV (d := 1) (k := 2) (As := [.int p0, .int p0]) (st := []) eV_6_markPages eK_6_72 (eS_6_markPages g s6 p0 p0) rfl rfl (Nat.le_of_ble_eq_true rfl) rfl (Nat.le_of_ble_eq_true rfl) ⟨Nat.le_of_ble_eq_true rfl, Nat.le_of_ble_eq_true rfl⟩ ⟨Nat.le_refl _, Nat.le_refl _⟩ (by decide +kernel) (fun q7 _ => ?_)
  refine es_blk (pc' := 53) (L' := [some (.ref 2), some (.int p0), some (.int p1), some (.int p2), some (.int p3), some (.int p4), some (.int p5)]) (st' := [.int 2, .int p1]) [(.iload_n 2, 0), (.iconst 2, 2)] (by decide +kernel) rfl rfl ?_
  refine ef_J (X := fun j8 => ∀ (s9 : eh_F), eh_Sim g eM_6_give (eh_R 2 0 0) eh_eV 0 0 63 [none, none, none, none, none, none, none] [] (eh_FW s9) ((j8 s9).bind some)) ?_ (fun j8 Hj8 => ?_)
  · intro s9
    exact es_ret rfl rfl rfl ⟨by decide +kernel, rfl⟩ (Nat.le_refl _) (Nat.le_refl _)
  refine es_ieq (tgt := 63) (off := (10)) (by decide +kernel) (by decide) (fun h10 => ?_) (fun h10 => ?_)
  · refine ef_drop (L2 := [none, none, none, none, none, none, none]) [false, false, false, false, false, false, false] rfl rfl ?_
    exact Hj8 _
  refine es_blk (pc' := 60) (L' := [some (.ref 2), some (.int p0), some (.int p1), some (.int p2), some (.int p3), some (.int p4), some (.int p5)]) (st' := [.int p3, .int p2, .ref 2]) [(.aload_n 0, 0), (.iload_n 3, 0), (.iload 4, 0)] (by decide +kernel) rfl rfl ?_
  refine ef_veV (d := 1) (k := 2) (As := [.int p2, .int p3]) (st := []) eV_6_wipe eK_6_76 (eS_6_wipe g q7 p2 p3) rfl rfl (Nat.le_of_ble_eq_true rfl) rfl (Nat.le_of_ble_eq_true rfl) ⟨Nat.le_of_ble_eq_true rfl, Nat.le_of_ble_eq_true rfl⟩ ⟨Nat.le_refl _, Nat.le_refl _⟩ (by decide +kernel) (fun q11 _ => ?_)
  refine ef_drop (L2 := [none, none, none, none, none, none, none]) [false, false, false, false, false, false, false] rfl rfl ?_
  exact Hj8 _
def eF_6_takeBack (s : eh_F) (p0 : Int32) : Option (eh_F) := if eh_in p0 12 then eh_J (fun (s2 : eh_F) => Option.bind (eF_6_markPages s2 p0 (-1)) (fun q3 => if eh_in p0 12 then eh_V (eh_tI q3 3 (eh_ix p0) 0) (fun s4 => some s4) else none)) (fun j1 => if (s.1 3 (eh_ix p0)) = 2 then (j1 s) else (if eh_in p0 12 then if eh_in p0 12 then Option.bind (eF_6_wipe s (s.1 4 (eh_ix p0)) (s.1 5 (eh_ix p0))) (fun q6 => j1 q6) else none else none)) else none
set_option maxHeartbeats 4000000 in
set_option maxRecDepth 100000 in
theorem eS_6_takeBack (g : eh_P) (s : eh_F) (p0 : Int32) : eh_Sim g eM_6_takeBack (eh_R 2 0 0) eh_eV 0 0 0 (eh_en 2 [.ref 2, .int p0]) [] (eh_FW s) (eF_6_takeBack s p0) := by
  unfold eF_6_takeBack
  refine ef_top (L := [some (.ref 2), some (.int p0)]) rfl ?_
  refine es_blk (pc' := 1) (L' := [some (.ref 2), some (.int p0)]) (st' := [.ref 2]) [(.aload_n 0, 0)] (by decide +kernel) rfl rfl ?_
  refine ef_getP (k := 2) (j := 0) (q := 3) rfl eL_6_11 rfl rfl rfl (by decide +kernel) ?_
  refine es_blk (pc' := 5) (L' := [some (.ref 2), some (.int p0)]) (st' := [.int p0, .ref 3]) [(.iload_n 1, 0)] (by decide +kernel) rfl rfl ?_
  refine ef_ald (k := 3) rfl (Or.inl ⟨rfl, rfl⟩) (by decide +kernel) (fun _ => ?_)
  refine es_blk (pc' := 7) (L' := [some (.ref 2), some (.int p0)]) (st' := [.int 2, .int (s.1 3 (eh_ix p0))]) [(.iconst 2, 2)] (by decide +kernel) rfl rfl ?_
  refine ef_J (X := fun j1 => ∀ (s2 : eh_F), eh_Sim g eM_6_takeBack (eh_R 2 0 0) eh_eV 0 0 26 [some (.ref 2), some (.int p0)] [] (eh_FW s2) ((j1 s2).bind some)) ?_ (fun j1 Hj1 => ?_)
  · intro s2
    refine es_blk (pc' := 29) (L' := [some (.ref 2), some (.int p0)]) (st' := [.int (-1), .int p0, .ref 2]) [(.aload_n 0, 0), (.iload_n 1, 0), (.iconst (-1), (-1))] (by decide +kernel) rfl rfl ?_
    refine ef_veV (d := 1) (k := 2) (As := [.int p0, .int (-1)]) (st := []) eV_6_markPages eK_6_72 (eS_6_markPages g s2 p0 (-1)) rfl rfl (Nat.le_of_ble_eq_true rfl) rfl (Nat.le_of_ble_eq_true rfl) ⟨Nat.le_of_ble_eq_true rfl, Nat.le_of_ble_eq_true rfl⟩ ⟨Nat.le_refl _, Nat.le_refl _⟩ (by decide +kernel) (fun q3 _ => ?_)
    refine es_blk (pc' := 33) (L' := [some (.ref 2), some (.int p0)]) (st' := [.ref 2]) [(.aload_n 0, 0)] (by decide +kernel) rfl rfl ?_
    refine ef_getP (k := 2) (j := 0) (q := 3) rfl eL_6_11 rfl rfl rfl (by decide +kernel) ?_
    refine es_blk (pc' := 38) (L' := [some (.ref 2), some (.int p0)]) (st' := [.int 0, .int p0, .ref 3]) [(.iload_n 1, 0), (.iconst 0, 0)] (by decide +kernel) rfl rfl ?_
    refine ef_ast (k := 3) rfl (by decide +kernel) (fun _ => ?_)
    refine ef_V (fun _ => [some (.ref 2), some (.int p0)]) (fun _ => []) (fun s4 => eh_FW s4) (fun s4 => ?_)
    exact es_ret rfl rfl rfl ⟨by decide +kernel, rfl⟩ (Nat.le_refl _) (Nat.le_refl _)
  refine es_ieq (tgt := 26) (off := (19)) (by decide +kernel) (by decide) (fun h5 => ?_) (fun h5 => ?_)
  · exact Hj1 _
  refine es_blk (pc' := 12) (L' := [some (.ref 2), some (.int p0)]) (st' := [.ref 2, .ref 2]) [(.aload_n 0, 0), (.aload_n 0, 0)] (by decide +kernel) rfl rfl ?_
  refine ef_getP (k := 2) (j := 1) (q := 4) rfl eL_6_15 rfl rfl rfl (by decide +kernel) ?_
  refine es_blk (pc' := 16) (L' := [some (.ref 2), some (.int p0)]) (st' := [.int p0, .ref 4, .ref 2]) [(.iload_n 1, 0)] (by decide +kernel) rfl rfl ?_
  refine ef_ald (k := 4) rfl (Or.inl ⟨rfl, rfl⟩) (by decide +kernel) (fun _ => ?_)
  refine es_blk (pc' := 18) (L' := [some (.ref 2), some (.int p0)]) (st' := [.ref 2, .int (s.1 4 (eh_ix p0)), .ref 2]) [(.aload_n 0, 0)] (by decide +kernel) rfl rfl ?_
  refine ef_getP (k := 2) (j := 2) (q := 5) rfl eL_6_18 rfl rfl rfl (by decide +kernel) ?_
  refine es_blk (pc' := 22) (L' := [some (.ref 2), some (.int p0)]) (st' := [.int p0, .ref 5, .int (s.1 4 (eh_ix p0)), .ref 2]) [(.iload_n 1, 0)] (by decide +kernel) rfl rfl ?_
  refine ef_ald (k := 5) rfl (Or.inl ⟨rfl, rfl⟩) (by decide +kernel) (fun _ => ?_)
  refine ef_veV (d := 1) (k := 2) (As := [.int (s.1 4 (eh_ix p0)), .int (s.1 5 (eh_ix p0))]) (st := []) eV_6_wipe eK_6_76 (eS_6_wipe g s (s.1 4 (eh_ix p0)) (s.1 5 (eh_ix p0))) rfl rfl (Nat.le_of_ble_eq_true rfl) rfl (Nat.le_of_ble_eq_true rfl) ⟨Nat.le_of_ble_eq_true rfl, Nat.le_of_ble_eq_true rfl⟩ ⟨Nat.le_refl _, Nat.le_refl _⟩ (by decide +kernel) (fun q6 _ => ?_)
  exact Hj1 _
def eF_6_entryOfSystem (s : eh_F) (p0 : Int32) (p1 : Int32) : Option (Int32) := Option.bind (eh_loop (fun (r11 : (Int32 × Int32) → Option ((Int32) ⊕ (Int32))) (t1 : Int32 × Int32) => if t1.2 < 12 then (if eh_in t1.2 12 then eh_J (fun (a14 : Int32) => eh_V ((t1.2 + 1) : Int32) (fun x15 => r11 (a14, x15))) (fun j13 => if (s.1 3 (eh_ix t1.2)) = 0 then (j13 t1.1) else (if eh_in t1.2 12 then if (s.1 3 (eh_ix t1.2)) = 2 then (j13 t1.1) else (if t1.1 = p0 then (some (.inr t1.2)) else (eh_V ((t1.1 + 1) : Int32) (fun x19 => j13 x19))) else none)) else none) else (some (.inl t1.1))) eh_FU (0, 0)) (Sum.elim (fun (e2 : Int32) => if e2 = p0 then (eh_J (fun (a5 : Int32) => some a5) (fun j4 => if p1 = 0 then (j4 0) else (if p1 = 1 then (j4 131072) else (j4 7)))) else (some (-1))) (fun (e8 : Int32) => Option.bind (eF_6_entryPart s e8 p1 0) (fun q9 => some q9)))
set_option maxHeartbeats 4000000 in
set_option maxRecDepth 100000 in
theorem eS_6_entryOfSystem (g : eh_P) (s : eh_F) (p0 : Int32) (p1 : Int32) : eh_Sim g eM_6_entryOfSystem (eh_R 2 0 0) (eh_pI s) 0 0 0 (eh_en 5 [.ref 2, .int p0, .int p1]) [] (eh_FW s) (eF_6_entryOfSystem s p0 p1) := by
  unfold eF_6_entryOfSystem
  refine ef_top (L := [some (.ref 2), some (.int p0), some (.int p1), none, none]) rfl ?_
  refine es_blk (pc' := 5) (L' := [some (.ref 2), some (.int p0), some (.int p1), some (.int 0), some (.int 0)]) (st' := []) [(.iconst 0, 0), (.istore_n 3, 0), (.iconst 0, 0), (.istore 4, 0)] (by decide +kernel) rfl rfl ?_
  refine ef_loop2 (n := eh_FU) (i := (0, 0)) (px := 56) (px2 := 38) (fun (t1 : Int32 × Int32) => [some (.ref 2), some (.int p0), some (.int p1), some (.int t1.1), some (.int t1.2)]) (fun (t1 : Int32 × Int32) => []) (fun (t1 : Int32 × Int32) => eh_FW s) (fun (e2 : Int32) => [none, some (.int p0), some (.int p1), some (.int e2), none]) (fun (e2 : Int32) => []) (fun (e2 : Int32) => eh_FW s) (fun (e8 : Int32) => [some (.ref 2), none, some (.int p1), none, some (.int e8)]) (fun (e8 : Int32) => []) (fun (e8 : Int32) => eh_FW s) (fun e2 => ?_) (fun e8 => ?_) (fun K10 HxK10_0 HxK10_1 r11 Hr11 t1 => ?_)
  · refine es_blk (pc' := 58) (L' := [none, some (.int p0), some (.int p1), some (.int e2), none]) (st' := [.int p0, .int e2]) [(.iload_n 3, 0), (.iload_n 1, 0)] (by decide +kernel) rfl rfl ?_
    refine es_ieq (tgt := 63) (off := (5)) (by decide +kernel) (by decide) (fun h3 => ?_) (fun h3 => ?_)
    · refine es_blk (pc' := 64) (L' := [none, some (.int p0), some (.int p1), some (.int e2), none]) (st' := [.int p1]) [(.iload_n 2, 0)] (by decide +kernel) rfl rfl ?_
      refine ef_J (X := fun j4 => ∀ (a5 : Int32), eh_Sim g eM_6_entryOfSystem (eh_R 2 0 0) (eh_pI s) 0 0 83 [none, none, none, none, none] [.int a5] (eh_FW s) ((j4 a5).bind some)) ?_ (fun j4 Hj4 => ?_)
      · intro a5
        exact es_ret rfl rfl rfl ⟨by decide +kernel, _, rfl, rfl⟩ (Nat.le_refl _) (Nat.le_refl _)
      refine es_ne (tgt := 71) (off := (7)) (by decide +kernel) (by decide) (fun h6 => ?_) (fun h6 => ?_)
      · refine es_blk (pc' := 68) (L' := [none, some (.int p0), some (.int p1), some (.int e2), none]) (st' := [.int 0]) [(.iconst 0, 0)] (by decide +kernel) rfl rfl ?_
        refine es_goto (tgt := 83) (off := (15)) (by decide +kernel) (by decide) ?_
        refine ef_drop (L2 := [none, none, none, none, none]) [true, false, false, false, true] rfl rfl ?_
        exact Hj4 _
      refine es_blk (pc' := 73) (L' := [none, some (.int p0), some (.int p1), some (.int e2), none]) (st' := [.int 1, .int p1]) [(.iload_n 2, 0), (.iconst 1, 1)] (by decide +kernel) rfl rfl ?_
      refine es_ine (tgt := 81) (off := (8)) (by decide +kernel) (by decide) (fun h7 => ?_) (fun h7 => ?_)
      · refine es_ldc (v := 131072) eC_6_46 (by decide +kernel) ?_
        refine es_goto (tgt := 83) (off := (5)) (by decide +kernel) (by decide) ?_
        refine ef_drop (L2 := [none, none, none, none, none]) [true, false, false, false, true] rfl rfl ?_
        exact Hj4 _
      refine es_blk (pc' := 83) (L' := [none, some (.int p0), some (.int p1), some (.int e2), none]) (st' := [.int 7]) [(.bipush 7, 7)] (by decide +kernel) rfl rfl ?_
      refine ef_drop (L2 := [none, none, none, none, none]) [true, false, false, false, true] rfl rfl ?_
      exact Hj4 _
    refine es_blk (pc' := 62) (L' := [none, some (.int p0), some (.int p1), some (.int e2), none]) (st' := [.int (-1)]) [(.iconst (-1), (-1))] (by decide +kernel) rfl rfl ?_
    exact es_ret rfl rfl rfl ⟨by decide +kernel, _, rfl, rfl⟩ (Nat.le_refl _) (Nat.le_refl _)
  · refine es_blk (pc' := 43) (L' := [some (.ref 2), none, some (.int p1), none, some (.int e8)]) (st' := [.int 0, .int p1, .int e8, .ref 2]) [(.aload_n 0, 0), (.iload 4, 0), (.iload_n 2, 0), (.iconst 0, 0)] (by decide +kernel) rfl rfl ?_
    refine ef_vpI (d := 1) (k := 2) (As := [.int e8, .int p1, .int 0]) (st := []) eV_6_entryPart eK_6_79 (eS_6_entryPart g s e8 p1 0) rfl rfl (Nat.le_of_ble_eq_true rfl) rfl (Nat.le_of_ble_eq_true rfl) ⟨Nat.le_of_ble_eq_true rfl, Nat.le_of_ble_eq_true rfl⟩ ⟨Nat.le_refl _, Nat.le_refl _⟩ (by decide +kernel) (fun q9 _ => ?_)
    exact es_ret rfl rfl rfl ⟨by decide +kernel, _, rfl, rfl⟩ (Nat.le_refl _) (Nat.le_refl _)
  · refine es_blk (pc' := 9) (L' := [some (.ref 2), some (.int p0), some (.int p1), some (.int t1.1), some (.int t1.2)]) (st' := [.int 12, .int t1.2]) [(.iload 4, 0), (.bipush 12, 12)] (by decide +kernel) rfl rfl ?_
    refine es_ige (tgt := 56) (off := (47)) (by decide +kernel) (by decide) (fun h12 => ?_) (fun h12 => ?_)
    · refine es_blk (pc' := 13) (L' := [some (.ref 2), some (.int p0), some (.int p1), some (.int t1.1), some (.int t1.2)]) (st' := [.ref 2]) [(.aload_n 0, 0)] (by decide +kernel) rfl rfl ?_
      refine ef_getP (k := 2) (j := 0) (q := 3) rfl eL_6_11 rfl rfl rfl (by decide +kernel) ?_
      refine es_blk (pc' := 18) (L' := [some (.ref 2), some (.int p0), some (.int p1), some (.int t1.1), some (.int t1.2)]) (st' := [.int t1.2, .ref 3]) [(.iload 4, 0)] (by decide +kernel) rfl rfl ?_
      refine ef_ald (k := 3) rfl (Or.inl ⟨rfl, rfl⟩) (by decide +kernel) (fun _ => ?_)
      refine ef_J (X := fun j13 => ∀ (a14 : Int32), eh_Sim g eM_6_entryOfSystem (eh_R 2 0 0) (eh_pI s) 0 0 50 [some (.ref 2), some (.int p0), some (.int p1), some (.int a14), some (.int t1.2)] [] (eh_FW s) ((j13 a14).bind K10)) ?_ (fun j13 Hj13 => ?_)
      · intro a14
        refine es_blk (pc' := 53) (L' := [some (.ref 2), some (.int p0), some (.int p1), some (.int a14), some (.int (t1.2 + 1))]) (st' := []) [(.iinc 4 1, 1)] (by decide +kernel) rfl rfl ?_
        refine ef_V (fun x15 => [some (.ref 2), some (.int p0), some (.int p1), some (.int a14), some (.int x15)]) (fun _ => []) (fun _ => eh_FW s) (fun x15 => ?_)
        refine es_goto (tgt := 5) (off := (-48)) (by decide +kernel) (by decide) ?_
        exact Hr11 (a14, x15)
      refine es_eq (tgt := 50) (off := (31)) (by decide +kernel) (by decide) (fun h16 => ?_) (fun h16 => ?_)
      · exact Hj13 _
      refine es_blk (pc' := 23) (L' := [some (.ref 2), some (.int p0), some (.int p1), some (.int t1.1), some (.int t1.2)]) (st' := [.ref 2]) [(.aload_n 0, 0)] (by decide +kernel) rfl rfl ?_
      refine ef_getP (k := 2) (j := 0) (q := 3) rfl eL_6_11 rfl rfl rfl (by decide +kernel) ?_
      refine es_blk (pc' := 28) (L' := [some (.ref 2), some (.int p0), some (.int p1), some (.int t1.1), some (.int t1.2)]) (st' := [.int t1.2, .ref 3]) [(.iload 4, 0)] (by decide +kernel) rfl rfl ?_
      refine ef_ald (k := 3) rfl (Or.inl ⟨rfl, rfl⟩) (by decide +kernel) (fun _ => ?_)
      refine es_blk (pc' := 30) (L' := [some (.ref 2), some (.int p0), some (.int p1), some (.int t1.1), some (.int t1.2)]) (st' := [.int 2, .int (s.1 3 (eh_ix t1.2))]) [(.iconst 2, 2)] (by decide +kernel) rfl rfl ?_
      refine es_ieq (tgt := 50) (off := (20)) (by decide +kernel) (by decide) (fun h17 => ?_) (fun h17 => ?_)
      · exact Hj13 _
      refine es_blk (pc' := 35) (L' := [some (.ref 2), some (.int p0), some (.int p1), some (.int t1.1), some (.int t1.2)]) (st' := [.int p0, .int t1.1]) [(.iload_n 3, 0), (.iload_n 1, 0)] (by decide +kernel) rfl rfl ?_
      refine es_ine (tgt := 47) (off := (12)) (by decide +kernel) (by decide) (fun h18 => ?_) (fun h18 => ?_)
      · refine ef_drop (L2 := [some (.ref 2), none, some (.int p1), none, some (.int t1.2)]) [true, false, true, false, true] rfl rfl ?_
        exact HxK10_1 t1.2
      refine es_blk (pc' := 50) (L' := [some (.ref 2), some (.int p0), some (.int p1), some (.int (t1.1 + 1)), some (.int t1.2)]) (st' := []) [(.iinc 3 1, 1)] (by decide +kernel) rfl rfl ?_
      refine ef_V (fun x19 => [some (.ref 2), some (.int p0), some (.int p1), some (.int x19), some (.int t1.2)]) (fun _ => []) (fun _ => eh_FW s) (fun x19 => ?_)
      exact Hj13 _
    refine ef_drop (L2 := [none, some (.int p0), some (.int p1), some (.int t1.1), none]) [false, true, true, true, false] rfl rfl ?_
    exact HxK10_0 t1.1
def eF_6_mixWords (s : eh_F) (p0 : Int64) : Option (Int64) := Option.bind (eh_loop (fun (r4 : (Int64 × Int32) → Option (Int64)) (t1 : Int64 × Int32) => if t1.2 < 512 then (Option.bind (eF_6_isOpen s ((eh_shl t1.2 8).toInt64)) (fun q6 => eh_V ((eh_shl t1.2 6) : Int32) (fun x7 => Option.bind (eh_loop (fun (r12 : (Int64 × Int32) → Option (Int64)) (t8 : Int64 × Int32) => if t8.2 < 64 then (eh_J (fun (a15 : Int32) => Option.bind (eF_5_mix s t8.1 a15) (fun q16 => eh_V ((t8.2 + 1) : Int32) (fun x17 => r12 (q16, x17)))) (fun j14 => if q6 = 0 then (j14 0) else (if eh_in (x7 + t8.2) 32768 then j14 (s.1 9 (eh_ix (x7 + t8.2))) else none))) else (some t8.1)) eh_FU (t1.1, 0)) (fun (e9 : Int64) => eh_V ((t1.2 + 1) : Int32) (fun x10 => r4 (e9, x10)))))) else (some t1.1)) eh_FU (p0, 0)) (fun (e2 : Int64) => some e2)
set_option maxHeartbeats 4000000 in
set_option maxRecDepth 100000 in
theorem eS_6_mixWords (g : eh_P) (s : eh_F) (p0 : Int64) : eh_Sim g eM_6_mixWords (eh_R 2 0 0) (eh_pL s) 0 0 0 (eh_en 9 [.ref 2, .long p0]) [] (eh_FW s) (eF_6_mixWords s p0) := by
  unfold eF_6_mixWords
  refine ef_top (L := [some (.ref 2), some (.long p0), none, none, none, none, none, none, none]) rfl ?_
  refine es_blk (pc' := 5) (L' := [some (.ref 2), some (.long p0), none, some (.long p0), none, some (.int 0), none, none, none]) (st' := []) [(.lload_n 1, 0), (.lstore_n 3, 0), (.iconst 0, 0), (.istore 5, 0)] (by decide +kernel) rfl rfl ?_
  refine ef_drop (L2 := [some (.ref 2), none, none, some (.long p0), none, some (.int 0), none, none, none]) [true, false, true, true, true, true, true, true, true] rfl rfl ?_
  refine ef_loop1 (n := eh_FU) (i := (p0, 0)) (px := 78) (fun (t1 : Int64 × Int32) => [some (.ref 2), none, none, some (.long t1.1), none, some (.int t1.2), none, none, none]) (fun (t1 : Int64 × Int32) => []) (fun (t1 : Int64 × Int32) => eh_FW s) (fun (e2 : Int64) => [none, none, none, some (.long e2), none, none, none, none, none]) (fun (e2 : Int64) => []) (fun (e2 : Int64) => eh_FW s) (fun e2 => ?_) (fun K3 HxK3_0 r4 Hr4 t1 => ?_)
  · refine es_blk (pc' := 79) (L' := [none, none, none, some (.long e2), none, none, none, none, none]) (st' := [.long e2]) [(.lload_n 3, 0)] (by decide +kernel) rfl rfl ?_
    exact es_ret rfl rfl rfl ⟨by decide +kernel, rfl⟩ (Nat.le_refl _) (Nat.le_refl _)
  · refine es_blk (pc' := 10) (L' := [some (.ref 2), none, none, some (.long t1.1), none, some (.int t1.2), none, none, none]) (st' := [.int 512, .int t1.2]) [(.iload 5, 0), (.sipush 512, 512)] (by decide +kernel) rfl rfl ?_
    refine es_ige (tgt := 78) (off := (68)) (by decide +kernel) (by decide) (fun h5 => ?_) (fun h5 => ?_)
    · refine es_blk (pc' := 20) (L' := [some (.ref 2), none, none, some (.long t1.1), none, some (.int t1.2), none, none, none]) (st' := [.long ((eh_shl t1.2 8).toInt64), .ref 2]) [(.aload_n 0, 0), (.iload 5, 0), (.bipush 8, 8), (.ishl, 0), (.i2l, 0)] (by decide +kernel) rfl rfl ?_
      refine ef_vpI (d := 1) (k := 2) (As := [.long ((eh_shl t1.2 8).toInt64)]) (st := []) eV_6_isOpen eK_6_51 (eS_6_isOpen g s ((eh_shl t1.2 8).toInt64)) rfl rfl (Nat.le_of_ble_eq_true rfl) rfl (Nat.le_of_ble_eq_true rfl) ⟨Nat.le_of_ble_eq_true rfl, Nat.le_of_ble_eq_true rfl⟩ ⟨Nat.le_refl _, Nat.le_refl _⟩ (by decide +kernel) (fun q6 _ => ?_)
      refine es_blk (pc' := 32) (L' := [some (.ref 2), none, none, some (.long t1.1), none, some (.int t1.2), some (.int q6), some (.int (eh_shl t1.2 6)), none]) (st' := []) [(.istore 6, 0), (.iload 5, 0), (.bipush 6, 6), (.ishl, 0), (.istore 7, 0)] (by decide +kernel) rfl rfl ?_
      refine ef_V (fun x7 => [some (.ref 2), none, none, some (.long t1.1), none, some (.int t1.2), some (.int q6), some (.int x7), none]) (fun _ => []) (fun _ => eh_FW s) (fun x7 => ?_)
      refine es_blk (pc' := 35) (L' := [some (.ref 2), none, none, some (.long t1.1), none, some (.int t1.2), some (.int q6), some (.int x7), some (.int 0)]) (st' := []) [(.iconst 0, 0), (.istore 8, 0)] (by decide +kernel) rfl rfl ?_
      refine ef_loop1 (n := eh_FU) (i := (t1.1, 0)) (px := 72) (fun (t8 : Int64 × Int32) => [some (.ref 2), none, none, some (.long t8.1), none, some (.int t1.2), some (.int q6), some (.int x7), some (.int t8.2)]) (fun (t8 : Int64 × Int32) => []) (fun (t8 : Int64 × Int32) => eh_FW s) (fun (e9 : Int64) => [some (.ref 2), none, none, some (.long e9), none, some (.int t1.2), none, none, none]) (fun (e9 : Int64) => []) (fun (e9 : Int64) => eh_FW s) (fun e9 => ?_) (fun K11 HxK11_0 r12 Hr12 t8 => ?_)
      · refine es_blk (pc' := 75) (L' := [some (.ref 2), none, none, some (.long e9), none, some (.int (t1.2 + 1)), none, none, none]) (st' := []) [(.iinc 5 1, 1)] (by decide +kernel) rfl rfl ?_
        refine ef_V (fun x10 => [some (.ref 2), none, none, some (.long e9), none, some (.int x10), none, none, none]) (fun _ => []) (fun _ => eh_FW s) (fun x10 => ?_)
        refine es_goto (tgt := 5) (off := (-70)) (by decide +kernel) (by decide) ?_
        exact Hr4 (e9, x10)
      · refine es_blk (pc' := 39) (L' := [some (.ref 2), none, none, some (.long t8.1), none, some (.int t1.2), some (.int q6), some (.int x7), some (.int t8.2)]) (st' := [.int 64, .int t8.2]) [(.iload 8, 0), (.bipush 64, 64)] (by decide +kernel) rfl rfl ?_
        refine es_ige (tgt := 72) (off := (33)) (by decide +kernel) (by decide) (fun h13 => ?_) (fun h13 => ?_)
        · refine es_blk (pc' := 45) (L' := [some (.ref 2), none, none, some (.long t8.1), none, some (.int t1.2), some (.int q6), some (.int x7), some (.int t8.2)]) (st' := [.int q6, .long t8.1]) [(.lload_n 3, 0), (.iload 6, 0)] (by decide +kernel) rfl rfl ?_
          refine ef_J (X := fun j14 => ∀ (a15 : Int32), eh_Sim g eM_6_mixWords (eh_R 2 0 0) (eh_pL s) 0 0 62 [some (.ref 2), none, none, none, none, some (.int t1.2), some (.int q6), some (.int x7), some (.int t8.2)] [.int a15, .long t8.1] (eh_FW s) ((j14 a15).bind K11)) ?_ (fun j14 Hj14 => ?_)
          · intro a15
            refine ef_spL (d := 1) (As := [.long t8.1, .int a15]) (st := []) eV_5_mix eK_6_83 (eS_5_mix g s t8.1 a15) rfl (Nat.le_of_ble_eq_true rfl) rfl (Nat.le_of_ble_eq_true rfl) ⟨Nat.le_of_ble_eq_true rfl, Nat.le_of_ble_eq_true rfl⟩ ⟨Nat.le_refl _, Nat.le_refl _⟩ (by decide +kernel) (fun q16 _ => ?_)
            refine es_blk (pc' := 69) (L' := [some (.ref 2), none, none, some (.long q16), none, some (.int t1.2), some (.int q6), some (.int x7), some (.int (t8.2 + 1))]) (st' := []) [(.lstore_n 3, 0), (.iinc 8 1, 1)] (by decide +kernel) rfl rfl ?_
            refine ef_V (fun x17 => [some (.ref 2), none, none, some (.long q16), none, some (.int t1.2), some (.int q6), some (.int x7), some (.int x17)]) (fun _ => []) (fun _ => eh_FW s) (fun x17 => ?_)
            refine es_goto (tgt := 35) (off := (-34)) (by decide +kernel) (by decide) ?_
            exact Hr12 (q16, x17)
          refine es_eq (tgt := 61) (off := (16)) (by decide +kernel) (by decide) (fun h18 => ?_) (fun h18 => ?_)
          · refine es_blk (pc' := 62) (L' := [some (.ref 2), none, none, some (.long t8.1), none, some (.int t1.2), some (.int q6), some (.int x7), some (.int t8.2)]) (st' := [.int 0, .long t8.1]) [(.iconst 0, 0)] (by decide +kernel) rfl rfl ?_
            refine ef_drop (L2 := [some (.ref 2), none, none, none, none, some (.int t1.2), some (.int q6), some (.int x7), some (.int t8.2)]) [true, true, true, false, true, true, true, true, true] rfl rfl ?_
            exact Hj14 _
          refine es_blk (pc' := 49) (L' := [some (.ref 2), none, none, some (.long t8.1), none, some (.int t1.2), some (.int q6), some (.int x7), some (.int t8.2)]) (st' := [.ref 2, .long t8.1]) [(.aload_n 0, 0)] (by decide +kernel) rfl rfl ?_
          refine ef_getP (k := 2) (j := 6) (q := 9) rfl eL_6_31 rfl rfl rfl (by decide +kernel) ?_
          refine es_blk (pc' := 57) (L' := [some (.ref 2), none, none, some (.long t8.1), none, some (.int t1.2), some (.int q6), some (.int x7), some (.int t8.2)]) (st' := [.int (x7 + t8.2), .ref 9, .long t8.1]) [(.iload 7, 0), (.iload 8, 0), (.iadd, 0)] (by decide +kernel) rfl rfl ?_
          refine ef_ald (k := 9) rfl (Or.inl ⟨rfl, rfl⟩) (by decide +kernel) (fun _ => ?_)
          refine es_goto (tgt := 62) (off := (4)) (by decide +kernel) (by decide) ?_
          refine ef_drop (L2 := [some (.ref 2), none, none, none, none, some (.int t1.2), some (.int q6), some (.int x7), some (.int t8.2)]) [true, true, true, false, true, true, true, true, true] rfl rfl ?_
          exact Hj14 _
        refine ef_drop (L2 := [some (.ref 2), none, none, some (.long t8.1), none, some (.int t1.2), none, none, none]) [true, true, true, true, true, true, false, false, false] rfl rfl ?_
        exact HxK11_0 t8.1
    refine ef_drop (L2 := [none, none, none, some (.long t1.1), none, none, none, none, none]) [false, true, true, true, true, false, true, true, true] rfl rfl ?_
    exact HxK3_0 t1.1
def eF_6_mixRegions (s : eh_F) (p0 : Int64) : Option (Int64) := Option.bind (eh_loop (fun (r4 : (Int64 × Int32) → Option (Int64)) (t1 : Int64 × Int32) => if t1.2 < 12 then (if eh_in t1.2 12 then Option.bind (eF_5_mix s t1.1 (s.1 3 (eh_ix t1.2))) (fun q6 => if eh_in t1.2 12 then eh_J (fun (a8 : Int64) => eh_V ((t1.2 + 1) : Int32) (fun x9 => r4 (a8, x9))) (fun j7 => if (s.1 3 (eh_ix t1.2)) = 0 then (j7 q6) else (if eh_in t1.2 12 then Option.bind (eF_5_mix s q6 (s.1 4 (eh_ix t1.2))) (fun q11 => if eh_in t1.2 12 then Option.bind (eF_5_mix s q11 (s.1 5 (eh_ix t1.2))) (fun q12 => j7 q12) else none) else none)) else none) else none) else (some t1.1)) eh_FU (p0, 0)) (fun (e2 : Int64) => some e2)
set_option maxHeartbeats 4000000 in
set_option maxRecDepth 100000 in
theorem eS_6_mixRegions (g : eh_P) (s : eh_F) (p0 : Int64) : eh_Sim g eM_6_mixRegions (eh_R 2 0 0) (eh_pL s) 0 0 0 (eh_en 6 [.ref 2, .long p0]) [] (eh_FW s) (eF_6_mixRegions s p0) := by
  unfold eF_6_mixRegions
  refine ef_top (L := [some (.ref 2), some (.long p0), none, none, none, none]) rfl ?_
  refine es_blk (pc' := 5) (L' := [some (.ref 2), some (.long p0), none, some (.long p0), none, some (.int 0)]) (st' := []) [(.lload_n 1, 0), (.lstore_n 3, 0), (.iconst 0, 0), (.istore 5, 0)] (by decide +kernel) rfl rfl ?_
  refine ef_drop (L2 := [some (.ref 2), none, none, some (.long p0), none, some (.int 0)]) [true, false, true, true, true, true] rfl rfl ?_
  refine ef_loop1 (n := eh_FU) (i := (p0, 0)) (px := 62) (fun (t1 : Int64 × Int32) => [some (.ref 2), none, none, some (.long t1.1), none, some (.int t1.2)]) (fun (t1 : Int64 × Int32) => []) (fun (t1 : Int64 × Int32) => eh_FW s) (fun (e2 : Int64) => [none, none, none, some (.long e2), none, none]) (fun (e2 : Int64) => []) (fun (e2 : Int64) => eh_FW s) (fun e2 => ?_) (fun K3 HxK3_0 r4 Hr4 t1 => ?_)
  · refine es_blk (pc' := 63) (L' := [none, none, none, some (.long e2), none, none]) (st' := [.long e2]) [(.lload_n 3, 0)] (by decide +kernel) rfl rfl ?_
    exact es_ret rfl rfl rfl ⟨by decide +kernel, rfl⟩ (Nat.le_refl _) (Nat.le_refl _)
  · refine es_blk (pc' := 9) (L' := [some (.ref 2), none, none, some (.long t1.1), none, some (.int t1.2)]) (st' := [.int 12, .int t1.2]) [(.iload 5, 0), (.bipush 12, 12)] (by decide +kernel) rfl rfl ?_
    refine es_ige (tgt := 62) (off := (53)) (by decide +kernel) (by decide) (fun h5 => ?_) (fun h5 => ?_)
    · refine es_blk (pc' := 14) (L' := [some (.ref 2), none, none, some (.long t1.1), none, some (.int t1.2)]) (st' := [.ref 2, .long t1.1]) [(.lload_n 3, 0), (.aload_n 0, 0)] (by decide +kernel) rfl rfl ?_
      refine ef_getP (k := 2) (j := 0) (q := 3) rfl eL_6_11 rfl rfl rfl (by decide +kernel) ?_
      refine es_blk (pc' := 19) (L' := [some (.ref 2), none, none, some (.long t1.1), none, some (.int t1.2)]) (st' := [.int t1.2, .ref 3, .long t1.1]) [(.iload 5, 0)] (by decide +kernel) rfl rfl ?_
      refine ef_ald (k := 3) rfl (Or.inl ⟨rfl, rfl⟩) (by decide +kernel) (fun _ => ?_)
      refine ef_spL (d := 1) (As := [.long t1.1, .int (s.1 3 (eh_ix t1.2))]) (st := []) eV_5_mix eK_6_83 (eS_5_mix g s t1.1 (s.1 3 (eh_ix t1.2))) rfl (Nat.le_of_ble_eq_true rfl) rfl (Nat.le_of_ble_eq_true rfl) ⟨Nat.le_of_ble_eq_true rfl, Nat.le_of_ble_eq_true rfl⟩ ⟨Nat.le_refl _, Nat.le_refl _⟩ (by decide +kernel) (fun q6 _ => ?_)
      refine es_blk (pc' := 25) (L' := [some (.ref 2), none, none, some (.long q6), none, some (.int t1.2)]) (st' := [.ref 2]) [(.lstore_n 3, 0), (.aload_n 0, 0)] (by decide +kernel) rfl rfl ?_
      refine ef_getP (k := 2) (j := 0) (q := 3) rfl eL_6_11 rfl rfl rfl (by decide +kernel) ?_
      refine es_blk (pc' := 30) (L' := [some (.ref 2), none, none, some (.long q6), none, some (.int t1.2)]) (st' := [.int t1.2, .ref 3]) [(.iload 5, 0)] (by decide +kernel) rfl rfl ?_
      refine ef_ald (k := 3) rfl (Or.inl ⟨rfl, rfl⟩) (by decide +kernel) (fun _ => ?_)
      refine ef_J (X := fun j7 => ∀ (a8 : Int64), eh_Sim g eM_6_mixRegions (eh_R 2 0 0) (eh_pL s) 0 0 56 [some (.ref 2), none, none, some (.long a8), none, some (.int t1.2)] [] (eh_FW s) ((j7 a8).bind K3)) ?_ (fun j7 Hj7 => ?_)
      · intro a8
        refine es_blk (pc' := 59) (L' := [some (.ref 2), none, none, some (.long a8), none, some (.int (t1.2 + 1))]) (st' := []) [(.iinc 5 1, 1)] (by decide +kernel) rfl rfl ?_
        refine ef_V (fun x9 => [some (.ref 2), none, none, some (.long a8), none, some (.int x9)]) (fun _ => []) (fun _ => eh_FW s) (fun x9 => ?_)
        refine es_goto (tgt := 5) (off := (-54)) (by decide +kernel) (by decide) ?_
        exact Hr4 (a8, x9)
      refine es_eq (tgt := 56) (off := (25)) (by decide +kernel) (by decide) (fun h10 => ?_) (fun h10 => ?_)
      · exact Hj7 _
      refine es_blk (pc' := 36) (L' := [some (.ref 2), none, none, some (.long q6), none, some (.int t1.2)]) (st' := [.ref 2, .long q6]) [(.lload_n 3, 0), (.aload_n 0, 0)] (by decide +kernel) rfl rfl ?_
      refine ef_getP (k := 2) (j := 1) (q := 4) rfl eL_6_15 rfl rfl rfl (by decide +kernel) ?_
      refine es_blk (pc' := 41) (L' := [some (.ref 2), none, none, some (.long q6), none, some (.int t1.2)]) (st' := [.int t1.2, .ref 4, .long q6]) [(.iload 5, 0)] (by decide +kernel) rfl rfl ?_
      refine ef_ald (k := 4) rfl (Or.inl ⟨rfl, rfl⟩) (by decide +kernel) (fun _ => ?_)
      refine ef_spL (d := 1) (As := [.long q6, .int (s.1 4 (eh_ix t1.2))]) (st := []) eV_5_mix eK_6_83 (eS_5_mix g s q6 (s.1 4 (eh_ix t1.2))) rfl (Nat.le_of_ble_eq_true rfl) rfl (Nat.le_of_ble_eq_true rfl) ⟨Nat.le_of_ble_eq_true rfl, Nat.le_of_ble_eq_true rfl⟩ ⟨Nat.le_refl _, Nat.le_refl _⟩ (by decide +kernel) (fun q11 _ => ?_)
      refine es_blk (pc' := 46) (L' := [some (.ref 2), none, none, some (.long q6), none, some (.int t1.2)]) (st' := [.ref 2, .long q11]) [(.aload_n 0, 0)] (by decide +kernel) rfl rfl ?_
      refine ef_getP (k := 2) (j := 2) (q := 5) rfl eL_6_18 rfl rfl rfl (by decide +kernel) ?_
      refine es_blk (pc' := 51) (L' := [some (.ref 2), none, none, some (.long q6), none, some (.int t1.2)]) (st' := [.int t1.2, .ref 5, .long q11]) [(.iload 5, 0)] (by decide +kernel) rfl rfl ?_
      refine ef_ald (k := 5) rfl (Or.inl ⟨rfl, rfl⟩) (by decide +kernel) (fun _ => ?_)
      refine ef_spL (d := 1) (As := [.long q11, .int (s.1 5 (eh_ix t1.2))]) (st := []) eV_5_mix eK_6_83 (eS_5_mix g s q11 (s.1 5 (eh_ix t1.2))) rfl (Nat.le_of_ble_eq_true rfl) rfl (Nat.le_of_ble_eq_true rfl) ⟨Nat.le_of_ble_eq_true rfl, Nat.le_of_ble_eq_true rfl⟩ ⟨Nat.le_refl _, Nat.le_refl _⟩ (by decide +kernel) (fun q12 _ => ?_)
      refine es_blk (pc' := 56) (L' := [some (.ref 2), none, none, some (.long q12), none, some (.int t1.2)]) (st' := []) [(.lstore_n 3, 0)] (by decide +kernel) rfl rfl ?_
      exact Hj7 _
    refine ef_drop (L2 := [none, none, none, some (.long t1.1), none, none]) [false, true, true, true, true, false] rfl rfl ?_
    exact HxK3_0 t1.1
def eF_7_look (s : eh_F) (p0 : Nat) : Option (eh_F) := eh_V (eh_tQ s 4 p0) (fun s1 => if eh_okH (s1.2.2 4) then Option.bind (eF_5_hasFibre s1 (s1.1 (s1.2.2 4) 5)) (fun q3 => if q3 = 0 ∨ q3 = 1 then eh_V (eh_tI s1 124 6 q3) (fun s4 => eh_J (fun (s6 : eh_F) => eh_J (fun (a8 : Nat) => eh_V (eh_tQ s6 7 a8) (fun s10 => eh_J (fun (a12 : Int32) => eh_V (eh_tI s10 124 8 a12) (fun s13 => eh_V (eh_tI s13 124 9 ((s13.1 124 8) + 4)) (fun s14 => eh_V (eh_tI s14 124 10 (-1)) (fun s15 => eh_V (eh_tI s15 124 11 0) (fun s16 => eh_V (eh_tI s16 124 12 0) (fun s17 => some s17)))))) (fun j11 => if (s10.1 124 6) = 0 then (if eh_okH (s10.2.2 4) then j11 (s10.1 (s10.2.2 4) 2) else none) else (if eh_okF (s10.2.2 5) then j11 (s10.1 (s10.2.2 5) 2) else none)))) (fun j7 => if (s6.1 124 6) = 0 then (if eh_okH (s6.2.2 4) then j7 ((s6.2.2 4) + 1) else none) else (if eh_okF (s6.2.2 5) then j7 ((s6.2.2 5) + 1) else none))) (fun j5 => if (s4.1 124 6) = 0 then (j5 s4) else (if eh_okH (s4.2.2 4) then if eh_in (s4.1 (s4.2.2 4) 5) 12 then eh_V (eh_tQ s4 5 (eh_fp (s4.1 (s4.2.2 4) 5))) (fun s27 => j5 s27) else none else none))) else none) else none)
set_option maxHeartbeats 4000000 in
set_option maxRecDepth 100000 in
theorem eS_7_look (g : eh_P) (s : eh_F) (p0 : Nat) (hp0 : eh_okH p0 = true) : eh_Sim g eM_7_look (eh_R 2 0 0) eh_eV 0 0 0 (eh_en 2 [.ref 124, .ref p0]) [] (eh_FW s) (eF_7_look s p0) := by
  unfold eF_7_look
  refine ef_top (L := [some (.ref 124), some (.ref p0)]) rfl ?_
  refine es_blk (pc' := 2) (L' := [some (.ref 124), some (.ref p0)]) (st' := [.ref p0, .ref 124]) [(.aload_n 0, 0), (.aload_n 1, 0)] (by decide +kernel) rfl rfl ?_
  refine ef_putQ (j := 4) (q := p0) (by decide) eL_7_39 rfl rfl (eh_H0sh hp0) (by decide +kernel) ?_
  refine ef_V (fun _ => [some (.ref 124), some (.ref p0)]) (fun _ => []) (fun s1 => eh_FW s1) (fun s1 => ?_)
  refine es_blk (pc' := 7) (L' := [some (.ref 124), some (.ref p0)]) (st' := [.ref 124, .ref 124]) [(.aload_n 0, 0), (.aload_n 0, 0)] (by decide +kernel) rfl rfl ?_
  refine ef_getP (k := 124) (j := 0) (q := 1) rfl eL_7_9 rfl rfl rfl (by decide +kernel) ?_
  refine es_blk (pc' := 11) (L' := [some (.ref 124), some (.ref p0)]) (st' := [.ref 124, .ref 1, .ref 124]) [(.aload_n 0, 0)] (by decide +kernel) rfl rfl ?_
  refine ef_getQ (j := 4) (ok := eh_okH) (by decide) eL_7_39 rfl (fun q h => eh_sh_NU (eh_H0sh h)) (by decide +kernel) (fun h2 => ?_)
  refine ef_getI (k := (s1.2.2 4)) (j := 5) (eh_H0sh h2) eL_7_112 (by decide) (by decide +kernel) ?_
  refine ef_vpI (d := 1) (k := 1) (As := [.int (s1.1 (s1.2.2 4) 5)]) (st := [.ref 124]) eV_5_hasFibre eK_7_117 (eS_5_hasFibre g s1 (s1.1 (s1.2.2 4) 5)) rfl rfl (Nat.le_of_ble_eq_true rfl) rfl (Nat.le_of_ble_eq_true rfl) ⟨Nat.le_of_ble_eq_true rfl, Nat.le_of_ble_eq_true rfl⟩ ⟨Nat.le_refl _, Nat.le_refl _⟩ (by decide +kernel) (fun q3 _ => ?_)
  refine ef_putZ (k := 124) (j := 6) rfl eL_7_94 rfl rfl (by decide +kernel) (fun _ => ?_)
  refine ef_V (fun _ => [some (.ref 124), some (.ref p0)]) (fun _ => []) (fun s4 => eh_FW s4) (fun s4 => ?_)
  refine es_blk (pc' := 24) (L' := [some (.ref 124), some (.ref p0)]) (st' := [.ref 124]) [(.aload_n 0, 0)] (by decide +kernel) rfl rfl ?_
  refine ef_getI (k := 124) (j := 6) rfl eL_7_94 (by decide) (by decide +kernel) ?_
  refine ef_J (X := fun j5 => ∀ (s6 : eh_F), eh_Sim g eM_7_look (eh_R 2 0 0) eh_eV 0 0 49 [some (.ref 124), none] [] (eh_FW s6) ((j5 s6).bind some)) ?_ (fun j5 Hj5 => ?_)
  · intro s6
    refine es_blk (pc' := 51) (L' := [some (.ref 124), none]) (st' := [.ref 124, .ref 124]) [(.aload_n 0, 0), (.aload_n 0, 0)] (by decide +kernel) rfl rfl ?_
    refine ef_getI (k := 124) (j := 6) rfl eL_7_94 (by decide) (by decide +kernel) ?_
    refine ef_J (X := fun j7 => ∀ (a8 : Nat), eh_okX a8 = true → eh_Sim g eM_7_look (eh_R 2 0 0) eh_eV 0 0 74 [some (.ref 124), none] [.ref a8, .ref 124] (eh_FW s6) ((j7 a8).bind some)) ?_ (fun j7 Hj7 => ?_)
    · intro a8 h9
      refine ef_putQ (j := 7) (q := a8) (by decide) eL_7_57 rfl rfl (eh_Xsh h9) (by decide +kernel) ?_
      refine ef_V (fun _ => [some (.ref 124), none]) (fun _ => []) (fun s10 => eh_FW s10) (fun s10 => ?_)
      refine es_blk (pc' := 79) (L' := [some (.ref 124), none]) (st' := [.ref 124, .ref 124]) [(.aload_n 0, 0), (.aload_n 0, 0)] (by decide +kernel) rfl rfl ?_
      refine ef_getI (k := 124) (j := 6) rfl eL_7_94 (by decide) (by decide +kernel) ?_
      refine ef_J (X := fun j11 => ∀ (a12 : Int32), eh_Sim g eM_7_look (eh_R 2 0 0) eh_eV 0 0 102 [some (.ref 124), none] [.int a12, .ref 124] (eh_FW s10) ((j11 a12).bind some)) ?_ (fun j11 Hj11 => ?_)
      · intro a12
        refine ef_putI (k := 124) (j := 8) rfl eL_7_122 rfl rfl (by decide +kernel) ?_
        refine ef_V (fun _ => [some (.ref 124), none]) (fun _ => []) (fun s13 => eh_FW s13) (fun s13 => ?_)
        refine es_blk (pc' := 107) (L' := [some (.ref 124), none]) (st' := [.ref 124, .ref 124]) [(.aload_n 0, 0), (.aload_n 0, 0)] (by decide +kernel) rfl rfl ?_
        refine ef_getI (k := 124) (j := 8) rfl eL_7_122 (by decide) (by decide +kernel) ?_
        refine es_blk (pc' := 112) (L' := [some (.ref 124), none]) (st' := [.int ((s13.1 124 8) + 4), .ref 124]) [(.iconst 4, 4), (.iadd, 0)] (by decide +kernel) rfl rfl ?_
        refine ef_putI (k := 124) (j := 9) rfl eL_7_106 rfl rfl (by decide +kernel) ?_
        refine ef_V (fun _ => [some (.ref 124), none]) (fun _ => []) (fun s14 => eh_FW s14) (fun s14 => ?_)
        refine es_blk (pc' := 117) (L' := [some (.ref 124), none]) (st' := [.int (-1), .ref 124]) [(.aload_n 0, 0), (.iconst (-1), (-1))] (by decide +kernel) rfl rfl ?_
        refine ef_putI (k := 124) (j := 10) rfl eL_7_85 rfl rfl (by decide +kernel) ?_
        refine ef_V (fun _ => [some (.ref 124), none]) (fun _ => []) (fun s15 => eh_FW s15) (fun s15 => ?_)
        refine es_blk (pc' := 122) (L' := [some (.ref 124), none]) (st' := [.int 0, .ref 124]) [(.aload_n 0, 0), (.iconst 0, 0)] (by decide +kernel) rfl rfl ?_
        refine ef_putI (k := 124) (j := 11) rfl eL_7_123 rfl rfl (by decide +kernel) ?_
        refine ef_V (fun _ => [some (.ref 124), none]) (fun _ => []) (fun s16 => eh_FW s16) (fun s16 => ?_)
        refine es_blk (pc' := 127) (L' := [some (.ref 124), none]) (st' := [.int 0, .ref 124]) [(.aload_n 0, 0), (.iconst 0, 0)] (by decide +kernel) rfl rfl ?_
        refine ef_putZc (k := 124) (j := 12) rfl eL_7_91 rfl rfl (by decide) (by decide +kernel) ?_
        refine ef_V (fun _ => [some (.ref 124), none]) (fun _ => []) (fun s17 => eh_FW s17) (fun s17 => ?_)
        exact es_ret rfl rfl rfl ⟨by decide +kernel, rfl⟩ (Nat.le_refl _) (Nat.le_refl _)
      refine es_eq (tgt := 95) (off := (13)) (by decide +kernel) (by decide) (fun h18 => ?_) (fun h18 => ?_)
      · refine es_blk (pc' := 96) (L' := [some (.ref 124), none]) (st' := [.ref 124, .ref 124]) [(.aload_n 0, 0)] (by decide +kernel) rfl rfl ?_
        refine ef_getQ (j := 4) (ok := eh_okH) (by decide) eL_7_39 rfl (fun q h => eh_sh_NU (eh_H0sh h)) (by decide +kernel) (fun h19 => ?_)
        refine ef_getI (k := (s10.2.2 4)) (j := 2) (eh_H0sh h19) eL_7_109 (by decide) (by decide +kernel) ?_
        exact Hj11 _
      refine es_blk (pc' := 86) (L' := [some (.ref 124), none]) (st' := [.ref 124, .ref 124]) [(.aload_n 0, 0)] (by decide +kernel) rfl rfl ?_
      refine ef_getQ (j := 5) (ok := eh_okF) (by decide) eL_7_47 rfl (fun q h => eh_sh_NU (eh_F0sh h)) (by decide +kernel) (fun h20 => ?_)
      refine ef_getI (k := (s10.2.2 5)) (j := 2) (eh_F0sh h20) eL_7_114 (by decide) (by decide +kernel) ?_
      refine es_goto (tgt := 102) (off := (10)) (by decide +kernel) (by decide) ?_
      exact Hj11 _
    refine es_eq (tgt := 67) (off := (13)) (by decide +kernel) (by decide) (fun h21 => ?_) (fun h21 => ?_)
    · refine es_blk (pc' := 68) (L' := [some (.ref 124), none]) (st' := [.ref 124, .ref 124]) [(.aload_n 0, 0)] (by decide +kernel) rfl rfl ?_
      refine ef_getQ (j := 4) (ok := eh_okH) (by decide) eL_7_39 rfl (fun q h => eh_sh_NU (eh_H0sh h)) (by decide +kernel) (fun h22 => ?_)
      refine ef_getP (k := (s6.2.2 4)) (j := 1) (q := ((s6.2.2 4) + 1)) (eh_H0sh h22) eL_7_51 rfl (eh_Hx h22 _) (eh_H1sh h22) (by decide +kernel) ?_
      exact Hj7 _ (eh_HX h22)
    refine es_blk (pc' := 58) (L' := [some (.ref 124), none]) (st' := [.ref 124, .ref 124]) [(.aload_n 0, 0)] (by decide +kernel) rfl rfl ?_
    refine ef_getQ (j := 5) (ok := eh_okF) (by decide) eL_7_47 rfl (fun q h => eh_sh_NU (eh_F0sh h)) (by decide +kernel) (fun h23 => ?_)
    refine ef_getP (k := (s6.2.2 5)) (j := 1) (q := ((s6.2.2 5) + 1)) (eh_F0sh h23) eL_7_121 rfl (eh_Fx h23 _) (eh_F1sh h23) (by decide +kernel) ?_
    refine es_goto (tgt := 74) (off := (10)) (by decide +kernel) (by decide) ?_
    exact Hj7 _ (eh_FX h23)
  refine es_eq (tgt := 49) (off := (22)) (by decide +kernel) (by decide) (fun h24 => ?_) (fun h24 => ?_)
  · refine ef_drop (L2 := [some (.ref 124), none]) [true, false] rfl rfl ?_
    exact Hj5 _
  refine es_blk (pc' := 32) (L' := [some (.ref 124), some (.ref p0)]) (st' := [.ref 124, .ref 124]) [(.aload_n 0, 0), (.aload_n 0, 0)] (by decide +kernel) rfl rfl ?_
  refine ef_getP (k := 124) (j := 0) (q := 1) rfl eL_7_9 rfl rfl rfl (by decide +kernel) ?_
  refine ef_getP (k := 1) (j := 3) (q := 27) rfl eL_7_43 rfl rfl rfl (by decide +kernel) ?_
  refine es_blk (pc' := 39) (L' := [some (.ref 124), some (.ref p0)]) (st' := [.ref 124, .ref 27, .ref 124]) [(.aload_n 0, 0)] (by decide +kernel) rfl rfl ?_
  refine ef_getQ (j := 4) (ok := eh_okH) (by decide) eL_7_39 rfl (fun q h => eh_sh_NU (eh_H0sh h)) (by decide +kernel) (fun h25 => ?_)
  refine ef_getI (k := (s4.2.2 4)) (j := 5) (eh_H0sh h25) eL_7_112 (by decide) (by decide +kernel) ?_
  refine ef_fibres (by decide +kernel) (fun h26 => ?_)
  refine ef_putQ (j := 5) (q := (eh_fp (s4.1 (s4.2.2 4) 5))) (by decide) eL_7_47 rfl rfl (eh_F0sh h26) (by decide +kernel) ?_
  refine ef_V (fun _ => [some (.ref 124), some (.ref p0)]) (fun _ => []) (fun s27 => eh_FW s27) (fun s27 => ?_)
  refine ef_drop (L2 := [some (.ref 124), none]) [true, false] rfl rfl ?_
  exact Hj5 _
def eF_7_goTo (s : eh_F) (p0 : Int32) : Option (Int32 × eh_F) := if (p0 &&& 3) = 0 then (eh_V (eh_tI s 124 9 p0) (fun s2 => some (1, s2))) else (Option.bind (eF_7_fail s 0 p0) (fun q3 => some (0, q3)))
set_option maxHeartbeats 4000000 in
set_option maxRecDepth 100000 in
theorem eS_7_goTo (g : eh_P) (s : eh_F) (p0 : Int32) : eh_Sim g eM_7_goTo (eh_R 2 0 0) eh_eI 0 0 0 (eh_en 2 [.ref 124, .int p0]) [] (eh_FW s) (eF_7_goTo s p0) := by
  unfold eF_7_goTo
  refine ef_top (L := [some (.ref 124), some (.int p0)]) rfl ?_
  refine es_blk (pc' := 3) (L' := [some (.ref 124), some (.int p0)]) (st' := [.int (p0 &&& 3)]) [(.iload_n 1, 0), (.iconst 3, 3), (.iand, 0)] (by decide +kernel) rfl rfl ?_
  refine es_eq (tgt := 14) (off := (11)) (by decide +kernel) (by decide) (fun h1 => ?_) (fun h1 => ?_)
  · refine es_blk (pc' := 16) (L' := [some (.ref 124), some (.int p0)]) (st' := [.int p0, .ref 124]) [(.aload_n 0, 0), (.iload_n 1, 0)] (by decide +kernel) rfl rfl ?_
    refine ef_putI (k := 124) (j := 9) rfl eL_7_106 rfl rfl (by decide +kernel) ?_
    refine ef_V (fun _ => [some (.ref 124), some (.int p0)]) (fun _ => []) (fun s2 => eh_FW s2) (fun s2 => ?_)
    refine es_blk (pc' := 20) (L' := [some (.ref 124), some (.int p0)]) (st' := [.int 1]) [(.iconst 1, 1)] (by decide +kernel) rfl rfl ?_
    exact es_ret rfl rfl rfl ⟨by decide +kernel, _, rfl, eh_narZ (Or.inr rfl)⟩ (Nat.le_refl _) (Nat.le_refl _)
  refine es_blk (pc' := 9) (L' := [some (.ref 124), some (.int p0)]) (st' := [.int p0, .int 0, .ref 124]) [(.aload_n 0, 0), (.iconst 0, 0), (.iload_n 1, 0)] (by decide +kernel) rfl rfl ?_
  refine ef_veV (d := 1) (k := 124) (As := [.int 0, .int p0]) (st := []) eV_7_fail eK_7_201 (eS_7_fail g s 0 p0) rfl rfl (Nat.le_of_ble_eq_true rfl) rfl (Nat.le_of_ble_eq_true rfl) ⟨Nat.le_of_ble_eq_true rfl, Nat.le_of_ble_eq_true rfl⟩ ⟨Nat.le_refl _, Nat.le_refl _⟩ (by decide +kernel) (fun q3 _ => ?_)
  refine es_blk (pc' := 13) (L' := [some (.ref 124), some (.int p0)]) (st' := [.int 0]) [(.iconst 0, 0)] (by decide +kernel) rfl rfl ?_
  exact es_ret rfl rfl rfl ⟨by decide +kernel, _, rfl, eh_narZ (Or.inl rfl)⟩ (Nat.le_refl _) (Nat.le_refl _)
def eF_7_fence (s : eh_F) (p0 : Int32) : Option (eh_F) := eh_J (fun (s2 : eh_F) => some s2) (fun j1 => if 1 < ((eh_ushr p0 12) &&& 7) then (Option.bind (eF_7_fail s 2 p0) (fun q4 => j1 q4)) else (j1 s))
set_option maxHeartbeats 4000000 in
set_option maxRecDepth 100000 in
theorem eS_7_fence (g : eh_P) (s : eh_F) (p0 : Int32) : eh_Sim g eM_7_fence (eh_R 2 0 0) eh_eV 0 0 0 (eh_en 2 [.ref 124, .int p0]) [] (eh_FW s) (eF_7_fence s p0) := by
  unfold eF_7_fence
  refine ef_top (L := [some (.ref 124), some (.int p0)]) rfl ?_
  refine es_blk (pc' := 8) (L' := [some (.ref 124), some (.int p0)]) (st' := [.int 1, .int ((eh_ushr p0 12) &&& 7)]) [(.iload_n 1, 0), (.bipush 12, 12), (.iushr, 0), (.bipush 7, 7), (.iand, 0), (.iconst 1, 1)] (by decide +kernel) rfl rfl ?_
  refine ef_J (X := fun j1 => ∀ (s2 : eh_F), eh_Sim g eM_7_fence (eh_R 2 0 0) eh_eV 0 0 17 [none, none] [] (eh_FW s2) ((j1 s2).bind some)) ?_ (fun j1 Hj1 => ?_)
  · intro s2
    exact es_ret rfl rfl rfl ⟨by decide +kernel, rfl⟩ (Nat.le_refl _) (Nat.le_refl _)
  refine es_ile (tgt := 17) (off := (9)) (by decide +kernel) (by decide) (fun h3 => ?_) (fun h3 => ?_)
  · refine es_blk (pc' := 14) (L' := [some (.ref 124), some (.int p0)]) (st' := [.int p0, .int 2, .ref 124]) [(.aload_n 0, 0), (.iconst 2, 2), (.iload_n 1, 0)] (by decide +kernel) rfl rfl ?_
    refine ef_veV (d := 1) (k := 124) (As := [.int 2, .int p0]) (st := []) eV_7_fail eK_7_201 (eS_7_fail g s 2 p0) rfl rfl (Nat.le_of_ble_eq_true rfl) rfl (Nat.le_of_ble_eq_true rfl) ⟨Nat.le_of_ble_eq_true rfl, Nat.le_of_ble_eq_true rfl⟩ ⟨Nat.le_refl _, Nat.le_refl _⟩ (by decide +kernel) (fun q4 _ => ?_)
    refine ef_drop (L2 := [none, none]) [false, false] rfl rfl ?_
    exact Hj1 _
  refine ef_drop (L2 := [none, none]) [false, false] rfl rfl ?_
  exact Hj1 _
def eF_7_reckoned (s : eh_F) (p0 : Int32) (p1 : Int32) (p2 : Int32) (p3 : Int32) : Option (Int32) := if p0 = 0 then (some (p2 + p3)) else if p0 = 1 then (some (eh_shl p2 (p3 &&& 31))) else if p0 = 2 then (eh_J (fun (a6 : Int32) => some a6) (fun j5 => if p2 < p3 then (j5 1) else (j5 0))) else if p0 = 3 then (Option.bind (eF_11_isBelow s p2 p3) (fun q9 => eh_J (fun (a11 : Int32) => some a11) (fun j10 => if q9 = 0 then (j10 0) else (j10 1)))) else if p0 = 4 then (some (p2 ^^^ p3)) else if p0 = 5 then (eh_J (fun (a16 : Int32) => some a16) (fun j15 => if p1 = 0 then (j15 (eh_ushr p2 (p3 &&& 31))) else (j15 (eh_shr p2 (p3 &&& 31))))) else if p0 = 6 then (some (p2 ||| p3)) else (some (p2 &&& p3))
set_option maxHeartbeats 4000000 in
set_option maxRecDepth 100000 in
theorem eS_7_reckoned (g : eh_P) (s : eh_F) (p0 : Int32) (p1 : Int32) (p2 : Int32) (p3 : Int32) : eh_Sim g eM_7_reckoned (eh_R 2 0 0) (eh_pI s) 0 0 0 (eh_en 4 [.int p0, .int p1, .int p2, .int p3]) [] (eh_FW s) (eF_7_reckoned s p0 p1 p2 p3) := by
  unfold eF_7_reckoned
  refine ef_top (L := [some (.int p0), some (.int p1), some (.int p2), some (.int p3)]) rfl ?_
  refine es_blk (pc' := 1) (L' := [some (.int p0), some (.int p1), some (.int p2), some (.int p3)]) (st' := [.int p0]) [(.iload_n 0, 0)] (by decide +kernel) rfl rfl ?_
  have hs1 : decode eM_7_reckoned.2.1 1 = .ok (.tableswitch (107) (0) (6) #[(43), (47), (54), (65), (79), (83), (103)], 43) := by decide +kernel
  refine es_ifc (fun h2 => ?_) (fun h2 => ?_)
  · refine es_tsw (off := (43)) (tgt := 44) hs1 0 h2 (by decide) ?_
    refine es_blk (pc' := 47) (L' := [some (.int p0), some (.int p1), some (.int p2), some (.int p3)]) (st' := [.int (p2 + p3)]) [(.iload_n 2, 0), (.iload_n 3, 0), (.iadd, 0)] (by decide +kernel) rfl rfl ?_
    exact es_ret rfl rfl rfl ⟨by decide +kernel, _, rfl, rfl⟩ (Nat.le_refl _) (Nat.le_refl _)
  refine es_ifc (fun h3 => ?_) (fun h3 => ?_)
  · refine es_tsw (off := (47)) (tgt := 48) hs1 1 h3 (by decide) ?_
    refine es_blk (pc' := 54) (L' := [some (.int p0), some (.int p1), some (.int p2), some (.int p3)]) (st' := [.int (eh_shl p2 (p3 &&& 31))]) [(.iload_n 2, 0), (.iload_n 3, 0), (.bipush 31, 31), (.iand, 0), (.ishl, 0)] (by decide +kernel) rfl rfl ?_
    exact es_ret rfl rfl rfl ⟨by decide +kernel, _, rfl, rfl⟩ (Nat.le_refl _) (Nat.le_refl _)
  refine es_ifc (fun h4 => ?_) (fun h4 => ?_)
  · refine es_tsw (off := (54)) (tgt := 55) hs1 2 h4 (by decide) ?_
    refine es_blk (pc' := 57) (L' := [some (.int p0), some (.int p1), some (.int p2), some (.int p3)]) (st' := [.int p3, .int p2]) [(.iload_n 2, 0), (.iload_n 3, 0)] (by decide +kernel) rfl rfl ?_
    refine ef_J (X := fun j5 => ∀ (a6 : Int32), eh_Sim g eM_7_reckoned (eh_R 2 0 0) (eh_pI s) 0 0 65 [none, none, none, none] [.int a6] (eh_FW s) ((j5 a6).bind some)) ?_ (fun j5 Hj5 => ?_)
    · intro a6
      exact es_ret rfl rfl rfl ⟨by decide +kernel, _, rfl, rfl⟩ (Nat.le_refl _) (Nat.le_refl _)
    refine es_ige (tgt := 64) (off := (7)) (by decide +kernel) (by decide) (fun h7 => ?_) (fun h7 => ?_)
    · refine es_blk (pc' := 61) (L' := [some (.int p0), some (.int p1), some (.int p2), some (.int p3)]) (st' := [.int 1]) [(.iconst 1, 1)] (by decide +kernel) rfl rfl ?_
      refine es_goto (tgt := 65) (off := (4)) (by decide +kernel) (by decide) ?_
      refine ef_drop (L2 := [none, none, none, none]) [false, false, false, false] rfl rfl ?_
      exact Hj5 _
    refine es_blk (pc' := 65) (L' := [some (.int p0), some (.int p1), some (.int p2), some (.int p3)]) (st' := [.int 0]) [(.iconst 0, 0)] (by decide +kernel) rfl rfl ?_
    refine ef_drop (L2 := [none, none, none, none]) [false, false, false, false] rfl rfl ?_
    exact Hj5 _
  refine es_ifc (fun h8 => ?_) (fun h8 => ?_)
  · refine es_tsw (off := (65)) (tgt := 66) hs1 3 h8 (by decide) ?_
    refine es_blk (pc' := 68) (L' := [some (.int p0), some (.int p1), some (.int p2), some (.int p3)]) (st' := [.int p3, .int p2]) [(.iload_n 2, 0), (.iload_n 3, 0)] (by decide +kernel) rfl rfl ?_
    refine ef_snI (d := 1) (As := [.int p2, .int p3]) (st := []) eV_11_isBelow eN_7_214 (eS_11_isBelow g s p2 p3) rfl (Nat.le_of_ble_eq_true rfl) rfl (Nat.le_of_ble_eq_true rfl) ⟨Nat.le_of_ble_eq_true rfl, Nat.le_of_ble_eq_true rfl⟩ ⟨Nat.le_refl _, Nat.le_refl _⟩ (by decide +kernel) (fun q9 _ => ?_)
    refine ef_J (X := fun j10 => ∀ (a11 : Int32), eh_Sim g eM_7_reckoned (eh_R 2 0 0) (eh_pI s) 0 0 79 [none, none, none, none] [.int a11] (eh_FW s) ((j10 a11).bind some)) ?_ (fun j10 Hj10 => ?_)
    · intro a11
      exact es_ret rfl rfl rfl ⟨by decide +kernel, _, rfl, rfl⟩ (Nat.le_refl _) (Nat.le_refl _)
    refine es_eq (tgt := 78) (off := (7)) (by decide +kernel) (by decide) (fun h12 => ?_) (fun h12 => ?_)
    · refine es_blk (pc' := 79) (L' := [some (.int p0), some (.int p1), some (.int p2), some (.int p3)]) (st' := [.int 0]) [(.iconst 0, 0)] (by decide +kernel) rfl rfl ?_
      refine ef_drop (L2 := [none, none, none, none]) [false, false, false, false] rfl rfl ?_
      exact Hj10 _
    refine es_blk (pc' := 75) (L' := [some (.int p0), some (.int p1), some (.int p2), some (.int p3)]) (st' := [.int 1]) [(.iconst 1, 1)] (by decide +kernel) rfl rfl ?_
    refine es_goto (tgt := 79) (off := (4)) (by decide +kernel) (by decide) ?_
    refine ef_drop (L2 := [none, none, none, none]) [false, false, false, false] rfl rfl ?_
    exact Hj10 _
  refine es_ifc (fun h13 => ?_) (fun h13 => ?_)
  · refine es_tsw (off := (79)) (tgt := 80) hs1 4 h13 (by decide) ?_
    refine es_blk (pc' := 83) (L' := [some (.int p0), some (.int p1), some (.int p2), some (.int p3)]) (st' := [.int (p2 ^^^ p3)]) [(.iload_n 2, 0), (.iload_n 3, 0), (.ixor, 0)] (by decide +kernel) rfl rfl ?_
    exact es_ret rfl rfl rfl ⟨by decide +kernel, _, rfl, rfl⟩ (Nat.le_refl _) (Nat.le_refl _)
  refine es_ifc (fun h14 => ?_) (fun h14 => ?_)
  · refine es_tsw (off := (83)) (tgt := 84) hs1 5 h14 (by decide) ?_
    refine es_blk (pc' := 85) (L' := [some (.int p0), some (.int p1), some (.int p2), some (.int p3)]) (st' := [.int p1]) [(.iload_n 1, 0)] (by decide +kernel) rfl rfl ?_
    refine ef_J (X := fun j15 => ∀ (a16 : Int32), eh_Sim g eM_7_reckoned (eh_R 2 0 0) (eh_pI s) 0 0 103 [none, none, none, none] [.int a16] (eh_FW s) ((j15 a16).bind some)) ?_ (fun j15 Hj15 => ?_)
    · intro a16
      exact es_ret rfl rfl rfl ⟨by decide +kernel, _, rfl, rfl⟩ (Nat.le_refl _) (Nat.le_refl _)
    refine es_eq (tgt := 97) (off := (12)) (by decide +kernel) (by decide) (fun h17 => ?_) (fun h17 => ?_)
    · refine es_blk (pc' := 103) (L' := [some (.int p0), some (.int p1), some (.int p2), some (.int p3)]) (st' := [.int (eh_ushr p2 (p3 &&& 31))]) [(.iload_n 2, 0), (.iload_n 3, 0), (.bipush 31, 31), (.iand, 0), (.iushr, 0)] (by decide +kernel) rfl rfl ?_
      refine ef_drop (L2 := [none, none, none, none]) [false, false, false, false] rfl rfl ?_
      exact Hj15 _
    refine es_blk (pc' := 94) (L' := [some (.int p0), some (.int p1), some (.int p2), some (.int p3)]) (st' := [.int (eh_shr p2 (p3 &&& 31))]) [(.iload_n 2, 0), (.iload_n 3, 0), (.bipush 31, 31), (.iand, 0), (.ishr, 0)] (by decide +kernel) rfl rfl ?_
    refine es_goto (tgt := 103) (off := (9)) (by decide +kernel) (by decide) ?_
    refine ef_drop (L2 := [none, none, none, none]) [false, false, false, false] rfl rfl ?_
    exact Hj15 _
  refine es_ifc (fun h18 => ?_) (fun h18 => ?_)
  · refine es_tsw (off := (103)) (tgt := 104) hs1 6 h18 (by decide) ?_
    refine es_blk (pc' := 107) (L' := [some (.int p0), some (.int p1), some (.int p2), some (.int p3)]) (st' := [.int (p2 ||| p3)]) [(.iload_n 2, 0), (.iload_n 3, 0), (.ior, 0)] (by decide +kernel) rfl rfl ?_
    exact es_ret rfl rfl rfl ⟨by decide +kernel, _, rfl, rfl⟩ (Nat.le_refl _) (Nat.le_refl _)
  refine es_tswD (tgt := 108) hs1 [0, 1, 2, 3, 4, 5, 6] (List.forall_mem_cons.mpr ⟨eh_nei 0 0 (by decide) h2, (List.forall_mem_cons.mpr ⟨eh_nei 1 1 (by decide) h3, (List.forall_mem_cons.mpr ⟨eh_nei 2 2 (by decide) h4, (List.forall_mem_cons.mpr ⟨eh_nei 3 3 (by decide) h8, (List.forall_mem_cons.mpr ⟨eh_nei 4 4 (by decide) h13, (List.forall_mem_cons.mpr ⟨eh_nei 5 5 (by decide) h14, (List.forall_mem_cons.mpr ⟨eh_nei 6 6 (by decide) h18, (List.forall_mem_nil _)⟩)⟩)⟩)⟩)⟩)⟩)⟩) (by decide) (by decide) (by decide) ?_
  refine es_blk (pc' := 111) (L' := [some (.int p0), some (.int p1), some (.int p2), some (.int p3)]) (st' := [.int (p2 &&& p3)]) [(.iload_n 2, 0), (.iload_n 3, 0), (.iand, 0)] (by decide +kernel) rfl rfl ?_
  exact es_ret rfl rfl rfl ⟨by decide +kernel, _, rfl, rfl⟩ (Nat.le_refl _) (Nat.le_refl _)
def eF_7_combined (s : eh_F) (p0 : Int32) (p1 : Int32) (p2 : Int32) : Option (Int32) := Option.bind (eF_11_isBelow s p1 p2) (fun q1 => eh_J (fun (u3 : Unit) => some p2) (fun j2 => if p0 = 0 then (some (p1 + p2)) else if p0 = 4 then (some (p1 ^^^ p2)) else if p0 = 8 then (some (p1 ||| p2)) else if p0 = 12 then (some (p1 &&& p2)) else if p0 = 16 then (eh_J (fun (a11 : Int32) => some a11) (fun j10 => if p1 < p2 then (j10 p1) else (j10 p2))) else if p0 = 20 then (eh_J (fun (a15 : Int32) => some a15) (fun j14 => if p1 < p2 then (j14 p2) else (j14 p1))) else if p0 = 24 then (eh_J (fun (a19 : Int32) => some a19) (fun j18 => if q1 = 0 then (j18 p2) else (j18 p1))) else if p0 = 28 then (eh_J (fun (a23 : Int32) => some a23) (fun j22 => if q1 = 0 then (j22 p1) else (j22 p2))) else (j2 ())))
set_option maxHeartbeats 4000000 in
set_option maxRecDepth 100000 in
theorem eS_7_combined (g : eh_P) (s : eh_F) (p0 : Int32) (p1 : Int32) (p2 : Int32) : eh_Sim g eM_7_combined (eh_R 2 0 0) (eh_pI s) 0 0 0 (eh_en 4 [.int p0, .int p1, .int p2]) [] (eh_FW s) (eF_7_combined s p0 p1 p2) := by
  unfold eF_7_combined
  refine ef_top (L := [some (.int p0), some (.int p1), some (.int p2), none]) rfl ?_
  refine es_blk (pc' := 2) (L' := [some (.int p0), some (.int p1), some (.int p2), none]) (st' := [.int p2, .int p1]) [(.iload_n 1, 0), (.iload_n 2, 0)] (by decide +kernel) rfl rfl ?_
  refine ef_snI (d := 1) (As := [.int p1, .int p2]) (st := []) eV_11_isBelow eN_7_214 (eS_11_isBelow g s p1 p2) rfl (Nat.le_of_ble_eq_true rfl) rfl (Nat.le_of_ble_eq_true rfl) ⟨Nat.le_of_ble_eq_true rfl, Nat.le_of_ble_eq_true rfl⟩ ⟨Nat.le_refl _, Nat.le_refl _⟩ (by decide +kernel) (fun q1 _ => ?_)
  refine es_blk (pc' := 7) (L' := [some (.int p0), some (.int p1), some (.int p2), some (.int q1)]) (st' := [.int p0]) [(.istore_n 3, 0), (.iload_n 0, 0)] (by decide +kernel) rfl rfl ?_
  refine ef_J (X := fun j2 => ∀ (u3 : Unit), eh_Sim g eM_7_combined (eh_R 2 0 0) (eh_pI s) 0 0 194 [none, none, some (.int p2), none] [] (eh_FW s) ((j2 u3).bind some)) ?_ (fun j2 Hj2 => ?_)
  · intro u3
    refine es_blk (pc' := 195) (L' := [none, none, some (.int p2), none]) (st' := [.int p2]) [(.iload_n 2, 0)] (by decide +kernel) rfl rfl ?_
    exact es_ret rfl rfl rfl ⟨by decide +kernel, _, rfl, rfl⟩ (Nat.le_refl _) (Nat.le_refl _)
  have hs4 : decode eM_7_combined.2.1 7 = .ok (.tableswitch (187) (0) (28) #[(129), (187), (187), (187), (133), (187), (187), (187), (137), (187), (187), (187), (141), (187), (187), (187), (145), (187), (187), (187), (156), (187), (187), (187), (167), (187), (187), (187), (177)], 129) := by decide +kernel
  refine es_ifc (fun h5 => ?_) (fun h5 => ?_)
  · refine es_tsw (off := (129)) (tgt := 136) hs4 0 h5 (by decide) ?_
    refine es_blk (pc' := 139) (L' := [some (.int p0), some (.int p1), some (.int p2), some (.int q1)]) (st' := [.int (p1 + p2)]) [(.iload_n 1, 0), (.iload_n 2, 0), (.iadd, 0)] (by decide +kernel) rfl rfl ?_
    exact es_ret rfl rfl rfl ⟨by decide +kernel, _, rfl, rfl⟩ (Nat.le_refl _) (Nat.le_refl _)
  refine es_ifc (fun h6 => ?_) (fun h6 => ?_)
  · refine es_tsw (off := (133)) (tgt := 140) hs4 4 h6 (by decide) ?_
    refine es_blk (pc' := 143) (L' := [some (.int p0), some (.int p1), some (.int p2), some (.int q1)]) (st' := [.int (p1 ^^^ p2)]) [(.iload_n 1, 0), (.iload_n 2, 0), (.ixor, 0)] (by decide +kernel) rfl rfl ?_
    exact es_ret rfl rfl rfl ⟨by decide +kernel, _, rfl, rfl⟩ (Nat.le_refl _) (Nat.le_refl _)
  refine es_ifc (fun h7 => ?_) (fun h7 => ?_)
  · refine es_tsw (off := (137)) (tgt := 144) hs4 8 h7 (by decide) ?_
    refine es_blk (pc' := 147) (L' := [some (.int p0), some (.int p1), some (.int p2), some (.int q1)]) (st' := [.int (p1 ||| p2)]) [(.iload_n 1, 0), (.iload_n 2, 0), (.ior, 0)] (by decide +kernel) rfl rfl ?_
    exact es_ret rfl rfl rfl ⟨by decide +kernel, _, rfl, rfl⟩ (Nat.le_refl _) (Nat.le_refl _)
  refine es_ifc (fun h8 => ?_) (fun h8 => ?_)
  · refine es_tsw (off := (141)) (tgt := 148) hs4 12 h8 (by decide) ?_
    refine es_blk (pc' := 151) (L' := [some (.int p0), some (.int p1), some (.int p2), some (.int q1)]) (st' := [.int (p1 &&& p2)]) [(.iload_n 1, 0), (.iload_n 2, 0), (.iand, 0)] (by decide +kernel) rfl rfl ?_
    exact es_ret rfl rfl rfl ⟨by decide +kernel, _, rfl, rfl⟩ (Nat.le_refl _) (Nat.le_refl _)
  refine es_ifc (fun h9 => ?_) (fun h9 => ?_)
  · refine es_tsw (off := (145)) (tgt := 152) hs4 16 h9 (by decide) ?_
    refine es_blk (pc' := 154) (L' := [some (.int p0), some (.int p1), some (.int p2), some (.int q1)]) (st' := [.int p2, .int p1]) [(.iload_n 1, 0), (.iload_n 2, 0)] (by decide +kernel) rfl rfl ?_
    refine ef_J (X := fun j10 => ∀ (a11 : Int32), eh_Sim g eM_7_combined (eh_R 2 0 0) (eh_pI s) 0 0 162 [none, none, none, none] [.int a11] (eh_FW s) ((j10 a11).bind some)) ?_ (fun j10 Hj10 => ?_)
    · intro a11
      exact es_ret rfl rfl rfl ⟨by decide +kernel, _, rfl, rfl⟩ (Nat.le_refl _) (Nat.le_refl _)
    refine es_ige (tgt := 161) (off := (7)) (by decide +kernel) (by decide) (fun h12 => ?_) (fun h12 => ?_)
    · refine es_blk (pc' := 158) (L' := [some (.int p0), some (.int p1), some (.int p2), some (.int q1)]) (st' := [.int p1]) [(.iload_n 1, 0)] (by decide +kernel) rfl rfl ?_
      refine es_goto (tgt := 162) (off := (4)) (by decide +kernel) (by decide) ?_
      refine ef_drop (L2 := [none, none, none, none]) [false, false, false, false] rfl rfl ?_
      exact Hj10 _
    refine es_blk (pc' := 162) (L' := [some (.int p0), some (.int p1), some (.int p2), some (.int q1)]) (st' := [.int p2]) [(.iload_n 2, 0)] (by decide +kernel) rfl rfl ?_
    refine ef_drop (L2 := [none, none, none, none]) [false, false, false, false] rfl rfl ?_
    exact Hj10 _
  refine es_ifc (fun h13 => ?_) (fun h13 => ?_)
  · refine es_tsw (off := (156)) (tgt := 163) hs4 20 h13 (by decide) ?_
    refine es_blk (pc' := 165) (L' := [some (.int p0), some (.int p1), some (.int p2), some (.int q1)]) (st' := [.int p2, .int p1]) [(.iload_n 1, 0), (.iload_n 2, 0)] (by decide +kernel) rfl rfl ?_
    refine ef_J (X := fun j14 => ∀ (a15 : Int32), eh_Sim g eM_7_combined (eh_R 2 0 0) (eh_pI s) 0 0 173 [none, none, none, none] [.int a15] (eh_FW s) ((j14 a15).bind some)) ?_ (fun j14 Hj14 => ?_)
    · intro a15
      exact es_ret rfl rfl rfl ⟨by decide +kernel, _, rfl, rfl⟩ (Nat.le_refl _) (Nat.le_refl _)
    refine es_ige (tgt := 172) (off := (7)) (by decide +kernel) (by decide) (fun h16 => ?_) (fun h16 => ?_)
    · refine es_blk (pc' := 169) (L' := [some (.int p0), some (.int p1), some (.int p2), some (.int q1)]) (st' := [.int p2]) [(.iload_n 2, 0)] (by decide +kernel) rfl rfl ?_
      refine es_goto (tgt := 173) (off := (4)) (by decide +kernel) (by decide) ?_
      refine ef_drop (L2 := [none, none, none, none]) [false, false, false, false] rfl rfl ?_
      exact Hj14 _
    refine es_blk (pc' := 173) (L' := [some (.int p0), some (.int p1), some (.int p2), some (.int q1)]) (st' := [.int p1]) [(.iload_n 1, 0)] (by decide +kernel) rfl rfl ?_
    refine ef_drop (L2 := [none, none, none, none]) [false, false, false, false] rfl rfl ?_
    exact Hj14 _
  refine es_ifc (fun h17 => ?_) (fun h17 => ?_)
  · refine es_tsw (off := (167)) (tgt := 174) hs4 24 h17 (by decide) ?_
    refine es_blk (pc' := 175) (L' := [some (.int p0), some (.int p1), some (.int p2), some (.int q1)]) (st' := [.int q1]) [(.iload_n 3, 0)] (by decide +kernel) rfl rfl ?_
    refine ef_J (X := fun j18 => ∀ (a19 : Int32), eh_Sim g eM_7_combined (eh_R 2 0 0) (eh_pI s) 0 0 183 [none, none, none, none] [.int a19] (eh_FW s) ((j18 a19).bind some)) ?_ (fun j18 Hj18 => ?_)
    · intro a19
      exact es_ret rfl rfl rfl ⟨by decide +kernel, _, rfl, rfl⟩ (Nat.le_refl _) (Nat.le_refl _)
    refine es_eq (tgt := 182) (off := (7)) (by decide +kernel) (by decide) (fun h20 => ?_) (fun h20 => ?_)
    · refine es_blk (pc' := 183) (L' := [some (.int p0), some (.int p1), some (.int p2), some (.int q1)]) (st' := [.int p2]) [(.iload_n 2, 0)] (by decide +kernel) rfl rfl ?_
      refine ef_drop (L2 := [none, none, none, none]) [false, false, false, false] rfl rfl ?_
      exact Hj18 _
    refine es_blk (pc' := 179) (L' := [some (.int p0), some (.int p1), some (.int p2), some (.int q1)]) (st' := [.int p1]) [(.iload_n 1, 0)] (by decide +kernel) rfl rfl ?_
    refine es_goto (tgt := 183) (off := (4)) (by decide +kernel) (by decide) ?_
    refine ef_drop (L2 := [none, none, none, none]) [false, false, false, false] rfl rfl ?_
    exact Hj18 _
  refine es_ifc (fun h21 => ?_) (fun h21 => ?_)
  · refine es_tsw (off := (177)) (tgt := 184) hs4 28 h21 (by decide) ?_
    refine es_blk (pc' := 185) (L' := [some (.int p0), some (.int p1), some (.int p2), some (.int q1)]) (st' := [.int q1]) [(.iload_n 3, 0)] (by decide +kernel) rfl rfl ?_
    refine ef_J (X := fun j22 => ∀ (a23 : Int32), eh_Sim g eM_7_combined (eh_R 2 0 0) (eh_pI s) 0 0 193 [none, none, none, none] [.int a23] (eh_FW s) ((j22 a23).bind some)) ?_ (fun j22 Hj22 => ?_)
    · intro a23
      exact es_ret rfl rfl rfl ⟨by decide +kernel, _, rfl, rfl⟩ (Nat.le_refl _) (Nat.le_refl _)
    refine es_eq (tgt := 192) (off := (7)) (by decide +kernel) (by decide) (fun h24 => ?_) (fun h24 => ?_)
    · refine es_blk (pc' := 193) (L' := [some (.int p0), some (.int p1), some (.int p2), some (.int q1)]) (st' := [.int p1]) [(.iload_n 1, 0)] (by decide +kernel) rfl rfl ?_
      refine ef_drop (L2 := [none, none, none, none]) [false, false, false, false] rfl rfl ?_
      exact Hj22 _
    refine es_blk (pc' := 189) (L' := [some (.int p0), some (.int p1), some (.int p2), some (.int q1)]) (st' := [.int p2]) [(.iload_n 2, 0)] (by decide +kernel) rfl rfl ?_
    refine es_goto (tgt := 193) (off := (4)) (by decide +kernel) (by decide) ?_
    refine ef_drop (L2 := [none, none, none, none]) [false, false, false, false] rfl rfl ?_
    exact Hj22 _
  refine es_tswD (tgt := 194) hs4 [0, 4, 8, 12, 16, 20, 24, 28] (List.forall_mem_cons.mpr ⟨eh_nei 0 0 (by decide) h5, (List.forall_mem_cons.mpr ⟨eh_nei 4 4 (by decide) h6, (List.forall_mem_cons.mpr ⟨eh_nei 8 8 (by decide) h7, (List.forall_mem_cons.mpr ⟨eh_nei 12 12 (by decide) h8, (List.forall_mem_cons.mpr ⟨eh_nei 16 16 (by decide) h9, (List.forall_mem_cons.mpr ⟨eh_nei 20 20 (by decide) h13, (List.forall_mem_cons.mpr ⟨eh_nei 24 24 (by decide) h17, (List.forall_mem_cons.mpr ⟨eh_nei 28 28 (by decide) h21, (List.forall_mem_nil _)⟩)⟩)⟩)⟩)⟩)⟩)⟩)⟩) (by decide) (by decide) (by decide) ?_
  refine ef_drop (L2 := [none, none, some (.int p2), none]) [false, false, true, false] rfl rfl ?_
  exact Hj2 ()
def eF_7_failUnless (s : eh_F) (p0 : Int32) (p1 : Int32) : Option (eh_F) := eh_J (fun (s2 : eh_F) => some s2) (fun j1 => if p0 = 0 then (Option.bind (eF_7_fail s 2 p1) (fun q4 => j1 q4)) else (j1 s))
set_option maxHeartbeats 4000000 in
set_option maxRecDepth 100000 in
theorem eS_7_failUnless (g : eh_P) (s : eh_F) (p0 : Int32) (p1 : Int32) : eh_Sim g eM_7_failUnless (eh_R 2 0 0) eh_eV 0 0 0 (eh_en 3 [.ref 124, .int p0, .int p1]) [] (eh_FW s) (eF_7_failUnless s p0 p1) := by
  unfold eF_7_failUnless
  refine ef_top (L := [some (.ref 124), some (.int p0), some (.int p1)]) rfl ?_
  refine es_blk (pc' := 1) (L' := [some (.ref 124), some (.int p0), some (.int p1)]) (st' := [.int p0]) [(.iload_n 1, 0)] (by decide +kernel) rfl rfl ?_
  refine ef_J (X := fun j1 => ∀ (s2 : eh_F), eh_Sim g eM_7_failUnless (eh_R 2 0 0) eh_eV 0 0 10 [none, none, none] [] (eh_FW s2) ((j1 s2).bind some)) ?_ (fun j1 Hj1 => ?_)
  · intro s2
    exact es_ret rfl rfl rfl ⟨by decide +kernel, rfl⟩ (Nat.le_refl _) (Nat.le_refl _)
  refine es_ne (tgt := 10) (off := (9)) (by decide +kernel) (by decide) (fun h3 => ?_) (fun h3 => ?_)
  · refine es_blk (pc' := 7) (L' := [some (.ref 124), some (.int p0), some (.int p1)]) (st' := [.int p1, .int 2, .ref 124]) [(.aload_n 0, 0), (.iconst 2, 2), (.iload_n 2, 0)] (by decide +kernel) rfl rfl ?_
    refine ef_veV (d := 1) (k := 124) (As := [.int 2, .int p1]) (st := []) eV_7_fail eK_7_201 (eS_7_fail g s 2 p1) rfl rfl (Nat.le_of_ble_eq_true rfl) rfl (Nat.le_of_ble_eq_true rfl) ⟨Nat.le_of_ble_eq_true rfl, Nat.le_of_ble_eq_true rfl⟩ ⟨Nat.le_refl _, Nat.le_refl _⟩ (by decide +kernel) (fun q4 _ => ?_)
    refine ef_drop (L2 := [none, none, none]) [false, false, false] rfl rfl ?_
    exact Hj1 _
  refine ef_drop (L2 := [none, none, none]) [false, false, false] rfl rfl ?_
  exact Hj1 _
def eF_7_specialByCode (s : eh_F) (p0 : Int32) (p1 : Int32) : Option (eh_F) := eh_V ((eh_ushr p0 15) : Int32) (fun x1 => eh_J (fun (s3 : eh_F) => some s3) (fun j2 => eh_J (fun (u5 : Unit) => if x1 = 0 then (Option.bind (eF_7_fail s 8 0) (fun q7 => j2 q7)) else (if x1 = 32 then (Option.bind (eF_7_fail s 3 (s.1 124 8)) (fun q9 => j2 q9)) else (eh_J (fun (u11 : Unit) => eh_J (fun (u13 : Unit) => Option.bind (eF_7_fail s 2 p0) (fun q14 => j2 q14)) (fun j12 => if x1 = 8352 then (if p1 = 0 then (j12 ()) else (if eh_okH (s.2.2 4) then eh_V (eh_tI s (s.2.2 4) 4 1) (fun s18 => j2 s18) else none)) else (j12 ()))) (fun j10 => if x1 = 8256 then (if p1 = 0 then (j10 ()) else (if eh_okH (s.2.2 4) then eh_V (eh_tI s 124 9 (s.1 (s.2.2 4) 13)) (fun s22 => if eh_okH (s22.2.2 4) then Option.bind (eF_4_leaveTrap s22 (s22.2.2 4)) (fun q24 => j2 q24) else none) else none)) else (j10 ()))))) (fun j4 => if x1 = 0 then (eh_J (fun (u27 : Unit) => eh_V (eh_tI s 124 12 1) (fun s28 => j2 s28)) (fun j26 => if p1 = 0 then (if (s.1 124 6) = 0 then (j4 ()) else (j26 ())) else (j26 ()))) else (j4 ()))))
set_option maxHeartbeats 4000000 in
set_option maxRecDepth 100000 in
theorem eS_7_specialByCode (g : eh_P) (s : eh_F) (p0 : Int32) (p1 : Int32) : eh_Sim g eM_7_specialByCode (eh_R 2 0 0) eh_eV 0 0 0 (eh_en 4 [.ref 124, .int p0, .int p1]) [] (eh_FW s) (eF_7_specialByCode s p0 p1) := by
  unfold eF_7_specialByCode
  refine ef_top (L := [some (.ref 124), some (.int p0), some (.int p1), none]) rfl ?_
  refine es_blk (pc' := 5) (L' := [some (.ref 124), some (.int p0), some (.int p1), some (.int (eh_ushr p0 15))]) (st' := []) [(.iload_n 1, 0), (.bipush 15, 15), (.iushr, 0), (.istore_n 3, 0)] (by decide +kernel) rfl rfl ?_
  refine ef_V (fun x1 => [some (.ref 124), some (.int p0), some (.int p1), some (.int x1)]) (fun _ => []) (fun _ => eh_FW s) (fun x1 => ?_)
  refine es_blk (pc' := 6) (L' := [some (.ref 124), some (.int p0), some (.int p1), some (.int x1)]) (st' := [.int x1]) [(.iload_n 3, 0)] (by decide +kernel) rfl rfl ?_
  refine ef_J (X := fun j2 => ∀ (s3 : eh_F), eh_Sim g eM_7_specialByCode (eh_R 2 0 0) eh_eV 0 0 120 [none, none, none, none] [] (eh_FW s3) ((j2 s3).bind some)) ?_ (fun j2 Hj2 => ?_)
  · intro s3
    exact es_ret rfl rfl rfl ⟨by decide +kernel, rfl⟩ (Nat.le_refl _) (Nat.le_refl _)
  refine ef_J (X := fun j4 => ∀ (u5 : Unit), eh_Sim g eM_7_specialByCode (eh_R 2 0 0) eh_eV 0 0 28 [some (.ref 124), some (.int p0), some (.int p1), some (.int x1)] [] (eh_FW s) ((j4 u5).bind some)) ?_ (fun j4 Hj4 => ?_)
  · intro u5
    refine es_blk (pc' := 29) (L' := [some (.ref 124), some (.int p0), some (.int p1), some (.int x1)]) (st' := [.int x1]) [(.iload_n 3, 0)] (by decide +kernel) rfl rfl ?_
    refine es_ne (tgt := 42) (off := (13)) (by decide +kernel) (by decide) (fun h6 => ?_) (fun h6 => ?_)
    · refine es_blk (pc' := 36) (L' := [some (.ref 124), some (.int p0), some (.int p1), some (.int x1)]) (st' := [.int 0, .int 8, .ref 124]) [(.aload_n 0, 0), (.bipush 8, 8), (.iconst 0, 0)] (by decide +kernel) rfl rfl ?_
      refine ef_veV (d := 1) (k := 124) (As := [.int 8, .int 0]) (st := []) eV_7_fail eK_7_201 (eS_7_fail g s 8 0) rfl rfl (Nat.le_of_ble_eq_true rfl) rfl (Nat.le_of_ble_eq_true rfl) ⟨Nat.le_of_ble_eq_true rfl, Nat.le_of_ble_eq_true rfl⟩ ⟨Nat.le_refl _, Nat.le_refl _⟩ (by decide +kernel) (fun q7 _ => ?_)
      refine es_goto (tgt := 120) (off := (81)) (by decide +kernel) (by decide) ?_
      refine ef_drop (L2 := [none, none, none, none]) [false, false, false, false] rfl rfl ?_
      exact Hj2 _
    refine es_blk (pc' := 45) (L' := [some (.ref 124), some (.int p0), some (.int p1), some (.int x1)]) (st' := [.int 32, .int x1]) [(.iload_n 3, 0), (.bipush 32, 32)] (by decide +kernel) rfl rfl ?_
    refine es_ine (tgt := 60) (off := (15)) (by decide +kernel) (by decide) (fun h8 => ?_) (fun h8 => ?_)
    · refine es_blk (pc' := 51) (L' := [some (.ref 124), some (.int p0), some (.int p1), some (.int x1)]) (st' := [.ref 124, .int 3, .ref 124]) [(.aload_n 0, 0), (.iconst 3, 3), (.aload_n 0, 0)] (by decide +kernel) rfl rfl ?_
      refine ef_getI (k := 124) (j := 8) rfl eL_7_122 (by decide) (by decide +kernel) ?_
      refine ef_veV (d := 1) (k := 124) (As := [.int 3, .int (s.1 124 8)]) (st := []) eV_7_fail eK_7_201 (eS_7_fail g s 3 (s.1 124 8)) rfl rfl (Nat.le_of_ble_eq_true rfl) rfl (Nat.le_of_ble_eq_true rfl) ⟨Nat.le_of_ble_eq_true rfl, Nat.le_of_ble_eq_true rfl⟩ ⟨Nat.le_refl _, Nat.le_refl _⟩ (by decide +kernel) (fun q9 _ => ?_)
      refine es_goto (tgt := 120) (off := (63)) (by decide +kernel) (by decide) ?_
      refine ef_drop (L2 := [none, none, none, none]) [false, false, false, false] rfl rfl ?_
      exact Hj2 _
    refine es_blk (pc' := 64) (L' := [some (.ref 124), some (.int p0), some (.int p1), some (.int x1)]) (st' := [.int 8256, .int x1]) [(.iload_n 3, 0), (.sipush 8256, 8256)] (by decide +kernel) rfl rfl ?_
    refine ef_J (X := fun j10 => ∀ (u11 : Unit), eh_Sim g eM_7_specialByCode (eh_R 2 0 0) eh_eV 0 0 92 [some (.ref 124), some (.int p0), some (.int p1), some (.int x1)] [] (eh_FW s) ((j10 u11).bind some)) ?_ (fun j10 Hj10 => ?_)
    · intro u11
      refine es_blk (pc' := 96) (L' := [some (.ref 124), some (.int p0), some (.int p1), some (.int x1)]) (st' := [.int 8352, .int x1]) [(.iload_n 3, 0), (.sipush 8352, 8352)] (by decide +kernel) rfl rfl ?_
      refine ef_J (X := fun j12 => ∀ (u13 : Unit), eh_Sim g eM_7_specialByCode (eh_R 2 0 0) eh_eV 0 0 114 [some (.ref 124), some (.int p0), none, none] [] (eh_FW s) ((j12 u13).bind some)) ?_ (fun j12 Hj12 => ?_)
      · intro u13
        refine es_blk (pc' := 117) (L' := [some (.ref 124), some (.int p0), none, none]) (st' := [.int p0, .int 2, .ref 124]) [(.aload_n 0, 0), (.iconst 2, 2), (.iload_n 1, 0)] (by decide +kernel) rfl rfl ?_
        refine ef_veV (d := 1) (k := 124) (As := [.int 2, .int p0]) (st := []) eV_7_fail eK_7_201 (eS_7_fail g s 2 p0) rfl rfl (Nat.le_of_ble_eq_true rfl) rfl (Nat.le_of_ble_eq_true rfl) ⟨Nat.le_of_ble_eq_true rfl, Nat.le_of_ble_eq_true rfl⟩ ⟨Nat.le_refl _, Nat.le_refl _⟩ (by decide +kernel) (fun q14 _ => ?_)
        refine ef_drop (L2 := [none, none, none, none]) [false, false, true, true] rfl rfl ?_
        exact Hj2 _
      refine es_ine (tgt := 114) (off := (18)) (by decide +kernel) (by decide) (fun h15 => ?_) (fun h15 => ?_)
      · refine es_blk (pc' := 100) (L' := [some (.ref 124), some (.int p0), some (.int p1), some (.int x1)]) (st' := [.int p1]) [(.iload_n 2, 0)] (by decide +kernel) rfl rfl ?_
        refine es_eq (tgt := 114) (off := (14)) (by decide +kernel) (by decide) (fun h16 => ?_) (fun h16 => ?_)
        · refine ef_drop (L2 := [some (.ref 124), some (.int p0), none, none]) [true, true, false, false] rfl rfl ?_
          exact Hj12 ()
        refine es_blk (pc' := 104) (L' := [some (.ref 124), some (.int p0), some (.int p1), some (.int x1)]) (st' := [.ref 124]) [(.aload_n 0, 0)] (by decide +kernel) rfl rfl ?_
        refine ef_getQ (j := 4) (ok := eh_okH) (by decide) eL_7_39 rfl (fun q h => eh_sh_NU (eh_H0sh h)) (by decide +kernel) (fun h17 => ?_)
        refine es_blk (pc' := 108) (L' := [some (.ref 124), some (.int p0), some (.int p1), some (.int x1)]) (st' := [.int 1, .ref (s.2.2 4)]) [(.iconst 1, 1)] (by decide +kernel) rfl rfl ?_
        refine ef_putZc (k := (s.2.2 4)) (j := 4) (eh_H0sh h17) eL_7_62 rfl rfl (by decide) (by decide +kernel) ?_
        refine ef_V (fun _ => [some (.ref 124), some (.int p0), some (.int p1), some (.int x1)]) (fun _ => []) (fun s18 => eh_FW s18) (fun s18 => ?_)
        refine es_goto (tgt := 120) (off := (9)) (by decide +kernel) (by decide) ?_
        refine ef_drop (L2 := [none, none, none, none]) [false, false, false, false] rfl rfl ?_
        exact Hj2 _
      refine ef_drop (L2 := [some (.ref 124), some (.int p0), none, none]) [true, true, false, false] rfl rfl ?_
      exact Hj12 ()
    refine es_ine (tgt := 92) (off := (28)) (by decide +kernel) (by decide) (fun h19 => ?_) (fun h19 => ?_)
    · refine es_blk (pc' := 68) (L' := [some (.ref 124), some (.int p0), some (.int p1), some (.int x1)]) (st' := [.int p1]) [(.iload_n 2, 0)] (by decide +kernel) rfl rfl ?_
      refine es_eq (tgt := 92) (off := (24)) (by decide +kernel) (by decide) (fun h20 => ?_) (fun h20 => ?_)
      · exact Hj10 ()
      refine es_blk (pc' := 73) (L' := [some (.ref 124), some (.int p0), some (.int p1), some (.int x1)]) (st' := [.ref 124, .ref 124]) [(.aload_n 0, 0), (.aload_n 0, 0)] (by decide +kernel) rfl rfl ?_
      refine ef_getQ (j := 4) (ok := eh_okH) (by decide) eL_7_39 rfl (fun q h => eh_sh_NU (eh_H0sh h)) (by decide +kernel) (fun h21 => ?_)
      refine ef_getI (k := (s.2.2 4)) (j := 13) (eh_H0sh h21) eL_7_274 (by decide) (by decide +kernel) ?_
      refine ef_putI (k := 124) (j := 9) rfl eL_7_106 rfl rfl (by decide +kernel) ?_
      refine ef_V (fun _ => [some (.ref 124), some (.int p0), some (.int p1), some (.int x1)]) (fun _ => []) (fun s22 => eh_FW s22) (fun s22 => ?_)
      refine es_blk (pc' := 83) (L' := [some (.ref 124), some (.int p0), some (.int p1), some (.int x1)]) (st' := [.ref 124]) [(.aload_n 0, 0)] (by decide +kernel) rfl rfl ?_
      refine ef_getQ (j := 4) (ok := eh_okH) (by decide) eL_7_39 rfl (fun q h => eh_sh_NU (eh_H0sh h)) (by decide +kernel) (fun h23 => ?_)
      refine ef_veV (d := 1) (k := (s22.2.2 4)) (As := []) (st := []) eV_4_leaveTrap eK_7_277 (eS_4_leaveTrap g s22 (s22.2.2 4) h23) (eh_H0sh h23) rfl (Nat.le_of_ble_eq_true rfl) rfl (Nat.le_of_ble_eq_true rfl) ⟨Nat.le_of_ble_eq_true rfl, Nat.le_of_ble_eq_true rfl⟩ ⟨Nat.le_refl _, Nat.le_refl _⟩ (by decide +kernel) (fun q24 _ => ?_)
      refine es_goto (tgt := 120) (off := (31)) (by decide +kernel) (by decide) ?_
      refine ef_drop (L2 := [none, none, none, none]) [false, false, false, false] rfl rfl ?_
      exact Hj2 _
    exact Hj10 ()
  refine es_ne (tgt := 28) (off := (22)) (by decide +kernel) (by decide) (fun h25 => ?_) (fun h25 => ?_)
  · refine es_blk (pc' := 10) (L' := [some (.ref 124), some (.int p0), some (.int p1), some (.int x1)]) (st' := [.int p1]) [(.iload_n 2, 0)] (by decide +kernel) rfl rfl ?_
    refine ef_J (X := fun j26 => ∀ (u27 : Unit), eh_Sim g eM_7_specialByCode (eh_R 2 0 0) eh_eV 0 0 20 [some (.ref 124), none, none, none] [] (eh_FW s) ((j26 u27).bind some)) ?_ (fun j26 Hj26 => ?_)
    · intro u27
      refine es_blk (pc' := 22) (L' := [some (.ref 124), none, none, none]) (st' := [.int 1, .ref 124]) [(.aload_n 0, 0), (.iconst 1, 1)] (by decide +kernel) rfl rfl ?_
      refine ef_putZc (k := 124) (j := 12) rfl eL_7_91 rfl rfl (by decide) (by decide +kernel) ?_
      refine ef_V (fun _ => [some (.ref 124), none, none, none]) (fun _ => []) (fun s28 => eh_FW s28) (fun s28 => ?_)
      refine es_goto (tgt := 120) (off := (95)) (by decide +kernel) (by decide) ?_
      refine ef_drop (L2 := [none, none, none, none]) [false, true, true, true] rfl rfl ?_
      exact Hj2 _
    refine es_ne (tgt := 20) (off := (10)) (by decide +kernel) (by decide) (fun h29 => ?_) (fun h29 => ?_)
    · refine es_blk (pc' := 14) (L' := [some (.ref 124), some (.int p0), some (.int p1), some (.int x1)]) (st' := [.ref 124]) [(.aload_n 0, 0)] (by decide +kernel) rfl rfl ?_
      refine ef_getI (k := 124) (j := 6) rfl eL_7_94 (by decide) (by decide +kernel) ?_
      refine es_eq (tgt := 28) (off := (11)) (by decide +kernel) (by decide) (fun h30 => ?_) (fun h30 => ?_)
      · exact Hj4 ()
      refine ef_drop (L2 := [some (.ref 124), none, none, none]) [true, false, false, false] rfl rfl ?_
      exact Hj26 ()
    refine ef_drop (L2 := [some (.ref 124), none, none, none]) [true, false, false, false] rfl rfl ?_
    exact Hj26 ()
  exact Hj4 ()
def eF_7_walk (s : eh_F) (p0 : Int32) (p1 : Int32) : Option (Int64 × eh_F) := if eh_okH (s.2.2 4) then eh_V ((eh_lshl (((s.1 (s.2.2 4) 18).toInt64) &&& 4194303) 12) : Int64) (fun x2 => Option.bind (eh_loop (fun (r18 : (Int64 × Int32) → Option ((Unit) ⊕ (Unit) ⊕ (Unit) ⊕ (Int64 × Int32) ⊕ (Unit))) (t3 : Int64 × Int32) => if t3.2 < 0 then (some (.inl ())) else (eh_J (fun (a21 : Int32) => eh_V ((t3.1 + ((4 * ((eh_ushr p0 a21) &&& 1023)).toInt64)) : Int64) (fun x22 => Option.bind (eF_6_isOpen s x22) (fun q23 => if q23 = 0 then (some (.inr (.inl ()))) else (Option.bind (eF_6_wordAt s (x22.toInt32)) (fun q25 => eh_J (fun (a27 : Int32) => eh_V ((eh_lshl ((eh_ushr q25 10).toInt64) 12) : Int64) (fun x28 => if (q25 &&& 1) = 0 then (some (.inl ())) else (if (q25 &&& 6) = 4 then (some (.inr (.inr (.inl ())))) else (eh_J (fun (u32 : Unit) => if a27 = 0 then (eh_V ((t3.2 + (-1)) : Int32) (fun x34 => r18 (x28, x34))) else (some (.inr (.inr (.inr (.inr ())))))) (fun j31 => if a27 = 0 then (j31 ()) else (eh_J (fun (u37 : Unit) => Option.bind (eF_7_allows s q25 p1) (fun q38 => if q38 = 0 then (j31 ()) else (some (.inr (.inr (.inr (.inl (x28, a21)))))))) (fun j36 => if t3.2 = 0 then (j36 ()) else (if (q25 &&& 1047552) = 0 then (j36 ()) else (j31 ()))))))))) (fun j26 => if (q25 &&& 14) = 0 then (j26 0) else (j26 1))))))) (fun j20 => if t3.2 = 1 then (j20 22) else (j20 12)))) eh_FU (x2, 1)) (Sum.elim (fun (e4 : Unit) => Option.bind (eF_7_pageFault s p1) (fun q5 => Option.bind (eF_7_fail s q5 p0) (fun q6 => some ((-1), q6)))) (Sum.elim (fun (e7 : Unit) => Option.bind (eF_7_accessFault s p1) (fun q8 => Option.bind (eF_7_fail s q8 p0) (fun q9 => some ((-1), q9)))) (Sum.elim (fun (e10 : Unit) => Option.bind (eF_7_pageFault s p1) (fun q11 => Option.bind (eF_7_fail s q11 p0) (fun q12 => some ((-1), q12)))) (Sum.elim (fun (e13 : Int64 × Int32) => some ((e13.1 ||| ((p0 &&& ((eh_shl 1 e13.2) - 1)).toInt64)), s)) (fun (e14 : Unit) => Option.bind (eF_7_pageFault s p1) (fun q15 => Option.bind (eF_7_fail s q15 p0) (fun q16 => some ((-1), q16))))))))) else none
set_option maxHeartbeats 4000000 in
set_option maxRecDepth 100000 in
theorem eS_7_walk (g : eh_P) (s : eh_F) (p0 : Int32) (p1 : Int32) : eh_Sim g eM_7_walk (eh_R 2 0 0) eh_eL 0 0 0 (eh_en 11 [.ref 124, .int p0, .int p1]) [] (eh_FW s) (eF_7_walk s p0 p1) := by
  unfold eF_7_walk
  refine ef_top (L := [some (.ref 124), some (.int p0), some (.int p1), none, none, none, none, none, none, none, none]) rfl ?_
  refine es_blk (pc' := 1) (L' := [some (.ref 124), some (.int p0), some (.int p1), none, none, none, none, none, none, none, none]) (st' := [.ref 124]) [(.aload_n 0, 0)] (by decide +kernel) rfl rfl ?_
  refine ef_getQ (j := 4) (ok := eh_okH) (by decide) eL_7_39 rfl (fun q h => eh_sh_NU (eh_H0sh h)) (by decide +kernel) (fun h1 => ?_)
  refine ef_getI (k := (s.2.2 4)) (j := 18) (eh_H0sh h1) eL_7_291 (by decide) (by decide +kernel) ?_
  refine es_blk (pc' := 8) (L' := [some (.ref 124), some (.int p0), some (.int p1), none, none, none, none, none, none, none, none]) (st' := [.long ((s.1 (s.2.2 4) 18).toInt64)]) [(.i2l, 0)] (by decide +kernel) rfl rfl ?_
  refine es_ldc2 (v := 4194303) eC_7_308 (by decide +kernel) ?_
  refine es_blk (pc' := 16) (L' := [some (.ref 124), some (.int p0), some (.int p1), some (.long (eh_lshl (((s.1 (s.2.2 4) 18).toInt64) &&& 4194303) 12)), none, none, none, none, none, none, none]) (st' := []) [(.land, 0), (.bipush 12, 12), (.lshl, 0), (.lstore_n 3, 0)] (by decide +kernel) rfl rfl ?_
  refine ef_V (fun x2 => [some (.ref 124), some (.int p0), some (.int p1), some (.long x2), none, none, none, none, none, none, none]) (fun _ => []) (fun _ => eh_FW s) (fun x2 => ?_)
  refine es_blk (pc' := 19) (L' := [some (.ref 124), some (.int p0), some (.int p1), some (.long x2), none, some (.int 1), none, none, none, none, none]) (st' := []) [(.iconst 1, 1), (.istore 5, 0)] (by decide +kernel) rfl rfl ?_
  refine ef_loop5 (n := eh_FU) (i := (x2, 1)) (px := 190) (px2 := 66) (px3 := 132) (px4 := 164) (px5 := 181) (fun (t3 : Int64 × Int32) => [some (.ref 124), some (.int p0), some (.int p1), some (.long t3.1), none, some (.int t3.2), none, none, none, none, none]) (fun (t3 : Int64 × Int32) => []) (fun (t3 : Int64 × Int32) => eh_FW s) (fun (e4 : Unit) => [some (.ref 124), some (.int p0), some (.int p1), none, none, none, none, none, none, none, none]) (fun (e4 : Unit) => []) (fun (e4 : Unit) => eh_FW s) (fun (e7 : Unit) => [some (.ref 124), some (.int p0), some (.int p1), none, none, none, none, none, none, none, none]) (fun (e7 : Unit) => []) (fun (e7 : Unit) => eh_FW s) (fun (e10 : Unit) => [some (.ref 124), some (.int p0), some (.int p1), none, none, none, none, none, none, none, none]) (fun (e10 : Unit) => []) (fun (e10 : Unit) => eh_FW s) (fun (e13 : Int64 × Int32) => [none, some (.int p0), none, some (.long e13.1), none, none, some (.int e13.2), none, none, none, none]) (fun (e13 : Int64 × Int32) => []) (fun (e13 : Int64 × Int32) => eh_FW s) (fun (e14 : Unit) => [some (.ref 124), some (.int p0), some (.int p1), none, none, none, none, none, none, none, none]) (fun (e14 : Unit) => []) (fun (e14 : Unit) => eh_FW s) (fun e4 => ?_) (fun e7 => ?_) (fun e10 => ?_) (fun e13 => ?_) (fun e14 => ?_) (fun K17 HxK17_0 HxK17_1 HxK17_2 HxK17_3 HxK17_4 r18 Hr18 t3 => ?_)
  · refine es_blk (pc' := 192) (L' := [some (.ref 124), some (.int p0), some (.int p1), none, none, none, none, none, none, none, none]) (st' := [.int p1, .ref 124]) [(.aload_n 0, 0), (.iload_n 2, 0)] (by decide +kernel) rfl rfl ?_
    refine ef_spI (d := 1) (As := [.int p1]) (st := [.ref 124]) eV_7_pageFault eK_7_320 (eS_7_pageFault g s p1) rfl (Nat.le_of_ble_eq_true rfl) rfl (Nat.le_of_ble_eq_true rfl) ⟨Nat.le_of_ble_eq_true rfl, Nat.le_of_ble_eq_true rfl⟩ ⟨Nat.le_refl _, Nat.le_refl _⟩ (by decide +kernel) (fun q5 _ => ?_)
    refine es_blk (pc' := 196) (L' := [some (.ref 124), some (.int p0), some (.int p1), none, none, none, none, none, none, none, none]) (st' := [.int p0, .int q5, .ref 124]) [(.iload_n 1, 0)] (by decide +kernel) rfl rfl ?_
    refine ef_veV (d := 1) (k := 124) (As := [.int q5, .int p0]) (st := []) eV_7_fail eK_7_201 (eS_7_fail g s q5 p0) rfl rfl (Nat.le_of_ble_eq_true rfl) rfl (Nat.le_of_ble_eq_true rfl) ⟨Nat.le_of_ble_eq_true rfl, Nat.le_of_ble_eq_true rfl⟩ ⟨Nat.le_refl _, Nat.le_refl _⟩ (by decide +kernel) (fun q6 _ => ?_)
    refine es_ldc2 (v := (-1)) eC_7_314 (by decide +kernel) ?_
    exact es_ret rfl rfl rfl ⟨by decide +kernel, rfl⟩ (Nat.le_refl _) (Nat.le_refl _)
  · refine es_blk (pc' := 68) (L' := [some (.ref 124), some (.int p0), some (.int p1), none, none, none, none, none, none, none, none]) (st' := [.int p1, .ref 124]) [(.aload_n 0, 0), (.iload_n 2, 0)] (by decide +kernel) rfl rfl ?_
    refine ef_spI (d := 1) (As := [.int p1]) (st := [.ref 124]) eV_7_accessFault eK_7_305 (eS_7_accessFault g s p1) rfl (Nat.le_of_ble_eq_true rfl) rfl (Nat.le_of_ble_eq_true rfl) ⟨Nat.le_of_ble_eq_true rfl, Nat.le_of_ble_eq_true rfl⟩ ⟨Nat.le_refl _, Nat.le_refl _⟩ (by decide +kernel) (fun q8 _ => ?_)
    refine es_blk (pc' := 72) (L' := [some (.ref 124), some (.int p0), some (.int p1), none, none, none, none, none, none, none, none]) (st' := [.int p0, .int q8, .ref 124]) [(.iload_n 1, 0)] (by decide +kernel) rfl rfl ?_
    refine ef_veV (d := 1) (k := 124) (As := [.int q8, .int p0]) (st := []) eV_7_fail eK_7_201 (eS_7_fail g s q8 p0) rfl rfl (Nat.le_of_ble_eq_true rfl) rfl (Nat.le_of_ble_eq_true rfl) ⟨Nat.le_of_ble_eq_true rfl, Nat.le_of_ble_eq_true rfl⟩ ⟨Nat.le_refl _, Nat.le_refl _⟩ (by decide +kernel) (fun q9 _ => ?_)
    refine es_ldc2 (v := (-1)) eC_7_314 (by decide +kernel) ?_
    exact es_ret rfl rfl rfl ⟨by decide +kernel, rfl⟩ (Nat.le_refl _) (Nat.le_refl _)
  · refine es_goto (tgt := 190) (off := (58)) (by decide +kernel) (by decide) ?_
    refine es_blk (pc' := 192) (L' := [some (.ref 124), some (.int p0), some (.int p1), none, none, none, none, none, none, none, none]) (st' := [.int p1, .ref 124]) [(.aload_n 0, 0), (.iload_n 2, 0)] (by decide +kernel) rfl rfl ?_
    refine ef_spI (d := 1) (As := [.int p1]) (st := [.ref 124]) eV_7_pageFault eK_7_320 (eS_7_pageFault g s p1) rfl (Nat.le_of_ble_eq_true rfl) rfl (Nat.le_of_ble_eq_true rfl) ⟨Nat.le_of_ble_eq_true rfl, Nat.le_of_ble_eq_true rfl⟩ ⟨Nat.le_refl _, Nat.le_refl _⟩ (by decide +kernel) (fun q11 _ => ?_)
    refine es_blk (pc' := 196) (L' := [some (.ref 124), some (.int p0), some (.int p1), none, none, none, none, none, none, none, none]) (st' := [.int p0, .int q11, .ref 124]) [(.iload_n 1, 0)] (by decide +kernel) rfl rfl ?_
    refine ef_veV (d := 1) (k := 124) (As := [.int q11, .int p0]) (st := []) eV_7_fail eK_7_201 (eS_7_fail g s q11 p0) rfl rfl (Nat.le_of_ble_eq_true rfl) rfl (Nat.le_of_ble_eq_true rfl) ⟨Nat.le_of_ble_eq_true rfl, Nat.le_of_ble_eq_true rfl⟩ ⟨Nat.le_refl _, Nat.le_refl _⟩ (by decide +kernel) (fun q12 _ => ?_)
    refine es_ldc2 (v := (-1)) eC_7_314 (by decide +kernel) ?_
    exact es_ret rfl rfl rfl ⟨by decide +kernel, rfl⟩ (Nat.le_refl _) (Nat.le_refl _)
  · refine es_blk (pc' := 175) (L' := [none, some (.int p0), none, some (.long e13.1), none, none, some (.int e13.2), none, none, none, none]) (st' := [.long (e13.1 ||| ((p0 &&& ((eh_shl 1 e13.2) - 1)).toInt64))]) [(.lload_n 3, 0), (.iload_n 1, 0), (.iconst 1, 1), (.iload 6, 0), (.ishl, 0), (.iconst 1, 1), (.isub, 0), (.iand, 0), (.i2l, 0), (.lor, 0)] (by decide +kernel) rfl rfl ?_
    exact es_ret rfl rfl rfl ⟨by decide +kernel, rfl⟩ (Nat.le_refl _) (Nat.le_refl _)
  · refine es_goto (tgt := 190) (off := (9)) (by decide +kernel) (by decide) ?_
    refine es_blk (pc' := 192) (L' := [some (.ref 124), some (.int p0), some (.int p1), none, none, none, none, none, none, none, none]) (st' := [.int p1, .ref 124]) [(.aload_n 0, 0), (.iload_n 2, 0)] (by decide +kernel) rfl rfl ?_
    refine ef_spI (d := 1) (As := [.int p1]) (st := [.ref 124]) eV_7_pageFault eK_7_320 (eS_7_pageFault g s p1) rfl (Nat.le_of_ble_eq_true rfl) rfl (Nat.le_of_ble_eq_true rfl) ⟨Nat.le_of_ble_eq_true rfl, Nat.le_of_ble_eq_true rfl⟩ ⟨Nat.le_refl _, Nat.le_refl _⟩ (by decide +kernel) (fun q15 _ => ?_)
    refine es_blk (pc' := 196) (L' := [some (.ref 124), some (.int p0), some (.int p1), none, none, none, none, none, none, none, none]) (st' := [.int p0, .int q15, .ref 124]) [(.iload_n 1, 0)] (by decide +kernel) rfl rfl ?_
    refine ef_veV (d := 1) (k := 124) (As := [.int q15, .int p0]) (st := []) eV_7_fail eK_7_201 (eS_7_fail g s q15 p0) rfl rfl (Nat.le_of_ble_eq_true rfl) rfl (Nat.le_of_ble_eq_true rfl) ⟨Nat.le_of_ble_eq_true rfl, Nat.le_of_ble_eq_true rfl⟩ ⟨Nat.le_refl _, Nat.le_refl _⟩ (by decide +kernel) (fun q16 _ => ?_)
    refine es_ldc2 (v := (-1)) eC_7_314 (by decide +kernel) ?_
    exact es_ret rfl rfl rfl ⟨by decide +kernel, rfl⟩ (Nat.le_refl _) (Nat.le_refl _)
  · refine es_blk (pc' := 21) (L' := [some (.ref 124), some (.int p0), some (.int p1), some (.long t3.1), none, some (.int t3.2), none, none, none, none, none]) (st' := [.int t3.2]) [(.iload 5, 0)] (by decide +kernel) rfl rfl ?_
    refine es_lt (tgt := 190) (off := (169)) (by decide +kernel) (by decide) (fun h19 => ?_) (fun h19 => ?_)
    · refine ef_drop (L2 := [some (.ref 124), some (.int p0), some (.int p1), none, none, none, none, none, none, none, none]) [true, true, true, false, true, false, true, true, true, true, true] rfl rfl ?_
      exact HxK17_0 ()
    refine es_blk (pc' := 27) (L' := [some (.ref 124), some (.int p0), some (.int p1), some (.long t3.1), none, some (.int t3.2), none, none, none, none, none]) (st' := [.int 1, .int t3.2]) [(.iload 5, 0), (.iconst 1, 1)] (by decide +kernel) rfl rfl ?_
    refine ef_J (X := fun j20 => ∀ (a21 : Int32), eh_Sim g eM_7_walk (eh_R 2 0 0) eh_eL 0 0 37 [some (.ref 124), some (.int p0), some (.int p1), some (.long t3.1), none, some (.int t3.2), none, none, none, none, none] [.int a21] (eh_FW s) ((j20 a21).bind K17)) ?_ (fun j20 Hj20 => ?_)
    · intro a21
      refine es_blk (pc' := 54) (L' := [some (.ref 124), some (.int p0), some (.int p1), some (.long t3.1), none, some (.int t3.2), some (.int a21), some (.long (t3.1 + ((4 * ((eh_ushr p0 a21) &&& 1023)).toInt64))), none, none, none]) (st' := []) [(.istore 6, 0), (.lload_n 3, 0), (.iconst 4, 4), (.iload_n 1, 0), (.iload 6, 0), (.iushr, 0), (.sipush 1023, 1023), (.iand, 0), (.imul, 0), (.i2l, 0), (.ladd, 0), (.lstore 7, 0)] (by decide +kernel) rfl rfl ?_
      refine ef_V (fun x22 => [some (.ref 124), some (.int p0), some (.int p1), some (.long t3.1), none, some (.int t3.2), some (.int a21), some (.long x22), none, none, none]) (fun _ => []) (fun _ => eh_FW s) (fun x22 => ?_)
      refine es_blk (pc' := 55) (L' := [some (.ref 124), some (.int p0), some (.int p1), some (.long t3.1), none, some (.int t3.2), some (.int a21), some (.long x22), none, none, none]) (st' := [.ref 124]) [(.aload_n 0, 0)] (by decide +kernel) rfl rfl ?_
      refine ef_getP (k := 124) (j := 1) (q := 2) rfl eL_7_21 rfl rfl rfl (by decide +kernel) ?_
      refine es_blk (pc' := 60) (L' := [some (.ref 124), some (.int p0), some (.int p1), some (.long t3.1), none, some (.int t3.2), some (.int a21), some (.long x22), none, none, none]) (st' := [.long x22, .ref 2]) [(.lload 7, 0)] (by decide +kernel) rfl rfl ?_
      refine ef_vpI (d := 1) (k := 2) (As := [.long x22]) (st := []) eV_6_isOpen eK_7_310 (eS_6_isOpen g s x22) rfl rfl (Nat.le_of_ble_eq_true rfl) rfl (Nat.le_of_ble_eq_true rfl) ⟨Nat.le_of_ble_eq_true rfl, Nat.le_of_ble_eq_true rfl⟩ ⟨Nat.le_refl _, Nat.le_refl _⟩ (by decide +kernel) (fun q23 _ => ?_)
      refine es_ne (tgt := 79) (off := (16)) (by decide +kernel) (by decide) (fun h24 => ?_) (fun h24 => ?_)
      · refine ef_drop (L2 := [some (.ref 124), some (.int p0), some (.int p1), none, none, none, none, none, none, none, none]) [true, true, true, false, true, false, false, false, true, true, true] rfl rfl ?_
        exact HxK17_1 ()
      refine es_blk (pc' := 80) (L' := [some (.ref 124), some (.int p0), some (.int p1), some (.long t3.1), none, some (.int t3.2), some (.int a21), some (.long x22), none, none, none]) (st' := [.ref 124]) [(.aload_n 0, 0)] (by decide +kernel) rfl rfl ?_
      refine ef_getP (k := 124) (j := 1) (q := 2) rfl eL_7_21 rfl rfl rfl (by decide +kernel) ?_
      refine es_blk (pc' := 86) (L' := [some (.ref 124), some (.int p0), some (.int p1), some (.long t3.1), none, some (.int t3.2), some (.int a21), some (.long x22), none, none, none]) (st' := [.int (x22.toInt32), .ref 2]) [(.lload 7, 0), (.l2i, 0)] (by decide +kernel) rfl rfl ?_
      refine ef_vpI (d := 1) (k := 2) (As := [.int (x22.toInt32)]) (st := []) eV_6_wordAt eK_7_159 (eS_6_wordAt g s (x22.toInt32)) rfl rfl (Nat.le_of_ble_eq_true rfl) rfl (Nat.le_of_ble_eq_true rfl) ⟨Nat.le_of_ble_eq_true rfl, Nat.le_of_ble_eq_true rfl⟩ ⟨Nat.le_refl _, Nat.le_refl _⟩ (by decide +kernel) (fun q25 _ => ?_)
      refine es_blk (pc' := 96) (L' := [some (.ref 124), some (.int p0), some (.int p1), some (.long t3.1), none, some (.int t3.2), some (.int a21), some (.long x22), none, some (.int q25), none]) (st' := [.int (q25 &&& 14)]) [(.istore 9, 0), (.iload 9, 0), (.bipush 14, 14), (.iand, 0)] (by decide +kernel) rfl rfl ?_
      refine ef_J (X := fun j26 => ∀ (a27 : Int32), eh_Sim g eM_7_walk (eh_R 2 0 0) eh_eL 0 0 104 [some (.ref 124), some (.int p0), some (.int p1), none, none, some (.int t3.2), some (.int a21), none, none, some (.int q25), none] [.int a27] (eh_FW s) ((j26 a27).bind K17)) ?_ (fun j26 Hj26 => ?_)
      · intro a27
        refine es_blk (pc' := 116) (L' := [some (.ref 124), some (.int p0), some (.int p1), some (.long (eh_lshl ((eh_ushr q25 10).toInt64) 12)), none, some (.int t3.2), some (.int a21), none, none, some (.int q25), some (.int a27)]) (st' := []) [(.istore 10, 0), (.iload 9, 0), (.bipush 10, 10), (.iushr, 0), (.i2l, 0), (.bipush 12, 12), (.lshl, 0), (.lstore_n 3, 0)] (by decide +kernel) rfl rfl ?_
        refine ef_V (fun x28 => [some (.ref 124), some (.int p0), some (.int p1), some (.long x28), none, some (.int t3.2), some (.int a21), none, none, some (.int q25), some (.int a27)]) (fun _ => []) (fun _ => eh_FW s) (fun x28 => ?_)
        refine es_blk (pc' := 120) (L' := [some (.ref 124), some (.int p0), some (.int p1), some (.long x28), none, some (.int t3.2), some (.int a21), none, none, some (.int q25), some (.int a27)]) (st' := [.int (q25 &&& 1)]) [(.iload 9, 0), (.iconst 1, 1), (.iand, 0)] (by decide +kernel) rfl rfl ?_
        refine es_eq (tgt := 190) (off := (70)) (by decide +kernel) (by decide) (fun h29 => ?_) (fun h29 => ?_)
        · refine ef_drop (L2 := [some (.ref 124), some (.int p0), some (.int p1), none, none, none, none, none, none, none, none]) [true, true, true, false, true, false, false, true, true, false, false] rfl rfl ?_
          exact HxK17_0 ()
        refine es_blk (pc' := 129) (L' := [some (.ref 124), some (.int p0), some (.int p1), some (.long x28), none, some (.int t3.2), some (.int a21), none, none, some (.int q25), some (.int a27)]) (st' := [.int 4, .int (q25 &&& 6)]) [(.iload 9, 0), (.bipush 6, 6), (.iand, 0), (.iconst 4, 4)] (by decide +kernel) rfl rfl ?_
        refine es_ine (tgt := 135) (off := (6)) (by decide +kernel) (by decide) (fun h30 => ?_) (fun h30 => ?_)
        · refine ef_drop (L2 := [some (.ref 124), some (.int p0), some (.int p1), none, none, none, none, none, none, none, none]) [true, true, true, false, true, false, false, true, true, false, false] rfl rfl ?_
          exact HxK17_2 ()
        refine es_blk (pc' := 137) (L' := [some (.ref 124), some (.int p0), some (.int p1), some (.long x28), none, some (.int t3.2), some (.int a21), none, none, some (.int q25), some (.int a27)]) (st' := [.int a27]) [(.iload 10, 0)] (by decide +kernel) rfl rfl ?_
        refine ef_J (X := fun j31 => ∀ (u32 : Unit), eh_Sim g eM_7_walk (eh_R 2 0 0) eh_eL 0 0 176 [some (.ref 124), some (.int p0), some (.int p1), some (.long x28), none, some (.int t3.2), none, none, none, none, some (.int a27)] [] (eh_FW s) ((j31 u32).bind K17)) ?_ (fun j31 Hj31 => ?_)
        · intro u32
          refine es_blk (pc' := 178) (L' := [some (.ref 124), some (.int p0), some (.int p1), some (.long x28), none, some (.int t3.2), none, none, none, none, some (.int a27)]) (st' := [.int a27]) [(.iload 10, 0)] (by decide +kernel) rfl rfl ?_
          refine es_eq (tgt := 184) (off := (6)) (by decide +kernel) (by decide) (fun h33 => ?_) (fun h33 => ?_)
          · refine es_blk (pc' := 187) (L' := [some (.ref 124), some (.int p0), some (.int p1), some (.long x28), none, some (.int (t3.2 + (-1))), none, none, none, none, some (.int a27)]) (st' := []) [(.iinc 5 (-1), (-1))] (by decide +kernel) rfl rfl ?_
            refine ef_V (fun x34 => [some (.ref 124), some (.int p0), some (.int p1), some (.long x28), none, some (.int x34), none, none, none, none, some (.int a27)]) (fun _ => []) (fun _ => eh_FW s) (fun x34 => ?_)
            refine es_goto (tgt := 19) (off := (-168)) (by decide +kernel) (by decide) ?_
            refine ef_drop (L2 := [some (.ref 124), some (.int p0), some (.int p1), some (.long x28), none, some (.int x34), none, none, none, none, none]) [true, true, true, true, true, true, true, true, true, true, false] rfl rfl ?_
            exact Hr18 (x28, x34)
          refine ef_drop (L2 := [some (.ref 124), some (.int p0), some (.int p1), none, none, none, none, none, none, none, none]) [true, true, true, false, true, false, true, true, true, true, false] rfl rfl ?_
          exact HxK17_4 ()
        refine es_eq (tgt := 176) (off := (39)) (by decide +kernel) (by decide) (fun h35 => ?_) (fun h35 => ?_)
        · refine ef_drop (L2 := [some (.ref 124), some (.int p0), some (.int p1), some (.long x28), none, some (.int t3.2), none, none, none, none, some (.int a27)]) [true, true, true, true, true, true, false, true, true, false, true] rfl rfl ?_
          exact Hj31 ()
        refine es_blk (pc' := 142) (L' := [some (.ref 124), some (.int p0), some (.int p1), some (.long x28), none, some (.int t3.2), some (.int a21), none, none, some (.int q25), some (.int a27)]) (st' := [.int t3.2]) [(.iload 5, 0)] (by decide +kernel) rfl rfl ?_
        refine ef_J (X := fun j36 => ∀ (u37 : Unit), eh_Sim g eM_7_walk (eh_R 2 0 0) eh_eL 0 0 154 [some (.ref 124), some (.int p0), some (.int p1), some (.long x28), none, some (.int t3.2), some (.int a21), none, none, some (.int q25), some (.int a27)] [] (eh_FW s) ((j36 u37).bind K17)) ?_ (fun j36 Hj36 => ?_)
        · intro u37
          refine es_blk (pc' := 158) (L' := [some (.ref 124), some (.int p0), some (.int p1), some (.long x28), none, some (.int t3.2), some (.int a21), none, none, some (.int q25), some (.int a27)]) (st' := [.int p1, .int q25, .ref 124]) [(.aload_n 0, 0), (.iload 9, 0), (.iload_n 2, 0)] (by decide +kernel) rfl rfl ?_
          refine ef_vpI (d := 1) (k := 124) (As := [.int q25, .int p1]) (st := []) eV_7_allows eK_7_317 (eS_7_allows g s q25 p1) rfl rfl (Nat.le_of_ble_eq_true rfl) rfl (Nat.le_of_ble_eq_true rfl) ⟨Nat.le_of_ble_eq_true rfl, Nat.le_of_ble_eq_true rfl⟩ ⟨Nat.le_refl _, Nat.le_refl _⟩ (by decide +kernel) (fun q38 _ => ?_)
          refine es_eq (tgt := 176) (off := (15)) (by decide +kernel) (by decide) (fun h39 => ?_) (fun h39 => ?_)
          · refine ef_drop (L2 := [some (.ref 124), some (.int p0), some (.int p1), some (.long x28), none, some (.int t3.2), none, none, none, none, some (.int a27)]) [true, true, true, true, true, true, false, true, true, false, true] rfl rfl ?_
            exact Hj31 ()
          refine ef_drop (L2 := [none, some (.int p0), none, some (.long x28), none, none, some (.int a21), none, none, none, none]) [false, true, false, true, true, false, true, true, true, false, false] rfl rfl ?_
          exact HxK17_3 (x28, a21)
        refine es_eq (tgt := 154) (off := (12)) (by decide +kernel) (by decide) (fun h40 => ?_) (fun h40 => ?_)
        · exact Hj36 ()
        refine es_blk (pc' := 147) (L' := [some (.ref 124), some (.int p0), some (.int p1), some (.long x28), none, some (.int t3.2), some (.int a21), none, none, some (.int q25), some (.int a27)]) (st' := [.int q25]) [(.iload 9, 0)] (by decide +kernel) rfl rfl ?_
        refine es_ldcw (v := 1047552) eC_7_316 (by decide +kernel) ?_
        refine es_blk (pc' := 151) (L' := [some (.ref 124), some (.int p0), some (.int p1), some (.long x28), none, some (.int t3.2), some (.int a21), none, none, some (.int q25), some (.int a27)]) (st' := [.int (q25 &&& 1047552)]) [(.iand, 0)] (by decide +kernel) rfl rfl ?_
        refine es_ne (tgt := 176) (off := (25)) (by decide +kernel) (by decide) (fun h41 => ?_) (fun h41 => ?_)
        · exact Hj36 ()
        refine ef_drop (L2 := [some (.ref 124), some (.int p0), some (.int p1), some (.long x28), none, some (.int t3.2), none, none, none, none, some (.int a27)]) [true, true, true, true, true, true, false, true, true, false, true] rfl rfl ?_
        exact Hj31 ()
      refine es_eq (tgt := 103) (off := (7)) (by decide +kernel) (by decide) (fun h42 => ?_) (fun h42 => ?_)
      · refine es_blk (pc' := 104) (L' := [some (.ref 124), some (.int p0), some (.int p1), some (.long t3.1), none, some (.int t3.2), some (.int a21), some (.long x22), none, some (.int q25), none]) (st' := [.int 0]) [(.iconst 0, 0)] (by decide +kernel) rfl rfl ?_
        refine ef_drop (L2 := [some (.ref 124), some (.int p0), some (.int p1), none, none, some (.int t3.2), some (.int a21), none, none, some (.int q25), none]) [true, true, true, false, true, true, true, false, true, true, true] rfl rfl ?_
        exact Hj26 _
      refine es_blk (pc' := 100) (L' := [some (.ref 124), some (.int p0), some (.int p1), some (.long t3.1), none, some (.int t3.2), some (.int a21), some (.long x22), none, some (.int q25), none]) (st' := [.int 1]) [(.iconst 1, 1)] (by decide +kernel) rfl rfl ?_
      refine es_goto (tgt := 104) (off := (4)) (by decide +kernel) (by decide) ?_
      refine ef_drop (L2 := [some (.ref 124), some (.int p0), some (.int p1), none, none, some (.int t3.2), some (.int a21), none, none, some (.int q25), none]) [true, true, true, false, true, true, true, false, true, true, true] rfl rfl ?_
      exact Hj26 _
    refine es_ine (tgt := 35) (off := (8)) (by decide +kernel) (by decide) (fun h43 => ?_) (fun h43 => ?_)
    · refine es_blk (pc' := 32) (L' := [some (.ref 124), some (.int p0), some (.int p1), some (.long t3.1), none, some (.int t3.2), none, none, none, none, none]) (st' := [.int 22]) [(.bipush 22, 22)] (by decide +kernel) rfl rfl ?_
      refine es_goto (tgt := 37) (off := (5)) (by decide +kernel) (by decide) ?_
      exact Hj20 _
    refine es_blk (pc' := 37) (L' := [some (.ref 124), some (.int p0), some (.int p1), some (.long t3.1), none, some (.int t3.2), none, none, none, none, none]) (st' := [.int 12]) [(.bipush 12, 12)] (by decide +kernel) rfl rfl ?_
    exact Hj20 _
def eF_8_mixAll (s : eh_F) (th : Nat) (p0 : Int64) : Option (Int64) := Option.bind (eF_5_mix s p0 (s.1 th 1)) (fun q1 => Option.bind (eh_loop (fun (r5 : (Int64 × Int32) → Option (Int64)) (t2 : Int64 × Int32) => if t2.2 < (s.1 th 1) then (if t2.2 < (Int32.ofNat (eh_rn th)) then (if eh_in t2.2 (eh_rn th) then Option.bind (eF_5_mix s t2.1 (s.1 (th + 1) (eh_ix t2.2))) (fun q8 => eh_V ((t2.2 + 1) : Int32) (fun x9 => r5 (q8, x9))) else none) else (some t2.1)) else (some t2.1)) eh_FU (q1, 0)) (fun (e3 : Int64) => some e3))
set_option maxHeartbeats 4000000 in
set_option maxRecDepth 100000 in
theorem eS_8_mixAll (g : eh_P) (s : eh_F) (th : Nat) (p0 : Int64) (hth : eh_okR th = true) : eh_Sim g eM_8_mixAll (eh_R 2 0 0) (eh_pL s) 0 0 0 (eh_en 6 [.ref th, .long p0]) [] (eh_FW s) (eF_8_mixAll s th p0) := by
  unfold eF_8_mixAll
  refine ef_top (L := [some (.ref th), some (.long p0), none, none, none, none]) rfl ?_
  refine es_blk (pc' := 2) (L' := [some (.ref th), some (.long p0), none, none, none, none]) (st' := [.ref th, .long p0]) [(.lload_n 1, 0), (.aload_n 0, 0)] (by decide +kernel) rfl rfl ?_
  refine ef_getI (k := th) (j := 1) (eh_R0sh hth) eL_8_15 (by decide) (by decide +kernel) ?_
  refine ef_spL (d := 1) (As := [.long p0, .int (s.1 th 1)]) (st := []) eV_5_mix eK_8_25 (eS_5_mix g s p0 (s.1 th 1)) rfl (Nat.le_of_ble_eq_true rfl) rfl (Nat.le_of_ble_eq_true rfl) ⟨Nat.le_of_ble_eq_true rfl, Nat.le_of_ble_eq_true rfl⟩ ⟨Nat.le_refl _, Nat.le_refl _⟩ (by decide +kernel) (fun q1 _ => ?_)
  refine es_blk (pc' := 12) (L' := [some (.ref th), some (.long p0), none, some (.long q1), none, some (.int 0)]) (st' := []) [(.lstore_n 3, 0), (.iconst 0, 0), (.istore 5, 0)] (by decide +kernel) rfl rfl ?_
  refine ef_drop (L2 := [some (.ref th), none, none, some (.long q1), none, some (.int 0)]) [true, false, true, true, true, true] rfl rfl ?_
  refine ef_loop1 (n := eh_FU) (i := (q1, 0)) (px := 49) (fun (t2 : Int64 × Int32) => [some (.ref th), none, none, some (.long t2.1), none, some (.int t2.2)]) (fun (t2 : Int64 × Int32) => []) (fun (t2 : Int64 × Int32) => eh_FW s) (fun (e3 : Int64) => [none, none, none, some (.long e3), none, none]) (fun (e3 : Int64) => []) (fun (e3 : Int64) => eh_FW s) (fun e3 => ?_) (fun K4 HxK4_0 r5 Hr5 t2 => ?_)
  · refine es_blk (pc' := 50) (L' := [none, none, none, some (.long e3), none, none]) (st' := [.long e3]) [(.lload_n 3, 0)] (by decide +kernel) rfl rfl ?_
    exact es_ret rfl rfl rfl ⟨by decide +kernel, rfl⟩ (Nat.le_refl _) (Nat.le_refl _)
  · refine es_blk (pc' := 15) (L' := [some (.ref th), none, none, some (.long t2.1), none, some (.int t2.2)]) (st' := [.ref th, .int t2.2]) [(.iload 5, 0), (.aload_n 0, 0)] (by decide +kernel) rfl rfl ?_
    refine ef_getI (k := th) (j := 1) (eh_R0sh hth) eL_8_15 (by decide) (by decide +kernel) ?_
    refine es_ige (tgt := 49) (off := (31)) (by decide +kernel) (by decide) (fun h6 => ?_) (fun h6 => ?_)
    · refine es_blk (pc' := 24) (L' := [some (.ref th), none, none, some (.long t2.1), none, some (.int t2.2)]) (st' := [.ref th, .int t2.2]) [(.iload 5, 0), (.aload_n 0, 0)] (by decide +kernel) rfl rfl ?_
      refine ef_getP (k := th) (j := 0) (q := (th + 1)) (eh_R0sh hth) eL_8_9 rfl (eh_Rx hth _) (eh_R1sh hth) (by decide +kernel) ?_
      refine ef_alen (k := (th + 1)) (eh_R1sh hth) (by decide) (by decide +kernel) ?_
      refine es_ige (tgt := 49) (off := (21)) (by decide +kernel) (by decide) (fun h7 => ?_) (fun h7 => ?_)
      · refine es_blk (pc' := 33) (L' := [some (.ref th), none, none, some (.long t2.1), none, some (.int t2.2)]) (st' := [.ref th, .long t2.1]) [(.lload_n 3, 0), (.aload_n 0, 0)] (by decide +kernel) rfl rfl ?_
        refine ef_getP (k := th) (j := 0) (q := (th + 1)) (eh_R0sh hth) eL_8_9 rfl (eh_Rx hth _) (eh_R1sh hth) (by decide +kernel) ?_
        refine es_blk (pc' := 38) (L' := [some (.ref th), none, none, some (.long t2.1), none, some (.int t2.2)]) (st' := [.int t2.2, .ref (th + 1), .long t2.1]) [(.iload 5, 0)] (by decide +kernel) rfl rfl ?_
        refine ef_ald (k := (th + 1)) (eh_R1sh hth) (Or.inl ⟨rfl, rfl⟩) (by decide +kernel) (fun _ => ?_)
        refine ef_spL (d := 1) (As := [.long t2.1, .int (s.1 (th + 1) (eh_ix t2.2))]) (st := []) eV_5_mix eK_8_25 (eS_5_mix g s t2.1 (s.1 (th + 1) (eh_ix t2.2))) rfl (Nat.le_of_ble_eq_true rfl) rfl (Nat.le_of_ble_eq_true rfl) ⟨Nat.le_of_ble_eq_true rfl, Nat.le_of_ble_eq_true rfl⟩ ⟨Nat.le_refl _, Nat.le_refl _⟩ (by decide +kernel) (fun q8 _ => ?_)
        refine es_blk (pc' := 46) (L' := [some (.ref th), none, none, some (.long q8), none, some (.int (t2.2 + 1))]) (st' := []) [(.lstore_n 3, 0), (.iinc 5 1, 1)] (by decide +kernel) rfl rfl ?_
        refine ef_V (fun x9 => [some (.ref th), none, none, some (.long q8), none, some (.int x9)]) (fun _ => []) (fun _ => eh_FW s) (fun x9 => ?_)
        refine es_goto (tgt := 12) (off := (-34)) (by decide +kernel) (by decide) ?_
        exact Hr5 (q8, x9)
      refine ef_drop (L2 := [none, none, none, some (.long t2.1), none, none]) [false, true, true, true, true, false] rfl rfl ?_
      exact HxK4_0 t2.1
    refine ef_drop (L2 := [none, none, none, some (.long t2.1), none, none]) [false, true, true, true, true, false] rfl rfl ?_
    exact HxK4_0 t2.1
def eF_9_feedByte (s : eh_F) (th : Nat) (p0 : Int32) : Option (eh_F) := eh_V (((s.1 th 3) &&& 63) : Int32) (fun x1 => eh_V ((eh_shr x1 2) : Int32) (fun x2 => eh_J (fun (a4 : Int32) => if eh_in x2 64 then eh_V (eh_tI s (th + 2) (eh_ix x2) (a4 ||| (eh_shl (p0 &&& 255) (24 - (8 * (x1 &&& 3)))))) (fun s5 => eh_V (eh_tI s5 th 3 ((s5.1 th 3) + 1)) (fun s6 => eh_J (fun (s8 : eh_F) => some s8) (fun j7 => if ((s6.1 th 3) &&& 63) = 0 then (Option.bind (eF_9_compress s6 th) (fun q10 => j7 q10)) else (j7 s6)))) else none) (fun j3 => if (x1 &&& 3) = 0 then (j3 0) else (if eh_in x2 64 then j3 (s.1 (th + 2) (eh_ix x2)) else none))))
set_option maxHeartbeats 4000000 in
set_option maxRecDepth 100000 in
theorem eS_9_feedByte (g : eh_P) (s : eh_F) (th : Nat) (p0 : Int32) (hth : eh_okS th = true) : eh_Sim g eM_9_feedByte (eh_R 2 0 0) eh_eV 0 0 0 (eh_en 5 [.ref th, .int p0]) [] (eh_FW s) (eF_9_feedByte s th p0) := by
  unfold eF_9_feedByte
  refine ef_top (L := [some (.ref th), some (.int p0), none, none, none]) rfl ?_
  refine es_blk (pc' := 1) (L' := [some (.ref th), some (.int p0), none, none, none]) (st' := [.ref th]) [(.aload_n 0, 0)] (by decide +kernel) rfl rfl ?_
  refine ef_getI (k := th) (j := 3) (eh_S0sh hth) eL_9_28 (by decide) (by decide +kernel) ?_
  refine es_blk (pc' := 8) (L' := [some (.ref th), some (.int p0), some (.int ((s.1 th 3) &&& 63)), none, none]) (st' := []) [(.bipush 63, 63), (.iand, 0), (.istore_n 2, 0)] (by decide +kernel) rfl rfl ?_
  refine ef_V (fun x1 => [some (.ref th), some (.int p0), some (.int x1), none, none]) (fun _ => []) (fun _ => eh_FW s) (fun x1 => ?_)
  refine es_blk (pc' := 12) (L' := [some (.ref th), some (.int p0), some (.int x1), some (.int (eh_shr x1 2)), none]) (st' := []) [(.iload_n 2, 0), (.iconst 2, 2), (.ishr, 0), (.istore_n 3, 0)] (by decide +kernel) rfl rfl ?_
  refine ef_V (fun x2 => [some (.ref th), some (.int p0), some (.int x1), some (.int x2), none]) (fun _ => []) (fun _ => eh_FW s) (fun x2 => ?_)
  refine es_blk (pc' := 15) (L' := [some (.ref th), some (.int p0), some (.int x1), some (.int x2), none]) (st' := [.int (x1 &&& 3)]) [(.iload_n 2, 0), (.iconst 3, 3), (.iand, 0)] (by decide +kernel) rfl rfl ?_
  refine ef_J (X := fun j3 => ∀ (a4 : Int32), eh_Sim g eM_9_feedByte (eh_R 2 0 0) eh_eV 0 0 28 [some (.ref th), some (.int p0), some (.int x1), some (.int x2), none] [.int a4] (eh_FW s) ((j3 a4).bind some)) ?_ (fun j3 Hj3 => ?_)
  · intro a4
    refine es_blk (pc' := 31) (L' := [some (.ref th), some (.int p0), some (.int x1), some (.int x2), some (.int a4)]) (st' := [.ref th]) [(.istore 4, 0), (.aload_n 0, 0)] (by decide +kernel) rfl rfl ?_
    refine ef_getP (k := th) (j := 1) (q := (th + 2)) (eh_S0sh hth) eL_9_13 rfl (eh_Sx hth _).2.1 (eh_S2sh hth) (by decide +kernel) ?_
    refine es_blk (pc' := 53) (L' := [some (.ref th), some (.int p0), some (.int x1), some (.int x2), some (.int a4)]) (st' := [.int (a4 ||| (eh_shl (p0 &&& 255) (24 - (8 * (x1 &&& 3))))), .int x2, .ref (th + 2)]) [(.iload_n 3, 0), (.iload 4, 0), (.iload_n 1, 0), (.sipush 255, 255), (.iand, 0), (.bipush 24, 24), (.bipush 8, 8), (.iload_n 2, 0), (.iconst 3, 3), (.iand, 0), (.imul, 0), (.isub, 0), (.ishl, 0), (.ior, 0)] (by decide +kernel) rfl rfl ?_
    refine ef_ast (k := (th + 2)) (eh_S2sh hth) (by decide +kernel) (fun _ => ?_)
    refine ef_V (fun _ => [some (.ref th), some (.int p0), some (.int x1), some (.int x2), some (.int a4)]) (fun _ => []) (fun s5 => eh_FW s5) (fun s5 => ?_)
    refine es_blk (pc' := 56) (L' := [some (.ref th), some (.int p0), some (.int x1), some (.int x2), some (.int a4)]) (st' := [.ref th, .ref th]) [(.aload_n 0, 0), (.dup, 0)] (by decide +kernel) rfl rfl ?_
    refine ef_getI (k := th) (j := 3) (eh_S0sh hth) eL_9_28 (by decide) (by decide +kernel) ?_
    refine es_blk (pc' := 61) (L' := [some (.ref th), some (.int p0), some (.int x1), some (.int x2), some (.int a4)]) (st' := [.int ((s5.1 th 3) + 1), .ref th]) [(.iconst 1, 1), (.iadd, 0)] (by decide +kernel) rfl rfl ?_
    refine ef_putI (k := th) (j := 3) (eh_S0sh hth) eL_9_28 rfl rfl (by decide +kernel) ?_
    refine ef_V (fun _ => [some (.ref th), some (.int p0), some (.int x1), some (.int x2), some (.int a4)]) (fun _ => []) (fun s6 => eh_FW s6) (fun s6 => ?_)
    refine es_blk (pc' := 65) (L' := [some (.ref th), some (.int p0), some (.int x1), some (.int x2), some (.int a4)]) (st' := [.ref th]) [(.aload_n 0, 0)] (by decide +kernel) rfl rfl ?_
    refine ef_getI (k := th) (j := 3) (eh_S0sh hth) eL_9_28 (by decide) (by decide +kernel) ?_
    refine es_blk (pc' := 71) (L' := [some (.ref th), some (.int p0), some (.int x1), some (.int x2), some (.int a4)]) (st' := [.int ((s6.1 th 3) &&& 63)]) [(.bipush 63, 63), (.iand, 0)] (by decide +kernel) rfl rfl ?_
    refine ef_J (X := fun j7 => ∀ (s8 : eh_F), eh_Sim g eM_9_feedByte (eh_R 2 0 0) eh_eV 0 0 78 [none, none, none, none, none] [] (eh_FW s8) ((j7 s8).bind some)) ?_ (fun j7 Hj7 => ?_)
    · intro s8
      exact es_ret rfl rfl rfl ⟨by decide +kernel, rfl⟩ (Nat.le_refl _) (Nat.le_refl _)
    refine es_ne (tgt := 78) (off := (7)) (by decide +kernel) (by decide) (fun h9 => ?_) (fun h9 => ?_)
    · refine es_blk (pc' := 75) (L' := [some (.ref th), some (.int p0), some (.int x1), some (.int x2), some (.int a4)]) (st' := [.ref th]) [(.aload_n 0, 0)] (by decide +kernel) rfl rfl ?_
      refine ef_veV (d := 1) (k := th) (As := []) (st := []) eV_9_compress eK_9_32 (eS_9_compress g s6 th hth) (eh_S0sh hth) rfl (Nat.le_of_ble_eq_true rfl) rfl (Nat.le_of_ble_eq_true rfl) ⟨Nat.le_of_ble_eq_true rfl, Nat.le_of_ble_eq_true rfl⟩ ⟨Nat.le_refl _, Nat.le_refl _⟩ (by decide +kernel) (fun q10 _ => ?_)
      refine ef_drop (L2 := [none, none, none, none, none]) [false, false, false, false, false] rfl rfl ?_
      exact Hj7 _
    refine ef_drop (L2 := [none, none, none, none, none]) [false, false, false, false, false] rfl rfl ?_
    exact Hj7 _
  refine es_ne (tgt := 22) (off := (7)) (by decide +kernel) (by decide) (fun h11 => ?_) (fun h11 => ?_)
  · refine es_blk (pc' := 19) (L' := [some (.ref th), some (.int p0), some (.int x1), some (.int x2), none]) (st' := [.int 0]) [(.iconst 0, 0)] (by decide +kernel) rfl rfl ?_
    refine es_goto (tgt := 28) (off := (9)) (by decide +kernel) (by decide) ?_
    exact Hj3 _
  refine es_blk (pc' := 23) (L' := [some (.ref th), some (.int p0), some (.int x1), some (.int x2), none]) (st' := [.ref th]) [(.aload_n 0, 0)] (by decide +kernel) rfl rfl ?_
  refine ef_getP (k := th) (j := 1) (q := (th + 2)) (eh_S0sh hth) eL_9_13 rfl (eh_Sx hth _).2.1 (eh_S2sh hth) (by decide +kernel) ?_
  refine es_blk (pc' := 27) (L' := [some (.ref th), some (.int p0), some (.int x1), some (.int x2), none]) (st' := [.int x2, .ref (th + 2)]) [(.iload_n 3, 0)] (by decide +kernel) rfl rfl ?_
  refine ef_ald (k := (th + 2)) (eh_S2sh hth) (Or.inl ⟨rfl, rfl⟩) (by decide +kernel) (fun _ => ?_)
  exact Hj3 _
