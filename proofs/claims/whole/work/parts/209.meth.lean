def eF_12_run (s : eh_F) (p0 : Int32) (p1 : Int32) (p2 : Int32) (p3 : Int32) (p4 : Int32) : Option (Int32 × eh_F) := Option.bind (eF_12_isThread s p2) (fun q1 => if q1 = 0 then (some ((-1), s)) else (if eh_in p2 12 then eh_V ((s.1 149 (eh_ix p2)) : Int32) (fun x3 => eh_J (fun (a5 : Int32) => if eh_in x3 6 then eh_J (fun (u7 : Unit) => some ((-2), s)) (fun j6 => if (s.1 155 (eh_ix x3)) = 2 then (if a5 = 0 then (j6 ()) else (eh_V ((32 * (2 + p2)) : Int32) (fun x10 => eh_J (fun (s12 : eh_F) => Option.bind (eF_12_enter s12 p0 p2) (fun q13 => some (p2, q13))) (fun j11 => if p1 = 5 then (Option.bind (eh_loop (fun (r24 : (Int32 × eh_F) → Option (eh_F)) (t15 : Int32 × eh_F) => if t15.1 < 32 then (if eh_in (x10 + t15.1) 448 then eh_V (eh_tI t15.2 129 (eh_ix (x10 + t15.1)) 0) (fun s26 => eh_V ((t15.1 + 1) : Int32) (fun x27 => r24 (x27, s26))) else none) else (some t15.2)) eh_FU (0, s)) (fun (e16 : eh_F) => if eh_in x3 6 then if eh_in (e16.1 156 (eh_ix x3)) 12 then if eh_in p2 12 then if eh_in (x10 + 2) 448 then eh_V (eh_tI e16 129 (eh_ix (x10 + 2)) ((e16.1 165 (eh_ix (e16.1 156 (eh_ix x3)))) + (e16.1 151 (eh_ix p2)))) (fun s17 => if eh_in (x10 + 10) 448 then eh_V (eh_tI s17 129 (eh_ix (x10 + 10)) p3) (fun s18 => if eh_in (x10 + 11) 448 then eh_V (eh_tI s18 129 (eh_ix (x10 + 11)) p4) (fun s19 => if eh_in x3 6 then if eh_in (s19.1 156 (eh_ix x3)) 12 then if eh_in p2 12 then if eh_in (2 + p2) 14 then eh_V (eh_tI s19 130 (eh_ix (2 + p2)) ((s19.1 165 (eh_ix (s19.1 156 (eh_ix x3)))) + (s19.1 150 (eh_ix p2)))) (fun s20 => if eh_in p2 12 then eh_V (eh_tI s20 152 (eh_ix p2) 0) (fun s21 => if eh_in p2 12 then eh_V (eh_tI s21 153 (eh_ix p2) (eh_nz 0)) (fun s22 => j11 s22) else none) else none) else none else none else none else none) else none) else none) else none else none else none else none)) else (if eh_in p2 12 then if (s.1 148 (eh_ix p2)) = 4 then (if eh_in (x10 + 10) 448 then eh_V (eh_tI s 129 (eh_ix (x10 + 10)) p3) (fun s29 => j11 s29) else none) else (j11 s) else none))))) else (j6 ())) else none) (fun j4 => if p1 = 5 then (if eh_in p2 12 then if (s.1 148 (eh_ix p2)) = 1 then (j4 1) else (j4 0) else none) else (if eh_in p2 12 then eh_J (fun (u33 : Unit) => j4 1) (fun j32 => if (s.1 148 (eh_ix p2)) = 3 then (j32 ()) else (if eh_in p2 12 then if (s.1 148 (eh_ix p2)) = 4 then (j32 ()) else (j4 0) else none)) else none))) else none))
set_option maxHeartbeats 4000000 in
set_option maxRecDepth 100000 in
theorem eS_12_run (g : eh_P) (s : eh_F) (p0 : Int32) (p1 : Int32) (p2 : Int32) (p3 : Int32) (p4 : Int32) : eh_Sim g eM_12_run (eh_R 2 0 0) eh_eI 0 0 0 (eh_en 10 [.ref 127, .int p0, .int p1, .int p2, .int p3, .int p4]) [] (eh_FW s) (eF_12_run s p0 p1 p2 p3 p4) := by
  unfold eF_12_run
  refine ef_top (L := [some (.ref 127), some (.int p0), some (.int p1), some (.int p2), some (.int p3), some (.int p4), none, none, none, none]) rfl ?_
  refine es_blk (pc' := 2) (L' := [some (.ref 127), some (.int p0), some (.int p1), some (.int p2), some (.int p3), some (.int p4), none, none, none, none]) (st' := [.int p2, .ref 127]) [(.aload_n 0, 0), (.iload_n 3, 0)] (by decide +kernel) rfl rfl ?_
  refine ef_vpI (d := 1) (k := 127) (As := [.int p2]) (st := []) eV_12_isThread eK_12_576 (eS_12_isThread g s p2) rfl rfl (Nat.le_of_ble_eq_true rfl) rfl (Nat.le_of_ble_eq_true rfl) ⟨Nat.le_of_ble_eq_true rfl, Nat.le_of_ble_eq_true rfl⟩ ⟨Nat.le_refl _, Nat.le_refl _⟩ (by decide +kernel) (fun q1 _ => ?_)
  refine es_ne (tgt := 10) (off := (5)) (by decide +kernel) (by decide) (fun h2 => ?_) (fun h2 => ?_)
  · refine es_blk (pc' := 9) (L' := [some (.ref 127), some (.int p0), some (.int p1), some (.int p2), some (.int p3), some (.int p4), none, none, none, none]) (st' := [.int (-1)]) [(.iconst (-1), (-1))] (by decide +kernel) rfl rfl ?_
    exact es_ret rfl rfl rfl ⟨by decide +kernel, _, rfl, rfl⟩ (Nat.le_refl _) (Nat.le_refl _)
  refine es_blk (pc' := 11) (L' := [some (.ref 127), some (.int p0), some (.int p1), some (.int p2), some (.int p3), some (.int p4), none, none, none, none]) (st' := [.ref 127]) [(.aload_n 0, 0)] (by decide +kernel) rfl rfl ?_
  refine ef_getP (k := 127) (j := 24) (q := 149) rfl eL_12_76 rfl rfl rfl (by decide +kernel) ?_
  refine es_blk (pc' := 15) (L' := [some (.ref 127), some (.int p0), some (.int p1), some (.int p2), some (.int p3), some (.int p4), none, none, none, none]) (st' := [.int p2, .ref 149]) [(.iload_n 3, 0)] (by decide +kernel) rfl rfl ?_
  refine ef_ald (k := 149) rfl (Or.inl ⟨rfl, rfl⟩) (by decide +kernel) (fun _ => ?_)
  refine es_blk (pc' := 18) (L' := [some (.ref 127), some (.int p0), some (.int p1), some (.int p2), some (.int p3), some (.int p4), some (.int (s.1 149 (eh_ix p2))), none, none, none]) (st' := []) [(.istore 6, 0)] (by decide +kernel) rfl rfl ?_
  refine ef_V (fun x3 => [some (.ref 127), some (.int p0), some (.int p1), some (.int p2), some (.int p3), some (.int p4), some (.int x3), none, none, none]) (fun _ => []) (fun _ => eh_FW s) (fun x3 => ?_)
  refine es_blk (pc' := 20) (L' := [some (.ref 127), some (.int p0), some (.int p1), some (.int p2), some (.int p3), some (.int p4), some (.int x3), none, none, none]) (st' := [.int 5, .int p1]) [(.iload_n 2, 0), (.iconst 5, 5)] (by decide +kernel) rfl rfl ?_
  refine ef_J (X := fun j4 => ∀ (a5 : Int32), eh_Sim g eM_12_run (eh_R 2 0 0) eh_eI 0 0 66 [some (.ref 127), some (.int p0), some (.int p1), some (.int p2), some (.int p3), some (.int p4), some (.int x3), none, none, none] [.int a5] (eh_FW s) ((j4 a5).bind some)) ?_ (fun j4 Hj4 => ?_)
  · intro a5
    refine es_blk (pc' := 69) (L' := [some (.ref 127), some (.int p0), some (.int p1), some (.int p2), some (.int p3), some (.int p4), some (.int x3), some (.int a5), none, none]) (st' := [.ref 127]) [(.istore 7, 0), (.aload_n 0, 0)] (by decide +kernel) rfl rfl ?_
    refine ef_getP (k := 127) (j := 30) (q := 155) rfl eL_12_94 rfl rfl rfl (by decide +kernel) ?_
    refine es_blk (pc' := 74) (L' := [some (.ref 127), some (.int p0), some (.int p1), some (.int p2), some (.int p3), some (.int p4), some (.int x3), some (.int a5), none, none]) (st' := [.int x3, .ref 155]) [(.iload 6, 0)] (by decide +kernel) rfl rfl ?_
    refine ef_ald (k := 155) rfl (Or.inl ⟨rfl, rfl⟩) (by decide +kernel) (fun _ => ?_)
    refine es_blk (pc' := 76) (L' := [some (.ref 127), some (.int p0), some (.int p1), some (.int p2), some (.int p3), some (.int p4), some (.int x3), some (.int a5), none, none]) (st' := [.int 2, .int (s.1 155 (eh_ix x3))]) [(.iconst 2, 2)] (by decide +kernel) rfl rfl ?_
    refine ef_J (X := fun j6 => ∀ (u7 : Unit), eh_Sim g eM_12_run (eh_R 2 0 0) eh_eI 0 0 84 [none, none, none, none, none, none, none, none, none, none] [] (eh_FW s) ((j6 u7).bind some)) ?_ (fun j6 Hj6 => ?_)
    · intro u7
      refine es_blk (pc' := 86) (L' := [none, none, none, none, none, none, none, none, none, none]) (st' := [.int (-2)]) [(.bipush (-2), (-2))] (by decide +kernel) rfl rfl ?_
      exact es_ret rfl rfl rfl ⟨by decide +kernel, _, rfl, rfl⟩ (Nat.le_refl _) (Nat.le_refl _)
    refine es_ine (tgt := 84) (off := (8)) (by decide +kernel) (by decide) (fun h8 => ?_) (fun h8 => ?_)
    · refine es_blk (pc' := 81) (L' := [some (.ref 127), some (.int p0), some (.int p1), some (.int p2), some (.int p3), some (.int p4), some (.int x3), some (.int a5), none, none]) (st' := [.int a5]) [(.iload 7, 0)] (by decide +kernel) rfl rfl ?_
      refine es_ne (tgt := 87) (off := (6)) (by decide +kernel) (by decide) (fun h9 => ?_) (fun h9 => ?_)
      · refine ef_drop (L2 := [none, none, none, none, none, none, none, none, none, none]) [false, false, false, false, false, false, false, false, true, true] rfl rfl ?_
        exact Hj6 ()
      refine es_blk (pc' := 95) (L' := [some (.ref 127), some (.int p0), some (.int p1), some (.int p2), some (.int p3), some (.int p4), some (.int x3), some (.int a5), some (.int (32 * (2 + p2))), none]) (st' := []) [(.bipush 32, 32), (.iconst 2, 2), (.iload_n 3, 0), (.iadd, 0), (.imul, 0), (.istore 8, 0)] (by decide +kernel) rfl rfl ?_
      refine ef_V (fun x10 => [some (.ref 127), some (.int p0), some (.int p1), some (.int p2), some (.int p3), some (.int p4), some (.int x3), some (.int a5), some (.int x10), none]) (fun _ => []) (fun _ => eh_FW s) (fun x10 => ?_)
      refine es_blk (pc' := 97) (L' := [some (.ref 127), some (.int p0), some (.int p1), some (.int p2), some (.int p3), some (.int p4), some (.int x3), some (.int a5), some (.int x10), none]) (st' := [.int 5, .int p1]) [(.iload_n 2, 0), (.iconst 5, 5)] (by decide +kernel) rfl rfl ?_
      refine ef_J (X := fun j11 => ∀ (s12 : eh_F), eh_Sim g eM_12_run (eh_R 2 0 0) eh_eI 0 0 245 [some (.ref 127), some (.int p0), none, some (.int p2), none, none, none, none, none, none] [] (eh_FW s12) ((j11 s12).bind some)) ?_ (fun j11 Hj11 => ?_)
      · intro s12
        refine es_blk (pc' := 248) (L' := [some (.ref 127), some (.int p0), none, some (.int p2), none, none, none, none, none, none]) (st' := [.int p2, .int p0, .ref 127]) [(.aload_n 0, 0), (.iload_n 1, 0), (.iload_n 3, 0)] (by decide +kernel) rfl rfl ?_
        refine ef_veV (d := 1) (k := 127) (As := [.int p0, .int p2]) (st := []) eV_12_enter eK_12_579 (eS_12_enter g s12 p0 p2) rfl rfl (Nat.le_of_ble_eq_true rfl) rfl (Nat.le_of_ble_eq_true rfl) ⟨Nat.le_of_ble_eq_true rfl, Nat.le_of_ble_eq_true rfl⟩ ⟨Nat.le_refl _, Nat.le_refl _⟩ (by decide +kernel) (fun q13 _ => ?_)
        refine es_blk (pc' := 252) (L' := [some (.ref 127), some (.int p0), none, some (.int p2), none, none, none, none, none, none]) (st' := [.int p2]) [(.iload_n 3, 0)] (by decide +kernel) rfl rfl ?_
        exact es_ret rfl rfl rfl ⟨by decide +kernel, _, rfl, rfl⟩ (Nat.le_refl _) (Nat.le_refl _)
      refine es_ine (tgt := 223) (off := (126)) (by decide +kernel) (by decide) (fun h14 => ?_) (fun h14 => ?_)
      · refine es_blk (pc' := 103) (L' := [some (.ref 127), some (.int p0), some (.int p1), some (.int p2), some (.int p3), some (.int p4), some (.int x3), some (.int a5), some (.int x10), some (.int 0)]) (st' := []) [(.iconst 0, 0), (.istore 9, 0)] (by decide +kernel) rfl rfl ?_
        refine ef_drop (L2 := [some (.ref 127), some (.int p0), none, some (.int p2), some (.int p3), some (.int p4), some (.int x3), none, some (.int x10), some (.int 0)]) [true, true, false, true, true, true, true, false, true, true] rfl rfl ?_
        refine ef_loop1 (n := eh_FU) (i := (0, s)) (px := 127) (fun (t15 : Int32 × eh_F) => [some (.ref 127), some (.int p0), none, some (.int p2), some (.int p3), some (.int p4), some (.int x3), none, some (.int x10), some (.int t15.1)]) (fun (t15 : Int32 × eh_F) => []) (fun (t15 : Int32 × eh_F) => eh_FW t15.2) (fun (e16 : eh_F) => [some (.ref 127), some (.int p0), none, some (.int p2), some (.int p3), some (.int p4), some (.int x3), none, some (.int x10), none]) (fun (e16 : eh_F) => []) (fun (e16 : eh_F) => eh_FW e16) (fun e16 => ?_) (fun K23 HxK23_0 r24 Hr24 t15 => ?_)
        · refine es_blk (pc' := 128) (L' := [some (.ref 127), some (.int p0), none, some (.int p2), some (.int p3), some (.int p4), some (.int x3), none, some (.int x10), none]) (st' := [.ref 127]) [(.aload_n 0, 0)] (by decide +kernel) rfl rfl ?_
          refine ef_getP (k := 127) (j := 1) (q := 129) rfl eL_12_14 rfl rfl rfl (by decide +kernel) ?_
          refine es_blk (pc' := 136) (L' := [some (.ref 127), some (.int p0), none, some (.int p2), some (.int p3), some (.int p4), some (.int x3), none, some (.int x10), none]) (st' := [.ref 127, .int (x10 + 2), .ref 129]) [(.iload 8, 0), (.iconst 2, 2), (.iadd, 0), (.aload_n 0, 0)] (by decide +kernel) rfl rfl ?_
          refine ef_getP (k := 127) (j := 40) (q := 165) rfl eL_12_124 rfl rfl rfl (by decide +kernel) ?_
          refine es_blk (pc' := 140) (L' := [some (.ref 127), some (.int p0), none, some (.int p2), some (.int p3), some (.int p4), some (.int x3), none, some (.int x10), none]) (st' := [.ref 127, .ref 165, .int (x10 + 2), .ref 129]) [(.aload_n 0, 0)] (by decide +kernel) rfl rfl ?_
          refine ef_getP (k := 127) (j := 31) (q := 156) rfl eL_12_97 rfl rfl rfl (by decide +kernel) ?_
          refine es_blk (pc' := 145) (L' := [some (.ref 127), some (.int p0), none, some (.int p2), some (.int p3), some (.int p4), some (.int x3), none, some (.int x10), none]) (st' := [.int x3, .ref 156, .ref 165, .int (x10 + 2), .ref 129]) [(.iload 6, 0)] (by decide +kernel) rfl rfl ?_
          refine ef_ald (k := 156) rfl (Or.inl ⟨rfl, rfl⟩) (by decide +kernel) (fun _ => ?_)
          refine ef_ald (k := 165) rfl (Or.inl ⟨rfl, rfl⟩) (by decide +kernel) (fun _ => ?_)
          refine es_blk (pc' := 148) (L' := [some (.ref 127), some (.int p0), none, some (.int p2), some (.int p3), some (.int p4), some (.int x3), none, some (.int x10), none]) (st' := [.ref 127, .int (e16.1 165 (eh_ix (e16.1 156 (eh_ix x3)))), .int (x10 + 2), .ref 129]) [(.aload_n 0, 0)] (by decide +kernel) rfl rfl ?_
          refine ef_getP (k := 127) (j := 26) (q := 151) rfl eL_12_82 rfl rfl rfl (by decide +kernel) ?_
          refine es_blk (pc' := 152) (L' := [some (.ref 127), some (.int p0), none, some (.int p2), some (.int p3), some (.int p4), some (.int x3), none, some (.int x10), none]) (st' := [.int p2, .ref 151, .int (e16.1 165 (eh_ix (e16.1 156 (eh_ix x3)))), .int (x10 + 2), .ref 129]) [(.iload_n 3, 0)] (by decide +kernel) rfl rfl ?_
          refine ef_ald (k := 151) rfl (Or.inl ⟨rfl, rfl⟩) (by decide +kernel) (fun _ => ?_)
          refine es_blk (pc' := 154) (L' := [some (.ref 127), some (.int p0), none, some (.int p2), some (.int p3), some (.int p4), some (.int x3), none, some (.int x10), none]) (st' := [.int ((e16.1 165 (eh_ix (e16.1 156 (eh_ix x3)))) + (e16.1 151 (eh_ix p2))), .int (x10 + 2), .ref 129]) [(.iadd, 0)] (by decide +kernel) rfl rfl ?_
          refine ef_ast (k := 129) rfl (by decide +kernel) (fun _ => ?_)
          refine ef_V (fun _ => [some (.ref 127), some (.int p0), none, some (.int p2), some (.int p3), some (.int p4), some (.int x3), none, some (.int x10), none]) (fun _ => []) (fun s17 => eh_FW s17) (fun s17 => ?_)
          refine es_blk (pc' := 156) (L' := [some (.ref 127), some (.int p0), none, some (.int p2), some (.int p3), some (.int p4), some (.int x3), none, some (.int x10), none]) (st' := [.ref 127]) [(.aload_n 0, 0)] (by decide +kernel) rfl rfl ?_
          refine ef_getP (k := 127) (j := 1) (q := 129) rfl eL_12_14 rfl rfl rfl (by decide +kernel) ?_
          refine es_blk (pc' := 166) (L' := [some (.ref 127), some (.int p0), none, some (.int p2), some (.int p3), some (.int p4), some (.int x3), none, some (.int x10), none]) (st' := [.int p3, .int (x10 + 10), .ref 129]) [(.iload 8, 0), (.bipush 10, 10), (.iadd, 0), (.iload 4, 0)] (by decide +kernel) rfl rfl ?_
          refine ef_ast (k := 129) rfl (by decide +kernel) (fun _ => ?_)
          refine ef_V (fun _ => [some (.ref 127), some (.int p0), none, some (.int p2), some (.int p3), some (.int p4), some (.int x3), none, some (.int x10), none]) (fun _ => []) (fun s18 => eh_FW s18) (fun s18 => ?_)
          refine es_blk (pc' := 168) (L' := [some (.ref 127), some (.int p0), none, some (.int p2), some (.int p3), some (.int p4), some (.int x3), none, some (.int x10), none]) (st' := [.ref 127]) [(.aload_n 0, 0)] (by decide +kernel) rfl rfl ?_
          refine ef_getP (k := 127) (j := 1) (q := 129) rfl eL_12_14 rfl rfl rfl (by decide +kernel) ?_
          refine es_blk (pc' := 178) (L' := [some (.ref 127), some (.int p0), none, some (.int p2), some (.int p3), some (.int p4), some (.int x3), none, some (.int x10), none]) (st' := [.int p4, .int (x10 + 11), .ref 129]) [(.iload 8, 0), (.bipush 11, 11), (.iadd, 0), (.iload 5, 0)] (by decide +kernel) rfl rfl ?_
          refine ef_ast (k := 129) rfl (by decide +kernel) (fun _ => ?_)
          refine ef_V (fun _ => [some (.ref 127), some (.int p0), none, some (.int p2), some (.int p3), some (.int p4), some (.int x3), none, some (.int x10), none]) (fun _ => []) (fun s19 => eh_FW s19) (fun s19 => ?_)
          refine es_blk (pc' := 180) (L' := [some (.ref 127), some (.int p0), none, some (.int p2), some (.int p3), some (.int p4), some (.int x3), none, some (.int x10), none]) (st' := [.ref 127]) [(.aload_n 0, 0)] (by decide +kernel) rfl rfl ?_
          refine ef_getP (k := 127) (j := 2) (q := 130) rfl eL_12_18 rfl rfl rfl (by decide +kernel) ?_
          refine es_blk (pc' := 187) (L' := [some (.ref 127), some (.int p0), none, some (.int p2), some (.int p3), some (.int p4), some (.int x3), none, some (.int x10), none]) (st' := [.ref 127, .int (2 + p2), .ref 130]) [(.iconst 2, 2), (.iload_n 3, 0), (.iadd, 0), (.aload_n 0, 0)] (by decide +kernel) rfl rfl ?_
          refine ef_getP (k := 127) (j := 40) (q := 165) rfl eL_12_124 rfl rfl rfl (by decide +kernel) ?_
          refine es_blk (pc' := 191) (L' := [some (.ref 127), some (.int p0), none, some (.int p2), some (.int p3), some (.int p4), some (.int x3), none, some (.int x10), none]) (st' := [.ref 127, .ref 165, .int (2 + p2), .ref 130]) [(.aload_n 0, 0)] (by decide +kernel) rfl rfl ?_
          refine ef_getP (k := 127) (j := 31) (q := 156) rfl eL_12_97 rfl rfl rfl (by decide +kernel) ?_
          refine es_blk (pc' := 196) (L' := [some (.ref 127), some (.int p0), none, some (.int p2), some (.int p3), some (.int p4), some (.int x3), none, some (.int x10), none]) (st' := [.int x3, .ref 156, .ref 165, .int (2 + p2), .ref 130]) [(.iload 6, 0)] (by decide +kernel) rfl rfl ?_
          refine ef_ald (k := 156) rfl (Or.inl ⟨rfl, rfl⟩) (by decide +kernel) (fun _ => ?_)
          refine ef_ald (k := 165) rfl (Or.inl ⟨rfl, rfl⟩) (by decide +kernel) (fun _ => ?_)
          refine es_blk (pc' := 199) (L' := [some (.ref 127), some (.int p0), none, some (.int p2), some (.int p3), some (.int p4), some (.int x3), none, some (.int x10), none]) (st' := [.ref 127, .int (s19.1 165 (eh_ix (s19.1 156 (eh_ix x3)))), .int (2 + p2), .ref 130]) [(.aload_n 0, 0)] (by decide +kernel) rfl rfl ?_
          refine ef_getP (k := 127) (j := 25) (q := 150) rfl eL_12_79 rfl rfl rfl (by decide +kernel) ?_
          refine es_blk (pc' := 203) (L' := [some (.ref 127), some (.int p0), none, some (.int p2), some (.int p3), some (.int p4), some (.int x3), none, some (.int x10), none]) (st' := [.int p2, .ref 150, .int (s19.1 165 (eh_ix (s19.1 156 (eh_ix x3)))), .int (2 + p2), .ref 130]) [(.iload_n 3, 0)] (by decide +kernel) rfl rfl ?_
          refine ef_ald (k := 150) rfl (Or.inl ⟨rfl, rfl⟩) (by decide +kernel) (fun _ => ?_)
          refine es_blk (pc' := 205) (L' := [some (.ref 127), some (.int p0), none, some (.int p2), some (.int p3), some (.int p4), some (.int x3), none, some (.int x10), none]) (st' := [.int ((s19.1 165 (eh_ix (s19.1 156 (eh_ix x3)))) + (s19.1 150 (eh_ix p2))), .int (2 + p2), .ref 130]) [(.iadd, 0)] (by decide +kernel) rfl rfl ?_
          refine ef_ast (k := 130) rfl (by decide +kernel) (fun _ => ?_)
          refine ef_V (fun _ => [some (.ref 127), some (.int p0), none, some (.int p2), some (.int p3), some (.int p4), some (.int x3), none, some (.int x10), none]) (fun _ => []) (fun s20 => eh_FW s20) (fun s20 => ?_)
          refine es_blk (pc' := 207) (L' := [some (.ref 127), some (.int p0), none, some (.int p2), some (.int p3), some (.int p4), some (.int x3), none, some (.int x10), none]) (st' := [.ref 127]) [(.aload_n 0, 0)] (by decide +kernel) rfl rfl ?_
          refine ef_getP (k := 127) (j := 27) (q := 152) rfl eL_12_85 rfl rfl rfl (by decide +kernel) ?_
          refine es_blk (pc' := 212) (L' := [some (.ref 127), some (.int p0), none, some (.int p2), some (.int p3), some (.int p4), some (.int x3), none, some (.int x10), none]) (st' := [.int 0, .int p2, .ref 152]) [(.iload_n 3, 0), (.iconst 0, 0)] (by decide +kernel) rfl rfl ?_
          refine ef_ast (k := 152) rfl (by decide +kernel) (fun _ => ?_)
          refine ef_V (fun _ => [some (.ref 127), some (.int p0), none, some (.int p2), some (.int p3), some (.int p4), some (.int x3), none, some (.int x10), none]) (fun _ => []) (fun s21 => eh_FW s21) (fun s21 => ?_)
          refine es_blk (pc' := 214) (L' := [some (.ref 127), some (.int p0), none, some (.int p2), some (.int p3), some (.int p4), some (.int x3), none, some (.int x10), none]) (st' := [.ref 127]) [(.aload_n 0, 0)] (by decide +kernel) rfl rfl ?_
          refine ef_getP (k := 127) (j := 28) (q := 153) rfl eL_12_88 rfl rfl rfl (by decide +kernel) ?_
          refine es_blk (pc' := 219) (L' := [some (.ref 127), some (.int p0), none, some (.int p2), some (.int p3), some (.int p4), some (.int x3), none, some (.int x10), none]) (st' := [.int 0, .int p2, .ref 153]) [(.iload_n 3, 0), (.iconst 0, 0)] (by decide +kernel) rfl rfl ?_
          refine ef_astZ (k := 153) rfl (by decide +kernel) (fun _ => ?_)
          refine ef_V (fun _ => [some (.ref 127), some (.int p0), none, some (.int p2), some (.int p3), some (.int p4), some (.int x3), none, some (.int x10), none]) (fun _ => []) (fun s22 => eh_FW s22) (fun s22 => ?_)
          refine es_goto (tgt := 245) (off := (25)) (by decide +kernel) (by decide) ?_
          refine ef_drop (L2 := [some (.ref 127), some (.int p0), none, some (.int p2), none, none, none, none, none, none]) [true, true, true, true, false, false, false, true, false, true] rfl rfl ?_
          exact Hj11 _
        · refine es_blk (pc' := 107) (L' := [some (.ref 127), some (.int p0), none, some (.int p2), some (.int p3), some (.int p4), some (.int x3), none, some (.int x10), some (.int t15.1)]) (st' := [.int 32, .int t15.1]) [(.iload 9, 0), (.bipush 32, 32)] (by decide +kernel) rfl rfl ?_
          refine es_ige (tgt := 127) (off := (20)) (by decide +kernel) (by decide) (fun h25 => ?_) (fun h25 => ?_)
          · refine es_blk (pc' := 111) (L' := [some (.ref 127), some (.int p0), none, some (.int p2), some (.int p3), some (.int p4), some (.int x3), none, some (.int x10), some (.int t15.1)]) (st' := [.ref 127]) [(.aload_n 0, 0)] (by decide +kernel) rfl rfl ?_
            refine ef_getP (k := 127) (j := 1) (q := 129) rfl eL_12_14 rfl rfl rfl (by decide +kernel) ?_
            refine es_blk (pc' := 120) (L' := [some (.ref 127), some (.int p0), none, some (.int p2), some (.int p3), some (.int p4), some (.int x3), none, some (.int x10), some (.int t15.1)]) (st' := [.int 0, .int (x10 + t15.1), .ref 129]) [(.iload 8, 0), (.iload 9, 0), (.iadd, 0), (.iconst 0, 0)] (by decide +kernel) rfl rfl ?_
            refine ef_ast (k := 129) rfl (by decide +kernel) (fun _ => ?_)
            refine ef_V (fun _ => [some (.ref 127), some (.int p0), none, some (.int p2), some (.int p3), some (.int p4), some (.int x3), none, some (.int x10), some (.int t15.1)]) (fun _ => []) (fun s26 => eh_FW s26) (fun s26 => ?_)
            refine es_blk (pc' := 124) (L' := [some (.ref 127), some (.int p0), none, some (.int p2), some (.int p3), some (.int p4), some (.int x3), none, some (.int x10), some (.int (t15.1 + 1))]) (st' := []) [(.iinc 9 1, 1)] (by decide +kernel) rfl rfl ?_
            refine ef_V (fun x27 => [some (.ref 127), some (.int p0), none, some (.int p2), some (.int p3), some (.int p4), some (.int x3), none, some (.int x10), some (.int x27)]) (fun _ => []) (fun _ => eh_FW s26) (fun x27 => ?_)
            refine es_goto (tgt := 103) (off := (-21)) (by decide +kernel) (by decide) ?_
            exact Hr24 (x27, s26)
          refine ef_drop (L2 := [some (.ref 127), some (.int p0), none, some (.int p2), some (.int p3), some (.int p4), some (.int x3), none, some (.int x10), none]) [true, true, true, true, true, true, true, true, true, false] rfl rfl ?_
          exact HxK23_0 t15.2
      refine es_blk (pc' := 224) (L' := [some (.ref 127), some (.int p0), some (.int p1), some (.int p2), some (.int p3), some (.int p4), some (.int x3), some (.int a5), some (.int x10), none]) (st' := [.ref 127]) [(.aload_n 0, 0)] (by decide +kernel) rfl rfl ?_
      refine ef_getP (k := 127) (j := 23) (q := 148) rfl eL_12_73 rfl rfl rfl (by decide +kernel) ?_
      refine es_blk (pc' := 228) (L' := [some (.ref 127), some (.int p0), some (.int p1), some (.int p2), some (.int p3), some (.int p4), some (.int x3), some (.int a5), some (.int x10), none]) (st' := [.int p2, .ref 148]) [(.iload_n 3, 0)] (by decide +kernel) rfl rfl ?_
      refine ef_ald (k := 148) rfl (Or.inl ⟨rfl, rfl⟩) (by decide +kernel) (fun _ => ?_)
      refine es_blk (pc' := 230) (L' := [some (.ref 127), some (.int p0), some (.int p1), some (.int p2), some (.int p3), some (.int p4), some (.int x3), some (.int a5), some (.int x10), none]) (st' := [.int 4, .int (s.1 148 (eh_ix p2))]) [(.iconst 4, 4)] (by decide +kernel) rfl rfl ?_
      refine es_ine (tgt := 245) (off := (15)) (by decide +kernel) (by decide) (fun h28 => ?_) (fun h28 => ?_)
      · refine es_blk (pc' := 234) (L' := [some (.ref 127), some (.int p0), some (.int p1), some (.int p2), some (.int p3), some (.int p4), some (.int x3), some (.int a5), some (.int x10), none]) (st' := [.ref 127]) [(.aload_n 0, 0)] (by decide +kernel) rfl rfl ?_
        refine ef_getP (k := 127) (j := 1) (q := 129) rfl eL_12_14 rfl rfl rfl (by decide +kernel) ?_
        refine es_blk (pc' := 244) (L' := [some (.ref 127), some (.int p0), some (.int p1), some (.int p2), some (.int p3), some (.int p4), some (.int x3), some (.int a5), some (.int x10), none]) (st' := [.int p3, .int (x10 + 10), .ref 129]) [(.iload 8, 0), (.bipush 10, 10), (.iadd, 0), (.iload 4, 0)] (by decide +kernel) rfl rfl ?_
        refine ef_ast (k := 129) rfl (by decide +kernel) (fun _ => ?_)
        refine ef_V (fun _ => [some (.ref 127), some (.int p0), some (.int p1), some (.int p2), some (.int p3), some (.int p4), some (.int x3), some (.int a5), some (.int x10), none]) (fun _ => []) (fun s29 => eh_FW s29) (fun s29 => ?_)
        refine ef_drop (L2 := [some (.ref 127), some (.int p0), none, some (.int p2), none, none, none, none, none, none]) [true, true, false, true, false, false, false, false, false, true] rfl rfl ?_
        exact Hj11 _
      refine ef_drop (L2 := [some (.ref 127), some (.int p0), none, some (.int p2), none, none, none, none, none, none]) [true, true, false, true, false, false, false, false, false, true] rfl rfl ?_
      exact Hj11 _
    refine ef_drop (L2 := [none, none, none, none, none, none, none, none, none, none]) [false, false, false, false, false, false, false, false, true, true] rfl rfl ?_
    exact Hj6 ()
  refine es_ine (tgt := 41) (off := (21)) (by decide +kernel) (by decide) (fun h30 => ?_) (fun h30 => ?_)
  · refine es_blk (pc' := 24) (L' := [some (.ref 127), some (.int p0), some (.int p1), some (.int p2), some (.int p3), some (.int p4), some (.int x3), none, none, none]) (st' := [.ref 127]) [(.aload_n 0, 0)] (by decide +kernel) rfl rfl ?_
    refine ef_getP (k := 127) (j := 23) (q := 148) rfl eL_12_73 rfl rfl rfl (by decide +kernel) ?_
    refine es_blk (pc' := 28) (L' := [some (.ref 127), some (.int p0), some (.int p1), some (.int p2), some (.int p3), some (.int p4), some (.int x3), none, none, none]) (st' := [.int p2, .ref 148]) [(.iload_n 3, 0)] (by decide +kernel) rfl rfl ?_
    refine ef_ald (k := 148) rfl (Or.inl ⟨rfl, rfl⟩) (by decide +kernel) (fun _ => ?_)
    refine es_blk (pc' := 30) (L' := [some (.ref 127), some (.int p0), some (.int p1), some (.int p2), some (.int p3), some (.int p4), some (.int x3), none, none, none]) (st' := [.int 1, .int (s.1 148 (eh_ix p2))]) [(.iconst 1, 1)] (by decide +kernel) rfl rfl ?_
    refine es_ine (tgt := 37) (off := (7)) (by decide +kernel) (by decide) (fun h31 => ?_) (fun h31 => ?_)
    · refine es_blk (pc' := 34) (L' := [some (.ref 127), some (.int p0), some (.int p1), some (.int p2), some (.int p3), some (.int p4), some (.int x3), none, none, none]) (st' := [.int 1]) [(.iconst 1, 1)] (by decide +kernel) rfl rfl ?_
      refine es_goto (tgt := 66) (off := (32)) (by decide +kernel) (by decide) ?_
      exact Hj4 _
    refine es_blk (pc' := 38) (L' := [some (.ref 127), some (.int p0), some (.int p1), some (.int p2), some (.int p3), some (.int p4), some (.int x3), none, none, none]) (st' := [.int 0]) [(.iconst 0, 0)] (by decide +kernel) rfl rfl ?_
    refine es_goto (tgt := 66) (off := (28)) (by decide +kernel) (by decide) ?_
    exact Hj4 _
  refine es_blk (pc' := 42) (L' := [some (.ref 127), some (.int p0), some (.int p1), some (.int p2), some (.int p3), some (.int p4), some (.int x3), none, none, none]) (st' := [.ref 127]) [(.aload_n 0, 0)] (by decide +kernel) rfl rfl ?_
  refine ef_getP (k := 127) (j := 23) (q := 148) rfl eL_12_73 rfl rfl rfl (by decide +kernel) ?_
  refine es_blk (pc' := 46) (L' := [some (.ref 127), some (.int p0), some (.int p1), some (.int p2), some (.int p3), some (.int p4), some (.int x3), none, none, none]) (st' := [.int p2, .ref 148]) [(.iload_n 3, 0)] (by decide +kernel) rfl rfl ?_
  refine ef_ald (k := 148) rfl (Or.inl ⟨rfl, rfl⟩) (by decide +kernel) (fun _ => ?_)
  refine es_blk (pc' := 48) (L' := [some (.ref 127), some (.int p0), some (.int p1), some (.int p2), some (.int p3), some (.int p4), some (.int x3), none, none, none]) (st' := [.int 3, .int (s.1 148 (eh_ix p2))]) [(.iconst 3, 3)] (by decide +kernel) rfl rfl ?_
  refine ef_J (X := fun j32 => ∀ (u33 : Unit), eh_Sim g eM_12_run (eh_R 2 0 0) eh_eI 0 0 61 [some (.ref 127), some (.int p0), some (.int p1), some (.int p2), some (.int p3), some (.int p4), some (.int x3), none, none, none] [] (eh_FW s) ((j32 u33).bind some)) ?_ (fun j32 Hj32 => ?_)
  · intro u33
    refine es_blk (pc' := 62) (L' := [some (.ref 127), some (.int p0), some (.int p1), some (.int p2), some (.int p3), some (.int p4), some (.int x3), none, none, none]) (st' := [.int 1]) [(.iconst 1, 1)] (by decide +kernel) rfl rfl ?_
    refine es_goto (tgt := 66) (off := (4)) (by decide +kernel) (by decide) ?_
    exact Hj4 _
  refine es_ieq (tgt := 61) (off := (13)) (by decide +kernel) (by decide) (fun h34 => ?_) (fun h34 => ?_)
  · exact Hj32 ()
  refine es_blk (pc' := 52) (L' := [some (.ref 127), some (.int p0), some (.int p1), some (.int p2), some (.int p3), some (.int p4), some (.int x3), none, none, none]) (st' := [.ref 127]) [(.aload_n 0, 0)] (by decide +kernel) rfl rfl ?_
  refine ef_getP (k := 127) (j := 23) (q := 148) rfl eL_12_73 rfl rfl rfl (by decide +kernel) ?_
  refine es_blk (pc' := 56) (L' := [some (.ref 127), some (.int p0), some (.int p1), some (.int p2), some (.int p3), some (.int p4), some (.int x3), none, none, none]) (st' := [.int p2, .ref 148]) [(.iload_n 3, 0)] (by decide +kernel) rfl rfl ?_
  refine ef_ald (k := 148) rfl (Or.inl ⟨rfl, rfl⟩) (by decide +kernel) (fun _ => ?_)
  refine es_blk (pc' := 58) (L' := [some (.ref 127), some (.int p0), some (.int p1), some (.int p2), some (.int p3), some (.int p4), some (.int x3), none, none, none]) (st' := [.int 4, .int (s.1 148 (eh_ix p2))]) [(.iconst 4, 4)] (by decide +kernel) rfl rfl ?_
  refine es_ine (tgt := 65) (off := (7)) (by decide +kernel) (by decide) (fun h35 => ?_) (fun h35 => ?_)
  · exact Hj32 ()
  refine es_blk (pc' := 66) (L' := [some (.ref 127), some (.int p0), some (.int p1), some (.int p2), some (.int p3), some (.int p4), some (.int x3), none, none, none]) (st' := [.int 0]) [(.iconst 0, 0)] (by decide +kernel) rfl rfl ?_
  exact Hj4 _
def eF_12_stop (s : eh_F) (p0 : Int32) : Option (Int32 × eh_F) := Option.bind (eF_12_isEnclave s p0) (fun q1 => if q1 = 0 then (some ((-1), s)) else (if eh_in p0 6 then if (s.1 155 (eh_ix p0)) = 2 then (Option.bind (eh_loop (fun (r9 : (Int32) → Option ((Unit) ⊕ (Unit))) (t4 : Int32) => if t4 < 12 then (if eh_in t4 12 then eh_J (fun (u12 : Unit) => eh_V ((t4 + 1) : Int32) (fun x13 => r9 x13)) (fun j11 => if (s.1 148 (eh_ix t4)) = 2 then (if eh_in t4 12 then if (s.1 149 (eh_ix t4)) = p0 then (some (.inr ())) else (j11 ()) else none) else (j11 ())) else none) else (some (.inl ()))) eh_FU 0) (Sum.elim (fun (e5 : Unit) => if eh_in p0 6 then eh_V (eh_tI s 155 (eh_ix p0) 3) (fun s6 => some (0, s6)) else none) (fun (e7 : Unit) => some ((-3), s)))) else (some ((-2), s)) else none))
set_option maxHeartbeats 4000000 in
set_option maxRecDepth 100000 in
theorem eS_12_stop (g : eh_P) (s : eh_F) (p0 : Int32) : eh_Sim g eM_12_stop (eh_R 2 0 0) eh_eI 0 0 0 (eh_en 3 [.ref 127, .int p0]) [] (eh_FW s) (eF_12_stop s p0) := by
  unfold eF_12_stop
  refine ef_top (L := [some (.ref 127), some (.int p0), none]) rfl ?_
  refine es_blk (pc' := 2) (L' := [some (.ref 127), some (.int p0), none]) (st' := [.int p0, .ref 127]) [(.aload_n 0, 0), (.iload_n 1, 0)] (by decide +kernel) rfl rfl ?_
  refine ef_vpI (d := 1) (k := 127) (As := [.int p0]) (st := []) eV_12_isEnclave eK_12_549 (eS_12_isEnclave g s p0) rfl rfl (Nat.le_of_ble_eq_true rfl) rfl (Nat.le_of_ble_eq_true rfl) ⟨Nat.le_of_ble_eq_true rfl, Nat.le_of_ble_eq_true rfl⟩ ⟨Nat.le_refl _, Nat.le_refl _⟩ (by decide +kernel) (fun q1 _ => ?_)
  refine es_ne (tgt := 10) (off := (5)) (by decide +kernel) (by decide) (fun h2 => ?_) (fun h2 => ?_)
  · refine es_blk (pc' := 9) (L' := [some (.ref 127), some (.int p0), none]) (st' := [.int (-1)]) [(.iconst (-1), (-1))] (by decide +kernel) rfl rfl ?_
    exact es_ret rfl rfl rfl ⟨by decide +kernel, _, rfl, rfl⟩ (Nat.le_refl _) (Nat.le_refl _)
  refine es_blk (pc' := 11) (L' := [some (.ref 127), some (.int p0), none]) (st' := [.ref 127]) [(.aload_n 0, 0)] (by decide +kernel) rfl rfl ?_
  refine ef_getP (k := 127) (j := 30) (q := 155) rfl eL_12_94 rfl rfl rfl (by decide +kernel) ?_
  refine es_blk (pc' := 15) (L' := [some (.ref 127), some (.int p0), none]) (st' := [.int p0, .ref 155]) [(.iload_n 1, 0)] (by decide +kernel) rfl rfl ?_
  refine ef_ald (k := 155) rfl (Or.inl ⟨rfl, rfl⟩) (by decide +kernel) (fun _ => ?_)
  refine es_blk (pc' := 17) (L' := [some (.ref 127), some (.int p0), none]) (st' := [.int 2, .int (s.1 155 (eh_ix p0))]) [(.iconst 2, 2)] (by decide +kernel) rfl rfl ?_
  refine es_ieq (tgt := 23) (off := (6)) (by decide +kernel) (by decide) (fun h3 => ?_) (fun h3 => ?_)
  · refine es_blk (pc' := 25) (L' := [some (.ref 127), some (.int p0), some (.int 0)]) (st' := []) [(.iconst 0, 0), (.istore_n 2, 0)] (by decide +kernel) rfl rfl ?_
    refine ef_loop2 (n := eh_FU) (i := 0) (px := 60) (px2 := 51) (fun (t4 : Int32) => [some (.ref 127), some (.int p0), some (.int t4)]) (fun (t4 : Int32) => []) (fun (t4 : Int32) => eh_FW s) (fun (e5 : Unit) => [some (.ref 127), some (.int p0), none]) (fun (e5 : Unit) => []) (fun (e5 : Unit) => eh_FW s) (fun (e7 : Unit) => [none, none, none]) (fun (e7 : Unit) => []) (fun (e7 : Unit) => eh_FW s) (fun e5 => ?_) (fun e7 => ?_) (fun K8 HxK8_0 HxK8_1 r9 Hr9 t4 => ?_)
    · refine es_blk (pc' := 61) (L' := [some (.ref 127), some (.int p0), none]) (st' := [.ref 127]) [(.aload_n 0, 0)] (by decide +kernel) rfl rfl ?_
      refine ef_getP (k := 127) (j := 30) (q := 155) rfl eL_12_94 rfl rfl rfl (by decide +kernel) ?_
      refine es_blk (pc' := 66) (L' := [some (.ref 127), some (.int p0), none]) (st' := [.int 3, .int p0, .ref 155]) [(.iload_n 1, 0), (.iconst 3, 3)] (by decide +kernel) rfl rfl ?_
      refine ef_ast (k := 155) rfl (by decide +kernel) (fun _ => ?_)
      refine ef_V (fun _ => [some (.ref 127), some (.int p0), none]) (fun _ => []) (fun s6 => eh_FW s6) (fun s6 => ?_)
      refine es_blk (pc' := 68) (L' := [some (.ref 127), some (.int p0), none]) (st' := [.int 0]) [(.iconst 0, 0)] (by decide +kernel) rfl rfl ?_
      exact es_ret rfl rfl rfl ⟨by decide +kernel, _, rfl, rfl⟩ (Nat.le_refl _) (Nat.le_refl _)
    · refine es_blk (pc' := 53) (L' := [none, none, none]) (st' := [.int (-3)]) [(.bipush (-3), (-3))] (by decide +kernel) rfl rfl ?_
      exact es_ret rfl rfl rfl ⟨by decide +kernel, _, rfl, rfl⟩ (Nat.le_refl _) (Nat.le_refl _)
    · refine es_blk (pc' := 28) (L' := [some (.ref 127), some (.int p0), some (.int t4)]) (st' := [.int 12, .int t4]) [(.iload_n 2, 0), (.bipush 12, 12)] (by decide +kernel) rfl rfl ?_
      refine es_ige (tgt := 60) (off := (32)) (by decide +kernel) (by decide) (fun h10 => ?_) (fun h10 => ?_)
      · refine es_blk (pc' := 32) (L' := [some (.ref 127), some (.int p0), some (.int t4)]) (st' := [.ref 127]) [(.aload_n 0, 0)] (by decide +kernel) rfl rfl ?_
        refine ef_getP (k := 127) (j := 23) (q := 148) rfl eL_12_73 rfl rfl rfl (by decide +kernel) ?_
        refine es_blk (pc' := 36) (L' := [some (.ref 127), some (.int p0), some (.int t4)]) (st' := [.int t4, .ref 148]) [(.iload_n 2, 0)] (by decide +kernel) rfl rfl ?_
        refine ef_ald (k := 148) rfl (Or.inl ⟨rfl, rfl⟩) (by decide +kernel) (fun _ => ?_)
        refine es_blk (pc' := 38) (L' := [some (.ref 127), some (.int p0), some (.int t4)]) (st' := [.int 2, .int (s.1 148 (eh_ix t4))]) [(.iconst 2, 2)] (by decide +kernel) rfl rfl ?_
        refine ef_J (X := fun j11 => ∀ (u12 : Unit), eh_Sim g eM_12_stop (eh_R 2 0 0) eh_eI 0 0 54 [some (.ref 127), some (.int p0), some (.int t4)] [] (eh_FW s) ((j11 u12).bind K8)) ?_ (fun j11 Hj11 => ?_)
        · intro u12
          refine es_blk (pc' := 57) (L' := [some (.ref 127), some (.int p0), some (.int (t4 + 1))]) (st' := []) [(.iinc 2 1, 1)] (by decide +kernel) rfl rfl ?_
          refine ef_V (fun x13 => [some (.ref 127), some (.int p0), some (.int x13)]) (fun _ => []) (fun _ => eh_FW s) (fun x13 => ?_)
          refine es_goto (tgt := 25) (off := (-32)) (by decide +kernel) (by decide) ?_
          exact Hr9 x13
        refine es_ine (tgt := 54) (off := (16)) (by decide +kernel) (by decide) (fun h14 => ?_) (fun h14 => ?_)
        · refine es_blk (pc' := 42) (L' := [some (.ref 127), some (.int p0), some (.int t4)]) (st' := [.ref 127]) [(.aload_n 0, 0)] (by decide +kernel) rfl rfl ?_
          refine ef_getP (k := 127) (j := 24) (q := 149) rfl eL_12_76 rfl rfl rfl (by decide +kernel) ?_
          refine es_blk (pc' := 46) (L' := [some (.ref 127), some (.int p0), some (.int t4)]) (st' := [.int t4, .ref 149]) [(.iload_n 2, 0)] (by decide +kernel) rfl rfl ?_
          refine ef_ald (k := 149) rfl (Or.inl ⟨rfl, rfl⟩) (by decide +kernel) (fun _ => ?_)
          refine es_blk (pc' := 48) (L' := [some (.ref 127), some (.int p0), some (.int t4)]) (st' := [.int p0, .int (s.1 149 (eh_ix t4))]) [(.iload_n 1, 0)] (by decide +kernel) rfl rfl ?_
          refine es_ine (tgt := 54) (off := (6)) (by decide +kernel) (by decide) (fun h15 => ?_) (fun h15 => ?_)
          · refine ef_drop (L2 := [none, none, none]) [false, false, false] rfl rfl ?_
            exact HxK8_1 ()
          exact Hj11 ()
        exact Hj11 ()
      refine ef_drop (L2 := [some (.ref 127), some (.int p0), none]) [true, true, false] rfl rfl ?_
      exact HxK8_0 ()
  refine es_blk (pc' := 22) (L' := [some (.ref 127), some (.int p0), none]) (st' := [.int (-2)]) [(.bipush (-2), (-2))] (by decide +kernel) rfl rfl ?_
  exact es_ret rfl rfl rfl ⟨by decide +kernel, _, rfl, rfl⟩ (Nat.le_refl _) (Nat.le_refl _)
def eF_12_accept (s : eh_F) (p0 : Int32) (p1 : Int32) (p2 : Int32) : Option (Int32 × eh_F) := eh_J (fun (u2 : Unit) => some ((-1), s)) (fun j1 => if p2 < 0 then (j1 ()) else (if p2 < 12 then (if eh_in p2 12 then if 1 < (s.1 164 (eh_ix p2)) then (Option.bind (eF_12_isOf s p2 p1) (fun q6 => if q6 = 0 then (j1 ()) else (Option.bind (eF_12_isAccepted s p2 p1) (fun q8 => if q8 = 0 then (if eh_in p2 12 then if eh_in p2 12 then eh_J (fun (a11 : Int32) => if eh_in p2 12 then eh_V (eh_tI s 169 (eh_ix p2) ((s.1 169 (eh_ix p2)) ||| a11)) (fun s12 => Option.bind (eF_12_happens s12 5 p0 p2 0 0) (fun q13 => some (0, q13))) else none) (fun j10 => if (s.1 167 (eh_ix p2)) = p1 then (j10 1) else (j10 2)) else none else none) else (some ((-2), s)))))) else (j1 ()) else none) else (j1 ())))
set_option maxHeartbeats 4000000 in
set_option maxRecDepth 100000 in
theorem eS_12_accept (g : eh_P) (s : eh_F) (p0 : Int32) (p1 : Int32) (p2 : Int32) : eh_Sim g eM_12_accept (eh_R 2 0 0) eh_eI 0 0 0 (eh_en 4 [.ref 127, .int p0, .int p1, .int p2]) [] (eh_FW s) (eF_12_accept s p0 p1 p2) := by
  unfold eF_12_accept
  refine ef_top (L := [some (.ref 127), some (.int p0), some (.int p1), some (.int p2)]) rfl ?_
  refine es_blk (pc' := 1) (L' := [some (.ref 127), some (.int p0), some (.int p1), some (.int p2)]) (st' := [.int p2]) [(.iload_n 3, 0)] (by decide +kernel) rfl rfl ?_
  refine ef_J (X := fun j1 => ∀ (u2 : Unit), eh_Sim g eM_12_accept (eh_R 2 0 0) eh_eI 0 0 29 [none, none, none, none] [] (eh_FW s) ((j1 u2).bind some)) ?_ (fun j1 Hj1 => ?_)
  · intro u2
    refine es_blk (pc' := 30) (L' := [none, none, none, none]) (st' := [.int (-1)]) [(.iconst (-1), (-1))] (by decide +kernel) rfl rfl ?_
    exact es_ret rfl rfl rfl ⟨by decide +kernel, _, rfl, rfl⟩ (Nat.le_refl _) (Nat.le_refl _)
  refine es_lt (tgt := 29) (off := (28)) (by decide +kernel) (by decide) (fun h3 => ?_) (fun h3 => ?_)
  · refine ef_drop (L2 := [none, none, none, none]) [false, false, false, false] rfl rfl ?_
    exact Hj1 ()
  refine es_blk (pc' := 7) (L' := [some (.ref 127), some (.int p0), some (.int p1), some (.int p2)]) (st' := [.int 12, .int p2]) [(.iload_n 3, 0), (.bipush 12, 12)] (by decide +kernel) rfl rfl ?_
  refine es_ige (tgt := 29) (off := (22)) (by decide +kernel) (by decide) (fun h4 => ?_) (fun h4 => ?_)
  · refine es_blk (pc' := 11) (L' := [some (.ref 127), some (.int p0), some (.int p1), some (.int p2)]) (st' := [.ref 127]) [(.aload_n 0, 0)] (by decide +kernel) rfl rfl ?_
    refine ef_getP (k := 127) (j := 39) (q := 164) rfl eL_12_121 rfl rfl rfl (by decide +kernel) ?_
    refine es_blk (pc' := 15) (L' := [some (.ref 127), some (.int p0), some (.int p1), some (.int p2)]) (st' := [.int p2, .ref 164]) [(.iload_n 3, 0)] (by decide +kernel) rfl rfl ?_
    refine ef_ald (k := 164) rfl (Or.inl ⟨rfl, rfl⟩) (by decide +kernel) (fun _ => ?_)
    refine es_blk (pc' := 17) (L' := [some (.ref 127), some (.int p0), some (.int p1), some (.int p2)]) (st' := [.int 1, .int (s.1 164 (eh_ix p2))]) [(.iconst 1, 1)] (by decide +kernel) rfl rfl ?_
    refine es_ile (tgt := 29) (off := (12)) (by decide +kernel) (by decide) (fun h5 => ?_) (fun h5 => ?_)
    · refine es_blk (pc' := 23) (L' := [some (.ref 127), some (.int p0), some (.int p1), some (.int p2)]) (st' := [.int p1, .int p2, .ref 127]) [(.aload_n 0, 0), (.iload_n 3, 0), (.iload_n 2, 0)] (by decide +kernel) rfl rfl ?_
      refine ef_vpI (d := 1) (k := 127) (As := [.int p2, .int p1]) (st := []) eV_12_isOf eK_12_330 (eS_12_isOf g s p2 p1) rfl rfl (Nat.le_of_ble_eq_true rfl) rfl (Nat.le_of_ble_eq_true rfl) ⟨Nat.le_of_ble_eq_true rfl, Nat.le_of_ble_eq_true rfl⟩ ⟨Nat.le_refl _, Nat.le_refl _⟩ (by decide +kernel) (fun q6 _ => ?_)
      refine es_ne (tgt := 31) (off := (5)) (by decide +kernel) (by decide) (fun h7 => ?_) (fun h7 => ?_)
      · refine ef_drop (L2 := [none, none, none, none]) [false, false, false, false] rfl rfl ?_
        exact Hj1 ()
      refine es_blk (pc' := 34) (L' := [some (.ref 127), some (.int p0), some (.int p1), some (.int p2)]) (st' := [.int p1, .int p2, .ref 127]) [(.aload_n 0, 0), (.iload_n 3, 0), (.iload_n 2, 0)] (by decide +kernel) rfl rfl ?_
      refine ef_vpI (d := 1) (k := 127) (As := [.int p2, .int p1]) (st := []) eV_12_isAccepted eK_12_334 (eS_12_isAccepted g s p2 p1) rfl rfl (Nat.le_of_ble_eq_true rfl) rfl (Nat.le_of_ble_eq_true rfl) ⟨Nat.le_of_ble_eq_true rfl, Nat.le_of_ble_eq_true rfl⟩ ⟨Nat.le_refl _, Nat.le_refl _⟩ (by decide +kernel) (fun q8 _ => ?_)
      refine es_eq (tgt := 43) (off := (6)) (by decide +kernel) (by decide) (fun h9 => ?_) (fun h9 => ?_)
      · refine es_blk (pc' := 44) (L' := [some (.ref 127), some (.int p0), some (.int p1), some (.int p2)]) (st' := [.ref 127]) [(.aload_n 0, 0)] (by decide +kernel) rfl rfl ?_
        refine ef_getP (k := 127) (j := 44) (q := 169) rfl eL_12_136 rfl rfl rfl (by decide +kernel) ?_
        refine es_blk (pc' := 49) (L' := [some (.ref 127), some (.int p0), some (.int p1), some (.int p2)]) (st' := [.int p2, .ref 169, .int p2, .ref 169]) [(.iload_n 3, 0), (.dup2, 0)] (by decide +kernel) rfl rfl ?_
        refine ef_ald (k := 169) rfl (Or.inl ⟨rfl, rfl⟩) (by decide +kernel) (fun _ => ?_)
        refine es_blk (pc' := 51) (L' := [some (.ref 127), some (.int p0), some (.int p1), some (.int p2)]) (st' := [.ref 127, .int (s.1 169 (eh_ix p2)), .int p2, .ref 169]) [(.aload_n 0, 0)] (by decide +kernel) rfl rfl ?_
        refine ef_getP (k := 127) (j := 42) (q := 167) rfl eL_12_130 rfl rfl rfl (by decide +kernel) ?_
        refine es_blk (pc' := 55) (L' := [some (.ref 127), some (.int p0), some (.int p1), some (.int p2)]) (st' := [.int p2, .ref 167, .int (s.1 169 (eh_ix p2)), .int p2, .ref 169]) [(.iload_n 3, 0)] (by decide +kernel) rfl rfl ?_
        refine ef_ald (k := 167) rfl (Or.inl ⟨rfl, rfl⟩) (by decide +kernel) (fun _ => ?_)
        refine es_blk (pc' := 57) (L' := [some (.ref 127), some (.int p0), some (.int p1), some (.int p2)]) (st' := [.int p1, .int (s.1 167 (eh_ix p2)), .int (s.1 169 (eh_ix p2)), .int p2, .ref 169]) [(.iload_n 2, 0)] (by decide +kernel) rfl rfl ?_
        refine ef_J (X := fun j10 => ∀ (a11 : Int32), eh_Sim g eM_12_accept (eh_R 2 0 0) eh_eI 0 0 65 [some (.ref 127), some (.int p0), none, some (.int p2)] [.int a11, .int (s.1 169 (eh_ix p2)), .int p2, .ref 169] (eh_FW s) ((j10 a11).bind some)) ?_ (fun j10 Hj10 => ?_)
        · intro a11
          refine es_blk (pc' := 66) (L' := [some (.ref 127), some (.int p0), none, some (.int p2)]) (st' := [.int ((s.1 169 (eh_ix p2)) ||| a11), .int p2, .ref 169]) [(.ior, 0)] (by decide +kernel) rfl rfl ?_
          refine ef_ast (k := 169) rfl (by decide +kernel) (fun _ => ?_)
          refine ef_V (fun _ => [some (.ref 127), some (.int p0), none, some (.int p2)]) (fun _ => []) (fun s12 => eh_FW s12) (fun s12 => ?_)
          refine es_blk (pc' := 73) (L' := [some (.ref 127), some (.int p0), none, some (.int p2)]) (st' := [.int 0, .int 0, .int p2, .int p0, .int 5, .ref 127]) [(.aload_n 0, 0), (.iconst 5, 5), (.iload_n 1, 0), (.iload_n 3, 0), (.iconst 0, 0), (.iconst 0, 0)] (by decide +kernel) rfl rfl ?_
          refine ef_veV (d := 1) (k := 127) (As := [.int 5, .int p0, .int p2, .int 0, .int 0]) (st := []) eV_12_happens eK_12_394 (eS_12_happens g s12 5 p0 p2 0 0) rfl rfl (Nat.le_of_ble_eq_true rfl) rfl (Nat.le_of_ble_eq_true rfl) ⟨Nat.le_of_ble_eq_true rfl, Nat.le_of_ble_eq_true rfl⟩ ⟨Nat.le_refl _, Nat.le_refl _⟩ (by decide +kernel) (fun q13 _ => ?_)
          refine es_blk (pc' := 77) (L' := [some (.ref 127), some (.int p0), none, some (.int p2)]) (st' := [.int 0]) [(.iconst 0, 0)] (by decide +kernel) rfl rfl ?_
          exact es_ret rfl rfl rfl ⟨by decide +kernel, _, rfl, rfl⟩ (Nat.le_refl _) (Nat.le_refl _)
        refine es_ine (tgt := 64) (off := (7)) (by decide +kernel) (by decide) (fun h14 => ?_) (fun h14 => ?_)
        · refine es_blk (pc' := 61) (L' := [some (.ref 127), some (.int p0), some (.int p1), some (.int p2)]) (st' := [.int 1, .int (s.1 169 (eh_ix p2)), .int p2, .ref 169]) [(.iconst 1, 1)] (by decide +kernel) rfl rfl ?_
          refine es_goto (tgt := 65) (off := (4)) (by decide +kernel) (by decide) ?_
          refine ef_drop (L2 := [some (.ref 127), some (.int p0), none, some (.int p2)]) [true, true, false, true] rfl rfl ?_
          exact Hj10 _
        refine es_blk (pc' := 65) (L' := [some (.ref 127), some (.int p0), some (.int p1), some (.int p2)]) (st' := [.int 2, .int (s.1 169 (eh_ix p2)), .int p2, .ref 169]) [(.iconst 2, 2)] (by decide +kernel) rfl rfl ?_
        refine ef_drop (L2 := [some (.ref 127), some (.int p0), none, some (.int p2)]) [true, true, false, true] rfl rfl ?_
        exact Hj10 _
      refine es_blk (pc' := 42) (L' := [some (.ref 127), some (.int p0), some (.int p1), some (.int p2)]) (st' := [.int (-2)]) [(.bipush (-2), (-2))] (by decide +kernel) rfl rfl ?_
      exact es_ret rfl rfl rfl ⟨by decide +kernel, _, rfl, rfl⟩ (Nat.le_refl _) (Nat.le_refl _)
    refine ef_drop (L2 := [none, none, none, none]) [false, false, false, false] rfl rfl ?_
    exact Hj1 ()
  refine ef_drop (L2 := [none, none, none, none]) [false, false, false, false] rfl rfl ?_
  exact Hj1 ()
def eF_12_count (s : eh_F) (p0 : Int32) (p1 : Int32) : Option (Int32 × eh_F) := Option.bind (eh_loop (fun (r21 : (Int32 × Int32) → Option (Int32)) (t1 : Int32 × Int32) => if t1.2 < (s.1 127 70) then (Option.bind (eh_loop (fun (r30 : (Int32 × Int32) → Option (Int32)) (t23 : Int32 × Int32) => if t23.2 < 32 then (if t23.1 = 0 then (some t23.1) else (if eh_in ((32 * t1.2) + t23.2) 256 then if eh_in ((32 * p1) + t23.2) 192 then eh_J (fun (a34 : Int32) => eh_V ((t23.2 + 1) : Int32) (fun x35 => r30 (a34, x35))) (fun j33 => if (s.1 183 (eh_ix ((32 * t1.2) + t23.2))) = (s.1 159 (eh_ix ((32 * p1) + t23.2))) then (j33 1) else (j33 0)) else none else none)) else (some t23.1)) eh_FU (1, 0)) (fun (e24 : Int32) => eh_J (fun (a26 : Int32) => eh_V ((t1.2 + 1) : Int32) (fun x27 => r21 (a26, x27))) (fun j25 => if e24 = 0 then (j25 t1.1) else (j25 t1.2)))) else (some t1.1)) eh_FU ((-1), 0)) (fun (e2 : Int32) => eh_J (fun (a4 : Int32) (s5 : eh_F) => if eh_in a4 8 then if eh_in a4 8 then eh_V (eh_tI s5 184 (eh_ix a4) ((s5.1 184 (eh_ix a4)) + 1)) (fun s6 => if eh_in a4 8 then Option.bind (eF_12_happens s6 8 p0 (s6.1 184 (eh_ix a4)) 0 0) (fun q7 => if eh_in a4 8 then some ((q7.1 184 (eh_ix a4)), q7) else none) else none) else none else none) (fun j3 => if e2 = (-1) then (if (s.1 127 70) = 8 then (some ((-5), s)) else (eh_V ((s.1 127 70) : Int32) (fun x10 => eh_V (eh_tI s 127 70 ((s.1 127 70) + 1)) (fun s11 => if eh_in x10 8 then eh_V (eh_tI s11 184 (eh_ix x10) 0) (fun s12 => Option.bind (eh_loop (fun (r16 : (Int32 × eh_F) → Option (eh_F)) (t13 : Int32 × eh_F) => if t13.1 < 32 then (if eh_in ((32 * p1) + t13.1) 192 then if eh_in ((32 * x10) + t13.1) 256 then eh_V (eh_tI t13.2 183 (eh_ix ((32 * x10) + t13.1)) (eh_nb (t13.2.1 159 (eh_ix ((32 * p1) + t13.1))))) (fun s18 => eh_V ((t13.1 + 1) : Int32) (fun x19 => r16 (x19, s18))) else none else none) else (some t13.2)) eh_FU (0, s12)) (fun (e14 : eh_F) => j3 x10 e14)) else none)))) else (j3 e2 s)))
set_option maxHeartbeats 4000000 in
set_option maxRecDepth 100000 in
theorem eS_12_count (g : eh_P) (s : eh_F) (p0 : Int32) (p1 : Int32) : eh_Sim g eM_12_count (eh_R 2 0 0) eh_eI 0 0 0 (eh_en 7 [.ref 127, .int p0, .int p1]) [] (eh_FW s) (eF_12_count s p0 p1) := by
  unfold eF_12_count
  refine ef_top (L := [some (.ref 127), some (.int p0), some (.int p1), none, none, none, none]) rfl ?_
  refine es_blk (pc' := 5) (L' := [some (.ref 127), some (.int p0), some (.int p1), some (.int (-1)), some (.int 0), none, none]) (st' := []) [(.iconst (-1), (-1)), (.istore_n 3, 0), (.iconst 0, 0), (.istore 4, 0)] (by decide +kernel) rfl rfl ?_
  refine ef_loop1 (n := eh_FU) (i := ((-1), 0)) (px := 91) (fun (t1 : Int32 × Int32) => [some (.ref 127), some (.int p0), some (.int p1), some (.int t1.1), some (.int t1.2), none, none]) (fun (t1 : Int32 × Int32) => []) (fun (t1 : Int32 × Int32) => eh_FW s) (fun (e2 : Int32) => [some (.ref 127), some (.int p0), some (.int p1), some (.int e2), none, none, none]) (fun (e2 : Int32) => []) (fun (e2 : Int32) => eh_FW s) (fun e2 => ?_) (fun K20 HxK20_0 r21 Hr21 t1 => ?_)
  · refine es_blk (pc' := 93) (L' := [some (.ref 127), some (.int p0), some (.int p1), some (.int e2), none, none, none]) (st' := [.int (-1), .int e2]) [(.iload_n 3, 0), (.iconst (-1), (-1))] (by decide +kernel) rfl rfl ?_
    refine ef_J (X := fun j3 => ∀ (a4 : Int32) (s5 : eh_F), eh_Sim g eM_12_count (eh_R 2 0 0) eh_eI 0 0 170 [some (.ref 127), some (.int p0), none, some (.int a4), none, none, none] [] (eh_FW s5) ((j3 a4 s5).bind some)) ?_ (fun j3 Hj3 => ?_)
    · intro a4 s5
      refine es_blk (pc' := 171) (L' := [some (.ref 127), some (.int p0), none, some (.int a4), none, none, none]) (st' := [.ref 127]) [(.aload_n 0, 0)] (by decide +kernel) rfl rfl ?_
      refine ef_getP (k := 127) (j := 69) (q := 184) rfl eL_12_181 rfl rfl rfl (by decide +kernel) ?_
      refine es_blk (pc' := 176) (L' := [some (.ref 127), some (.int p0), none, some (.int a4), none, none, none]) (st' := [.int a4, .ref 184, .int a4, .ref 184]) [(.iload_n 3, 0), (.dup2, 0)] (by decide +kernel) rfl rfl ?_
      refine ef_ald (k := 184) rfl (Or.inl ⟨rfl, rfl⟩) (by decide +kernel) (fun _ => ?_)
      refine es_blk (pc' := 179) (L' := [some (.ref 127), some (.int p0), none, some (.int a4), none, none, none]) (st' := [.int ((s5.1 184 (eh_ix a4)) + 1), .int a4, .ref 184]) [(.iconst 1, 1), (.iadd, 0)] (by decide +kernel) rfl rfl ?_
      refine ef_ast (k := 184) rfl (by decide +kernel) (fun _ => ?_)
      refine ef_V (fun _ => [some (.ref 127), some (.int p0), none, some (.int a4), none, none, none]) (fun _ => []) (fun s6 => eh_FW s6) (fun s6 => ?_)
      refine es_blk (pc' := 185) (L' := [some (.ref 127), some (.int p0), none, some (.int a4), none, none, none]) (st' := [.ref 127, .int p0, .int 8, .ref 127]) [(.aload_n 0, 0), (.bipush 8, 8), (.iload_n 1, 0), (.aload_n 0, 0)] (by decide +kernel) rfl rfl ?_
      refine ef_getP (k := 127) (j := 69) (q := 184) rfl eL_12_181 rfl rfl rfl (by decide +kernel) ?_
      refine es_blk (pc' := 189) (L' := [some (.ref 127), some (.int p0), none, some (.int a4), none, none, none]) (st' := [.int a4, .ref 184, .int p0, .int 8, .ref 127]) [(.iload_n 3, 0)] (by decide +kernel) rfl rfl ?_
      refine ef_ald (k := 184) rfl (Or.inl ⟨rfl, rfl⟩) (by decide +kernel) (fun _ => ?_)
      refine es_blk (pc' := 192) (L' := [some (.ref 127), some (.int p0), none, some (.int a4), none, none, none]) (st' := [.int 0, .int 0, .int (s6.1 184 (eh_ix a4)), .int p0, .int 8, .ref 127]) [(.iconst 0, 0), (.iconst 0, 0)] (by decide +kernel) rfl rfl ?_
      refine ef_veV (d := 1) (k := 127) (As := [.int 8, .int p0, .int (s6.1 184 (eh_ix a4)), .int 0, .int 0]) (st := []) eV_12_happens eK_12_394 (eS_12_happens g s6 8 p0 (s6.1 184 (eh_ix a4)) 0 0) rfl rfl (Nat.le_of_ble_eq_true rfl) rfl (Nat.le_of_ble_eq_true rfl) ⟨Nat.le_of_ble_eq_true rfl, Nat.le_of_ble_eq_true rfl⟩ ⟨Nat.le_refl _, Nat.le_refl _⟩ (by decide +kernel) (fun q7 _ => ?_)
      refine es_blk (pc' := 196) (L' := [some (.ref 127), some (.int p0), none, some (.int a4), none, none, none]) (st' := [.ref 127]) [(.aload_n 0, 0)] (by decide +kernel) rfl rfl ?_
      refine ef_getP (k := 127) (j := 69) (q := 184) rfl eL_12_181 rfl rfl rfl (by decide +kernel) ?_
      refine es_blk (pc' := 200) (L' := [some (.ref 127), some (.int p0), none, some (.int a4), none, none, none]) (st' := [.int a4, .ref 184]) [(.iload_n 3, 0)] (by decide +kernel) rfl rfl ?_
      refine ef_ald (k := 184) rfl (Or.inl ⟨rfl, rfl⟩) (by decide +kernel) (fun _ => ?_)
      exact es_ret rfl rfl rfl ⟨by decide +kernel, _, rfl, rfl⟩ (Nat.le_refl _) (Nat.le_refl _)
    refine es_ine (tgt := 170) (off := (77)) (by decide +kernel) (by decide) (fun h8 => ?_) (fun h8 => ?_)
    · refine es_blk (pc' := 97) (L' := [some (.ref 127), some (.int p0), some (.int p1), some (.int e2), none, none, none]) (st' := [.ref 127]) [(.aload_n 0, 0)] (by decide +kernel) rfl rfl ?_
      refine ef_getI (k := 127) (j := 70) rfl eL_12_617 (by decide) (by decide +kernel) ?_
      refine es_blk (pc' := 102) (L' := [some (.ref 127), some (.int p0), some (.int p1), some (.int e2), none, none, none]) (st' := [.int 8, .int (s.1 127 70)]) [(.bipush 8, 8)] (by decide +kernel) rfl rfl ?_
      refine es_ine (tgt := 108) (off := (6)) (by decide +kernel) (by decide) (fun h9 => ?_) (fun h9 => ?_)
      · refine es_blk (pc' := 107) (L' := [some (.ref 127), some (.int p0), some (.int p1), some (.int e2), none, none, none]) (st' := [.int (-5)]) [(.bipush (-5), (-5))] (by decide +kernel) rfl rfl ?_
        exact es_ret rfl rfl rfl ⟨by decide +kernel, _, rfl, rfl⟩ (Nat.le_refl _) (Nat.le_refl _)
      refine es_blk (pc' := 109) (L' := [some (.ref 127), some (.int p0), some (.int p1), some (.int e2), none, none, none]) (st' := [.ref 127]) [(.aload_n 0, 0)] (by decide +kernel) rfl rfl ?_
      refine ef_getI (k := 127) (j := 70) rfl eL_12_617 (by decide) (by decide +kernel) ?_
      refine es_blk (pc' := 113) (L' := [some (.ref 127), some (.int p0), some (.int p1), some (.int (s.1 127 70)), none, none, none]) (st' := []) [(.istore_n 3, 0)] (by decide +kernel) rfl rfl ?_
      refine ef_V (fun x10 => [some (.ref 127), some (.int p0), some (.int p1), some (.int x10), none, none, none]) (fun _ => []) (fun _ => eh_FW s) (fun x10 => ?_)
      refine es_blk (pc' := 115) (L' := [some (.ref 127), some (.int p0), some (.int p1), some (.int x10), none, none, none]) (st' := [.ref 127, .ref 127]) [(.aload_n 0, 0), (.dup, 0)] (by decide +kernel) rfl rfl ?_
      refine ef_getI (k := 127) (j := 70) rfl eL_12_617 (by decide) (by decide +kernel) ?_
      refine es_blk (pc' := 120) (L' := [some (.ref 127), some (.int p0), some (.int p1), some (.int x10), none, none, none]) (st' := [.int ((s.1 127 70) + 1), .ref 127]) [(.iconst 1, 1), (.iadd, 0)] (by decide +kernel) rfl rfl ?_
      refine ef_putI (k := 127) (j := 70) rfl eL_12_617 rfl rfl (by decide +kernel) ?_
      refine ef_V (fun _ => [some (.ref 127), some (.int p0), some (.int p1), some (.int x10), none, none, none]) (fun _ => []) (fun s11 => eh_FW s11) (fun s11 => ?_)
      refine es_blk (pc' := 124) (L' := [some (.ref 127), some (.int p0), some (.int p1), some (.int x10), none, none, none]) (st' := [.ref 127]) [(.aload_n 0, 0)] (by decide +kernel) rfl rfl ?_
      refine ef_getP (k := 127) (j := 69) (q := 184) rfl eL_12_181 rfl rfl rfl (by decide +kernel) ?_
      refine es_blk (pc' := 129) (L' := [some (.ref 127), some (.int p0), some (.int p1), some (.int x10), none, none, none]) (st' := [.int 0, .int x10, .ref 184]) [(.iload_n 3, 0), (.iconst 0, 0)] (by decide +kernel) rfl rfl ?_
      refine ef_ast (k := 184) rfl (by decide +kernel) (fun _ => ?_)
      refine ef_V (fun _ => [some (.ref 127), some (.int p0), some (.int p1), some (.int x10), none, none, none]) (fun _ => []) (fun s12 => eh_FW s12) (fun s12 => ?_)
      refine es_blk (pc' := 133) (L' := [some (.ref 127), some (.int p0), some (.int p1), some (.int x10), some (.int 0), none, none]) (st' := []) [(.iconst 0, 0), (.istore 4, 0)] (by decide +kernel) rfl rfl ?_
      refine ef_loop1 (n := eh_FU) (i := (0, s12)) (px := 170) (fun (t13 : Int32 × eh_F) => [some (.ref 127), some (.int p0), some (.int p1), some (.int x10), some (.int t13.1), none, none]) (fun (t13 : Int32 × eh_F) => []) (fun (t13 : Int32 × eh_F) => eh_FW t13.2) (fun (e14 : eh_F) => [some (.ref 127), some (.int p0), none, some (.int x10), none, none, none]) (fun (e14 : eh_F) => []) (fun (e14 : eh_F) => eh_FW e14) (fun e14 => ?_) (fun K15 HxK15_0 r16 Hr16 t13 => ?_)
      · exact Hj3 _ _
      · refine es_blk (pc' := 137) (L' := [some (.ref 127), some (.int p0), some (.int p1), some (.int x10), some (.int t13.1), none, none]) (st' := [.int 32, .int t13.1]) [(.iload 4, 0), (.bipush 32, 32)] (by decide +kernel) rfl rfl ?_
        refine es_ige (tgt := 170) (off := (33)) (by decide +kernel) (by decide) (fun h17 => ?_) (fun h17 => ?_)
        · refine es_blk (pc' := 141) (L' := [some (.ref 127), some (.int p0), some (.int p1), some (.int x10), some (.int t13.1), none, none]) (st' := [.ref 127]) [(.aload_n 0, 0)] (by decide +kernel) rfl rfl ?_
          refine ef_getP (k := 127) (j := 68) (q := 183) rfl eL_12_178 rfl rfl rfl (by decide +kernel) ?_
          refine es_blk (pc' := 152) (L' := [some (.ref 127), some (.int p0), some (.int p1), some (.int x10), some (.int t13.1), none, none]) (st' := [.ref 127, .int ((32 * x10) + t13.1), .ref 183]) [(.bipush 32, 32), (.iload_n 3, 0), (.imul, 0), (.iload 4, 0), (.iadd, 0), (.aload_n 0, 0)] (by decide +kernel) rfl rfl ?_
          refine ef_getP (k := 127) (j := 34) (q := 159) rfl eL_12_106 rfl rfl rfl (by decide +kernel) ?_
          refine es_blk (pc' := 162) (L' := [some (.ref 127), some (.int p0), some (.int p1), some (.int x10), some (.int t13.1), none, none]) (st' := [.int ((32 * p1) + t13.1), .ref 159, .int ((32 * x10) + t13.1), .ref 183]) [(.bipush 32, 32), (.iload_n 2, 0), (.imul, 0), (.iload 4, 0), (.iadd, 0)] (by decide +kernel) rfl rfl ?_
          refine ef_ald (k := 159) rfl (Or.inr ⟨Or.inl rfl, rfl⟩) (by decide +kernel) (fun _ => ?_)
          refine ef_astB (k := 183) rfl (by decide +kernel) (fun _ => ?_)
          refine ef_V (fun _ => [some (.ref 127), some (.int p0), some (.int p1), some (.int x10), some (.int t13.1), none, none]) (fun _ => []) (fun s18 => eh_FW s18) (fun s18 => ?_)
          refine es_blk (pc' := 167) (L' := [some (.ref 127), some (.int p0), some (.int p1), some (.int x10), some (.int (t13.1 + 1)), none, none]) (st' := []) [(.iinc 4 1, 1)] (by decide +kernel) rfl rfl ?_
          refine ef_V (fun x19 => [some (.ref 127), some (.int p0), some (.int p1), some (.int x10), some (.int x19), none, none]) (fun _ => []) (fun _ => eh_FW s18) (fun x19 => ?_)
          refine es_goto (tgt := 133) (off := (-34)) (by decide +kernel) (by decide) ?_
          exact Hr16 (x19, s18)
        refine ef_drop (L2 := [some (.ref 127), some (.int p0), none, some (.int x10), none, none, none]) [true, true, false, true, false, true, true] rfl rfl ?_
        exact HxK15_0 t13.2
    refine ef_drop (L2 := [some (.ref 127), some (.int p0), none, some (.int e2), none, none, none]) [true, true, false, true, true, true, true] rfl rfl ?_
    exact Hj3 _ _
  · refine es_blk (pc' := 8) (L' := [some (.ref 127), some (.int p0), some (.int p1), some (.int t1.1), some (.int t1.2), none, none]) (st' := [.ref 127, .int t1.2]) [(.iload 4, 0), (.aload_n 0, 0)] (by decide +kernel) rfl rfl ?_
    refine ef_getI (k := 127) (j := 70) rfl eL_12_617 (by decide) (by decide +kernel) ?_
    refine es_ige (tgt := 91) (off := (80)) (by decide +kernel) (by decide) (fun h22 => ?_) (fun h22 => ?_)
    · refine es_blk (pc' := 20) (L' := [some (.ref 127), some (.int p0), some (.int p1), some (.int t1.1), some (.int t1.2), some (.int 1), some (.int 0)]) (st' := []) [(.iconst 1, 1), (.istore 5, 0), (.iconst 0, 0), (.istore 6, 0)] (by decide +kernel) rfl rfl ?_
      refine ef_loop1 (n := eh_FU) (i := (1, 0)) (px := 73) (fun (t23 : Int32 × Int32) => [some (.ref 127), some (.int p0), some (.int p1), some (.int t1.1), some (.int t1.2), some (.int t23.1), some (.int t23.2)]) (fun (t23 : Int32 × Int32) => []) (fun (t23 : Int32 × Int32) => eh_FW s) (fun (e24 : Int32) => [some (.ref 127), some (.int p0), some (.int p1), some (.int t1.1), some (.int t1.2), some (.int e24), none]) (fun (e24 : Int32) => []) (fun (e24 : Int32) => eh_FW s) (fun e24 => ?_) (fun K29 HxK29_0 r30 Hr30 t23 => ?_)
      · refine es_blk (pc' := 75) (L' := [some (.ref 127), some (.int p0), some (.int p1), some (.int t1.1), some (.int t1.2), some (.int e24), none]) (st' := [.int e24]) [(.iload 5, 0)] (by decide +kernel) rfl rfl ?_
        refine ef_J (X := fun j25 => ∀ (a26 : Int32), eh_Sim g eM_12_count (eh_R 2 0 0) eh_eI 0 0 84 [some (.ref 127), some (.int p0), some (.int p1), none, some (.int t1.2), none, none] [.int a26] (eh_FW s) ((j25 a26).bind K20)) ?_ (fun j25 Hj25 => ?_)
        · intro a26
          refine es_blk (pc' := 88) (L' := [some (.ref 127), some (.int p0), some (.int p1), some (.int a26), some (.int (t1.2 + 1)), none, none]) (st' := []) [(.istore_n 3, 0), (.iinc 4 1, 1)] (by decide +kernel) rfl rfl ?_
          refine ef_V (fun x27 => [some (.ref 127), some (.int p0), some (.int p1), some (.int a26), some (.int x27), none, none]) (fun _ => []) (fun _ => eh_FW s) (fun x27 => ?_)
          refine es_goto (tgt := 5) (off := (-83)) (by decide +kernel) (by decide) ?_
          exact Hr21 (a26, x27)
        refine es_eq (tgt := 83) (off := (8)) (by decide +kernel) (by decide) (fun h28 => ?_) (fun h28 => ?_)
        · refine es_blk (pc' := 84) (L' := [some (.ref 127), some (.int p0), some (.int p1), some (.int t1.1), some (.int t1.2), some (.int e24), none]) (st' := [.int t1.1]) [(.iload_n 3, 0)] (by decide +kernel) rfl rfl ?_
          refine ef_drop (L2 := [some (.ref 127), some (.int p0), some (.int p1), none, some (.int t1.2), none, none]) [true, true, true, false, true, false, true] rfl rfl ?_
          exact Hj25 _
        refine es_blk (pc' := 80) (L' := [some (.ref 127), some (.int p0), some (.int p1), some (.int t1.1), some (.int t1.2), some (.int e24), none]) (st' := [.int t1.2]) [(.iload 4, 0)] (by decide +kernel) rfl rfl ?_
        refine es_goto (tgt := 84) (off := (4)) (by decide +kernel) (by decide) ?_
        refine ef_drop (L2 := [some (.ref 127), some (.int p0), some (.int p1), none, some (.int t1.2), none, none]) [true, true, true, false, true, false, true] rfl rfl ?_
        exact Hj25 _
      · refine es_blk (pc' := 24) (L' := [some (.ref 127), some (.int p0), some (.int p1), some (.int t1.1), some (.int t1.2), some (.int t23.1), some (.int t23.2)]) (st' := [.int 32, .int t23.2]) [(.iload 6, 0), (.bipush 32, 32)] (by decide +kernel) rfl rfl ?_
        refine es_ige (tgt := 73) (off := (49)) (by decide +kernel) (by decide) (fun h31 => ?_) (fun h31 => ?_)
        · refine es_blk (pc' := 29) (L' := [some (.ref 127), some (.int p0), some (.int p1), some (.int t1.1), some (.int t1.2), some (.int t23.1), some (.int t23.2)]) (st' := [.int t23.1]) [(.iload 5, 0)] (by decide +kernel) rfl rfl ?_
          refine es_eq (tgt := 73) (off := (44)) (by decide +kernel) (by decide) (fun h32 => ?_) (fun h32 => ?_)
          · refine ef_drop (L2 := [some (.ref 127), some (.int p0), some (.int p1), some (.int t1.1), some (.int t1.2), some (.int t23.1), none]) [true, true, true, true, true, true, false] rfl rfl ?_
            exact HxK29_0 t23.1
          refine es_blk (pc' := 33) (L' := [some (.ref 127), some (.int p0), some (.int p1), some (.int t1.1), some (.int t1.2), some (.int t23.1), some (.int t23.2)]) (st' := [.ref 127]) [(.aload_n 0, 0)] (by decide +kernel) rfl rfl ?_
          refine ef_getP (k := 127) (j := 68) (q := 183) rfl eL_12_178 rfl rfl rfl (by decide +kernel) ?_
          refine es_blk (pc' := 44) (L' := [some (.ref 127), some (.int p0), some (.int p1), some (.int t1.1), some (.int t1.2), some (.int t23.1), some (.int t23.2)]) (st' := [.int ((32 * t1.2) + t23.2), .ref 183]) [(.bipush 32, 32), (.iload 4, 0), (.imul, 0), (.iload 6, 0), (.iadd, 0)] (by decide +kernel) rfl rfl ?_
          refine ef_ald (k := 183) rfl (Or.inr ⟨Or.inl rfl, rfl⟩) (by decide +kernel) (fun _ => ?_)
          refine es_blk (pc' := 46) (L' := [some (.ref 127), some (.int p0), some (.int p1), some (.int t1.1), some (.int t1.2), some (.int t23.1), some (.int t23.2)]) (st' := [.ref 127, .int (s.1 183 (eh_ix ((32 * t1.2) + t23.2)))]) [(.aload_n 0, 0)] (by decide +kernel) rfl rfl ?_
          refine ef_getP (k := 127) (j := 34) (q := 159) rfl eL_12_106 rfl rfl rfl (by decide +kernel) ?_
          refine es_blk (pc' := 56) (L' := [some (.ref 127), some (.int p0), some (.int p1), some (.int t1.1), some (.int t1.2), some (.int t23.1), some (.int t23.2)]) (st' := [.int ((32 * p1) + t23.2), .ref 159, .int (s.1 183 (eh_ix ((32 * t1.2) + t23.2)))]) [(.bipush 32, 32), (.iload_n 2, 0), (.imul, 0), (.iload 6, 0), (.iadd, 0)] (by decide +kernel) rfl rfl ?_
          refine ef_ald (k := 159) rfl (Or.inr ⟨Or.inl rfl, rfl⟩) (by decide +kernel) (fun _ => ?_)
          refine ef_J (X := fun j33 => ∀ (a34 : Int32), eh_Sim g eM_12_count (eh_R 2 0 0) eh_eI 0 0 65 [some (.ref 127), some (.int p0), some (.int p1), some (.int t1.1), some (.int t1.2), none, some (.int t23.2)] [.int a34] (eh_FW s) ((j33 a34).bind K29)) ?_ (fun j33 Hj33 => ?_)
          · intro a34
            refine es_blk (pc' := 70) (L' := [some (.ref 127), some (.int p0), some (.int p1), some (.int t1.1), some (.int t1.2), some (.int a34), some (.int (t23.2 + 1))]) (st' := []) [(.istore 5, 0), (.iinc 6 1, 1)] (by decide +kernel) rfl rfl ?_
            refine ef_V (fun x35 => [some (.ref 127), some (.int p0), some (.int p1), some (.int t1.1), some (.int t1.2), some (.int a34), some (.int x35)]) (fun _ => []) (fun _ => eh_FW s) (fun x35 => ?_)
            refine es_goto (tgt := 20) (off := (-50)) (by decide +kernel) (by decide) ?_
            exact Hr30 (a34, x35)
          refine es_ine (tgt := 64) (off := (7)) (by decide +kernel) (by decide) (fun h36 => ?_) (fun h36 => ?_)
          · refine es_blk (pc' := 61) (L' := [some (.ref 127), some (.int p0), some (.int p1), some (.int t1.1), some (.int t1.2), some (.int t23.1), some (.int t23.2)]) (st' := [.int 1]) [(.iconst 1, 1)] (by decide +kernel) rfl rfl ?_
            refine es_goto (tgt := 65) (off := (4)) (by decide +kernel) (by decide) ?_
            refine ef_drop (L2 := [some (.ref 127), some (.int p0), some (.int p1), some (.int t1.1), some (.int t1.2), none, some (.int t23.2)]) [true, true, true, true, true, false, true] rfl rfl ?_
            exact Hj33 _
          refine es_blk (pc' := 65) (L' := [some (.ref 127), some (.int p0), some (.int p1), some (.int t1.1), some (.int t1.2), some (.int t23.1), some (.int t23.2)]) (st' := [.int 0]) [(.iconst 0, 0)] (by decide +kernel) rfl rfl ?_
          refine ef_drop (L2 := [some (.ref 127), some (.int p0), some (.int p1), some (.int t1.1), some (.int t1.2), none, some (.int t23.2)]) [true, true, true, true, true, false, true] rfl rfl ?_
          exact Hj33 _
        refine ef_drop (L2 := [some (.ref 127), some (.int p0), some (.int p1), some (.int t1.1), some (.int t1.2), some (.int t23.1), none]) [true, true, true, true, true, true, false] rfl rfl ?_
        exact HxK29_0 t23.1
    refine ef_drop (L2 := [some (.ref 127), some (.int p0), some (.int p1), some (.int t1.1), none, none, none]) [true, true, true, true, false, true, true] rfl rfl ?_
    exact HxK20_0 t1.1
def eF_12_onPath (s : eh_F) (p0 : Int32) (p1 : Int32) (p2 : Int32) : Option (Int32 × eh_F) := if p1 = 46 then (Option.bind (eF_12_clearPath s (-1)) (fun q2 => Option.bind (eF_12_happens q2 9 p0 0 0 0) (fun q3 => some (0, q3)))) else (if p1 = 47 then (if (s.1 127 66) = 64 then (some ((-5), s)) else (if eh_in (s.1 127 66) 64 then eh_V (eh_tI s 182 (eh_ix (s.1 127 66)) (eh_nb (eh_nb p2))) (fun s6 => eh_V (eh_tI s6 127 66 ((s6.1 127 66) + 1)) (fun s7 => some ((s7.1 127 66), s7))) else none)) else (if (s.1 127 64) = 0 then (some (256, s)) else (eh_V ((s.1 181 0) : Int32) (fun x9 => eh_V (eh_tI s 127 64 ((s.1 127 64) - 1)) (fun s10 => Option.bind (eh_loop (fun (r14 : (Int32 × eh_F) → Option (eh_F)) (t11 : Int32 × eh_F) => if t11.1 < (t11.2.1 127 64) then (if eh_in (t11.1 + 1) 16 then if eh_in t11.1 16 then eh_V (eh_tI t11.2 181 (eh_ix t11.1) (t11.2.1 181 (eh_ix (t11.1 + 1)))) (fun s16 => eh_V ((t11.1 + 1) : Int32) (fun x17 => r14 (x17, s16))) else none else none) else (some t11.2)) eh_FU (0, s10)) (fun (e12 : eh_F) => some (x9, e12)))))))
set_option maxHeartbeats 4000000 in
set_option maxRecDepth 100000 in
theorem eS_12_onPath (g : eh_P) (s : eh_F) (p0 : Int32) (p1 : Int32) (p2 : Int32) : eh_Sim g eM_12_onPath (eh_R 2 0 0) eh_eI 0 0 0 (eh_en 6 [.ref 127, .int p0, .int p1, .int p2]) [] (eh_FW s) (eF_12_onPath s p0 p1 p2) := by
  unfold eF_12_onPath
  refine ef_top (L := [some (.ref 127), some (.int p0), some (.int p1), some (.int p2), none, none]) rfl ?_
  refine es_blk (pc' := 3) (L' := [some (.ref 127), some (.int p0), some (.int p1), some (.int p2), none, none]) (st' := [.int 46, .int p1]) [(.iload_n 2, 0), (.bipush 46, 46)] (by decide +kernel) rfl rfl ?_
  refine es_ine (tgt := 23) (off := (20)) (by decide +kernel) (by decide) (fun h1 => ?_) (fun h1 => ?_)
  · refine es_blk (pc' := 8) (L' := [some (.ref 127), some (.int p0), some (.int p1), some (.int p2), none, none]) (st' := [.int (-1), .ref 127]) [(.aload_n 0, 0), (.iconst (-1), (-1))] (by decide +kernel) rfl rfl ?_
    refine ef_veV (d := 1) (k := 127) (As := [.int (-1)]) (st := []) eV_12_clearPath eK_12_308 (eS_12_clearPath g s (-1)) rfl rfl (Nat.le_of_ble_eq_true rfl) rfl (Nat.le_of_ble_eq_true rfl) ⟨Nat.le_of_ble_eq_true rfl, Nat.le_of_ble_eq_true rfl⟩ ⟨Nat.le_refl _, Nat.le_refl _⟩ (by decide +kernel) (fun q2 _ => ?_)
    refine es_blk (pc' := 18) (L' := [some (.ref 127), some (.int p0), some (.int p1), some (.int p2), none, none]) (st' := [.int 0, .int 0, .int 0, .int p0, .int 9, .ref 127]) [(.aload_n 0, 0), (.bipush 9, 9), (.iload_n 1, 0), (.iconst 0, 0), (.iconst 0, 0), (.iconst 0, 0)] (by decide +kernel) rfl rfl ?_
    refine ef_veV (d := 1) (k := 127) (As := [.int 9, .int p0, .int 0, .int 0, .int 0]) (st := []) eV_12_happens eK_12_394 (eS_12_happens g q2 9 p0 0 0 0) rfl rfl (Nat.le_of_ble_eq_true rfl) rfl (Nat.le_of_ble_eq_true rfl) ⟨Nat.le_of_ble_eq_true rfl, Nat.le_of_ble_eq_true rfl⟩ ⟨Nat.le_refl _, Nat.le_refl _⟩ (by decide +kernel) (fun q3 _ => ?_)
    refine es_blk (pc' := 22) (L' := [some (.ref 127), some (.int p0), some (.int p1), some (.int p2), none, none]) (st' := [.int 0]) [(.iconst 0, 0)] (by decide +kernel) rfl rfl ?_
    exact es_ret rfl rfl rfl ⟨by decide +kernel, _, rfl, rfl⟩ (Nat.le_refl _) (Nat.le_refl _)
  refine es_blk (pc' := 26) (L' := [some (.ref 127), some (.int p0), some (.int p1), some (.int p2), none, none]) (st' := [.int 47, .int p1]) [(.iload_n 2, 0), (.bipush 47, 47)] (by decide +kernel) rfl rfl ?_
  refine es_ine (tgt := 67) (off := (41)) (by decide +kernel) (by decide) (fun h4 => ?_) (fun h4 => ?_)
  · refine es_blk (pc' := 30) (L' := [some (.ref 127), some (.int p0), some (.int p1), some (.int p2), none, none]) (st' := [.ref 127]) [(.aload_n 0, 0)] (by decide +kernel) rfl rfl ?_
    refine ef_getI (k := 127) (j := 66) rfl eL_12_317 (by decide) (by decide +kernel) ?_
    refine es_blk (pc' := 35) (L' := [some (.ref 127), some (.int p0), some (.int p1), some (.int p2), none, none]) (st' := [.int 64, .int (s.1 127 66)]) [(.bipush 64, 64)] (by decide +kernel) rfl rfl ?_
    refine es_ine (tgt := 41) (off := (6)) (by decide +kernel) (by decide) (fun h5 => ?_) (fun h5 => ?_)
    · refine es_blk (pc' := 40) (L' := [some (.ref 127), some (.int p0), some (.int p1), some (.int p2), none, none]) (st' := [.int (-5)]) [(.bipush (-5), (-5))] (by decide +kernel) rfl rfl ?_
      exact es_ret rfl rfl rfl ⟨by decide +kernel, _, rfl, rfl⟩ (Nat.le_refl _) (Nat.le_refl _)
    refine es_blk (pc' := 42) (L' := [some (.ref 127), some (.int p0), some (.int p1), some (.int p2), none, none]) (st' := [.ref 127]) [(.aload_n 0, 0)] (by decide +kernel) rfl rfl ?_
    refine ef_getP (k := 127) (j := 65) (q := 182) rfl eL_12_175 rfl rfl rfl (by decide +kernel) ?_
    refine es_blk (pc' := 46) (L' := [some (.ref 127), some (.int p0), some (.int p1), some (.int p2), none, none]) (st' := [.ref 127, .ref 182]) [(.aload_n 0, 0)] (by decide +kernel) rfl rfl ?_
    refine ef_getI (k := 127) (j := 66) rfl eL_12_317 (by decide) (by decide +kernel) ?_
    refine es_blk (pc' := 51) (L' := [some (.ref 127), some (.int p0), some (.int p1), some (.int p2), none, none]) (st' := [.int (eh_nb p2), .int (s.1 127 66), .ref 182]) [(.iload_n 3, 0), (.i2b, 0)] (by decide +kernel) rfl rfl ?_
    refine ef_astB (k := 182) rfl (by decide +kernel) (fun _ => ?_)
    refine ef_V (fun _ => [some (.ref 127), some (.int p0), some (.int p1), some (.int p2), none, none]) (fun _ => []) (fun s6 => eh_FW s6) (fun s6 => ?_)
    refine es_blk (pc' := 54) (L' := [some (.ref 127), some (.int p0), some (.int p1), some (.int p2), none, none]) (st' := [.ref 127, .ref 127]) [(.aload_n 0, 0), (.dup, 0)] (by decide +kernel) rfl rfl ?_
    refine ef_getI (k := 127) (j := 66) rfl eL_12_317 (by decide) (by decide +kernel) ?_
    refine es_blk (pc' := 59) (L' := [some (.ref 127), some (.int p0), some (.int p1), some (.int p2), none, none]) (st' := [.int ((s6.1 127 66) + 1), .ref 127]) [(.iconst 1, 1), (.iadd, 0)] (by decide +kernel) rfl rfl ?_
    refine ef_putI (k := 127) (j := 66) rfl eL_12_317 rfl rfl (by decide +kernel) ?_
    refine ef_V (fun _ => [some (.ref 127), some (.int p0), some (.int p1), some (.int p2), none, none]) (fun _ => []) (fun s7 => eh_FW s7) (fun s7 => ?_)
    refine es_blk (pc' := 63) (L' := [some (.ref 127), some (.int p0), some (.int p1), some (.int p2), none, none]) (st' := [.ref 127]) [(.aload_n 0, 0)] (by decide +kernel) rfl rfl ?_
    refine ef_getI (k := 127) (j := 66) rfl eL_12_317 (by decide) (by decide +kernel) ?_
    exact es_ret rfl rfl rfl ⟨by decide +kernel, _, rfl, rfl⟩ (Nat.le_refl _) (Nat.le_refl _)
  refine es_blk (pc' := 68) (L' := [some (.ref 127), some (.int p0), some (.int p1), some (.int p2), none, none]) (st' := [.ref 127]) [(.aload_n 0, 0)] (by decide +kernel) rfl rfl ?_
  refine ef_getI (k := 127) (j := 64) rfl eL_12_314 (by decide) (by decide +kernel) ?_
  refine es_ne (tgt := 78) (off := (7)) (by decide +kernel) (by decide) (fun h8 => ?_) (fun h8 => ?_)
  · refine es_blk (pc' := 77) (L' := [some (.ref 127), some (.int p0), some (.int p1), some (.int p2), none, none]) (st' := [.int 256]) [(.sipush 256, 256)] (by decide +kernel) rfl rfl ?_
    exact es_ret rfl rfl rfl ⟨by decide +kernel, _, rfl, rfl⟩ (Nat.le_refl _) (Nat.le_refl _)
  refine es_blk (pc' := 79) (L' := [some (.ref 127), some (.int p0), some (.int p1), some (.int p2), none, none]) (st' := [.ref 127]) [(.aload_n 0, 0)] (by decide +kernel) rfl rfl ?_
  refine ef_getP (k := 127) (j := 63) (q := 181) rfl eL_12_172 rfl rfl rfl (by decide +kernel) ?_
  refine es_blk (pc' := 83) (L' := [some (.ref 127), some (.int p0), some (.int p1), some (.int p2), none, none]) (st' := [.int 0, .ref 181]) [(.iconst 0, 0)] (by decide +kernel) rfl rfl ?_
  refine ef_aldc (k := 181) (j := 0) rfl (Or.inl ⟨rfl, rfl⟩) (by decide) rfl (by decide +kernel) ?_
  refine es_blk (pc' := 86) (L' := [some (.ref 127), some (.int p0), some (.int p1), some (.int p2), some (.int (s.1 181 0)), none]) (st' := []) [(.istore 4, 0)] (by decide +kernel) rfl rfl ?_
  refine ef_V (fun x9 => [some (.ref 127), some (.int p0), some (.int p1), some (.int p2), some (.int x9), none]) (fun _ => []) (fun _ => eh_FW s) (fun x9 => ?_)
  refine es_blk (pc' := 88) (L' := [some (.ref 127), some (.int p0), some (.int p1), some (.int p2), some (.int x9), none]) (st' := [.ref 127, .ref 127]) [(.aload_n 0, 0), (.dup, 0)] (by decide +kernel) rfl rfl ?_
  refine ef_getI (k := 127) (j := 64) rfl eL_12_314 (by decide) (by decide +kernel) ?_
  refine es_blk (pc' := 93) (L' := [some (.ref 127), some (.int p0), some (.int p1), some (.int p2), some (.int x9), none]) (st' := [.int ((s.1 127 64) - 1), .ref 127]) [(.iconst 1, 1), (.isub, 0)] (by decide +kernel) rfl rfl ?_
  refine ef_putI (k := 127) (j := 64) rfl eL_12_314 rfl rfl (by decide +kernel) ?_
  refine ef_V (fun _ => [some (.ref 127), some (.int p0), some (.int p1), some (.int p2), some (.int x9), none]) (fun _ => []) (fun s10 => eh_FW s10) (fun s10 => ?_)
  refine es_blk (pc' := 99) (L' := [some (.ref 127), some (.int p0), some (.int p1), some (.int p2), some (.int x9), some (.int 0)]) (st' := []) [(.iconst 0, 0), (.istore 5, 0)] (by decide +kernel) rfl rfl ?_
  refine ef_drop (L2 := [some (.ref 127), none, none, none, some (.int x9), some (.int 0)]) [true, false, false, false, true, true] rfl rfl ?_
  refine ef_loop1 (n := eh_FU) (i := (0, s10)) (px := 130) (fun (t11 : Int32 × eh_F) => [some (.ref 127), none, none, none, some (.int x9), some (.int t11.1)]) (fun (t11 : Int32 × eh_F) => []) (fun (t11 : Int32 × eh_F) => eh_FW t11.2) (fun (e12 : eh_F) => [none, none, none, none, some (.int x9), none]) (fun (e12 : eh_F) => []) (fun (e12 : eh_F) => eh_FW e12) (fun e12 => ?_) (fun K13 HxK13_0 r14 Hr14 t11 => ?_)
  · refine es_blk (pc' := 132) (L' := [none, none, none, none, some (.int x9), none]) (st' := [.int x9]) [(.iload 4, 0)] (by decide +kernel) rfl rfl ?_
    exact es_ret rfl rfl rfl ⟨by decide +kernel, _, rfl, rfl⟩ (Nat.le_refl _) (Nat.le_refl _)
  · refine es_blk (pc' := 102) (L' := [some (.ref 127), none, none, none, some (.int x9), some (.int t11.1)]) (st' := [.ref 127, .int t11.1]) [(.iload 5, 0), (.aload_n 0, 0)] (by decide +kernel) rfl rfl ?_
    refine ef_getI (k := 127) (j := 64) rfl eL_12_314 (by decide) (by decide +kernel) ?_
    refine es_ige (tgt := 130) (off := (25)) (by decide +kernel) (by decide) (fun h15 => ?_) (fun h15 => ?_)
    · refine es_blk (pc' := 109) (L' := [some (.ref 127), none, none, none, some (.int x9), some (.int t11.1)]) (st' := [.ref 127]) [(.aload_n 0, 0)] (by decide +kernel) rfl rfl ?_
      refine ef_getP (k := 127) (j := 63) (q := 181) rfl eL_12_172 rfl rfl rfl (by decide +kernel) ?_
      refine es_blk (pc' := 115) (L' := [some (.ref 127), none, none, none, some (.int x9), some (.int t11.1)]) (st' := [.ref 127, .int t11.1, .ref 181]) [(.iload 5, 0), (.aload_n 0, 0)] (by decide +kernel) rfl rfl ?_
      refine ef_getP (k := 127) (j := 63) (q := 181) rfl eL_12_172 rfl rfl rfl (by decide +kernel) ?_
      refine es_blk (pc' := 122) (L' := [some (.ref 127), none, none, none, some (.int x9), some (.int t11.1)]) (st' := [.int (t11.1 + 1), .ref 181, .int t11.1, .ref 181]) [(.iload 5, 0), (.iconst 1, 1), (.iadd, 0)] (by decide +kernel) rfl rfl ?_
      refine ef_ald (k := 181) rfl (Or.inl ⟨rfl, rfl⟩) (by decide +kernel) (fun _ => ?_)
      refine ef_ast (k := 181) rfl (by decide +kernel) (fun _ => ?_)
      refine ef_V (fun _ => [some (.ref 127), none, none, none, some (.int x9), some (.int t11.1)]) (fun _ => []) (fun s16 => eh_FW s16) (fun s16 => ?_)
      refine es_blk (pc' := 127) (L' := [some (.ref 127), none, none, none, some (.int x9), some (.int (t11.1 + 1))]) (st' := []) [(.iinc 5 1, 1)] (by decide +kernel) rfl rfl ?_
      refine ef_V (fun x17 => [some (.ref 127), none, none, none, some (.int x9), some (.int x17)]) (fun _ => []) (fun _ => eh_FW s16) (fun x17 => ?_)
      refine es_goto (tgt := 99) (off := (-28)) (by decide +kernel) (by decide) ?_
      exact Hr14 (x17, s16)
    refine ef_drop (L2 := [none, none, none, none, some (.int x9), none]) [false, true, true, true, true, false] rfl rfl ?_
    exact HxK13_0 t11.2
def eF_12_device (s : eh_F)  : Option (eh_F) := Option.bind (eh_loop (fun (r37 : (Int32 × eh_F) → Option (eh_F)) (t1 : Int32 × eh_F) => if t1.1 < (t1.2.1 127 58) then (if eh_in t1.1 4 then if eh_in t1.1 4 then eh_V (eh_tI t1.2 179 (eh_ix t1.1) ((t1.2.1 179 (eh_ix t1.1)) + 1)) (fun s39 => eh_V ((t1.1 + 1) : Int32) (fun x40 => r37 (x40, s39))) else none else none) else (some t1.2)) eh_FU (0, s)) (fun (e2 : eh_F) => eh_J (fun (u4 : Unit) => some e2) (fun j3 => if (e2.1 127 58) = 0 then (j3 ()) else (if (e2.1 179 0) < 5 then (j3 ()) else (Option.bind (eF_12_areOpen e2 (e2.1 178 0) 256) (fun q7 => Option.bind (eh_loop (fun (r27 : (Int32 × eh_F) → Option (eh_F)) (t8 : Int32 × eh_F) => if t8.1 < 256 then (if q7 = 0 then (some t8.2) else (eh_J (fun (s31 : eh_F) => eh_V ((t8.1 + 1) : Int32) (fun x32 => r27 (x32, s31))) (fun j30 => if (t8.2.1 176 0) = 0 then (if eh_in ((256 * (t8.2.1 177 0)) + t8.1) 8192 then Option.bind (eF_12_setByte t8.2 ((t8.2.1 178 0) + t8.1) (t8.2.1 175 (eh_ix ((256 * (t8.2.1 177 0)) + t8.1)))) (fun q34 => j30 q34) else none) else (if eh_in ((t8.2.1 178 0) + t8.1) 131072 then if eh_in ((256 * (t8.2.1 177 0)) + t8.1) 8192 then eh_V (eh_tI t8.2 175 (eh_ix ((256 * (t8.2.1 177 0)) + t8.1)) (eh_nb (t8.2.1 128 (eh_ix ((t8.2.1 178 0) + t8.1))))) (fun s35 => j30 s35) else none else none)))) else (some t8.2)) eh_FU (0, e2)) (fun (e9 : eh_F) => eh_V (eh_tI e9 127 59 ((e9.1 127 59) + 1)) (fun s10 => eh_J (fun (a12 : Int32) => eh_V (eh_tI s10 127 60 ((s10.1 127 60) + a12)) (fun s13 => eh_V (eh_tI s13 127 58 ((s13.1 127 58) - 1)) (fun s14 => Option.bind (eh_loop (fun (r18 : (Int32 × eh_F) → Option (eh_F)) (t15 : Int32 × eh_F) => if t15.1 < (t15.2.1 127 58) then (if eh_in (t15.1 + 1) 4 then if eh_in t15.1 4 then eh_V (eh_tI t15.2 176 (eh_ix t15.1) (t15.2.1 176 (eh_ix (t15.1 + 1)))) (fun s20 => if eh_in (t15.1 + 1) 4 then if eh_in t15.1 4 then eh_V (eh_tI s20 177 (eh_ix t15.1) (s20.1 177 (eh_ix (t15.1 + 1)))) (fun s21 => if eh_in (t15.1 + 1) 4 then if eh_in t15.1 4 then eh_V (eh_tI s21 178 (eh_ix t15.1) (s21.1 178 (eh_ix (t15.1 + 1)))) (fun s22 => if eh_in (t15.1 + 1) 4 then if eh_in t15.1 4 then eh_V (eh_tI s22 179 (eh_ix t15.1) (s22.1 179 (eh_ix (t15.1 + 1)))) (fun s23 => eh_V ((t15.1 + 1) : Int32) (fun x24 => r18 (x24, s23))) else none else none) else none else none) else none else none) else none else none) else (some t15.2)) eh_FU (0, s14)) (fun (e16 : eh_F) => some e16)))) (fun j11 => if q7 = 0 then (j11 1) else (j11 0)))))))))
set_option maxHeartbeats 4000000 in
set_option maxRecDepth 100000 in
theorem eS_12_device (g : eh_P) (s : eh_F)  : eh_Sim g eM_12_device (eh_R 2 0 0) eh_eV 0 0 0 (eh_en 3 [.ref 127]) [] (eh_FW s) (eF_12_device s) := by
  unfold eF_12_device
  refine ef_top (L := [some (.ref 127), none, none]) rfl ?_
  refine es_blk (pc' := 2) (L' := [some (.ref 127), some (.int 0), none]) (st' := []) [(.iconst 0, 0), (.istore_n 1, 0)] (by decide +kernel) rfl rfl ?_
  refine ef_loop1 (n := eh_FU) (i := (0, s)) (px := 26) (fun (t1 : Int32 × eh_F) => [some (.ref 127), some (.int t1.1), none]) (fun (t1 : Int32 × eh_F) => []) (fun (t1 : Int32 × eh_F) => eh_FW t1.2) (fun (e2 : eh_F) => [some (.ref 127), none, none]) (fun (e2 : eh_F) => []) (fun (e2 : eh_F) => eh_FW e2) (fun e2 => ?_) (fun K36 HxK36_0 r37 Hr37 t1 => ?_)
  · refine es_blk (pc' := 27) (L' := [some (.ref 127), none, none]) (st' := [.ref 127]) [(.aload_n 0, 0)] (by decide +kernel) rfl rfl ?_
    refine ef_getI (k := 127) (j := 58) rfl eL_12_296 (by decide) (by decide +kernel) ?_
    refine ef_J (X := fun j3 => ∀ (u4 : Unit), eh_Sim g eM_12_device (eh_R 2 0 0) eh_eV 0 0 43 [none, none, none] [] (eh_FW e2) ((j3 u4).bind some)) ?_ (fun j3 Hj3 => ?_)
    · intro u4
      exact es_ret rfl rfl rfl ⟨by decide +kernel, rfl⟩ (Nat.le_refl _) (Nat.le_refl _)
    refine es_eq (tgt := 43) (off := (13)) (by decide +kernel) (by decide) (fun h5 => ?_) (fun h5 => ?_)
    · refine ef_drop (L2 := [none, none, none]) [false, true, true] rfl rfl ?_
      exact Hj3 ()
    refine es_blk (pc' := 34) (L' := [some (.ref 127), none, none]) (st' := [.ref 127]) [(.aload_n 0, 0)] (by decide +kernel) rfl rfl ?_
    refine ef_getP (k := 127) (j := 57) (q := 179) rfl eL_12_166 rfl rfl rfl (by decide +kernel) ?_
    refine es_blk (pc' := 38) (L' := [some (.ref 127), none, none]) (st' := [.int 0, .ref 179]) [(.iconst 0, 0)] (by decide +kernel) rfl rfl ?_
    refine ef_aldc (k := 179) (j := 0) rfl (Or.inl ⟨rfl, rfl⟩) (by decide) rfl (by decide +kernel) ?_
    refine es_blk (pc' := 40) (L' := [some (.ref 127), none, none]) (st' := [.int 5, .int (e2.1 179 0)]) [(.iconst 5, 5)] (by decide +kernel) rfl rfl ?_
    refine es_ige (tgt := 44) (off := (4)) (by decide +kernel) (by decide) (fun h6 => ?_) (fun h6 => ?_)
    · refine ef_drop (L2 := [none, none, none]) [false, true, true] rfl rfl ?_
      exact Hj3 ()
    refine es_blk (pc' := 46) (L' := [some (.ref 127), none, none]) (st' := [.ref 127, .ref 127]) [(.aload_n 0, 0), (.aload_n 0, 0)] (by decide +kernel) rfl rfl ?_
    refine ef_getP (k := 127) (j := 56) (q := 178) rfl eL_12_163 rfl rfl rfl (by decide +kernel) ?_
    refine es_blk (pc' := 50) (L' := [some (.ref 127), none, none]) (st' := [.int 0, .ref 178, .ref 127]) [(.iconst 0, 0)] (by decide +kernel) rfl rfl ?_
    refine ef_aldc (k := 178) (j := 0) rfl (Or.inl ⟨rfl, rfl⟩) (by decide) rfl (by decide +kernel) ?_
    refine es_blk (pc' := 54) (L' := [some (.ref 127), none, none]) (st' := [.int 256, .int (e2.1 178 0), .ref 127]) [(.sipush 256, 256)] (by decide +kernel) rfl rfl ?_
    refine ef_vpI (d := 1) (k := 127) (As := [.int (e2.1 178 0), .int 256]) (st := []) eV_12_areOpen eK_12_570 (eS_12_areOpen g e2 (e2.1 178 0) 256) rfl rfl (Nat.le_of_ble_eq_true rfl) rfl (Nat.le_of_ble_eq_true rfl) ⟨Nat.le_of_ble_eq_true rfl, Nat.le_of_ble_eq_true rfl⟩ ⟨Nat.le_refl _, Nat.le_refl _⟩ (by decide +kernel) (fun q7 _ => ?_)
    refine es_blk (pc' := 60) (L' := [some (.ref 127), some (.int q7), some (.int 0)]) (st' := []) [(.istore_n 1, 0), (.iconst 0, 0), (.istore_n 2, 0)] (by decide +kernel) rfl rfl ?_
    refine ef_loop1 (n := eh_FU) (i := (0, e2)) (px := 148) (fun (t8 : Int32 × eh_F) => [some (.ref 127), some (.int q7), some (.int t8.1)]) (fun (t8 : Int32 × eh_F) => []) (fun (t8 : Int32 × eh_F) => eh_FW t8.2) (fun (e9 : eh_F) => [some (.ref 127), some (.int q7), none]) (fun (e9 : eh_F) => []) (fun (e9 : eh_F) => eh_FW e9) (fun e9 => ?_) (fun K26 HxK26_0 r27 Hr27 t8 => ?_)
    · refine es_blk (pc' := 150) (L' := [some (.ref 127), some (.int q7), none]) (st' := [.ref 127, .ref 127]) [(.aload_n 0, 0), (.dup, 0)] (by decide +kernel) rfl rfl ?_
      refine ef_getI (k := 127) (j := 59) rfl eL_12_299 (by decide) (by decide +kernel) ?_
      refine es_blk (pc' := 155) (L' := [some (.ref 127), some (.int q7), none]) (st' := [.int ((e9.1 127 59) + 1), .ref 127]) [(.iconst 1, 1), (.iadd, 0)] (by decide +kernel) rfl rfl ?_
      refine ef_putI (k := 127) (j := 59) rfl eL_12_299 rfl rfl (by decide +kernel) ?_
      refine ef_V (fun _ => [some (.ref 127), some (.int q7), none]) (fun _ => []) (fun s10 => eh_FW s10) (fun s10 => ?_)
      refine es_blk (pc' := 160) (L' := [some (.ref 127), some (.int q7), none]) (st' := [.ref 127, .ref 127]) [(.aload_n 0, 0), (.dup, 0)] (by decide +kernel) rfl rfl ?_
      refine ef_getI (k := 127) (j := 60) rfl eL_12_302 (by decide) (by decide +kernel) ?_
      refine es_blk (pc' := 164) (L' := [some (.ref 127), some (.int q7), none]) (st' := [.int q7, .int (s10.1 127 60), .ref 127]) [(.iload_n 1, 0)] (by decide +kernel) rfl rfl ?_
      refine ef_J (X := fun j11 => ∀ (a12 : Int32), eh_Sim g eM_12_device (eh_R 2 0 0) eh_eV 0 0 172 [some (.ref 127), none, none] [.int a12, .int (s10.1 127 60), .ref 127] (eh_FW s10) ((j11 a12).bind some)) ?_ (fun j11 Hj11 => ?_)
      · intro a12
        refine es_blk (pc' := 173) (L' := [some (.ref 127), none, none]) (st' := [.int ((s10.1 127 60) + a12), .ref 127]) [(.iadd, 0)] (by decide +kernel) rfl rfl ?_
        refine ef_putI (k := 127) (j := 60) rfl eL_12_302 rfl rfl (by decide +kernel) ?_
        refine ef_V (fun _ => [some (.ref 127), none, none]) (fun _ => []) (fun s13 => eh_FW s13) (fun s13 => ?_)
        refine es_blk (pc' := 178) (L' := [some (.ref 127), none, none]) (st' := [.ref 127, .ref 127]) [(.aload_n 0, 0), (.dup, 0)] (by decide +kernel) rfl rfl ?_
        refine ef_getI (k := 127) (j := 58) rfl eL_12_296 (by decide) (by decide +kernel) ?_
        refine es_blk (pc' := 183) (L' := [some (.ref 127), none, none]) (st' := [.int ((s13.1 127 58) - 1), .ref 127]) [(.iconst 1, 1), (.isub, 0)] (by decide +kernel) rfl rfl ?_
        refine ef_putI (k := 127) (j := 58) rfl eL_12_296 rfl rfl (by decide +kernel) ?_
        refine ef_V (fun _ => [some (.ref 127), none, none]) (fun _ => []) (fun s14 => eh_FW s14) (fun s14 => ?_)
        refine es_blk (pc' := 188) (L' := [some (.ref 127), none, some (.int 0)]) (st' := []) [(.iconst 0, 0), (.istore_n 2, 0)] (by decide +kernel) rfl rfl ?_
        refine ef_loop1 (n := eh_FU) (i := (0, s14)) (px := 258) (fun (t15 : Int32 × eh_F) => [some (.ref 127), none, some (.int t15.1)]) (fun (t15 : Int32 × eh_F) => []) (fun (t15 : Int32 × eh_F) => eh_FW t15.2) (fun (e16 : eh_F) => [none, none, none]) (fun (e16 : eh_F) => []) (fun (e16 : eh_F) => eh_FW e16) (fun e16 => ?_) (fun K17 HxK17_0 r18 Hr18 t15 => ?_)
        · exact es_ret rfl rfl rfl ⟨by decide +kernel, rfl⟩ (Nat.le_refl _) (Nat.le_refl _)
        · refine es_blk (pc' := 190) (L' := [some (.ref 127), none, some (.int t15.1)]) (st' := [.ref 127, .int t15.1]) [(.iload_n 2, 0), (.aload_n 0, 0)] (by decide +kernel) rfl rfl ?_
          refine ef_getI (k := 127) (j := 58) rfl eL_12_296 (by decide) (by decide +kernel) ?_
          refine es_ige (tgt := 258) (off := (65)) (by decide +kernel) (by decide) (fun h19 => ?_) (fun h19 => ?_)
          · refine es_blk (pc' := 197) (L' := [some (.ref 127), none, some (.int t15.1)]) (st' := [.ref 127]) [(.aload_n 0, 0)] (by decide +kernel) rfl rfl ?_
            refine ef_getP (k := 127) (j := 54) (q := 176) rfl eL_12_157 rfl rfl rfl (by decide +kernel) ?_
            refine es_blk (pc' := 202) (L' := [some (.ref 127), none, some (.int t15.1)]) (st' := [.ref 127, .int t15.1, .ref 176]) [(.iload_n 2, 0), (.aload_n 0, 0)] (by decide +kernel) rfl rfl ?_
            refine ef_getP (k := 127) (j := 54) (q := 176) rfl eL_12_157 rfl rfl rfl (by decide +kernel) ?_
            refine es_blk (pc' := 208) (L' := [some (.ref 127), none, some (.int t15.1)]) (st' := [.int (t15.1 + 1), .ref 176, .int t15.1, .ref 176]) [(.iload_n 2, 0), (.iconst 1, 1), (.iadd, 0)] (by decide +kernel) rfl rfl ?_
            refine ef_ald (k := 176) rfl (Or.inl ⟨rfl, rfl⟩) (by decide +kernel) (fun _ => ?_)
            refine ef_ast (k := 176) rfl (by decide +kernel) (fun _ => ?_)
            refine ef_V (fun _ => [some (.ref 127), none, some (.int t15.1)]) (fun _ => []) (fun s20 => eh_FW s20) (fun s20 => ?_)
            refine es_blk (pc' := 211) (L' := [some (.ref 127), none, some (.int t15.1)]) (st' := [.ref 127]) [(.aload_n 0, 0)] (by decide +kernel) rfl rfl ?_
            refine ef_getP (k := 127) (j := 55) (q := 177) rfl eL_12_160 rfl rfl rfl (by decide +kernel) ?_
            refine es_blk (pc' := 216) (L' := [some (.ref 127), none, some (.int t15.1)]) (st' := [.ref 127, .int t15.1, .ref 177]) [(.iload_n 2, 0), (.aload_n 0, 0)] (by decide +kernel) rfl rfl ?_
            refine ef_getP (k := 127) (j := 55) (q := 177) rfl eL_12_160 rfl rfl rfl (by decide +kernel) ?_
            refine es_blk (pc' := 222) (L' := [some (.ref 127), none, some (.int t15.1)]) (st' := [.int (t15.1 + 1), .ref 177, .int t15.1, .ref 177]) [(.iload_n 2, 0), (.iconst 1, 1), (.iadd, 0)] (by decide +kernel) rfl rfl ?_
            refine ef_ald (k := 177) rfl (Or.inl ⟨rfl, rfl⟩) (by decide +kernel) (fun _ => ?_)
            refine ef_ast (k := 177) rfl (by decide +kernel) (fun _ => ?_)
            refine ef_V (fun _ => [some (.ref 127), none, some (.int t15.1)]) (fun _ => []) (fun s21 => eh_FW s21) (fun s21 => ?_)
            refine es_blk (pc' := 225) (L' := [some (.ref 127), none, some (.int t15.1)]) (st' := [.ref 127]) [(.aload_n 0, 0)] (by decide +kernel) rfl rfl ?_
            refine ef_getP (k := 127) (j := 56) (q := 178) rfl eL_12_163 rfl rfl rfl (by decide +kernel) ?_
            refine es_blk (pc' := 230) (L' := [some (.ref 127), none, some (.int t15.1)]) (st' := [.ref 127, .int t15.1, .ref 178]) [(.iload_n 2, 0), (.aload_n 0, 0)] (by decide +kernel) rfl rfl ?_
            refine ef_getP (k := 127) (j := 56) (q := 178) rfl eL_12_163 rfl rfl rfl (by decide +kernel) ?_
            refine es_blk (pc' := 236) (L' := [some (.ref 127), none, some (.int t15.1)]) (st' := [.int (t15.1 + 1), .ref 178, .int t15.1, .ref 178]) [(.iload_n 2, 0), (.iconst 1, 1), (.iadd, 0)] (by decide +kernel) rfl rfl ?_
            refine ef_ald (k := 178) rfl (Or.inl ⟨rfl, rfl⟩) (by decide +kernel) (fun _ => ?_)
            refine ef_ast (k := 178) rfl (by decide +kernel) (fun _ => ?_)
            refine ef_V (fun _ => [some (.ref 127), none, some (.int t15.1)]) (fun _ => []) (fun s22 => eh_FW s22) (fun s22 => ?_)
            refine es_blk (pc' := 239) (L' := [some (.ref 127), none, some (.int t15.1)]) (st' := [.ref 127]) [(.aload_n 0, 0)] (by decide +kernel) rfl rfl ?_
            refine ef_getP (k := 127) (j := 57) (q := 179) rfl eL_12_166 rfl rfl rfl (by decide +kernel) ?_
            refine es_blk (pc' := 244) (L' := [some (.ref 127), none, some (.int t15.1)]) (st' := [.ref 127, .int t15.1, .ref 179]) [(.iload_n 2, 0), (.aload_n 0, 0)] (by decide +kernel) rfl rfl ?_
            refine ef_getP (k := 127) (j := 57) (q := 179) rfl eL_12_166 rfl rfl rfl (by decide +kernel) ?_
            refine es_blk (pc' := 250) (L' := [some (.ref 127), none, some (.int t15.1)]) (st' := [.int (t15.1 + 1), .ref 179, .int t15.1, .ref 179]) [(.iload_n 2, 0), (.iconst 1, 1), (.iadd, 0)] (by decide +kernel) rfl rfl ?_
            refine ef_ald (k := 179) rfl (Or.inl ⟨rfl, rfl⟩) (by decide +kernel) (fun _ => ?_)
            refine ef_ast (k := 179) rfl (by decide +kernel) (fun _ => ?_)
            refine ef_V (fun _ => [some (.ref 127), none, some (.int t15.1)]) (fun _ => []) (fun s23 => eh_FW s23) (fun s23 => ?_)
            refine es_blk (pc' := 255) (L' := [some (.ref 127), none, some (.int (t15.1 + 1))]) (st' := []) [(.iinc 2 1, 1)] (by decide +kernel) rfl rfl ?_
            refine ef_V (fun x24 => [some (.ref 127), none, some (.int x24)]) (fun _ => []) (fun _ => eh_FW s23) (fun x24 => ?_)
            refine es_goto (tgt := 188) (off := (-67)) (by decide +kernel) (by decide) ?_
            exact Hr18 (x24, s23)
          refine ef_drop (L2 := [none, none, none]) [false, true, false] rfl rfl ?_
          exact HxK17_0 t15.2
      refine es_eq (tgt := 171) (off := (7)) (by decide +kernel) (by decide) (fun h25 => ?_) (fun h25 => ?_)
      · refine es_blk (pc' := 172) (L' := [some (.ref 127), some (.int q7), none]) (st' := [.int 1, .int (s10.1 127 60), .ref 127]) [(.iconst 1, 1)] (by decide +kernel) rfl rfl ?_
        refine ef_drop (L2 := [some (.ref 127), none, none]) [true, false, true] rfl rfl ?_
        exact Hj11 _
      refine es_blk (pc' := 168) (L' := [some (.ref 127), some (.int q7), none]) (st' := [.int 0, .int (s10.1 127 60), .ref 127]) [(.iconst 0, 0)] (by decide +kernel) rfl rfl ?_
      refine es_goto (tgt := 172) (off := (4)) (by decide +kernel) (by decide) ?_
      refine ef_drop (L2 := [some (.ref 127), none, none]) [true, false, true] rfl rfl ?_
      exact Hj11 _
    · refine es_blk (pc' := 64) (L' := [some (.ref 127), some (.int q7), some (.int t8.1)]) (st' := [.int 256, .int t8.1]) [(.iload_n 2, 0), (.sipush 256, 256)] (by decide +kernel) rfl rfl ?_
      refine es_ige (tgt := 148) (off := (84)) (by decide +kernel) (by decide) (fun h28 => ?_) (fun h28 => ?_)
      · refine es_blk (pc' := 68) (L' := [some (.ref 127), some (.int q7), some (.int t8.1)]) (st' := [.int q7]) [(.iload_n 1, 0)] (by decide +kernel) rfl rfl ?_
        refine es_eq (tgt := 148) (off := (80)) (by decide +kernel) (by decide) (fun h29 => ?_) (fun h29 => ?_)
        · refine ef_drop (L2 := [some (.ref 127), some (.int q7), none]) [true, true, false] rfl rfl ?_
          exact HxK26_0 t8.2
        refine es_blk (pc' := 72) (L' := [some (.ref 127), some (.int q7), some (.int t8.1)]) (st' := [.ref 127]) [(.aload_n 0, 0)] (by decide +kernel) rfl rfl ?_
        refine ef_getP (k := 127) (j := 54) (q := 176) rfl eL_12_157 rfl rfl rfl (by decide +kernel) ?_
        refine es_blk (pc' := 76) (L' := [some (.ref 127), some (.int q7), some (.int t8.1)]) (st' := [.int 0, .ref 176]) [(.iconst 0, 0)] (by decide +kernel) rfl rfl ?_
        refine ef_aldc (k := 176) (j := 0) rfl (Or.inl ⟨rfl, rfl⟩) (by decide) rfl (by decide +kernel) ?_
        refine ef_J (X := fun j30 => ∀ (s31 : eh_F), eh_Sim g eM_12_device (eh_R 2 0 0) eh_eV 0 0 142 [some (.ref 127), some (.int q7), some (.int t8.1)] [] (eh_FW s31) ((j30 s31).bind K26)) ?_ (fun j30 Hj30 => ?_)
        · intro s31
          refine es_blk (pc' := 145) (L' := [some (.ref 127), some (.int q7), some (.int (t8.1 + 1))]) (st' := []) [(.iinc 2 1, 1)] (by decide +kernel) rfl rfl ?_
          refine ef_V (fun x32 => [some (.ref 127), some (.int q7), some (.int x32)]) (fun _ => []) (fun _ => eh_FW s31) (fun x32 => ?_)
          refine es_goto (tgt := 60) (off := (-85)) (by decide +kernel) (by decide) ?_
          exact Hr27 (x32, s31)
        refine es_ne (tgt := 112) (off := (35)) (by decide +kernel) (by decide) (fun h33 => ?_) (fun h33 => ?_)
        · refine es_blk (pc' := 82) (L' := [some (.ref 127), some (.int q7), some (.int t8.1)]) (st' := [.ref 127, .ref 127]) [(.aload_n 0, 0), (.aload_n 0, 0)] (by decide +kernel) rfl rfl ?_
          refine ef_getP (k := 127) (j := 56) (q := 178) rfl eL_12_163 rfl rfl rfl (by decide +kernel) ?_
          refine es_blk (pc' := 86) (L' := [some (.ref 127), some (.int q7), some (.int t8.1)]) (st' := [.int 0, .ref 178, .ref 127]) [(.iconst 0, 0)] (by decide +kernel) rfl rfl ?_
          refine ef_aldc (k := 178) (j := 0) rfl (Or.inl ⟨rfl, rfl⟩) (by decide) rfl (by decide +kernel) ?_
          refine es_blk (pc' := 90) (L' := [some (.ref 127), some (.int q7), some (.int t8.1)]) (st' := [.ref 127, .int ((t8.2.1 178 0) + t8.1), .ref 127]) [(.iload_n 2, 0), (.iadd, 0), (.aload_n 0, 0)] (by decide +kernel) rfl rfl ?_
          refine ef_getP (k := 127) (j := 53) (q := 175) rfl eL_12_154 rfl rfl rfl (by decide +kernel) ?_
          refine es_blk (pc' := 97) (L' := [some (.ref 127), some (.int q7), some (.int t8.1)]) (st' := [.ref 127, .int 256, .ref 175, .int ((t8.2.1 178 0) + t8.1), .ref 127]) [(.sipush 256, 256), (.aload_n 0, 0)] (by decide +kernel) rfl rfl ?_
          refine ef_getP (k := 127) (j := 55) (q := 177) rfl eL_12_160 rfl rfl rfl (by decide +kernel) ?_
          refine es_blk (pc' := 101) (L' := [some (.ref 127), some (.int q7), some (.int t8.1)]) (st' := [.int 0, .ref 177, .int 256, .ref 175, .int ((t8.2.1 178 0) + t8.1), .ref 127]) [(.iconst 0, 0)] (by decide +kernel) rfl rfl ?_
          refine ef_aldc (k := 177) (j := 0) rfl (Or.inl ⟨rfl, rfl⟩) (by decide) rfl (by decide +kernel) ?_
          refine es_blk (pc' := 105) (L' := [some (.ref 127), some (.int q7), some (.int t8.1)]) (st' := [.int ((256 * (t8.2.1 177 0)) + t8.1), .ref 175, .int ((t8.2.1 178 0) + t8.1), .ref 127]) [(.imul, 0), (.iload_n 2, 0), (.iadd, 0)] (by decide +kernel) rfl rfl ?_
          refine ef_ald (k := 175) rfl (Or.inr ⟨Or.inl rfl, rfl⟩) (by decide +kernel) (fun _ => ?_)
          refine ef_veV (d := 1) (k := 127) (As := [.int ((t8.2.1 178 0) + t8.1), .int (t8.2.1 175 (eh_ix ((256 * (t8.2.1 177 0)) + t8.1)))]) (st := []) eV_12_setByte eK_12_320 (eS_12_setByte g t8.2 ((t8.2.1 178 0) + t8.1) (t8.2.1 175 (eh_ix ((256 * (t8.2.1 177 0)) + t8.1)))) rfl rfl (Nat.le_of_ble_eq_true rfl) rfl (Nat.le_of_ble_eq_true rfl) ⟨Nat.le_of_ble_eq_true rfl, Nat.le_of_ble_eq_true rfl⟩ ⟨Nat.le_refl _, Nat.le_refl _⟩ (by decide +kernel) (fun q34 _ => ?_)
          refine es_goto (tgt := 142) (off := (33)) (by decide +kernel) (by decide) ?_
          exact Hj30 _
        refine es_blk (pc' := 113) (L' := [some (.ref 127), some (.int q7), some (.int t8.1)]) (st' := [.ref 127]) [(.aload_n 0, 0)] (by decide +kernel) rfl rfl ?_
        refine ef_getP (k := 127) (j := 53) (q := 175) rfl eL_12_154 rfl rfl rfl (by decide +kernel) ?_
        refine es_blk (pc' := 120) (L' := [some (.ref 127), some (.int q7), some (.int t8.1)]) (st' := [.ref 127, .int 256, .ref 175]) [(.sipush 256, 256), (.aload_n 0, 0)] (by decide +kernel) rfl rfl ?_
        refine ef_getP (k := 127) (j := 55) (q := 177) rfl eL_12_160 rfl rfl rfl (by decide +kernel) ?_
        refine es_blk (pc' := 124) (L' := [some (.ref 127), some (.int q7), some (.int t8.1)]) (st' := [.int 0, .ref 177, .int 256, .ref 175]) [(.iconst 0, 0)] (by decide +kernel) rfl rfl ?_
        refine ef_aldc (k := 177) (j := 0) rfl (Or.inl ⟨rfl, rfl⟩) (by decide) rfl (by decide +kernel) ?_
        refine es_blk (pc' := 129) (L' := [some (.ref 127), some (.int q7), some (.int t8.1)]) (st' := [.ref 127, .int ((256 * (t8.2.1 177 0)) + t8.1), .ref 175]) [(.imul, 0), (.iload_n 2, 0), (.iadd, 0), (.aload_n 0, 0)] (by decide +kernel) rfl rfl ?_
        refine ef_getP (k := 127) (j := 0) (q := 128) rfl eL_12_10 rfl rfl rfl (by decide +kernel) ?_
        refine es_blk (pc' := 133) (L' := [some (.ref 127), some (.int q7), some (.int t8.1)]) (st' := [.ref 127, .ref 128, .int ((256 * (t8.2.1 177 0)) + t8.1), .ref 175]) [(.aload_n 0, 0)] (by decide +kernel) rfl rfl ?_
        refine ef_getP (k := 127) (j := 56) (q := 178) rfl eL_12_163 rfl rfl rfl (by decide +kernel) ?_
        refine es_blk (pc' := 137) (L' := [some (.ref 127), some (.int q7), some (.int t8.1)]) (st' := [.int 0, .ref 178, .ref 128, .int ((256 * (t8.2.1 177 0)) + t8.1), .ref 175]) [(.iconst 0, 0)] (by decide +kernel) rfl rfl ?_
        refine ef_aldc (k := 178) (j := 0) rfl (Or.inl ⟨rfl, rfl⟩) (by decide) rfl (by decide +kernel) ?_
        refine es_blk (pc' := 140) (L' := [some (.ref 127), some (.int q7), some (.int t8.1)]) (st' := [.int ((t8.2.1 178 0) + t8.1), .ref 128, .int ((256 * (t8.2.1 177 0)) + t8.1), .ref 175]) [(.iload_n 2, 0), (.iadd, 0)] (by decide +kernel) rfl rfl ?_
        refine ef_ald (k := 128) rfl (Or.inr ⟨Or.inl rfl, rfl⟩) (by decide +kernel) (fun _ => ?_)
        refine ef_astB (k := 175) rfl (by decide +kernel) (fun _ => ?_)
        refine ef_V (fun _ => [some (.ref 127), some (.int q7), some (.int t8.1)]) (fun _ => []) (fun s35 => eh_FW s35) (fun s35 => ?_)
        exact Hj30 _
      refine ef_drop (L2 := [some (.ref 127), some (.int q7), none]) [true, true, false] rfl rfl ?_
      exact HxK26_0 t8.2
  · refine es_blk (pc' := 4) (L' := [some (.ref 127), some (.int t1.1), none]) (st' := [.ref 127, .int t1.1]) [(.iload_n 1, 0), (.aload_n 0, 0)] (by decide +kernel) rfl rfl ?_
    refine ef_getI (k := 127) (j := 58) rfl eL_12_296 (by decide) (by decide +kernel) ?_
    refine es_ige (tgt := 26) (off := (19)) (by decide +kernel) (by decide) (fun h38 => ?_) (fun h38 => ?_)
    · refine es_blk (pc' := 11) (L' := [some (.ref 127), some (.int t1.1), none]) (st' := [.ref 127]) [(.aload_n 0, 0)] (by decide +kernel) rfl rfl ?_
      refine ef_getP (k := 127) (j := 57) (q := 179) rfl eL_12_166 rfl rfl rfl (by decide +kernel) ?_
      refine es_blk (pc' := 16) (L' := [some (.ref 127), some (.int t1.1), none]) (st' := [.int t1.1, .ref 179, .int t1.1, .ref 179]) [(.iload_n 1, 0), (.dup2, 0)] (by decide +kernel) rfl rfl ?_
      refine ef_ald (k := 179) rfl (Or.inl ⟨rfl, rfl⟩) (by decide +kernel) (fun _ => ?_)
      refine es_blk (pc' := 19) (L' := [some (.ref 127), some (.int t1.1), none]) (st' := [.int ((t1.2.1 179 (eh_ix t1.1)) + 1), .int t1.1, .ref 179]) [(.iconst 1, 1), (.iadd, 0)] (by decide +kernel) rfl rfl ?_
      refine ef_ast (k := 179) rfl (by decide +kernel) (fun _ => ?_)
      refine ef_V (fun _ => [some (.ref 127), some (.int t1.1), none]) (fun _ => []) (fun s39 => eh_FW s39) (fun s39 => ?_)
      refine es_blk (pc' := 23) (L' := [some (.ref 127), some (.int (t1.1 + 1)), none]) (st' := []) [(.iinc 1 1, 1)] (by decide +kernel) rfl rfl ?_
      refine ef_V (fun x40 => [some (.ref 127), some (.int x40), none]) (fun _ => []) (fun _ => eh_FW s39) (fun x40 => ?_)
      refine es_goto (tgt := 2) (off := (-21)) (by decide +kernel) (by decide) ?_
      exact Hr37 (x40, s39)
    refine ef_drop (L2 := [some (.ref 127), none, none]) [true, false, true] rfl rfl ?_
    exact HxK36_0 t1.2
def eF_12_poke (s : eh_F) (p0 : Int32) (p1 : Int32) (p2 : Int32) (p3 : Int32) (p4 : Int32) (p5 : Int32) : Option (Int32 × eh_F) := eh_J (fun (u2 : Unit) => some ((-1), s)) (fun j1 => if p0 < 0 then (j1 ()) else (if (eh_rem p0 4) = 0 then (if 131052 < p0 then (j1 ()) else (Option.bind (eF_12_areOpen s p0 20) (fun q6 => if q6 = 0 then (j1 ()) else (Option.bind (eh_loop (fun (r11 : (Int32 × eh_F) → Option (eh_F)) (t8 : Int32 × eh_F) => if t8.1 < 20 then (eh_J (fun (a14 : Int32) => Option.bind (eF_12_setByte t8.2 (p0 + t8.1) (eh_shr a14 (8 * (eh_rem t8.1 4)))) (fun q15 => eh_V ((t8.1 + 1) : Int32) (fun x16 => r11 (x16, q15)))) (fun j13 => if t8.1 < 4 then (j13 p1) else (if t8.1 < 8 then (j13 p2) else (if t8.1 < 12 then (j13 p3) else (if t8.1 < 16 then (j13 p4) else (j13 p5)))))) else (some t8.2)) eh_FU (0, s)) (fun (e9 : eh_F) => some (0, e9)))))) else (j1 ())))
set_option maxHeartbeats 4000000 in
set_option maxRecDepth 100000 in
theorem eS_12_poke (g : eh_P) (s : eh_F) (p0 : Int32) (p1 : Int32) (p2 : Int32) (p3 : Int32) (p4 : Int32) (p5 : Int32) : eh_Sim g eM_12_poke (eh_R 2 0 0) eh_eI 0 0 0 (eh_en 9 [.ref 127, .int p0, .int p1, .int p2, .int p3, .int p4, .int p5]) [] (eh_FW s) (eF_12_poke s p0 p1 p2 p3 p4 p5) := by
  unfold eF_12_poke
  refine ef_top (L := [some (.ref 127), some (.int p0), some (.int p1), some (.int p2), some (.int p3), some (.int p4), some (.int p5), none, none]) rfl ?_
  refine es_blk (pc' := 1) (L' := [some (.ref 127), some (.int p0), some (.int p1), some (.int p2), some (.int p3), some (.int p4), some (.int p5), none, none]) (st' := [.int p0]) [(.iload_n 1, 0)] (by decide +kernel) rfl rfl ?_
  refine ef_J (X := fun j1 => ∀ (u2 : Unit), eh_Sim g eM_12_poke (eh_R 2 0 0) eh_eI 0 0 27 [none, none, none, none, none, none, none, none, none] [] (eh_FW s) ((j1 u2).bind some)) ?_ (fun j1 Hj1 => ?_)
  · intro u2
    refine es_blk (pc' := 28) (L' := [none, none, none, none, none, none, none, none, none]) (st' := [.int (-1)]) [(.iconst (-1), (-1))] (by decide +kernel) rfl rfl ?_
    exact es_ret rfl rfl rfl ⟨by decide +kernel, _, rfl, rfl⟩ (Nat.le_refl _) (Nat.le_refl _)
  refine es_lt (tgt := 27) (off := (26)) (by decide +kernel) (by decide) (fun h3 => ?_) (fun h3 => ?_)
  · refine ef_drop (L2 := [none, none, none, none, none, none, none, none, none]) [false, false, false, false, false, false, false, true, true] rfl rfl ?_
    exact Hj1 ()
  refine es_blk (pc' := 6) (L' := [some (.ref 127), some (.int p0), some (.int p1), some (.int p2), some (.int p3), some (.int p4), some (.int p5), none, none]) (st' := [.int 4, .int p0]) [(.iload_n 1, 0), (.iconst 4, 4)] (by decide +kernel) rfl rfl ?_
  refine es_irem (by decide +kernel) (by decide) ?_
  refine es_ne (tgt := 27) (off := (20)) (by decide +kernel) (by decide) (fun h4 => ?_) (fun h4 => ?_)
  · refine es_blk (pc' := 11) (L' := [some (.ref 127), some (.int p0), some (.int p1), some (.int p2), some (.int p3), some (.int p4), some (.int p5), none, none]) (st' := [.int p0]) [(.iload_n 1, 0)] (by decide +kernel) rfl rfl ?_
    refine es_ldcw (v := 131052) eC_12_625 (by decide +kernel) ?_
    refine es_igt (tgt := 27) (off := (13)) (by decide +kernel) (by decide) (fun h5 => ?_) (fun h5 => ?_)
    · refine ef_drop (L2 := [none, none, none, none, none, none, none, none, none]) [false, false, false, false, false, false, false, true, true] rfl rfl ?_
      exact Hj1 ()
    refine es_blk (pc' := 21) (L' := [some (.ref 127), some (.int p0), some (.int p1), some (.int p2), some (.int p3), some (.int p4), some (.int p5), none, none]) (st' := [.int 20, .int p0, .ref 127]) [(.aload_n 0, 0), (.iload_n 1, 0), (.bipush 20, 20)] (by decide +kernel) rfl rfl ?_
    refine ef_vpI (d := 1) (k := 127) (As := [.int p0, .int 20]) (st := []) eV_12_areOpen eK_12_570 (eS_12_areOpen g s p0 20) rfl rfl (Nat.le_of_ble_eq_true rfl) rfl (Nat.le_of_ble_eq_true rfl) ⟨Nat.le_of_ble_eq_true rfl, Nat.le_of_ble_eq_true rfl⟩ ⟨Nat.le_refl _, Nat.le_refl _⟩ (by decide +kernel) (fun q6 _ => ?_)
    refine es_ne (tgt := 29) (off := (5)) (by decide +kernel) (by decide) (fun h7 => ?_) (fun h7 => ?_)
    · refine ef_drop (L2 := [none, none, none, none, none, none, none, none, none]) [false, false, false, false, false, false, false, true, true] rfl rfl ?_
      exact Hj1 ()
    refine es_blk (pc' := 32) (L' := [some (.ref 127), some (.int p0), some (.int p1), some (.int p2), some (.int p3), some (.int p4), some (.int p5), some (.int 0), none]) (st' := []) [(.iconst 0, 0), (.istore 7, 0)] (by decide +kernel) rfl rfl ?_
    refine ef_loop1 (n := eh_FU) (i := (0, s)) (px := 112) (fun (t8 : Int32 × eh_F) => [some (.ref 127), some (.int p0), some (.int p1), some (.int p2), some (.int p3), some (.int p4), some (.int p5), some (.int t8.1), none]) (fun (t8 : Int32 × eh_F) => []) (fun (t8 : Int32 × eh_F) => eh_FW t8.2) (fun (e9 : eh_F) => [none, none, none, none, none, none, none, none, none]) (fun (e9 : eh_F) => []) (fun (e9 : eh_F) => eh_FW e9) (fun e9 => ?_) (fun K10 HxK10_0 r11 Hr11 t8 => ?_)
    · refine es_blk (pc' := 113) (L' := [none, none, none, none, none, none, none, none, none]) (st' := [.int 0]) [(.iconst 0, 0)] (by decide +kernel) rfl rfl ?_
      exact es_ret rfl rfl rfl ⟨by decide +kernel, _, rfl, rfl⟩ (Nat.le_refl _) (Nat.le_refl _)
    · refine es_blk (pc' := 36) (L' := [some (.ref 127), some (.int p0), some (.int p1), some (.int p2), some (.int p3), some (.int p4), some (.int p5), some (.int t8.1), none]) (st' := [.int 20, .int t8.1]) [(.iload 7, 0), (.bipush 20, 20)] (by decide +kernel) rfl rfl ?_
      refine es_ige (tgt := 112) (off := (76)) (by decide +kernel) (by decide) (fun h12 => ?_) (fun h12 => ?_)
      · refine es_blk (pc' := 42) (L' := [some (.ref 127), some (.int p0), some (.int p1), some (.int p2), some (.int p3), some (.int p4), some (.int p5), some (.int t8.1), none]) (st' := [.int 4, .int t8.1]) [(.iload 7, 0), (.iconst 4, 4)] (by decide +kernel) rfl rfl ?_
        refine ef_J (X := fun j13 => ∀ (a14 : Int32), eh_Sim g eM_12_poke (eh_R 2 0 0) eh_eI 0 0 86 [some (.ref 127), some (.int p0), some (.int p1), some (.int p2), some (.int p3), some (.int p4), some (.int p5), some (.int t8.1), none] [.int a14] (eh_FW t8.2) ((j13 a14).bind K10)) ?_ (fun j13 Hj13 => ?_)
        · intro a14
          refine es_blk (pc' := 100) (L' := [some (.ref 127), some (.int p0), some (.int p1), some (.int p2), some (.int p3), some (.int p4), some (.int p5), some (.int t8.1), some (.int a14)]) (st' := [.int 4, .int t8.1, .int 8, .int a14, .int (p0 + t8.1), .ref 127]) [(.istore 8, 0), (.aload_n 0, 0), (.iload_n 1, 0), (.iload 7, 0), (.iadd, 0), (.iload 8, 0), (.bipush 8, 8), (.iload 7, 0), (.iconst 4, 4)] (by decide +kernel) rfl rfl ?_
          refine es_irem (by decide +kernel) (by decide) ?_
          refine es_blk (pc' := 103) (L' := [some (.ref 127), some (.int p0), some (.int p1), some (.int p2), some (.int p3), some (.int p4), some (.int p5), some (.int t8.1), some (.int a14)]) (st' := [.int (eh_shr a14 (8 * (eh_rem t8.1 4))), .int (p0 + t8.1), .ref 127]) [(.imul, 0), (.ishr, 0)] (by decide +kernel) rfl rfl ?_
          refine ef_veV (d := 1) (k := 127) (As := [.int (p0 + t8.1), .int (eh_shr a14 (8 * (eh_rem t8.1 4)))]) (st := []) eV_12_setByte eK_12_320 (eS_12_setByte g t8.2 (p0 + t8.1) (eh_shr a14 (8 * (eh_rem t8.1 4)))) rfl rfl (Nat.le_of_ble_eq_true rfl) rfl (Nat.le_of_ble_eq_true rfl) ⟨Nat.le_of_ble_eq_true rfl, Nat.le_of_ble_eq_true rfl⟩ ⟨Nat.le_refl _, Nat.le_refl _⟩ (by decide +kernel) (fun q15 _ => ?_)
          refine es_blk (pc' := 109) (L' := [some (.ref 127), some (.int p0), some (.int p1), some (.int p2), some (.int p3), some (.int p4), some (.int p5), some (.int (t8.1 + 1)), some (.int a14)]) (st' := []) [(.iinc 7 1, 1)] (by decide +kernel) rfl rfl ?_
          refine ef_V (fun x16 => [some (.ref 127), some (.int p0), some (.int p1), some (.int p2), some (.int p3), some (.int p4), some (.int p5), some (.int x16), some (.int a14)]) (fun _ => []) (fun _ => eh_FW q15) (fun x16 => ?_)
          refine es_goto (tgt := 32) (off := (-77)) (by decide +kernel) (by decide) ?_
          refine ef_drop (L2 := [some (.ref 127), some (.int p0), some (.int p1), some (.int p2), some (.int p3), some (.int p4), some (.int p5), some (.int x16), none]) [true, true, true, true, true, true, true, true, false] rfl rfl ?_
          exact Hr11 (x16, q15)
        refine es_ige (tgt := 49) (off := (7)) (by decide +kernel) (by decide) (fun h17 => ?_) (fun h17 => ?_)
        · refine es_blk (pc' := 46) (L' := [some (.ref 127), some (.int p0), some (.int p1), some (.int p2), some (.int p3), some (.int p4), some (.int p5), some (.int t8.1), none]) (st' := [.int p1]) [(.iload_n 2, 0)] (by decide +kernel) rfl rfl ?_
          refine es_goto (tgt := 86) (off := (40)) (by decide +kernel) (by decide) ?_
          exact Hj13 _
        refine es_blk (pc' := 53) (L' := [some (.ref 127), some (.int p0), some (.int p1), some (.int p2), some (.int p3), some (.int p4), some (.int p5), some (.int t8.1), none]) (st' := [.int 8, .int t8.1]) [(.iload 7, 0), (.bipush 8, 8)] (by decide +kernel) rfl rfl ?_
        refine es_ige (tgt := 60) (off := (7)) (by decide +kernel) (by decide) (fun h18 => ?_) (fun h18 => ?_)
        · refine es_blk (pc' := 57) (L' := [some (.ref 127), some (.int p0), some (.int p1), some (.int p2), some (.int p3), some (.int p4), some (.int p5), some (.int t8.1), none]) (st' := [.int p2]) [(.iload_n 3, 0)] (by decide +kernel) rfl rfl ?_
          refine es_goto (tgt := 86) (off := (29)) (by decide +kernel) (by decide) ?_
          exact Hj13 _
        refine es_blk (pc' := 64) (L' := [some (.ref 127), some (.int p0), some (.int p1), some (.int p2), some (.int p3), some (.int p4), some (.int p5), some (.int t8.1), none]) (st' := [.int 12, .int t8.1]) [(.iload 7, 0), (.bipush 12, 12)] (by decide +kernel) rfl rfl ?_
        refine es_ige (tgt := 72) (off := (8)) (by decide +kernel) (by decide) (fun h19 => ?_) (fun h19 => ?_)
        · refine es_blk (pc' := 69) (L' := [some (.ref 127), some (.int p0), some (.int p1), some (.int p2), some (.int p3), some (.int p4), some (.int p5), some (.int t8.1), none]) (st' := [.int p3]) [(.iload 4, 0)] (by decide +kernel) rfl rfl ?_
          refine es_goto (tgt := 86) (off := (17)) (by decide +kernel) (by decide) ?_
          exact Hj13 _
        refine es_blk (pc' := 76) (L' := [some (.ref 127), some (.int p0), some (.int p1), some (.int p2), some (.int p3), some (.int p4), some (.int p5), some (.int t8.1), none]) (st' := [.int 16, .int t8.1]) [(.iload 7, 0), (.bipush 16, 16)] (by decide +kernel) rfl rfl ?_
        refine es_ige (tgt := 84) (off := (8)) (by decide +kernel) (by decide) (fun h20 => ?_) (fun h20 => ?_)
        · refine es_blk (pc' := 81) (L' := [some (.ref 127), some (.int p0), some (.int p1), some (.int p2), some (.int p3), some (.int p4), some (.int p5), some (.int t8.1), none]) (st' := [.int p4]) [(.iload 5, 0)] (by decide +kernel) rfl rfl ?_
          refine es_goto (tgt := 86) (off := (5)) (by decide +kernel) (by decide) ?_
          exact Hj13 _
        refine es_blk (pc' := 86) (L' := [some (.ref 127), some (.int p0), some (.int p1), some (.int p2), some (.int p3), some (.int p4), some (.int p5), some (.int t8.1), none]) (st' := [.int p5]) [(.iload 6, 0)] (by decide +kernel) rfl rfl ?_
        exact Hj13 _
      refine ef_drop (L2 := [none, none, none, none, none, none, none, none, none]) [false, false, false, false, false, false, false, false, true] rfl rfl ?_
      exact HxK10_0 t8.2
  refine ef_drop (L2 := [none, none, none, none, none, none, none, none, none]) [false, false, false, false, false, false, false, true, true] rfl rfl ?_
  exact Hj1 ()
def eF_12_word (s : eh_F) (p0 : Int32) : Option (Int32) := Option.bind (eF_12_isWord s p0) (fun q1 => eh_J (fun (a3 : Int32) => some a3) (fun j2 => eh_J (fun (u5 : Unit) => j2 0) (fun j4 => if q1 = 0 then (j4 ()) else (Option.bind (eF_12_isOpen s p0) (fun q7 => if q7 = 0 then (j4 ()) else (Option.bind (eF_12_littleWord s 128 131072 p0) (fun q9 => j2 q9)))))))
set_option maxHeartbeats 4000000 in
set_option maxRecDepth 100000 in
theorem eS_12_word (g : eh_P) (s : eh_F) (p0 : Int32) : eh_Sim g eM_12_word (eh_R 2 0 0) (eh_pI s) 0 0 0 (eh_en 2 [.ref 127, .int p0]) [] (eh_FW s) (eF_12_word s p0) := by
  unfold eF_12_word
  refine ef_top (L := [some (.ref 127), some (.int p0)]) rfl ?_
  refine es_blk (pc' := 2) (L' := [some (.ref 127), some (.int p0)]) (st' := [.int p0, .ref 127]) [(.aload_n 0, 0), (.iload_n 1, 0)] (by decide +kernel) rfl rfl ?_
  refine ef_vpI (d := 1) (k := 127) (As := [.int p0]) (st := []) eV_12_isWord eK_12_626 (eS_12_isWord g s p0) rfl rfl (Nat.le_of_ble_eq_true rfl) rfl (Nat.le_of_ble_eq_true rfl) ⟨Nat.le_of_ble_eq_true rfl, Nat.le_of_ble_eq_true rfl⟩ ⟨Nat.le_refl _, Nat.le_refl _⟩ (by decide +kernel) (fun q1 _ => ?_)
  refine ef_J (X := fun j2 => ∀ (a3 : Int32), eh_Sim g eM_12_word (eh_R 2 0 0) (eh_pI s) 0 0 28 [none, none] [.int a3] (eh_FW s) ((j2 a3).bind some)) ?_ (fun j2 Hj2 => ?_)
  · intro a3
    exact es_ret rfl rfl rfl ⟨by decide +kernel, _, rfl, rfl⟩ (Nat.le_refl _) (Nat.le_refl _)
  refine ef_J (X := fun j4 => ∀ (u5 : Unit), eh_Sim g eM_12_word (eh_R 2 0 0) (eh_pI s) 0 0 27 [none, none] [] (eh_FW s) ((j4 u5).bind some)) ?_ (fun j4 Hj4 => ?_)
  · intro u5
    refine es_blk (pc' := 28) (L' := [none, none]) (st' := [.int 0]) [(.iconst 0, 0)] (by decide +kernel) rfl rfl ?_
    exact Hj2 _
  refine es_eq (tgt := 27) (off := (22)) (by decide +kernel) (by decide) (fun h6 => ?_) (fun h6 => ?_)
  · refine ef_drop (L2 := [none, none]) [false, false] rfl rfl ?_
    exact Hj4 ()
  refine es_blk (pc' := 10) (L' := [some (.ref 127), some (.int p0)]) (st' := [.int p0, .ref 127]) [(.aload_n 0, 0), (.iload_n 1, 0)] (by decide +kernel) rfl rfl ?_
  refine ef_vpI (d := 1) (k := 127) (As := [.int p0]) (st := []) eV_12_isOpen eK_12_629 (eS_12_isOpen g s p0) rfl rfl (Nat.le_of_ble_eq_true rfl) rfl (Nat.le_of_ble_eq_true rfl) ⟨Nat.le_of_ble_eq_true rfl, Nat.le_of_ble_eq_true rfl⟩ ⟨Nat.le_refl _, Nat.le_refl _⟩ (by decide +kernel) (fun q7 _ => ?_)
  refine es_eq (tgt := 27) (off := (14)) (by decide +kernel) (by decide) (fun h8 => ?_) (fun h8 => ?_)
  · refine ef_drop (L2 := [none, none]) [false, false] rfl rfl ?_
    exact Hj4 ()
  refine es_blk (pc' := 17) (L' := [some (.ref 127), some (.int p0)]) (st' := [.ref 127]) [(.aload_n 0, 0)] (by decide +kernel) rfl rfl ?_
  refine ef_getP (k := 127) (j := 0) (q := 128) rfl eL_12_10 rfl rfl rfl (by decide +kernel) ?_
  refine es_blk (pc' := 21) (L' := [some (.ref 127), some (.int p0)]) (st' := [.int p0, .ref 128]) [(.iload_n 1, 0)] (by decide +kernel) rfl rfl ?_
  refine ef_spI (d := 1) (As := [.ref 128, .int p0]) (st := []) eV_12_littleWord eK_12_368 (eS_12_littleWord g s 128 131072 p0 rfl) rfl (Nat.le_of_ble_eq_true rfl) rfl (Nat.le_of_ble_eq_true rfl) ⟨Nat.le_of_ble_eq_true rfl, Nat.le_of_ble_eq_true rfl⟩ ⟨Nat.le_refl _, Nat.le_refl _⟩ (by decide +kernel) (fun q9 _ => ?_)
  refine es_goto (tgt := 28) (off := (4)) (by decide +kernel) (by decide) ?_
  refine ef_drop (L2 := [none, none]) [false, false] rfl rfl ?_
  exact Hj2 _
def eF_12_inner (s : eh_F) (p0 : Int32) : Option (Int32) := Option.bind (eF_12_isWord s p0) (fun q1 => eh_J (fun (a3 : Int32) => some a3) (fun j2 => if q1 = 0 then (j2 0) else (Option.bind (eF_12_littleWord s 128 131072 p0) (fun q5 => j2 q5))))
set_option maxHeartbeats 4000000 in
set_option maxRecDepth 100000 in
theorem eS_12_inner (g : eh_P) (s : eh_F) (p0 : Int32) : eh_Sim g eM_12_inner (eh_R 2 0 0) (eh_pI s) 0 0 0 (eh_en 2 [.ref 127, .int p0]) [] (eh_FW s) (eF_12_inner s p0) := by
  unfold eF_12_inner
  refine ef_top (L := [some (.ref 127), some (.int p0)]) rfl ?_
  refine es_blk (pc' := 2) (L' := [some (.ref 127), some (.int p0)]) (st' := [.int p0, .ref 127]) [(.aload_n 0, 0), (.iload_n 1, 0)] (by decide +kernel) rfl rfl ?_
  refine ef_vpI (d := 1) (k := 127) (As := [.int p0]) (st := []) eV_12_isWord eK_12_626 (eS_12_isWord g s p0) rfl rfl (Nat.le_of_ble_eq_true rfl) rfl (Nat.le_of_ble_eq_true rfl) ⟨Nat.le_of_ble_eq_true rfl, Nat.le_of_ble_eq_true rfl⟩ ⟨Nat.le_refl _, Nat.le_refl _⟩ (by decide +kernel) (fun q1 _ => ?_)
  refine ef_J (X := fun j2 => ∀ (a3 : Int32), eh_Sim g eM_12_inner (eh_R 2 0 0) (eh_pI s) 0 0 20 [none, none] [.int a3] (eh_FW s) ((j2 a3).bind some)) ?_ (fun j2 Hj2 => ?_)
  · intro a3
    exact es_ret rfl rfl rfl ⟨by decide +kernel, _, rfl, rfl⟩ (Nat.le_refl _) (Nat.le_refl _)
  refine es_eq (tgt := 19) (off := (14)) (by decide +kernel) (by decide) (fun h4 => ?_) (fun h4 => ?_)
  · refine es_blk (pc' := 20) (L' := [some (.ref 127), some (.int p0)]) (st' := [.int 0]) [(.iconst 0, 0)] (by decide +kernel) rfl rfl ?_
    refine ef_drop (L2 := [none, none]) [false, false] rfl rfl ?_
    exact Hj2 _
  refine es_blk (pc' := 9) (L' := [some (.ref 127), some (.int p0)]) (st' := [.ref 127]) [(.aload_n 0, 0)] (by decide +kernel) rfl rfl ?_
  refine ef_getP (k := 127) (j := 0) (q := 128) rfl eL_12_10 rfl rfl rfl (by decide +kernel) ?_
  refine es_blk (pc' := 13) (L' := [some (.ref 127), some (.int p0)]) (st' := [.int p0, .ref 128]) [(.iload_n 1, 0)] (by decide +kernel) rfl rfl ?_
  refine ef_spI (d := 1) (As := [.ref 128, .int p0]) (st := []) eV_12_littleWord eK_12_368 (eS_12_littleWord g s 128 131072 p0 rfl) rfl (Nat.le_of_ble_eq_true rfl) rfl (Nat.le_of_ble_eq_true rfl) ⟨Nat.le_of_ble_eq_true rfl, Nat.le_of_ble_eq_true rfl⟩ ⟨Nat.le_refl _, Nat.le_refl _⟩ (by decide +kernel) (fun q5 _ => ?_)
  refine es_goto (tgt := 20) (off := (4)) (by decide +kernel) (by decide) ?_
  refine ef_drop (L2 := [none, none]) [false, false] rfl rfl ?_
  exact Hj2 _
def eF_12_secret (s : eh_F) (p0 : Int32) (p1 : Int32) (p2 : Int32) : Option (Int32 × eh_F) := Option.bind (eF_12_isEnclave s p0) (fun q1 => eh_J (fun (u3 : Unit) => some ((-1), s)) (fun j2 => if q1 = 0 then (j2 ()) else (if p1 < 0 then (j2 ()) else (if eh_in p0 6 then if eh_in (s.1 156 (eh_ix p0)) 12 then if p1 < (s.1 166 (eh_ix (s.1 156 (eh_ix p0)))) then (if p2 < 0 then (j2 ()) else (if 255 < p2 then (j2 ()) else (if eh_in p0 6 then if eh_in (s.1 156 (eh_ix p0)) 12 then eh_V (((s.1 165 (eh_ix (s.1 156 (eh_ix p0)))) + p1) : Int32) (fun x9 => if eh_in x9 131072 then eh_V (((s.1 128 (eh_ix x9)) &&& 255) : Int32) (fun x10 => if eh_in x9 131072 then eh_V (eh_tI s 128 (eh_ix x9) (eh_nb (eh_nb p2))) (fun s11 => some (x10, s11)) else none) else none) else none else none))) else (j2 ()) else none else none))))
set_option maxHeartbeats 4000000 in
set_option maxRecDepth 100000 in
theorem eS_12_secret (g : eh_P) (s : eh_F) (p0 : Int32) (p1 : Int32) (p2 : Int32) : eh_Sim g eM_12_secret (eh_R 2 0 0) eh_eI 0 0 0 (eh_en 6 [.ref 127, .int p0, .int p1, .int p2]) [] (eh_FW s) (eF_12_secret s p0 p1 p2) := by
  unfold eF_12_secret
  refine ef_top (L := [some (.ref 127), some (.int p0), some (.int p1), some (.int p2), none, none]) rfl ?_
  refine es_blk (pc' := 2) (L' := [some (.ref 127), some (.int p0), some (.int p1), some (.int p2), none, none]) (st' := [.int p0, .ref 127]) [(.aload_n 0, 0), (.iload_n 1, 0)] (by decide +kernel) rfl rfl ?_
  refine ef_vpI (d := 1) (k := 127) (As := [.int p0]) (st := []) eV_12_isEnclave eK_12_549 (eS_12_isEnclave g s p0) rfl rfl (Nat.le_of_ble_eq_true rfl) rfl (Nat.le_of_ble_eq_true rfl) ⟨Nat.le_of_ble_eq_true rfl, Nat.le_of_ble_eq_true rfl⟩ ⟨Nat.le_refl _, Nat.le_refl _⟩ (by decide +kernel) (fun q1 _ => ?_)
  refine ef_J (X := fun j2 => ∀ (u3 : Unit), eh_Sim g eM_12_secret (eh_R 2 0 0) eh_eI 0 0 38 [none, none, none, none, none, none] [] (eh_FW s) ((j2 u3).bind some)) ?_ (fun j2 Hj2 => ?_)
  · intro u3
    refine es_blk (pc' := 39) (L' := [none, none, none, none, none, none]) (st' := [.int (-1)]) [(.iconst (-1), (-1))] (by decide +kernel) rfl rfl ?_
    exact es_ret rfl rfl rfl ⟨by decide +kernel, _, rfl, rfl⟩ (Nat.le_refl _) (Nat.le_refl _)
  refine es_eq (tgt := 38) (off := (33)) (by decide +kernel) (by decide) (fun h4 => ?_) (fun h4 => ?_)
  · refine ef_drop (L2 := [none, none, none, none, none, none]) [false, false, false, false, true, true] rfl rfl ?_
    exact Hj2 ()
  refine es_blk (pc' := 9) (L' := [some (.ref 127), some (.int p0), some (.int p1), some (.int p2), none, none]) (st' := [.int p1]) [(.iload_n 2, 0)] (by decide +kernel) rfl rfl ?_
  refine es_lt (tgt := 38) (off := (29)) (by decide +kernel) (by decide) (fun h5 => ?_) (fun h5 => ?_)
  · refine ef_drop (L2 := [none, none, none, none, none, none]) [false, false, false, false, true, true] rfl rfl ?_
    exact Hj2 ()
  refine es_blk (pc' := 14) (L' := [some (.ref 127), some (.int p0), some (.int p1), some (.int p2), none, none]) (st' := [.ref 127, .int p1]) [(.iload_n 2, 0), (.aload_n 0, 0)] (by decide +kernel) rfl rfl ?_
  refine ef_getP (k := 127) (j := 41) (q := 166) rfl eL_12_127 rfl rfl rfl (by decide +kernel) ?_
  refine es_blk (pc' := 18) (L' := [some (.ref 127), some (.int p0), some (.int p1), some (.int p2), none, none]) (st' := [.ref 127, .ref 166, .int p1]) [(.aload_n 0, 0)] (by decide +kernel) rfl rfl ?_
  refine ef_getP (k := 127) (j := 31) (q := 156) rfl eL_12_97 rfl rfl rfl (by decide +kernel) ?_
  refine es_blk (pc' := 22) (L' := [some (.ref 127), some (.int p0), some (.int p1), some (.int p2), none, none]) (st' := [.int p0, .ref 156, .ref 166, .int p1]) [(.iload_n 1, 0)] (by decide +kernel) rfl rfl ?_
  refine ef_ald (k := 156) rfl (Or.inl ⟨rfl, rfl⟩) (by decide +kernel) (fun _ => ?_)
  refine ef_ald (k := 166) rfl (Or.inl ⟨rfl, rfl⟩) (by decide +kernel) (fun _ => ?_)
  refine es_ige (tgt := 38) (off := (14)) (by decide +kernel) (by decide) (fun h6 => ?_) (fun h6 => ?_)
  · refine es_blk (pc' := 28) (L' := [some (.ref 127), some (.int p0), some (.int p1), some (.int p2), none, none]) (st' := [.int p2]) [(.iload_n 3, 0)] (by decide +kernel) rfl rfl ?_
    refine es_lt (tgt := 38) (off := (10)) (by decide +kernel) (by decide) (fun h7 => ?_) (fun h7 => ?_)
    · refine ef_drop (L2 := [none, none, none, none, none, none]) [false, false, false, false, true, true] rfl rfl ?_
      exact Hj2 ()
    refine es_blk (pc' := 35) (L' := [some (.ref 127), some (.int p0), some (.int p1), some (.int p2), none, none]) (st' := [.int 255, .int p2]) [(.iload_n 3, 0), (.sipush 255, 255)] (by decide +kernel) rfl rfl ?_
    refine es_ile (tgt := 40) (off := (5)) (by decide +kernel) (by decide) (fun h8 => ?_) (fun h8 => ?_)
    · refine ef_drop (L2 := [none, none, none, none, none, none]) [false, false, false, false, true, true] rfl rfl ?_
      exact Hj2 ()
    refine es_blk (pc' := 41) (L' := [some (.ref 127), some (.int p0), some (.int p1), some (.int p2), none, none]) (st' := [.ref 127]) [(.aload_n 0, 0)] (by decide +kernel) rfl rfl ?_
    refine ef_getP (k := 127) (j := 40) (q := 165) rfl eL_12_124 rfl rfl rfl (by decide +kernel) ?_
    refine es_blk (pc' := 45) (L' := [some (.ref 127), some (.int p0), some (.int p1), some (.int p2), none, none]) (st' := [.ref 127, .ref 165]) [(.aload_n 0, 0)] (by decide +kernel) rfl rfl ?_
    refine ef_getP (k := 127) (j := 31) (q := 156) rfl eL_12_97 rfl rfl rfl (by decide +kernel) ?_
    refine es_blk (pc' := 49) (L' := [some (.ref 127), some (.int p0), some (.int p1), some (.int p2), none, none]) (st' := [.int p0, .ref 156, .ref 165]) [(.iload_n 1, 0)] (by decide +kernel) rfl rfl ?_
    refine ef_ald (k := 156) rfl (Or.inl ⟨rfl, rfl⟩) (by decide +kernel) (fun _ => ?_)
    refine ef_ald (k := 165) rfl (Or.inl ⟨rfl, rfl⟩) (by decide +kernel) (fun _ => ?_)
    refine es_blk (pc' := 55) (L' := [some (.ref 127), some (.int p0), some (.int p1), some (.int p2), some (.int ((s.1 165 (eh_ix (s.1 156 (eh_ix p0)))) + p1)), none]) (st' := []) [(.iload_n 2, 0), (.iadd, 0), (.istore 4, 0)] (by decide +kernel) rfl rfl ?_
    refine ef_V (fun x9 => [some (.ref 127), some (.int p0), some (.int p1), some (.int p2), some (.int x9), none]) (fun _ => []) (fun _ => eh_FW s) (fun x9 => ?_)
    refine es_blk (pc' := 56) (L' := [some (.ref 127), some (.int p0), some (.int p1), some (.int p2), some (.int x9), none]) (st' := [.ref 127]) [(.aload_n 0, 0)] (by decide +kernel) rfl rfl ?_
    refine ef_getP (k := 127) (j := 0) (q := 128) rfl eL_12_10 rfl rfl rfl (by decide +kernel) ?_
    refine es_blk (pc' := 61) (L' := [some (.ref 127), some (.int p0), some (.int p1), some (.int p2), some (.int x9), none]) (st' := [.int x9, .ref 128]) [(.iload 4, 0)] (by decide +kernel) rfl rfl ?_
    refine ef_ald (k := 128) rfl (Or.inr ⟨Or.inl rfl, rfl⟩) (by decide +kernel) (fun _ => ?_)
    refine es_blk (pc' := 68) (L' := [some (.ref 127), some (.int p0), some (.int p1), some (.int p2), some (.int x9), some (.int ((s.1 128 (eh_ix x9)) &&& 255))]) (st' := []) [(.sipush 255, 255), (.iand, 0), (.istore 5, 0)] (by decide +kernel) rfl rfl ?_
    refine ef_V (fun x10 => [some (.ref 127), some (.int p0), some (.int p1), some (.int p2), some (.int x9), some (.int x10)]) (fun _ => []) (fun _ => eh_FW s) (fun x10 => ?_)
    refine es_blk (pc' := 69) (L' := [some (.ref 127), some (.int p0), some (.int p1), some (.int p2), some (.int x9), some (.int x10)]) (st' := [.ref 127]) [(.aload_n 0, 0)] (by decide +kernel) rfl rfl ?_
    refine ef_getP (k := 127) (j := 0) (q := 128) rfl eL_12_10 rfl rfl rfl (by decide +kernel) ?_
    refine es_blk (pc' := 76) (L' := [some (.ref 127), some (.int p0), some (.int p1), some (.int p2), some (.int x9), some (.int x10)]) (st' := [.int (eh_nb p2), .int x9, .ref 128]) [(.iload 4, 0), (.iload_n 3, 0), (.i2b, 0)] (by decide +kernel) rfl rfl ?_
    refine ef_astB (k := 128) rfl (by decide +kernel) (fun _ => ?_)
    refine ef_V (fun _ => [some (.ref 127), some (.int p0), some (.int p1), some (.int p2), some (.int x9), some (.int x10)]) (fun _ => []) (fun s11 => eh_FW s11) (fun s11 => ?_)
    refine es_blk (pc' := 79) (L' := [some (.ref 127), some (.int p0), some (.int p1), some (.int p2), some (.int x9), some (.int x10)]) (st' := [.int x10]) [(.iload 5, 0)] (by decide +kernel) rfl rfl ?_
    exact es_ret rfl rfl rfl ⟨by decide +kernel, _, rfl, rfl⟩ (Nat.le_refl _) (Nat.le_refl _)
  refine ef_drop (L2 := [none, none, none, none, none, none]) [false, false, false, false, true, true] rfl rfl ?_
  exact Hj2 ()
def eF_12_setRegister (s : eh_F) (p0 : Int32) (p1 : Int32) (p2 : Int32) : Option (Int32 × eh_F) := Option.bind (eF_12_isHart s p0) (fun q1 => eh_J (fun (u3 : Unit) => some (0, s)) (fun j2 => if q1 = 0 then (j2 ()) else (if p1 < 0 then (j2 ()) else (if 31 < p1 then (j2 ()) else (if eh_in ((32 * p0) + p1) 448 then eh_V ((s.1 129 (eh_ix ((32 * p0) + p1))) : Int32) (fun x7 => eh_J (fun (a9 : Int32) => if eh_in ((32 * p0) + p1) 448 then eh_V (eh_tI s 129 (eh_ix ((32 * p0) + p1)) a9) (fun s10 => some (x7, s10)) else none) (fun j8 => if p1 = 0 then (j8 0) else (j8 p2))) else none)))))
set_option maxHeartbeats 4000000 in
set_option maxRecDepth 100000 in
theorem eS_12_setRegister (g : eh_P) (s : eh_F) (p0 : Int32) (p1 : Int32) (p2 : Int32) : eh_Sim g eM_12_setRegister (eh_R 2 0 0) eh_eI 0 0 0 (eh_en 5 [.ref 127, .int p0, .int p1, .int p2]) [] (eh_FW s) (eF_12_setRegister s p0 p1 p2) := by
  unfold eF_12_setRegister
  refine ef_top (L := [some (.ref 127), some (.int p0), some (.int p1), some (.int p2), none]) rfl ?_
  refine es_blk (pc' := 1) (L' := [some (.ref 127), some (.int p0), some (.int p1), some (.int p2), none]) (st' := [.int p0]) [(.iload_n 1, 0)] (by decide +kernel) rfl rfl ?_
  refine ef_spI (d := 1) (As := [.int p0]) (st := []) eV_12_isHart eK_12_632 (eS_12_isHart g s p0) rfl (Nat.le_of_ble_eq_true rfl) rfl (Nat.le_of_ble_eq_true rfl) ⟨Nat.le_of_ble_eq_true rfl, Nat.le_of_ble_eq_true rfl⟩ ⟨Nat.le_refl _, Nat.le_refl _⟩ (by decide +kernel) (fun q1 _ => ?_)
  refine ef_J (X := fun j2 => ∀ (u3 : Unit), eh_Sim g eM_12_setRegister (eh_R 2 0 0) eh_eI 0 0 17 [none, none, none, none, none] [] (eh_FW s) ((j2 u3).bind some)) ?_ (fun j2 Hj2 => ?_)
  · intro u3
    refine es_blk (pc' := 18) (L' := [none, none, none, none, none]) (st' := [.int 0]) [(.iconst 0, 0)] (by decide +kernel) rfl rfl ?_
    exact es_ret rfl rfl rfl ⟨by decide +kernel, _, rfl, rfl⟩ (Nat.le_refl _) (Nat.le_refl _)
  refine es_eq (tgt := 17) (off := (13)) (by decide +kernel) (by decide) (fun h4 => ?_) (fun h4 => ?_)
  · refine ef_drop (L2 := [none, none, none, none, none]) [false, false, false, false, true] rfl rfl ?_
    exact Hj2 ()
  refine es_blk (pc' := 8) (L' := [some (.ref 127), some (.int p0), some (.int p1), some (.int p2), none]) (st' := [.int p1]) [(.iload_n 2, 0)] (by decide +kernel) rfl rfl ?_
  refine es_lt (tgt := 17) (off := (9)) (by decide +kernel) (by decide) (fun h5 => ?_) (fun h5 => ?_)
  · refine ef_drop (L2 := [none, none, none, none, none]) [false, false, false, false, true] rfl rfl ?_
    exact Hj2 ()
  refine es_blk (pc' := 14) (L' := [some (.ref 127), some (.int p0), some (.int p1), some (.int p2), none]) (st' := [.int 31, .int p1]) [(.iload_n 2, 0), (.bipush 31, 31)] (by decide +kernel) rfl rfl ?_
  refine es_ile (tgt := 19) (off := (5)) (by decide +kernel) (by decide) (fun h6 => ?_) (fun h6 => ?_)
  · refine ef_drop (L2 := [none, none, none, none, none]) [false, false, false, false, true] rfl rfl ?_
    exact Hj2 ()
  refine es_blk (pc' := 20) (L' := [some (.ref 127), some (.int p0), some (.int p1), some (.int p2), none]) (st' := [.ref 127]) [(.aload_n 0, 0)] (by decide +kernel) rfl rfl ?_
  refine ef_getP (k := 127) (j := 1) (q := 129) rfl eL_12_14 rfl rfl rfl (by decide +kernel) ?_
  refine es_blk (pc' := 29) (L' := [some (.ref 127), some (.int p0), some (.int p1), some (.int p2), none]) (st' := [.int ((32 * p0) + p1), .ref 129]) [(.bipush 32, 32), (.iload_n 1, 0), (.imul, 0), (.iload_n 2, 0), (.iadd, 0)] (by decide +kernel) rfl rfl ?_
  refine ef_ald (k := 129) rfl (Or.inl ⟨rfl, rfl⟩) (by decide +kernel) (fun _ => ?_)
  refine es_blk (pc' := 32) (L' := [some (.ref 127), some (.int p0), some (.int p1), some (.int p2), some (.int (s.1 129 (eh_ix ((32 * p0) + p1))))]) (st' := []) [(.istore 4, 0)] (by decide +kernel) rfl rfl ?_
  refine ef_V (fun x7 => [some (.ref 127), some (.int p0), some (.int p1), some (.int p2), some (.int x7)]) (fun _ => []) (fun _ => eh_FW s) (fun x7 => ?_)
  refine es_blk (pc' := 33) (L' := [some (.ref 127), some (.int p0), some (.int p1), some (.int p2), some (.int x7)]) (st' := [.ref 127]) [(.aload_n 0, 0)] (by decide +kernel) rfl rfl ?_
  refine ef_getP (k := 127) (j := 1) (q := 129) rfl eL_12_14 rfl rfl rfl (by decide +kernel) ?_
  refine es_blk (pc' := 43) (L' := [some (.ref 127), some (.int p0), some (.int p1), some (.int p2), some (.int x7)]) (st' := [.int p1, .int ((32 * p0) + p1), .ref 129]) [(.bipush 32, 32), (.iload_n 1, 0), (.imul, 0), (.iload_n 2, 0), (.iadd, 0), (.iload_n 2, 0)] (by decide +kernel) rfl rfl ?_
  refine ef_J (X := fun j8 => ∀ (a9 : Int32), eh_Sim g eM_12_setRegister (eh_R 2 0 0) eh_eI 0 0 51 [none, none, none, none, some (.int x7)] [.int a9, .int ((32 * p0) + p1), .ref 129] (eh_FW s) ((j8 a9).bind some)) ?_ (fun j8 Hj8 => ?_)
  · intro a9
    refine ef_ast (k := 129) rfl (by decide +kernel) (fun _ => ?_)
    refine ef_V (fun _ => [none, none, none, none, some (.int x7)]) (fun _ => []) (fun s10 => eh_FW s10) (fun s10 => ?_)
    refine es_blk (pc' := 54) (L' := [none, none, none, none, some (.int x7)]) (st' := [.int x7]) [(.iload 4, 0)] (by decide +kernel) rfl rfl ?_
    exact es_ret rfl rfl rfl ⟨by decide +kernel, _, rfl, rfl⟩ (Nat.le_refl _) (Nat.le_refl _)
  refine es_ne (tgt := 50) (off := (7)) (by decide +kernel) (by decide) (fun h11 => ?_) (fun h11 => ?_)
  · refine es_blk (pc' := 47) (L' := [some (.ref 127), some (.int p0), some (.int p1), some (.int p2), some (.int x7)]) (st' := [.int 0, .int ((32 * p0) + p1), .ref 129]) [(.iconst 0, 0)] (by decide +kernel) rfl rfl ?_
    refine es_goto (tgt := 51) (off := (4)) (by decide +kernel) (by decide) ?_
    refine ef_drop (L2 := [none, none, none, none, some (.int x7)]) [false, false, false, false, true] rfl rfl ?_
    exact Hj8 _
  refine es_blk (pc' := 51) (L' := [some (.ref 127), some (.int p0), some (.int p1), some (.int p2), some (.int x7)]) (st' := [.int p2, .int ((32 * p0) + p1), .ref 129]) [(.iload_n 3, 0)] (by decide +kernel) rfl rfl ?_
  refine ef_drop (L2 := [none, none, none, none, some (.int x7)]) [false, false, false, false, true] rfl rfl ?_
  exact Hj8 _
def eF_12_register (s : eh_F) (p0 : Int32) (p1 : Int32) : Option (Int32) := Option.bind (eF_12_isHart s p0) (fun q1 => eh_J (fun (a3 : Int32) => some a3) (fun j2 => eh_J (fun (u5 : Unit) => j2 0) (fun j4 => if q1 = 0 then (j4 ()) else (if p1 < 0 then (j4 ()) else (if p1 < 32 then (if eh_in ((32 * p0) + p1) 448 then j2 (s.1 129 (eh_ix ((32 * p0) + p1))) else none) else (j4 ()))))))
set_option maxHeartbeats 4000000 in
set_option maxRecDepth 100000 in
theorem eS_12_register (g : eh_P) (s : eh_F) (p0 : Int32) (p1 : Int32) : eh_Sim g eM_12_register (eh_R 2 0 0) (eh_pI s) 0 0 0 (eh_en 3 [.ref 127, .int p0, .int p1]) [] (eh_FW s) (eF_12_register s p0 p1) := by
  unfold eF_12_register
  refine ef_top (L := [some (.ref 127), some (.int p0), some (.int p1)]) rfl ?_
  refine es_blk (pc' := 1) (L' := [some (.ref 127), some (.int p0), some (.int p1)]) (st' := [.int p0]) [(.iload_n 1, 0)] (by decide +kernel) rfl rfl ?_
  refine ef_spI (d := 1) (As := [.int p0]) (st := []) eV_12_isHart eK_12_632 (eS_12_isHart g s p0) rfl (Nat.le_of_ble_eq_true rfl) rfl (Nat.le_of_ble_eq_true rfl) ⟨Nat.le_of_ble_eq_true rfl, Nat.le_of_ble_eq_true rfl⟩ ⟨Nat.le_refl _, Nat.le_refl _⟩ (by decide +kernel) (fun q1 _ => ?_)
  refine ef_J (X := fun j2 => ∀ (a3 : Int32), eh_Sim g eM_12_register (eh_R 2 0 0) (eh_pI s) 0 0 32 [none, none, none] [.int a3] (eh_FW s) ((j2 a3).bind some)) ?_ (fun j2 Hj2 => ?_)
  · intro a3
    exact es_ret rfl rfl rfl ⟨by decide +kernel, _, rfl, rfl⟩ (Nat.le_refl _) (Nat.le_refl _)
  refine ef_J (X := fun j4 => ∀ (u5 : Unit), eh_Sim g eM_12_register (eh_R 2 0 0) (eh_pI s) 0 0 31 [none, none, none] [] (eh_FW s) ((j4 u5).bind some)) ?_ (fun j4 Hj4 => ?_)
  · intro u5
    refine es_blk (pc' := 32) (L' := [none, none, none]) (st' := [.int 0]) [(.iconst 0, 0)] (by decide +kernel) rfl rfl ?_
    exact Hj2 _
  refine es_eq (tgt := 31) (off := (27)) (by decide +kernel) (by decide) (fun h6 => ?_) (fun h6 => ?_)
  · refine ef_drop (L2 := [none, none, none]) [false, false, false] rfl rfl ?_
    exact Hj4 ()
  refine es_blk (pc' := 8) (L' := [some (.ref 127), some (.int p0), some (.int p1)]) (st' := [.int p1]) [(.iload_n 2, 0)] (by decide +kernel) rfl rfl ?_
  refine es_lt (tgt := 31) (off := (23)) (by decide +kernel) (by decide) (fun h7 => ?_) (fun h7 => ?_)
  · refine ef_drop (L2 := [none, none, none]) [false, false, false] rfl rfl ?_
    exact Hj4 ()
  refine es_blk (pc' := 14) (L' := [some (.ref 127), some (.int p0), some (.int p1)]) (st' := [.int 32, .int p1]) [(.iload_n 2, 0), (.bipush 32, 32)] (by decide +kernel) rfl rfl ?_
  refine es_ige (tgt := 31) (off := (17)) (by decide +kernel) (by decide) (fun h8 => ?_) (fun h8 => ?_)
  · refine es_blk (pc' := 18) (L' := [some (.ref 127), some (.int p0), some (.int p1)]) (st' := [.ref 127]) [(.aload_n 0, 0)] (by decide +kernel) rfl rfl ?_
    refine ef_getP (k := 127) (j := 1) (q := 129) rfl eL_12_14 rfl rfl rfl (by decide +kernel) ?_
    refine es_blk (pc' := 27) (L' := [some (.ref 127), some (.int p0), some (.int p1)]) (st' := [.int ((32 * p0) + p1), .ref 129]) [(.bipush 32, 32), (.iload_n 1, 0), (.imul, 0), (.iload_n 2, 0), (.iadd, 0)] (by decide +kernel) rfl rfl ?_
    refine ef_ald (k := 129) rfl (Or.inl ⟨rfl, rfl⟩) (by decide +kernel) (fun _ => ?_)
    refine es_goto (tgt := 32) (off := (4)) (by decide +kernel) (by decide) ?_
    refine ef_drop (L2 := [none, none, none]) [false, false, false] rfl rfl ?_
    exact Hj2 _
  refine ef_drop (L2 := [none, none, none]) [false, false, false] rfl rfl ?_
  exact Hj4 ()
