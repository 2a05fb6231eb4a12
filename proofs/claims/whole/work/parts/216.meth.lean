def eF_3_receive (s : eh_F) (p0 : Nat) (p1 : Int32) : Option (Int32 × eh_F) := Option.bind (eF_3_reaches s p0 p1 64 2) (fun q1 => if q1 = 0 then (some ((-1), s)) else (if eh_in (s.1 p0 3) 6 then eh_J (fun (a5 : Int32) => Option.bind (eF_5_note s 7 p0 a5 0 0) (fun q6 => eh_J (fun (s8 : eh_F) => some (a5, s8)) (fun j7 => if (q6.1 (eh_ep (s.1 p0 3)) 11) = 0 then (j7 q6) else (eh_V (eh_tI q6 (eh_ep (s.1 p0 3)) 11 0) (fun s10 => Option.bind (eF_3_write s10 p0 p1 ((eh_ep (s.1 p0 3)) + 7) 8 32) (fun q11 => Option.bind (eF_3_write q11 p0 (p1 + 32) ((eh_ep (s.1 p0 3)) + 8) 8 32) (fun q12 => j7 q12))))))) (fun j4 => if (s.1 (eh_ep (s.1 p0 3)) 11) = 0 then (j4 0) else (j4 1)) else none))
set_option maxHeartbeats 4000000 in
set_option maxRecDepth 100000 in
theorem eS_3_receive (g : eh_P) (s : eh_F) (p0 : Nat) (p1 : Int32) (hp0 : eh_okF p0 = true) : eh_Sim g eM_3_receive (eh_R 5 0 0) eh_eI 0 0 0 (eh_en 5 [.ref 125, .ref p0, .int p1]) [] (eh_FW s) (eF_3_receive s p0 p1) := by
  unfold eF_3_receive
  refine ef_top (L := [some (.ref 125), some (.ref p0), some (.int p1), none, none]) rfl ?_
  refine es_blk (pc' := 6) (L' := [some (.ref 125), some (.ref p0), some (.int p1), none, none]) (st' := [.int 2, .int 64, .int p1, .ref p0, .ref 125]) [(.aload_n 0, 0), (.aload_n 1, 0), (.iload_n 2, 0), (.bipush 64, 64), (.iconst 2, 2)] (by decide +kernel) rfl rfl ?_
  refine ef_vpI (d := 4) (k := 125) (As := [.ref p0, .int p1, .int 64, .int 2]) (st := []) eV_3_reaches eK_3_134 (eS_3_reaches g s p0 p1 64 2 hp0) rfl rfl (Nat.le_of_ble_eq_true rfl) rfl (Nat.le_of_ble_eq_true rfl) ⟨Nat.le_of_ble_eq_true rfl, Nat.le_of_ble_eq_true rfl⟩ ⟨Nat.le_refl _, Nat.le_refl _⟩ (by decide +kernel) (fun q1 _ => ?_)
  refine es_ne (tgt := 14) (off := (5)) (by decide +kernel) (by decide) (fun h2 => ?_) (fun h2 => ?_)
  · refine es_blk (pc' := 13) (L' := [some (.ref 125), some (.ref p0), some (.int p1), none, none]) (st' := [.int (-1)]) [(.iconst (-1), (-1))] (by decide +kernel) rfl rfl ?_
    exact es_ret rfl rfl rfl ⟨by decide +kernel, _, rfl, rfl⟩ (Nat.le_refl _) (Nat.le_refl _)
  refine es_blk (pc' := 15) (L' := [some (.ref 125), some (.ref p0), some (.int p1), none, none]) (st' := [.ref 125]) [(.aload_n 0, 0)] (by decide +kernel) rfl rfl ?_
  refine ef_getP (k := 125) (j := 0) (q := 1) rfl eL_3_15 rfl rfl rfl (by decide +kernel) ?_
  refine ef_getP (k := 1) (j := 4) (q := 28) rfl eL_3_69 rfl rfl rfl (by decide +kernel) ?_
  refine es_blk (pc' := 22) (L' := [some (.ref 125), some (.ref p0), some (.int p1), none, none]) (st' := [.ref p0, .ref 28]) [(.aload_n 1, 0)] (by decide +kernel) rfl rfl ?_
  refine ef_getI (k := p0) (j := 3) (eh_F0sh hp0) eL_3_73 (by decide) (by decide +kernel) ?_
  refine ef_encs (by decide +kernel) (fun h3 => ?_)
  refine es_blk (pc' := 28) (L' := [some (.ref 125), some (.ref p0), some (.int p1), some (.ref (eh_ep (s.1 p0 3))), none]) (st' := [.ref (eh_ep (s.1 p0 3))]) [(.astore_n 3, 0), (.aload_n 3, 0)] (by decide +kernel) rfl rfl ?_
  refine ef_getI (k := (eh_ep (s.1 p0 3))) (j := 11) (eh_E0sh h3) eL_3_218 (by decide) (by decide +kernel) ?_
  refine ef_J (X := fun j4 => ∀ (a5 : Int32), eh_Sim g eM_3_receive (eh_R 5 0 0) eh_eI 0 0 39 [some (.ref 125), some (.ref p0), some (.int p1), some (.ref (eh_ep (s.1 p0 3))), none] [.int a5] (eh_FW s) ((j4 a5).bind some)) ?_ (fun j4 Hj4 => ?_)
  · intro a5
    refine es_blk (pc' := 42) (L' := [some (.ref 125), some (.ref p0), some (.int p1), some (.ref (eh_ep (s.1 p0 3))), some (.int a5)]) (st' := [.ref 125]) [(.istore 4, 0), (.aload_n 0, 0)] (by decide +kernel) rfl rfl ?_
    refine ef_getP (k := 125) (j := 0) (q := 1) rfl eL_3_15 rfl rfl rfl (by decide +kernel) ?_
    refine es_blk (pc' := 52) (L' := [some (.ref 125), some (.ref p0), some (.int p1), some (.ref (eh_ep (s.1 p0 3))), some (.int a5)]) (st' := [.int 0, .int 0, .int a5, .ref p0, .int 7, .ref 1]) [(.bipush 7, 7), (.aload_n 1, 0), (.iload 4, 0), (.iconst 0, 0), (.iconst 0, 0)] (by decide +kernel) rfl rfl ?_
    refine ef_veV (d := 1) (k := 1) (As := [.int 7, .ref p0, .int a5, .int 0, .int 0]) (st := []) eV_5_note eK_3_111 (eS_5_note g s 7 p0 a5 0 0 hp0) rfl rfl (Nat.le_of_ble_eq_true rfl) rfl (Nat.le_of_ble_eq_true rfl) ⟨Nat.le_of_ble_eq_true rfl, Nat.le_of_ble_eq_true rfl⟩ ⟨Nat.le_refl _, Nat.le_refl _⟩ (by decide +kernel) (fun q6 _ => ?_)
    refine es_blk (pc' := 56) (L' := [some (.ref 125), some (.ref p0), some (.int p1), some (.ref (eh_ep (s.1 p0 3))), some (.int a5)]) (st' := [.ref (eh_ep (s.1 p0 3))]) [(.aload_n 3, 0)] (by decide +kernel) rfl rfl ?_
    refine ef_getI (k := (eh_ep (s.1 p0 3))) (j := 11) (eh_E0sh h3) eL_3_218 (by decide) (by decide +kernel) ?_
    refine ef_J (X := fun j7 => ∀ (s8 : eh_F), eh_Sim g eM_3_receive (eh_R 5 0 0) eh_eI 0 0 94 [none, none, none, none, some (.int a5)] [] (eh_FW s8) ((j7 s8).bind some)) ?_ (fun j7 Hj7 => ?_)
    · intro s8
      refine es_blk (pc' := 96) (L' := [none, none, none, none, some (.int a5)]) (st' := [.int a5]) [(.iload 4, 0)] (by decide +kernel) rfl rfl ?_
      exact es_ret rfl rfl rfl ⟨by decide +kernel, _, rfl, rfl⟩ (Nat.le_refl _) (Nat.le_refl _)
    refine es_eq (tgt := 94) (off := (35)) (by decide +kernel) (by decide) (fun h9 => ?_) (fun h9 => ?_)
    · refine ef_drop (L2 := [none, none, none, none, some (.int a5)]) [false, false, false, false, true] rfl rfl ?_
      exact Hj7 _
    refine es_blk (pc' := 64) (L' := [some (.ref 125), some (.ref p0), some (.int p1), some (.ref (eh_ep (s.1 p0 3))), some (.int a5)]) (st' := [.int 0, .ref (eh_ep (s.1 p0 3))]) [(.aload_n 3, 0), (.iconst 0, 0)] (by decide +kernel) rfl rfl ?_
    refine ef_putZc (k := (eh_ep (s.1 p0 3))) (j := 11) (eh_E0sh h3) eL_3_218 rfl rfl (by decide) (by decide +kernel) ?_
    refine ef_V (fun _ => [some (.ref 125), some (.ref p0), some (.int p1), some (.ref (eh_ep (s.1 p0 3))), some (.int a5)]) (fun _ => []) (fun s10 => eh_FW s10) (fun s10 => ?_)
    refine es_blk (pc' := 71) (L' := [some (.ref 125), some (.ref p0), some (.int p1), some (.ref (eh_ep (s.1 p0 3))), some (.int a5)]) (st' := [.ref (eh_ep (s.1 p0 3)), .int p1, .ref p0, .ref 125]) [(.aload_n 0, 0), (.aload_n 1, 0), (.iload_n 2, 0), (.aload_n 3, 0)] (by decide +kernel) rfl rfl ?_
    refine ef_getP (k := (eh_ep (s.1 p0 3))) (j := 3) (q := ((eh_ep (s.1 p0 3)) + 7)) (eh_E0sh h3) eL_3_221 rfl (eh_Ex h3 _).2.2.2.1 (eh_E7sh h3) (by decide +kernel) ?_
    refine es_blk (pc' := 76) (L' := [some (.ref 125), some (.ref p0), some (.int p1), some (.ref (eh_ep (s.1 p0 3))), some (.int a5)]) (st' := [.int 32, .ref ((eh_ep (s.1 p0 3)) + 7), .int p1, .ref p0, .ref 125]) [(.bipush 32, 32)] (by decide +kernel) rfl rfl ?_
    refine ef_veV (d := 4) (k := 125) (As := [.ref p0, .int p1, .ref ((eh_ep (s.1 p0 3)) + 7), .int 32]) (st := []) eV_3_write eK_3_161 (eS_3_write g s10 p0 p1 ((eh_ep (s.1 p0 3)) + 7) 8 32 hp0 (eh_E7sh h3)) rfl rfl (Nat.le_of_ble_eq_true rfl) rfl (Nat.le_of_ble_eq_true rfl) ⟨Nat.le_of_ble_eq_true rfl, Nat.le_of_ble_eq_true rfl⟩ ⟨Nat.le_refl _, Nat.le_refl _⟩ (by decide +kernel) (fun q11 _ => ?_)
    refine es_blk (pc' := 86) (L' := [some (.ref 125), some (.ref p0), some (.int p1), some (.ref (eh_ep (s.1 p0 3))), some (.int a5)]) (st' := [.ref (eh_ep (s.1 p0 3)), .int (p1 + 32), .ref p0, .ref 125]) [(.aload_n 0, 0), (.aload_n 1, 0), (.iload_n 2, 0), (.bipush 32, 32), (.iadd, 0), (.aload_n 3, 0)] (by decide +kernel) rfl rfl ?_
    refine ef_getP (k := (eh_ep (s.1 p0 3))) (j := 4) (q := ((eh_ep (s.1 p0 3)) + 8)) (eh_E0sh h3) eL_3_224 rfl (eh_Ex h3 _).2.2.2.2 (eh_E8sh h3) (by decide +kernel) ?_
    refine es_blk (pc' := 91) (L' := [some (.ref 125), some (.ref p0), some (.int p1), some (.ref (eh_ep (s.1 p0 3))), some (.int a5)]) (st' := [.int 32, .ref ((eh_ep (s.1 p0 3)) + 8), .int (p1 + 32), .ref p0, .ref 125]) [(.bipush 32, 32)] (by decide +kernel) rfl rfl ?_
    refine ef_veV (d := 4) (k := 125) (As := [.ref p0, .int (p1 + 32), .ref ((eh_ep (s.1 p0 3)) + 8), .int 32]) (st := []) eV_3_write eK_3_161 (eS_3_write g q11 p0 (p1 + 32) ((eh_ep (s.1 p0 3)) + 8) 8 32 hp0 (eh_E8sh h3)) rfl rfl (Nat.le_of_ble_eq_true rfl) rfl (Nat.le_of_ble_eq_true rfl) ⟨Nat.le_of_ble_eq_true rfl, Nat.le_of_ble_eq_true rfl⟩ ⟨Nat.le_refl _, Nat.le_refl _⟩ (by decide +kernel) (fun q12 _ => ?_)
    refine ef_drop (L2 := [none, none, none, none, some (.int a5)]) [false, false, false, false, true] rfl rfl ?_
    exact Hj7 _
  refine es_eq (tgt := 38) (off := (7)) (by decide +kernel) (by decide) (fun h13 => ?_) (fun h13 => ?_)
  · refine es_blk (pc' := 39) (L' := [some (.ref 125), some (.ref p0), some (.int p1), some (.ref (eh_ep (s.1 p0 3))), none]) (st' := [.int 0]) [(.iconst 0, 0)] (by decide +kernel) rfl rfl ?_
    exact Hj4 _
  refine es_blk (pc' := 35) (L' := [some (.ref 125), some (.ref p0), some (.int p1), some (.ref (eh_ep (s.1 p0 3))), none]) (st' := [.int 1]) [(.iconst 1, 1)] (by decide +kernel) rfl rfl ?_
  refine es_goto (tgt := 39) (off := (4)) (by decide +kernel) (by decide) ?_
  exact Hj4 _
def eF_3_extend (s : eh_F) (p0 : Nat) (p1 : Int32) : Option (Int32 × eh_F) := Option.bind (eF_3_reaches s p0 p1 32 1) (fun q1 => if q1 = 0 then (some ((-1), s)) else (if eh_in (s.1 p0 3) 6 then Option.bind (eF_3_read s p1 32 126 8 0) (fun q4 => Option.bind (eF_9_begin q4 29) (fun q5 => Option.bind (eF_9_feedWords q5 29 ((eh_ep (s.1 p0 3)) + 6) 8 8) (fun q6 => Option.bind (eF_9_feedWords q6 29 126 8 8) (fun q7 => Option.bind (eF_9_end q7 29 ((eh_ep (s.1 p0 3)) + 6) 8) (fun q8 => some (0, q8)))))) else none))
set_option maxHeartbeats 4000000 in
set_option maxRecDepth 100000 in
theorem eS_3_extend (g : eh_P) (s : eh_F) (p0 : Nat) (p1 : Int32) (hp0 : eh_okF p0 = true) : eh_Sim g eM_3_extend (eh_R 5 0 0) eh_eI 0 0 0 (eh_en 4 [.ref 125, .ref p0, .int p1]) [] (eh_FW s) (eF_3_extend s p0 p1) := by
  unfold eF_3_extend
  refine ef_top (L := [some (.ref 125), some (.ref p0), some (.int p1), none]) rfl ?_
  refine es_blk (pc' := 6) (L' := [some (.ref 125), some (.ref p0), some (.int p1), none]) (st' := [.int 1, .int 32, .int p1, .ref p0, .ref 125]) [(.aload_n 0, 0), (.aload_n 1, 0), (.iload_n 2, 0), (.bipush 32, 32), (.iconst 1, 1)] (by decide +kernel) rfl rfl ?_
  refine ef_vpI (d := 4) (k := 125) (As := [.ref p0, .int p1, .int 32, .int 1]) (st := []) eV_3_reaches eK_3_134 (eS_3_reaches g s p0 p1 32 1 hp0) rfl rfl (Nat.le_of_ble_eq_true rfl) rfl (Nat.le_of_ble_eq_true rfl) ⟨Nat.le_of_ble_eq_true rfl, Nat.le_of_ble_eq_true rfl⟩ ⟨Nat.le_refl _, Nat.le_refl _⟩ (by decide +kernel) (fun q1 _ => ?_)
  refine es_ne (tgt := 14) (off := (5)) (by decide +kernel) (by decide) (fun h2 => ?_) (fun h2 => ?_)
  · refine es_blk (pc' := 13) (L' := [some (.ref 125), some (.ref p0), some (.int p1), none]) (st' := [.int (-1)]) [(.iconst (-1), (-1))] (by decide +kernel) rfl rfl ?_
    exact es_ret rfl rfl rfl ⟨by decide +kernel, _, rfl, rfl⟩ (Nat.le_refl _) (Nat.le_refl _)
  refine es_blk (pc' := 15) (L' := [some (.ref 125), some (.ref p0), some (.int p1), none]) (st' := [.ref 125]) [(.aload_n 0, 0)] (by decide +kernel) rfl rfl ?_
  refine ef_getP (k := 125) (j := 0) (q := 1) rfl eL_3_15 rfl rfl rfl (by decide +kernel) ?_
  refine ef_getP (k := 1) (j := 4) (q := 28) rfl eL_3_69 rfl rfl rfl (by decide +kernel) ?_
  refine es_blk (pc' := 22) (L' := [some (.ref 125), some (.ref p0), some (.int p1), none]) (st' := [.ref p0, .ref 28]) [(.aload_n 1, 0)] (by decide +kernel) rfl rfl ?_
  refine ef_getI (k := p0) (j := 3) (eh_F0sh hp0) eL_3_73 (by decide) (by decide +kernel) ?_
  refine ef_encs (by decide +kernel) (fun h3 => ?_)
  refine ef_getP (k := (eh_ep (s.1 p0 3))) (j := 2) (q := ((eh_ep (s.1 p0 3)) + 6)) (eh_E0sh h3) eL_3_147 rfl (eh_Ex h3 _).2.2.1 (eh_E6sh h3) (by decide +kernel) ?_
  refine es_blk (pc' := 35) (L' := [some (.ref 125), some (.ref p0), some (.int p1), some (.ref ((eh_ep (s.1 p0 3)) + 6))]) (st' := [.ref 125, .int 32, .int p1, .ref 125]) [(.astore_n 3, 0), (.aload_n 0, 0), (.iload_n 2, 0), (.bipush 32, 32), (.aload_n 0, 0)] (by decide +kernel) rfl rfl ?_
  refine ef_getP (k := 125) (j := 3) (q := 126) rfl eL_3_9 rfl rfl rfl (by decide +kernel) ?_
  refine es_blk (pc' := 39) (L' := [some (.ref 125), some (.ref p0), some (.int p1), some (.ref ((eh_ep (s.1 p0 3)) + 6))]) (st' := [.int 0, .ref 126, .int 32, .int p1, .ref 125]) [(.iconst 0, 0)] (by decide +kernel) rfl rfl ?_
  refine ef_veV (d := 3) (k := 125) (As := [.int p1, .int 32, .ref 126, .int 0]) (st := []) eV_3_read eK_3_150 (eS_3_read g s p1 32 126 8 0 rfl) rfl rfl (Nat.le_of_ble_eq_true rfl) rfl (Nat.le_of_ble_eq_true rfl) ⟨Nat.le_of_ble_eq_true rfl, Nat.le_of_ble_eq_true rfl⟩ ⟨Nat.le_refl _, Nat.le_refl _⟩ (by decide +kernel) (fun q4 _ => ?_)
  refine es_blk (pc' := 43) (L' := [some (.ref 125), some (.ref p0), some (.int p1), some (.ref ((eh_ep (s.1 p0 3)) + 6))]) (st' := [.ref 125]) [(.aload_n 0, 0)] (by decide +kernel) rfl rfl ?_
  refine ef_getP (k := 125) (j := 0) (q := 1) rfl eL_3_15 rfl rfl rfl (by decide +kernel) ?_
  refine ef_getP (k := 1) (j := 5) (q := 29) rfl eL_3_169 rfl rfl rfl (by decide +kernel) ?_
  refine ef_veV (d := 1) (k := 29) (As := []) (st := []) eV_9_begin eK_3_237 (eS_9_begin g q4 29 rfl) rfl rfl (Nat.le_of_ble_eq_true rfl) rfl (Nat.le_of_ble_eq_true rfl) ⟨Nat.le_of_ble_eq_true rfl, Nat.le_of_ble_eq_true rfl⟩ ⟨Nat.le_refl _, Nat.le_refl _⟩ (by decide +kernel) (fun q5 _ => ?_)
  refine es_blk (pc' := 53) (L' := [some (.ref 125), some (.ref p0), some (.int p1), some (.ref ((eh_ep (s.1 p0 3)) + 6))]) (st' := [.ref 125]) [(.aload_n 0, 0)] (by decide +kernel) rfl rfl ?_
  refine ef_getP (k := 125) (j := 0) (q := 1) rfl eL_3_15 rfl rfl rfl (by decide +kernel) ?_
  refine ef_getP (k := 1) (j := 5) (q := 29) rfl eL_3_169 rfl rfl rfl (by decide +kernel) ?_
  refine es_blk (pc' := 62) (L' := [some (.ref 125), some (.ref p0), some (.int p1), some (.ref ((eh_ep (s.1 p0 3)) + 6))]) (st' := [.int 8, .ref ((eh_ep (s.1 p0 3)) + 6), .ref 29]) [(.aload_n 3, 0), (.bipush 8, 8)] (by decide +kernel) rfl rfl ?_
  refine ef_veV (d := 3) (k := 29) (As := [.ref ((eh_ep (s.1 p0 3)) + 6), .int 8]) (st := []) eV_9_feedWords eK_3_184 (eS_9_feedWords g q5 29 ((eh_ep (s.1 p0 3)) + 6) 8 8 rfl (eh_E6sh h3)) rfl rfl (Nat.le_of_ble_eq_true rfl) rfl (Nat.le_of_ble_eq_true rfl) ⟨Nat.le_of_ble_eq_true rfl, Nat.le_of_ble_eq_true rfl⟩ ⟨Nat.le_refl _, Nat.le_refl _⟩ (by decide +kernel) (fun q6 _ => ?_)
  refine es_blk (pc' := 66) (L' := [some (.ref 125), some (.ref p0), some (.int p1), some (.ref ((eh_ep (s.1 p0 3)) + 6))]) (st' := [.ref 125]) [(.aload_n 0, 0)] (by decide +kernel) rfl rfl ?_
  refine ef_getP (k := 125) (j := 0) (q := 1) rfl eL_3_15 rfl rfl rfl (by decide +kernel) ?_
  refine ef_getP (k := 1) (j := 5) (q := 29) rfl eL_3_169 rfl rfl rfl (by decide +kernel) ?_
  refine es_blk (pc' := 73) (L' := [some (.ref 125), some (.ref p0), some (.int p1), some (.ref ((eh_ep (s.1 p0 3)) + 6))]) (st' := [.ref 125, .ref 29]) [(.aload_n 0, 0)] (by decide +kernel) rfl rfl ?_
  refine ef_getP (k := 125) (j := 3) (q := 126) rfl eL_3_9 rfl rfl rfl (by decide +kernel) ?_
  refine es_blk (pc' := 78) (L' := [some (.ref 125), some (.ref p0), some (.int p1), some (.ref ((eh_ep (s.1 p0 3)) + 6))]) (st' := [.int 8, .ref 126, .ref 29]) [(.bipush 8, 8)] (by decide +kernel) rfl rfl ?_
  refine ef_veV (d := 3) (k := 29) (As := [.ref 126, .int 8]) (st := []) eV_9_feedWords eK_3_184 (eS_9_feedWords g q6 29 126 8 8 rfl rfl) rfl rfl (Nat.le_of_ble_eq_true rfl) rfl (Nat.le_of_ble_eq_true rfl) ⟨Nat.le_of_ble_eq_true rfl, Nat.le_of_ble_eq_true rfl⟩ ⟨Nat.le_refl _, Nat.le_refl _⟩ (by decide +kernel) (fun q7 _ => ?_)
  refine es_blk (pc' := 82) (L' := [some (.ref 125), some (.ref p0), some (.int p1), some (.ref ((eh_ep (s.1 p0 3)) + 6))]) (st' := [.ref 125]) [(.aload_n 0, 0)] (by decide +kernel) rfl rfl ?_
  refine ef_getP (k := 125) (j := 0) (q := 1) rfl eL_3_15 rfl rfl rfl (by decide +kernel) ?_
  refine ef_getP (k := 1) (j := 5) (q := 29) rfl eL_3_169 rfl rfl rfl (by decide +kernel) ?_
  refine es_blk (pc' := 89) (L' := [some (.ref 125), some (.ref p0), some (.int p1), some (.ref ((eh_ep (s.1 p0 3)) + 6))]) (st' := [.ref ((eh_ep (s.1 p0 3)) + 6), .ref 29]) [(.aload_n 3, 0)] (by decide +kernel) rfl rfl ?_
  refine ef_veV (d := 2) (k := 29) (As := [.ref ((eh_ep (s.1 p0 3)) + 6)]) (st := []) eV_9_end eK_3_240 (eS_9_end g q7 29 ((eh_ep (s.1 p0 3)) + 6) 8 rfl (eh_E6sh h3)) rfl rfl (Nat.le_of_ble_eq_true rfl) rfl (Nat.le_of_ble_eq_true rfl) ⟨Nat.le_of_ble_eq_true rfl, Nat.le_of_ble_eq_true rfl⟩ ⟨Nat.le_refl _, Nat.le_refl _⟩ (by decide +kernel) (fun q8 _ => ?_)
  refine es_blk (pc' := 93) (L' := [some (.ref 125), some (.ref p0), some (.int p1), some (.ref ((eh_ep (s.1 p0 3)) + 6))]) (st' := [.int 0]) [(.iconst 0, 0)] (by decide +kernel) rfl rfl ?_
  exact es_ret rfl rfl rfl ⟨by decide +kernel, _, rfl, rfl⟩ (Nat.le_refl _) (Nat.le_refl _)
def eF_7_load (s : eh_F) (p0 : Int32) : Option (eh_F) := eh_V (((eh_ushr p0 12) &&& 7) : Int32) (fun x1 => eh_J (fun (u3 : Unit) => Option.bind (eF_7_fail s 2 p0) (fun q4 => some q4)) (fun j2 => if x1 = 3 then (j2 ()) else (if 5 < x1 then (j2 ()) else (Option.bind (eF_7_leftOf s p0) (fun q7 => eh_V ((q7 + (eh_shr p0 20)) : Int32) (fun x8 => Option.bind (eF_7_locate s x8 (eh_shl 1 (x1 &&& 3)) 1) (fun q9 => if q9.1 < 0 then (some q9.2) else (Option.bind (eF_6_wordAt q9.2 q9.1) (fun q11 => eh_V ((eh_ushr q11 (8 * (q9.1 &&& 3))) : Int32) (fun x12 => eh_J (fun (s14 : eh_F) => some s14) (fun j13 => eh_J (fun (u16 : Unit) => Option.bind (eF_7_put q9.2 p0 x12) (fun q17 => j13 q17)) (fun j15 => if x1 = 0 then (Option.bind (eF_7_put q9.2 p0 (eh_nb x12)) (fun q20 => j13 q20)) else if x1 = 1 then (Option.bind (eF_7_put q9.2 p0 (x12.toInt16.toInt32)) (fun q22 => j13 q22)) else if x1 = 4 then (Option.bind (eF_7_put q9.2 p0 (x12 &&& 255)) (fun q24 => j13 q24)) else if x1 = 5 then (Option.bind (eF_7_put q9.2 p0 (x12 &&& 65535)) (fun q26 => j13 q26)) else (j15 ())))))))))))))
set_option maxHeartbeats 4000000 in
set_option maxRecDepth 100000 in
theorem eS_7_load (g : eh_P) (s : eh_F) (p0 : Int32) : eh_Sim g eM_7_load (eh_R 5 0 0) eh_eV 0 0 0 (eh_en 6 [.ref 124, .int p0]) [] (eh_FW s) (eF_7_load s p0) := by
  unfold eF_7_load
  refine ef_top (L := [some (.ref 124), some (.int p0), none, none, none, none]) rfl ?_
  refine es_blk (pc' := 8) (L' := [some (.ref 124), some (.int p0), some (.int ((eh_ushr p0 12) &&& 7)), none, none, none]) (st' := []) [(.iload_n 1, 0), (.bipush 12, 12), (.iushr, 0), (.bipush 7, 7), (.iand, 0), (.istore_n 2, 0)] (by decide +kernel) rfl rfl ?_
  refine ef_V (fun x1 => [some (.ref 124), some (.int p0), some (.int x1), none, none, none]) (fun _ => []) (fun _ => eh_FW s) (fun x1 => ?_)
  refine es_blk (pc' := 10) (L' := [some (.ref 124), some (.int p0), some (.int x1), none, none, none]) (st' := [.int 3, .int x1]) [(.iload_n 2, 0), (.iconst 3, 3)] (by decide +kernel) rfl rfl ?_
  refine ef_J (X := fun j2 => ∀ (u3 : Unit), eh_Sim g eM_7_load (eh_R 5 0 0) eh_eV 0 0 18 [some (.ref 124), some (.int p0), none, none, none, none] [] (eh_FW s) ((j2 u3).bind some)) ?_ (fun j2 Hj2 => ?_)
  · intro u3
    refine es_blk (pc' := 21) (L' := [some (.ref 124), some (.int p0), none, none, none, none]) (st' := [.int p0, .int 2, .ref 124]) [(.aload_n 0, 0), (.iconst 2, 2), (.iload_n 1, 0)] (by decide +kernel) rfl rfl ?_
    refine ef_veV (d := 1) (k := 124) (As := [.int 2, .int p0]) (st := []) eV_7_fail eK_7_201 (eS_7_fail g s 2 p0) rfl rfl (Nat.le_of_ble_eq_true rfl) rfl (Nat.le_of_ble_eq_true rfl) ⟨Nat.le_of_ble_eq_true rfl, Nat.le_of_ble_eq_true rfl⟩ ⟨Nat.le_refl _, Nat.le_refl _⟩ (by decide +kernel) (fun q4 _ => ?_)
    exact es_ret rfl rfl rfl ⟨by decide +kernel, rfl⟩ (Nat.le_refl _) (Nat.le_refl _)
  refine es_ieq (tgt := 18) (off := (8)) (by decide +kernel) (by decide) (fun h5 => ?_) (fun h5 => ?_)
  · refine ef_drop (L2 := [some (.ref 124), some (.int p0), none, none, none, none]) [true, true, false, true, true, true] rfl rfl ?_
    exact Hj2 ()
  refine es_blk (pc' := 15) (L' := [some (.ref 124), some (.int p0), some (.int x1), none, none, none]) (st' := [.int 5, .int x1]) [(.iload_n 2, 0), (.iconst 5, 5)] (by decide +kernel) rfl rfl ?_
  refine es_ile (tgt := 25) (off := (10)) (by decide +kernel) (by decide) (fun h6 => ?_) (fun h6 => ?_)
  · refine ef_drop (L2 := [some (.ref 124), some (.int p0), none, none, none, none]) [true, true, false, true, true, true] rfl rfl ?_
    exact Hj2 ()
  refine es_blk (pc' := 27) (L' := [some (.ref 124), some (.int p0), some (.int x1), none, none, none]) (st' := [.int p0, .ref 124]) [(.aload_n 0, 0), (.iload_n 1, 0)] (by decide +kernel) rfl rfl ?_
  refine ef_vpI (d := 1) (k := 124) (As := [.int p0]) (st := []) eV_7_leftOf eK_7_208 (eS_7_leftOf g s p0) rfl rfl (Nat.le_of_ble_eq_true rfl) rfl (Nat.le_of_ble_eq_true rfl) ⟨Nat.le_of_ble_eq_true rfl, Nat.le_of_ble_eq_true rfl⟩ ⟨Nat.le_refl _, Nat.le_refl _⟩ (by decide +kernel) (fun q7 _ => ?_)
  refine es_blk (pc' := 36) (L' := [some (.ref 124), some (.int p0), some (.int x1), some (.int (q7 + (eh_shr p0 20))), none, none]) (st' := []) [(.iload_n 1, 0), (.bipush 20, 20), (.ishr, 0), (.iadd, 0), (.istore_n 3, 0)] (by decide +kernel) rfl rfl ?_
  refine ef_V (fun x8 => [some (.ref 124), some (.int p0), some (.int x1), some (.int x8), none, none]) (fun _ => []) (fun _ => eh_FW s) (fun x8 => ?_)
  refine es_blk (pc' := 44) (L' := [some (.ref 124), some (.int p0), some (.int x1), some (.int x8), none, none]) (st' := [.int 1, .int (eh_shl 1 (x1 &&& 3)), .int x8, .ref 124]) [(.aload_n 0, 0), (.iload_n 3, 0), (.iconst 1, 1), (.iload_n 2, 0), (.iconst 3, 3), (.iand, 0), (.ishl, 0), (.iconst 1, 1)] (by decide +kernel) rfl rfl ?_
  refine ef_veI (d := 4) (k := 124) (As := [.int x8, .int (eh_shl 1 (x1 &&& 3)), .int 1]) (st := []) eV_7_locate eK_7_155 (eS_7_locate g s x8 (eh_shl 1 (x1 &&& 3)) 1) rfl rfl (Nat.le_of_ble_eq_true rfl) rfl (Nat.le_of_ble_eq_true rfl) ⟨Nat.le_of_ble_eq_true rfl, Nat.le_of_ble_eq_true rfl⟩ ⟨Nat.le_refl _, Nat.le_refl _⟩ (by decide +kernel) (fun q9 _ => ?_)
  refine es_blk (pc' := 51) (L' := [some (.ref 124), some (.int p0), some (.int x1), some (.int x8), some (.int q9.1), none]) (st' := [.int q9.1]) [(.istore 4, 0), (.iload 4, 0)] (by decide +kernel) rfl rfl ?_
  refine es_ge (tgt := 55) (off := (4)) (by decide +kernel) (by decide) (fun h10 => ?_) (fun h10 => ?_)
  · exact es_ret rfl rfl rfl ⟨by decide +kernel, rfl⟩ (Nat.le_refl _) (Nat.le_refl _)
  refine es_blk (pc' := 56) (L' := [some (.ref 124), some (.int p0), some (.int x1), some (.int x8), some (.int q9.1), none]) (st' := [.ref 124]) [(.aload_n 0, 0)] (by decide +kernel) rfl rfl ?_
  refine ef_getP (k := 124) (j := 1) (q := 2) rfl eL_7_21 rfl rfl rfl (by decide +kernel) ?_
  refine es_blk (pc' := 61) (L' := [some (.ref 124), some (.int p0), some (.int x1), some (.int x8), some (.int q9.1), none]) (st' := [.int q9.1, .ref 2]) [(.iload 4, 0)] (by decide +kernel) rfl rfl ?_
  refine ef_vpI (d := 1) (k := 2) (As := [.int q9.1]) (st := []) eV_6_wordAt eK_7_159 (eS_6_wordAt g q9.2 q9.1) rfl rfl (Nat.le_of_ble_eq_true rfl) rfl (Nat.le_of_ble_eq_true rfl) ⟨Nat.le_of_ble_eq_true rfl, Nat.le_of_ble_eq_true rfl⟩ ⟨Nat.le_refl _, Nat.le_refl _⟩ (by decide +kernel) (fun q11 _ => ?_)
  refine es_blk (pc' := 74) (L' := [some (.ref 124), some (.int p0), some (.int x1), some (.int x8), some (.int q9.1), some (.int (eh_ushr q11 (8 * (q9.1 &&& 3))))]) (st' := []) [(.bipush 8, 8), (.iload 4, 0), (.iconst 3, 3), (.iand, 0), (.imul, 0), (.iushr, 0), (.istore 5, 0)] (by decide +kernel) rfl rfl ?_
  refine ef_V (fun x12 => [some (.ref 124), some (.int p0), some (.int x1), some (.int x8), some (.int q9.1), some (.int x12)]) (fun _ => []) (fun _ => eh_FW q9.2) (fun x12 => ?_)
  refine es_blk (pc' := 75) (L' := [some (.ref 124), some (.int p0), some (.int x1), some (.int x8), some (.int q9.1), some (.int x12)]) (st' := [.int x1]) [(.iload_n 2, 0)] (by decide +kernel) rfl rfl ?_
  refine ef_J (X := fun j13 => ∀ (s14 : eh_F), eh_Sim g eM_7_load (eh_R 5 0 0) eh_eV 0 0 168 [none, none, none, none, none, none] [] (eh_FW s14) ((j13 s14).bind some)) ?_ (fun j13 Hj13 => ?_)
  · intro s14
    exact es_ret rfl rfl rfl ⟨by decide +kernel, rfl⟩ (Nat.le_refl _) (Nat.le_refl _)
  refine ef_J (X := fun j15 => ∀ (u16 : Unit), eh_Sim g eM_7_load (eh_R 5 0 0) eh_eV 0 0 161 [some (.ref 124), some (.int p0), none, none, none, some (.int x12)] [] (eh_FW q9.2) ((j15 u16).bind some)) ?_ (fun j15 Hj15 => ?_)
  · intro u16
    refine es_blk (pc' := 165) (L' := [some (.ref 124), some (.int p0), none, none, none, some (.int x12)]) (st' := [.int x12, .int p0, .ref 124]) [(.aload_n 0, 0), (.iload_n 1, 0), (.iload 5, 0)] (by decide +kernel) rfl rfl ?_
    refine ef_veV (d := 1) (k := 124) (As := [.int p0, .int x12]) (st := []) eV_7_put eK_7_165 (eS_7_put g q9.2 p0 x12) rfl rfl (Nat.le_of_ble_eq_true rfl) rfl (Nat.le_of_ble_eq_true rfl) ⟨Nat.le_of_ble_eq_true rfl, Nat.le_of_ble_eq_true rfl⟩ ⟨Nat.le_refl _, Nat.le_refl _⟩ (by decide +kernel) (fun q17 _ => ?_)
    refine ef_drop (L2 := [none, none, none, none, none, none]) [false, false, true, true, true, false] rfl rfl ?_
    exact Hj13 _
  have hs18 : decode eM_7_load.2.1 75 = .ok (.tableswitch (86) (0) (5) #[(37), (48), (86), (86), (59), (73)], 37) := by decide +kernel
  refine es_ifc (fun h19 => ?_) (fun h19 => ?_)
  · refine es_tsw (off := (37)) (tgt := 112) hs18 0 h19 (by decide) ?_
    refine es_blk (pc' := 117) (L' := [some (.ref 124), some (.int p0), some (.int x1), some (.int x8), some (.int q9.1), some (.int x12)]) (st' := [.int (eh_nb x12), .int p0, .ref 124]) [(.aload_n 0, 0), (.iload_n 1, 0), (.iload 5, 0), (.i2b, 0)] (by decide +kernel) rfl rfl ?_
    refine ef_veV (d := 1) (k := 124) (As := [.int p0, .int (eh_nb x12)]) (st := []) eV_7_put eK_7_165 (eS_7_put g q9.2 p0 (eh_nb x12)) rfl rfl (Nat.le_of_ble_eq_true rfl) rfl (Nat.le_of_ble_eq_true rfl) ⟨Nat.le_of_ble_eq_true rfl, Nat.le_of_ble_eq_true rfl⟩ ⟨Nat.le_refl _, Nat.le_refl _⟩ (by decide +kernel) (fun q20 _ => ?_)
    refine es_goto (tgt := 168) (off := (48)) (by decide +kernel) (by decide) ?_
    refine ef_drop (L2 := [none, none, none, none, none, none]) [false, false, false, false, false, false] rfl rfl ?_
    exact Hj13 _
  refine es_ifc (fun h21 => ?_) (fun h21 => ?_)
  · refine es_tsw (off := (48)) (tgt := 123) hs18 1 h21 (by decide) ?_
    refine es_blk (pc' := 128) (L' := [some (.ref 124), some (.int p0), some (.int x1), some (.int x8), some (.int q9.1), some (.int x12)]) (st' := [.int (x12.toInt16.toInt32), .int p0, .ref 124]) [(.aload_n 0, 0), (.iload_n 1, 0), (.iload 5, 0), (.i2s, 0)] (by decide +kernel) rfl rfl ?_
    refine ef_veV (d := 1) (k := 124) (As := [.int p0, .int (x12.toInt16.toInt32)]) (st := []) eV_7_put eK_7_165 (eS_7_put g q9.2 p0 (x12.toInt16.toInt32)) rfl rfl (Nat.le_of_ble_eq_true rfl) rfl (Nat.le_of_ble_eq_true rfl) ⟨Nat.le_of_ble_eq_true rfl, Nat.le_of_ble_eq_true rfl⟩ ⟨Nat.le_refl _, Nat.le_refl _⟩ (by decide +kernel) (fun q22 _ => ?_)
    refine es_goto (tgt := 168) (off := (37)) (by decide +kernel) (by decide) ?_
    refine ef_drop (L2 := [none, none, none, none, none, none]) [false, false, false, false, false, false] rfl rfl ?_
    exact Hj13 _
  refine es_ifc (fun h23 => ?_) (fun h23 => ?_)
  · refine es_tsw (off := (59)) (tgt := 134) hs18 4 h23 (by decide) ?_
    refine es_blk (pc' := 142) (L' := [some (.ref 124), some (.int p0), some (.int x1), some (.int x8), some (.int q9.1), some (.int x12)]) (st' := [.int (x12 &&& 255), .int p0, .ref 124]) [(.aload_n 0, 0), (.iload_n 1, 0), (.iload 5, 0), (.sipush 255, 255), (.iand, 0)] (by decide +kernel) rfl rfl ?_
    refine ef_veV (d := 1) (k := 124) (As := [.int p0, .int (x12 &&& 255)]) (st := []) eV_7_put eK_7_165 (eS_7_put g q9.2 p0 (x12 &&& 255)) rfl rfl (Nat.le_of_ble_eq_true rfl) rfl (Nat.le_of_ble_eq_true rfl) ⟨Nat.le_of_ble_eq_true rfl, Nat.le_of_ble_eq_true rfl⟩ ⟨Nat.le_refl _, Nat.le_refl _⟩ (by decide +kernel) (fun q24 _ => ?_)
    refine es_goto (tgt := 168) (off := (23)) (by decide +kernel) (by decide) ?_
    refine ef_drop (L2 := [none, none, none, none, none, none]) [false, false, false, false, false, false] rfl rfl ?_
    exact Hj13 _
  refine es_ifc (fun h25 => ?_) (fun h25 => ?_)
  · refine es_tsw (off := (73)) (tgt := 148) hs18 5 h25 (by decide) ?_
    refine es_blk (pc' := 152) (L' := [some (.ref 124), some (.int p0), some (.int x1), some (.int x8), some (.int q9.1), some (.int x12)]) (st' := [.int x12, .int p0, .ref 124]) [(.aload_n 0, 0), (.iload_n 1, 0), (.iload 5, 0)] (by decide +kernel) rfl rfl ?_
    refine es_ldc (v := 65535) eC_7_221 (by decide +kernel) ?_
    refine es_blk (pc' := 155) (L' := [some (.ref 124), some (.int p0), some (.int x1), some (.int x8), some (.int q9.1), some (.int x12)]) (st' := [.int (x12 &&& 65535), .int p0, .ref 124]) [(.iand, 0)] (by decide +kernel) rfl rfl ?_
    refine ef_veV (d := 1) (k := 124) (As := [.int p0, .int (x12 &&& 65535)]) (st := []) eV_7_put eK_7_165 (eS_7_put g q9.2 p0 (x12 &&& 65535)) rfl rfl (Nat.le_of_ble_eq_true rfl) rfl (Nat.le_of_ble_eq_true rfl) ⟨Nat.le_of_ble_eq_true rfl, Nat.le_of_ble_eq_true rfl⟩ ⟨Nat.le_refl _, Nat.le_refl _⟩ (by decide +kernel) (fun q26 _ => ?_)
    refine es_goto (tgt := 168) (off := (10)) (by decide +kernel) (by decide) ?_
    refine ef_drop (L2 := [none, none, none, none, none, none]) [false, false, false, false, false, false] rfl rfl ?_
    exact Hj13 _
  refine es_tswD (tgt := 161) hs18 [0, 1, 4, 5] (List.forall_mem_cons.mpr ⟨eh_nei 0 0 (by decide) h19, (List.forall_mem_cons.mpr ⟨eh_nei 1 1 (by decide) h21, (List.forall_mem_cons.mpr ⟨eh_nei 4 4 (by decide) h23, (List.forall_mem_cons.mpr ⟨eh_nei 5 5 (by decide) h25, (List.forall_mem_nil _)⟩)⟩)⟩)⟩) (by decide) (by decide) (by decide) ?_
  refine ef_drop (L2 := [some (.ref 124), some (.int p0), none, none, none, some (.int x12)]) [true, true, false, false, false, true] rfl rfl ?_
  exact Hj15 ()
def eF_7_store (s : eh_F) (p0 : Int32) : Option (eh_F) := eh_V (((eh_ushr p0 12) &&& 7) : Int32) (fun x1 => if 2 < x1 then (Option.bind (eF_7_fail s 2 p0) (fun q3 => some q3)) else (Option.bind (eF_7_leftOf s p0) (fun q4 => eh_V ((q4 + ((eh_shl (eh_shr p0 25) 5) ||| ((eh_ushr p0 7) &&& 31))) : Int32) (fun x5 => Option.bind (eF_7_locate s x5 (eh_shl 1 x1) 2) (fun q6 => eh_J (fun (s8 : eh_F) => some s8) (fun j7 => if q6.1 < 0 then (j7 q6.2) else (Option.bind (eF_7_rightOf q6.2 p0) (fun q10 => Option.bind (eF_7_keep q6.2 q6.1 q10 (eh_shl 1 x1)) (fun q11 => j7 q11)))))))))
set_option maxHeartbeats 4000000 in
set_option maxRecDepth 100000 in
theorem eS_7_store (g : eh_P) (s : eh_F) (p0 : Int32) : eh_Sim g eM_7_store (eh_R 5 0 0) eh_eV 0 0 0 (eh_en 5 [.ref 124, .int p0]) [] (eh_FW s) (eF_7_store s p0) := by
  unfold eF_7_store
  refine ef_top (L := [some (.ref 124), some (.int p0), none, none, none]) rfl ?_
  refine es_blk (pc' := 8) (L' := [some (.ref 124), some (.int p0), some (.int ((eh_ushr p0 12) &&& 7)), none, none]) (st' := []) [(.iload_n 1, 0), (.bipush 12, 12), (.iushr, 0), (.bipush 7, 7), (.iand, 0), (.istore_n 2, 0)] (by decide +kernel) rfl rfl ?_
  refine ef_V (fun x1 => [some (.ref 124), some (.int p0), some (.int x1), none, none]) (fun _ => []) (fun _ => eh_FW s) (fun x1 => ?_)
  refine es_blk (pc' := 10) (L' := [some (.ref 124), some (.int p0), some (.int x1), none, none]) (st' := [.int 2, .int x1]) [(.iload_n 2, 0), (.iconst 2, 2)] (by decide +kernel) rfl rfl ?_
  refine es_ile (tgt := 20) (off := (10)) (by decide +kernel) (by decide) (fun h2 => ?_) (fun h2 => ?_)
  · refine es_blk (pc' := 16) (L' := [some (.ref 124), some (.int p0), some (.int x1), none, none]) (st' := [.int p0, .int 2, .ref 124]) [(.aload_n 0, 0), (.iconst 2, 2), (.iload_n 1, 0)] (by decide +kernel) rfl rfl ?_
    refine ef_veV (d := 1) (k := 124) (As := [.int 2, .int p0]) (st := []) eV_7_fail eK_7_201 (eS_7_fail g s 2 p0) rfl rfl (Nat.le_of_ble_eq_true rfl) rfl (Nat.le_of_ble_eq_true rfl) ⟨Nat.le_of_ble_eq_true rfl, Nat.le_of_ble_eq_true rfl⟩ ⟨Nat.le_refl _, Nat.le_refl _⟩ (by decide +kernel) (fun q3 _ => ?_)
    exact es_ret rfl rfl rfl ⟨by decide +kernel, rfl⟩ (Nat.le_refl _) (Nat.le_refl _)
  refine es_blk (pc' := 22) (L' := [some (.ref 124), some (.int p0), some (.int x1), none, none]) (st' := [.int p0, .ref 124]) [(.aload_n 0, 0), (.iload_n 1, 0)] (by decide +kernel) rfl rfl ?_
  refine ef_vpI (d := 1) (k := 124) (As := [.int p0]) (st := []) eV_7_leftOf eK_7_208 (eS_7_leftOf g s p0) rfl rfl (Nat.le_of_ble_eq_true rfl) rfl (Nat.le_of_ble_eq_true rfl) ⟨Nat.le_of_ble_eq_true rfl, Nat.le_of_ble_eq_true rfl⟩ ⟨Nat.le_refl _, Nat.le_refl _⟩ (by decide +kernel) (fun q4 _ => ?_)
  refine es_blk (pc' := 41) (L' := [some (.ref 124), some (.int p0), some (.int x1), some (.int (q4 + ((eh_shl (eh_shr p0 25) 5) ||| ((eh_ushr p0 7) &&& 31)))), none]) (st' := []) [(.iload_n 1, 0), (.bipush 25, 25), (.ishr, 0), (.iconst 5, 5), (.ishl, 0), (.iload_n 1, 0), (.bipush 7, 7), (.iushr, 0), (.bipush 31, 31), (.iand, 0), (.ior, 0), (.iadd, 0), (.istore_n 3, 0)] (by decide +kernel) rfl rfl ?_
  refine ef_V (fun x5 => [some (.ref 124), some (.int p0), some (.int x1), some (.int x5), none]) (fun _ => []) (fun _ => eh_FW s) (fun x5 => ?_)
  refine es_blk (pc' := 47) (L' := [some (.ref 124), some (.int p0), some (.int x1), some (.int x5), none]) (st' := [.int 2, .int (eh_shl 1 x1), .int x5, .ref 124]) [(.aload_n 0, 0), (.iload_n 3, 0), (.iconst 1, 1), (.iload_n 2, 0), (.ishl, 0), (.iconst 2, 2)] (by decide +kernel) rfl rfl ?_
  refine ef_veI (d := 4) (k := 124) (As := [.int x5, .int (eh_shl 1 x1), .int 2]) (st := []) eV_7_locate eK_7_155 (eS_7_locate g s x5 (eh_shl 1 x1) 2) rfl rfl (Nat.le_of_ble_eq_true rfl) rfl (Nat.le_of_ble_eq_true rfl) ⟨Nat.le_of_ble_eq_true rfl, Nat.le_of_ble_eq_true rfl⟩ ⟨Nat.le_refl _, Nat.le_refl _⟩ (by decide +kernel) (fun q6 _ => ?_)
  refine es_blk (pc' := 54) (L' := [some (.ref 124), some (.int p0), some (.int x1), some (.int x5), some (.int q6.1)]) (st' := [.int q6.1]) [(.istore 4, 0), (.iload 4, 0)] (by decide +kernel) rfl rfl ?_
  refine ef_J (X := fun j7 => ∀ (s8 : eh_F), eh_Sim g eM_7_store (eh_R 5 0 0) eh_eV 0 0 71 [none, none, none, none, none] [] (eh_FW s8) ((j7 s8).bind some)) ?_ (fun j7 Hj7 => ?_)
  · intro s8
    exact es_ret rfl rfl rfl ⟨by decide +kernel, rfl⟩ (Nat.le_refl _) (Nat.le_refl _)
  refine es_lt (tgt := 71) (off := (17)) (by decide +kernel) (by decide) (fun h9 => ?_) (fun h9 => ?_)
  · refine ef_drop (L2 := [none, none, none, none, none]) [false, false, false, false, false] rfl rfl ?_
    exact Hj7 _
  refine es_blk (pc' := 62) (L' := [some (.ref 124), some (.int p0), some (.int x1), some (.int x5), some (.int q6.1)]) (st' := [.int p0, .ref 124, .int q6.1, .ref 124]) [(.aload_n 0, 0), (.iload 4, 0), (.aload_n 0, 0), (.iload_n 1, 0)] (by decide +kernel) rfl rfl ?_
  refine ef_vpI (d := 1) (k := 124) (As := [.int p0]) (st := [.int q6.1, .ref 124]) eV_7_rightOf eK_7_211 (eS_7_rightOf g q6.2 p0) rfl rfl (Nat.le_of_ble_eq_true rfl) rfl (Nat.le_of_ble_eq_true rfl) ⟨Nat.le_of_ble_eq_true rfl, Nat.le_of_ble_eq_true rfl⟩ ⟨Nat.le_refl _, Nat.le_refl _⟩ (by decide +kernel) (fun q10 _ => ?_)
  refine es_blk (pc' := 68) (L' := [some (.ref 124), some (.int p0), some (.int x1), some (.int x5), some (.int q6.1)]) (st' := [.int (eh_shl 1 x1), .int q10, .int q6.1, .ref 124]) [(.iconst 1, 1), (.iload_n 2, 0), (.ishl, 0)] (by decide +kernel) rfl rfl ?_
  refine ef_veV (d := 4) (k := 124) (As := [.int q6.1, .int q10, .int (eh_shl 1 x1)]) (st := []) eV_7_keep eK_7_222 (eS_7_keep g q6.2 q6.1 q10 (eh_shl 1 x1)) rfl rfl (Nat.le_of_ble_eq_true rfl) rfl (Nat.le_of_ble_eq_true rfl) ⟨Nat.le_of_ble_eq_true rfl, Nat.le_of_ble_eq_true rfl⟩ ⟨Nat.le_refl _, Nat.le_refl _⟩ (by decide +kernel) (fun q11 _ => ?_)
  refine ef_drop (L2 := [none, none, none, none, none]) [false, false, false, false, false] rfl rfl ?_
  exact Hj7 _
def eF_7_reckonInMemory (s : eh_F) (p0 : Int32) : Option (eh_F) := eh_V ((eh_ushr p0 27) : Int32) (fun x1 => eh_J (fun (a3 : Int32) => eh_J (fun (a5 : Int32) => eh_J (fun (u7 : Unit) => Option.bind (eF_7_fail s 2 p0) (fun q8 => some q8)) (fun j6 => if ((eh_ushr p0 12) &&& 7) = 2 then (if a5 = 0 then (j6 ()) else (eh_J (fun (u12 : Unit) => Option.bind (eF_7_leftOf s p0) (fun q13 => eh_J (fun (a15 : Int32) => Option.bind (eF_7_locate s q13 4 a15) (fun q16 => if q16.1 < 0 then (some q16.2) else (Option.bind (eF_7_rightOf q16.2 p0) (fun q18 => eh_J (fun (s20 : eh_F) => some s20) (fun j19 => if a3 = 0 then (if x1 = 3 then (if eh_okH (q16.2.2.2 4) then Option.bind (eF_6_isReserved q16.2 (q16.2.1 (q16.2.2.2 4) 0) q16.1) (fun q24 => eh_J (fun (s26 : eh_F) => if eh_okH (s26.2.2 4) then Option.bind (eF_6_unreserve s26 (s26.1 (s26.2.2 4) 0)) (fun q28 => eh_J (fun (a30 : Int32) => Option.bind (eF_7_put q28 p0 a30) (fun q31 => j19 q31)) (fun j29 => if q24 = 0 then (j29 1) else (j29 0))) else none) (fun j25 => if q24 = 0 then (j25 q16.2) else (Option.bind (eF_7_keep q16.2 q16.1 q18 4) (fun q34 => j25 q34)))) else none) else (Option.bind (eF_6_wordAt q16.2 q16.1) (fun q35 => Option.bind (eF_7_combined q16.2 x1 q35 q18) (fun q36 => Option.bind (eF_7_keep q16.2 q16.1 q36 4) (fun q37 => Option.bind (eF_7_put q37 p0 q35) (fun q38 => j19 q38)))))) else (Option.bind (eF_6_wordAt q16.2 q16.1) (fun q39 => Option.bind (eF_7_put q16.2 p0 q39) (fun q40 => if eh_okH (q40.2.2 4) then Option.bind (eF_6_reserve q40 (q40.1 (q40.2.2 4) 0) q16.1) (fun q42 => j19 q42) else none)))))))) (fun j14 => if a3 = 0 then (j14 2) else (j14 1)))) (fun j11 => if a3 = 0 then (j11 ()) else (if ((eh_ushr p0 20) &&& 31) = 0 then (j11 ()) else (j6 ()))))) else (j6 ()))) (fun j4 => eh_J (fun (u47 : Unit) => j4 1) (fun j46 => if x1 < 5 then (j46 ()) else (if (x1 &&& 3) = 0 then (j46 ()) else (j4 0))))) (fun j2 => if x1 = 2 then (j2 1) else (j2 0)))
set_option maxHeartbeats 4000000 in
set_option maxRecDepth 100000 in
theorem eS_7_reckonInMemory (g : eh_P) (s : eh_F) (p0 : Int32) : eh_Sim g eM_7_reckonInMemory (eh_R 5 0 0) eh_eV 0 0 0 (eh_en 8 [.ref 124, .int p0]) [] (eh_FW s) (eF_7_reckonInMemory s p0) := by
  unfold eF_7_reckonInMemory
  refine ef_top (L := [some (.ref 124), some (.int p0), none, none, none, none, none, none]) rfl ?_
  refine es_blk (pc' := 5) (L' := [some (.ref 124), some (.int p0), some (.int (eh_ushr p0 27)), none, none, none, none, none]) (st' := []) [(.iload_n 1, 0), (.bipush 27, 27), (.iushr, 0), (.istore_n 2, 0)] (by decide +kernel) rfl rfl ?_
  refine ef_V (fun x1 => [some (.ref 124), some (.int p0), some (.int x1), none, none, none, none, none]) (fun _ => []) (fun _ => eh_FW s) (fun x1 => ?_)
  refine es_blk (pc' := 7) (L' := [some (.ref 124), some (.int p0), some (.int x1), none, none, none, none, none]) (st' := [.int 2, .int x1]) [(.iload_n 2, 0), (.iconst 2, 2)] (by decide +kernel) rfl rfl ?_
  refine ef_J (X := fun j2 => ∀ (a3 : Int32), eh_Sim g eM_7_reckonInMemory (eh_R 5 0 0) eh_eV 0 0 15 [some (.ref 124), some (.int p0), some (.int x1), none, none, none, none, none] [.int a3] (eh_FW s) ((j2 a3).bind some)) ?_ (fun j2 Hj2 => ?_)
  · intro a3
    refine es_blk (pc' := 18) (L' := [some (.ref 124), some (.int p0), some (.int x1), some (.int a3), none, none, none, none]) (st' := [.int 5, .int x1]) [(.istore_n 3, 0), (.iload_n 2, 0), (.iconst 5, 5)] (by decide +kernel) rfl rfl ?_
    refine ef_J (X := fun j4 => ∀ (a5 : Int32), eh_Sim g eM_7_reckonInMemory (eh_R 5 0 0) eh_eV 0 0 32 [some (.ref 124), some (.int p0), some (.int x1), some (.int a3), none, none, none, none] [.int a5] (eh_FW s) ((j4 a5).bind some)) ?_ (fun j4 Hj4 => ?_)
    · intro a5
      refine es_blk (pc' := 42) (L' := [some (.ref 124), some (.int p0), some (.int x1), some (.int a3), some (.int a5), none, none, none]) (st' := [.int 2, .int ((eh_ushr p0 12) &&& 7)]) [(.istore 4, 0), (.iload_n 1, 0), (.bipush 12, 12), (.iushr, 0), (.bipush 7, 7), (.iand, 0), (.iconst 2, 2)] (by decide +kernel) rfl rfl ?_
      refine ef_J (X := fun j6 => ∀ (u7 : Unit), eh_Sim g eM_7_reckonInMemory (eh_R 5 0 0) eh_eV 0 0 64 [some (.ref 124), some (.int p0), none, none, none, none, none, none] [] (eh_FW s) ((j6 u7).bind some)) ?_ (fun j6 Hj6 => ?_)
      · intro u7
        refine es_blk (pc' := 67) (L' := [some (.ref 124), some (.int p0), none, none, none, none, none, none]) (st' := [.int p0, .int 2, .ref 124]) [(.aload_n 0, 0), (.iconst 2, 2), (.iload_n 1, 0)] (by decide +kernel) rfl rfl ?_
        refine ef_veV (d := 1) (k := 124) (As := [.int 2, .int p0]) (st := []) eV_7_fail eK_7_201 (eS_7_fail g s 2 p0) rfl rfl (Nat.le_of_ble_eq_true rfl) rfl (Nat.le_of_ble_eq_true rfl) ⟨Nat.le_of_ble_eq_true rfl, Nat.le_of_ble_eq_true rfl⟩ ⟨Nat.le_refl _, Nat.le_refl _⟩ (by decide +kernel) (fun q8 _ => ?_)
        exact es_ret rfl rfl rfl ⟨by decide +kernel, rfl⟩ (Nat.le_refl _) (Nat.le_refl _)
      refine es_ine (tgt := 64) (off := (22)) (by decide +kernel) (by decide) (fun h9 => ?_) (fun h9 => ?_)
      · refine es_blk (pc' := 47) (L' := [some (.ref 124), some (.int p0), some (.int x1), some (.int a3), some (.int a5), none, none, none]) (st' := [.int a5]) [(.iload 4, 0)] (by decide +kernel) rfl rfl ?_
        refine es_eq (tgt := 64) (off := (17)) (by decide +kernel) (by decide) (fun h10 => ?_) (fun h10 => ?_)
        · refine ef_drop (L2 := [some (.ref 124), some (.int p0), none, none, none, none, none, none]) [true, true, false, false, false, true, true, true] rfl rfl ?_
          exact Hj6 ()
        refine es_blk (pc' := 51) (L' := [some (.ref 124), some (.int p0), some (.int x1), some (.int a3), some (.int a5), none, none, none]) (st' := [.int a3]) [(.iload_n 3, 0)] (by decide +kernel) rfl rfl ?_
        refine ef_J (X := fun j11 => ∀ (u12 : Unit), eh_Sim g eM_7_reckonInMemory (eh_R 5 0 0) eh_eV 0 0 71 [some (.ref 124), some (.int p0), some (.int x1), some (.int a3), none, none, none, none] [] (eh_FW s) ((j11 u12).bind some)) ?_ (fun j11 Hj11 => ?_)
        · intro u12
          refine es_blk (pc' := 74) (L' := [some (.ref 124), some (.int p0), some (.int x1), some (.int a3), none, none, none, none]) (st' := [.int p0, .ref 124, .ref 124]) [(.aload_n 0, 0), (.aload_n 0, 0), (.iload_n 1, 0)] (by decide +kernel) rfl rfl ?_
          refine ef_vpI (d := 1) (k := 124) (As := [.int p0]) (st := [.ref 124]) eV_7_leftOf eK_7_208 (eS_7_leftOf g s p0) rfl rfl (Nat.le_of_ble_eq_true rfl) rfl (Nat.le_of_ble_eq_true rfl) ⟨Nat.le_of_ble_eq_true rfl, Nat.le_of_ble_eq_true rfl⟩ ⟨Nat.le_refl _, Nat.le_refl _⟩ (by decide +kernel) (fun q13 _ => ?_)
          refine es_blk (pc' := 79) (L' := [some (.ref 124), some (.int p0), some (.int x1), some (.int a3), none, none, none, none]) (st' := [.int a3, .int 4, .int q13, .ref 124]) [(.iconst 4, 4), (.iload_n 3, 0)] (by decide +kernel) rfl rfl ?_
          refine ef_J (X := fun j14 => ∀ (a15 : Int32), eh_Sim g eM_7_reckonInMemory (eh_R 5 0 0) eh_eV 0 0 87 [some (.ref 124), some (.int p0), some (.int x1), some (.int a3), none, none, none, none] [.int a15, .int 4, .int q13, .ref 124] (eh_FW s) ((j14 a15).bind some)) ?_ (fun j14 Hj14 => ?_)
          · intro a15
            refine ef_veI (d := 4) (k := 124) (As := [.int q13, .int 4, .int a15]) (st := []) eV_7_locate eK_7_155 (eS_7_locate g s q13 4 a15) rfl rfl (Nat.le_of_ble_eq_true rfl) rfl (Nat.le_of_ble_eq_true rfl) ⟨Nat.le_of_ble_eq_true rfl, Nat.le_of_ble_eq_true rfl⟩ ⟨Nat.le_refl _, Nat.le_refl _⟩ (by decide +kernel) (fun q16 _ => ?_)
            refine es_blk (pc' := 94) (L' := [some (.ref 124), some (.int p0), some (.int x1), some (.int a3), none, some (.int q16.1), none, none]) (st' := [.int q16.1]) [(.istore 5, 0), (.iload 5, 0)] (by decide +kernel) rfl rfl ?_
            refine es_ge (tgt := 98) (off := (4)) (by decide +kernel) (by decide) (fun h17 => ?_) (fun h17 => ?_)
            · exact es_ret rfl rfl rfl ⟨by decide +kernel, rfl⟩ (Nat.le_refl _) (Nat.le_refl _)
            refine es_blk (pc' := 100) (L' := [some (.ref 124), some (.int p0), some (.int x1), some (.int a3), none, some (.int q16.1), none, none]) (st' := [.int p0, .ref 124]) [(.aload_n 0, 0), (.iload_n 1, 0)] (by decide +kernel) rfl rfl ?_
            refine ef_vpI (d := 1) (k := 124) (As := [.int p0]) (st := []) eV_7_rightOf eK_7_211 (eS_7_rightOf g q16.2 p0) rfl rfl (Nat.le_of_ble_eq_true rfl) rfl (Nat.le_of_ble_eq_true rfl) ⟨Nat.le_of_ble_eq_true rfl, Nat.le_of_ble_eq_true rfl⟩ ⟨Nat.le_refl _, Nat.le_refl _⟩ (by decide +kernel) (fun q18 _ => ?_)
            refine es_blk (pc' := 106) (L' := [some (.ref 124), some (.int p0), some (.int x1), some (.int a3), none, some (.int q16.1), some (.int q18), none]) (st' := [.int a3]) [(.istore 6, 0), (.iload_n 3, 0)] (by decide +kernel) rfl rfl ?_
            refine ef_J (X := fun j19 => ∀ (s20 : eh_F), eh_Sim g eM_7_reckonInMemory (eh_R 5 0 0) eh_eV 0 0 244 [none, none, none, none, none, none, none, none] [] (eh_FW s20) ((j19 s20).bind some)) ?_ (fun j19 Hj19 => ?_)
            · intro s20
              exact es_ret rfl rfl rfl ⟨by decide +kernel, rfl⟩ (Nat.le_refl _) (Nat.le_refl _)
            refine es_eq (tgt := 142) (off := (36)) (by decide +kernel) (by decide) (fun h21 => ?_) (fun h21 => ?_)
            · refine es_blk (pc' := 144) (L' := [some (.ref 124), some (.int p0), some (.int x1), some (.int a3), none, some (.int q16.1), some (.int q18), none]) (st' := [.int 3, .int x1]) [(.iload_n 2, 0), (.iconst 3, 3)] (by decide +kernel) rfl rfl ?_
              refine es_ine (tgt := 211) (off := (67)) (by decide +kernel) (by decide) (fun h22 => ?_) (fun h22 => ?_)
              · refine es_blk (pc' := 148) (L' := [some (.ref 124), some (.int p0), some (.int x1), some (.int a3), none, some (.int q16.1), some (.int q18), none]) (st' := [.ref 124]) [(.aload_n 0, 0)] (by decide +kernel) rfl rfl ?_
                refine ef_getP (k := 124) (j := 1) (q := 2) rfl eL_7_21 rfl rfl rfl (by decide +kernel) ?_
                refine es_blk (pc' := 152) (L' := [some (.ref 124), some (.int p0), some (.int x1), some (.int a3), none, some (.int q16.1), some (.int q18), none]) (st' := [.ref 124, .ref 2]) [(.aload_n 0, 0)] (by decide +kernel) rfl rfl ?_
                refine ef_getQ (j := 4) (ok := eh_okH) (by decide) eL_7_39 rfl (fun q h => eh_sh_NU (eh_H0sh h)) (by decide +kernel) (fun h23 => ?_)
                refine ef_getI (k := (q16.2.2.2 4)) (j := 0) (eh_H0sh h23) eL_7_244 (by decide) (by decide +kernel) ?_
                refine es_blk (pc' := 160) (L' := [some (.ref 124), some (.int p0), some (.int x1), some (.int a3), none, some (.int q16.1), some (.int q18), none]) (st' := [.int q16.1, .int (q16.2.1 (q16.2.2.2 4) 0), .ref 2]) [(.iload 5, 0)] (by decide +kernel) rfl rfl ?_
                refine ef_vpI (d := 1) (k := 2) (As := [.int (q16.2.1 (q16.2.2.2 4) 0), .int q16.1]) (st := []) eV_6_isReserved eK_7_250 (eS_6_isReserved g q16.2 (q16.2.1 (q16.2.2.2 4) 0) q16.1) rfl rfl (Nat.le_of_ble_eq_true rfl) rfl (Nat.le_of_ble_eq_true rfl) ⟨Nat.le_of_ble_eq_true rfl, Nat.le_of_ble_eq_true rfl⟩ ⟨Nat.le_refl _, Nat.le_refl _⟩ (by decide +kernel) (fun q24 _ => ?_)
                refine es_blk (pc' := 167) (L' := [some (.ref 124), some (.int p0), some (.int x1), some (.int a3), none, some (.int q16.1), some (.int q18), some (.int q24)]) (st' := [.int q24]) [(.istore 7, 0), (.iload 7, 0)] (by decide +kernel) rfl rfl ?_
                refine ef_J (X := fun j25 => ∀ (s26 : eh_F), eh_Sim g eM_7_reckonInMemory (eh_R 5 0 0) eh_eV 0 0 179 [some (.ref 124), some (.int p0), none, none, none, none, none, some (.int q24)] [] (eh_FW s26) ((j25 s26).bind some)) ?_ (fun j25 Hj25 => ?_)
                · intro s26
                  refine es_blk (pc' := 180) (L' := [some (.ref 124), some (.int p0), none, none, none, none, none, some (.int q24)]) (st' := [.ref 124]) [(.aload_n 0, 0)] (by decide +kernel) rfl rfl ?_
                  refine ef_getP (k := 124) (j := 1) (q := 2) rfl eL_7_21 rfl rfl rfl (by decide +kernel) ?_
                  refine es_blk (pc' := 184) (L' := [some (.ref 124), some (.int p0), none, none, none, none, none, some (.int q24)]) (st' := [.ref 124, .ref 2]) [(.aload_n 0, 0)] (by decide +kernel) rfl rfl ?_
                  refine ef_getQ (j := 4) (ok := eh_okH) (by decide) eL_7_39 rfl (fun q h => eh_sh_NU (eh_H0sh h)) (by decide +kernel) (fun h27 => ?_)
                  refine ef_getI (k := (s26.2.2 4)) (j := 0) (eh_H0sh h27) eL_7_244 (by decide) (by decide +kernel) ?_
                  refine ef_veV (d := 1) (k := 2) (As := [.int (s26.1 (s26.2.2 4) 0)]) (st := []) eV_6_unreserve eK_7_253 (eS_6_unreserve g s26 (s26.1 (s26.2.2 4) 0)) rfl rfl (Nat.le_of_ble_eq_true rfl) rfl (Nat.le_of_ble_eq_true rfl) ⟨Nat.le_of_ble_eq_true rfl, Nat.le_of_ble_eq_true rfl⟩ ⟨Nat.le_refl _, Nat.le_refl _⟩ (by decide +kernel) (fun q28 _ => ?_)
                  refine es_blk (pc' := 197) (L' := [some (.ref 124), some (.int p0), none, none, none, none, none, some (.int q24)]) (st' := [.int q24, .int p0, .ref 124]) [(.aload_n 0, 0), (.iload_n 1, 0), (.iload 7, 0)] (by decide +kernel) rfl rfl ?_
                  refine ef_J (X := fun j29 => ∀ (a30 : Int32), eh_Sim g eM_7_reckonInMemory (eh_R 5 0 0) eh_eV 0 0 205 [none, none, none, none, none, none, none, none] [.int a30, .int p0, .ref 124] (eh_FW q28) ((j29 a30).bind some)) ?_ (fun j29 Hj29 => ?_)
                  · intro a30
                    refine ef_veV (d := 1) (k := 124) (As := [.int p0, .int a30]) (st := []) eV_7_put eK_7_165 (eS_7_put g q28 p0 a30) rfl rfl (Nat.le_of_ble_eq_true rfl) rfl (Nat.le_of_ble_eq_true rfl) ⟨Nat.le_of_ble_eq_true rfl, Nat.le_of_ble_eq_true rfl⟩ ⟨Nat.le_refl _, Nat.le_refl _⟩ (by decide +kernel) (fun q31 _ => ?_)
                    refine es_goto (tgt := 244) (off := (36)) (by decide +kernel) (by decide) ?_
                    exact Hj19 _
                  refine es_eq (tgt := 204) (off := (7)) (by decide +kernel) (by decide) (fun h32 => ?_) (fun h32 => ?_)
                  · refine es_blk (pc' := 205) (L' := [some (.ref 124), some (.int p0), none, none, none, none, none, some (.int q24)]) (st' := [.int 1, .int p0, .ref 124]) [(.iconst 1, 1)] (by decide +kernel) rfl rfl ?_
                    refine ef_drop (L2 := [none, none, none, none, none, none, none, none]) [false, false, true, true, true, true, true, false] rfl rfl ?_
                    exact Hj29 _
                  refine es_blk (pc' := 201) (L' := [some (.ref 124), some (.int p0), none, none, none, none, none, some (.int q24)]) (st' := [.int 0, .int p0, .ref 124]) [(.iconst 0, 0)] (by decide +kernel) rfl rfl ?_
                  refine es_goto (tgt := 205) (off := (4)) (by decide +kernel) (by decide) ?_
                  refine ef_drop (L2 := [none, none, none, none, none, none, none, none]) [false, false, true, true, true, true, true, false] rfl rfl ?_
                  exact Hj29 _
                refine es_eq (tgt := 179) (off := (12)) (by decide +kernel) (by decide) (fun h33 => ?_) (fun h33 => ?_)
                · refine ef_drop (L2 := [some (.ref 124), some (.int p0), none, none, none, none, none, some (.int q24)]) [true, true, false, false, true, false, false, true] rfl rfl ?_
                  exact Hj25 _
                refine es_blk (pc' := 176) (L' := [some (.ref 124), some (.int p0), some (.int x1), some (.int a3), none, some (.int q16.1), some (.int q18), some (.int q24)]) (st' := [.int 4, .int q18, .int q16.1, .ref 124]) [(.aload_n 0, 0), (.iload 5, 0), (.iload 6, 0), (.iconst 4, 4)] (by decide +kernel) rfl rfl ?_
                refine ef_veV (d := 4) (k := 124) (As := [.int q16.1, .int q18, .int 4]) (st := []) eV_7_keep eK_7_222 (eS_7_keep g q16.2 q16.1 q18 4) rfl rfl (Nat.le_of_ble_eq_true rfl) rfl (Nat.le_of_ble_eq_true rfl) ⟨Nat.le_of_ble_eq_true rfl, Nat.le_of_ble_eq_true rfl⟩ ⟨Nat.le_refl _, Nat.le_refl _⟩ (by decide +kernel) (fun q34 _ => ?_)
                refine ef_drop (L2 := [some (.ref 124), some (.int p0), none, none, none, none, none, some (.int q24)]) [true, true, false, false, true, false, false, true] rfl rfl ?_
                exact Hj25 _
              refine es_blk (pc' := 212) (L' := [some (.ref 124), some (.int p0), some (.int x1), some (.int a3), none, some (.int q16.1), some (.int q18), none]) (st' := [.ref 124]) [(.aload_n 0, 0)] (by decide +kernel) rfl rfl ?_
              refine ef_getP (k := 124) (j := 1) (q := 2) rfl eL_7_21 rfl rfl rfl (by decide +kernel) ?_
              refine es_blk (pc' := 217) (L' := [some (.ref 124), some (.int p0), some (.int x1), some (.int a3), none, some (.int q16.1), some (.int q18), none]) (st' := [.int q16.1, .ref 2]) [(.iload 5, 0)] (by decide +kernel) rfl rfl ?_
              refine ef_vpI (d := 1) (k := 2) (As := [.int q16.1]) (st := []) eV_6_wordAt eK_7_159 (eS_6_wordAt g q16.2 q16.1) rfl rfl (Nat.le_of_ble_eq_true rfl) rfl (Nat.le_of_ble_eq_true rfl) ⟨Nat.le_of_ble_eq_true rfl, Nat.le_of_ble_eq_true rfl⟩ ⟨Nat.le_refl _, Nat.le_refl _⟩ (by decide +kernel) (fun q35 _ => ?_)
              refine es_blk (pc' := 230) (L' := [some (.ref 124), some (.int p0), some (.int x1), some (.int a3), none, some (.int q16.1), some (.int q18), some (.int q35)]) (st' := [.int q18, .int q35, .int x1, .int q16.1, .ref 124]) [(.istore 7, 0), (.aload_n 0, 0), (.iload 5, 0), (.iload_n 2, 0), (.iload 7, 0), (.iload 6, 0)] (by decide +kernel) rfl rfl ?_
              refine ef_spI (d := 2) (As := [.int x1, .int q35, .int q18]) (st := [.int q16.1, .ref 124]) eV_7_combined eK_7_256 (eS_7_combined g q16.2 x1 q35 q18) rfl (Nat.le_of_ble_eq_true rfl) rfl (Nat.le_of_ble_eq_true rfl) ⟨Nat.le_of_ble_eq_true rfl, Nat.le_of_ble_eq_true rfl⟩ ⟨Nat.le_refl _, Nat.le_refl _⟩ (by decide +kernel) (fun q36 _ => ?_)
              refine es_blk (pc' := 234) (L' := [some (.ref 124), some (.int p0), some (.int x1), some (.int a3), none, some (.int q16.1), some (.int q18), some (.int q35)]) (st' := [.int 4, .int q36, .int q16.1, .ref 124]) [(.iconst 4, 4)] (by decide +kernel) rfl rfl ?_
              refine ef_veV (d := 4) (k := 124) (As := [.int q16.1, .int q36, .int 4]) (st := []) eV_7_keep eK_7_222 (eS_7_keep g q16.2 q16.1 q36 4) rfl rfl (Nat.le_of_ble_eq_true rfl) rfl (Nat.le_of_ble_eq_true rfl) ⟨Nat.le_of_ble_eq_true rfl, Nat.le_of_ble_eq_true rfl⟩ ⟨Nat.le_refl _, Nat.le_refl _⟩ (by decide +kernel) (fun q37 _ => ?_)
              refine es_blk (pc' := 241) (L' := [some (.ref 124), some (.int p0), some (.int x1), some (.int a3), none, some (.int q16.1), some (.int q18), some (.int q35)]) (st' := [.int q35, .int p0, .ref 124]) [(.aload_n 0, 0), (.iload_n 1, 0), (.iload 7, 0)] (by decide +kernel) rfl rfl ?_
              refine ef_veV (d := 1) (k := 124) (As := [.int p0, .int q35]) (st := []) eV_7_put eK_7_165 (eS_7_put g q37 p0 q35) rfl rfl (Nat.le_of_ble_eq_true rfl) rfl (Nat.le_of_ble_eq_true rfl) ⟨Nat.le_of_ble_eq_true rfl, Nat.le_of_ble_eq_true rfl⟩ ⟨Nat.le_refl _, Nat.le_refl _⟩ (by decide +kernel) (fun q38 _ => ?_)
              refine ef_drop (L2 := [none, none, none, none, none, none, none, none]) [false, false, false, false, true, false, false, false] rfl rfl ?_
              exact Hj19 _
            refine es_blk (pc' := 112) (L' := [some (.ref 124), some (.int p0), some (.int x1), some (.int a3), none, some (.int q16.1), some (.int q18), none]) (st' := [.ref 124, .int p0, .ref 124]) [(.aload_n 0, 0), (.iload_n 1, 0), (.aload_n 0, 0)] (by decide +kernel) rfl rfl ?_
            refine ef_getP (k := 124) (j := 1) (q := 2) rfl eL_7_21 rfl rfl rfl (by decide +kernel) ?_
            refine es_blk (pc' := 117) (L' := [some (.ref 124), some (.int p0), some (.int x1), some (.int a3), none, some (.int q16.1), some (.int q18), none]) (st' := [.int q16.1, .ref 2, .int p0, .ref 124]) [(.iload 5, 0)] (by decide +kernel) rfl rfl ?_
            refine ef_vpI (d := 1) (k := 2) (As := [.int q16.1]) (st := [.int p0, .ref 124]) eV_6_wordAt eK_7_159 (eS_6_wordAt g q16.2 q16.1) rfl rfl (Nat.le_of_ble_eq_true rfl) rfl (Nat.le_of_ble_eq_true rfl) ⟨Nat.le_of_ble_eq_true rfl, Nat.le_of_ble_eq_true rfl⟩ ⟨Nat.le_refl _, Nat.le_refl _⟩ (by decide +kernel) (fun q39 _ => ?_)
            refine ef_veV (d := 1) (k := 124) (As := [.int p0, .int q39]) (st := []) eV_7_put eK_7_165 (eS_7_put g q16.2 p0 q39) rfl rfl (Nat.le_of_ble_eq_true rfl) rfl (Nat.le_of_ble_eq_true rfl) ⟨Nat.le_of_ble_eq_true rfl, Nat.le_of_ble_eq_true rfl⟩ ⟨Nat.le_refl _, Nat.le_refl _⟩ (by decide +kernel) (fun q40 _ => ?_)
            refine es_blk (pc' := 124) (L' := [some (.ref 124), some (.int p0), some (.int x1), some (.int a3), none, some (.int q16.1), some (.int q18), none]) (st' := [.ref 124]) [(.aload_n 0, 0)] (by decide +kernel) rfl rfl ?_
            refine ef_getP (k := 124) (j := 1) (q := 2) rfl eL_7_21 rfl rfl rfl (by decide +kernel) ?_
            refine es_blk (pc' := 128) (L' := [some (.ref 124), some (.int p0), some (.int x1), some (.int a3), none, some (.int q16.1), some (.int q18), none]) (st' := [.ref 124, .ref 2]) [(.aload_n 0, 0)] (by decide +kernel) rfl rfl ?_
            refine ef_getQ (j := 4) (ok := eh_okH) (by decide) eL_7_39 rfl (fun q h => eh_sh_NU (eh_H0sh h)) (by decide +kernel) (fun h41 => ?_)
            refine ef_getI (k := (q40.2.2 4)) (j := 0) (eh_H0sh h41) eL_7_244 (by decide) (by decide +kernel) ?_
            refine es_blk (pc' := 136) (L' := [some (.ref 124), some (.int p0), some (.int x1), some (.int a3), none, some (.int q16.1), some (.int q18), none]) (st' := [.int q16.1, .int (q40.1 (q40.2.2 4) 0), .ref 2]) [(.iload 5, 0)] (by decide +kernel) rfl rfl ?_
            refine ef_veV (d := 1) (k := 2) (As := [.int (q40.1 (q40.2.2 4) 0), .int q16.1]) (st := []) eV_6_reserve eK_7_247 (eS_6_reserve g q40 (q40.1 (q40.2.2 4) 0) q16.1) rfl rfl (Nat.le_of_ble_eq_true rfl) rfl (Nat.le_of_ble_eq_true rfl) ⟨Nat.le_of_ble_eq_true rfl, Nat.le_of_ble_eq_true rfl⟩ ⟨Nat.le_refl _, Nat.le_refl _⟩ (by decide +kernel) (fun q42 _ => ?_)
            refine es_goto (tgt := 244) (off := (105)) (by decide +kernel) (by decide) ?_
            refine ef_drop (L2 := [none, none, none, none, none, none, none, none]) [false, false, false, false, true, false, false, true] rfl rfl ?_
            exact Hj19 _
          refine es_eq (tgt := 86) (off := (7)) (by decide +kernel) (by decide) (fun h43 => ?_) (fun h43 => ?_)
          · refine es_blk (pc' := 87) (L' := [some (.ref 124), some (.int p0), some (.int x1), some (.int a3), none, none, none, none]) (st' := [.int 2, .int 4, .int q13, .ref 124]) [(.iconst 2, 2)] (by decide +kernel) rfl rfl ?_
            exact Hj14 _
          refine es_blk (pc' := 83) (L' := [some (.ref 124), some (.int p0), some (.int x1), some (.int a3), none, none, none, none]) (st' := [.int 1, .int 4, .int q13, .ref 124]) [(.iconst 1, 1)] (by decide +kernel) rfl rfl ?_
          refine es_goto (tgt := 87) (off := (4)) (by decide +kernel) (by decide) ?_
          exact Hj14 _
        refine es_eq (tgt := 71) (off := (20)) (by decide +kernel) (by decide) (fun h44 => ?_) (fun h44 => ?_)
        · refine ef_drop (L2 := [some (.ref 124), some (.int p0), some (.int x1), some (.int a3), none, none, none, none]) [true, true, true, true, false, true, true, true] rfl rfl ?_
          exact Hj11 ()
        refine es_blk (pc' := 61) (L' := [some (.ref 124), some (.int p0), some (.int x1), some (.int a3), some (.int a5), none, none, none]) (st' := [.int ((eh_ushr p0 20) &&& 31)]) [(.iload_n 1, 0), (.bipush 20, 20), (.iushr, 0), (.bipush 31, 31), (.iand, 0)] (by decide +kernel) rfl rfl ?_
        refine es_eq (tgt := 71) (off := (10)) (by decide +kernel) (by decide) (fun h45 => ?_) (fun h45 => ?_)
        · refine ef_drop (L2 := [some (.ref 124), some (.int p0), some (.int x1), some (.int a3), none, none, none, none]) [true, true, true, true, false, true, true, true] rfl rfl ?_
          exact Hj11 ()
        refine ef_drop (L2 := [some (.ref 124), some (.int p0), none, none, none, none, none, none]) [true, true, false, false, false, true, true, true] rfl rfl ?_
        exact Hj6 ()
      refine ef_drop (L2 := [some (.ref 124), some (.int p0), none, none, none, none, none, none]) [true, true, false, false, false, true, true, true] rfl rfl ?_
      exact Hj6 ()
    refine ef_J (X := fun j46 => ∀ (u47 : Unit), eh_Sim g eM_7_reckonInMemory (eh_R 5 0 0) eh_eV 0 0 27 [some (.ref 124), some (.int p0), some (.int x1), some (.int a3), none, none, none, none] [] (eh_FW s) ((j46 u47).bind some)) ?_ (fun j46 Hj46 => ?_)
    · intro u47
      refine es_blk (pc' := 28) (L' := [some (.ref 124), some (.int p0), some (.int x1), some (.int a3), none, none, none, none]) (st' := [.int 1]) [(.iconst 1, 1)] (by decide +kernel) rfl rfl ?_
      refine es_goto (tgt := 32) (off := (4)) (by decide +kernel) (by decide) ?_
      exact Hj4 _
    refine es_ilt (tgt := 27) (off := (9)) (by decide +kernel) (by decide) (fun h48 => ?_) (fun h48 => ?_)
    · exact Hj46 ()
    refine es_blk (pc' := 24) (L' := [some (.ref 124), some (.int p0), some (.int x1), some (.int a3), none, none, none, none]) (st' := [.int (x1 &&& 3)]) [(.iload_n 2, 0), (.iconst 3, 3), (.iand, 0)] (by decide +kernel) rfl rfl ?_
    refine es_ne (tgt := 31) (off := (7)) (by decide +kernel) (by decide) (fun h49 => ?_) (fun h49 => ?_)
    · exact Hj46 ()
    refine es_blk (pc' := 32) (L' := [some (.ref 124), some (.int p0), some (.int x1), some (.int a3), none, none, none, none]) (st' := [.int 0]) [(.iconst 0, 0)] (by decide +kernel) rfl rfl ?_
    exact Hj4 _
  refine es_ine (tgt := 14) (off := (7)) (by decide +kernel) (by decide) (fun h50 => ?_) (fun h50 => ?_)
  · refine es_blk (pc' := 11) (L' := [some (.ref 124), some (.int p0), some (.int x1), none, none, none, none, none]) (st' := [.int 1]) [(.iconst 1, 1)] (by decide +kernel) rfl rfl ?_
    refine es_goto (tgt := 15) (off := (4)) (by decide +kernel) (by decide) ?_
    exact Hj2 _
  refine es_blk (pc' := 15) (L' := [some (.ref 124), some (.int p0), some (.int x1), none, none, none, none, none]) (st' := [.int 0]) [(.iconst 0, 0)] (by decide +kernel) rfl rfl ?_
  exact Hj2 _
def eF_7_special (s : eh_F) (p0 : Int32) : Option (eh_F) := eh_V (((eh_ushr p0 12) &&& 7) : Int32) (fun x1 => eh_J (fun (a3 : Int32) => eh_J (fun (s5 : eh_F) => some s5) (fun j4 => if x1 = 4 then (Option.bind (eF_7_fail s 2 p0) (fun q7 => j4 q7)) else (if x1 = 0 then (if ((eh_ushr p0 7) &&& 31) = 0 then (if (eh_ushr p0 25) = 9 then (Option.bind (eF_7_failUnless s a3 p0) (fun q11 => j4 q11)) else (Option.bind (eF_7_specialByCode s p0 a3) (fun q12 => j4 q12))) else (Option.bind (eF_7_fail s 2 p0) (fun q13 => j4 q13))) else (Option.bind (eF_7_useControl s p0 x1 a3) (fun q14 => j4 q14))))) (fun j2 => eh_J (fun (u16 : Unit) => j2 0) (fun j15 => if (s.1 124 6) = 0 then (if eh_okH (s.2.2 4) then if (s.1 (s.2.2 4) 3) = 1 then (j2 1) else (j15 ()) else none) else (j15 ()))))
set_option maxHeartbeats 4000000 in
set_option maxRecDepth 100000 in
theorem eS_7_special (g : eh_P) (s : eh_F) (p0 : Int32) : eh_Sim g eM_7_special (eh_R 5 0 0) eh_eV 0 0 0 (eh_en 4 [.ref 124, .int p0]) [] (eh_FW s) (eF_7_special s p0) := by
  unfold eF_7_special
  refine ef_top (L := [some (.ref 124), some (.int p0), none, none]) rfl ?_
  refine es_blk (pc' := 8) (L' := [some (.ref 124), some (.int p0), some (.int ((eh_ushr p0 12) &&& 7)), none]) (st' := []) [(.iload_n 1, 0), (.bipush 12, 12), (.iushr, 0), (.bipush 7, 7), (.iand, 0), (.istore_n 2, 0)] (by decide +kernel) rfl rfl ?_
  refine ef_V (fun x1 => [some (.ref 124), some (.int p0), some (.int x1), none]) (fun _ => []) (fun _ => eh_FW s) (fun x1 => ?_)
  refine es_blk (pc' := 9) (L' := [some (.ref 124), some (.int p0), some (.int x1), none]) (st' := [.ref 124]) [(.aload_n 0, 0)] (by decide +kernel) rfl rfl ?_
  refine ef_getI (k := 124) (j := 6) rfl eL_7_94 (by decide) (by decide +kernel) ?_
  refine ef_J (X := fun j2 => ∀ (a3 : Int32), eh_Sim g eM_7_special (eh_R 5 0 0) eh_eV 0 0 31 [some (.ref 124), some (.int p0), some (.int x1), none] [.int a3] (eh_FW s) ((j2 a3).bind some)) ?_ (fun j2 Hj2 => ?_)
  · intro a3
    refine es_blk (pc' := 34) (L' := [some (.ref 124), some (.int p0), some (.int x1), some (.int a3)]) (st' := [.int 4, .int x1]) [(.istore_n 3, 0), (.iload_n 2, 0), (.iconst 4, 4)] (by decide +kernel) rfl rfl ?_
    refine ef_J (X := fun j4 => ∀ (s5 : eh_F), eh_Sim g eM_7_special (eh_R 5 0 0) eh_eV 0 0 103 [none, none, none, none] [] (eh_FW s5) ((j4 s5).bind some)) ?_ (fun j4 Hj4 => ?_)
    · intro s5
      exact es_ret rfl rfl rfl ⟨by decide +kernel, rfl⟩ (Nat.le_refl _) (Nat.le_refl _)
    refine es_ine (tgt := 46) (off := (12)) (by decide +kernel) (by decide) (fun h6 => ?_) (fun h6 => ?_)
    · refine es_blk (pc' := 40) (L' := [some (.ref 124), some (.int p0), some (.int x1), some (.int a3)]) (st' := [.int p0, .int 2, .ref 124]) [(.aload_n 0, 0), (.iconst 2, 2), (.iload_n 1, 0)] (by decide +kernel) rfl rfl ?_
      refine ef_veV (d := 1) (k := 124) (As := [.int 2, .int p0]) (st := []) eV_7_fail eK_7_201 (eS_7_fail g s 2 p0) rfl rfl (Nat.le_of_ble_eq_true rfl) rfl (Nat.le_of_ble_eq_true rfl) ⟨Nat.le_of_ble_eq_true rfl, Nat.le_of_ble_eq_true rfl⟩ ⟨Nat.le_refl _, Nat.le_refl _⟩ (by decide +kernel) (fun q7 _ => ?_)
      refine es_goto (tgt := 103) (off := (60)) (by decide +kernel) (by decide) ?_
      refine ef_drop (L2 := [none, none, none, none]) [false, false, false, false] rfl rfl ?_
      exact Hj4 _
    refine es_blk (pc' := 47) (L' := [some (.ref 124), some (.int p0), some (.int x1), some (.int a3)]) (st' := [.int x1]) [(.iload_n 2, 0)] (by decide +kernel) rfl rfl ?_
    refine es_eq (tgt := 60) (off := (13)) (by decide +kernel) (by decide) (fun h8 => ?_) (fun h8 => ?_)
    · refine es_blk (pc' := 67) (L' := [some (.ref 124), some (.int p0), some (.int x1), some (.int a3)]) (st' := [.int ((eh_ushr p0 7) &&& 31)]) [(.iload_n 1, 0), (.bipush 7, 7), (.iushr, 0), (.bipush 31, 31), (.iand, 0)] (by decide +kernel) rfl rfl ?_
      refine es_eq (tgt := 79) (off := (12)) (by decide +kernel) (by decide) (fun h9 => ?_) (fun h9 => ?_)
      · refine es_blk (pc' := 85) (L' := [some (.ref 124), some (.int p0), some (.int x1), some (.int a3)]) (st' := [.int 9, .int (eh_ushr p0 25)]) [(.iload_n 1, 0), (.bipush 25, 25), (.iushr, 0), (.bipush 9, 9)] (by decide +kernel) rfl rfl ?_
        refine es_ine (tgt := 97) (off := (12)) (by decide +kernel) (by decide) (fun h10 => ?_) (fun h10 => ?_)
        · refine es_blk (pc' := 91) (L' := [some (.ref 124), some (.int p0), some (.int x1), some (.int a3)]) (st' := [.int p0, .int a3, .ref 124]) [(.aload_n 0, 0), (.iload_n 3, 0), (.iload_n 1, 0)] (by decide +kernel) rfl rfl ?_
          refine ef_veV (d := 2) (k := 124) (As := [.int a3, .int p0]) (st := []) eV_7_failUnless eK_7_266 (eS_7_failUnless g s a3 p0) rfl rfl (Nat.le_of_ble_eq_true rfl) rfl (Nat.le_of_ble_eq_true rfl) ⟨Nat.le_of_ble_eq_true rfl, Nat.le_of_ble_eq_true rfl⟩ ⟨Nat.le_refl _, Nat.le_refl _⟩ (by decide +kernel) (fun q11 _ => ?_)
          refine es_goto (tgt := 103) (off := (9)) (by decide +kernel) (by decide) ?_
          refine ef_drop (L2 := [none, none, none, none]) [false, false, false, false] rfl rfl ?_
          exact Hj4 _
        refine es_blk (pc' := 100) (L' := [some (.ref 124), some (.int p0), some (.int x1), some (.int a3)]) (st' := [.int a3, .int p0, .ref 124]) [(.aload_n 0, 0), (.iload_n 1, 0), (.iload_n 3, 0)] (by decide +kernel) rfl rfl ?_
        refine ef_veV (d := 2) (k := 124) (As := [.int p0, .int a3]) (st := []) eV_7_specialByCode eK_7_270 (eS_7_specialByCode g s p0 a3) rfl rfl (Nat.le_of_ble_eq_true rfl) rfl (Nat.le_of_ble_eq_true rfl) ⟨Nat.le_of_ble_eq_true rfl, Nat.le_of_ble_eq_true rfl⟩ ⟨Nat.le_refl _, Nat.le_refl _⟩ (by decide +kernel) (fun q12 _ => ?_)
        refine ef_drop (L2 := [none, none, none, none]) [false, false, false, false] rfl rfl ?_
        exact Hj4 _
      refine es_blk (pc' := 73) (L' := [some (.ref 124), some (.int p0), some (.int x1), some (.int a3)]) (st' := [.int p0, .int 2, .ref 124]) [(.aload_n 0, 0), (.iconst 2, 2), (.iload_n 1, 0)] (by decide +kernel) rfl rfl ?_
      refine ef_veV (d := 1) (k := 124) (As := [.int 2, .int p0]) (st := []) eV_7_fail eK_7_201 (eS_7_fail g s 2 p0) rfl rfl (Nat.le_of_ble_eq_true rfl) rfl (Nat.le_of_ble_eq_true rfl) ⟨Nat.le_of_ble_eq_true rfl, Nat.le_of_ble_eq_true rfl⟩ ⟨Nat.le_refl _, Nat.le_refl _⟩ (by decide +kernel) (fun q13 _ => ?_)
      refine es_goto (tgt := 103) (off := (27)) (by decide +kernel) (by decide) ?_
      refine ef_drop (L2 := [none, none, none, none]) [false, false, false, false] rfl rfl ?_
      exact Hj4 _
    refine es_blk (pc' := 54) (L' := [some (.ref 124), some (.int p0), some (.int x1), some (.int a3)]) (st' := [.int a3, .int x1, .int p0, .ref 124]) [(.aload_n 0, 0), (.iload_n 1, 0), (.iload_n 2, 0), (.iload_n 3, 0)] (by decide +kernel) rfl rfl ?_
    refine ef_veV (d := 4) (k := 124) (As := [.int p0, .int x1, .int a3]) (st := []) eV_7_useControl eK_7_262 (eS_7_useControl g s p0 x1 a3) rfl rfl (Nat.le_of_ble_eq_true rfl) rfl (Nat.le_of_ble_eq_true rfl) ⟨Nat.le_of_ble_eq_true rfl, Nat.le_of_ble_eq_true rfl⟩ ⟨Nat.le_refl _, Nat.le_refl _⟩ (by decide +kernel) (fun q14 _ => ?_)
    refine es_goto (tgt := 103) (off := (46)) (by decide +kernel) (by decide) ?_
    refine ef_drop (L2 := [none, none, none, none]) [false, false, false, false] rfl rfl ?_
    exact Hj4 _
  refine ef_J (X := fun j15 => ∀ (u16 : Unit), eh_Sim g eM_7_special (eh_R 5 0 0) eh_eV 0 0 30 [some (.ref 124), some (.int p0), some (.int x1), none] [] (eh_FW s) ((j15 u16).bind some)) ?_ (fun j15 Hj15 => ?_)
  · intro u16
    refine es_blk (pc' := 31) (L' := [some (.ref 124), some (.int p0), some (.int x1), none]) (st' := [.int 0]) [(.iconst 0, 0)] (by decide +kernel) rfl rfl ?_
    exact Hj2 _
  refine es_ne (tgt := 30) (off := (18)) (by decide +kernel) (by decide) (fun h17 => ?_) (fun h17 => ?_)
  · refine es_blk (pc' := 16) (L' := [some (.ref 124), some (.int p0), some (.int x1), none]) (st' := [.ref 124]) [(.aload_n 0, 0)] (by decide +kernel) rfl rfl ?_
    refine ef_getQ (j := 4) (ok := eh_okH) (by decide) eL_7_39 rfl (fun q h => eh_sh_NU (eh_H0sh h)) (by decide +kernel) (fun h18 => ?_)
    refine ef_getI (k := (s.2.2 4)) (j := 3) (eh_H0sh h18) eL_7_259 (by decide) (by decide +kernel) ?_
    refine es_blk (pc' := 23) (L' := [some (.ref 124), some (.int p0), some (.int x1), none]) (st' := [.int 1, .int (s.1 (s.2.2 4) 3)]) [(.iconst 1, 1)] (by decide +kernel) rfl rfl ?_
    refine es_ine (tgt := 30) (off := (7)) (by decide +kernel) (by decide) (fun h19 => ?_) (fun h19 => ?_)
    · refine es_blk (pc' := 27) (L' := [some (.ref 124), some (.int p0), some (.int x1), none]) (st' := [.int 1]) [(.iconst 1, 1)] (by decide +kernel) rfl rfl ?_
      refine es_goto (tgt := 31) (off := (4)) (by decide +kernel) (by decide) ?_
      exact Hj2 _
    exact Hj15 ()
  exact Hj15 ()
def eF_10_answerOfEnclaves (s : eh_F) (p0 : Nat) (p1 : Int32) (p2 : Int32) (p3 : Int32) (p4 : Int32) (p5 : Int32) : Option (Int32 × eh_F) := if p1 = 1 then (Option.bind (eF_10_create s p2 p3) (fun q3 => some (q3.1, q3.2))) else if p1 = 2 then (Option.bind (eF_10_load s p2 p3 p4) (fun q5 => some (q5.1, q5.2))) else if p1 = 3 then (Option.bind (eF_10_makeFibre s p2 p3 p4) (fun q7 => some (q7.1, q7.2))) else if p1 = 4 then (Option.bind (eF_10_finalise s p2 p3) (fun q9 => some (q9.1, q9.2))) else if p1 = 5 then (Option.bind (eF_10_enter s p0 p2 p3 p4) (fun q11 => some (q11.1, q11.2))) else if p1 = 6 then (Option.bind (eF_10_resume s p0 p2 p3) (fun q13 => some (q13.1, q13.2))) else if p1 = 7 then (Option.bind (eF_10_stop s p2) (fun q15 => some (q15.1, q15.2))) else if p1 = 8 then (Option.bind (eF_10_destroy s p2) (fun q17 => some (q17.1, q17.2))) else if p1 = 9 then (Option.bind (eF_10_share s p2 p3 p4) (fun q19 => some (q19.1, q19.2))) else if p1 = 10 then (Option.bind (eF_10_join s p2 p3 p4 p5) (fun q21 => some (q21.1, q21.2))) else if p1 = 11 then (Option.bind (eF_10_drop s p2) (fun q23 => some (q23.1, q23.2))) else (some ((-1), s))
set_option maxHeartbeats 4000000 in
set_option maxRecDepth 100000 in
theorem eS_10_answerOfEnclaves (g : eh_P) (s : eh_F) (p0 : Nat) (p1 : Int32) (p2 : Int32) (p3 : Int32) (p4 : Int32) (p5 : Int32) (hp0 : eh_okH p0 = true) : eh_Sim g eM_10_answerOfEnclaves (eh_R 5 0 0) eh_eI 0 0 0 (eh_en 7 [.ref 123, .ref p0, .int p1, .int p2, .int p3, .int p4, .int p5]) [] (eh_FW s) (eF_10_answerOfEnclaves s p0 p1 p2 p3 p4 p5) := by
  unfold eF_10_answerOfEnclaves
  refine ef_top (L := [some (.ref 123), some (.ref p0), some (.int p1), some (.int p2), some (.int p3), some (.int p4), some (.int p5)]) rfl ?_
  refine es_blk (pc' := 1) (L' := [some (.ref 123), some (.ref p0), some (.int p1), some (.int p2), some (.int p3), some (.int p4), some (.int p5)]) (st' := [.int p1]) [(.iload_n 2, 0)] (by decide +kernel) rfl rfl ?_
  have hs1 : decode eM_10_answerOfEnclaves.2.1 1 = .ok (.tableswitch (155) (1) (11) #[(59), (67), (77), (87), (95), (106), (115), (121), (127), (137), (149)], 59) := by decide +kernel
  refine es_ifc (fun h2 => ?_) (fun h2 => ?_)
  · refine es_tsw (off := (59)) (tgt := 60) hs1 1 h2 (by decide) ?_
    refine es_blk (pc' := 64) (L' := [some (.ref 123), some (.ref p0), some (.int p1), some (.int p2), some (.int p3), some (.int p4), some (.int p5)]) (st' := [.int p3, .int p2, .ref 123]) [(.aload_n 0, 0), (.iload_n 3, 0), (.iload 4, 0)] (by decide +kernel) rfl rfl ?_
    refine ef_veI (d := 4) (k := 123) (As := [.int p2, .int p3]) (st := []) eV_10_create eK_10_34 (eS_10_create g s p2 p3) rfl rfl (Nat.le_of_ble_eq_true rfl) rfl (Nat.le_of_ble_eq_true rfl) ⟨Nat.le_of_ble_eq_true rfl, Nat.le_of_ble_eq_true rfl⟩ ⟨Nat.le_refl _, Nat.le_refl _⟩ (by decide +kernel) (fun q3 _ => ?_)
    exact es_ret rfl rfl rfl ⟨by decide +kernel, _, rfl, rfl⟩ (Nat.le_refl _) (Nat.le_refl _)
  refine es_ifc (fun h4 => ?_) (fun h4 => ?_)
  · refine es_tsw (off := (67)) (tgt := 68) hs1 2 h4 (by decide) ?_
    refine es_blk (pc' := 74) (L' := [some (.ref 123), some (.ref p0), some (.int p1), some (.int p2), some (.int p3), some (.int p4), some (.int p5)]) (st' := [.int p4, .int p3, .int p2, .ref 123]) [(.aload_n 0, 0), (.iload_n 3, 0), (.iload 4, 0), (.iload 5, 0)] (by decide +kernel) rfl rfl ?_
    refine ef_veI (d := 3) (k := 123) (As := [.int p2, .int p3, .int p4]) (st := []) eV_10_load eK_10_38 (eS_10_load g s p2 p3 p4) rfl rfl (Nat.le_of_ble_eq_true rfl) rfl (Nat.le_of_ble_eq_true rfl) ⟨Nat.le_of_ble_eq_true rfl, Nat.le_of_ble_eq_true rfl⟩ ⟨Nat.le_refl _, Nat.le_refl _⟩ (by decide +kernel) (fun q5 _ => ?_)
    exact es_ret rfl rfl rfl ⟨by decide +kernel, _, rfl, rfl⟩ (Nat.le_refl _) (Nat.le_refl _)
  refine es_ifc (fun h6 => ?_) (fun h6 => ?_)
  · refine es_tsw (off := (77)) (tgt := 78) hs1 3 h6 (by decide) ?_
    refine es_blk (pc' := 84) (L' := [some (.ref 123), some (.ref p0), some (.int p1), some (.int p2), some (.int p3), some (.int p4), some (.int p5)]) (st' := [.int p4, .int p3, .int p2, .ref 123]) [(.aload_n 0, 0), (.iload_n 3, 0), (.iload 4, 0), (.iload 5, 0)] (by decide +kernel) rfl rfl ?_
    refine ef_veI (d := 4) (k := 123) (As := [.int p2, .int p3, .int p4]) (st := []) eV_10_makeFibre eK_10_42 (eS_10_makeFibre g s p2 p3 p4) rfl rfl (Nat.le_of_ble_eq_true rfl) rfl (Nat.le_of_ble_eq_true rfl) ⟨Nat.le_of_ble_eq_true rfl, Nat.le_of_ble_eq_true rfl⟩ ⟨Nat.le_refl _, Nat.le_refl _⟩ (by decide +kernel) (fun q7 _ => ?_)
    exact es_ret rfl rfl rfl ⟨by decide +kernel, _, rfl, rfl⟩ (Nat.le_refl _) (Nat.le_refl _)
  refine es_ifc (fun h8 => ?_) (fun h8 => ?_)
  · refine es_tsw (off := (87)) (tgt := 88) hs1 4 h8 (by decide) ?_
    refine es_blk (pc' := 92) (L' := [some (.ref 123), some (.ref p0), some (.int p1), some (.int p2), some (.int p3), some (.int p4), some (.int p5)]) (st' := [.int p3, .int p2, .ref 123]) [(.aload_n 0, 0), (.iload_n 3, 0), (.iload 4, 0)] (by decide +kernel) rfl rfl ?_
    refine ef_veI (d := 4) (k := 123) (As := [.int p2, .int p3]) (st := []) eV_10_finalise eK_10_45 (eS_10_finalise g s p2 p3) rfl rfl (Nat.le_of_ble_eq_true rfl) rfl (Nat.le_of_ble_eq_true rfl) ⟨Nat.le_of_ble_eq_true rfl, Nat.le_of_ble_eq_true rfl⟩ ⟨Nat.le_refl _, Nat.le_refl _⟩ (by decide +kernel) (fun q9 _ => ?_)
    exact es_ret rfl rfl rfl ⟨by decide +kernel, _, rfl, rfl⟩ (Nat.le_refl _) (Nat.le_refl _)
  refine es_ifc (fun h10 => ?_) (fun h10 => ?_)
  · refine es_tsw (off := (95)) (tgt := 96) hs1 5 h10 (by decide) ?_
    refine es_blk (pc' := 103) (L' := [some (.ref 123), some (.ref p0), some (.int p1), some (.int p2), some (.int p3), some (.int p4), some (.int p5)]) (st' := [.int p4, .int p3, .int p2, .ref p0, .ref 123]) [(.aload_n 0, 0), (.aload_n 1, 0), (.iload_n 3, 0), (.iload 4, 0), (.iload 5, 0)] (by decide +kernel) rfl rfl ?_
    refine ef_veI (d := 4) (k := 123) (As := [.ref p0, .int p2, .int p3, .int p4]) (st := []) eV_10_enter eK_10_48 (eS_10_enter g s p0 p2 p3 p4 hp0) rfl rfl (Nat.le_of_ble_eq_true rfl) rfl (Nat.le_of_ble_eq_true rfl) ⟨Nat.le_of_ble_eq_true rfl, Nat.le_of_ble_eq_true rfl⟩ ⟨Nat.le_refl _, Nat.le_refl _⟩ (by decide +kernel) (fun q11 _ => ?_)
    exact es_ret rfl rfl rfl ⟨by decide +kernel, _, rfl, rfl⟩ (Nat.le_refl _) (Nat.le_refl _)
  refine es_ifc (fun h12 => ?_) (fun h12 => ?_)
  · refine es_tsw (off := (106)) (tgt := 107) hs1 6 h12 (by decide) ?_
    refine es_blk (pc' := 112) (L' := [some (.ref 123), some (.ref p0), some (.int p1), some (.int p2), some (.int p3), some (.int p4), some (.int p5)]) (st' := [.int p3, .int p2, .ref p0, .ref 123]) [(.aload_n 0, 0), (.aload_n 1, 0), (.iload_n 3, 0), (.iload 4, 0)] (by decide +kernel) rfl rfl ?_
    refine ef_veI (d := 3) (k := 123) (As := [.ref p0, .int p2, .int p3]) (st := []) eV_10_resume eK_10_52 (eS_10_resume g s p0 p2 p3 hp0) rfl rfl (Nat.le_of_ble_eq_true rfl) rfl (Nat.le_of_ble_eq_true rfl) ⟨Nat.le_of_ble_eq_true rfl, Nat.le_of_ble_eq_true rfl⟩ ⟨Nat.le_refl _, Nat.le_refl _⟩ (by decide +kernel) (fun q13 _ => ?_)
    exact es_ret rfl rfl rfl ⟨by decide +kernel, _, rfl, rfl⟩ (Nat.le_refl _) (Nat.le_refl _)
  refine es_ifc (fun h14 => ?_) (fun h14 => ?_)
  · refine es_tsw (off := (115)) (tgt := 116) hs1 7 h14 (by decide) ?_
    refine es_blk (pc' := 118) (L' := [some (.ref 123), some (.ref p0), some (.int p1), some (.int p2), some (.int p3), some (.int p4), some (.int p5)]) (st' := [.int p2, .ref 123]) [(.aload_n 0, 0), (.iload_n 3, 0)] (by decide +kernel) rfl rfl ?_
    refine ef_veI (d := 2) (k := 123) (As := [.int p2]) (st := []) eV_10_stop eK_10_56 (eS_10_stop g s p2) rfl rfl (Nat.le_of_ble_eq_true rfl) rfl (Nat.le_of_ble_eq_true rfl) ⟨Nat.le_of_ble_eq_true rfl, Nat.le_of_ble_eq_true rfl⟩ ⟨Nat.le_refl _, Nat.le_refl _⟩ (by decide +kernel) (fun q15 _ => ?_)
    exact es_ret rfl rfl rfl ⟨by decide +kernel, _, rfl, rfl⟩ (Nat.le_refl _) (Nat.le_refl _)
  refine es_ifc (fun h16 => ?_) (fun h16 => ?_)
  · refine es_tsw (off := (121)) (tgt := 122) hs1 8 h16 (by decide) ?_
    refine es_blk (pc' := 124) (L' := [some (.ref 123), some (.ref p0), some (.int p1), some (.int p2), some (.int p3), some (.int p4), some (.int p5)]) (st' := [.int p2, .ref 123]) [(.aload_n 0, 0), (.iload_n 3, 0)] (by decide +kernel) rfl rfl ?_
    refine ef_veI (d := 3) (k := 123) (As := [.int p2]) (st := []) eV_10_destroy eK_10_60 (eS_10_destroy g s p2) rfl rfl (Nat.le_of_ble_eq_true rfl) rfl (Nat.le_of_ble_eq_true rfl) ⟨Nat.le_of_ble_eq_true rfl, Nat.le_of_ble_eq_true rfl⟩ ⟨Nat.le_refl _, Nat.le_refl _⟩ (by decide +kernel) (fun q17 _ => ?_)
    exact es_ret rfl rfl rfl ⟨by decide +kernel, _, rfl, rfl⟩ (Nat.le_refl _) (Nat.le_refl _)
  refine es_ifc (fun h18 => ?_) (fun h18 => ?_)
  · refine es_tsw (off := (127)) (tgt := 128) hs1 9 h18 (by decide) ?_
    refine es_blk (pc' := 134) (L' := [some (.ref 123), some (.ref p0), some (.int p1), some (.int p2), some (.int p3), some (.int p4), some (.int p5)]) (st' := [.int p4, .int p3, .int p2, .ref 123]) [(.aload_n 0, 0), (.iload_n 3, 0), (.iload 4, 0), (.iload 5, 0)] (by decide +kernel) rfl rfl ?_
    refine ef_veI (d := 4) (k := 123) (As := [.int p2, .int p3, .int p4]) (st := []) eV_10_share eK_10_63 (eS_10_share g s p2 p3 p4) rfl rfl (Nat.le_of_ble_eq_true rfl) rfl (Nat.le_of_ble_eq_true rfl) ⟨Nat.le_of_ble_eq_true rfl, Nat.le_of_ble_eq_true rfl⟩ ⟨Nat.le_refl _, Nat.le_refl _⟩ (by decide +kernel) (fun q19 _ => ?_)
    exact es_ret rfl rfl rfl ⟨by decide +kernel, _, rfl, rfl⟩ (Nat.le_refl _) (Nat.le_refl _)
  refine es_ifc (fun h20 => ?_) (fun h20 => ?_)
  · refine es_tsw (off := (137)) (tgt := 138) hs1 10 h20 (by decide) ?_
    refine es_blk (pc' := 146) (L' := [some (.ref 123), some (.ref p0), some (.int p1), some (.int p2), some (.int p3), some (.int p4), some (.int p5)]) (st' := [.int p5, .int p4, .int p3, .int p2, .ref 123]) [(.aload_n 0, 0), (.iload_n 3, 0), (.iload 4, 0), (.iload 5, 0), (.iload 6, 0)] (by decide +kernel) rfl rfl ?_
    refine ef_veI (d := 4) (k := 123) (As := [.int p2, .int p3, .int p4, .int p5]) (st := []) eV_10_join eK_10_66 (eS_10_join g s p2 p3 p4 p5) rfl rfl (Nat.le_of_ble_eq_true rfl) rfl (Nat.le_of_ble_eq_true rfl) ⟨Nat.le_of_ble_eq_true rfl, Nat.le_of_ble_eq_true rfl⟩ ⟨Nat.le_refl _, Nat.le_refl _⟩ (by decide +kernel) (fun q21 _ => ?_)
    exact es_ret rfl rfl rfl ⟨by decide +kernel, _, rfl, rfl⟩ (Nat.le_refl _) (Nat.le_refl _)
  refine es_ifc (fun h22 => ?_) (fun h22 => ?_)
  · refine es_tsw (off := (149)) (tgt := 150) hs1 11 h22 (by decide) ?_
    refine es_blk (pc' := 152) (L' := [some (.ref 123), some (.ref p0), some (.int p1), some (.int p2), some (.int p3), some (.int p4), some (.int p5)]) (st' := [.int p2, .ref 123]) [(.aload_n 0, 0), (.iload_n 3, 0)] (by decide +kernel) rfl rfl ?_
    refine ef_veI (d := 3) (k := 123) (As := [.int p2]) (st := []) eV_10_drop eK_10_70 (eS_10_drop g s p2) rfl rfl (Nat.le_of_ble_eq_true rfl) rfl (Nat.le_of_ble_eq_true rfl) ⟨Nat.le_of_ble_eq_true rfl, Nat.le_of_ble_eq_true rfl⟩ ⟨Nat.le_refl _, Nat.le_refl _⟩ (by decide +kernel) (fun q23 _ => ?_)
    exact es_ret rfl rfl rfl ⟨by decide +kernel, _, rfl, rfl⟩ (Nat.le_refl _) (Nat.le_refl _)
  refine es_tswD (tgt := 156) hs1 [1, 2, 3, 4, 5, 6, 7, 8, 9, 10, 11] (List.forall_mem_cons.mpr ⟨eh_nei 1 1 (by decide) h2, (List.forall_mem_cons.mpr ⟨eh_nei 2 2 (by decide) h4, (List.forall_mem_cons.mpr ⟨eh_nei 3 3 (by decide) h6, (List.forall_mem_cons.mpr ⟨eh_nei 4 4 (by decide) h8, (List.forall_mem_cons.mpr ⟨eh_nei 5 5 (by decide) h10, (List.forall_mem_cons.mpr ⟨eh_nei 6 6 (by decide) h12, (List.forall_mem_cons.mpr ⟨eh_nei 7 7 (by decide) h14, (List.forall_mem_cons.mpr ⟨eh_nei 8 8 (by decide) h16, (List.forall_mem_cons.mpr ⟨eh_nei 9 9 (by decide) h18, (List.forall_mem_cons.mpr ⟨eh_nei 10 10 (by decide) h20, (List.forall_mem_cons.mpr ⟨eh_nei 11 11 (by decide) h22, (List.forall_mem_nil _)⟩)⟩)⟩)⟩)⟩)⟩)⟩)⟩)⟩)⟩)⟩) (by decide) (by decide) (by decide) ?_
  refine es_blk (pc' := 157) (L' := [some (.ref 123), some (.ref p0), some (.int p1), some (.int p2), some (.int p3), some (.int p4), some (.int p5)]) (st' := [.int (-1)]) [(.iconst (-1), (-1))] (by decide +kernel) rfl rfl ?_
  exact es_ret rfl rfl rfl ⟨by decide +kernel, _, rfl, rfl⟩ (Nat.le_refl _) (Nat.le_refl _)
def eF_10_answerOfMachine (s : eh_F) (p0 : Nat) (p1 : Int32) (p2 : Int32) (p3 : Int32) (p4 : Int32) : Option (Int32 × eh_F) := if p1 = 12 then (Option.bind (eF_10_putOut s p2) (fun q3 => some (q3.1, q3.2))) else if p1 = 13 then (Option.bind (eF_10_signal s p2) (fun q5 => some (q5.1, q5.2))) else if p1 = 14 then (Option.bind (eF_10_askDisk s p2 p3 p4) (fun q7 => some (q7.1, q7.2))) else if p1 = 15 then (Option.bind (eF_0_tell s) (fun q9 => some (q9.1, q9.2))) else if p1 = 16 then (Option.bind (eF_10_measure s p2 p3) (fun q11 => some (q11, s))) else if p1 = 17 then (Option.bind (eF_10_look s p2 p3) (fun q13 => some (q13, s))) else if p1 = 18 then (Option.bind (eF_10_goOff s) (fun q15 => some (q15.1, q15.2))) else if p1 = 19 then (Option.bind (eF_10_setSlice s p0 p2) (fun q17 => some (q17.1, q17.2))) else if p1 = 20 then (Option.bind (eF_10_offer s p2 p3 p4) (fun q19 => some (q19.1, q19.2))) else if p1 = 21 then (Option.bind (eF_8_takeFirst s 20 256) (fun q21 => some (q21.1, q21.2))) else (some ((-1), s))
set_option maxHeartbeats 4000000 in
set_option maxRecDepth 100000 in
theorem eS_10_answerOfMachine (g : eh_P) (s : eh_F) (p0 : Nat) (p1 : Int32) (p2 : Int32) (p3 : Int32) (p4 : Int32) (hp0 : eh_okH p0 = true) : eh_Sim g eM_10_answerOfMachine (eh_R 5 0 0) eh_eI 0 0 0 (eh_en 6 [.ref 123, .ref p0, .int p1, .int p2, .int p3, .int p4]) [] (eh_FW s) (eF_10_answerOfMachine s p0 p1 p2 p3 p4) := by
  unfold eF_10_answerOfMachine
  refine ef_top (L := [some (.ref 123), some (.ref p0), some (.int p1), some (.int p2), some (.int p3), some (.int p4)]) rfl ?_
  refine es_blk (pc' := 1) (L' := [some (.ref 123), some (.ref p0), some (.int p1), some (.int p2), some (.int p3), some (.int p4)]) (st' := [.int p1]) [(.iload_n 2, 0)] (by decide +kernel) rfl rfl ?_
  have hs1 : decode eM_10_answerOfMachine.2.1 1 = .ok (.tableswitch (143) (12) (21) #[(55), (61), (67), (77), (88), (96), (104), (109), (116), (126)], 55) := by decide +kernel
  refine es_ifc (fun h2 => ?_) (fun h2 => ?_)
  · refine es_tsw (off := (55)) (tgt := 56) hs1 12 h2 (by decide) ?_
    refine es_blk (pc' := 58) (L' := [some (.ref 123), some (.ref p0), some (.int p1), some (.int p2), some (.int p3), some (.int p4)]) (st' := [.int p2, .ref 123]) [(.aload_n 0, 0), (.iload_n 3, 0)] (by decide +kernel) rfl rfl ?_
    refine ef_veI (d := 2) (k := 123) (As := [.int p2]) (st := []) eV_10_putOut eK_10_73 (eS_10_putOut g s p2) rfl rfl (Nat.le_of_ble_eq_true rfl) rfl (Nat.le_of_ble_eq_true rfl) ⟨Nat.le_of_ble_eq_true rfl, Nat.le_of_ble_eq_true rfl⟩ ⟨Nat.le_refl _, Nat.le_refl _⟩ (by decide +kernel) (fun q3 _ => ?_)
    exact es_ret rfl rfl rfl ⟨by decide +kernel, _, rfl, rfl⟩ (Nat.le_refl _) (Nat.le_refl _)
  refine es_ifc (fun h4 => ?_) (fun h4 => ?_)
  · refine es_tsw (off := (61)) (tgt := 62) hs1 13 h4 (by decide) ?_
    refine es_blk (pc' := 64) (L' := [some (.ref 123), some (.ref p0), some (.int p1), some (.int p2), some (.int p3), some (.int p4)]) (st' := [.int p2, .ref 123]) [(.aload_n 0, 0), (.iload_n 3, 0)] (by decide +kernel) rfl rfl ?_
    refine ef_veI (d := 2) (k := 123) (As := [.int p2]) (st := []) eV_10_signal eK_10_76 (eS_10_signal g s p2) rfl rfl (Nat.le_of_ble_eq_true rfl) rfl (Nat.le_of_ble_eq_true rfl) ⟨Nat.le_of_ble_eq_true rfl, Nat.le_of_ble_eq_true rfl⟩ ⟨Nat.le_refl _, Nat.le_refl _⟩ (by decide +kernel) (fun q5 _ => ?_)
    exact es_ret rfl rfl rfl ⟨by decide +kernel, _, rfl, rfl⟩ (Nat.le_refl _) (Nat.le_refl _)
  refine es_ifc (fun h6 => ?_) (fun h6 => ?_)
  · refine es_tsw (off := (67)) (tgt := 68) hs1 14 h6 (by decide) ?_
    refine es_blk (pc' := 74) (L' := [some (.ref 123), some (.ref p0), some (.int p1), some (.int p2), some (.int p3), some (.int p4)]) (st' := [.int p4, .int p3, .int p2, .ref 123]) [(.aload_n 0, 0), (.iload_n 3, 0), (.iload 4, 0), (.iload 5, 0)] (by decide +kernel) rfl rfl ?_
    refine ef_veI (d := 2) (k := 123) (As := [.int p2, .int p3, .int p4]) (st := []) eV_10_askDisk eK_10_79 (eS_10_askDisk g s p2 p3 p4) rfl rfl (Nat.le_of_ble_eq_true rfl) rfl (Nat.le_of_ble_eq_true rfl) ⟨Nat.le_of_ble_eq_true rfl, Nat.le_of_ble_eq_true rfl⟩ ⟨Nat.le_refl _, Nat.le_refl _⟩ (by decide +kernel) (fun q7 _ => ?_)
    exact es_ret rfl rfl rfl ⟨by decide +kernel, _, rfl, rfl⟩ (Nat.le_refl _) (Nat.le_refl _)
  refine es_ifc (fun h8 => ?_) (fun h8 => ?_)
  · refine es_tsw (off := (77)) (tgt := 78) hs1 15 h8 (by decide) ?_
    refine es_blk (pc' := 79) (L' := [some (.ref 123), some (.ref p0), some (.int p1), some (.int p2), some (.int p3), some (.int p4)]) (st' := [.ref 123]) [(.aload_n 0, 0)] (by decide +kernel) rfl rfl ?_
    refine ef_getP (k := 123) (j := 0) (q := 1) rfl eL_10_9 rfl rfl rfl (by decide +kernel) ?_
    refine ef_getP (k := 1) (j := 1) (q := 12) rfl eL_10_82 rfl rfl rfl (by decide +kernel) ?_
    refine ef_veI (d := 1) (k := 12) (As := []) (st := []) eV_0_tell eK_10_86 (eS_0_tell g s) rfl rfl (Nat.le_of_ble_eq_true rfl) rfl (Nat.le_of_ble_eq_true rfl) ⟨Nat.le_of_ble_eq_true rfl, Nat.le_of_ble_eq_true rfl⟩ ⟨Nat.le_refl _, Nat.le_refl _⟩ (by decide +kernel) (fun q9 _ => ?_)
    exact es_ret rfl rfl rfl ⟨by decide +kernel, _, rfl, rfl⟩ (Nat.le_refl _) (Nat.le_refl _)
  refine es_ifc (fun h10 => ?_) (fun h10 => ?_)
  · refine es_tsw (off := (88)) (tgt := 89) hs1 16 h10 (by decide) ?_
    refine es_blk (pc' := 93) (L' := [some (.ref 123), some (.ref p0), some (.int p1), some (.int p2), some (.int p3), some (.int p4)]) (st' := [.int p3, .int p2, .ref 123]) [(.aload_n 0, 0), (.iload_n 3, 0), (.iload 4, 0)] (by decide +kernel) rfl rfl ?_
    refine ef_vpI (d := 2) (k := 123) (As := [.int p2, .int p3]) (st := []) eV_10_measure eK_10_92 (eS_10_measure g s p2 p3) rfl rfl (Nat.le_of_ble_eq_true rfl) rfl (Nat.le_of_ble_eq_true rfl) ⟨Nat.le_of_ble_eq_true rfl, Nat.le_of_ble_eq_true rfl⟩ ⟨Nat.le_refl _, Nat.le_refl _⟩ (by decide +kernel) (fun q11 _ => ?_)
    exact es_ret rfl rfl rfl ⟨by decide +kernel, _, rfl, rfl⟩ (Nat.le_refl _) (Nat.le_refl _)
  refine es_ifc (fun h12 => ?_) (fun h12 => ?_)
  · refine es_tsw (off := (96)) (tgt := 97) hs1 17 h12 (by decide) ?_
    refine es_blk (pc' := 101) (L' := [some (.ref 123), some (.ref p0), some (.int p1), some (.int p2), some (.int p3), some (.int p4)]) (st' := [.int p3, .int p2, .ref 123]) [(.aload_n 0, 0), (.iload_n 3, 0), (.iload 4, 0)] (by decide +kernel) rfl rfl ?_
    refine ef_vpI (d := 2) (k := 123) (As := [.int p2, .int p3]) (st := []) eV_10_look eK_10_95 (eS_10_look g s p2 p3) rfl rfl (Nat.le_of_ble_eq_true rfl) rfl (Nat.le_of_ble_eq_true rfl) ⟨Nat.le_of_ble_eq_true rfl, Nat.le_of_ble_eq_true rfl⟩ ⟨Nat.le_refl _, Nat.le_refl _⟩ (by decide +kernel) (fun q13 _ => ?_)
    exact es_ret rfl rfl rfl ⟨by decide +kernel, _, rfl, rfl⟩ (Nat.le_refl _) (Nat.le_refl _)
  refine es_ifc (fun h14 => ?_) (fun h14 => ?_)
  · refine es_tsw (off := (104)) (tgt := 105) hs1 18 h14 (by decide) ?_
    refine es_blk (pc' := 106) (L' := [some (.ref 123), some (.ref p0), some (.int p1), some (.int p2), some (.int p3), some (.int p4)]) (st' := [.ref 123]) [(.aload_n 0, 0)] (by decide +kernel) rfl rfl ?_
    refine ef_veI (d := 1) (k := 123) (As := []) (st := []) eV_10_goOff eK_10_98 (eS_10_goOff g s) rfl rfl (Nat.le_of_ble_eq_true rfl) rfl (Nat.le_of_ble_eq_true rfl) ⟨Nat.le_of_ble_eq_true rfl, Nat.le_of_ble_eq_true rfl⟩ ⟨Nat.le_refl _, Nat.le_refl _⟩ (by decide +kernel) (fun q15 _ => ?_)
    exact es_ret rfl rfl rfl ⟨by decide +kernel, _, rfl, rfl⟩ (Nat.le_refl _) (Nat.le_refl _)
  refine es_ifc (fun h16 => ?_) (fun h16 => ?_)
  · refine es_tsw (off := (109)) (tgt := 110) hs1 19 h16 (by decide) ?_
    refine es_blk (pc' := 113) (L' := [some (.ref 123), some (.ref p0), some (.int p1), some (.int p2), some (.int p3), some (.int p4)]) (st' := [.int p2, .ref p0, .ref 123]) [(.aload_n 0, 0), (.aload_n 1, 0), (.iload_n 3, 0)] (by decide +kernel) rfl rfl ?_
    refine ef_veI (d := 1) (k := 123) (As := [.ref p0, .int p2]) (st := []) eV_10_setSlice eK_10_101 (eS_10_setSlice g s p0 p2 hp0) rfl rfl (Nat.le_of_ble_eq_true rfl) rfl (Nat.le_of_ble_eq_true rfl) ⟨Nat.le_of_ble_eq_true rfl, Nat.le_of_ble_eq_true rfl⟩ ⟨Nat.le_refl _, Nat.le_refl _⟩ (by decide +kernel) (fun q17 _ => ?_)
    exact es_ret rfl rfl rfl ⟨by decide +kernel, _, rfl, rfl⟩ (Nat.le_refl _) (Nat.le_refl _)
  refine es_ifc (fun h18 => ?_) (fun h18 => ?_)
  · refine es_tsw (off := (116)) (tgt := 117) hs1 20 h18 (by decide) ?_
    refine es_blk (pc' := 123) (L' := [some (.ref 123), some (.ref p0), some (.int p1), some (.int p2), some (.int p3), some (.int p4)]) (st' := [.int p4, .int p3, .int p2, .ref 123]) [(.aload_n 0, 0), (.iload_n 3, 0), (.iload 4, 0), (.iload 5, 0)] (by decide +kernel) rfl rfl ?_
    refine ef_veI (d := 4) (k := 123) (As := [.int p2, .int p3, .int p4]) (st := []) eV_10_offer eK_10_105 (eS_10_offer g s p2 p3 p4) rfl rfl (Nat.le_of_ble_eq_true rfl) rfl (Nat.le_of_ble_eq_true rfl) ⟨Nat.le_of_ble_eq_true rfl, Nat.le_of_ble_eq_true rfl⟩ ⟨Nat.le_refl _, Nat.le_refl _⟩ (by decide +kernel) (fun q19 _ => ?_)
    exact es_ret rfl rfl rfl ⟨by decide +kernel, _, rfl, rfl⟩ (Nat.le_refl _) (Nat.le_refl _)
  refine es_ifc (fun h20 => ?_) (fun h20 => ?_)
  · refine es_tsw (off := (126)) (tgt := 127) hs1 21 h20 (by decide) ?_
    refine es_blk (pc' := 128) (L' := [some (.ref 123), some (.ref p0), some (.int p1), some (.int p2), some (.int p3), some (.int p4)]) (st' := [.ref 123]) [(.aload_n 0, 0)] (by decide +kernel) rfl rfl ?_
    refine ef_getP (k := 123) (j := 0) (q := 1) rfl eL_10_9 rfl rfl rfl (by decide +kernel) ?_
    refine ef_getP (k := 1) (j := 1) (q := 12) rfl eL_10_82 rfl rfl rfl (by decide +kernel) ?_
    refine ef_getP (k := 12) (j := 11) (q := 20) rfl eL_10_108 rfl rfl rfl (by decide +kernel) ?_
    refine es_blk (pc' := 140) (L' := [some (.ref 123), some (.ref p0), some (.int p1), some (.int p2), some (.int p3), some (.int p4)]) (st' := [.int 256, .ref 20]) [(.sipush 256, 256)] (by decide +kernel) rfl rfl ?_
    refine ef_veI (d := 1) (k := 20) (As := [.int 256]) (st := []) eV_8_takeFirst eK_10_112 (eS_8_takeFirst g s 20 256 rfl) rfl rfl (Nat.le_of_ble_eq_true rfl) rfl (Nat.le_of_ble_eq_true rfl) ⟨Nat.le_of_ble_eq_true rfl, Nat.le_of_ble_eq_true rfl⟩ ⟨Nat.le_refl _, Nat.le_refl _⟩ (by decide +kernel) (fun q21 _ => ?_)
    exact es_ret rfl rfl rfl ⟨by decide +kernel, _, rfl, rfl⟩ (Nat.le_refl _) (Nat.le_refl _)
  refine es_tswD (tgt := 144) hs1 [12, 13, 14, 15, 16, 17, 18, 19, 20, 21] (List.forall_mem_cons.mpr ⟨eh_nei 12 12 (by decide) h2, (List.forall_mem_cons.mpr ⟨eh_nei 13 13 (by decide) h4, (List.forall_mem_cons.mpr ⟨eh_nei 14 14 (by decide) h6, (List.forall_mem_cons.mpr ⟨eh_nei 15 15 (by decide) h8, (List.forall_mem_cons.mpr ⟨eh_nei 16 16 (by decide) h10, (List.forall_mem_cons.mpr ⟨eh_nei 17 17 (by decide) h12, (List.forall_mem_cons.mpr ⟨eh_nei 18 18 (by decide) h14, (List.forall_mem_cons.mpr ⟨eh_nei 19 19 (by decide) h16, (List.forall_mem_cons.mpr ⟨eh_nei 20 20 (by decide) h18, (List.forall_mem_cons.mpr ⟨eh_nei 21 21 (by decide) h20, (List.forall_mem_nil _)⟩)⟩)⟩)⟩)⟩)⟩)⟩)⟩)⟩)⟩) (by decide) (by decide) (by decide) ?_
  refine es_blk (pc' := 145) (L' := [some (.ref 123), some (.ref p0), some (.int p1), some (.int p2), some (.int p3), some (.int p4)]) (st' := [.int (-1)]) [(.iconst (-1), (-1))] (by decide +kernel) rfl rfl ?_
  exact es_ret rfl rfl rfl ⟨by decide +kernel, _, rfl, rfl⟩ (Nat.le_refl _) (Nat.le_refl _)
def eF_11_boot (s : eh_F) (p0 : Int32) : Option (Int32 × eh_F) := Option.bind (eF_5_enclaveCount s) (fun q1 => Option.bind (eF_5_restart s p0) (fun q2 => some (q1, q2)))
set_option maxHeartbeats 4000000 in
set_option maxRecDepth 100000 in
theorem eS_11_boot (g : eh_P) (s : eh_F) (p0 : Int32) : eh_Sim g eM_11_boot (eh_R 5 0 0) eh_eI 0 0 0 (eh_en 3 [.ref 0, .int p0]) [] (eh_FW s) (eF_11_boot s p0) := by
  unfold eF_11_boot
  refine ef_top (L := [some (.ref 0), some (.int p0), none]) rfl ?_
  refine es_blk (pc' := 1) (L' := [some (.ref 0), some (.int p0), none]) (st' := [.ref 0]) [(.aload_n 0, 0)] (by decide +kernel) rfl rfl ?_
  refine ef_getP (k := 0) (j := 0) (q := 1) rfl eL_11_12 rfl rfl rfl (by decide +kernel) ?_
  refine ef_vpI (d := 1) (k := 1) (As := []) (st := []) eV_5_enclaveCount eK_11_36 (eS_5_enclaveCount g s) rfl rfl (Nat.le_of_ble_eq_true rfl) rfl (Nat.le_of_ble_eq_true rfl) ⟨Nat.le_of_ble_eq_true rfl, Nat.le_of_ble_eq_true rfl⟩ ⟨Nat.le_refl _, Nat.le_refl _⟩ (by decide +kernel) (fun q1 _ => ?_)
  refine es_blk (pc' := 9) (L' := [some (.ref 0), some (.int p0), some (.int q1)]) (st' := [.ref 0]) [(.istore_n 2, 0), (.aload_n 0, 0)] (by decide +kernel) rfl rfl ?_
  refine ef_getP (k := 0) (j := 0) (q := 1) rfl eL_11_12 rfl rfl rfl (by decide +kernel) ?_
  refine es_blk (pc' := 13) (L' := [some (.ref 0), some (.int p0), some (.int q1)]) (st' := [.int p0, .ref 1]) [(.iload_n 1, 0)] (by decide +kernel) rfl rfl ?_
  refine ef_veV (d := 4) (k := 1) (As := [.int p0]) (st := []) eV_5_restart eK_11_40 (eS_5_restart g s p0) rfl rfl (Nat.le_of_ble_eq_true rfl) rfl (Nat.le_of_ble_eq_true rfl) ⟨Nat.le_of_ble_eq_true rfl, Nat.le_of_ble_eq_true rfl⟩ ⟨Nat.le_refl _, Nat.le_refl _⟩ (by decide +kernel) (fun q2 _ => ?_)
  refine es_blk (pc' := 17) (L' := [some (.ref 0), some (.int p0), some (.int q1)]) (st' := [.int q1]) [(.iload_n 2, 0)] (by decide +kernel) rfl rfl ?_
  exact es_ret rfl rfl rfl ⟨by decide +kernel, _, rfl, rfl⟩ (Nat.le_refl _) (Nat.le_refl _)
def eF_11_genuine (s : eh_F) (p0 : Int32) : Option (Int32 × eh_F) := eh_J (fun (u2 : Unit) => some (0, s)) (fun j1 => if p0 < 0 then (j1 ()) else (if 130944 < p0 then (j1 ()) else (Option.bind (eh_loop (fun (r11 : (Int32 × eh_F) → Option (eh_F)) (t5 : Int32 × eh_F) => if t5.1 < 32 then (Option.bind (eh_loop (fun (r18 : (Int32 × Int32) → Option (Int32)) (t13 : Int32 × Int32) => if t13.2 < 4 then (Option.bind (eF_6_openByteAt t5.2 ((p0 + (4 * t5.1)) + t13.2)) (fun q20 => eh_V (((eh_shl t13.1 8) ||| q20) : Int32) (fun x21 => eh_V ((t13.2 + 1) : Int32) (fun x22 => r18 (x21, x22))))) else (some t13.1)) eh_FU (0, 0)) (fun (e14 : Int32) => if eh_in t5.1 32 then eh_V (eh_tI t5.2 36 (eh_ix t5.1) e14) (fun s15 => eh_V ((t5.1 + 1) : Int32) (fun x16 => r11 (x16, s15))) else none)) else (some t5.2)) eh_FU (0, s)) (fun (e6 : eh_F) => Option.bind (eF_5_sealReport e6 35 8) (fun q7 => Option.bind (eF_5_bears q7 35 8) (fun q8 => if q8 = 0 ∨ q8 = 1 then some (q8, q7) else none))))))
set_option maxHeartbeats 4000000 in
set_option maxRecDepth 100000 in
theorem eS_11_genuine (g : eh_P) (s : eh_F) (p0 : Int32) : eh_Sim g eM_11_genuine (eh_R 5 0 0) eh_eI 0 0 0 (eh_en 5 [.ref 0, .int p0]) [] (eh_FW s) (eF_11_genuine s p0) := by
  unfold eF_11_genuine
  refine ef_top (L := [some (.ref 0), some (.int p0), none, none, none]) rfl ?_
  refine es_blk (pc' := 1) (L' := [some (.ref 0), some (.int p0), none, none, none]) (st' := [.int p0]) [(.iload_n 1, 0)] (by decide +kernel) rfl rfl ?_
  refine ef_J (X := fun j1 => ∀ (u2 : Unit), eh_Sim g eM_11_genuine (eh_R 5 0 0) eh_eI 0 0 11 [none, none, none, none, none] [] (eh_FW s) ((j1 u2).bind some)) ?_ (fun j1 Hj1 => ?_)
  · intro u2
    refine es_blk (pc' := 12) (L' := [none, none, none, none, none]) (st' := [.int 0]) [(.iconst 0, 0)] (by decide +kernel) rfl rfl ?_
    exact es_ret rfl rfl rfl ⟨by decide +kernel, _, rfl, eh_narZ (Or.inl rfl)⟩ (Nat.le_refl _) (Nat.le_refl _)
  refine es_lt (tgt := 11) (off := (10)) (by decide +kernel) (by decide) (fun h3 => ?_) (fun h3 => ?_)
  · refine ef_drop (L2 := [none, none, none, none, none]) [false, false, true, true, true] rfl rfl ?_
    exact Hj1 ()
  refine es_blk (pc' := 5) (L' := [some (.ref 0), some (.int p0), none, none, none]) (st' := [.int p0]) [(.iload_n 1, 0)] (by decide +kernel) rfl rfl ?_
  refine es_ldcw (v := 130944) eC_11_272 (by decide +kernel) ?_
  refine es_ile (tgt := 13) (off := (5)) (by decide +kernel) (by decide) (fun h4 => ?_) (fun h4 => ?_)
  · refine ef_drop (L2 := [none, none, none, none, none]) [false, false, true, true, true] rfl rfl ?_
    exact Hj1 ()
  refine es_blk (pc' := 15) (L' := [some (.ref 0), some (.int p0), some (.int 0), none, none]) (st' := []) [(.iconst 0, 0), (.istore_n 2, 0)] (by decide +kernel) rfl rfl ?_
  refine ef_loop1 (n := eh_FU) (i := (0, s)) (px := 78) (fun (t5 : Int32 × eh_F) => [some (.ref 0), some (.int p0), some (.int t5.1), none, none]) (fun (t5 : Int32 × eh_F) => []) (fun (t5 : Int32 × eh_F) => eh_FW t5.2) (fun (e6 : eh_F) => [some (.ref 0), none, none, none, none]) (fun (e6 : eh_F) => []) (fun (e6 : eh_F) => eh_FW e6) (fun e6 => ?_) (fun K10 HxK10_0 r11 Hr11 t5 => ?_)
  · refine es_blk (pc' := 79) (L' := [some (.ref 0), none, none, none, none]) (st' := [.ref 0]) [(.aload_n 0, 0)] (by decide +kernel) rfl rfl ?_
    refine ef_getP (k := 0) (j := 0) (q := 1) rfl eL_11_12 rfl rfl rfl (by decide +kernel) ?_
    refine es_blk (pc' := 83) (L' := [some (.ref 0), none, none, none, none]) (st' := [.ref 0, .ref 1]) [(.aload_n 0, 0)] (by decide +kernel) rfl rfl ?_
    refine ef_getP (k := 0) (j := 0) (q := 1) rfl eL_11_12 rfl rfl rfl (by decide +kernel) ?_
    refine ef_getP (k := 1) (j := 8) (q := 35) rfl eL_11_265 rfl rfl rfl (by decide +kernel) ?_
    refine ef_veV (d := 4) (k := 1) (As := [.ref 35]) (st := []) eV_5_sealReport eK_11_276 (eS_5_sealReport g e6 35 8 rfl) rfl rfl (Nat.le_of_ble_eq_true rfl) rfl (Nat.le_of_ble_eq_true rfl) ⟨Nat.le_of_ble_eq_true rfl, Nat.le_of_ble_eq_true rfl⟩ ⟨Nat.le_refl _, Nat.le_refl _⟩ (by decide +kernel) (fun q7 _ => ?_)
    refine es_blk (pc' := 93) (L' := [some (.ref 0), none, none, none, none]) (st' := [.ref 0]) [(.aload_n 0, 0)] (by decide +kernel) rfl rfl ?_
    refine ef_getP (k := 0) (j := 0) (q := 1) rfl eL_11_12 rfl rfl rfl (by decide +kernel) ?_
    refine es_blk (pc' := 97) (L' := [some (.ref 0), none, none, none, none]) (st' := [.ref 0, .ref 1]) [(.aload_n 0, 0)] (by decide +kernel) rfl rfl ?_
    refine ef_getP (k := 0) (j := 0) (q := 1) rfl eL_11_12 rfl rfl rfl (by decide +kernel) ?_
    refine ef_getP (k := 1) (j := 8) (q := 35) rfl eL_11_265 rfl rfl rfl (by decide +kernel) ?_
    refine ef_vpI (d := 1) (k := 1) (As := [.ref 35]) (st := []) eV_5_bears eK_11_279 (eS_5_bears g q7 35 8 rfl) rfl rfl (Nat.le_of_ble_eq_true rfl) rfl (Nat.le_of_ble_eq_true rfl) ⟨Nat.le_of_ble_eq_true rfl, Nat.le_of_ble_eq_true rfl⟩ ⟨Nat.le_refl _, Nat.le_refl _⟩ (by decide +kernel) (fun q8 _ => ?_)
    refine es_chk (fun h9 => ?_)
    exact es_ret rfl rfl rfl ⟨by decide +kernel, _, rfl, eh_narZ h9⟩ (Nat.le_refl _) (Nat.le_refl _)
  · refine es_blk (pc' := 18) (L' := [some (.ref 0), some (.int p0), some (.int t5.1), none, none]) (st' := [.int 32, .int t5.1]) [(.iload_n 2, 0), (.bipush 32, 32)] (by decide +kernel) rfl rfl ?_
    refine es_ige (tgt := 78) (off := (60)) (by decide +kernel) (by decide) (fun h12 => ?_) (fun h12 => ?_)
    · refine es_blk (pc' := 26) (L' := [some (.ref 0), some (.int p0), some (.int t5.1), some (.int 0), some (.int 0)]) (st' := []) [(.iconst 0, 0), (.istore_n 3, 0), (.iconst 0, 0), (.istore 4, 0)] (by decide +kernel) rfl rfl ?_
      refine ef_loop1 (n := eh_FU) (i := (0, 0)) (px := 62) (fun (t13 : Int32 × Int32) => [some (.ref 0), some (.int p0), some (.int t5.1), some (.int t13.1), some (.int t13.2)]) (fun (t13 : Int32 × Int32) => []) (fun (t13 : Int32 × Int32) => eh_FW t5.2) (fun (e14 : Int32) => [some (.ref 0), some (.int p0), some (.int t5.1), some (.int e14), none]) (fun (e14 : Int32) => []) (fun (e14 : Int32) => eh_FW t5.2) (fun e14 => ?_) (fun K17 HxK17_0 r18 Hr18 t13 => ?_)
      · refine es_blk (pc' := 63) (L' := [some (.ref 0), some (.int p0), some (.int t5.1), some (.int e14), none]) (st' := [.ref 0]) [(.aload_n 0, 0)] (by decide +kernel) rfl rfl ?_
        refine ef_getP (k := 0) (j := 0) (q := 1) rfl eL_11_12 rfl rfl rfl (by decide +kernel) ?_
        refine ef_getP (k := 1) (j := 9) (q := 36) rfl eL_11_273 rfl rfl rfl (by decide +kernel) ?_
        refine es_blk (pc' := 71) (L' := [some (.ref 0), some (.int p0), some (.int t5.1), some (.int e14), none]) (st' := [.int e14, .int t5.1, .ref 36]) [(.iload_n 2, 0), (.iload_n 3, 0)] (by decide +kernel) rfl rfl ?_
        refine ef_ast (k := 36) rfl (by decide +kernel) (fun _ => ?_)
        refine ef_V (fun _ => [some (.ref 0), some (.int p0), some (.int t5.1), some (.int e14), none]) (fun _ => []) (fun s15 => eh_FW s15) (fun s15 => ?_)
        refine es_blk (pc' := 75) (L' := [some (.ref 0), some (.int p0), some (.int (t5.1 + 1)), some (.int e14), none]) (st' := []) [(.iinc 2 1, 1)] (by decide +kernel) rfl rfl ?_
        refine ef_V (fun x16 => [some (.ref 0), some (.int p0), some (.int x16), some (.int e14), none]) (fun _ => []) (fun _ => eh_FW s15) (fun x16 => ?_)
        refine es_goto (tgt := 15) (off := (-60)) (by decide +kernel) (by decide) ?_
        refine ef_drop (L2 := [some (.ref 0), some (.int p0), some (.int x16), none, none]) [true, true, true, false, true] rfl rfl ?_
        exact Hr11 (x16, s15)
      · refine es_blk (pc' := 29) (L' := [some (.ref 0), some (.int p0), some (.int t5.1), some (.int t13.1), some (.int t13.2)]) (st' := [.int 4, .int t13.2]) [(.iload 4, 0), (.iconst 4, 4)] (by decide +kernel) rfl rfl ?_
        refine es_ige (tgt := 62) (off := (33)) (by decide +kernel) (by decide) (fun h19 => ?_) (fun h19 => ?_)
        · refine es_blk (pc' := 37) (L' := [some (.ref 0), some (.int p0), some (.int t5.1), some (.int t13.1), some (.int t13.2)]) (st' := [.ref 0, .int (eh_shl t13.1 8)]) [(.iload_n 3, 0), (.bipush 8, 8), (.ishl, 0), (.aload_n 0, 0)] (by decide +kernel) rfl rfl ?_
          refine ef_getP (k := 0) (j := 0) (q := 1) rfl eL_11_12 rfl rfl rfl (by decide +kernel) ?_
          refine ef_getP (k := 1) (j := 0) (q := 2) rfl eL_11_43 rfl rfl rfl (by decide +kernel) ?_
          refine es_blk (pc' := 51) (L' := [some (.ref 0), some (.int p0), some (.int t5.1), some (.int t13.1), some (.int t13.2)]) (st' := [.int ((p0 + (4 * t5.1)) + t13.2), .ref 2, .int (eh_shl t13.1 8)]) [(.iload_n 1, 0), (.iconst 4, 4), (.iload_n 2, 0), (.imul, 0), (.iadd, 0), (.iload 4, 0), (.iadd, 0)] (by decide +kernel) rfl rfl ?_
          refine ef_vpI (d := 3) (k := 2) (As := [.int ((p0 + (4 * t5.1)) + t13.2)]) (st := [.int (eh_shl t13.1 8)]) eV_6_openByteAt eK_11_259 (eS_6_openByteAt g t5.2 ((p0 + (4 * t5.1)) + t13.2)) rfl rfl (Nat.le_of_ble_eq_true rfl) rfl (Nat.le_of_ble_eq_true rfl) ⟨Nat.le_of_ble_eq_true rfl, Nat.le_of_ble_eq_true rfl⟩ ⟨Nat.le_refl _, Nat.le_refl _⟩ (by decide +kernel) (fun q20 _ => ?_)
          refine es_blk (pc' := 56) (L' := [some (.ref 0), some (.int p0), some (.int t5.1), some (.int ((eh_shl t13.1 8) ||| q20)), some (.int t13.2)]) (st' := []) [(.ior, 0), (.istore_n 3, 0)] (by decide +kernel) rfl rfl ?_
          refine ef_V (fun x21 => [some (.ref 0), some (.int p0), some (.int t5.1), some (.int x21), some (.int t13.2)]) (fun _ => []) (fun _ => eh_FW t5.2) (fun x21 => ?_)
          refine es_blk (pc' := 59) (L' := [some (.ref 0), some (.int p0), some (.int t5.1), some (.int x21), some (.int (t13.2 + 1))]) (st' := []) [(.iinc 4 1, 1)] (by decide +kernel) rfl rfl ?_
          refine ef_V (fun x22 => [some (.ref 0), some (.int p0), some (.int t5.1), some (.int x21), some (.int x22)]) (fun _ => []) (fun _ => eh_FW t5.2) (fun x22 => ?_)
          refine es_goto (tgt := 26) (off := (-33)) (by decide +kernel) (by decide) ?_
          exact Hr18 (x21, x22)
        refine ef_drop (L2 := [some (.ref 0), some (.int p0), some (.int t5.1), some (.int t13.1), none]) [true, true, true, true, false] rfl rfl ?_
        exact HxK17_0 t13.1
    refine ef_drop (L2 := [some (.ref 0), none, none, none, none]) [true, false, false, true, true] rfl rfl ?_
    exact HxK10_0 t5.2
def eF_12_keyed (s : eh_F) (p0 np0 : Nat) : Option (eh_F) := Option.bind (eF_12_begin s 6) (fun q1 => Option.bind (eh_loop (fun (r21 : (Int32 × eh_F) → Option (eh_F)) (t2 : Int32 × eh_F) => if t2.1 < 64 then (eh_J (fun (a24 : Int32) => Option.bind (eF_12_add t2.2 6 (a24 ^^^ 54)) (fun q25 => eh_V ((t2.1 + 1) : Int32) (fun x26 => r21 (x26, q25)))) (fun j23 => if t2.1 < 32 then (if eh_in t2.1 np0 then j23 (t2.2.1 p0 (eh_ix t2.1)) else none) else (j23 0))) else (some t2.2)) eh_FU (0, q1)) (fun (e3 : eh_F) => Option.bind (eF_12_addBytes e3 6 192 256 0 (e3.1 127 79)) (fun q4 => Option.bind (eF_12_finish q4 6 193 32 0) (fun q5 => Option.bind (eF_12_begin q5 6) (fun q6 => Option.bind (eh_loop (fun (r13 : (Int32 × eh_F) → Option (eh_F)) (t7 : Int32 × eh_F) => if t7.1 < 64 then (eh_J (fun (a16 : Int32) => Option.bind (eF_12_add t7.2 6 (a16 ^^^ 92)) (fun q17 => eh_V ((t7.1 + 1) : Int32) (fun x18 => r13 (x18, q17)))) (fun j15 => if t7.1 < 32 then (if eh_in t7.1 np0 then j15 (t7.2.1 p0 (eh_ix t7.1)) else none) else (j15 0))) else (some t7.2)) eh_FU (0, q6)) (fun (e8 : eh_F) => Option.bind (eF_12_addBytes e8 6 193 32 0 32) (fun q9 => Option.bind (eF_12_finish q9 6 194 32 0) (fun q10 => eh_V (eh_tI q10 127 79 0) (fun s11 => some s11)))))))))
set_option maxHeartbeats 4000000 in
set_option maxRecDepth 100000 in
theorem eS_12_keyed (g : eh_P) (s : eh_F) (p0 np0 : Nat) (hp0 : eh_SH[p0]? = some (101, np0)) : eh_Sim g eM_12_keyed (eh_R 5 0 0) eh_eV 0 0 0 (eh_en 3 [.ref 127, .ref p0]) [] (eh_FW s) (eF_12_keyed s p0 np0) := by
  unfold eF_12_keyed
  refine ef_top (L := [some (.ref 127), some (.ref p0), none]) rfl ?_
  refine es_blk (pc' := 3) (L' := [some (.ref 127), some (.ref p0), none]) (st' := [.int 6, .ref 127]) [(.aload_n 0, 0), (.bipush 6, 6)] (by decide +kernel) rfl rfl ?_
  refine ef_veV (d := 1) (k := 127) (As := [.int 6]) (st := []) eV_12_begin eK_12_218 (eS_12_begin g s 6) rfl rfl (Nat.le_of_ble_eq_true rfl) rfl (Nat.le_of_ble_eq_true rfl) ⟨Nat.le_of_ble_eq_true rfl, Nat.le_of_ble_eq_true rfl⟩ ⟨Nat.le_refl _, Nat.le_refl _⟩ (by decide +kernel) (fun q1 _ => ?_)
  refine es_blk (pc' := 8) (L' := [some (.ref 127), some (.ref p0), some (.int 0)]) (st' := []) [(.iconst 0, 0), (.istore_n 2, 0)] (by decide +kernel) rfl rfl ?_
  refine ef_loop1 (n := eh_FU) (i := (0, q1)) (px := 42) (fun (t2 : Int32 × eh_F) => [some (.ref 127), some (.ref p0), some (.int t2.1)]) (fun (t2 : Int32 × eh_F) => []) (fun (t2 : Int32 × eh_F) => eh_FW t2.2) (fun (e3 : eh_F) => [some (.ref 127), some (.ref p0), none]) (fun (e3 : eh_F) => []) (fun (e3 : eh_F) => eh_FW e3) (fun e3 => ?_) (fun K20 HxK20_0 r21 Hr21 t2 => ?_)
  · refine es_blk (pc' := 46) (L' := [some (.ref 127), some (.ref p0), none]) (st' := [.ref 127, .int 6, .ref 127]) [(.aload_n 0, 0), (.bipush 6, 6), (.aload_n 0, 0)] (by decide +kernel) rfl rfl ?_
    refine ef_getP (k := 127) (j := 78) (q := 192) rfl eL_12_206 rfl rfl rfl (by decide +kernel) ?_
    refine es_blk (pc' := 51) (L' := [some (.ref 127), some (.ref p0), none]) (st' := [.ref 127, .int 0, .ref 192, .int 6, .ref 127]) [(.iconst 0, 0), (.aload_n 0, 0)] (by decide +kernel) rfl rfl ?_
    refine ef_getI (k := 127) (j := 79) rfl eL_12_258 (by decide) (by decide +kernel) ?_
    refine ef_veV (d := 4) (k := 127) (As := [.int 6, .ref 192, .int 0, .int (e3.1 127 79)]) (st := []) eV_12_addBytes eK_12_262 (eS_12_addBytes g e3 6 192 256 0 (e3.1 127 79) rfl) rfl rfl (Nat.le_of_ble_eq_true rfl) rfl (Nat.le_of_ble_eq_true rfl) ⟨Nat.le_of_ble_eq_true rfl, Nat.le_of_ble_eq_true rfl⟩ ⟨Nat.le_refl _, Nat.le_refl _⟩ (by decide +kernel) (fun q4 _ => ?_)
    refine es_blk (pc' := 61) (L' := [some (.ref 127), some (.ref p0), none]) (st' := [.ref 127, .int 6, .ref 127]) [(.aload_n 0, 0), (.bipush 6, 6), (.aload_n 0, 0)] (by decide +kernel) rfl rfl ?_
    refine ef_getP (k := 127) (j := 80) (q := 193) rfl eL_12_209 rfl rfl rfl (by decide +kernel) ?_
    refine es_blk (pc' := 65) (L' := [some (.ref 127), some (.ref p0), none]) (st' := [.int 0, .ref 193, .int 6, .ref 127]) [(.iconst 0, 0)] (by decide +kernel) rfl rfl ?_
    refine ef_veV (d := 4) (k := 127) (As := [.int 6, .ref 193, .int 0]) (st := []) eV_12_finish eK_12_226 (eS_12_finish g q4 6 193 32 0 rfl) rfl rfl (Nat.le_of_ble_eq_true rfl) rfl (Nat.le_of_ble_eq_true rfl) ⟨Nat.le_of_ble_eq_true rfl, Nat.le_of_ble_eq_true rfl⟩ ⟨Nat.le_refl _, Nat.le_refl _⟩ (by decide +kernel) (fun q5 _ => ?_)
    refine es_blk (pc' := 71) (L' := [some (.ref 127), some (.ref p0), none]) (st' := [.int 6, .ref 127]) [(.aload_n 0, 0), (.bipush 6, 6)] (by decide +kernel) rfl rfl ?_
    refine ef_veV (d := 1) (k := 127) (As := [.int 6]) (st := []) eV_12_begin eK_12_218 (eS_12_begin g q5 6) rfl rfl (Nat.le_of_ble_eq_true rfl) rfl (Nat.le_of_ble_eq_true rfl) ⟨Nat.le_of_ble_eq_true rfl, Nat.le_of_ble_eq_true rfl⟩ ⟨Nat.le_refl _, Nat.le_refl _⟩ (by decide +kernel) (fun q6 _ => ?_)
    refine es_blk (pc' := 76) (L' := [some (.ref 127), some (.ref p0), some (.int 0)]) (st' := []) [(.iconst 0, 0), (.istore_n 2, 0)] (by decide +kernel) rfl rfl ?_
    refine ef_loop1 (n := eh_FU) (i := (0, q6)) (px := 110) (fun (t7 : Int32 × eh_F) => [some (.ref 127), some (.ref p0), some (.int t7.1)]) (fun (t7 : Int32 × eh_F) => []) (fun (t7 : Int32 × eh_F) => eh_FW t7.2) (fun (e8 : eh_F) => [some (.ref 127), none, none]) (fun (e8 : eh_F) => []) (fun (e8 : eh_F) => eh_FW e8) (fun e8 => ?_) (fun K12 HxK12_0 r13 Hr13 t7 => ?_)
    · refine es_blk (pc' := 114) (L' := [some (.ref 127), none, none]) (st' := [.ref 127, .int 6, .ref 127]) [(.aload_n 0, 0), (.bipush 6, 6), (.aload_n 0, 0)] (by decide +kernel) rfl rfl ?_
      refine ef_getP (k := 127) (j := 80) (q := 193) rfl eL_12_209 rfl rfl rfl (by decide +kernel) ?_
      refine es_blk (pc' := 120) (L' := [some (.ref 127), none, none]) (st' := [.int 32, .int 0, .ref 193, .int 6, .ref 127]) [(.iconst 0, 0), (.bipush 32, 32)] (by decide +kernel) rfl rfl ?_
      refine ef_veV (d := 4) (k := 127) (As := [.int 6, .ref 193, .int 0, .int 32]) (st := []) eV_12_addBytes eK_12_262 (eS_12_addBytes g e8 6 193 32 0 32 rfl) rfl rfl (Nat.le_of_ble_eq_true rfl) rfl (Nat.le_of_ble_eq_true rfl) ⟨Nat.le_of_ble_eq_true rfl, Nat.le_of_ble_eq_true rfl⟩ ⟨Nat.le_refl _, Nat.le_refl _⟩ (by decide +kernel) (fun q9 _ => ?_)
      refine es_blk (pc' := 127) (L' := [some (.ref 127), none, none]) (st' := [.ref 127, .int 6, .ref 127]) [(.aload_n 0, 0), (.bipush 6, 6), (.aload_n 0, 0)] (by decide +kernel) rfl rfl ?_
      refine ef_getP (k := 127) (j := 81) (q := 194) rfl eL_12_212 rfl rfl rfl (by decide +kernel) ?_
      refine es_blk (pc' := 131) (L' := [some (.ref 127), none, none]) (st' := [.int 0, .ref 194, .int 6, .ref 127]) [(.iconst 0, 0)] (by decide +kernel) rfl rfl ?_
      refine ef_veV (d := 4) (k := 127) (As := [.int 6, .ref 194, .int 0]) (st := []) eV_12_finish eK_12_226 (eS_12_finish g q9 6 194 32 0 rfl) rfl rfl (Nat.le_of_ble_eq_true rfl) rfl (Nat.le_of_ble_eq_true rfl) ⟨Nat.le_of_ble_eq_true rfl, Nat.le_of_ble_eq_true rfl⟩ ⟨Nat.le_refl _, Nat.le_refl _⟩ (by decide +kernel) (fun q10 _ => ?_)
      refine es_blk (pc' := 136) (L' := [some (.ref 127), none, none]) (st' := [.int 0, .ref 127]) [(.aload_n 0, 0), (.iconst 0, 0)] (by decide +kernel) rfl rfl ?_
      refine ef_putI (k := 127) (j := 79) rfl eL_12_258 rfl rfl (by decide +kernel) ?_
      refine ef_V (fun _ => [some (.ref 127), none, none]) (fun _ => []) (fun s11 => eh_FW s11) (fun s11 => ?_)
      exact es_ret rfl rfl rfl ⟨by decide +kernel, rfl⟩ (Nat.le_refl _) (Nat.le_refl _)
    · refine es_blk (pc' := 79) (L' := [some (.ref 127), some (.ref p0), some (.int t7.1)]) (st' := [.int 64, .int t7.1]) [(.iload_n 2, 0), (.bipush 64, 64)] (by decide +kernel) rfl rfl ?_
      refine es_ige (tgt := 110) (off := (31)) (by decide +kernel) (by decide) (fun h14 => ?_) (fun h14 => ?_)
      · refine es_blk (pc' := 88) (L' := [some (.ref 127), some (.ref p0), some (.int t7.1)]) (st' := [.int 32, .int t7.1, .int 6, .ref 127]) [(.aload_n 0, 0), (.bipush 6, 6), (.iload_n 2, 0), (.bipush 32, 32)] (by decide +kernel) rfl rfl ?_
        refine ef_J (X := fun j15 => ∀ (a16 : Int32), eh_Sim g eM_12_keyed (eh_R 5 0 0) eh_eV 0 0 98 [some (.ref 127), some (.ref p0), some (.int t7.1)] [.int a16, .int 6, .ref 127] (eh_FW t7.2) ((j15 a16).bind K12)) ?_ (fun j15 Hj15 => ?_)
        · intro a16
          refine es_blk (pc' := 101) (L' := [some (.ref 127), some (.ref p0), some (.int t7.1)]) (st' := [.int (a16 ^^^ 92), .int 6, .ref 127]) [(.bipush 92, 92), (.ixor, 0)] (by decide +kernel) rfl rfl ?_
          refine ef_veV (d := 3) (k := 127) (As := [.int 6, .int (a16 ^^^ 92)]) (st := []) eV_12_add eK_12_242 (eS_12_add g t7.2 6 (a16 ^^^ 92)) rfl rfl (Nat.le_of_ble_eq_true rfl) rfl (Nat.le_of_ble_eq_true rfl) ⟨Nat.le_of_ble_eq_true rfl, Nat.le_of_ble_eq_true rfl⟩ ⟨Nat.le_refl _, Nat.le_refl _⟩ (by decide +kernel) (fun q17 _ => ?_)
          refine es_blk (pc' := 107) (L' := [some (.ref 127), some (.ref p0), some (.int (t7.1 + 1))]) (st' := []) [(.iinc 2 1, 1)] (by decide +kernel) rfl rfl ?_
          refine ef_V (fun x18 => [some (.ref 127), some (.ref p0), some (.int x18)]) (fun _ => []) (fun _ => eh_FW q17) (fun x18 => ?_)
          refine es_goto (tgt := 76) (off := (-31)) (by decide +kernel) (by decide) ?_
          exact Hr13 (x18, q17)
        refine es_ige (tgt := 97) (off := (9)) (by decide +kernel) (by decide) (fun h19 => ?_) (fun h19 => ?_)
        · refine es_blk (pc' := 93) (L' := [some (.ref 127), some (.ref p0), some (.int t7.1)]) (st' := [.int t7.1, .ref p0, .int 6, .ref 127]) [(.aload_n 1, 0), (.iload_n 2, 0)] (by decide +kernel) rfl rfl ?_
          refine ef_ald (k := p0) hp0 (Or.inr ⟨Or.inl rfl, rfl⟩) (by decide +kernel) (fun _ => ?_)
          refine es_goto (tgt := 98) (off := (4)) (by decide +kernel) (by decide) ?_
          exact Hj15 _
        refine es_blk (pc' := 98) (L' := [some (.ref 127), some (.ref p0), some (.int t7.1)]) (st' := [.int 0, .int 6, .ref 127]) [(.iconst 0, 0)] (by decide +kernel) rfl rfl ?_
        exact Hj15 _
      refine ef_drop (L2 := [some (.ref 127), none, none]) [true, false, false] rfl rfl ?_
      exact HxK12_0 t7.2
  · refine es_blk (pc' := 11) (L' := [some (.ref 127), some (.ref p0), some (.int t2.1)]) (st' := [.int 64, .int t2.1]) [(.iload_n 2, 0), (.bipush 64, 64)] (by decide +kernel) rfl rfl ?_
    refine es_ige (tgt := 42) (off := (31)) (by decide +kernel) (by decide) (fun h22 => ?_) (fun h22 => ?_)
    · refine es_blk (pc' := 20) (L' := [some (.ref 127), some (.ref p0), some (.int t2.1)]) (st' := [.int 32, .int t2.1, .int 6, .ref 127]) [(.aload_n 0, 0), (.bipush 6, 6), (.iload_n 2, 0), (.bipush 32, 32)] (by decide +kernel) rfl rfl ?_
      refine ef_J (X := fun j23 => ∀ (a24 : Int32), eh_Sim g eM_12_keyed (eh_R 5 0 0) eh_eV 0 0 30 [some (.ref 127), some (.ref p0), some (.int t2.1)] [.int a24, .int 6, .ref 127] (eh_FW t2.2) ((j23 a24).bind K20)) ?_ (fun j23 Hj23 => ?_)
      · intro a24
        refine es_blk (pc' := 33) (L' := [some (.ref 127), some (.ref p0), some (.int t2.1)]) (st' := [.int (a24 ^^^ 54), .int 6, .ref 127]) [(.bipush 54, 54), (.ixor, 0)] (by decide +kernel) rfl rfl ?_
        refine ef_veV (d := 3) (k := 127) (As := [.int 6, .int (a24 ^^^ 54)]) (st := []) eV_12_add eK_12_242 (eS_12_add g t2.2 6 (a24 ^^^ 54)) rfl rfl (Nat.le_of_ble_eq_true rfl) rfl (Nat.le_of_ble_eq_true rfl) ⟨Nat.le_of_ble_eq_true rfl, Nat.le_of_ble_eq_true rfl⟩ ⟨Nat.le_refl _, Nat.le_refl _⟩ (by decide +kernel) (fun q25 _ => ?_)
        refine es_blk (pc' := 39) (L' := [some (.ref 127), some (.ref p0), some (.int (t2.1 + 1))]) (st' := []) [(.iinc 2 1, 1)] (by decide +kernel) rfl rfl ?_
        refine ef_V (fun x26 => [some (.ref 127), some (.ref p0), some (.int x26)]) (fun _ => []) (fun _ => eh_FW q25) (fun x26 => ?_)
        refine es_goto (tgt := 8) (off := (-31)) (by decide +kernel) (by decide) ?_
        exact Hr21 (x26, q25)
      refine es_ige (tgt := 29) (off := (9)) (by decide +kernel) (by decide) (fun h27 => ?_) (fun h27 => ?_)
      · refine es_blk (pc' := 25) (L' := [some (.ref 127), some (.ref p0), some (.int t2.1)]) (st' := [.int t2.1, .ref p0, .int 6, .ref 127]) [(.aload_n 1, 0), (.iload_n 2, 0)] (by decide +kernel) rfl rfl ?_
        refine ef_ald (k := p0) hp0 (Or.inr ⟨Or.inl rfl, rfl⟩) (by decide +kernel) (fun _ => ?_)
        refine es_goto (tgt := 30) (off := (4)) (by decide +kernel) (by decide) ?_
        exact Hj23 _
      refine es_blk (pc' := 30) (L' := [some (.ref 127), some (.ref p0), some (.int t2.1)]) (st' := [.int 0, .int 6, .ref 127]) [(.iconst 0, 0)] (by decide +kernel) rfl rfl ?_
      exact Hj23 _
    refine ef_drop (L2 := [some (.ref 127), some (.ref p0), none]) [true, true, false] rfl rfl ?_
    exact HxK20_0 t2.2
def eF_12_locate (s : eh_F) (p0 : Int32) (p1 : Int32) (p2 : Int32) (p3 : Int32) : Option (Int32 × eh_F) := eh_V (((p1.toInt64) &&& 4294967295) : Int64) (fun x1 => if eh_in p0 2 then eh_J (fun (a3 : Int64) (s4 : eh_F) => eh_J (fun (a6 : Int32) => Option.bind (eF_12_isLet s4 p0 a3 p2 a6) (fun q7 => if q7.1 = 0 then (Option.bind (eF_12_denied q7.2 p3) (fun q9 => Option.bind (eF_12_except q7.2 q9 p1) (fun q10 => some (0, q10)))) else (some ((a3.toInt32), q7.2)))) (fun j5 => if p3 = 0 then (j5 4) else (j5 p3))) (fun j2 => if (s.1 144 (eh_ix p0)) = (-1) then (if eh_in p0 2 then if (s.1 142 (eh_ix p0)) < 0 then (Option.bind (eF_12_walk s p0 p1 p3) (fun q14 => if (q14.2.1 127 83) = (-1) then (j2 q14.1 q14.2) else (some (0, q14.2)))) else (j2 x1 s) else none) else (j2 x1 s)) else none)
set_option maxHeartbeats 4000000 in
set_option maxRecDepth 100000 in
theorem eS_12_locate (g : eh_P) (s : eh_F) (p0 : Int32) (p1 : Int32) (p2 : Int32) (p3 : Int32) : eh_Sim g eM_12_locate (eh_R 5 0 0) eh_eI 0 0 0 (eh_en 7 [.ref 127, .int p0, .int p1, .int p2, .int p3]) [] (eh_FW s) (eF_12_locate s p0 p1 p2 p3) := by
  unfold eF_12_locate
  refine ef_top (L := [some (.ref 127), some (.int p0), some (.int p1), some (.int p2), some (.int p3), none, none]) rfl ?_
  refine es_blk (pc' := 2) (L' := [some (.ref 127), some (.int p0), some (.int p1), some (.int p2), some (.int p3), none, none]) (st' := [.long (p1.toInt64)]) [(.iload_n 2, 0), (.i2l, 0)] (by decide +kernel) rfl rfl ?_
  refine es_ldc2 (v := 4294967295) eC_12_346 (by decide +kernel) ?_
  refine es_blk (pc' := 8) (L' := [some (.ref 127), some (.int p0), some (.int p1), some (.int p2), some (.int p3), some (.long ((p1.toInt64) &&& 4294967295)), none]) (st' := []) [(.land, 0), (.lstore 5, 0)] (by decide +kernel) rfl rfl ?_
  refine ef_V (fun x1 => [some (.ref 127), some (.int p0), some (.int p1), some (.int p2), some (.int p3), some (.long x1), none]) (fun _ => []) (fun _ => eh_FW s) (fun x1 => ?_)
  refine es_blk (pc' := 9) (L' := [some (.ref 127), some (.int p0), some (.int p1), some (.int p2), some (.int p3), some (.long x1), none]) (st' := [.ref 127]) [(.aload_n 0, 0)] (by decide +kernel) rfl rfl ?_
  refine ef_getP (k := 127) (j := 16) (q := 144) rfl eL_12_61 rfl rfl rfl (by decide +kernel) ?_
  refine es_blk (pc' := 13) (L' := [some (.ref 127), some (.int p0), some (.int p1), some (.int p2), some (.int p3), some (.long x1), none]) (st' := [.int p0, .ref 144]) [(.iload_n 1, 0)] (by decide +kernel) rfl rfl ?_
  refine ef_ald (k := 144) rfl (Or.inl ⟨rfl, rfl⟩) (by decide +kernel) (fun _ => ?_)
  refine es_blk (pc' := 15) (L' := [some (.ref 127), some (.int p0), some (.int p1), some (.int p2), some (.int p3), some (.long x1), none]) (st' := [.int (-1), .int (s.1 144 (eh_ix p0))]) [(.iconst (-1), (-1))] (by decide +kernel) rfl rfl ?_
  refine ef_J (X := fun j2 => ∀ (a3 : Int64) (s4 : eh_F), eh_Sim g eM_12_locate (eh_R 5 0 0) eh_eI 0 0 47 [some (.ref 127), some (.int p0), some (.int p1), some (.int p2), some (.int p3), some (.long a3), none] [] (eh_FW s4) ((j2 a3 s4).bind some)) ?_ (fun j2 Hj2 => ?_)
  · intro a3 s4
    refine es_blk (pc' := 54) (L' := [some (.ref 127), some (.int p0), some (.int p1), some (.int p2), some (.int p3), some (.long a3), none]) (st' := [.int p3, .int p2, .long a3, .int p0, .ref 127]) [(.aload_n 0, 0), (.iload_n 1, 0), (.lload 5, 0), (.iload_n 3, 0), (.iload 4, 0)] (by decide +kernel) rfl rfl ?_
    refine ef_J (X := fun j5 => ∀ (a6 : Int32), eh_Sim g eM_12_locate (eh_R 5 0 0) eh_eI 0 0 63 [some (.ref 127), none, some (.int p1), none, some (.int p3), some (.long a3), none] [.int a6, .int p2, .long a3, .int p0, .ref 127] (eh_FW s4) ((j5 a6).bind some)) ?_ (fun j5 Hj5 => ?_)
    · intro a6
      refine ef_veI (d := 3) (k := 127) (As := [.int p0, .long a3, .int p2, .int a6]) (st := []) eV_12_isLet eK_12_352 (eS_12_isLet g s4 p0 a3 p2 a6) rfl rfl (Nat.le_of_ble_eq_true rfl) rfl (Nat.le_of_ble_eq_true rfl) ⟨Nat.le_of_ble_eq_true rfl, Nat.le_of_ble_eq_true rfl⟩ ⟨Nat.le_refl _, Nat.le_refl _⟩ (by decide +kernel) (fun q7 _ => ?_)
      refine es_ne (tgt := 81) (off := (15)) (by decide +kernel) (by decide) (fun h8 => ?_) (fun h8 => ?_)
      · refine es_blk (pc' := 72) (L' := [some (.ref 127), none, some (.int p1), none, some (.int p3), some (.long a3), none]) (st' := [.int p3, .ref 127]) [(.aload_n 0, 0), (.iload 4, 0)] (by decide +kernel) rfl rfl ?_
        refine ef_spI (d := 1) (As := [.int p3]) (st := [.ref 127]) eV_12_denied eK_12_356 (eS_12_denied g q7.2 p3) rfl (Nat.le_of_ble_eq_true rfl) rfl (Nat.le_of_ble_eq_true rfl) ⟨Nat.le_of_ble_eq_true rfl, Nat.le_of_ble_eq_true rfl⟩ ⟨Nat.le_refl _, Nat.le_refl _⟩ (by decide +kernel) (fun q9 _ => ?_)
        refine es_blk (pc' := 76) (L' := [some (.ref 127), none, some (.int p1), none, some (.int p3), some (.long a3), none]) (st' := [.int p1, .int q9, .ref 127]) [(.iload_n 2, 0)] (by decide +kernel) rfl rfl ?_
        refine ef_veV (d := 1) (k := 127) (As := [.int q9, .int p1]) (st := []) eV_12_except eK_12_359 (eS_12_except g q7.2 q9 p1) rfl rfl (Nat.le_of_ble_eq_true rfl) rfl (Nat.le_of_ble_eq_true rfl) ⟨Nat.le_of_ble_eq_true rfl, Nat.le_of_ble_eq_true rfl⟩ ⟨Nat.le_refl _, Nat.le_refl _⟩ (by decide +kernel) (fun q10 _ => ?_)
        refine es_blk (pc' := 80) (L' := [some (.ref 127), none, some (.int p1), none, some (.int p3), some (.long a3), none]) (st' := [.int 0]) [(.iconst 0, 0)] (by decide +kernel) rfl rfl ?_
        exact es_ret rfl rfl rfl ⟨by decide +kernel, _, rfl, rfl⟩ (Nat.le_refl _) (Nat.le_refl _)
      refine es_blk (pc' := 84) (L' := [some (.ref 127), none, some (.int p1), none, some (.int p3), some (.long a3), none]) (st' := [.int (a3.toInt32)]) [(.lload 5, 0), (.l2i, 0)] (by decide +kernel) rfl rfl ?_
      exact es_ret rfl rfl rfl ⟨by decide +kernel, _, rfl, rfl⟩ (Nat.le_refl _) (Nat.le_refl _)
    refine es_ne (tgt := 61) (off := (7)) (by decide +kernel) (by decide) (fun h11 => ?_) (fun h11 => ?_)
    · refine es_blk (pc' := 58) (L' := [some (.ref 127), some (.int p0), some (.int p1), some (.int p2), some (.int p3), some (.long a3), none]) (st' := [.int 4, .int p2, .long a3, .int p0, .ref 127]) [(.iconst 4, 4)] (by decide +kernel) rfl rfl ?_
      refine es_goto (tgt := 63) (off := (5)) (by decide +kernel) (by decide) ?_
      refine ef_drop (L2 := [some (.ref 127), none, some (.int p1), none, some (.int p3), some (.long a3), none]) [true, false, true, false, true, true, true] rfl rfl ?_
      exact Hj5 _
    refine es_blk (pc' := 63) (L' := [some (.ref 127), some (.int p0), some (.int p1), some (.int p2), some (.int p3), some (.long a3), none]) (st' := [.int p3, .int p2, .long a3, .int p0, .ref 127]) [(.iload 4, 0)] (by decide +kernel) rfl rfl ?_
    refine ef_drop (L2 := [some (.ref 127), none, some (.int p1), none, some (.int p3), some (.long a3), none]) [true, false, true, false, true, true, true] rfl rfl ?_
    exact Hj5 _
  refine es_ine (tgt := 47) (off := (32)) (by decide +kernel) (by decide) (fun h12 => ?_) (fun h12 => ?_)
  · refine es_blk (pc' := 19) (L' := [some (.ref 127), some (.int p0), some (.int p1), some (.int p2), some (.int p3), some (.long x1), none]) (st' := [.ref 127]) [(.aload_n 0, 0)] (by decide +kernel) rfl rfl ?_
    refine ef_getP (k := 127) (j := 14) (q := 142) rfl eL_12_55 rfl rfl rfl (by decide +kernel) ?_
    refine es_blk (pc' := 23) (L' := [some (.ref 127), some (.int p0), some (.int p1), some (.int p2), some (.int p3), some (.long x1), none]) (st' := [.int p0, .ref 142]) [(.iload_n 1, 0)] (by decide +kernel) rfl rfl ?_
    refine ef_ald (k := 142) rfl (Or.inl ⟨rfl, rfl⟩) (by decide +kernel) (fun _ => ?_)
    refine es_ge (tgt := 47) (off := (23)) (by decide +kernel) (by decide) (fun h13 => ?_) (fun h13 => ?_)
    · refine es_blk (pc' := 32) (L' := [some (.ref 127), some (.int p0), some (.int p1), some (.int p2), some (.int p3), some (.long x1), none]) (st' := [.int p3, .int p1, .int p0, .ref 127]) [(.aload_n 0, 0), (.iload_n 1, 0), (.iload_n 2, 0), (.iload 4, 0)] (by decide +kernel) rfl rfl ?_
      refine ef_veL (d := 4) (k := 127) (As := [.int p0, .int p1, .int p3]) (st := []) eV_12_walk eK_12_348 (eS_12_walk g s p0 p1 p3) rfl rfl (Nat.le_of_ble_eq_true rfl) rfl (Nat.le_of_ble_eq_true rfl) ⟨Nat.le_of_ble_eq_true rfl, Nat.le_of_ble_eq_true rfl⟩ ⟨Nat.le_refl _, Nat.le_refl _⟩ (by decide +kernel) (fun q14 _ => ?_)
      refine es_blk (pc' := 38) (L' := [some (.ref 127), some (.int p0), some (.int p1), some (.int p2), some (.int p3), some (.long q14.1), none]) (st' := [.ref 127]) [(.lstore 5, 0), (.aload_n 0, 0)] (by decide +kernel) rfl rfl ?_
      refine ef_getI (k := 127) (j := 83) rfl eL_12_340 (by decide) (by decide +kernel) ?_
      refine es_blk (pc' := 42) (L' := [some (.ref 127), some (.int p0), some (.int p1), some (.int p2), some (.int p3), some (.long q14.1), none]) (st' := [.int (-1), .int (q14.2.1 127 83)]) [(.iconst (-1), (-1))] (by decide +kernel) rfl rfl ?_
      refine es_ieq (tgt := 47) (off := (5)) (by decide +kernel) (by decide) (fun h15 => ?_) (fun h15 => ?_)
      · exact Hj2 _ _
      refine es_blk (pc' := 46) (L' := [some (.ref 127), some (.int p0), some (.int p1), some (.int p2), some (.int p3), some (.long q14.1), none]) (st' := [.int 0]) [(.iconst 0, 0)] (by decide +kernel) rfl rfl ?_
      exact es_ret rfl rfl rfl ⟨by decide +kernel, _, rfl, rfl⟩ (Nat.le_refl _) (Nat.le_refl _)
    exact Hj2 _ _
  exact Hj2 _ _
def eF_12_registers (s : eh_F) (p0 : Int32) (p1 : Int32) (p2 : Int32) (p3 : Int32) (p4 : Int32) (p5 : Int32) : Option (eh_F) := eh_V ((eh_ushr p1 20) : Int32) (fun x1 => eh_J (fun (a3 : Int32) => if eh_in p0 2 then eh_J (fun (a5 : Int32) => Option.bind (eF_12_isRegister s x1) (fun q6 => eh_J (fun (u8 : Unit) => Option.bind (eF_12_except s 2 p1) (fun q9 => some q9)) (fun j7 => if q6 = 0 then (j7 ()) else (eh_J (fun (u12 : Unit) => eh_J (fun (u14 : Unit) => Option.bind (eF_12_readRegister s p0 x1) (fun q15 => eh_J (fun (a17 : Int32) => eh_J (fun (s19 : eh_F) => Option.bind (eF_12_set s19 p0 p2 q15) (fun q20 => some q20)) (fun j18 => if a3 = 0 then (j18 s) else (eh_J (fun (a23 : Int32) => Option.bind (eF_12_writeRegister s p0 x1 a23) (fun q24 => j18 q24)) (fun j22 => if (p3 &&& 3) = 1 then (j22 a17) else (if (p3 &&& 3) = 2 then (j22 (q15 ||| a17)) else (j22 (q15 &&& (a17 ^^^ (-1))))))))) (fun j16 => if 4 < p3 then (j16 p4) else (j16 p5)))) (fun j13 => if a5 = 0 then (if x1 = 3073 then (j13 ()) else (j7 ())) else (j13 ()))) (fun j11 => if a3 = 0 then (j11 ()) else (if x1 = 3073 then (j7 ()) else (if x1 = 3860 then (j7 ()) else (j11 ())))))))) (fun j4 => eh_J (fun (u34 : Unit) => j4 0) (fun j33 => if (s.1 144 (eh_ix p0)) = (-1) then (if eh_in p0 2 then if (s.1 131 (eh_ix p0)) = 1 then (j4 1) else (j33 ()) else none) else (j33 ()))) else none) (fun j2 => eh_J (fun (u38 : Unit) => j2 1) (fun j37 => if (p3 &&& 3) = 1 then (j37 ()) else (if p4 = 0 then (j2 0) else (j37 ())))))
set_option maxHeartbeats 4000000 in
set_option maxRecDepth 100000 in
theorem eS_12_registers (g : eh_P) (s : eh_F) (p0 : Int32) (p1 : Int32) (p2 : Int32) (p3 : Int32) (p4 : Int32) (p5 : Int32) : eh_Sim g eM_12_registers (eh_R 5 0 0) eh_eV 0 0 0 (eh_en 12 [.ref 127, .int p0, .int p1, .int p2, .int p3, .int p4, .int p5]) [] (eh_FW s) (eF_12_registers s p0 p1 p2 p3 p4 p5) := by
  unfold eF_12_registers
  refine ef_top (L := [some (.ref 127), some (.int p0), some (.int p1), some (.int p2), some (.int p3), some (.int p4), some (.int p5), none, none, none, none, none]) rfl ?_
  refine es_blk (pc' := 6) (L' := [some (.ref 127), some (.int p0), some (.int p1), some (.int p2), some (.int p3), some (.int p4), some (.int p5), some (.int (eh_ushr p1 20)), none, none, none, none]) (st' := []) [(.iload_n 2, 0), (.bipush 20, 20), (.iushr, 0), (.istore 7, 0)] (by decide +kernel) rfl rfl ?_
  refine ef_V (fun x1 => [some (.ref 127), some (.int p0), some (.int p1), some (.int p2), some (.int p3), some (.int p4), some (.int p5), some (.int x1), none, none, none, none]) (fun _ => []) (fun _ => eh_FW s) (fun x1 => ?_)
  refine es_blk (pc' := 11) (L' := [some (.ref 127), some (.int p0), some (.int p1), some (.int p2), some (.int p3), some (.int p4), some (.int p5), some (.int x1), none, none, none, none]) (st' := [.int 1, .int (p3 &&& 3)]) [(.iload 4, 0), (.iconst 3, 3), (.iand, 0), (.iconst 1, 1)] (by decide +kernel) rfl rfl ?_
  refine ef_J (X := fun j2 => ∀ (a3 : Int32), eh_Sim g eM_12_registers (eh_R 5 0 0) eh_eV 0 0 24 [some (.ref 127), some (.int p0), some (.int p1), some (.int p2), some (.int p3), some (.int p4), some (.int p5), some (.int x1), none, none, none, none] [.int a3] (eh_FW s) ((j2 a3).bind some)) ?_ (fun j2 Hj2 => ?_)
  · intro a3
    refine es_blk (pc' := 27) (L' := [some (.ref 127), some (.int p0), some (.int p1), some (.int p2), some (.int p3), some (.int p4), some (.int p5), some (.int x1), some (.int a3), none, none, none]) (st' := [.ref 127]) [(.istore 8, 0), (.aload_n 0, 0)] (by decide +kernel) rfl rfl ?_
    refine ef_getP (k := 127) (j := 16) (q := 144) rfl eL_12_61 rfl rfl rfl (by decide +kernel) ?_
    refine es_blk (pc' := 31) (L' := [some (.ref 127), some (.int p0), some (.int p1), some (.int p2), some (.int p3), some (.int p4), some (.int p5), some (.int x1), some (.int a3), none, none, none]) (st' := [.int p0, .ref 144]) [(.iload_n 1, 0)] (by decide +kernel) rfl rfl ?_
    refine ef_ald (k := 144) rfl (Or.inl ⟨rfl, rfl⟩) (by decide +kernel) (fun _ => ?_)
    refine es_blk (pc' := 33) (L' := [some (.ref 127), some (.int p0), some (.int p1), some (.int p2), some (.int p3), some (.int p4), some (.int p5), some (.int x1), some (.int a3), none, none, none]) (st' := [.int (-1), .int (s.1 144 (eh_ix p0))]) [(.iconst (-1), (-1))] (by decide +kernel) rfl rfl ?_
    refine ef_J (X := fun j4 => ∀ (a5 : Int32), eh_Sim g eM_12_registers (eh_R 5 0 0) eh_eV 0 0 51 [some (.ref 127), some (.int p0), some (.int p1), some (.int p2), some (.int p3), some (.int p4), some (.int p5), some (.int x1), some (.int a3), none, none, none] [.int a5] (eh_FW s) ((j4 a5).bind some)) ?_ (fun j4 Hj4 => ?_)
    · intro a5
      refine es_blk (pc' := 55) (L' := [some (.ref 127), some (.int p0), some (.int p1), some (.int p2), some (.int p3), some (.int p4), some (.int p5), some (.int x1), some (.int a3), some (.int a5), none, none]) (st' := [.int x1]) [(.istore 9, 0), (.iload 7, 0)] (by decide +kernel) rfl rfl ?_
      refine ef_spI (d := 1) (As := [.int x1]) (st := []) eV_12_isRegister eK_12_488 (eS_12_isRegister g s x1) rfl (Nat.le_of_ble_eq_true rfl) rfl (Nat.le_of_ble_eq_true rfl) ⟨Nat.le_of_ble_eq_true rfl, Nat.le_of_ble_eq_true rfl⟩ ⟨Nat.le_refl _, Nat.le_refl _⟩ (by decide +kernel) (fun q6 _ => ?_)
      refine ef_J (X := fun j7 => ∀ (u8 : Unit), eh_Sim g eM_12_registers (eh_R 5 0 0) eh_eV 0 0 95 [some (.ref 127), none, some (.int p1), none, none, none, none, none, none, none, none, none] [] (eh_FW s) ((j7 u8).bind some)) ?_ (fun j7 Hj7 => ?_)
      · intro u8
        refine es_blk (pc' := 98) (L' := [some (.ref 127), none, some (.int p1), none, none, none, none, none, none, none, none, none]) (st' := [.int p1, .int 2, .ref 127]) [(.aload_n 0, 0), (.iconst 2, 2), (.iload_n 2, 0)] (by decide +kernel) rfl rfl ?_
        refine ef_veV (d := 1) (k := 127) (As := [.int 2, .int p1]) (st := []) eV_12_except eK_12_359 (eS_12_except g s 2 p1) rfl rfl (Nat.le_of_ble_eq_true rfl) rfl (Nat.le_of_ble_eq_true rfl) ⟨Nat.le_of_ble_eq_true rfl, Nat.le_of_ble_eq_true rfl⟩ ⟨Nat.le_refl _, Nat.le_refl _⟩ (by decide +kernel) (fun q9 _ => ?_)
        exact es_ret rfl rfl rfl ⟨by decide +kernel, rfl⟩ (Nat.le_refl _) (Nat.le_refl _)
      refine es_eq (tgt := 95) (off := (37)) (by decide +kernel) (by decide) (fun h10 => ?_) (fun h10 => ?_)
      · refine ef_drop (L2 := [some (.ref 127), none, some (.int p1), none, none, none, none, none, none, none, none, none]) [true, false, true, false, false, false, false, false, false, false, true, true] rfl rfl ?_
        exact Hj7 ()
      refine es_blk (pc' := 63) (L' := [some (.ref 127), some (.int p0), some (.int p1), some (.int p2), some (.int p3), some (.int p4), some (.int p5), some (.int x1), some (.int a3), some (.int a5), none, none]) (st' := [.int a3]) [(.iload 8, 0)] (by decide +kernel) rfl rfl ?_
      refine ef_J (X := fun j11 => ∀ (u12 : Unit), eh_Sim g eM_12_registers (eh_R 5 0 0) eh_eV 0 0 82 [some (.ref 127), some (.int p0), some (.int p1), some (.int p2), some (.int p3), some (.int p4), some (.int p5), some (.int x1), some (.int a3), some (.int a5), none, none] [] (eh_FW s) ((j11 u12).bind some)) ?_ (fun j11 Hj11 => ?_)
      · intro u12
        refine es_blk (pc' := 84) (L' := [some (.ref 127), some (.int p0), some (.int p1), some (.int p2), some (.int p3), some (.int p4), some (.int p5), some (.int x1), some (.int a3), some (.int a5), none, none]) (st' := [.int a5]) [(.iload 9, 0)] (by decide +kernel) rfl rfl ?_
        refine ef_J (X := fun j13 => ∀ (u14 : Unit), eh_Sim g eM_12_registers (eh_R 5 0 0) eh_eV 0 0 102 [some (.ref 127), some (.int p0), none, some (.int p2), some (.int p3), some (.int p4), some (.int p5), some (.int x1), some (.int a3), none, none, none] [] (eh_FW s) ((j13 u14).bind some)) ?_ (fun j13 Hj13 => ?_)
        · intro u14
          refine es_blk (pc' := 106) (L' := [some (.ref 127), some (.int p0), none, some (.int p2), some (.int p3), some (.int p4), some (.int p5), some (.int x1), some (.int a3), none, none, none]) (st' := [.int x1, .int p0, .ref 127]) [(.aload_n 0, 0), (.iload_n 1, 0), (.iload 7, 0)] (by decide +kernel) rfl rfl ?_
          refine ef_vpI (d := 4) (k := 127) (As := [.int p0, .int x1]) (st := []) eV_12_readRegister eK_12_492 (eS_12_readRegister g s p0 x1) rfl rfl (Nat.le_of_ble_eq_true rfl) rfl (Nat.le_of_ble_eq_true rfl) ⟨Nat.le_of_ble_eq_true rfl, Nat.le_of_ble_eq_true rfl⟩ ⟨Nat.le_refl _, Nat.le_refl _⟩ (by decide +kernel) (fun q15 _ => ?_)
          refine es_blk (pc' := 114) (L' := [some (.ref 127), some (.int p0), none, some (.int p2), some (.int p3), some (.int p4), some (.int p5), some (.int x1), some (.int a3), none, some (.int q15), none]) (st' := [.int 4, .int p3]) [(.istore 10, 0), (.iload 4, 0), (.iconst 4, 4)] (by decide +kernel) rfl rfl ?_
          refine ef_J (X := fun j16 => ∀ (a17 : Int32), eh_Sim g eM_12_registers (eh_R 5 0 0) eh_eV 0 0 124 [some (.ref 127), some (.int p0), none, some (.int p2), some (.int p3), none, none, some (.int x1), some (.int a3), none, some (.int q15), none] [.int a17] (eh_FW s) ((j16 a17).bind some)) ?_ (fun j16 Hj16 => ?_)
          · intro a17
            refine es_blk (pc' := 128) (L' := [some (.ref 127), some (.int p0), none, some (.int p2), some (.int p3), none, none, some (.int x1), some (.int a3), none, some (.int q15), some (.int a17)]) (st' := [.int a3]) [(.istore 11, 0), (.iload 8, 0)] (by decide +kernel) rfl rfl ?_
            refine ef_J (X := fun j18 => ∀ (s19 : eh_F), eh_Sim g eM_12_registers (eh_R 5 0 0) eh_eV 0 0 174 [some (.ref 127), some (.int p0), none, some (.int p2), none, none, none, none, none, none, some (.int q15), none] [] (eh_FW s19) ((j18 s19).bind some)) ?_ (fun j18 Hj18 => ?_)
            · intro s19
              refine es_blk (pc' := 179) (L' := [some (.ref 127), some (.int p0), none, some (.int p2), none, none, none, none, none, none, some (.int q15), none]) (st' := [.int q15, .int p2, .int p0, .ref 127]) [(.aload_n 0, 0), (.iload_n 1, 0), (.iload_n 3, 0), (.iload 10, 0)] (by decide +kernel) rfl rfl ?_
              refine ef_veV (d := 2) (k := 127) (As := [.int p0, .int p2, .int q15]) (st := []) eV_12_set eK_12_426 (eS_12_set g s19 p0 p2 q15) rfl rfl (Nat.le_of_ble_eq_true rfl) rfl (Nat.le_of_ble_eq_true rfl) ⟨Nat.le_of_ble_eq_true rfl, Nat.le_of_ble_eq_true rfl⟩ ⟨Nat.le_refl _, Nat.le_refl _⟩ (by decide +kernel) (fun q20 _ => ?_)
              exact es_ret rfl rfl rfl ⟨by decide +kernel, rfl⟩ (Nat.le_refl _) (Nat.le_refl _)
            refine es_eq (tgt := 174) (off := (46)) (by decide +kernel) (by decide) (fun h21 => ?_) (fun h21 => ?_)
            · refine ef_drop (L2 := [some (.ref 127), some (.int p0), none, some (.int p2), none, none, none, none, none, none, some (.int q15), none]) [true, true, true, true, false, true, true, false, false, true, true, false] rfl rfl ?_
              exact Hj18 _
            refine es_blk (pc' := 140) (L' := [some (.ref 127), some (.int p0), none, some (.int p2), some (.int p3), none, none, some (.int x1), some (.int a3), none, some (.int q15), some (.int a17)]) (st' := [.int 1, .int (p3 &&& 3), .int x1, .int p0, .ref 127]) [(.aload_n 0, 0), (.iload_n 1, 0), (.iload 7, 0), (.iload 4, 0), (.iconst 3, 3), (.iand, 0), (.iconst 1, 1)] (by decide +kernel) rfl rfl ?_
            refine ef_J (X := fun j22 => ∀ (a23 : Int32), eh_Sim g eM_12_registers (eh_R 5 0 0) eh_eV 0 0 171 [some (.ref 127), some (.int p0), none, some (.int p2), none, none, none, none, none, none, some (.int q15), none] [.int a23, .int x1, .int p0, .ref 127] (eh_FW s) ((j22 a23).bind some)) ?_ (fun j22 Hj22 => ?_)
            · intro a23
              refine ef_veV (d := 1) (k := 127) (As := [.int p0, .int x1, .int a23]) (st := []) eV_12_writeRegister eK_12_495 (eS_12_writeRegister g s p0 x1 a23) rfl rfl (Nat.le_of_ble_eq_true rfl) rfl (Nat.le_of_ble_eq_true rfl) ⟨Nat.le_of_ble_eq_true rfl, Nat.le_of_ble_eq_true rfl⟩ ⟨Nat.le_refl _, Nat.le_refl _⟩ (by decide +kernel) (fun q24 _ => ?_)
              exact Hj18 _
            refine es_ine (tgt := 148) (off := (8)) (by decide +kernel) (by decide) (fun h25 => ?_) (fun h25 => ?_)
            · refine es_blk (pc' := 145) (L' := [some (.ref 127), some (.int p0), none, some (.int p2), some (.int p3), none, none, some (.int x1), some (.int a3), none, some (.int q15), some (.int a17)]) (st' := [.int a17, .int x1, .int p0, .ref 127]) [(.iload 11, 0)] (by decide +kernel) rfl rfl ?_
              refine es_goto (tgt := 171) (off := (26)) (by decide +kernel) (by decide) ?_
              refine ef_drop (L2 := [some (.ref 127), some (.int p0), none, some (.int p2), none, none, none, none, none, none, some (.int q15), none]) [true, true, true, true, false, true, true, false, false, true, true, false] rfl rfl ?_
              exact Hj22 _
            refine es_blk (pc' := 153) (L' := [some (.ref 127), some (.int p0), none, some (.int p2), some (.int p3), none, none, some (.int x1), some (.int a3), none, some (.int q15), some (.int a17)]) (st' := [.int 2, .int (p3 &&& 3), .int x1, .int p0, .ref 127]) [(.iload 4, 0), (.iconst 3, 3), (.iand, 0), (.iconst 2, 2)] (by decide +kernel) rfl rfl ?_
            refine es_ine (tgt := 164) (off := (11)) (by decide +kernel) (by decide) (fun h26 => ?_) (fun h26 => ?_)
            · refine es_blk (pc' := 161) (L' := [some (.ref 127), some (.int p0), none, some (.int p2), some (.int p3), none, none, some (.int x1), some (.int a3), none, some (.int q15), some (.int a17)]) (st' := [.int (q15 ||| a17), .int x1, .int p0, .ref 127]) [(.iload 10, 0), (.iload 11, 0), (.ior, 0)] (by decide +kernel) rfl rfl ?_
              refine es_goto (tgt := 171) (off := (10)) (by decide +kernel) (by decide) ?_
              refine ef_drop (L2 := [some (.ref 127), some (.int p0), none, some (.int p2), none, none, none, none, none, none, some (.int q15), none]) [true, true, true, true, false, true, true, false, false, true, true, false] rfl rfl ?_
              exact Hj22 _
            refine es_blk (pc' := 171) (L' := [some (.ref 127), some (.int p0), none, some (.int p2), some (.int p3), none, none, some (.int x1), some (.int a3), none, some (.int q15), some (.int a17)]) (st' := [.int (q15 &&& (a17 ^^^ (-1))), .int x1, .int p0, .ref 127]) [(.iload 10, 0), (.iload 11, 0), (.iconst (-1), (-1)), (.ixor, 0), (.iand, 0)] (by decide +kernel) rfl rfl ?_
            refine ef_drop (L2 := [some (.ref 127), some (.int p0), none, some (.int p2), none, none, none, none, none, none, some (.int q15), none]) [true, true, true, true, false, true, true, false, false, true, true, false] rfl rfl ?_
            exact Hj22 _
          refine es_ile (tgt := 122) (off := (8)) (by decide +kernel) (by decide) (fun h27 => ?_) (fun h27 => ?_)
          · refine es_blk (pc' := 119) (L' := [some (.ref 127), some (.int p0), none, some (.int p2), some (.int p3), some (.int p4), some (.int p5), some (.int x1), some (.int a3), none, some (.int q15), none]) (st' := [.int p4]) [(.iload 5, 0)] (by decide +kernel) rfl rfl ?_
            refine es_goto (tgt := 124) (off := (5)) (by decide +kernel) (by decide) ?_
            refine ef_drop (L2 := [some (.ref 127), some (.int p0), none, some (.int p2), some (.int p3), none, none, some (.int x1), some (.int a3), none, some (.int q15), none]) [true, true, true, true, true, false, false, true, true, true, true, true] rfl rfl ?_
            exact Hj16 _
          refine es_blk (pc' := 124) (L' := [some (.ref 127), some (.int p0), none, some (.int p2), some (.int p3), some (.int p4), some (.int p5), some (.int x1), some (.int a3), none, some (.int q15), none]) (st' := [.int p5]) [(.iload 6, 0)] (by decide +kernel) rfl rfl ?_
          refine ef_drop (L2 := [some (.ref 127), some (.int p0), none, some (.int p2), some (.int p3), none, none, some (.int x1), some (.int a3), none, some (.int q15), none]) [true, true, true, true, true, false, false, true, true, true, true, true] rfl rfl ?_
          exact Hj16 _
        refine es_ne (tgt := 102) (off := (18)) (by decide +kernel) (by decide) (fun h28 => ?_) (fun h28 => ?_)
        · refine es_blk (pc' := 92) (L' := [some (.ref 127), some (.int p0), some (.int p1), some (.int p2), some (.int p3), some (.int p4), some (.int p5), some (.int x1), some (.int a3), some (.int a5), none, none]) (st' := [.int 3073, .int x1]) [(.iload 7, 0), (.sipush 3073, 3073)] (by decide +kernel) rfl rfl ?_
          refine es_ieq (tgt := 102) (off := (10)) (by decide +kernel) (by decide) (fun h29 => ?_) (fun h29 => ?_)
          · refine ef_drop (L2 := [some (.ref 127), some (.int p0), none, some (.int p2), some (.int p3), some (.int p4), some (.int p5), some (.int x1), some (.int a3), none, none, none]) [true, true, false, true, true, true, true, true, true, false, true, true] rfl rfl ?_
            exact Hj13 ()
          refine ef_drop (L2 := [some (.ref 127), none, some (.int p1), none, none, none, none, none, none, none, none, none]) [true, false, true, false, false, false, false, false, false, false, true, true] rfl rfl ?_
          exact Hj7 ()
        refine ef_drop (L2 := [some (.ref 127), some (.int p0), none, some (.int p2), some (.int p3), some (.int p4), some (.int p5), some (.int x1), some (.int a3), none, none, none]) [true, true, false, true, true, true, true, true, true, false, true, true] rfl rfl ?_
        exact Hj13 ()
      refine es_eq (tgt := 82) (off := (19)) (by decide +kernel) (by decide) (fun h30 => ?_) (fun h30 => ?_)
      · exact Hj11 ()
      refine es_blk (pc' := 71) (L' := [some (.ref 127), some (.int p0), some (.int p1), some (.int p2), some (.int p3), some (.int p4), some (.int p5), some (.int x1), some (.int a3), some (.int a5), none, none]) (st' := [.int 3073, .int x1]) [(.iload 7, 0), (.sipush 3073, 3073)] (by decide +kernel) rfl rfl ?_
      refine es_ieq (tgt := 95) (off := (24)) (by decide +kernel) (by decide) (fun h31 => ?_) (fun h31 => ?_)
      · refine ef_drop (L2 := [some (.ref 127), none, some (.int p1), none, none, none, none, none, none, none, none, none]) [true, false, true, false, false, false, false, false, false, false, true, true] rfl rfl ?_
        exact Hj7 ()
      refine es_blk (pc' := 79) (L' := [some (.ref 127), some (.int p0), some (.int p1), some (.int p2), some (.int p3), some (.int p4), some (.int p5), some (.int x1), some (.int a3), some (.int a5), none, none]) (st' := [.int 3860, .int x1]) [(.iload 7, 0), (.sipush 3860, 3860)] (by decide +kernel) rfl rfl ?_
      refine es_ieq (tgt := 95) (off := (16)) (by decide +kernel) (by decide) (fun h32 => ?_) (fun h32 => ?_)
      · refine ef_drop (L2 := [some (.ref 127), none, some (.int p1), none, none, none, none, none, none, none, none, none]) [true, false, true, false, false, false, false, false, false, false, true, true] rfl rfl ?_
        exact Hj7 ()
      exact Hj11 ()
    refine ef_J (X := fun j33 => ∀ (u34 : Unit), eh_Sim g eM_12_registers (eh_R 5 0 0) eh_eV 0 0 50 [some (.ref 127), some (.int p0), some (.int p1), some (.int p2), some (.int p3), some (.int p4), some (.int p5), some (.int x1), some (.int a3), none, none, none] [] (eh_FW s) ((j33 u34).bind some)) ?_ (fun j33 Hj33 => ?_)
    · intro u34
      refine es_blk (pc' := 51) (L' := [some (.ref 127), some (.int p0), some (.int p1), some (.int p2), some (.int p3), some (.int p4), some (.int p5), some (.int x1), some (.int a3), none, none, none]) (st' := [.int 0]) [(.iconst 0, 0)] (by decide +kernel) rfl rfl ?_
      exact Hj4 _
    refine es_ine (tgt := 50) (off := (17)) (by decide +kernel) (by decide) (fun h35 => ?_) (fun h35 => ?_)
    · refine es_blk (pc' := 37) (L' := [some (.ref 127), some (.int p0), some (.int p1), some (.int p2), some (.int p3), some (.int p4), some (.int p5), some (.int x1), some (.int a3), none, none, none]) (st' := [.ref 127]) [(.aload_n 0, 0)] (by decide +kernel) rfl rfl ?_
      refine ef_getP (k := 127) (j := 3) (q := 131) rfl eL_12_21 rfl rfl rfl (by decide +kernel) ?_
      refine es_blk (pc' := 41) (L' := [some (.ref 127), some (.int p0), some (.int p1), some (.int p2), some (.int p3), some (.int p4), some (.int p5), some (.int x1), some (.int a3), none, none, none]) (st' := [.int p0, .ref 131]) [(.iload_n 1, 0)] (by decide +kernel) rfl rfl ?_
      refine ef_ald (k := 131) rfl (Or.inl ⟨rfl, rfl⟩) (by decide +kernel) (fun _ => ?_)
      refine es_blk (pc' := 43) (L' := [some (.ref 127), some (.int p0), some (.int p1), some (.int p2), some (.int p3), some (.int p4), some (.int p5), some (.int x1), some (.int a3), none, none, none]) (st' := [.int 1, .int (s.1 131 (eh_ix p0))]) [(.iconst 1, 1)] (by decide +kernel) rfl rfl ?_
      refine es_ine (tgt := 50) (off := (7)) (by decide +kernel) (by decide) (fun h36 => ?_) (fun h36 => ?_)
      · refine es_blk (pc' := 47) (L' := [some (.ref 127), some (.int p0), some (.int p1), some (.int p2), some (.int p3), some (.int p4), some (.int p5), some (.int x1), some (.int a3), none, none, none]) (st' := [.int 1]) [(.iconst 1, 1)] (by decide +kernel) rfl rfl ?_
        refine es_goto (tgt := 51) (off := (4)) (by decide +kernel) (by decide) ?_
        exact Hj4 _
      exact Hj33 ()
    exact Hj33 ()
  refine ef_J (X := fun j37 => ∀ (u38 : Unit), eh_Sim g eM_12_registers (eh_R 5 0 0) eh_eV 0 0 19 [some (.ref 127), some (.int p0), some (.int p1), some (.int p2), some (.int p3), some (.int p4), some (.int p5), some (.int x1), none, none, none, none] [] (eh_FW s) ((j37 u38).bind some)) ?_ (fun j37 Hj37 => ?_)
  · intro u38
    refine es_blk (pc' := 20) (L' := [some (.ref 127), some (.int p0), some (.int p1), some (.int p2), some (.int p3), some (.int p4), some (.int p5), some (.int x1), none, none, none, none]) (st' := [.int 1]) [(.iconst 1, 1)] (by decide +kernel) rfl rfl ?_
    refine es_goto (tgt := 24) (off := (4)) (by decide +kernel) (by decide) ?_
    exact Hj2 _
  refine es_ieq (tgt := 19) (off := (8)) (by decide +kernel) (by decide) (fun h39 => ?_) (fun h39 => ?_)
  · exact Hj37 ()
  refine es_blk (pc' := 16) (L' := [some (.ref 127), some (.int p0), some (.int p1), some (.int p2), some (.int p3), some (.int p4), some (.int p5), some (.int x1), none, none, none, none]) (st' := [.int p4]) [(.iload 5, 0)] (by decide +kernel) rfl rfl ?_
  refine es_eq (tgt := 23) (off := (7)) (by decide +kernel) (by decide) (fun h40 => ?_) (fun h40 => ?_)
  · refine es_blk (pc' := 24) (L' := [some (.ref 127), some (.int p0), some (.int p1), some (.int p2), some (.int p3), some (.int p4), some (.int p5), some (.int x1), none, none, none, none]) (st' := [.int 0]) [(.iconst 0, 0)] (by decide +kernel) rfl rfl ?_
    exact Hj2 _
  exact Hj37 ()
