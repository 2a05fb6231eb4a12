def eF_10_resume (s : eh_F) (p0 : Nat) (p1 : Int32) (p2 : Int32) : Option (Int32 × eh_F) := Option.bind (eF_5_hasFibre s p1) (fun q1 => if q1 = 0 then (some ((-1), s)) else (if eh_in p1 12 then eh_J (fun (a5 : Int32) => if eh_in (s.1 (eh_fp p1) 3) 6 then eh_J (fun (u8 : Unit) => some ((-2), s)) (fun j7 => if (s.1 (eh_ep (s.1 (eh_fp p1) 3)) 5) = 2 then (if a5 = 0 then (j7 ()) else (eh_J (fun (s12 : eh_F) => Option.bind (eF_5_begin s12 p0 (eh_fp p1)) (fun q13 => some (p1, q13))) (fun j11 => if (s.1 (eh_fp p1) 6) = 4 then (eh_V (eh_tI s ((eh_fp p1) + 1) 10 p2) (fun s15 => j11 s15)) else (j11 s)))) else (j7 ())) else none) (fun j4 => eh_J (fun (u17 : Unit) => j4 1) (fun j16 => if (s.1 (eh_fp p1) 6) = 3 then (j16 ()) else (if (s.1 (eh_fp p1) 6) = 4 then (j16 ()) else (j4 0)))) else none))
set_option maxHeartbeats 4000000 in
set_option maxRecDepth 100000 in
theorem eS_10_resume (g : eh_P) (s : eh_F) (p0 : Nat) (p1 : Int32) (p2 : Int32) (hp0 : eh_okH p0 = true) : eh_Sim g eM_10_resume (eh_R 3 0 0) eh_eI 0 0 0 (eh_en 6 [.ref 123, .ref p0, .int p1, .int p2]) [] (eh_FW s) (eF_10_resume s p0 p1 p2) := by
  unfold eF_10_resume
  refine ef_top (L := [some (.ref 123), some (.ref p0), some (.int p1), some (.int p2), none, none]) rfl ?_
  refine es_blk (pc' := 1) (L' := [some (.ref 123), some (.ref p0), some (.int p1), some (.int p2), none, none]) (st' := [.ref 123]) [(.aload_n 0, 0)] (by decide +kernel) rfl rfl ?_
  refine ef_getP (k := 123) (j := 0) (q := 1) rfl eL_10_9 rfl rfl rfl (by decide +kernel) ?_
  refine es_blk (pc' := 5) (L' := [some (.ref 123), some (.ref p0), some (.int p1), some (.int p2), none, none]) (st' := [.int p1, .ref 1]) [(.iload_n 2, 0)] (by decide +kernel) rfl rfl ?_
  refine ef_vpI (d := 1) (k := 1) (As := [.int p1]) (st := []) eV_5_hasFibre eK_10_197 (eS_5_hasFibre g s p1) rfl rfl (Nat.le_of_ble_eq_true rfl) rfl (Nat.le_of_ble_eq_true rfl) ⟨Nat.le_of_ble_eq_true rfl, Nat.le_of_ble_eq_true rfl⟩ ⟨Nat.le_refl _, Nat.le_refl _⟩ (by decide +kernel) (fun q1 _ => ?_)
  refine es_ne (tgt := 13) (off := (5)) (by decide +kernel) (by decide) (fun h2 => ?_) (fun h2 => ?_)
  · refine es_blk (pc' := 12) (L' := [some (.ref 123), some (.ref p0), some (.int p1), some (.int p2), none, none]) (st' := [.int (-1)]) [(.iconst (-1), (-1))] (by decide +kernel) rfl rfl ?_
    exact es_ret rfl rfl rfl ⟨by decide +kernel, _, rfl, rfl⟩ (Nat.le_refl _) (Nat.le_refl _)
  refine es_blk (pc' := 14) (L' := [some (.ref 123), some (.ref p0), some (.int p1), some (.int p2), none, none]) (st' := [.ref 123]) [(.aload_n 0, 0)] (by decide +kernel) rfl rfl ?_
  refine ef_getP (k := 123) (j := 0) (q := 1) rfl eL_10_9 rfl rfl rfl (by decide +kernel) ?_
  refine ef_getP (k := 1) (j := 3) (q := 27) rfl eL_10_186 rfl rfl rfl (by decide +kernel) ?_
  refine es_blk (pc' := 21) (L' := [some (.ref 123), some (.ref p0), some (.int p1), some (.int p2), none, none]) (st' := [.int p1, .ref 27]) [(.iload_n 2, 0)] (by decide +kernel) rfl rfl ?_
  refine ef_fibres (by decide +kernel) (fun h3 => ?_)
  refine es_blk (pc' := 26) (L' := [some (.ref 123), some (.ref p0), some (.int p1), some (.int p2), some (.ref (eh_fp p1)), none]) (st' := [.ref (eh_fp p1)]) [(.astore 4, 0), (.aload 4, 0)] (by decide +kernel) rfl rfl ?_
  refine ef_getI (k := (eh_fp p1)) (j := 6) (eh_F0sh h3) eL_10_193 (by decide) (by decide +kernel) ?_
  refine es_blk (pc' := 30) (L' := [some (.ref 123), some (.ref p0), some (.int p1), some (.int p2), some (.ref (eh_fp p1)), none]) (st' := [.int 3, .int (s.1 (eh_fp p1) 6)]) [(.iconst 3, 3)] (by decide +kernel) rfl rfl ?_
  refine ef_J (X := fun j4 => ∀ (a5 : Int32), eh_Sim g eM_10_resume (eh_R 3 0 0) eh_eI 0 0 47 [some (.ref 123), some (.ref p0), some (.int p1), some (.int p2), some (.ref (eh_fp p1)), none] [.int a5] (eh_FW s) ((j4 a5).bind some)) ?_ (fun j4 Hj4 => ?_)
  · intro a5
    refine es_blk (pc' := 50) (L' := [some (.ref 123), some (.ref p0), some (.int p1), some (.int p2), some (.ref (eh_fp p1)), some (.int a5)]) (st' := [.ref 123]) [(.istore 5, 0), (.aload_n 0, 0)] (by decide +kernel) rfl rfl ?_
    refine ef_getP (k := 123) (j := 0) (q := 1) rfl eL_10_9 rfl rfl rfl (by decide +kernel) ?_
    refine ef_getP (k := 1) (j := 4) (q := 28) rfl eL_10_136 rfl rfl rfl (by decide +kernel) ?_
    refine es_blk (pc' := 58) (L' := [some (.ref 123), some (.ref p0), some (.int p1), some (.int p2), some (.ref (eh_fp p1)), some (.int a5)]) (st' := [.ref (eh_fp p1), .ref 28]) [(.aload 4, 0)] (by decide +kernel) rfl rfl ?_
    refine ef_getI (k := (eh_fp p1)) (j := 3) (eh_F0sh h3) eL_10_200 (by decide) (by decide +kernel) ?_
    refine ef_encs (by decide +kernel) (fun h6 => ?_)
    refine ef_getI (k := (eh_ep (s.1 (eh_fp p1) 3))) (j := 5) (eh_E0sh h6) eL_10_146 (by decide) (by decide +kernel) ?_
    refine es_blk (pc' := 66) (L' := [some (.ref 123), some (.ref p0), some (.int p1), some (.int p2), some (.ref (eh_fp p1)), some (.int a5)]) (st' := [.int 2, .int (s.1 (eh_ep (s.1 (eh_fp p1) 3)) 5)]) [(.iconst 2, 2)] (by decide +kernel) rfl rfl ?_
    refine ef_J (X := fun j7 => ∀ (u8 : Unit), eh_Sim g eM_10_resume (eh_R 3 0 0) eh_eI 0 0 74 [none, none, none, none, none, none] [] (eh_FW s) ((j7 u8).bind some)) ?_ (fun j7 Hj7 => ?_)
    · intro u8
      refine es_blk (pc' := 76) (L' := [none, none, none, none, none, none]) (st' := [.int (-2)]) [(.bipush (-2), (-2))] (by decide +kernel) rfl rfl ?_
      exact es_ret rfl rfl rfl ⟨by decide +kernel, _, rfl, rfl⟩ (Nat.le_refl _) (Nat.le_refl _)
    refine es_ine (tgt := 74) (off := (8)) (by decide +kernel) (by decide) (fun h9 => ?_) (fun h9 => ?_)
    · refine es_blk (pc' := 71) (L' := [some (.ref 123), some (.ref p0), some (.int p1), some (.int p2), some (.ref (eh_fp p1)), some (.int a5)]) (st' := [.int a5]) [(.iload 5, 0)] (by decide +kernel) rfl rfl ?_
      refine es_ne (tgt := 77) (off := (6)) (by decide +kernel) (by decide) (fun h10 => ?_) (fun h10 => ?_)
      · refine ef_drop (L2 := [none, none, none, none, none, none]) [false, false, false, false, false, false] rfl rfl ?_
        exact Hj7 ()
      refine es_blk (pc' := 79) (L' := [some (.ref 123), some (.ref p0), some (.int p1), some (.int p2), some (.ref (eh_fp p1)), some (.int a5)]) (st' := [.ref (eh_fp p1)]) [(.aload 4, 0)] (by decide +kernel) rfl rfl ?_
      refine ef_getI (k := (eh_fp p1)) (j := 6) (eh_F0sh h3) eL_10_193 (by decide) (by decide +kernel) ?_
      refine es_blk (pc' := 83) (L' := [some (.ref 123), some (.ref p0), some (.int p1), some (.int p2), some (.ref (eh_fp p1)), some (.int a5)]) (st' := [.int 4, .int (s.1 (eh_fp p1) 6)]) [(.iconst 4, 4)] (by decide +kernel) rfl rfl ?_
      refine ef_J (X := fun j11 => ∀ (s12 : eh_F), eh_Sim g eM_10_resume (eh_R 3 0 0) eh_eI 0 0 95 [some (.ref 123), some (.ref p0), some (.int p1), none, some (.ref (eh_fp p1)), none] [] (eh_FW s12) ((j11 s12).bind some)) ?_ (fun j11 Hj11 => ?_)
      · intro s12
        refine es_blk (pc' := 96) (L' := [some (.ref 123), some (.ref p0), some (.int p1), none, some (.ref (eh_fp p1)), none]) (st' := [.ref 123]) [(.aload_n 0, 0)] (by decide +kernel) rfl rfl ?_
        refine ef_getP (k := 123) (j := 0) (q := 1) rfl eL_10_9 rfl rfl rfl (by decide +kernel) ?_
        refine es_blk (pc' := 102) (L' := [some (.ref 123), some (.ref p0), some (.int p1), none, some (.ref (eh_fp p1)), none]) (st' := [.ref (eh_fp p1), .ref p0, .ref 1]) [(.aload_n 1, 0), (.aload 4, 0)] (by decide +kernel) rfl rfl ?_
        refine ef_veV (d := 2) (k := 1) (As := [.ref p0, .ref (eh_fp p1)]) (st := []) eV_5_begin eK_10_205 (eS_5_begin g s12 p0 (eh_fp p1) hp0 h3) rfl rfl (Nat.le_of_ble_eq_true rfl) rfl (Nat.le_of_ble_eq_true rfl) ⟨Nat.le_of_ble_eq_true rfl, Nat.le_of_ble_eq_true rfl⟩ ⟨Nat.le_refl _, Nat.le_refl _⟩ (by decide +kernel) (fun q13 _ => ?_)
        refine es_blk (pc' := 106) (L' := [some (.ref 123), some (.ref p0), some (.int p1), none, some (.ref (eh_fp p1)), none]) (st' := [.int p1]) [(.iload_n 2, 0)] (by decide +kernel) rfl rfl ?_
        exact es_ret rfl rfl rfl ⟨by decide +kernel, _, rfl, rfl⟩ (Nat.le_refl _) (Nat.le_refl _)
      refine es_ine (tgt := 95) (off := (12)) (by decide +kernel) (by decide) (fun h14 => ?_) (fun h14 => ?_)
      · refine es_blk (pc' := 88) (L' := [some (.ref 123), some (.ref p0), some (.int p1), some (.int p2), some (.ref (eh_fp p1)), some (.int a5)]) (st' := [.ref (eh_fp p1)]) [(.aload 4, 0)] (by decide +kernel) rfl rfl ?_
        refine ef_getP (k := (eh_fp p1)) (j := 1) (q := ((eh_fp p1) + 1)) (eh_F0sh h3) eL_10_209 rfl (eh_Fx h3 _) (eh_F1sh h3) (by decide +kernel) ?_
        refine es_blk (pc' := 94) (L' := [some (.ref 123), some (.ref p0), some (.int p1), some (.int p2), some (.ref (eh_fp p1)), some (.int a5)]) (st' := [.int p2, .int 10, .ref ((eh_fp p1) + 1)]) [(.bipush 10, 10), (.iload_n 3, 0)] (by decide +kernel) rfl rfl ?_
        refine ef_astc (k := ((eh_fp p1) + 1)) (j := 10) (eh_F1sh h3) (by decide) rfl (by decide +kernel) ?_
        refine ef_V (fun _ => [some (.ref 123), some (.ref p0), some (.int p1), some (.int p2), some (.ref (eh_fp p1)), some (.int a5)]) (fun _ => []) (fun s15 => eh_FW s15) (fun s15 => ?_)
        refine ef_drop (L2 := [some (.ref 123), some (.ref p0), some (.int p1), none, some (.ref (eh_fp p1)), none]) [true, true, true, false, true, false] rfl rfl ?_
        exact Hj11 _
      refine ef_drop (L2 := [some (.ref 123), some (.ref p0), some (.int p1), none, some (.ref (eh_fp p1)), none]) [true, true, true, false, true, false] rfl rfl ?_
      exact Hj11 _
    refine ef_drop (L2 := [none, none, none, none, none, none]) [false, false, false, false, false, false] rfl rfl ?_
    exact Hj7 ()
  refine ef_J (X := fun j16 => ∀ (u17 : Unit), eh_Sim g eM_10_resume (eh_R 3 0 0) eh_eI 0 0 42 [some (.ref 123), some (.ref p0), some (.int p1), some (.int p2), some (.ref (eh_fp p1)), none] [] (eh_FW s) ((j16 u17).bind some)) ?_ (fun j16 Hj16 => ?_)
  · intro u17
    refine es_blk (pc' := 43) (L' := [some (.ref 123), some (.ref p0), some (.int p1), some (.int p2), some (.ref (eh_fp p1)), none]) (st' := [.int 1]) [(.iconst 1, 1)] (by decide +kernel) rfl rfl ?_
    refine es_goto (tgt := 47) (off := (4)) (by decide +kernel) (by decide) ?_
    exact Hj4 _
  refine es_ieq (tgt := 42) (off := (12)) (by decide +kernel) (by decide) (fun h18 => ?_) (fun h18 => ?_)
  · exact Hj16 ()
  refine es_blk (pc' := 35) (L' := [some (.ref 123), some (.ref p0), some (.int p1), some (.int p2), some (.ref (eh_fp p1)), none]) (st' := [.ref (eh_fp p1)]) [(.aload 4, 0)] (by decide +kernel) rfl rfl ?_
  refine ef_getI (k := (eh_fp p1)) (j := 6) (eh_F0sh h3) eL_10_193 (by decide) (by decide +kernel) ?_
  refine es_blk (pc' := 39) (L' := [some (.ref 123), some (.ref p0), some (.int p1), some (.int p2), some (.ref (eh_fp p1)), none]) (st' := [.int 4, .int (s.1 (eh_fp p1) 6)]) [(.iconst 4, 4)] (by decide +kernel) rfl rfl ?_
  refine es_ine (tgt := 46) (off := (7)) (by decide +kernel) (by decide) (fun h19 => ?_) (fun h19 => ?_)
  · exact Hj16 ()
  refine es_blk (pc' := 47) (L' := [some (.ref 123), some (.ref p0), some (.int p1), some (.int p2), some (.ref (eh_fp p1)), none]) (st' := [.int 0]) [(.iconst 0, 0)] (by decide +kernel) rfl rfl ?_
  exact Hj4 _
def eF_10_destroy (s : eh_F) (p0 : Int32) : Option (Int32 × eh_F) := Option.bind (eF_5_hasEnclave s p0) (fun q1 => if q1 = 0 then (some ((-1), s)) else (if eh_in p0 6 then if (s.1 (eh_ep p0) 5) = 2 then (some ((-2), s)) else (Option.bind (eh_loop (fun (r26 : (Int32 × eh_F) → Option (eh_F)) (t5 : Int32 × eh_F) => if t5.1 < 12 then (if eh_in t5.1 12 then eh_J (fun (s29 : eh_F) => eh_V ((t5.1 + 1) : Int32) (fun x30 => r26 (x30, s29))) (fun j28 => if (t5.2.1 3 (eh_ix t5.1)) = 0 then (j28 t5.2) else (Option.bind (eF_6_sideOf t5.2 t5.1 p0) (fun q32 => if q32 = 0 then (j28 t5.2) else (Option.bind (eF_6_takeBack t5.2 t5.1) (fun q34 => j28 q34))))) else none) else (some t5.2)) eh_FU (0, s)) (fun (e6 : eh_F) => Option.bind (eh_loop (fun (r16 : (Int32 × eh_F) → Option (eh_F)) (t7 : Int32 × eh_F) => if t7.1 < 12 then (if eh_in t7.1 12 then eh_J (fun (s20 : eh_F) => eh_V ((t7.1 + 1) : Int32) (fun x21 => r16 (x21, s20))) (fun j19 => if (t7.2.1 (eh_fp t7.1) 3) = p0 then (if eh_in t7.1 12 then eh_V (eh_tI t7.2 (eh_fp t7.1) 6 0) (fun s24 => j19 s24) else none) else (j19 t7.2)) else none) else (some t7.2)) eh_FU (0, e6)) (fun (e8 : eh_F) => if eh_in p0 6 then eh_V (eh_tI e8 (eh_ep p0) 5 0) (fun s10 => eh_J (fun (s12 : eh_F) => some (0, s12)) (fun j11 => if (s10.1 12 14) = p0 then (Option.bind (eF_0_givePath s10 (-1)) (fun q14 => j11 q14)) else (j11 s10))) else none))) else none))
set_option maxHeartbeats 4000000 in
set_option maxRecDepth 100000 in
theorem eS_10_destroy (g : eh_P) (s : eh_F) (p0 : Int32) : eh_Sim g eM_10_destroy (eh_R 3 0 0) eh_eI 0 0 0 (eh_en 3 [.ref 123, .int p0]) [] (eh_FW s) (eF_10_destroy s p0) := by
  unfold eF_10_destroy
  refine ef_top (L := [some (.ref 123), some (.int p0), none]) rfl ?_
  refine es_blk (pc' := 1) (L' := [some (.ref 123), some (.int p0), none]) (st' := [.ref 123]) [(.aload_n 0, 0)] (by decide +kernel) rfl rfl ?_
  refine ef_getP (k := 123) (j := 0) (q := 1) rfl eL_10_9 rfl rfl rfl (by decide +kernel) ?_
  refine es_blk (pc' := 5) (L' := [some (.ref 123), some (.int p0), none]) (st' := [.int p0, .ref 1]) [(.iload_n 1, 0)] (by decide +kernel) rfl rfl ?_
  refine ef_vpI (d := 1) (k := 1) (As := [.int p0]) (st := []) eV_5_hasEnclave eK_10_150 (eS_5_hasEnclave g s p0) rfl rfl (Nat.le_of_ble_eq_true rfl) rfl (Nat.le_of_ble_eq_true rfl) ⟨Nat.le_of_ble_eq_true rfl, Nat.le_of_ble_eq_true rfl⟩ ⟨Nat.le_refl _, Nat.le_refl _⟩ (by decide +kernel) (fun q1 _ => ?_)
  refine es_ne (tgt := 13) (off := (5)) (by decide +kernel) (by decide) (fun h2 => ?_) (fun h2 => ?_)
  · refine es_blk (pc' := 12) (L' := [some (.ref 123), some (.int p0), none]) (st' := [.int (-1)]) [(.iconst (-1), (-1))] (by decide +kernel) rfl rfl ?_
    exact es_ret rfl rfl rfl ⟨by decide +kernel, _, rfl, rfl⟩ (Nat.le_refl _) (Nat.le_refl _)
  refine es_blk (pc' := 14) (L' := [some (.ref 123), some (.int p0), none]) (st' := [.ref 123]) [(.aload_n 0, 0)] (by decide +kernel) rfl rfl ?_
  refine ef_getP (k := 123) (j := 0) (q := 1) rfl eL_10_9 rfl rfl rfl (by decide +kernel) ?_
  refine ef_getP (k := 1) (j := 4) (q := 28) rfl eL_10_136 rfl rfl rfl (by decide +kernel) ?_
  refine es_blk (pc' := 21) (L' := [some (.ref 123), some (.int p0), none]) (st' := [.int p0, .ref 28]) [(.iload_n 1, 0)] (by decide +kernel) rfl rfl ?_
  refine ef_encs (by decide +kernel) (fun h3 => ?_)
  refine ef_getI (k := (eh_ep p0)) (j := 5) (eh_E0sh h3) eL_10_146 (by decide) (by decide +kernel) ?_
  refine es_blk (pc' := 26) (L' := [some (.ref 123), some (.int p0), none]) (st' := [.int 2, .int (s.1 (eh_ep p0) 5)]) [(.iconst 2, 2)] (by decide +kernel) rfl rfl ?_
  refine es_ine (tgt := 32) (off := (6)) (by decide +kernel) (by decide) (fun h4 => ?_) (fun h4 => ?_)
  · refine es_blk (pc' := 31) (L' := [some (.ref 123), some (.int p0), none]) (st' := [.int (-2)]) [(.bipush (-2), (-2))] (by decide +kernel) rfl rfl ?_
    exact es_ret rfl rfl rfl ⟨by decide +kernel, _, rfl, rfl⟩ (Nat.le_refl _) (Nat.le_refl _)
  refine es_blk (pc' := 34) (L' := [some (.ref 123), some (.int p0), some (.int 0)]) (st' := []) [(.iconst 0, 0), (.istore_n 2, 0)] (by decide +kernel) rfl rfl ?_
  refine ef_loop1 (n := eh_FU) (i := (0, s)) (px := 78) (fun (t5 : Int32 × eh_F) => [some (.ref 123), some (.int p0), some (.int t5.1)]) (fun (t5 : Int32 × eh_F) => []) (fun (t5 : Int32 × eh_F) => eh_FW t5.2) (fun (e6 : eh_F) => [some (.ref 123), some (.int p0), none]) (fun (e6 : eh_F) => []) (fun (e6 : eh_F) => eh_FW e6) (fun e6 => ?_) (fun K25 HxK25_0 r26 Hr26 t5 => ?_)
  · refine es_blk (pc' := 80) (L' := [some (.ref 123), some (.int p0), some (.int 0)]) (st' := []) [(.iconst 0, 0), (.istore_n 2, 0)] (by decide +kernel) rfl rfl ?_
    refine ef_loop1 (n := eh_FU) (i := (0, e6)) (px := 121) (fun (t7 : Int32 × eh_F) => [some (.ref 123), some (.int p0), some (.int t7.1)]) (fun (t7 : Int32 × eh_F) => []) (fun (t7 : Int32 × eh_F) => eh_FW t7.2) (fun (e8 : eh_F) => [some (.ref 123), some (.int p0), none]) (fun (e8 : eh_F) => []) (fun (e8 : eh_F) => eh_FW e8) (fun e8 => ?_) (fun K15 HxK15_0 r16 Hr16 t7 => ?_)
    · refine es_blk (pc' := 122) (L' := [some (.ref 123), some (.int p0), none]) (st' := [.ref 123]) [(.aload_n 0, 0)] (by decide +kernel) rfl rfl ?_
      refine ef_getP (k := 123) (j := 0) (q := 1) rfl eL_10_9 rfl rfl rfl (by decide +kernel) ?_
      refine ef_getP (k := 1) (j := 4) (q := 28) rfl eL_10_136 rfl rfl rfl (by decide +kernel) ?_
      refine es_blk (pc' := 129) (L' := [some (.ref 123), some (.int p0), none]) (st' := [.int p0, .ref 28]) [(.iload_n 1, 0)] (by decide +kernel) rfl rfl ?_
      refine ef_encs (by decide +kernel) (fun h9 => ?_)
      refine es_blk (pc' := 131) (L' := [some (.ref 123), some (.int p0), none]) (st' := [.int 0, .ref (eh_ep p0)]) [(.iconst 0, 0)] (by decide +kernel) rfl rfl ?_
      refine ef_putI (k := (eh_ep p0)) (j := 5) (eh_E0sh h9) eL_10_146 rfl rfl (by decide +kernel) ?_
      refine ef_V (fun _ => [some (.ref 123), some (.int p0), none]) (fun _ => []) (fun s10 => eh_FW s10) (fun s10 => ?_)
      refine es_blk (pc' := 135) (L' := [some (.ref 123), some (.int p0), none]) (st' := [.ref 123]) [(.aload_n 0, 0)] (by decide +kernel) rfl rfl ?_
      refine ef_getP (k := 123) (j := 0) (q := 1) rfl eL_10_9 rfl rfl rfl (by decide +kernel) ?_
      refine ef_getP (k := 1) (j := 1) (q := 12) rfl eL_10_82 rfl rfl rfl (by decide +kernel) ?_
      refine ef_getI (k := 12) (j := 14) rfl eL_10_222 (by decide) (by decide +kernel) ?_
      refine es_blk (pc' := 145) (L' := [some (.ref 123), some (.int p0), none]) (st' := [.int p0, .int (s10.1 12 14)]) [(.iload_n 1, 0)] (by decide +kernel) rfl rfl ?_
      refine ef_J (X := fun j11 => ∀ (s12 : eh_F), eh_Sim g eM_10_destroy (eh_R 3 0 0) eh_eI 0 0 159 [none, none, none] [] (eh_FW s12) ((j11 s12).bind some)) ?_ (fun j11 Hj11 => ?_)
      · intro s12
        refine es_blk (pc' := 160) (L' := [none, none, none]) (st' := [.int 0]) [(.iconst 0, 0)] (by decide +kernel) rfl rfl ?_
        exact es_ret rfl rfl rfl ⟨by decide +kernel, _, rfl, rfl⟩ (Nat.le_refl _) (Nat.le_refl _)
      refine es_ine (tgt := 159) (off := (14)) (by decide +kernel) (by decide) (fun h13 => ?_) (fun h13 => ?_)
      · refine es_blk (pc' := 149) (L' := [some (.ref 123), some (.int p0), none]) (st' := [.ref 123]) [(.aload_n 0, 0)] (by decide +kernel) rfl rfl ?_
        refine ef_getP (k := 123) (j := 0) (q := 1) rfl eL_10_9 rfl rfl rfl (by decide +kernel) ?_
        refine ef_getP (k := 1) (j := 1) (q := 12) rfl eL_10_82 rfl rfl rfl (by decide +kernel) ?_
        refine es_blk (pc' := 156) (L' := [some (.ref 123), some (.int p0), none]) (st' := [.int (-1), .ref 12]) [(.iconst (-1), (-1))] (by decide +kernel) rfl rfl ?_
        refine ef_veV (d := 2) (k := 12) (As := [.int (-1)]) (st := []) eV_0_givePath eK_10_225 (eS_0_givePath g s10 (-1)) rfl rfl (Nat.le_of_ble_eq_true rfl) rfl (Nat.le_of_ble_eq_true rfl) ⟨Nat.le_of_ble_eq_true rfl, Nat.le_of_ble_eq_true rfl⟩ ⟨Nat.le_refl _, Nat.le_refl _⟩ (by decide +kernel) (fun q14 _ => ?_)
        refine ef_drop (L2 := [none, none, none]) [false, false, true] rfl rfl ?_
        exact Hj11 _
      refine ef_drop (L2 := [none, none, none]) [false, false, true] rfl rfl ?_
      exact Hj11 _
    · refine es_blk (pc' := 83) (L' := [some (.ref 123), some (.int p0), some (.int t7.1)]) (st' := [.int 12, .int t7.1]) [(.iload_n 2, 0), (.bipush 12, 12)] (by decide +kernel) rfl rfl ?_
      refine es_ige (tgt := 121) (off := (38)) (by decide +kernel) (by decide) (fun h17 => ?_) (fun h17 => ?_)
      · refine es_blk (pc' := 87) (L' := [some (.ref 123), some (.int p0), some (.int t7.1)]) (st' := [.ref 123]) [(.aload_n 0, 0)] (by decide +kernel) rfl rfl ?_
        refine ef_getP (k := 123) (j := 0) (q := 1) rfl eL_10_9 rfl rfl rfl (by decide +kernel) ?_
        refine ef_getP (k := 1) (j := 3) (q := 27) rfl eL_10_186 rfl rfl rfl (by decide +kernel) ?_
        refine es_blk (pc' := 94) (L' := [some (.ref 123), some (.int p0), some (.int t7.1)]) (st' := [.int t7.1, .ref 27]) [(.iload_n 2, 0)] (by decide +kernel) rfl rfl ?_
        refine ef_fibres (by decide +kernel) (fun h18 => ?_)
        refine ef_getI (k := (eh_fp t7.1)) (j := 3) (eh_F0sh h18) eL_10_200 (by decide) (by decide +kernel) ?_
        refine es_blk (pc' := 99) (L' := [some (.ref 123), some (.int p0), some (.int t7.1)]) (st' := [.int p0, .int (t7.2.1 (eh_fp t7.1) 3)]) [(.iload_n 1, 0)] (by decide +kernel) rfl rfl ?_
        refine ef_J (X := fun j19 => ∀ (s20 : eh_F), eh_Sim g eM_10_destroy (eh_R 3 0 0) eh_eI 0 0 115 [some (.ref 123), some (.int p0), some (.int t7.1)] [] (eh_FW s20) ((j19 s20).bind K15)) ?_ (fun j19 Hj19 => ?_)
        · intro s20
          refine es_blk (pc' := 118) (L' := [some (.ref 123), some (.int p0), some (.int (t7.1 + 1))]) (st' := []) [(.iinc 2 1, 1)] (by decide +kernel) rfl rfl ?_
          refine ef_V (fun x21 => [some (.ref 123), some (.int p0), some (.int x21)]) (fun _ => []) (fun _ => eh_FW s20) (fun x21 => ?_)
          refine es_goto (tgt := 80) (off := (-38)) (by decide +kernel) (by decide) ?_
          exact Hr16 (x21, s20)
        refine es_ine (tgt := 115) (off := (16)) (by decide +kernel) (by decide) (fun h22 => ?_) (fun h22 => ?_)
        · refine es_blk (pc' := 103) (L' := [some (.ref 123), some (.int p0), some (.int t7.1)]) (st' := [.ref 123]) [(.aload_n 0, 0)] (by decide +kernel) rfl rfl ?_
          refine ef_getP (k := 123) (j := 0) (q := 1) rfl eL_10_9 rfl rfl rfl (by decide +kernel) ?_
          refine ef_getP (k := 1) (j := 3) (q := 27) rfl eL_10_186 rfl rfl rfl (by decide +kernel) ?_
          refine es_blk (pc' := 110) (L' := [some (.ref 123), some (.int p0), some (.int t7.1)]) (st' := [.int t7.1, .ref 27]) [(.iload_n 2, 0)] (by decide +kernel) rfl rfl ?_
          refine ef_fibres (by decide +kernel) (fun h23 => ?_)
          refine es_blk (pc' := 112) (L' := [some (.ref 123), some (.int p0), some (.int t7.1)]) (st' := [.int 0, .ref (eh_fp t7.1)]) [(.iconst 0, 0)] (by decide +kernel) rfl rfl ?_
          refine ef_putI (k := (eh_fp t7.1)) (j := 6) (eh_F0sh h23) eL_10_193 rfl rfl (by decide +kernel) ?_
          refine ef_V (fun _ => [some (.ref 123), some (.int p0), some (.int t7.1)]) (fun _ => []) (fun s24 => eh_FW s24) (fun s24 => ?_)
          exact Hj19 _
        exact Hj19 _
      refine ef_drop (L2 := [some (.ref 123), some (.int p0), none]) [true, true, false] rfl rfl ?_
      exact HxK15_0 t7.2
  · refine es_blk (pc' := 37) (L' := [some (.ref 123), some (.int p0), some (.int t5.1)]) (st' := [.int 12, .int t5.1]) [(.iload_n 2, 0), (.bipush 12, 12)] (by decide +kernel) rfl rfl ?_
    refine es_ige (tgt := 78) (off := (41)) (by decide +kernel) (by decide) (fun h27 => ?_) (fun h27 => ?_)
    · refine es_blk (pc' := 41) (L' := [some (.ref 123), some (.int p0), some (.int t5.1)]) (st' := [.ref 123]) [(.aload_n 0, 0)] (by decide +kernel) rfl rfl ?_
      refine ef_getP (k := 123) (j := 1) (q := 2) rfl eL_10_21 rfl rfl rfl (by decide +kernel) ?_
      refine ef_getP (k := 2) (j := 0) (q := 3) rfl eL_10_213 rfl rfl rfl (by decide +kernel) ?_
      refine es_blk (pc' := 48) (L' := [some (.ref 123), some (.int p0), some (.int t5.1)]) (st' := [.int t5.1, .ref 3]) [(.iload_n 2, 0)] (by decide +kernel) rfl rfl ?_
      refine ef_ald (k := 3) rfl (Or.inl ⟨rfl, rfl⟩) (by decide +kernel) (fun _ => ?_)
      refine ef_J (X := fun j28 => ∀ (s29 : eh_F), eh_Sim g eM_10_destroy (eh_R 3 0 0) eh_eI 0 0 72 [some (.ref 123), some (.int p0), some (.int t5.1)] [] (eh_FW s29) ((j28 s29).bind K25)) ?_ (fun j28 Hj28 => ?_)
      · intro s29
        refine es_blk (pc' := 75) (L' := [some (.ref 123), some (.int p0), some (.int (t5.1 + 1))]) (st' := []) [(.iinc 2 1, 1)] (by decide +kernel) rfl rfl ?_
        refine ef_V (fun x30 => [some (.ref 123), some (.int p0), some (.int x30)]) (fun _ => []) (fun _ => eh_FW s29) (fun x30 => ?_)
        refine es_goto (tgt := 34) (off := (-41)) (by decide +kernel) (by decide) ?_
        exact Hr26 (x30, s29)
      refine es_eq (tgt := 72) (off := (23)) (by decide +kernel) (by decide) (fun h31 => ?_) (fun h31 => ?_)
      · exact Hj28 _
      refine es_blk (pc' := 53) (L' := [some (.ref 123), some (.int p0), some (.int t5.1)]) (st' := [.ref 123]) [(.aload_n 0, 0)] (by decide +kernel) rfl rfl ?_
      refine ef_getP (k := 123) (j := 1) (q := 2) rfl eL_10_21 rfl rfl rfl (by decide +kernel) ?_
      refine es_blk (pc' := 58) (L' := [some (.ref 123), some (.int p0), some (.int t5.1)]) (st' := [.int p0, .int t5.1, .ref 2]) [(.iload_n 2, 0), (.iload_n 1, 0)] (by decide +kernel) rfl rfl ?_
      refine ef_vpI (d := 1) (k := 2) (As := [.int t5.1, .int p0]) (st := []) eV_6_sideOf eK_10_216 (eS_6_sideOf g t5.2 t5.1 p0) rfl rfl (Nat.le_of_ble_eq_true rfl) rfl (Nat.le_of_ble_eq_true rfl) ⟨Nat.le_of_ble_eq_true rfl, Nat.le_of_ble_eq_true rfl⟩ ⟨Nat.le_refl _, Nat.le_refl _⟩ (by decide +kernel) (fun q32 _ => ?_)
      refine es_eq (tgt := 72) (off := (11)) (by decide +kernel) (by decide) (fun h33 => ?_) (fun h33 => ?_)
      · exact Hj28 _
      refine es_blk (pc' := 65) (L' := [some (.ref 123), some (.int p0), some (.int t5.1)]) (st' := [.ref 123]) [(.aload_n 0, 0)] (by decide +kernel) rfl rfl ?_
      refine ef_getP (k := 123) (j := 1) (q := 2) rfl eL_10_21 rfl rfl rfl (by decide +kernel) ?_
      refine es_blk (pc' := 69) (L' := [some (.ref 123), some (.int p0), some (.int t5.1)]) (st' := [.int t5.1, .ref 2]) [(.iload_n 2, 0)] (by decide +kernel) rfl rfl ?_
      refine ef_veV (d := 2) (k := 2) (As := [.int t5.1]) (st := []) eV_6_takeBack eK_10_219 (eS_6_takeBack g t5.2 t5.1) rfl rfl (Nat.le_of_ble_eq_true rfl) rfl (Nat.le_of_ble_eq_true rfl) ⟨Nat.le_of_ble_eq_true rfl, Nat.le_of_ble_eq_true rfl⟩ ⟨Nat.le_refl _, Nat.le_refl _⟩ (by decide +kernel) (fun q34 _ => ?_)
      exact Hj28 _
    refine ef_drop (L2 := [some (.ref 123), some (.int p0), none]) [true, true, false] rfl rfl ?_
    exact HxK25_0 t5.2
def eF_10_drop (s : eh_F) (p0 : Int32) : Option (Int32 × eh_F) := Option.bind (eF_5_hasRegion s p0) (fun q1 => eh_J (fun (u3 : Unit) => some ((-1), s)) (fun j2 => if q1 = 0 then (j2 ()) else (if eh_in p0 12 then if (s.1 3 (eh_ix p0)) = 1 then (j2 ()) else (Option.bind (eF_6_takeBack s p0) (fun q6 => some (0, q6))) else none)))
set_option maxHeartbeats 4000000 in
set_option maxRecDepth 100000 in
theorem eS_10_drop (g : eh_P) (s : eh_F) (p0 : Int32) : eh_Sim g eM_10_drop (eh_R 3 0 0) eh_eI 0 0 0 (eh_en 2 [.ref 123, .int p0]) [] (eh_FW s) (eF_10_drop s p0) := by
  unfold eF_10_drop
  refine ef_top (L := [some (.ref 123), some (.int p0)]) rfl ?_
  refine es_blk (pc' := 1) (L' := [some (.ref 123), some (.int p0)]) (st' := [.ref 123]) [(.aload_n 0, 0)] (by decide +kernel) rfl rfl ?_
  refine ef_getP (k := 123) (j := 0) (q := 1) rfl eL_10_9 rfl rfl rfl (by decide +kernel) ?_
  refine es_blk (pc' := 5) (L' := [some (.ref 123), some (.int p0)]) (st' := [.int p0, .ref 1]) [(.iload_n 1, 0)] (by decide +kernel) rfl rfl ?_
  refine ef_vpI (d := 1) (k := 1) (As := [.int p0]) (st := []) eV_5_hasRegion eK_10_232 (eS_5_hasRegion g s p0) rfl rfl (Nat.le_of_ble_eq_true rfl) rfl (Nat.le_of_ble_eq_true rfl) ⟨Nat.le_of_ble_eq_true rfl, Nat.le_of_ble_eq_true rfl⟩ ⟨Nat.le_refl _, Nat.le_refl _⟩ (by decide +kernel) (fun q1 _ => ?_)
  refine ef_J (X := fun j2 => ∀ (u3 : Unit), eh_Sim g eM_10_drop (eh_R 3 0 0) eh_eI 0 0 24 [none, none] [] (eh_FW s) ((j2 u3).bind some)) ?_ (fun j2 Hj2 => ?_)
  · intro u3
    refine es_blk (pc' := 25) (L' := [none, none]) (st' := [.int (-1)]) [(.iconst (-1), (-1))] (by decide +kernel) rfl rfl ?_
    exact es_ret rfl rfl rfl ⟨by decide +kernel, _, rfl, rfl⟩ (Nat.le_refl _) (Nat.le_refl _)
  refine es_eq (tgt := 24) (off := (16)) (by decide +kernel) (by decide) (fun h4 => ?_) (fun h4 => ?_)
  · refine ef_drop (L2 := [none, none]) [false, false] rfl rfl ?_
    exact Hj2 ()
  refine es_blk (pc' := 12) (L' := [some (.ref 123), some (.int p0)]) (st' := [.ref 123]) [(.aload_n 0, 0)] (by decide +kernel) rfl rfl ?_
  refine ef_getP (k := 123) (j := 1) (q := 2) rfl eL_10_21 rfl rfl rfl (by decide +kernel) ?_
  refine ef_getP (k := 2) (j := 0) (q := 3) rfl eL_10_213 rfl rfl rfl (by decide +kernel) ?_
  refine es_blk (pc' := 19) (L' := [some (.ref 123), some (.int p0)]) (st' := [.int p0, .ref 3]) [(.iload_n 1, 0)] (by decide +kernel) rfl rfl ?_
  refine ef_ald (k := 3) rfl (Or.inl ⟨rfl, rfl⟩) (by decide +kernel) (fun _ => ?_)
  refine es_blk (pc' := 21) (L' := [some (.ref 123), some (.int p0)]) (st' := [.int 1, .int (s.1 3 (eh_ix p0))]) [(.iconst 1, 1)] (by decide +kernel) rfl rfl ?_
  refine es_ine (tgt := 26) (off := (5)) (by decide +kernel) (by decide) (fun h5 => ?_) (fun h5 => ?_)
  · refine ef_drop (L2 := [none, none]) [false, false] rfl rfl ?_
    exact Hj2 ()
  refine es_blk (pc' := 27) (L' := [some (.ref 123), some (.int p0)]) (st' := [.ref 123]) [(.aload_n 0, 0)] (by decide +kernel) rfl rfl ?_
  refine ef_getP (k := 123) (j := 1) (q := 2) rfl eL_10_21 rfl rfl rfl (by decide +kernel) ?_
  refine es_blk (pc' := 31) (L' := [some (.ref 123), some (.int p0)]) (st' := [.int p0, .ref 2]) [(.iload_n 1, 0)] (by decide +kernel) rfl rfl ?_
  refine ef_veV (d := 2) (k := 2) (As := [.int p0]) (st := []) eV_6_takeBack eK_10_219 (eS_6_takeBack g s p0) rfl rfl (Nat.le_of_ble_eq_true rfl) rfl (Nat.le_of_ble_eq_true rfl) ⟨Nat.le_of_ble_eq_true rfl, Nat.le_of_ble_eq_true rfl⟩ ⟨Nat.le_refl _, Nat.le_refl _⟩ (by decide +kernel) (fun q6 _ => ?_)
  refine es_blk (pc' := 35) (L' := [some (.ref 123), some (.int p0)]) (st' := [.int 0]) [(.iconst 0, 0)] (by decide +kernel) rfl rfl ?_
  exact es_ret rfl rfl rfl ⟨by decide +kernel, _, rfl, rfl⟩ (Nat.le_refl _) (Nat.le_refl _)
def eF_11_poke (s : eh_F) (p0 : Int32) (p1 : Int32) (p2 : Int32) (p3 : Int32) (p4 : Int32) (p5 : Int32) : Option (Int32 × eh_F) := eh_J (fun (u2 : Unit) => some ((-1), s)) (fun j1 => if (p0 &&& 3) = 0 then (Option.bind (eF_6_areOpen s p0 20) (fun q4 => if q4 = 0 then (j1 ()) else (Option.bind (eF_6_store s p0 p1 4) (fun q6 => Option.bind (eF_6_store q6 (p0 + 4) p2 4) (fun q7 => Option.bind (eF_6_store q7 (p0 + 8) p3 4) (fun q8 => Option.bind (eF_6_store q8 (p0 + 12) p4 4) (fun q9 => Option.bind (eF_6_store q9 (p0 + 16) p5 4) (fun q10 => some (0, q10))))))))) else (j1 ()))
set_option maxHeartbeats 4000000 in
set_option maxRecDepth 100000 in
theorem eS_11_poke (g : eh_P) (s : eh_F) (p0 : Int32) (p1 : Int32) (p2 : Int32) (p3 : Int32) (p4 : Int32) (p5 : Int32) : eh_Sim g eM_11_poke (eh_R 3 0 0) eh_eI 0 0 0 (eh_en 7 [.ref 0, .int p0, .int p1, .int p2, .int p3, .int p4, .int p5]) [] (eh_FW s) (eF_11_poke s p0 p1 p2 p3 p4 p5) := by
  unfold eF_11_poke
  refine ef_top (L := [some (.ref 0), some (.int p0), some (.int p1), some (.int p2), some (.int p3), some (.int p4), some (.int p5)]) rfl ?_
  refine es_blk (pc' := 3) (L' := [some (.ref 0), some (.int p0), some (.int p1), some (.int p2), some (.int p3), some (.int p4), some (.int p5)]) (st' := [.int (p0 &&& 3)]) [(.iload_n 1, 0), (.iconst 3, 3), (.iand, 0)] (by decide +kernel) rfl rfl ?_
  refine ef_J (X := fun j1 => ∀ (u2 : Unit), eh_Sim g eM_11_poke (eh_R 3 0 0) eh_eI 0 0 22 [none, none, none, none, none, none, none] [] (eh_FW s) ((j1 u2).bind some)) ?_ (fun j1 Hj1 => ?_)
  · intro u2
    refine es_blk (pc' := 23) (L' := [none, none, none, none, none, none, none]) (st' := [.int (-1)]) [(.iconst (-1), (-1))] (by decide +kernel) rfl rfl ?_
    exact es_ret rfl rfl rfl ⟨by decide +kernel, _, rfl, rfl⟩ (Nat.le_refl _) (Nat.le_refl _)
  refine es_ne (tgt := 22) (off := (19)) (by decide +kernel) (by decide) (fun h3 => ?_) (fun h3 => ?_)
  · refine es_blk (pc' := 7) (L' := [some (.ref 0), some (.int p0), some (.int p1), some (.int p2), some (.int p3), some (.int p4), some (.int p5)]) (st' := [.ref 0]) [(.aload_n 0, 0)] (by decide +kernel) rfl rfl ?_
    refine ef_getP (k := 0) (j := 0) (q := 1) rfl eL_11_12 rfl rfl rfl (by decide +kernel) ?_
    refine ef_getP (k := 1) (j := 0) (q := 2) rfl eL_11_43 rfl rfl rfl (by decide +kernel) ?_
    refine es_blk (pc' := 16) (L' := [some (.ref 0), some (.int p0), some (.int p1), some (.int p2), some (.int p3), some (.int p4), some (.int p5)]) (st' := [.int 20, .int p0, .ref 2]) [(.iload_n 1, 0), (.bipush 20, 20)] (by decide +kernel) rfl rfl ?_
    refine ef_vpI (d := 2) (k := 2) (As := [.int p0, .int 20]) (st := []) eV_6_areOpen eK_11_47 (eS_6_areOpen g s p0 20) rfl rfl (Nat.le_of_ble_eq_true rfl) rfl (Nat.le_of_ble_eq_true rfl) ⟨Nat.le_of_ble_eq_true rfl, Nat.le_of_ble_eq_true rfl⟩ ⟨Nat.le_refl _, Nat.le_refl _⟩ (by decide +kernel) (fun q4 _ => ?_)
    refine es_ne (tgt := 24) (off := (5)) (by decide +kernel) (by decide) (fun h5 => ?_) (fun h5 => ?_)
    · refine ef_drop (L2 := [none, none, none, none, none, none, none]) [false, false, false, false, false, false, false] rfl rfl ?_
      exact Hj1 ()
    refine es_blk (pc' := 25) (L' := [some (.ref 0), some (.int p0), some (.int p1), some (.int p2), some (.int p3), some (.int p4), some (.int p5)]) (st' := [.ref 0]) [(.aload_n 0, 0)] (by decide +kernel) rfl rfl ?_
    refine ef_getP (k := 0) (j := 0) (q := 1) rfl eL_11_12 rfl rfl rfl (by decide +kernel) ?_
    refine ef_getP (k := 1) (j := 0) (q := 2) rfl eL_11_43 rfl rfl rfl (by decide +kernel) ?_
    refine es_blk (pc' := 34) (L' := [some (.ref 0), some (.int p0), some (.int p1), some (.int p2), some (.int p3), some (.int p4), some (.int p5)]) (st' := [.int 4, .int p1, .int p0, .ref 2]) [(.iload_n 1, 0), (.iload_n 2, 0), (.iconst 4, 4)] (by decide +kernel) rfl rfl ?_
    refine ef_veV (d := 2) (k := 2) (As := [.int p0, .int p1, .int 4]) (st := []) eV_6_store eK_11_53 (eS_6_store g s p0 p1 4) rfl rfl (Nat.le_of_ble_eq_true rfl) rfl (Nat.le_of_ble_eq_true rfl) ⟨Nat.le_of_ble_eq_true rfl, Nat.le_of_ble_eq_true rfl⟩ ⟨Nat.le_refl _, Nat.le_refl _⟩ (by decide +kernel) (fun q6 _ => ?_)
    refine es_blk (pc' := 38) (L' := [some (.ref 0), some (.int p0), some (.int p1), some (.int p2), some (.int p3), some (.int p4), some (.int p5)]) (st' := [.ref 0]) [(.aload_n 0, 0)] (by decide +kernel) rfl rfl ?_
    refine ef_getP (k := 0) (j := 0) (q := 1) rfl eL_11_12 rfl rfl rfl (by decide +kernel) ?_
    refine ef_getP (k := 1) (j := 0) (q := 2) rfl eL_11_43 rfl rfl rfl (by decide +kernel) ?_
    refine es_blk (pc' := 49) (L' := [some (.ref 0), some (.int p0), some (.int p1), some (.int p2), some (.int p3), some (.int p4), some (.int p5)]) (st' := [.int 4, .int p2, .int (p0 + 4), .ref 2]) [(.iload_n 1, 0), (.iconst 4, 4), (.iadd, 0), (.iload_n 3, 0), (.iconst 4, 4)] (by decide +kernel) rfl rfl ?_
    refine ef_veV (d := 2) (k := 2) (As := [.int (p0 + 4), .int p2, .int 4]) (st := []) eV_6_store eK_11_53 (eS_6_store g q6 (p0 + 4) p2 4) rfl rfl (Nat.le_of_ble_eq_true rfl) rfl (Nat.le_of_ble_eq_true rfl) ⟨Nat.le_of_ble_eq_true rfl, Nat.le_of_ble_eq_true rfl⟩ ⟨Nat.le_refl _, Nat.le_refl _⟩ (by decide +kernel) (fun q7 _ => ?_)
    refine es_blk (pc' := 53) (L' := [some (.ref 0), some (.int p0), some (.int p1), some (.int p2), some (.int p3), some (.int p4), some (.int p5)]) (st' := [.ref 0]) [(.aload_n 0, 0)] (by decide +kernel) rfl rfl ?_
    refine ef_getP (k := 0) (j := 0) (q := 1) rfl eL_11_12 rfl rfl rfl (by decide +kernel) ?_
    refine ef_getP (k := 1) (j := 0) (q := 2) rfl eL_11_43 rfl rfl rfl (by decide +kernel) ?_
    refine es_blk (pc' := 66) (L' := [some (.ref 0), some (.int p0), some (.int p1), some (.int p2), some (.int p3), some (.int p4), some (.int p5)]) (st' := [.int 4, .int p3, .int (p0 + 8), .ref 2]) [(.iload_n 1, 0), (.bipush 8, 8), (.iadd, 0), (.iload 4, 0), (.iconst 4, 4)] (by decide +kernel) rfl rfl ?_
    refine ef_veV (d := 2) (k := 2) (As := [.int (p0 + 8), .int p3, .int 4]) (st := []) eV_6_store eK_11_53 (eS_6_store g q7 (p0 + 8) p3 4) rfl rfl (Nat.le_of_ble_eq_true rfl) rfl (Nat.le_of_ble_eq_true rfl) ⟨Nat.le_of_ble_eq_true rfl, Nat.le_of_ble_eq_true rfl⟩ ⟨Nat.le_refl _, Nat.le_refl _⟩ (by decide +kernel) (fun q8 _ => ?_)
    refine es_blk (pc' := 70) (L' := [some (.ref 0), some (.int p0), some (.int p1), some (.int p2), some (.int p3), some (.int p4), some (.int p5)]) (st' := [.ref 0]) [(.aload_n 0, 0)] (by decide +kernel) rfl rfl ?_
    refine ef_getP (k := 0) (j := 0) (q := 1) rfl eL_11_12 rfl rfl rfl (by decide +kernel) ?_
    refine ef_getP (k := 1) (j := 0) (q := 2) rfl eL_11_43 rfl rfl rfl (by decide +kernel) ?_
    refine es_blk (pc' := 83) (L' := [some (.ref 0), some (.int p0), some (.int p1), some (.int p2), some (.int p3), some (.int p4), some (.int p5)]) (st' := [.int 4, .int p4, .int (p0 + 12), .ref 2]) [(.iload_n 1, 0), (.bipush 12, 12), (.iadd, 0), (.iload 5, 0), (.iconst 4, 4)] (by decide +kernel) rfl rfl ?_
    refine ef_veV (d := 2) (k := 2) (As := [.int (p0 + 12), .int p4, .int 4]) (st := []) eV_6_store eK_11_53 (eS_6_store g q8 (p0 + 12) p4 4) rfl rfl (Nat.le_of_ble_eq_true rfl) rfl (Nat.le_of_ble_eq_true rfl) ⟨Nat.le_of_ble_eq_true rfl, Nat.le_of_ble_eq_true rfl⟩ ⟨Nat.le_refl _, Nat.le_refl _⟩ (by decide +kernel) (fun q9 _ => ?_)
    refine es_blk (pc' := 87) (L' := [some (.ref 0), some (.int p0), some (.int p1), some (.int p2), some (.int p3), some (.int p4), some (.int p5)]) (st' := [.ref 0]) [(.aload_n 0, 0)] (by decide +kernel) rfl rfl ?_
    refine ef_getP (k := 0) (j := 0) (q := 1) rfl eL_11_12 rfl rfl rfl (by decide +kernel) ?_
    refine ef_getP (k := 1) (j := 0) (q := 2) rfl eL_11_43 rfl rfl rfl (by decide +kernel) ?_
    refine es_blk (pc' := 100) (L' := [some (.ref 0), some (.int p0), some (.int p1), some (.int p2), some (.int p3), some (.int p4), some (.int p5)]) (st' := [.int 4, .int p5, .int (p0 + 16), .ref 2]) [(.iload_n 1, 0), (.bipush 16, 16), (.iadd, 0), (.iload 6, 0), (.iconst 4, 4)] (by decide +kernel) rfl rfl ?_
    refine ef_veV (d := 2) (k := 2) (As := [.int (p0 + 16), .int p5, .int 4]) (st := []) eV_6_store eK_11_53 (eS_6_store g q9 (p0 + 16) p5 4) rfl rfl (Nat.le_of_ble_eq_true rfl) rfl (Nat.le_of_ble_eq_true rfl) ⟨Nat.le_of_ble_eq_true rfl, Nat.le_of_ble_eq_true rfl⟩ ⟨Nat.le_refl _, Nat.le_refl _⟩ (by decide +kernel) (fun q10 _ => ?_)
    refine es_blk (pc' := 104) (L' := [some (.ref 0), some (.int p0), some (.int p1), some (.int p2), some (.int p3), some (.int p4), some (.int p5)]) (st' := [.int 0]) [(.iconst 0, 0)] (by decide +kernel) rfl rfl ?_
    exact es_ret rfl rfl rfl ⟨by decide +kernel, _, rfl, rfl⟩ (Nat.le_refl _) (Nat.le_refl _)
  refine ef_drop (L2 := [none, none, none, none, none, none, none]) [false, false, false, false, false, false, false] rfl rfl ?_
  exact Hj1 ()
def eF_11_secret (s : eh_F) (p0 : Int32) (p1 : Int32) (p2 : Int32) : Option (Int32 × eh_F) := Option.bind (eF_5_hasEnclave s p0) (fun q1 => eh_J (fun (u3 : Unit) => some ((-1), s)) (fun j2 => if q1 = 0 then (j2 ()) else (if p1 < 0 then (j2 ()) else (Option.bind (eF_5_sizeOf s p0) (fun q6 => if p1 < q6 then (eh_J (fun (u9 : Unit) => some ((-1), s)) (fun j8 => if p2 < 0 then (j8 ()) else (if 255 < p2 then (j8 ()) else (Option.bind (eF_5_baseOf s p0) (fun q12 => eh_V ((q12 + p1) : Int32) (fun x13 => Option.bind (eF_6_byteAt s x13) (fun q14 => Option.bind (eF_6_change s x13 p2 1) (fun q15 => some (q14, q15))))))))) else (j2 ()))))))
set_option maxHeartbeats 4000000 in
set_option maxRecDepth 100000 in
theorem eS_11_secret (g : eh_P) (s : eh_F) (p0 : Int32) (p1 : Int32) (p2 : Int32) : eh_Sim g eM_11_secret (eh_R 3 0 0) eh_eI 0 0 0 (eh_en 6 [.ref 0, .int p0, .int p1, .int p2]) [] (eh_FW s) (eF_11_secret s p0 p1 p2) := by
  unfold eF_11_secret
  refine ef_top (L := [some (.ref 0), some (.int p0), some (.int p1), some (.int p2), none, none]) rfl ?_
  refine es_blk (pc' := 1) (L' := [some (.ref 0), some (.int p0), some (.int p1), some (.int p2), none, none]) (st' := [.ref 0]) [(.aload_n 0, 0)] (by decide +kernel) rfl rfl ?_
  refine ef_getP (k := 0) (j := 0) (q := 1) rfl eL_11_12 rfl rfl rfl (by decide +kernel) ?_
  refine es_blk (pc' := 5) (L' := [some (.ref 0), some (.int p0), some (.int p1), some (.int p2), none, none]) (st' := [.int p0, .ref 1]) [(.iload_n 1, 0)] (by decide +kernel) rfl rfl ?_
  refine ef_vpI (d := 1) (k := 1) (As := [.int p0]) (st := []) eV_5_hasEnclave eK_11_65 (eS_5_hasEnclave g s p0) rfl rfl (Nat.le_of_ble_eq_true rfl) rfl (Nat.le_of_ble_eq_true rfl) ⟨Nat.le_of_ble_eq_true rfl, Nat.le_of_ble_eq_true rfl⟩ ⟨Nat.le_refl _, Nat.le_refl _⟩ (by decide +kernel) (fun q1 _ => ?_)
  refine ef_J (X := fun j2 => ∀ (u3 : Unit), eh_Sim g eM_11_secret (eh_R 3 0 0) eh_eI 0 0 27 [none, none, none, none, none, none] [] (eh_FW s) ((j2 u3).bind some)) ?_ (fun j2 Hj2 => ?_)
  · intro u3
    refine es_blk (pc' := 28) (L' := [none, none, none, none, none, none]) (st' := [.int (-1)]) [(.iconst (-1), (-1))] (by decide +kernel) rfl rfl ?_
    exact es_ret rfl rfl rfl ⟨by decide +kernel, _, rfl, rfl⟩ (Nat.le_refl _) (Nat.le_refl _)
  refine es_eq (tgt := 27) (off := (19)) (by decide +kernel) (by decide) (fun h4 => ?_) (fun h4 => ?_)
  · refine ef_drop (L2 := [none, none, none, none, none, none]) [false, false, false, false, true, true] rfl rfl ?_
    exact Hj2 ()
  refine es_blk (pc' := 12) (L' := [some (.ref 0), some (.int p0), some (.int p1), some (.int p2), none, none]) (st' := [.int p1]) [(.iload_n 2, 0)] (by decide +kernel) rfl rfl ?_
  refine es_lt (tgt := 27) (off := (15)) (by decide +kernel) (by decide) (fun h5 => ?_) (fun h5 => ?_)
  · refine ef_drop (L2 := [none, none, none, none, none, none]) [false, false, false, false, true, true] rfl rfl ?_
    exact Hj2 ()
  refine es_blk (pc' := 17) (L' := [some (.ref 0), some (.int p0), some (.int p1), some (.int p2), none, none]) (st' := [.ref 0, .int p1]) [(.iload_n 2, 0), (.aload_n 0, 0)] (by decide +kernel) rfl rfl ?_
  refine ef_getP (k := 0) (j := 0) (q := 1) rfl eL_11_12 rfl rfl rfl (by decide +kernel) ?_
  refine es_blk (pc' := 21) (L' := [some (.ref 0), some (.int p0), some (.int p1), some (.int p2), none, none]) (st' := [.int p0, .ref 1, .int p1]) [(.iload_n 1, 0)] (by decide +kernel) rfl rfl ?_
  refine ef_vpI (d := 1) (k := 1) (As := [.int p0]) (st := [.int p1]) eV_5_sizeOf eK_11_69 (eS_5_sizeOf g s p0) rfl rfl (Nat.le_of_ble_eq_true rfl) rfl (Nat.le_of_ble_eq_true rfl) ⟨Nat.le_of_ble_eq_true rfl, Nat.le_of_ble_eq_true rfl⟩ ⟨Nat.le_refl _, Nat.le_refl _⟩ (by decide +kernel) (fun q6 _ => ?_)
  refine es_ilt (tgt := 29) (off := (5)) (by decide +kernel) (by decide) (fun h7 => ?_) (fun h7 => ?_)
  · refine es_blk (pc' := 30) (L' := [some (.ref 0), some (.int p0), some (.int p1), some (.int p2), none, none]) (st' := [.int p2]) [(.iload_n 3, 0)] (by decide +kernel) rfl rfl ?_
    refine ef_J (X := fun j8 => ∀ (u9 : Unit), eh_Sim g eM_11_secret (eh_R 3 0 0) eh_eI 0 0 40 [none, none, none, none, none, none] [] (eh_FW s) ((j8 u9).bind some)) ?_ (fun j8 Hj8 => ?_)
    · intro u9
      refine es_blk (pc' := 41) (L' := [none, none, none, none, none, none]) (st' := [.int (-1)]) [(.iconst (-1), (-1))] (by decide +kernel) rfl rfl ?_
      exact es_ret rfl rfl rfl ⟨by decide +kernel, _, rfl, rfl⟩ (Nat.le_refl _) (Nat.le_refl _)
    refine es_lt (tgt := 40) (off := (10)) (by decide +kernel) (by decide) (fun h10 => ?_) (fun h10 => ?_)
    · refine ef_drop (L2 := [none, none, none, none, none, none]) [false, false, false, false, true, true] rfl rfl ?_
      exact Hj8 ()
    refine es_blk (pc' := 37) (L' := [some (.ref 0), some (.int p0), some (.int p1), some (.int p2), none, none]) (st' := [.int 255, .int p2]) [(.iload_n 3, 0), (.sipush 255, 255)] (by decide +kernel) rfl rfl ?_
    refine es_ile (tgt := 42) (off := (5)) (by decide +kernel) (by decide) (fun h11 => ?_) (fun h11 => ?_)
    · refine ef_drop (L2 := [none, none, none, none, none, none]) [false, false, false, false, true, true] rfl rfl ?_
      exact Hj8 ()
    refine es_blk (pc' := 43) (L' := [some (.ref 0), some (.int p0), some (.int p1), some (.int p2), none, none]) (st' := [.ref 0]) [(.aload_n 0, 0)] (by decide +kernel) rfl rfl ?_
    refine ef_getP (k := 0) (j := 0) (q := 1) rfl eL_11_12 rfl rfl rfl (by decide +kernel) ?_
    refine es_blk (pc' := 47) (L' := [some (.ref 0), some (.int p0), some (.int p1), some (.int p2), none, none]) (st' := [.int p0, .ref 1]) [(.iload_n 1, 0)] (by decide +kernel) rfl rfl ?_
    refine ef_vpI (d := 1) (k := 1) (As := [.int p0]) (st := []) eV_5_baseOf eK_11_72 (eS_5_baseOf g s p0) rfl rfl (Nat.le_of_ble_eq_true rfl) rfl (Nat.le_of_ble_eq_true rfl) ⟨Nat.le_of_ble_eq_true rfl, Nat.le_of_ble_eq_true rfl⟩ ⟨Nat.le_refl _, Nat.le_refl _⟩ (by decide +kernel) (fun q12 _ => ?_)
    refine es_blk (pc' := 54) (L' := [some (.ref 0), some (.int p0), some (.int p1), some (.int p2), some (.int (q12 + p1)), none]) (st' := []) [(.iload_n 2, 0), (.iadd, 0), (.istore 4, 0)] (by decide +kernel) rfl rfl ?_
    refine ef_V (fun x13 => [some (.ref 0), some (.int p0), some (.int p1), some (.int p2), some (.int x13), none]) (fun _ => []) (fun _ => eh_FW s) (fun x13 => ?_)
    refine es_blk (pc' := 55) (L' := [some (.ref 0), some (.int p0), some (.int p1), some (.int p2), some (.int x13), none]) (st' := [.ref 0]) [(.aload_n 0, 0)] (by decide +kernel) rfl rfl ?_
    refine ef_getP (k := 0) (j := 0) (q := 1) rfl eL_11_12 rfl rfl rfl (by decide +kernel) ?_
    refine ef_getP (k := 1) (j := 0) (q := 2) rfl eL_11_43 rfl rfl rfl (by decide +kernel) ?_
    refine es_blk (pc' := 63) (L' := [some (.ref 0), some (.int p0), some (.int p1), some (.int p2), some (.int x13), none]) (st' := [.int x13, .ref 2]) [(.iload 4, 0)] (by decide +kernel) rfl rfl ?_
    refine ef_vpI (d := 2) (k := 2) (As := [.int x13]) (st := []) eV_6_byteAt eK_11_75 (eS_6_byteAt g s x13) rfl rfl (Nat.le_of_ble_eq_true rfl) rfl (Nat.le_of_ble_eq_true rfl) ⟨Nat.le_of_ble_eq_true rfl, Nat.le_of_ble_eq_true rfl⟩ ⟨Nat.le_refl _, Nat.le_refl _⟩ (by decide +kernel) (fun q14 _ => ?_)
    refine es_blk (pc' := 69) (L' := [some (.ref 0), some (.int p0), some (.int p1), some (.int p2), some (.int x13), some (.int q14)]) (st' := [.ref 0]) [(.istore 5, 0), (.aload_n 0, 0)] (by decide +kernel) rfl rfl ?_
    refine ef_getP (k := 0) (j := 0) (q := 1) rfl eL_11_12 rfl rfl rfl (by decide +kernel) ?_
    refine ef_getP (k := 1) (j := 0) (q := 2) rfl eL_11_43 rfl rfl rfl (by decide +kernel) ?_
    refine es_blk (pc' := 79) (L' := [some (.ref 0), some (.int p0), some (.int p1), some (.int p2), some (.int x13), some (.int q14)]) (st' := [.int 1, .int p2, .int x13, .ref 2]) [(.iload 4, 0), (.iload_n 3, 0), (.iconst 1, 1)] (by decide +kernel) rfl rfl ?_
    refine ef_veV (d := 1) (k := 2) (As := [.int x13, .int p2, .int 1]) (st := []) eV_6_change eK_11_78 (eS_6_change g s x13 p2 1) rfl rfl (Nat.le_of_ble_eq_true rfl) rfl (Nat.le_of_ble_eq_true rfl) ⟨Nat.le_of_ble_eq_true rfl, Nat.le_of_ble_eq_true rfl⟩ ⟨Nat.le_refl _, Nat.le_refl _⟩ (by decide +kernel) (fun q15 _ => ?_)
    refine es_blk (pc' := 84) (L' := [some (.ref 0), some (.int p0), some (.int p1), some (.int p2), some (.int x13), some (.int q14)]) (st' := [.int q14]) [(.iload 5, 0)] (by decide +kernel) rfl rfl ?_
    exact es_ret rfl rfl rfl ⟨by decide +kernel, _, rfl, rfl⟩ (Nat.le_refl _) (Nat.le_refl _)
  refine ef_drop (L2 := [none, none, none, none, none, none]) [false, false, false, false, true, true] rfl rfl ?_
  exact Hj2 ()
def eF_11_setRegister (s : eh_F) (p0 : Int32) (p1 : Int32) (p2 : Int32) : Option (Int32 × eh_F) := Option.bind (eF_11_registerOrZero s p0 p1) (fun q1 => Option.bind (eF_11_isHart s p0) (fun q2 => eh_J (fun (s4 : eh_F) => some (q1, s4)) (fun j3 => if q2 = 0 then (j3 s) else (if 0 < p1 then (if p1 < 32 then (if eh_in p0 2 then if eh_in p1 32 then eh_V (eh_tI s ((eh_hp p0) + 1) (eh_ix p1) p2) (fun s9 => j3 s9) else none else none) else (j3 s)) else (j3 s)))))
set_option maxHeartbeats 4000000 in
set_option maxRecDepth 100000 in
theorem eS_11_setRegister (g : eh_P) (s : eh_F) (p0 : Int32) (p1 : Int32) (p2 : Int32) : eh_Sim g eM_11_setRegister (eh_R 3 0 0) eh_eI 0 0 0 (eh_en 5 [.ref 0, .int p0, .int p1, .int p2]) [] (eh_FW s) (eF_11_setRegister s p0 p1 p2) := by
  unfold eF_11_setRegister
  refine ef_top (L := [some (.ref 0), some (.int p0), some (.int p1), some (.int p2), none]) rfl ?_
  refine es_blk (pc' := 3) (L' := [some (.ref 0), some (.int p0), some (.int p1), some (.int p2), none]) (st' := [.int p1, .int p0, .ref 0]) [(.aload_n 0, 0), (.iload_n 1, 0), (.iload_n 2, 0)] (by decide +kernel) rfl rfl ?_
  refine ef_vpI (d := 2) (k := 0) (As := [.int p0, .int p1]) (st := []) eV_11_registerOrZero eK_11_81 (eS_11_registerOrZero g s p0 p1) rfl rfl (Nat.le_of_ble_eq_true rfl) rfl (Nat.le_of_ble_eq_true rfl) ⟨Nat.le_of_ble_eq_true rfl, Nat.le_of_ble_eq_true rfl⟩ ⟨Nat.le_refl _, Nat.le_refl _⟩ (by decide +kernel) (fun q1 _ => ?_)
  refine es_blk (pc' := 9) (L' := [some (.ref 0), some (.int p0), some (.int p1), some (.int p2), some (.int q1)]) (st' := [.int p0]) [(.istore 4, 0), (.iload_n 1, 0)] (by decide +kernel) rfl rfl ?_
  refine ef_spI (d := 1) (As := [.int p0]) (st := []) eV_11_isHart eK_11_85 (eS_11_isHart g s p0) rfl (Nat.le_of_ble_eq_true rfl) rfl (Nat.le_of_ble_eq_true rfl) ⟨Nat.le_of_ble_eq_true rfl, Nat.le_of_ble_eq_true rfl⟩ ⟨Nat.le_refl _, Nat.le_refl _⟩ (by decide +kernel) (fun q2 _ => ?_)
  refine ef_J (X := fun j3 => ∀ (s4 : eh_F), eh_Sim g eM_11_setRegister (eh_R 3 0 0) eh_eI 0 0 40 [none, none, none, none, some (.int q1)] [] (eh_FW s4) ((j3 s4).bind some)) ?_ (fun j3 Hj3 => ?_)
  · intro s4
    refine es_blk (pc' := 42) (L' := [none, none, none, none, some (.int q1)]) (st' := [.int q1]) [(.iload 4, 0)] (by decide +kernel) rfl rfl ?_
    exact es_ret rfl rfl rfl ⟨by decide +kernel, _, rfl, rfl⟩ (Nat.le_refl _) (Nat.le_refl _)
  refine es_eq (tgt := 40) (off := (28)) (by decide +kernel) (by decide) (fun h5 => ?_) (fun h5 => ?_)
  · refine ef_drop (L2 := [none, none, none, none, some (.int q1)]) [false, false, false, false, true] rfl rfl ?_
    exact Hj3 _
  refine es_blk (pc' := 16) (L' := [some (.ref 0), some (.int p0), some (.int p1), some (.int p2), some (.int q1)]) (st' := [.int p1]) [(.iload_n 2, 0)] (by decide +kernel) rfl rfl ?_
  refine es_le (tgt := 40) (off := (24)) (by decide +kernel) (by decide) (fun h6 => ?_) (fun h6 => ?_)
  · refine es_blk (pc' := 22) (L' := [some (.ref 0), some (.int p0), some (.int p1), some (.int p2), some (.int q1)]) (st' := [.int 32, .int p1]) [(.iload_n 2, 0), (.bipush 32, 32)] (by decide +kernel) rfl rfl ?_
    refine es_ige (tgt := 40) (off := (18)) (by decide +kernel) (by decide) (fun h7 => ?_) (fun h7 => ?_)
    · refine es_blk (pc' := 26) (L' := [some (.ref 0), some (.int p0), some (.int p1), some (.int p2), some (.int q1)]) (st' := [.ref 0]) [(.aload_n 0, 0)] (by decide +kernel) rfl rfl ?_
      refine ef_getP (k := 0) (j := 0) (q := 1) rfl eL_11_12 rfl rfl rfl (by decide +kernel) ?_
      refine ef_getP (k := 1) (j := 2) (q := 26) rfl eL_11_88 rfl rfl rfl (by decide +kernel) ?_
      refine es_blk (pc' := 33) (L' := [some (.ref 0), some (.int p0), some (.int p1), some (.int p2), some (.int q1)]) (st' := [.int p0, .ref 26]) [(.iload_n 1, 0)] (by decide +kernel) rfl rfl ?_
      refine ef_harts (by decide +kernel) (fun h8 => ?_)
      refine ef_getP (k := (eh_hp p0)) (j := 1) (q := ((eh_hp p0) + 1)) (eh_H0sh h8) eL_11_92 rfl (eh_Hx h8 _) (eh_H1sh h8) (by decide +kernel) ?_
      refine es_blk (pc' := 39) (L' := [some (.ref 0), some (.int p0), some (.int p1), some (.int p2), some (.int q1)]) (st' := [.int p2, .int p1, .ref ((eh_hp p0) + 1)]) [(.iload_n 2, 0), (.iload_n 3, 0)] (by decide +kernel) rfl rfl ?_
      refine ef_ast (k := ((eh_hp p0) + 1)) (eh_H1sh h8) (by decide +kernel) (fun _ => ?_)
      refine ef_V (fun _ => [some (.ref 0), some (.int p0), some (.int p1), some (.int p2), some (.int q1)]) (fun _ => []) (fun s9 => eh_FW s9) (fun s9 => ?_)
      refine ef_drop (L2 := [none, none, none, none, some (.int q1)]) [false, false, false, false, true] rfl rfl ?_
      exact Hj3 _
    refine ef_drop (L2 := [none, none, none, none, some (.int q1)]) [false, false, false, false, true] rfl rfl ?_
    exact Hj3 _
  refine ef_drop (L2 := [none, none, none, none, some (.int q1)]) [false, false, false, false, true] rfl rfl ?_
  exact Hj3 _
def eF_11_register (s : eh_F) (p0 : Int32) (p1 : Int32) : Option (Int32) := Option.bind (eF_11_registerOrZero s p0 p1) (fun q1 => some q1)
set_option maxHeartbeats 4000000 in
set_option maxRecDepth 100000 in
theorem eS_11_register (g : eh_P) (s : eh_F) (p0 : Int32) (p1 : Int32) : eh_Sim g eM_11_register (eh_R 3 0 0) (eh_pI s) 0 0 0 (eh_en 3 [.ref 0, .int p0, .int p1]) [] (eh_FW s) (eF_11_register s p0 p1) := by
  unfold eF_11_register
  refine ef_top (L := [some (.ref 0), some (.int p0), some (.int p1)]) rfl ?_
  refine es_blk (pc' := 3) (L' := [some (.ref 0), some (.int p0), some (.int p1)]) (st' := [.int p1, .int p0, .ref 0]) [(.aload_n 0, 0), (.iload_n 1, 0), (.iload_n 2, 0)] (by decide +kernel) rfl rfl ?_
  refine ef_vpI (d := 2) (k := 0) (As := [.int p0, .int p1]) (st := []) eV_11_registerOrZero eK_11_81 (eS_11_registerOrZero g s p0 p1) rfl rfl (Nat.le_of_ble_eq_true rfl) rfl (Nat.le_of_ble_eq_true rfl) ⟨Nat.le_of_ble_eq_true rfl, Nat.le_of_ble_eq_true rfl⟩ ⟨Nat.le_refl _, Nat.le_refl _⟩ (by decide +kernel) (fun q1 _ => ?_)
  exact es_ret rfl rfl rfl ⟨by decide +kernel, _, rfl, rfl⟩ (Nat.le_refl _) (Nat.le_refl _)
def eF_12_add (s : eh_F) (p0 : Int32) (p1 : Int32) : Option (eh_F) := if eh_in p0 8 then if eh_in ((64 * p0) + (((s.2.1 190 (eh_ix p0)) &&& 63).toInt32)) 512 then eh_V (eh_tI s 189 (eh_ix ((64 * p0) + (((s.2.1 190 (eh_ix p0)) &&& 63).toInt32))) (eh_nb (eh_nb p1))) (fun s1 => if eh_in p0 8 then if eh_in p0 8 then eh_V (eh_tJ s1 190 (eh_ix p0) ((s1.2.1 190 (eh_ix p0)) + 1)) (fun s2 => if eh_in p0 8 then eh_J (fun (s4 : eh_F) => some s4) (fun j3 => if (lg_cmp ((s2.2.1 190 (eh_ix p0)) &&& 63) 0) = 0 then (Option.bind (eF_12_block s2 p0) (fun q6 => j3 q6)) else (j3 s2)) else none) else none else none) else none else none
set_option maxHeartbeats 4000000 in
set_option maxRecDepth 100000 in
theorem eS_12_add (g : eh_P) (s : eh_F) (p0 : Int32) (p1 : Int32) : eh_Sim g eM_12_add (eh_R 3 0 0) eh_eV 0 0 0 (eh_en 3 [.ref 127, .int p0, .int p1]) [] (eh_FW s) (eF_12_add s p0 p1) := by
  unfold eF_12_add
  refine ef_top (L := [some (.ref 127), some (.int p0), some (.int p1)]) rfl ?_
  refine es_blk (pc' := 1) (L' := [some (.ref 127), some (.int p0), some (.int p1)]) (st' := [.ref 127]) [(.aload_n 0, 0)] (by decide +kernel) rfl rfl ?_
  refine ef_getP (k := 127) (j := 75) (q := 189) rfl eL_12_196 rfl rfl rfl (by decide +kernel) ?_
  refine es_blk (pc' := 9) (L' := [some (.ref 127), some (.int p0), some (.int p1)]) (st' := [.ref 127, .int (64 * p0), .ref 189]) [(.bipush 64, 64), (.iload_n 1, 0), (.imul, 0), (.aload_n 0, 0)] (by decide +kernel) rfl rfl ?_
  refine ef_getP (k := 127) (j := 76) (q := 190) rfl eL_12_199 rfl rfl rfl (by decide +kernel) ?_
  refine es_blk (pc' := 13) (L' := [some (.ref 127), some (.int p0), some (.int p1)]) (st' := [.int p0, .ref 190, .int (64 * p0), .ref 189]) [(.iload_n 1, 0)] (by decide +kernel) rfl rfl ?_
  refine ef_aldJ (k := 190) rfl (by decide +kernel) (fun _ => ?_)
  refine es_ldc2 (v := 63) eC_12_237 (by decide +kernel) ?_
  refine es_blk (pc' := 22) (L' := [some (.ref 127), some (.int p0), some (.int p1)]) (st' := [.int (eh_nb p1), .int ((64 * p0) + (((s.2.1 190 (eh_ix p0)) &&& 63).toInt32)), .ref 189]) [(.land, 0), (.l2i, 0), (.iadd, 0), (.iload_n 2, 0), (.i2b, 0)] (by decide +kernel) rfl rfl ?_
  refine ef_astB (k := 189) rfl (by decide +kernel) (fun _ => ?_)
  refine ef_V (fun _ => [some (.ref 127), some (.int p0), some (.int p1)]) (fun _ => []) (fun s1 => eh_FW s1) (fun s1 => ?_)
  refine es_blk (pc' := 24) (L' := [some (.ref 127), some (.int p0), some (.int p1)]) (st' := [.ref 127]) [(.aload_n 0, 0)] (by decide +kernel) rfl rfl ?_
  refine ef_getP (k := 127) (j := 76) (q := 190) rfl eL_12_199 rfl rfl rfl (by decide +kernel) ?_
  refine es_blk (pc' := 29) (L' := [some (.ref 127), some (.int p0), some (.int p1)]) (st' := [.int p0, .ref 190, .int p0, .ref 190]) [(.iload_n 1, 0), (.dup2, 0)] (by decide +kernel) rfl rfl ?_
  refine ef_aldJ (k := 190) rfl (by decide +kernel) (fun _ => ?_)
  refine es_blk (pc' := 32) (L' := [some (.ref 127), some (.int p0), some (.int p1)]) (st' := [.long ((s1.2.1 190 (eh_ix p0)) + 1), .int p0, .ref 190]) [(.lconst 1, 0), (.ladd, 0)] (by decide +kernel) rfl rfl ?_
  refine ef_astJ (k := 190) rfl (by decide +kernel) (fun _ => ?_)
  refine ef_V (fun _ => [some (.ref 127), some (.int p0), some (.int p1)]) (fun _ => []) (fun s2 => eh_FW s2) (fun s2 => ?_)
  refine es_blk (pc' := 34) (L' := [some (.ref 127), some (.int p0), some (.int p1)]) (st' := [.ref 127]) [(.aload_n 0, 0)] (by decide +kernel) rfl rfl ?_
  refine ef_getP (k := 127) (j := 76) (q := 190) rfl eL_12_199 rfl rfl rfl (by decide +kernel) ?_
  refine es_blk (pc' := 38) (L' := [some (.ref 127), some (.int p0), some (.int p1)]) (st' := [.int p0, .ref 190]) [(.iload_n 1, 0)] (by decide +kernel) rfl rfl ?_
  refine ef_aldJ (k := 190) rfl (by decide +kernel) (fun _ => ?_)
  refine es_ldc2 (v := 63) eC_12_237 (by decide +kernel) ?_
  refine es_blk (pc' := 45) (L' := [some (.ref 127), some (.int p0), some (.int p1)]) (st' := [.int (lg_cmp ((s2.2.1 190 (eh_ix p0)) &&& 63) 0)]) [(.land, 0), (.lconst 0, 0), (.lcmp, 0)] (by decide +kernel) rfl rfl ?_
  refine ef_J (X := fun j3 => ∀ (s4 : eh_F), eh_Sim g eM_12_add (eh_R 3 0 0) eh_eV 0 0 53 [none, none, none] [] (eh_FW s4) ((j3 s4).bind some)) ?_ (fun j3 Hj3 => ?_)
  · intro s4
    exact es_ret rfl rfl rfl ⟨by decide +kernel, rfl⟩ (Nat.le_refl _) (Nat.le_refl _)
  refine es_ne (tgt := 53) (off := (8)) (by decide +kernel) (by decide) (fun h5 => ?_) (fun h5 => ?_)
  · refine es_blk (pc' := 50) (L' := [some (.ref 127), some (.int p0), some (.int p1)]) (st' := [.int p0, .ref 127]) [(.aload_n 0, 0), (.iload_n 1, 0)] (by decide +kernel) rfl rfl ?_
    refine ef_veV (d := 2) (k := 127) (As := [.int p0]) (st := []) eV_12_block eK_12_239 (eS_12_block g s2 p0) rfl rfl (Nat.le_of_ble_eq_true rfl) rfl (Nat.le_of_ble_eq_true rfl) ⟨Nat.le_of_ble_eq_true rfl, Nat.le_of_ble_eq_true rfl⟩ ⟨Nat.le_refl _, Nat.le_refl _⟩ (by decide +kernel) (fun q6 _ => ?_)
    refine ef_drop (L2 := [none, none, none]) [false, false, false] rfl rfl ?_
    exact Hj3 _
  refine ef_drop (L2 := [none, none, none]) [false, false, false] rfl rfl ?_
  exact Hj3 _
def eF_12_isLet (s : eh_F) (p0 : Int32) (p1 : Int64) (p2 : Int32) (p3 : Int32) : Option (Int32 × eh_F) := Option.bind (eF_12_gather s p0) (fun q1 => Option.bind (eh_loop (fun (r14 : (Int32) → Option ((Unit) ⊕ (Int32))) (t2 : Int32) => if t2 < (q1.1 127 48) then (if eh_in t2 13 then if eh_in t2 13 then eh_J (fun (u17 : Unit) => eh_V ((t2 + 1) : Int32) (fun x18 => r14 x18)) (fun j16 => if (lg_cmp p1 (((q1.1 170 (eh_ix t2)) + (q1.1 171 (eh_ix t2))).toInt64)) < 0 then (if eh_in t2 13 then if 0 < (lg_cmp (p1 + (p2.toInt64)) ((q1.1 170 (eh_ix t2)).toInt64)) then (some (.inr t2)) else (j16 ()) else none) else (j16 ())) else none else none) else (some (.inl ()))) eh_FU 0) (Sum.elim (fun (e3 : Unit) => some (0, q1)) (fun (e4 : Int32) => if eh_in e4 13 then eh_J (fun (a6 : Int32) => if a6 = 0 ∨ a6 = 1 then some (a6, q1) else none) (fun j5 => eh_J (fun (u9 : Unit) => j5 0) (fun j8 => if (lg_cmp p1 ((q1.1 170 (eh_ix e4)).toInt64)) < 0 then (j8 ()) else (if eh_in e4 13 then if eh_in e4 13 then if 0 < (lg_cmp (p1 + (p2.toInt64)) (((q1.1 170 (eh_ix e4)) + (q1.1 171 (eh_ix e4))).toInt64)) then (j8 ()) else (if eh_in e4 13 then if ((q1.1 172 (eh_ix e4)) &&& p3) = 0 then (j8 ()) else (j5 1) else none) else none else none))) else none)))
set_option maxHeartbeats 4000000 in
set_option maxRecDepth 100000 in
theorem eS_12_isLet (g : eh_P) (s : eh_F) (p0 : Int32) (p1 : Int64) (p2 : Int32) (p3 : Int32) : eh_Sim g eM_12_isLet (eh_R 3 0 0) eh_eI 0 0 0 (eh_en 7 [.ref 127, .int p0, .long p1, .int p2, .int p3]) [] (eh_FW s) (eF_12_isLet s p0 p1 p2 p3) := by
  unfold eF_12_isLet
  refine ef_top (L := [some (.ref 127), some (.int p0), some (.long p1), none, some (.int p2), some (.int p3), none]) rfl ?_
  refine es_blk (pc' := 2) (L' := [some (.ref 127), some (.int p0), some (.long p1), none, some (.int p2), some (.int p3), none]) (st' := [.int p0, .ref 127]) [(.aload_n 0, 0), (.iload_n 1, 0)] (by decide +kernel) rfl rfl ?_
  refine ef_veV (d := 2) (k := 127) (As := [.int p0]) (st := []) eV_12_gather eK_12_337 (eS_12_gather g s p0) rfl rfl (Nat.le_of_ble_eq_true rfl) rfl (Nat.le_of_ble_eq_true rfl) ⟨Nat.le_of_ble_eq_true rfl, Nat.le_of_ble_eq_true rfl⟩ ⟨Nat.le_refl _, Nat.le_refl _⟩ (by decide +kernel) (fun q1 _ => ?_)
  refine es_blk (pc' := 8) (L' := [some (.ref 127), some (.int p0), some (.long p1), none, some (.int p2), some (.int p3), some (.int 0)]) (st' := []) [(.iconst 0, 0), (.istore 6, 0)] (by decide +kernel) rfl rfl ?_
  refine ef_drop (L2 := [some (.ref 127), none, some (.long p1), none, some (.int p2), some (.int p3), some (.int 0)]) [true, false, true, true, true, true, true] rfl rfl ?_
  refine ef_loop2 (n := eh_FU) (i := 0) (px := 118) (px2 := 55) (fun (t2 : Int32) => [some (.ref 127), none, some (.long p1), none, some (.int p2), some (.int p3), some (.int t2)]) (fun (t2 : Int32) => []) (fun (t2 : Int32) => eh_FW q1) (fun (e3 : Unit) => [none, none, none, none, none, none, none]) (fun (e3 : Unit) => []) (fun (e3 : Unit) => eh_FW q1) (fun (e4 : Int32) => [some (.ref 127), none, some (.long p1), none, some (.int p2), some (.int p3), some (.int e4)]) (fun (e4 : Int32) => []) (fun (e4 : Int32) => eh_FW q1) (fun e3 => ?_) (fun e4 => ?_) (fun K13 HxK13_0 HxK13_1 r14 Hr14 t2 => ?_)
  · refine es_blk (pc' := 119) (L' := [none, none, none, none, none, none, none]) (st' := [.int 0]) [(.iconst 0, 0)] (by decide +kernel) rfl rfl ?_
    exact es_ret rfl rfl rfl ⟨by decide +kernel, _, rfl, eh_narZ (Or.inl rfl)⟩ (Nat.le_refl _) (Nat.le_refl _)
  · refine es_blk (pc' := 57) (L' := [some (.ref 127), none, some (.long p1), none, some (.int p2), some (.int p3), some (.int e4)]) (st' := [.ref 127, .long p1]) [(.lload_n 2, 0), (.aload_n 0, 0)] (by decide +kernel) rfl rfl ?_
    refine ef_getP (k := 127) (j := 45) (q := 170) rfl eL_12_139 rfl rfl rfl (by decide +kernel) ?_
    refine es_blk (pc' := 62) (L' := [some (.ref 127), none, some (.long p1), none, some (.int p2), some (.int p3), some (.int e4)]) (st' := [.int e4, .ref 170, .long p1]) [(.iload 6, 0)] (by decide +kernel) rfl rfl ?_
    refine ef_ald (k := 170) rfl (Or.inl ⟨rfl, rfl⟩) (by decide +kernel) (fun _ => ?_)
    refine es_blk (pc' := 65) (L' := [some (.ref 127), none, some (.long p1), none, some (.int p2), some (.int p3), some (.int e4)]) (st' := [.int (lg_cmp p1 ((q1.1 170 (eh_ix e4)).toInt64))]) [(.i2l, 0), (.lcmp, 0)] (by decide +kernel) rfl rfl ?_
    refine ef_J (X := fun j5 => ∀ (a6 : Int32), eh_Sim g eM_12_isLet (eh_R 3 0 0) eh_eI 0 0 111 [none, none, none, none, none, none, none] [.int a6] (eh_FW q1) ((j5 a6).bind some)) ?_ (fun j5 Hj5 => ?_)
    · intro a6
      refine es_chk (fun h7 => ?_)
      exact es_ret rfl rfl rfl ⟨by decide +kernel, _, rfl, eh_narZ h7⟩ (Nat.le_refl _) (Nat.le_refl _)
    refine ef_J (X := fun j8 => ∀ (u9 : Unit), eh_Sim g eM_12_isLet (eh_R 3 0 0) eh_eI 0 0 110 [none, none, none, none, none, none, none] [] (eh_FW q1) ((j8 u9).bind some)) ?_ (fun j8 Hj8 => ?_)
    · intro u9
      refine es_blk (pc' := 111) (L' := [none, none, none, none, none, none, none]) (st' := [.int 0]) [(.iconst 0, 0)] (by decide +kernel) rfl rfl ?_
      exact Hj5 _
    refine es_lt (tgt := 110) (off := (45)) (by decide +kernel) (by decide) (fun h10 => ?_) (fun h10 => ?_)
    · refine ef_drop (L2 := [none, none, none, none, none, none, none]) [false, true, false, true, false, false, false] rfl rfl ?_
      exact Hj8 ()
    refine es_blk (pc' := 74) (L' := [some (.ref 127), none, some (.long p1), none, some (.int p2), some (.int p3), some (.int e4)]) (st' := [.ref 127, .long (p1 + (p2.toInt64))]) [(.lload_n 2, 0), (.iload 4, 0), (.i2l, 0), (.ladd, 0), (.aload_n 0, 0)] (by decide +kernel) rfl rfl ?_
    refine ef_getP (k := 127) (j := 45) (q := 170) rfl eL_12_139 rfl rfl rfl (by decide +kernel) ?_
    refine es_blk (pc' := 79) (L' := [some (.ref 127), none, some (.long p1), none, some (.int p2), some (.int p3), some (.int e4)]) (st' := [.int e4, .ref 170, .long (p1 + (p2.toInt64))]) [(.iload 6, 0)] (by decide +kernel) rfl rfl ?_
    refine ef_ald (k := 170) rfl (Or.inl ⟨rfl, rfl⟩) (by decide +kernel) (fun _ => ?_)
    refine es_blk (pc' := 81) (L' := [some (.ref 127), none, some (.long p1), none, some (.int p2), some (.int p3), some (.int e4)]) (st' := [.ref 127, .int (q1.1 170 (eh_ix e4)), .long (p1 + (p2.toInt64))]) [(.aload_n 0, 0)] (by decide +kernel) rfl rfl ?_
    refine ef_getP (k := 127) (j := 46) (q := 171) rfl eL_12_142 rfl rfl rfl (by decide +kernel) ?_
    refine es_blk (pc' := 86) (L' := [some (.ref 127), none, some (.long p1), none, some (.int p2), some (.int p3), some (.int e4)]) (st' := [.int e4, .ref 171, .int (q1.1 170 (eh_ix e4)), .long (p1 + (p2.toInt64))]) [(.iload 6, 0)] (by decide +kernel) rfl rfl ?_
    refine ef_ald (k := 171) rfl (Or.inl ⟨rfl, rfl⟩) (by decide +kernel) (fun _ => ?_)
    refine es_blk (pc' := 90) (L' := [some (.ref 127), none, some (.long p1), none, some (.int p2), some (.int p3), some (.int e4)]) (st' := [.int (lg_cmp (p1 + (p2.toInt64)) (((q1.1 170 (eh_ix e4)) + (q1.1 171 (eh_ix e4))).toInt64))]) [(.iadd, 0), (.i2l, 0), (.lcmp, 0)] (by decide +kernel) rfl rfl ?_
    refine es_gt (tgt := 110) (off := (20)) (by decide +kernel) (by decide) (fun h11 => ?_) (fun h11 => ?_)
    · refine ef_drop (L2 := [none, none, none, none, none, none, none]) [false, true, false, true, false, false, false] rfl rfl ?_
      exact Hj8 ()
    refine es_blk (pc' := 94) (L' := [some (.ref 127), none, some (.long p1), none, some (.int p2), some (.int p3), some (.int e4)]) (st' := [.ref 127]) [(.aload_n 0, 0)] (by decide +kernel) rfl rfl ?_
    refine ef_getP (k := 127) (j := 47) (q := 172) rfl eL_12_145 rfl rfl rfl (by decide +kernel) ?_
    refine es_blk (pc' := 99) (L' := [some (.ref 127), none, some (.long p1), none, some (.int p2), some (.int p3), some (.int e4)]) (st' := [.int e4, .ref 172]) [(.iload 6, 0)] (by decide +kernel) rfl rfl ?_
    refine ef_ald (k := 172) rfl (Or.inl ⟨rfl, rfl⟩) (by decide +kernel) (fun _ => ?_)
    refine es_blk (pc' := 103) (L' := [some (.ref 127), none, some (.long p1), none, some (.int p2), some (.int p3), some (.int e4)]) (st' := [.int ((q1.1 172 (eh_ix e4)) &&& p3)]) [(.iload 5, 0), (.iand, 0)] (by decide +kernel) rfl rfl ?_
    refine es_eq (tgt := 110) (off := (7)) (by decide +kernel) (by decide) (fun h12 => ?_) (fun h12 => ?_)
    · refine ef_drop (L2 := [none, none, none, none, none, none, none]) [false, true, false, true, false, false, false] rfl rfl ?_
      exact Hj8 ()
    refine es_blk (pc' := 107) (L' := [some (.ref 127), none, some (.long p1), none, some (.int p2), some (.int p3), some (.int e4)]) (st' := [.int 1]) [(.iconst 1, 1)] (by decide +kernel) rfl rfl ?_
    refine es_goto (tgt := 111) (off := (4)) (by decide +kernel) (by decide) ?_
    refine ef_drop (L2 := [none, none, none, none, none, none, none]) [false, true, false, true, false, false, false] rfl rfl ?_
    exact Hj5 _
  · refine es_blk (pc' := 11) (L' := [some (.ref 127), none, some (.long p1), none, some (.int p2), some (.int p3), some (.int t2)]) (st' := [.ref 127, .int t2]) [(.iload 6, 0), (.aload_n 0, 0)] (by decide +kernel) rfl rfl ?_
    refine ef_getI (k := 127) (j := 48) rfl eL_12_323 (by decide) (by decide +kernel) ?_
    refine es_ige (tgt := 118) (off := (104)) (by decide +kernel) (by decide) (fun h15 => ?_) (fun h15 => ?_)
    · refine es_blk (pc' := 19) (L' := [some (.ref 127), none, some (.long p1), none, some (.int p2), some (.int p3), some (.int t2)]) (st' := [.ref 127, .long p1]) [(.lload_n 2, 0), (.aload_n 0, 0)] (by decide +kernel) rfl rfl ?_
      refine ef_getP (k := 127) (j := 45) (q := 170) rfl eL_12_139 rfl rfl rfl (by decide +kernel) ?_
      refine es_blk (pc' := 24) (L' := [some (.ref 127), none, some (.long p1), none, some (.int p2), some (.int p3), some (.int t2)]) (st' := [.int t2, .ref 170, .long p1]) [(.iload 6, 0)] (by decide +kernel) rfl rfl ?_
      refine ef_ald (k := 170) rfl (Or.inl ⟨rfl, rfl⟩) (by decide +kernel) (fun _ => ?_)
      refine es_blk (pc' := 26) (L' := [some (.ref 127), none, some (.long p1), none, some (.int p2), some (.int p3), some (.int t2)]) (st' := [.ref 127, .int (q1.1 170 (eh_ix t2)), .long p1]) [(.aload_n 0, 0)] (by decide +kernel) rfl rfl ?_
      refine ef_getP (k := 127) (j := 46) (q := 171) rfl eL_12_142 rfl rfl rfl (by decide +kernel) ?_
      refine es_blk (pc' := 31) (L' := [some (.ref 127), none, some (.long p1), none, some (.int p2), some (.int p3), some (.int t2)]) (st' := [.int t2, .ref 171, .int (q1.1 170 (eh_ix t2)), .long p1]) [(.iload 6, 0)] (by decide +kernel) rfl rfl ?_
      refine ef_ald (k := 171) rfl (Or.inl ⟨rfl, rfl⟩) (by decide +kernel) (fun _ => ?_)
      refine es_blk (pc' := 35) (L' := [some (.ref 127), none, some (.long p1), none, some (.int p2), some (.int p3), some (.int t2)]) (st' := [.int (lg_cmp p1 (((q1.1 170 (eh_ix t2)) + (q1.1 171 (eh_ix t2))).toInt64))]) [(.iadd, 0), (.i2l, 0), (.lcmp, 0)] (by decide +kernel) rfl rfl ?_
      refine ef_J (X := fun j16 => ∀ (u17 : Unit), eh_Sim g eM_12_isLet (eh_R 3 0 0) eh_eI 0 0 112 [some (.ref 127), none, some (.long p1), none, some (.int p2), some (.int p3), some (.int t2)] [] (eh_FW q1) ((j16 u17).bind K13)) ?_ (fun j16 Hj16 => ?_)
      · intro u17
        refine es_blk (pc' := 115) (L' := [some (.ref 127), none, some (.long p1), none, some (.int p2), some (.int p3), some (.int (t2 + 1))]) (st' := []) [(.iinc 6 1, 1)] (by decide +kernel) rfl rfl ?_
        refine ef_V (fun x18 => [some (.ref 127), none, some (.long p1), none, some (.int p2), some (.int p3), some (.int x18)]) (fun _ => []) (fun _ => eh_FW q1) (fun x18 => ?_)
        refine es_goto (tgt := 8) (off := (-107)) (by decide +kernel) (by decide) ?_
        exact Hr14 x18
      refine es_ge (tgt := 112) (off := (77)) (by decide +kernel) (by decide) (fun h19 => ?_) (fun h19 => ?_)
      · refine es_blk (pc' := 44) (L' := [some (.ref 127), none, some (.long p1), none, some (.int p2), some (.int p3), some (.int t2)]) (st' := [.ref 127, .long (p1 + (p2.toInt64))]) [(.lload_n 2, 0), (.iload 4, 0), (.i2l, 0), (.ladd, 0), (.aload_n 0, 0)] (by decide +kernel) rfl rfl ?_
        refine ef_getP (k := 127) (j := 45) (q := 170) rfl eL_12_139 rfl rfl rfl (by decide +kernel) ?_
        refine es_blk (pc' := 49) (L' := [some (.ref 127), none, some (.long p1), none, some (.int p2), some (.int p3), some (.int t2)]) (st' := [.int t2, .ref 170, .long (p1 + (p2.toInt64))]) [(.iload 6, 0)] (by decide +kernel) rfl rfl ?_
        refine ef_ald (k := 170) rfl (Or.inl ⟨rfl, rfl⟩) (by decide +kernel) (fun _ => ?_)
        refine es_blk (pc' := 52) (L' := [some (.ref 127), none, some (.long p1), none, some (.int p2), some (.int p3), some (.int t2)]) (st' := [.int (lg_cmp (p1 + (p2.toInt64)) ((q1.1 170 (eh_ix t2)).toInt64))]) [(.i2l, 0), (.lcmp, 0)] (by decide +kernel) rfl rfl ?_
        refine es_le (tgt := 112) (off := (60)) (by decide +kernel) (by decide) (fun h20 => ?_) (fun h20 => ?_)
        · exact HxK13_1 t2
        exact Hj16 ()
      exact Hj16 ()
    refine ef_drop (L2 := [none, none, none, none, none, none, none]) [false, true, false, true, false, false, false] rfl rfl ?_
    exact HxK13_0 ()
def eF_12_pending (s : eh_F) (p0 : Int32) : Option (Int32) := if eh_in p0 2 then Option.bind (eF_20_compareUnsigned s (s.1 127 20) (s.1 141 (eh_ix p0))) (fun q1 => eh_J (fun (a3 : Int32) => if eh_in p0 2 then eh_J (fun (a5 : Int32) => eh_J (fun (a7 : Int32) => some (((s.1 140 (eh_ix p0)) ||| a5) ||| a7)) (fun j6 => eh_J (fun (u9 : Unit) => j6 512) (fun j8 => if (s.1 127 22) = 0 then (if 0 < (s.1 127 59) then (j8 ()) else (if 0 < (s.1 127 62) then (j8 ()) else (j6 0))) else (j8 ())))) (fun j4 => if a3 = 0 then (j4 0) else (j4 32)) else none) (fun j2 => if q1 < 0 then (j2 0) else (j2 1))) else none
set_option maxHeartbeats 4000000 in
set_option maxRecDepth 100000 in
theorem eS_12_pending (g : eh_P) (s : eh_F) (p0 : Int32) : eh_Sim g eM_12_pending (eh_R 3 0 0) (eh_pI s) 0 0 0 (eh_en 3 [.ref 127, .int p0]) [] (eh_FW s) (eF_12_pending s p0) := by
  unfold eF_12_pending
  refine ef_top (L := [some (.ref 127), some (.int p0), none]) rfl ?_
  refine es_blk (pc' := 1) (L' := [some (.ref 127), some (.int p0), none]) (st' := [.ref 127]) [(.aload_n 0, 0)] (by decide +kernel) rfl rfl ?_
  refine ef_getI (k := 127) (j := 20) rfl eL_12_280 (by decide) (by decide +kernel) ?_
  refine es_blk (pc' := 5) (L' := [some (.ref 127), some (.int p0), none]) (st' := [.ref 127, .int (s.1 127 20)]) [(.aload_n 0, 0)] (by decide +kernel) rfl rfl ?_
  refine ef_getP (k := 127) (j := 13) (q := 141) rfl eL_12_52 rfl rfl rfl (by decide +kernel) ?_
  refine es_blk (pc' := 9) (L' := [some (.ref 127), some (.int p0), none]) (st' := [.int p0, .ref 141, .int (s.1 127 20)]) [(.iload_n 1, 0)] (by decide +kernel) rfl rfl ?_
  refine ef_ald (k := 141) rfl (Or.inl ⟨rfl, rfl⟩) (by decide +kernel) (fun _ => ?_)
  refine ef_spI (d := 2) (As := [.int (s.1 127 20), .int (s.1 141 (eh_ix p0))]) (st := []) eV_20_compareUnsigned eK_12_398 (eS_20_compareUnsigned g s (s.1 127 20) (s.1 141 (eh_ix p0))) rfl (Nat.le_of_ble_eq_true rfl) rfl (Nat.le_of_ble_eq_true rfl) ⟨Nat.le_of_ble_eq_true rfl, Nat.le_of_ble_eq_true rfl⟩ ⟨Nat.le_refl _, Nat.le_refl _⟩ (by decide +kernel) (fun q1 _ => ?_)
  refine ef_J (X := fun j2 => ∀ (a3 : Int32), eh_Sim g eM_12_pending (eh_R 3 0 0) (eh_pI s) 0 0 21 [some (.ref 127), some (.int p0), none] [.int a3] (eh_FW s) ((j2 a3).bind some)) ?_ (fun j2 Hj2 => ?_)
  · intro a3
    refine es_blk (pc' := 23) (L' := [some (.ref 127), some (.int p0), some (.int a3)]) (st' := [.ref 127]) [(.istore_n 2, 0), (.aload_n 0, 0)] (by decide +kernel) rfl rfl ?_
    refine ef_getP (k := 127) (j := 12) (q := 140) rfl eL_12_49 rfl rfl rfl (by decide +kernel) ?_
    refine es_blk (pc' := 27) (L' := [some (.ref 127), some (.int p0), some (.int a3)]) (st' := [.int p0, .ref 140]) [(.iload_n 1, 0)] (by decide +kernel) rfl rfl ?_
    refine ef_ald (k := 140) rfl (Or.inl ⟨rfl, rfl⟩) (by decide +kernel) (fun _ => ?_)
    refine es_blk (pc' := 29) (L' := [some (.ref 127), some (.int p0), some (.int a3)]) (st' := [.int a3, .int (s.1 140 (eh_ix p0))]) [(.iload_n 2, 0)] (by decide +kernel) rfl rfl ?_
    refine ef_J (X := fun j4 => ∀ (a5 : Int32), eh_Sim g eM_12_pending (eh_R 3 0 0) (eh_pI s) 0 0 38 [some (.ref 127), none, none] [.int a5, .int (s.1 140 (eh_ix p0))] (eh_FW s) ((j4 a5).bind some)) ?_ (fun j4 Hj4 => ?_)
    · intro a5
      refine es_blk (pc' := 40) (L' := [some (.ref 127), none, none]) (st' := [.ref 127, .int ((s.1 140 (eh_ix p0)) ||| a5)]) [(.ior, 0), (.aload_n 0, 0)] (by decide +kernel) rfl rfl ?_
      refine ef_getI (k := 127) (j := 22) rfl eL_12_287 (by decide) (by decide +kernel) ?_
      refine ef_J (X := fun j6 => ∀ (a7 : Int32), eh_Sim g eM_12_pending (eh_R 3 0 0) (eh_pI s) 0 0 67 [none, none, none] [.int a7, .int ((s.1 140 (eh_ix p0)) ||| a5)] (eh_FW s) ((j6 a7).bind some)) ?_ (fun j6 Hj6 => ?_)
      · intro a7
        refine es_blk (pc' := 68) (L' := [none, none, none]) (st' := [.int (((s.1 140 (eh_ix p0)) ||| a5) ||| a7)]) [(.ior, 0)] (by decide +kernel) rfl rfl ?_
        exact es_ret rfl rfl rfl ⟨by decide +kernel, _, rfl, rfl⟩ (Nat.le_refl _) (Nat.le_refl _)
      refine ef_J (X := fun j8 => ∀ (u9 : Unit), eh_Sim g eM_12_pending (eh_R 3 0 0) (eh_pI s) 0 0 60 [none, none, none] [.int ((s.1 140 (eh_ix p0)) ||| a5)] (eh_FW s) ((j8 u9).bind some)) ?_ (fun j8 Hj8 => ?_)
      · intro u9
        refine es_blk (pc' := 63) (L' := [none, none, none]) (st' := [.int 512, .int ((s.1 140 (eh_ix p0)) ||| a5)]) [(.sipush 512, 512)] (by decide +kernel) rfl rfl ?_
        refine es_goto (tgt := 67) (off := (4)) (by decide +kernel) (by decide) ?_
        exact Hj6 _
      refine es_ne (tgt := 60) (off := (17)) (by decide +kernel) (by decide) (fun h10 => ?_) (fun h10 => ?_)
      · refine es_blk (pc' := 47) (L' := [some (.ref 127), none, none]) (st' := [.ref 127, .int ((s.1 140 (eh_ix p0)) ||| a5)]) [(.aload_n 0, 0)] (by decide +kernel) rfl rfl ?_
        refine ef_getI (k := 127) (j := 59) rfl eL_12_299 (by decide) (by decide +kernel) ?_
        refine es_gt (tgt := 60) (off := (10)) (by decide +kernel) (by decide) (fun h11 => ?_) (fun h11 => ?_)
        · refine ef_drop (L2 := [none, none, none]) [false, true, true] rfl rfl ?_
          exact Hj8 ()
        refine es_blk (pc' := 54) (L' := [some (.ref 127), none, none]) (st' := [.ref 127, .int ((s.1 140 (eh_ix p0)) ||| a5)]) [(.aload_n 0, 0)] (by decide +kernel) rfl rfl ?_
        refine ef_getI (k := 127) (j := 62) rfl eL_12_305 (by decide) (by decide +kernel) ?_
        refine es_le (tgt := 66) (off := (9)) (by decide +kernel) (by decide) (fun h12 => ?_) (fun h12 => ?_)
        · refine ef_drop (L2 := [none, none, none]) [false, true, true] rfl rfl ?_
          exact Hj8 ()
        refine es_blk (pc' := 67) (L' := [some (.ref 127), none, none]) (st' := [.int 0, .int ((s.1 140 (eh_ix p0)) ||| a5)]) [(.iconst 0, 0)] (by decide +kernel) rfl rfl ?_
        refine ef_drop (L2 := [none, none, none]) [false, true, true] rfl rfl ?_
        exact Hj6 _
      refine ef_drop (L2 := [none, none, none]) [false, true, true] rfl rfl ?_
      exact Hj8 ()
    refine es_eq (tgt := 37) (off := (8)) (by decide +kernel) (by decide) (fun h13 => ?_) (fun h13 => ?_)
    · refine es_blk (pc' := 38) (L' := [some (.ref 127), some (.int p0), some (.int a3)]) (st' := [.int 0, .int (s.1 140 (eh_ix p0))]) [(.iconst 0, 0)] (by decide +kernel) rfl rfl ?_
      refine ef_drop (L2 := [some (.ref 127), none, none]) [true, false, false] rfl rfl ?_
      exact Hj4 _
    refine es_blk (pc' := 34) (L' := [some (.ref 127), some (.int p0), some (.int a3)]) (st' := [.int 32, .int (s.1 140 (eh_ix p0))]) [(.bipush 32, 32)] (by decide +kernel) rfl rfl ?_
    refine es_goto (tgt := 38) (off := (4)) (by decide +kernel) (by decide) ?_
    refine ef_drop (L2 := [some (.ref 127), none, none]) [true, false, false] rfl rfl ?_
    exact Hj4 _
  refine es_lt (tgt := 20) (off := (7)) (by decide +kernel) (by decide) (fun h14 => ?_) (fun h14 => ?_)
  · refine es_blk (pc' := 21) (L' := [some (.ref 127), some (.int p0), none]) (st' := [.int 0]) [(.iconst 0, 0)] (by decide +kernel) rfl rfl ?_
    exact Hj2 _
  refine es_blk (pc' := 17) (L' := [some (.ref 127), some (.int p0), none]) (st' := [.int 1]) [(.iconst 1, 1)] (by decide +kernel) rfl rfl ?_
  refine es_goto (tgt := 21) (off := (4)) (by decide +kernel) (by decide) ?_
  exact Hj2 _
def eF_12_isTaken (s : eh_F) (p0 : Int32) (p1 : Int32) (p2 : Int32) : Option (Int32) := eh_J (fun (u2 : Unit) => Option.bind (eF_20_compareUnsigned s p1 p2) (fun q3 => eh_J (fun (a5 : Int32) => if a5 = 0 ∨ a5 = 1 then some a5 else none) (fun j4 => if q3 < 0 then (j4 0) else (j4 1)))) (fun j1 => if p0 = 0 then (eh_J (fun (a11 : Int32) => if a11 = 0 ∨ a11 = 1 then some a11 else none) (fun j10 => if p1 = p2 then (j10 1) else (j10 0))) else if p0 = 1 then (eh_J (fun (a16 : Int32) => if a16 = 0 ∨ a16 = 1 then some a16 else none) (fun j15 => if p1 = p2 then (j15 0) else (j15 1))) else if p0 = 4 then (eh_J (fun (a21 : Int32) => if a21 = 0 ∨ a21 = 1 then some a21 else none) (fun j20 => if p1 < p2 then (j20 1) else (j20 0))) else if p0 = 5 then (eh_J (fun (a26 : Int32) => if a26 = 0 ∨ a26 = 1 then some a26 else none) (fun j25 => if p1 < p2 then (j25 0) else (j25 1))) else if p0 = 6 then (Option.bind (eF_20_compareUnsigned s p1 p2) (fun q30 => eh_J (fun (a32 : Int32) => if a32 = 0 ∨ a32 = 1 then some a32 else none) (fun j31 => if q30 < 0 then (j31 1) else (j31 0)))) else (j1 ()))
set_option maxHeartbeats 4000000 in
set_option maxRecDepth 100000 in
theorem eS_12_isTaken (g : eh_P) (s : eh_F) (p0 : Int32) (p1 : Int32) (p2 : Int32) : eh_Sim g eM_12_isTaken (eh_R 3 0 0) (eh_pI s) 0 0 0 (eh_en 3 [.int p0, .int p1, .int p2]) [] (eh_FW s) (eF_12_isTaken s p0 p1 p2) := by
  unfold eF_12_isTaken
  refine ef_top (L := [some (.int p0), some (.int p1), some (.int p2)]) rfl ?_
  refine es_blk (pc' := 1) (L' := [some (.int p0), some (.int p1), some (.int p2)]) (st' := [.int p0]) [(.iload_n 0, 0)] (by decide +kernel) rfl rfl ?_
  refine ef_J (X := fun j1 => ∀ (u2 : Unit), eh_Sim g eM_12_isTaken (eh_R 3 0 0) (eh_pI s) 0 0 102 [none, some (.int p1), some (.int p2)] [] (eh_FW s) ((j1 u2).bind some)) ?_ (fun j1 Hj1 => ?_)
  · intro u2
    refine es_blk (pc' := 104) (L' := [none, some (.int p1), some (.int p2)]) (st' := [.int p2, .int p1]) [(.iload_n 1, 0), (.iload_n 2, 0)] (by decide +kernel) rfl rfl ?_
    refine ef_spI (d := 2) (As := [.int p1, .int p2]) (st := []) eV_20_compareUnsigned eK_12_398 (eS_20_compareUnsigned g s p1 p2) rfl (Nat.le_of_ble_eq_true rfl) rfl (Nat.le_of_ble_eq_true rfl) ⟨Nat.le_of_ble_eq_true rfl, Nat.le_of_ble_eq_true rfl⟩ ⟨Nat.le_refl _, Nat.le_refl _⟩ (by decide +kernel) (fun q3 _ => ?_)
    refine ef_J (X := fun j4 => ∀ (a5 : Int32), eh_Sim g eM_12_isTaken (eh_R 3 0 0) (eh_pI s) 0 0 115 [none, none, none] [.int a5] (eh_FW s) ((j4 a5).bind some)) ?_ (fun j4 Hj4 => ?_)
    · intro a5
      refine es_chk (fun h6 => ?_)
      exact es_ret rfl rfl rfl ⟨by decide +kernel, _, rfl, eh_narZ h6⟩ (Nat.le_refl _) (Nat.le_refl _)
    refine es_lt (tgt := 114) (off := (7)) (by decide +kernel) (by decide) (fun h7 => ?_) (fun h7 => ?_)
    · refine es_blk (pc' := 115) (L' := [none, some (.int p1), some (.int p2)]) (st' := [.int 0]) [(.iconst 0, 0)] (by decide +kernel) rfl rfl ?_
      refine ef_drop (L2 := [none, none, none]) [true, false, false] rfl rfl ?_
      exact Hj4 _
    refine es_blk (pc' := 111) (L' := [none, some (.int p1), some (.int p2)]) (st' := [.int 1]) [(.iconst 1, 1)] (by decide +kernel) rfl rfl ?_
    refine es_goto (tgt := 115) (off := (4)) (by decide +kernel) (by decide) ?_
    refine ef_drop (L2 := [none, none, none]) [true, false, false] rfl rfl ?_
    exact Hj4 _
  have hs8 : decode eM_12_isTaken.2.1 1 = .ok (.tableswitch (101) (0) (6) #[(43), (54), (101), (101), (65), (76), (87)], 43) := by decide +kernel
  refine es_ifc (fun h9 => ?_) (fun h9 => ?_)
  · refine es_tsw (off := (43)) (tgt := 44) hs8 0 h9 (by decide) ?_
    refine es_blk (pc' := 46) (L' := [some (.int p0), some (.int p1), some (.int p2)]) (st' := [.int p2, .int p1]) [(.iload_n 1, 0), (.iload_n 2, 0)] (by decide +kernel) rfl rfl ?_
    refine ef_J (X := fun j10 => ∀ (a11 : Int32), eh_Sim g eM_12_isTaken (eh_R 3 0 0) (eh_pI s) 0 0 54 [none, none, none] [.int a11] (eh_FW s) ((j10 a11).bind some)) ?_ (fun j10 Hj10 => ?_)
    · intro a11
      refine es_chk (fun h12 => ?_)
      exact es_ret rfl rfl rfl ⟨by decide +kernel, _, rfl, eh_narZ h12⟩ (Nat.le_refl _) (Nat.le_refl _)
    refine es_ine (tgt := 53) (off := (7)) (by decide +kernel) (by decide) (fun h13 => ?_) (fun h13 => ?_)
    · refine es_blk (pc' := 50) (L' := [some (.int p0), some (.int p1), some (.int p2)]) (st' := [.int 1]) [(.iconst 1, 1)] (by decide +kernel) rfl rfl ?_
      refine es_goto (tgt := 54) (off := (4)) (by decide +kernel) (by decide) ?_
      refine ef_drop (L2 := [none, none, none]) [false, false, false] rfl rfl ?_
      exact Hj10 _
    refine es_blk (pc' := 54) (L' := [some (.int p0), some (.int p1), some (.int p2)]) (st' := [.int 0]) [(.iconst 0, 0)] (by decide +kernel) rfl rfl ?_
    refine ef_drop (L2 := [none, none, none]) [false, false, false] rfl rfl ?_
    exact Hj10 _
  refine es_ifc (fun h14 => ?_) (fun h14 => ?_)
  · refine es_tsw (off := (54)) (tgt := 55) hs8 1 h14 (by decide) ?_
    refine es_blk (pc' := 57) (L' := [some (.int p0), some (.int p1), some (.int p2)]) (st' := [.int p2, .int p1]) [(.iload_n 1, 0), (.iload_n 2, 0)] (by decide +kernel) rfl rfl ?_
    refine ef_J (X := fun j15 => ∀ (a16 : Int32), eh_Sim g eM_12_isTaken (eh_R 3 0 0) (eh_pI s) 0 0 65 [none, none, none] [.int a16] (eh_FW s) ((j15 a16).bind some)) ?_ (fun j15 Hj15 => ?_)
    · intro a16
      refine es_chk (fun h17 => ?_)
      exact es_ret rfl rfl rfl ⟨by decide +kernel, _, rfl, eh_narZ h17⟩ (Nat.le_refl _) (Nat.le_refl _)
    refine es_ieq (tgt := 64) (off := (7)) (by decide +kernel) (by decide) (fun h18 => ?_) (fun h18 => ?_)
    · refine es_blk (pc' := 65) (L' := [some (.int p0), some (.int p1), some (.int p2)]) (st' := [.int 0]) [(.iconst 0, 0)] (by decide +kernel) rfl rfl ?_
      refine ef_drop (L2 := [none, none, none]) [false, false, false] rfl rfl ?_
      exact Hj15 _
    refine es_blk (pc' := 61) (L' := [some (.int p0), some (.int p1), some (.int p2)]) (st' := [.int 1]) [(.iconst 1, 1)] (by decide +kernel) rfl rfl ?_
    refine es_goto (tgt := 65) (off := (4)) (by decide +kernel) (by decide) ?_
    refine ef_drop (L2 := [none, none, none]) [false, false, false] rfl rfl ?_
    exact Hj15 _
  refine es_ifc (fun h19 => ?_) (fun h19 => ?_)
  · refine es_tsw (off := (65)) (tgt := 66) hs8 4 h19 (by decide) ?_
    refine es_blk (pc' := 68) (L' := [some (.int p0), some (.int p1), some (.int p2)]) (st' := [.int p2, .int p1]) [(.iload_n 1, 0), (.iload_n 2, 0)] (by decide +kernel) rfl rfl ?_
    refine ef_J (X := fun j20 => ∀ (a21 : Int32), eh_Sim g eM_12_isTaken (eh_R 3 0 0) (eh_pI s) 0 0 76 [none, none, none] [.int a21] (eh_FW s) ((j20 a21).bind some)) ?_ (fun j20 Hj20 => ?_)
    · intro a21
      refine es_chk (fun h22 => ?_)
      exact es_ret rfl rfl rfl ⟨by decide +kernel, _, rfl, eh_narZ h22⟩ (Nat.le_refl _) (Nat.le_refl _)
    refine es_ige (tgt := 75) (off := (7)) (by decide +kernel) (by decide) (fun h23 => ?_) (fun h23 => ?_)
    · refine es_blk (pc' := 72) (L' := [some (.int p0), some (.int p1), some (.int p2)]) (st' := [.int 1]) [(.iconst 1, 1)] (by decide +kernel) rfl rfl ?_
      refine es_goto (tgt := 76) (off := (4)) (by decide +kernel) (by decide) ?_
      refine ef_drop (L2 := [none, none, none]) [false, false, false] rfl rfl ?_
      exact Hj20 _
    refine es_blk (pc' := 76) (L' := [some (.int p0), some (.int p1), some (.int p2)]) (st' := [.int 0]) [(.iconst 0, 0)] (by decide +kernel) rfl rfl ?_
    refine ef_drop (L2 := [none, none, none]) [false, false, false] rfl rfl ?_
    exact Hj20 _
  refine es_ifc (fun h24 => ?_) (fun h24 => ?_)
  · refine es_tsw (off := (76)) (tgt := 77) hs8 5 h24 (by decide) ?_
    refine es_blk (pc' := 79) (L' := [some (.int p0), some (.int p1), some (.int p2)]) (st' := [.int p2, .int p1]) [(.iload_n 1, 0), (.iload_n 2, 0)] (by decide +kernel) rfl rfl ?_
    refine ef_J (X := fun j25 => ∀ (a26 : Int32), eh_Sim g eM_12_isTaken (eh_R 3 0 0) (eh_pI s) 0 0 87 [none, none, none] [.int a26] (eh_FW s) ((j25 a26).bind some)) ?_ (fun j25 Hj25 => ?_)
    · intro a26
      refine es_chk (fun h27 => ?_)
      exact es_ret rfl rfl rfl ⟨by decide +kernel, _, rfl, eh_narZ h27⟩ (Nat.le_refl _) (Nat.le_refl _)
    refine es_ilt (tgt := 86) (off := (7)) (by decide +kernel) (by decide) (fun h28 => ?_) (fun h28 => ?_)
    · refine es_blk (pc' := 87) (L' := [some (.int p0), some (.int p1), some (.int p2)]) (st' := [.int 0]) [(.iconst 0, 0)] (by decide +kernel) rfl rfl ?_
      refine ef_drop (L2 := [none, none, none]) [false, false, false] rfl rfl ?_
      exact Hj25 _
    refine es_blk (pc' := 83) (L' := [some (.int p0), some (.int p1), some (.int p2)]) (st' := [.int 1]) [(.iconst 1, 1)] (by decide +kernel) rfl rfl ?_
    refine es_goto (tgt := 87) (off := (4)) (by decide +kernel) (by decide) ?_
    refine ef_drop (L2 := [none, none, none]) [false, false, false] rfl rfl ?_
    exact Hj25 _
  refine es_ifc (fun h29 => ?_) (fun h29 => ?_)
  · refine es_tsw (off := (87)) (tgt := 88) hs8 6 h29 (by decide) ?_
    refine es_blk (pc' := 90) (L' := [some (.int p0), some (.int p1), some (.int p2)]) (st' := [.int p2, .int p1]) [(.iload_n 1, 0), (.iload_n 2, 0)] (by decide +kernel) rfl rfl ?_
    refine ef_spI (d := 2) (As := [.int p1, .int p2]) (st := []) eV_20_compareUnsigned eK_12_398 (eS_20_compareUnsigned g s p1 p2) rfl (Nat.le_of_ble_eq_true rfl) rfl (Nat.le_of_ble_eq_true rfl) ⟨Nat.le_of_ble_eq_true rfl, Nat.le_of_ble_eq_true rfl⟩ ⟨Nat.le_refl _, Nat.le_refl _⟩ (by decide +kernel) (fun q30 _ => ?_)
    refine ef_J (X := fun j31 => ∀ (a32 : Int32), eh_Sim g eM_12_isTaken (eh_R 3 0 0) (eh_pI s) 0 0 101 [none, none, none] [.int a32] (eh_FW s) ((j31 a32).bind some)) ?_ (fun j31 Hj31 => ?_)
    · intro a32
      refine es_chk (fun h33 => ?_)
      exact es_ret rfl rfl rfl ⟨by decide +kernel, _, rfl, eh_narZ h33⟩ (Nat.le_refl _) (Nat.le_refl _)
    refine es_ge (tgt := 100) (off := (7)) (by decide +kernel) (by decide) (fun h34 => ?_) (fun h34 => ?_)
    · refine es_blk (pc' := 97) (L' := [some (.int p0), some (.int p1), some (.int p2)]) (st' := [.int 1]) [(.iconst 1, 1)] (by decide +kernel) rfl rfl ?_
      refine es_goto (tgt := 101) (off := (4)) (by decide +kernel) (by decide) ?_
      refine ef_drop (L2 := [none, none, none]) [false, false, false] rfl rfl ?_
      exact Hj31 _
    refine es_blk (pc' := 101) (L' := [some (.int p0), some (.int p1), some (.int p2)]) (st' := [.int 0]) [(.iconst 0, 0)] (by decide +kernel) rfl rfl ?_
    refine ef_drop (L2 := [none, none, none]) [false, false, false] rfl rfl ?_
    exact Hj31 _
  refine es_tswD (tgt := 102) hs8 [0, 1, 4, 5, 6] (List.forall_mem_cons.mpr ⟨eh_nei 0 0 (by decide) h9, (List.forall_mem_cons.mpr ⟨eh_nei 1 1 (by decide) h14, (List.forall_mem_cons.mpr ⟨eh_nei 4 4 (by decide) h19, (List.forall_mem_cons.mpr ⟨eh_nei 5 5 (by decide) h24, (List.forall_mem_cons.mpr ⟨eh_nei 6 6 (by decide) h29, (List.forall_mem_nil _)⟩)⟩)⟩)⟩)⟩) (by decide) (by decide) (by decide) ?_
  refine ef_drop (L2 := [none, some (.int p1), some (.int p2)]) [false, true, true] rfl rfl ?_
  exact Hj1 ()
def eF_12_immediate (s : eh_F) (p0 : Int32) (p1 : Int32) (p2 : Int32) (p3 : Int32) (p4 : Int32) (p5 : Int32) (p6 : Int32) (p7 : Int32) : Option (eh_F) := eh_J (fun (s2 : eh_F) => some s2) (fun j1 => eh_J (fun (u4 : Unit) => if p5 = 0 then (Option.bind (eF_12_set s p0 p2 (eh_ushr p6 p4)) (fun q6 => j1 q6)) else (if p5 = 32 then (Option.bind (eF_12_set s p0 p2 (eh_shr p6 p4)) (fun q8 => j1 q8)) else (Option.bind (eF_12_except s 2 p1) (fun q9 => j1 q9)))) (fun j3 => if p3 = 0 then (Option.bind (eF_12_set s p0 p2 (p6 + p7)) (fun q12 => j1 q12)) else if p3 = 1 then (if p5 = 0 then (Option.bind (eF_12_set s p0 p2 (eh_shl p6 p4)) (fun q15 => j1 q15)) else (Option.bind (eF_12_except s 2 p1) (fun q16 => j1 q16))) else if p3 = 2 then (eh_J (fun (a19 : Int32) => Option.bind (eF_12_set s p0 p2 a19) (fun q20 => j1 q20)) (fun j18 => if p6 < p7 then (j18 1) else (j18 0))) else if p3 = 3 then (Option.bind (eF_20_compareUnsigned s p6 p7) (fun q23 => eh_J (fun (a25 : Int32) => Option.bind (eF_12_set s p0 p2 a25) (fun q26 => j1 q26)) (fun j24 => if q23 < 0 then (j24 1) else (j24 0)))) else if p3 = 4 then (Option.bind (eF_12_set s p0 p2 (p6 ^^^ p7)) (fun q29 => j1 q29)) else if p3 = 6 then (Option.bind (eF_12_set s p0 p2 (p6 ||| p7)) (fun q31 => j1 q31)) else if p3 = 7 then (Option.bind (eF_12_set s p0 p2 (p6 &&& p7)) (fun q33 => j1 q33)) else (j3 ())))
set_option maxHeartbeats 4000000 in
set_option maxRecDepth 100000 in
theorem eS_12_immediate (g : eh_P) (s : eh_F) (p0 : Int32) (p1 : Int32) (p2 : Int32) (p3 : Int32) (p4 : Int32) (p5 : Int32) (p6 : Int32) (p7 : Int32) : eh_Sim g eM_12_immediate (eh_R 3 0 0) eh_eV 0 0 0 (eh_en 9 [.ref 127, .int p0, .int p1, .int p2, .int p3, .int p4, .int p5, .int p6, .int p7]) [] (eh_FW s) (eF_12_immediate s p0 p1 p2 p3 p4 p5 p6 p7) := by
  unfold eF_12_immediate
  refine ef_top (L := [some (.ref 127), some (.int p0), some (.int p1), some (.int p2), some (.int p3), some (.int p4), some (.int p5), some (.int p6), some (.int p7)]) rfl ?_
  refine es_blk (pc' := 2) (L' := [some (.ref 127), some (.int p0), some (.int p1), some (.int p2), some (.int p3), some (.int p4), some (.int p5), some (.int p6), some (.int p7)]) (st' := [.int p3]) [(.iload 4, 0)] (by decide +kernel) rfl rfl ?_
  refine ef_J (X := fun j1 => ∀ (s2 : eh_F), eh_Sim g eM_12_immediate (eh_R 3 0 0) eh_eV 0 0 223 [none, none, none, none, none, none, none, none, none] [] (eh_FW s2) ((j1 s2).bind some)) ?_ (fun j1 Hj1 => ?_)
  · intro s2
    exact es_ret rfl rfl rfl ⟨by decide +kernel, rfl⟩ (Nat.le_refl _) (Nat.le_refl _)
  refine ef_J (X := fun j3 => ∀ (u4 : Unit), eh_Sim g eM_12_immediate (eh_R 3 0 0) eh_eV 0 0 177 [some (.ref 127), some (.int p0), some (.int p1), some (.int p2), none, some (.int p4), some (.int p5), some (.int p6), none] [] (eh_FW s) ((j3 u4).bind some)) ?_ (fun j3 Hj3 => ?_)
  · intro u4
    refine es_blk (pc' := 179) (L' := [some (.ref 127), some (.int p0), some (.int p1), some (.int p2), none, some (.int p4), some (.int p5), some (.int p6), none]) (st' := [.int p5]) [(.iload 6, 0)] (by decide +kernel) rfl rfl ?_
    refine es_ne (tgt := 196) (off := (17)) (by decide +kernel) (by decide) (fun h5 => ?_) (fun h5 => ?_)
    · refine es_blk (pc' := 190) (L' := [some (.ref 127), some (.int p0), some (.int p1), some (.int p2), none, some (.int p4), some (.int p5), some (.int p6), none]) (st' := [.int (eh_ushr p6 p4), .int p2, .int p0, .ref 127]) [(.aload_n 0, 0), (.iload_n 1, 0), (.iload_n 3, 0), (.iload 7, 0), (.iload 5, 0), (.iushr, 0)] (by decide +kernel) rfl rfl ?_
      refine ef_veV (d := 2) (k := 127) (As := [.int p0, .int p2, .int (eh_ushr p6 p4)]) (st := []) eV_12_set eK_12_426 (eS_12_set g s p0 p2 (eh_ushr p6 p4)) rfl rfl (Nat.le_of_ble_eq_true rfl) rfl (Nat.le_of_ble_eq_true rfl) ⟨Nat.le_of_ble_eq_true rfl, Nat.le_of_ble_eq_true rfl⟩ ⟨Nat.le_refl _, Nat.le_refl _⟩ (by decide +kernel) (fun q6 _ => ?_)
      refine es_goto (tgt := 223) (off := (30)) (by decide +kernel) (by decide) ?_
      refine ef_drop (L2 := [none, none, none, none, none, none, none, none, none]) [false, false, false, false, true, false, false, false, true] rfl rfl ?_
      exact Hj1 _
    refine es_blk (pc' := 200) (L' := [some (.ref 127), some (.int p0), some (.int p1), some (.int p2), none, some (.int p4), some (.int p5), some (.int p6), none]) (st' := [.int 32, .int p5]) [(.iload 6, 0), (.bipush 32, 32)] (by decide +kernel) rfl rfl ?_
    refine es_ine (tgt := 217) (off := (17)) (by decide +kernel) (by decide) (fun h7 => ?_) (fun h7 => ?_)
    · refine es_blk (pc' := 211) (L' := [some (.ref 127), some (.int p0), some (.int p1), some (.int p2), none, some (.int p4), some (.int p5), some (.int p6), none]) (st' := [.int (eh_shr p6 p4), .int p2, .int p0, .ref 127]) [(.aload_n 0, 0), (.iload_n 1, 0), (.iload_n 3, 0), (.iload 7, 0), (.iload 5, 0), (.ishr, 0)] (by decide +kernel) rfl rfl ?_
      refine ef_veV (d := 2) (k := 127) (As := [.int p0, .int p2, .int (eh_shr p6 p4)]) (st := []) eV_12_set eK_12_426 (eS_12_set g s p0 p2 (eh_shr p6 p4)) rfl rfl (Nat.le_of_ble_eq_true rfl) rfl (Nat.le_of_ble_eq_true rfl) ⟨Nat.le_of_ble_eq_true rfl, Nat.le_of_ble_eq_true rfl⟩ ⟨Nat.le_refl _, Nat.le_refl _⟩ (by decide +kernel) (fun q8 _ => ?_)
      refine es_goto (tgt := 223) (off := (9)) (by decide +kernel) (by decide) ?_
      refine ef_drop (L2 := [none, none, none, none, none, none, none, none, none]) [false, false, false, false, true, false, false, false, true] rfl rfl ?_
      exact Hj1 _
    refine es_blk (pc' := 220) (L' := [some (.ref 127), some (.int p0), some (.int p1), some (.int p2), none, some (.int p4), some (.int p5), some (.int p6), none]) (st' := [.int p1, .int 2, .ref 127]) [(.aload_n 0, 0), (.iconst 2, 2), (.iload_n 2, 0)] (by decide +kernel) rfl rfl ?_
    refine ef_veV (d := 1) (k := 127) (As := [.int 2, .int p1]) (st := []) eV_12_except eK_12_359 (eS_12_except g s 2 p1) rfl rfl (Nat.le_of_ble_eq_true rfl) rfl (Nat.le_of_ble_eq_true rfl) ⟨Nat.le_of_ble_eq_true rfl, Nat.le_of_ble_eq_true rfl⟩ ⟨Nat.le_refl _, Nat.le_refl _⟩ (by decide +kernel) (fun q9 _ => ?_)
    refine ef_drop (L2 := [none, none, none, none, none, none, none, none, none]) [false, false, false, false, true, false, false, false, true] rfl rfl ?_
    exact Hj1 _
  have hs10 : decode eM_12_immediate.2.1 2 = .ok (.tableswitch (175) (0) (7) #[(46), (147), (60), (81), (105), (175), (119), (133)], 46) := by decide +kernel
  refine es_ifc (fun h11 => ?_) (fun h11 => ?_)
  · refine es_tsw (off := (46)) (tgt := 48) hs10 0 h11 (by decide) ?_
    refine es_blk (pc' := 56) (L' := [some (.ref 127), some (.int p0), some (.int p1), some (.int p2), some (.int p3), some (.int p4), some (.int p5), some (.int p6), some (.int p7)]) (st' := [.int (p6 + p7), .int p2, .int p0, .ref 127]) [(.aload_n 0, 0), (.iload_n 1, 0), (.iload_n 3, 0), (.iload 7, 0), (.iload 8, 0), (.iadd, 0)] (by decide +kernel) rfl rfl ?_
    refine ef_veV (d := 2) (k := 127) (As := [.int p0, .int p2, .int (p6 + p7)]) (st := []) eV_12_set eK_12_426 (eS_12_set g s p0 p2 (p6 + p7)) rfl rfl (Nat.le_of_ble_eq_true rfl) rfl (Nat.le_of_ble_eq_true rfl) ⟨Nat.le_of_ble_eq_true rfl, Nat.le_of_ble_eq_true rfl⟩ ⟨Nat.le_refl _, Nat.le_refl _⟩ (by decide +kernel) (fun q12 _ => ?_)
    refine es_goto (tgt := 223) (off := (164)) (by decide +kernel) (by decide) ?_
    refine ef_drop (L2 := [none, none, none, none, none, none, none, none, none]) [false, false, false, false, false, false, false, false, false] rfl rfl ?_
    exact Hj1 _
  refine es_ifc (fun h13 => ?_) (fun h13 => ?_)
  · refine es_tsw (off := (147)) (tgt := 149) hs10 1 h13 (by decide) ?_
    refine es_blk (pc' := 151) (L' := [some (.ref 127), some (.int p0), some (.int p1), some (.int p2), some (.int p3), some (.int p4), some (.int p5), some (.int p6), some (.int p7)]) (st' := [.int p5]) [(.iload 6, 0)] (by decide +kernel) rfl rfl ?_
    refine es_ne (tgt := 168) (off := (17)) (by decide +kernel) (by decide) (fun h14 => ?_) (fun h14 => ?_)
    · refine es_blk (pc' := 162) (L' := [some (.ref 127), some (.int p0), some (.int p1), some (.int p2), some (.int p3), some (.int p4), some (.int p5), some (.int p6), some (.int p7)]) (st' := [.int (eh_shl p6 p4), .int p2, .int p0, .ref 127]) [(.aload_n 0, 0), (.iload_n 1, 0), (.iload_n 3, 0), (.iload 7, 0), (.iload 5, 0), (.ishl, 0)] (by decide +kernel) rfl rfl ?_
      refine ef_veV (d := 2) (k := 127) (As := [.int p0, .int p2, .int (eh_shl p6 p4)]) (st := []) eV_12_set eK_12_426 (eS_12_set g s p0 p2 (eh_shl p6 p4)) rfl rfl (Nat.le_of_ble_eq_true rfl) rfl (Nat.le_of_ble_eq_true rfl) ⟨Nat.le_of_ble_eq_true rfl, Nat.le_of_ble_eq_true rfl⟩ ⟨Nat.le_refl _, Nat.le_refl _⟩ (by decide +kernel) (fun q15 _ => ?_)
      refine es_goto (tgt := 223) (off := (58)) (by decide +kernel) (by decide) ?_
      refine ef_drop (L2 := [none, none, none, none, none, none, none, none, none]) [false, false, false, false, false, false, false, false, false] rfl rfl ?_
      exact Hj1 _
    refine es_blk (pc' := 171) (L' := [some (.ref 127), some (.int p0), some (.int p1), some (.int p2), some (.int p3), some (.int p4), some (.int p5), some (.int p6), some (.int p7)]) (st' := [.int p1, .int 2, .ref 127]) [(.aload_n 0, 0), (.iconst 2, 2), (.iload_n 2, 0)] (by decide +kernel) rfl rfl ?_
    refine ef_veV (d := 1) (k := 127) (As := [.int 2, .int p1]) (st := []) eV_12_except eK_12_359 (eS_12_except g s 2 p1) rfl rfl (Nat.le_of_ble_eq_true rfl) rfl (Nat.le_of_ble_eq_true rfl) ⟨Nat.le_of_ble_eq_true rfl, Nat.le_of_ble_eq_true rfl⟩ ⟨Nat.le_refl _, Nat.le_refl _⟩ (by decide +kernel) (fun q16 _ => ?_)
    refine es_goto (tgt := 223) (off := (49)) (by decide +kernel) (by decide) ?_
    refine ef_drop (L2 := [none, none, none, none, none, none, none, none, none]) [false, false, false, false, false, false, false, false, false] rfl rfl ?_
    exact Hj1 _
  refine es_ifc (fun h17 => ?_) (fun h17 => ?_)
  · refine es_tsw (off := (60)) (tgt := 62) hs10 2 h17 (by decide) ?_
    refine es_blk (pc' := 69) (L' := [some (.ref 127), some (.int p0), some (.int p1), some (.int p2), some (.int p3), some (.int p4), some (.int p5), some (.int p6), some (.int p7)]) (st' := [.int p7, .int p6, .int p2, .int p0, .ref 127]) [(.aload_n 0, 0), (.iload_n 1, 0), (.iload_n 3, 0), (.iload 7, 0), (.iload 8, 0)] (by decide +kernel) rfl rfl ?_
    refine ef_J (X := fun j18 => ∀ (a19 : Int32), eh_Sim g eM_12_immediate (eh_R 3 0 0) eh_eV 0 0 77 [none, none, none, none, none, none, none, none, none] [.int a19, .int p2, .int p0, .ref 127] (eh_FW s) ((j18 a19).bind some)) ?_ (fun j18 Hj18 => ?_)
    · intro a19
      refine ef_veV (d := 2) (k := 127) (As := [.int p0, .int p2, .int a19]) (st := []) eV_12_set eK_12_426 (eS_12_set g s p0 p2 a19) rfl rfl (Nat.le_of_ble_eq_true rfl) rfl (Nat.le_of_ble_eq_true rfl) ⟨Nat.le_of_ble_eq_true rfl, Nat.le_of_ble_eq_true rfl⟩ ⟨Nat.le_refl _, Nat.le_refl _⟩ (by decide +kernel) (fun q20 _ => ?_)
      refine es_goto (tgt := 223) (off := (143)) (by decide +kernel) (by decide) ?_
      exact Hj1 _
    refine es_ige (tgt := 76) (off := (7)) (by decide +kernel) (by decide) (fun h21 => ?_) (fun h21 => ?_)
    · refine es_blk (pc' := 73) (L' := [some (.ref 127), some (.int p0), some (.int p1), some (.int p2), some (.int p3), some (.int p4), some (.int p5), some (.int p6), some (.int p7)]) (st' := [.int 1, .int p2, .int p0, .ref 127]) [(.iconst 1, 1)] (by decide +kernel) rfl rfl ?_
      refine es_goto (tgt := 77) (off := (4)) (by decide +kernel) (by decide) ?_
      refine ef_drop (L2 := [none, none, none, none, none, none, none, none, none]) [false, false, false, false, false, false, false, false, false] rfl rfl ?_
      exact Hj18 _
    refine es_blk (pc' := 77) (L' := [some (.ref 127), some (.int p0), some (.int p1), some (.int p2), some (.int p3), some (.int p4), some (.int p5), some (.int p6), some (.int p7)]) (st' := [.int 0, .int p2, .int p0, .ref 127]) [(.iconst 0, 0)] (by decide +kernel) rfl rfl ?_
    refine ef_drop (L2 := [none, none, none, none, none, none, none, none, none]) [false, false, false, false, false, false, false, false, false] rfl rfl ?_
    exact Hj18 _
  refine es_ifc (fun h22 => ?_) (fun h22 => ?_)
  · refine es_tsw (off := (81)) (tgt := 83) hs10 3 h22 (by decide) ?_
    refine es_blk (pc' := 90) (L' := [some (.ref 127), some (.int p0), some (.int p1), some (.int p2), some (.int p3), some (.int p4), some (.int p5), some (.int p6), some (.int p7)]) (st' := [.int p7, .int p6, .int p2, .int p0, .ref 127]) [(.aload_n 0, 0), (.iload_n 1, 0), (.iload_n 3, 0), (.iload 7, 0), (.iload 8, 0)] (by decide +kernel) rfl rfl ?_
    refine ef_spI (d := 2) (As := [.int p6, .int p7]) (st := [.int p2, .int p0, .ref 127]) eV_20_compareUnsigned eK_12_398 (eS_20_compareUnsigned g s p6 p7) rfl (Nat.le_of_ble_eq_true rfl) rfl (Nat.le_of_ble_eq_true rfl) ⟨Nat.le_of_ble_eq_true rfl, Nat.le_of_ble_eq_true rfl⟩ ⟨Nat.le_refl _, Nat.le_refl _⟩ (by decide +kernel) (fun q23 _ => ?_)
    refine ef_J (X := fun j24 => ∀ (a25 : Int32), eh_Sim g eM_12_immediate (eh_R 3 0 0) eh_eV 0 0 101 [none, none, none, none, none, none, none, none, none] [.int a25, .int p2, .int p0, .ref 127] (eh_FW s) ((j24 a25).bind some)) ?_ (fun j24 Hj24 => ?_)
    · intro a25
      refine ef_veV (d := 2) (k := 127) (As := [.int p0, .int p2, .int a25]) (st := []) eV_12_set eK_12_426 (eS_12_set g s p0 p2 a25) rfl rfl (Nat.le_of_ble_eq_true rfl) rfl (Nat.le_of_ble_eq_true rfl) ⟨Nat.le_of_ble_eq_true rfl, Nat.le_of_ble_eq_true rfl⟩ ⟨Nat.le_refl _, Nat.le_refl _⟩ (by decide +kernel) (fun q26 _ => ?_)
      refine es_goto (tgt := 223) (off := (119)) (by decide +kernel) (by decide) ?_
      exact Hj1 _
    refine es_ge (tgt := 100) (off := (7)) (by decide +kernel) (by decide) (fun h27 => ?_) (fun h27 => ?_)
    · refine es_blk (pc' := 97) (L' := [some (.ref 127), some (.int p0), some (.int p1), some (.int p2), some (.int p3), some (.int p4), some (.int p5), some (.int p6), some (.int p7)]) (st' := [.int 1, .int p2, .int p0, .ref 127]) [(.iconst 1, 1)] (by decide +kernel) rfl rfl ?_
      refine es_goto (tgt := 101) (off := (4)) (by decide +kernel) (by decide) ?_
      refine ef_drop (L2 := [none, none, none, none, none, none, none, none, none]) [false, false, false, false, false, false, false, false, false] rfl rfl ?_
      exact Hj24 _
    refine es_blk (pc' := 101) (L' := [some (.ref 127), some (.int p0), some (.int p1), some (.int p2), some (.int p3), some (.int p4), some (.int p5), some (.int p6), some (.int p7)]) (st' := [.int 0, .int p2, .int p0, .ref 127]) [(.iconst 0, 0)] (by decide +kernel) rfl rfl ?_
    refine ef_drop (L2 := [none, none, none, none, none, none, none, none, none]) [false, false, false, false, false, false, false, false, false] rfl rfl ?_
    exact Hj24 _
  refine es_ifc (fun h28 => ?_) (fun h28 => ?_)
  · refine es_tsw (off := (105)) (tgt := 107) hs10 4 h28 (by decide) ?_
    refine es_blk (pc' := 115) (L' := [some (.ref 127), some (.int p0), some (.int p1), some (.int p2), some (.int p3), some (.int p4), some (.int p5), some (.int p6), some (.int p7)]) (st' := [.int (p6 ^^^ p7), .int p2, .int p0, .ref 127]) [(.aload_n 0, 0), (.iload_n 1, 0), (.iload_n 3, 0), (.iload 7, 0), (.iload 8, 0), (.ixor, 0)] (by decide +kernel) rfl rfl ?_
    refine ef_veV (d := 2) (k := 127) (As := [.int p0, .int p2, .int (p6 ^^^ p7)]) (st := []) eV_12_set eK_12_426 (eS_12_set g s p0 p2 (p6 ^^^ p7)) rfl rfl (Nat.le_of_ble_eq_true rfl) rfl (Nat.le_of_ble_eq_true rfl) ⟨Nat.le_of_ble_eq_true rfl, Nat.le_of_ble_eq_true rfl⟩ ⟨Nat.le_refl _, Nat.le_refl _⟩ (by decide +kernel) (fun q29 _ => ?_)
    refine es_goto (tgt := 223) (off := (105)) (by decide +kernel) (by decide) ?_
    refine ef_drop (L2 := [none, none, none, none, none, none, none, none, none]) [false, false, false, false, false, false, false, false, false] rfl rfl ?_
    exact Hj1 _
  refine es_ifc (fun h30 => ?_) (fun h30 => ?_)
  · refine es_tsw (off := (119)) (tgt := 121) hs10 6 h30 (by decide) ?_
    refine es_blk (pc' := 129) (L' := [some (.ref 127), some (.int p0), some (.int p1), some (.int p2), some (.int p3), some (.int p4), some (.int p5), some (.int p6), some (.int p7)]) (st' := [.int (p6 ||| p7), .int p2, .int p0, .ref 127]) [(.aload_n 0, 0), (.iload_n 1, 0), (.iload_n 3, 0), (.iload 7, 0), (.iload 8, 0), (.ior, 0)] (by decide +kernel) rfl rfl ?_
    refine ef_veV (d := 2) (k := 127) (As := [.int p0, .int p2, .int (p6 ||| p7)]) (st := []) eV_12_set eK_12_426 (eS_12_set g s p0 p2 (p6 ||| p7)) rfl rfl (Nat.le_of_ble_eq_true rfl) rfl (Nat.le_of_ble_eq_true rfl) ⟨Nat.le_of_ble_eq_true rfl, Nat.le_of_ble_eq_true rfl⟩ ⟨Nat.le_refl _, Nat.le_refl _⟩ (by decide +kernel) (fun q31 _ => ?_)
    refine es_goto (tgt := 223) (off := (91)) (by decide +kernel) (by decide) ?_
    refine ef_drop (L2 := [none, none, none, none, none, none, none, none, none]) [false, false, false, false, false, false, false, false, false] rfl rfl ?_
    exact Hj1 _
  refine es_ifc (fun h32 => ?_) (fun h32 => ?_)
  · refine es_tsw (off := (133)) (tgt := 135) hs10 7 h32 (by decide) ?_
    refine es_blk (pc' := 143) (L' := [some (.ref 127), some (.int p0), some (.int p1), some (.int p2), some (.int p3), some (.int p4), some (.int p5), some (.int p6), some (.int p7)]) (st' := [.int (p6 &&& p7), .int p2, .int p0, .ref 127]) [(.aload_n 0, 0), (.iload_n 1, 0), (.iload_n 3, 0), (.iload 7, 0), (.iload 8, 0), (.iand, 0)] (by decide +kernel) rfl rfl ?_
    refine ef_veV (d := 2) (k := 127) (As := [.int p0, .int p2, .int (p6 &&& p7)]) (st := []) eV_12_set eK_12_426 (eS_12_set g s p0 p2 (p6 &&& p7)) rfl rfl (Nat.le_of_ble_eq_true rfl) rfl (Nat.le_of_ble_eq_true rfl) ⟨Nat.le_of_ble_eq_true rfl, Nat.le_of_ble_eq_true rfl⟩ ⟨Nat.le_refl _, Nat.le_refl _⟩ (by decide +kernel) (fun q33 _ => ?_)
    refine es_goto (tgt := 223) (off := (77)) (by decide +kernel) (by decide) ?_
    refine ef_drop (L2 := [none, none, none, none, none, none, none, none, none]) [false, false, false, false, false, false, false, false, false] rfl rfl ?_
    exact Hj1 _
  refine es_tswD (tgt := 177) hs10 [0, 1, 2, 3, 4, 6, 7] (List.forall_mem_cons.mpr ⟨eh_nei 0 0 (by decide) h11, (List.forall_mem_cons.mpr ⟨eh_nei 1 1 (by decide) h13, (List.forall_mem_cons.mpr ⟨eh_nei 2 2 (by decide) h17, (List.forall_mem_cons.mpr ⟨eh_nei 3 3 (by decide) h22, (List.forall_mem_cons.mpr ⟨eh_nei 4 4 (by decide) h28, (List.forall_mem_cons.mpr ⟨eh_nei 6 6 (by decide) h30, (List.forall_mem_cons.mpr ⟨eh_nei 7 7 (by decide) h32, (List.forall_mem_nil _)⟩)⟩)⟩)⟩)⟩)⟩)⟩) (by decide) (by decide) (by decide) ?_
  refine ef_drop (L2 := [some (.ref 127), some (.int p0), some (.int p1), some (.int p2), none, some (.int p4), some (.int p5), some (.int p6), none]) [true, true, true, true, false, true, true, true, false] rfl rfl ?_
  exact Hj3 ()
def eF_12_plain (s : eh_F) (p0 : Int32) (p1 : Int32) (p2 : Int32) : Option (Int32) := if p0 = 0 then (some (p1 + p2)) else if p0 = 1 then (some (eh_shl p1 p2)) else if p0 = 2 then (eh_J (fun (a6 : Int32) => some a6) (fun j5 => if p1 < p2 then (j5 1) else (j5 0))) else if p0 = 3 then (Option.bind (eF_20_compareUnsigned s p1 p2) (fun q9 => eh_J (fun (a11 : Int32) => some a11) (fun j10 => if q9 < 0 then (j10 1) else (j10 0)))) else if p0 = 4 then (some (p1 ^^^ p2)) else if p0 = 5 then (some (eh_ushr p1 p2)) else if p0 = 6 then (some (p1 ||| p2)) else (some (p1 &&& p2))
set_option maxHeartbeats 4000000 in
set_option maxRecDepth 100000 in
theorem eS_12_plain (g : eh_P) (s : eh_F) (p0 : Int32) (p1 : Int32) (p2 : Int32) : eh_Sim g eM_12_plain (eh_R 3 0 0) (eh_pI s) 0 0 0 (eh_en 3 [.int p0, .int p1, .int p2]) [] (eh_FW s) (eF_12_plain s p0 p1 p2) := by
  unfold eF_12_plain
  refine ef_top (L := [some (.int p0), some (.int p1), some (.int p2)]) rfl ?_
  refine es_blk (pc' := 1) (L' := [some (.int p0), some (.int p1), some (.int p2)]) (st' := [.int p0]) [(.iload_n 0, 0)] (by decide +kernel) rfl rfl ?_
  have hs1 : decode eM_12_plain.2.1 1 = .ok (.tableswitch (88) (0) (6) #[(43), (47), (51), (62), (76), (80), (84)], 43) := by decide +kernel
  refine es_ifc (fun h2 => ?_) (fun h2 => ?_)
  · refine es_tsw (off := (43)) (tgt := 44) hs1 0 h2 (by decide) ?_
    refine es_blk (pc' := 47) (L' := [some (.int p0), some (.int p1), some (.int p2)]) (st' := [.int (p1 + p2)]) [(.iload_n 1, 0), (.iload_n 2, 0), (.iadd, 0)] (by decide +kernel) rfl rfl ?_
    exact es_ret rfl rfl rfl ⟨by decide +kernel, _, rfl, rfl⟩ (Nat.le_refl _) (Nat.le_refl _)
  refine es_ifc (fun h3 => ?_) (fun h3 => ?_)
  · refine es_tsw (off := (47)) (tgt := 48) hs1 1 h3 (by decide) ?_
    refine es_blk (pc' := 51) (L' := [some (.int p0), some (.int p1), some (.int p2)]) (st' := [.int (eh_shl p1 p2)]) [(.iload_n 1, 0), (.iload_n 2, 0), (.ishl, 0)] (by decide +kernel) rfl rfl ?_
    exact es_ret rfl rfl rfl ⟨by decide +kernel, _, rfl, rfl⟩ (Nat.le_refl _) (Nat.le_refl _)
  refine es_ifc (fun h4 => ?_) (fun h4 => ?_)
  · refine es_tsw (off := (51)) (tgt := 52) hs1 2 h4 (by decide) ?_
    refine es_blk (pc' := 54) (L' := [some (.int p0), some (.int p1), some (.int p2)]) (st' := [.int p2, .int p1]) [(.iload_n 1, 0), (.iload_n 2, 0)] (by decide +kernel) rfl rfl ?_
    refine ef_J (X := fun j5 => ∀ (a6 : Int32), eh_Sim g eM_12_plain (eh_R 3 0 0) (eh_pI s) 0 0 62 [none, none, none] [.int a6] (eh_FW s) ((j5 a6).bind some)) ?_ (fun j5 Hj5 => ?_)
    · intro a6
      exact es_ret rfl rfl rfl ⟨by decide +kernel, _, rfl, rfl⟩ (Nat.le_refl _) (Nat.le_refl _)
    refine es_ige (tgt := 61) (off := (7)) (by decide +kernel) (by decide) (fun h7 => ?_) (fun h7 => ?_)
    · refine es_blk (pc' := 58) (L' := [some (.int p0), some (.int p1), some (.int p2)]) (st' := [.int 1]) [(.iconst 1, 1)] (by decide +kernel) rfl rfl ?_
      refine es_goto (tgt := 62) (off := (4)) (by decide +kernel) (by decide) ?_
      refine ef_drop (L2 := [none, none, none]) [false, false, false] rfl rfl ?_
      exact Hj5 _
    refine es_blk (pc' := 62) (L' := [some (.int p0), some (.int p1), some (.int p2)]) (st' := [.int 0]) [(.iconst 0, 0)] (by decide +kernel) rfl rfl ?_
    refine ef_drop (L2 := [none, none, none]) [false, false, false] rfl rfl ?_
    exact Hj5 _
  refine es_ifc (fun h8 => ?_) (fun h8 => ?_)
  · refine es_tsw (off := (62)) (tgt := 63) hs1 3 h8 (by decide) ?_
    refine es_blk (pc' := 65) (L' := [some (.int p0), some (.int p1), some (.int p2)]) (st' := [.int p2, .int p1]) [(.iload_n 1, 0), (.iload_n 2, 0)] (by decide +kernel) rfl rfl ?_
    refine ef_spI (d := 2) (As := [.int p1, .int p2]) (st := []) eV_20_compareUnsigned eK_12_398 (eS_20_compareUnsigned g s p1 p2) rfl (Nat.le_of_ble_eq_true rfl) rfl (Nat.le_of_ble_eq_true rfl) ⟨Nat.le_of_ble_eq_true rfl, Nat.le_of_ble_eq_true rfl⟩ ⟨Nat.le_refl _, Nat.le_refl _⟩ (by decide +kernel) (fun q9 _ => ?_)
    refine ef_J (X := fun j10 => ∀ (a11 : Int32), eh_Sim g eM_12_plain (eh_R 3 0 0) (eh_pI s) 0 0 76 [none, none, none] [.int a11] (eh_FW s) ((j10 a11).bind some)) ?_ (fun j10 Hj10 => ?_)
    · intro a11
      exact es_ret rfl rfl rfl ⟨by decide +kernel, _, rfl, rfl⟩ (Nat.le_refl _) (Nat.le_refl _)
    refine es_ge (tgt := 75) (off := (7)) (by decide +kernel) (by decide) (fun h12 => ?_) (fun h12 => ?_)
    · refine es_blk (pc' := 72) (L' := [some (.int p0), some (.int p1), some (.int p2)]) (st' := [.int 1]) [(.iconst 1, 1)] (by decide +kernel) rfl rfl ?_
      refine es_goto (tgt := 76) (off := (4)) (by decide +kernel) (by decide) ?_
      refine ef_drop (L2 := [none, none, none]) [false, false, false] rfl rfl ?_
      exact Hj10 _
    refine es_blk (pc' := 76) (L' := [some (.int p0), some (.int p1), some (.int p2)]) (st' := [.int 0]) [(.iconst 0, 0)] (by decide +kernel) rfl rfl ?_
    refine ef_drop (L2 := [none, none, none]) [false, false, false] rfl rfl ?_
    exact Hj10 _
  refine es_ifc (fun h13 => ?_) (fun h13 => ?_)
  · refine es_tsw (off := (76)) (tgt := 77) hs1 4 h13 (by decide) ?_
    refine es_blk (pc' := 80) (L' := [some (.int p0), some (.int p1), some (.int p2)]) (st' := [.int (p1 ^^^ p2)]) [(.iload_n 1, 0), (.iload_n 2, 0), (.ixor, 0)] (by decide +kernel) rfl rfl ?_
    exact es_ret rfl rfl rfl ⟨by decide +kernel, _, rfl, rfl⟩ (Nat.le_refl _) (Nat.le_refl _)
  refine es_ifc (fun h14 => ?_) (fun h14 => ?_)
  · refine es_tsw (off := (80)) (tgt := 81) hs1 5 h14 (by decide) ?_
    refine es_blk (pc' := 84) (L' := [some (.int p0), some (.int p1), some (.int p2)]) (st' := [.int (eh_ushr p1 p2)]) [(.iload_n 1, 0), (.iload_n 2, 0), (.iushr, 0)] (by decide +kernel) rfl rfl ?_
    exact es_ret rfl rfl rfl ⟨by decide +kernel, _, rfl, rfl⟩ (Nat.le_refl _) (Nat.le_refl _)
  refine es_ifc (fun h15 => ?_) (fun h15 => ?_)
  · refine es_tsw (off := (84)) (tgt := 85) hs1 6 h15 (by decide) ?_
    refine es_blk (pc' := 88) (L' := [some (.int p0), some (.int p1), some (.int p2)]) (st' := [.int (p1 ||| p2)]) [(.iload_n 1, 0), (.iload_n 2, 0), (.ior, 0)] (by decide +kernel) rfl rfl ?_
    exact es_ret rfl rfl rfl ⟨by decide +kernel, _, rfl, rfl⟩ (Nat.le_refl _) (Nat.le_refl _)
  refine es_tswD (tgt := 89) hs1 [0, 1, 2, 3, 4, 5, 6] (List.forall_mem_cons.mpr ⟨eh_nei 0 0 (by decide) h2, (List.forall_mem_cons.mpr ⟨eh_nei 1 1 (by decide) h3, (List.forall_mem_cons.mpr ⟨eh_nei 2 2 (by decide) h4, (List.forall_mem_cons.mpr ⟨eh_nei 3 3 (by decide) h8, (List.forall_mem_cons.mpr ⟨eh_nei 4 4 (by decide) h13, (List.forall_mem_cons.mpr ⟨eh_nei 5 5 (by decide) h14, (List.forall_mem_cons.mpr ⟨eh_nei 6 6 (by decide) h15, (List.forall_mem_nil _)⟩)⟩)⟩)⟩)⟩)⟩)⟩) (by decide) (by decide) (by decide) ?_
  refine es_blk (pc' := 92) (L' := [some (.int p0), some (.int p1), some (.int p2)]) (st' := [.int (p1 &&& p2)]) [(.iload_n 1, 0), (.iload_n 2, 0), (.iand, 0)] (by decide +kernel) rfl rfl ?_
  exact es_ret rfl rfl rfl ⟨by decide +kernel, _, rfl, rfl⟩ (Nat.le_refl _) (Nat.le_refl _)
def eF_12_joined (s : eh_F) (p0 : Int32) (p1 : Int32) (p2 : Int32) : Option (Int32) := eh_J (fun (u2 : Unit) => Option.bind (eF_20_compareUnsigned s p1 p2) (fun q3 => eh_J (fun (a5 : Int32) => some a5) (fun j4 => if 0 < q3 then (j4 p1) else (j4 p2)))) (fun j1 => if p0 = 0 then (some (p1 + p2)) else if p0 = 1 then (some p2) else if p0 = 4 then (some (p1 ^^^ p2)) else if p0 = 8 then (some (p1 ||| p2)) else if p0 = 12 then (some (p1 &&& p2)) else if p0 = 16 then (some (if p2 < p1 then p2 else p1)) else if p0 = 20 then (some (if p1 < p2 then p2 else p1)) else if p0 = 24 then (Option.bind (eF_20_compareUnsigned s p1 p2) (fun q16 => eh_J (fun (a18 : Int32) => some a18) (fun j17 => if q16 < 0 then (j17 p1) else (j17 p2)))) else (j1 ()))
set_option maxHeartbeats 4000000 in
set_option maxRecDepth 100000 in
theorem eS_12_joined (g : eh_P) (s : eh_F) (p0 : Int32) (p1 : Int32) (p2 : Int32) : eh_Sim g eM_12_joined (eh_R 3 0 0) (eh_pI s) 0 0 0 (eh_en 3 [.int p0, .int p1, .int p2]) [] (eh_FW s) (eF_12_joined s p0 p1 p2) := by
  unfold eF_12_joined
  refine ef_top (L := [some (.int p0), some (.int p1), some (.int p2)]) rfl ?_
  refine es_blk (pc' := 1) (L' := [some (.int p0), some (.int p1), some (.int p2)]) (st' := [.int p0]) [(.iload_n 0, 0)] (by decide +kernel) rfl rfl ?_
  refine ef_J (X := fun j1 => ∀ (u2 : Unit), eh_Sim g eM_12_joined (eh_R 3 0 0) (eh_pI s) 0 0 160 [none, some (.int p1), some (.int p2)] [] (eh_FW s) ((j1 u2).bind some)) ?_ (fun j1 Hj1 => ?_)
  · intro u2
    refine es_blk (pc' := 162) (L' := [none, some (.int p1), some (.int p2)]) (st' := [.int p2, .int p1]) [(.iload_n 1, 0), (.iload_n 2, 0)] (by decide +kernel) rfl rfl ?_
    refine ef_spI (d := 2) (As := [.int p1, .int p2]) (st := []) eV_20_compareUnsigned eK_12_398 (eS_20_compareUnsigned g s p1 p2) rfl (Nat.le_of_ble_eq_true rfl) rfl (Nat.le_of_ble_eq_true rfl) ⟨Nat.le_of_ble_eq_true rfl, Nat.le_of_ble_eq_true rfl⟩ ⟨Nat.le_refl _, Nat.le_refl _⟩ (by decide +kernel) (fun q3 _ => ?_)
    refine ef_J (X := fun j4 => ∀ (a5 : Int32), eh_Sim g eM_12_joined (eh_R 3 0 0) (eh_pI s) 0 0 173 [none, none, none] [.int a5] (eh_FW s) ((j4 a5).bind some)) ?_ (fun j4 Hj4 => ?_)
    · intro a5
      exact es_ret rfl rfl rfl ⟨by decide +kernel, _, rfl, rfl⟩ (Nat.le_refl _) (Nat.le_refl _)
    refine es_le (tgt := 172) (off := (7)) (by decide +kernel) (by decide) (fun h6 => ?_) (fun h6 => ?_)
    · refine es_blk (pc' := 169) (L' := [none, some (.int p1), some (.int p2)]) (st' := [.int p1]) [(.iload_n 1, 0)] (by decide +kernel) rfl rfl ?_
      refine es_goto (tgt := 173) (off := (4)) (by decide +kernel) (by decide) ?_
      refine ef_drop (L2 := [none, none, none]) [true, false, false] rfl rfl ?_
      exact Hj4 _
    refine es_blk (pc' := 173) (L' := [none, some (.int p1), some (.int p2)]) (st' := [.int p2]) [(.iload_n 2, 0)] (by decide +kernel) rfl rfl ?_
    refine ef_drop (L2 := [none, none, none]) [true, false, false] rfl rfl ?_
    exact Hj4 _
  have hs7 : decode eM_12_joined.2.1 1 = .ok (.tableswitch (159) (0) (24) #[(117), (115), (159), (159), (121), (159), (159), (159), (125), (159), (159), (159), (129), (159), (159), (159), (133), (159), (159), (159), (139), (159), (159), (159), (145)], 115) := by decide +kernel
  refine es_ifc (fun h8 => ?_) (fun h8 => ?_)
  · refine es_tsw (off := (117)) (tgt := 118) hs7 0 h8 (by decide) ?_
    refine es_blk (pc' := 121) (L' := [some (.int p0), some (.int p1), some (.int p2)]) (st' := [.int (p1 + p2)]) [(.iload_n 1, 0), (.iload_n 2, 0), (.iadd, 0)] (by decide +kernel) rfl rfl ?_
    exact es_ret rfl rfl rfl ⟨by decide +kernel, _, rfl, rfl⟩ (Nat.le_refl _) (Nat.le_refl _)
  refine es_ifc (fun h9 => ?_) (fun h9 => ?_)
  · refine es_tsw (off := (115)) (tgt := 116) hs7 1 h9 (by decide) ?_
    refine es_blk (pc' := 117) (L' := [some (.int p0), some (.int p1), some (.int p2)]) (st' := [.int p2]) [(.iload_n 2, 0)] (by decide +kernel) rfl rfl ?_
    exact es_ret rfl rfl rfl ⟨by decide +kernel, _, rfl, rfl⟩ (Nat.le_refl _) (Nat.le_refl _)
  refine es_ifc (fun h10 => ?_) (fun h10 => ?_)
  · refine es_tsw (off := (121)) (tgt := 122) hs7 4 h10 (by decide) ?_
    refine es_blk (pc' := 125) (L' := [some (.int p0), some (.int p1), some (.int p2)]) (st' := [.int (p1 ^^^ p2)]) [(.iload_n 1, 0), (.iload_n 2, 0), (.ixor, 0)] (by decide +kernel) rfl rfl ?_
    exact es_ret rfl rfl rfl ⟨by decide +kernel, _, rfl, rfl⟩ (Nat.le_refl _) (Nat.le_refl _)
  refine es_ifc (fun h11 => ?_) (fun h11 => ?_)
  · refine es_tsw (off := (125)) (tgt := 126) hs7 8 h11 (by decide) ?_
    refine es_blk (pc' := 129) (L' := [some (.int p0), some (.int p1), some (.int p2)]) (st' := [.int (p1 ||| p2)]) [(.iload_n 1, 0), (.iload_n 2, 0), (.ior, 0)] (by decide +kernel) rfl rfl ?_
    exact es_ret rfl rfl rfl ⟨by decide +kernel, _, rfl, rfl⟩ (Nat.le_refl _) (Nat.le_refl _)
  refine es_ifc (fun h12 => ?_) (fun h12 => ?_)
  · refine es_tsw (off := (129)) (tgt := 130) hs7 12 h12 (by decide) ?_
    refine es_blk (pc' := 133) (L' := [some (.int p0), some (.int p1), some (.int p2)]) (st' := [.int (p1 &&& p2)]) [(.iload_n 1, 0), (.iload_n 2, 0), (.iand, 0)] (by decide +kernel) rfl rfl ?_
    exact es_ret rfl rfl rfl ⟨by decide +kernel, _, rfl, rfl⟩ (Nat.le_refl _) (Nat.le_refl _)
  refine es_ifc (fun h13 => ?_) (fun h13 => ?_)
  · refine es_tsw (off := (133)) (tgt := 134) hs7 16 h13 (by decide) ?_
    refine es_blk (pc' := 136) (L' := [some (.int p0), some (.int p1), some (.int p2)]) (st' := [.int p2, .int p1]) [(.iload_n 1, 0), (.iload_n 2, 0)] (by decide +kernel) rfl rfl ?_
    refine es_mmin (x := p1) (y := p2) eK_12_475 eh_mminS eh_mI eh_mminC ⟨Nat.le_of_ble_eq_true rfl, Nat.le_of_ble_eq_true rfl⟩ ⟨Nat.le_refl _, Nat.le_refl _⟩ (Nat.le_of_ble_eq_true rfl) (by decide +kernel) ?_
    exact es_ret rfl rfl rfl ⟨by decide +kernel, _, rfl, rfl⟩ (Nat.le_refl _) (Nat.le_refl _)
  refine es_ifc (fun h14 => ?_) (fun h14 => ?_)
  · refine es_tsw (off := (139)) (tgt := 140) hs7 20 h14 (by decide) ?_
    refine es_blk (pc' := 142) (L' := [some (.int p0), some (.int p1), some (.int p2)]) (st' := [.int p2, .int p1]) [(.iload_n 1, 0), (.iload_n 2, 0)] (by decide +kernel) rfl rfl ?_
    refine es_mmax (x := p1) (y := p2) eK_12_480 eh_mmaxS eh_mI eh_mmaxC ⟨Nat.le_of_ble_eq_true rfl, Nat.le_of_ble_eq_true rfl⟩ ⟨Nat.le_refl _, Nat.le_refl _⟩ (Nat.le_of_ble_eq_true rfl) (by decide +kernel) ?_
    exact es_ret rfl rfl rfl ⟨by decide +kernel, _, rfl, rfl⟩ (Nat.le_refl _) (Nat.le_refl _)
  refine es_ifc (fun h15 => ?_) (fun h15 => ?_)
  · refine es_tsw (off := (145)) (tgt := 146) hs7 24 h15 (by decide) ?_
    refine es_blk (pc' := 148) (L' := [some (.int p0), some (.int p1), some (.int p2)]) (st' := [.int p2, .int p1]) [(.iload_n 1, 0), (.iload_n 2, 0)] (by decide +kernel) rfl rfl ?_
    refine ef_spI (d := 2) (As := [.int p1, .int p2]) (st := []) eV_20_compareUnsigned eK_12_398 (eS_20_compareUnsigned g s p1 p2) rfl (Nat.le_of_ble_eq_true rfl) rfl (Nat.le_of_ble_eq_true rfl) ⟨Nat.le_of_ble_eq_true rfl, Nat.le_of_ble_eq_true rfl⟩ ⟨Nat.le_refl _, Nat.le_refl _⟩ (by decide +kernel) (fun q16 _ => ?_)
    refine ef_J (X := fun j17 => ∀ (a18 : Int32), eh_Sim g eM_12_joined (eh_R 3 0 0) (eh_pI s) 0 0 159 [none, none, none] [.int a18] (eh_FW s) ((j17 a18).bind some)) ?_ (fun j17 Hj17 => ?_)
    · intro a18
      exact es_ret rfl rfl rfl ⟨by decide +kernel, _, rfl, rfl⟩ (Nat.le_refl _) (Nat.le_refl _)
    refine es_ge (tgt := 158) (off := (7)) (by decide +kernel) (by decide) (fun h19 => ?_) (fun h19 => ?_)
    · refine es_blk (pc' := 155) (L' := [some (.int p0), some (.int p1), some (.int p2)]) (st' := [.int p1]) [(.iload_n 1, 0)] (by decide +kernel) rfl rfl ?_
      refine es_goto (tgt := 159) (off := (4)) (by decide +kernel) (by decide) ?_
      refine ef_drop (L2 := [none, none, none]) [false, false, false] rfl rfl ?_
      exact Hj17 _
    refine es_blk (pc' := 159) (L' := [some (.int p0), some (.int p1), some (.int p2)]) (st' := [.int p2]) [(.iload_n 2, 0)] (by decide +kernel) rfl rfl ?_
    refine ef_drop (L2 := [none, none, none]) [false, false, false] rfl rfl ?_
    exact Hj17 _
  refine es_tswD (tgt := 160) hs7 [0, 1, 4, 8, 12, 16, 20, 24] (List.forall_mem_cons.mpr ⟨eh_nei 0 0 (by decide) h8, (List.forall_mem_cons.mpr ⟨eh_nei 1 1 (by decide) h9, (List.forall_mem_cons.mpr ⟨eh_nei 4 4 (by decide) h10, (List.forall_mem_cons.mpr ⟨eh_nei 8 8 (by decide) h11, (List.forall_mem_cons.mpr ⟨eh_nei 12 12 (by decide) h12, (List.forall_mem_cons.mpr ⟨eh_nei 16 16 (by decide) h13, (List.forall_mem_cons.mpr ⟨eh_nei 20 20 (by decide) h14, (List.forall_mem_cons.mpr ⟨eh_nei 24 24 (by decide) h15, (List.forall_mem_nil _)⟩)⟩)⟩)⟩)⟩)⟩)⟩)⟩) (by decide) (by decide) (by decide) ?_
  refine ef_drop (L2 := [none, some (.int p1), some (.int p2)]) [false, true, true] rfl rfl ?_
  exact Hj1 ()
