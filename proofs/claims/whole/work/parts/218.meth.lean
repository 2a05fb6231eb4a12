def eF_10_serve (s : eh_F) (p0 : Nat) (p1 : Int32) (p2 : Int32) (p3 : Int32) (p4 : Int32) (p5 : Int32) : Option (Int32 × eh_F) := eh_J (fun (a2 : Int32) (s3 : eh_F) => eh_J (fun (a5 : Int32) => eh_J (fun (s7 : eh_F) => some (a2, s7)) (fun j6 => if a5 = 0 then (j6 s3) else (if a2 < 0 then (j6 s3) else (Option.bind (eF_5_chain s3 p1 p2 p3 p4 p5) (fun q10 => j6 q10))))) (fun j4 => eh_J (fun (u12 : Unit) => j4 1) (fun j11 => eh_J (fun (u14 : Unit) => if p1 = 19 then (j11 ()) else (if p1 = 20 then (j11 ()) else (j4 0))) (fun j13 => if p1 < 1 then (j13 ()) else (if 11 < p1 then (j13 ()) else (j11 ())))))) (fun j1 => if p1 < 12 then (Option.bind (eF_10_answerOfEnclaves s p0 p1 p2 p3 p4 p5) (fun q20 => j1 q20.1 q20.2)) else (Option.bind (eF_10_answerOfMachine s p0 p1 p2 p3 p4) (fun q21 => j1 q21.1 q21.2)))
set_option maxHeartbeats 4000000 in
set_option maxRecDepth 100000 in
theorem eS_10_serve (g : eh_P) (s : eh_F) (p0 : Nat) (p1 : Int32) (p2 : Int32) (p3 : Int32) (p4 : Int32) (p5 : Int32) (hp0 : eh_okH p0 = true) : eh_Sim g eM_10_serve (eh_R 6 0 0) eh_eI 0 0 0 (eh_en 9 [.ref 123, .ref p0, .int p1, .int p2, .int p3, .int p4, .int p5]) [] (eh_FW s) (eF_10_serve s p0 p1 p2 p3 p4 p5) := by
  unfold eF_10_serve
  refine ef_top (L := [some (.ref 123), some (.ref p0), some (.int p1), some (.int p2), some (.int p3), some (.int p4), some (.int p5), none, none]) rfl ?_
  refine es_blk (pc' := 3) (L' := [some (.ref 123), some (.ref p0), some (.int p1), some (.int p2), some (.int p3), some (.int p4), some (.int p5), none, none]) (st' := [.int 12, .int p1]) [(.iload_n 2, 0), (.bipush 12, 12)] (by decide +kernel) rfl rfl ?_
  refine ef_J (X := fun j1 => ∀ (a2 : Int32) (s3 : eh_F), eh_Sim g eM_10_serve (eh_R 6 0 0) eh_eI 0 0 33 [some (.ref 123), none, some (.int p1), some (.int p2), some (.int p3), some (.int p4), some (.int p5), none, none] [.int a2] (eh_FW s3) ((j1 a2 s3).bind some)) ?_ (fun j1 Hj1 => ?_)
  · intro a2 s3
    refine es_blk (pc' := 37) (L' := [some (.ref 123), none, some (.int p1), some (.int p2), some (.int p3), some (.int p4), some (.int p5), some (.int a2), none]) (st' := [.int 1, .int p1]) [(.istore 7, 0), (.iload_n 2, 0), (.iconst 1, 1)] (by decide +kernel) rfl rfl ?_
    refine ef_J (X := fun j4 => ∀ (a5 : Int32), eh_Sim g eM_10_serve (eh_R 6 0 0) eh_eI 0 0 63 [some (.ref 123), none, some (.int p1), some (.int p2), some (.int p3), some (.int p4), some (.int p5), some (.int a2), none] [.int a5] (eh_FW s3) ((j4 a5).bind some)) ?_ (fun j4 Hj4 => ?_)
    · intro a5
      refine es_blk (pc' := 67) (L' := [some (.ref 123), none, some (.int p1), some (.int p2), some (.int p3), some (.int p4), some (.int p5), some (.int a2), some (.int a5)]) (st' := [.int a5]) [(.istore 8, 0), (.iload 8, 0)] (by decide +kernel) rfl rfl ?_
      refine ef_J (X := fun j6 => ∀ (s7 : eh_F), eh_Sim g eM_10_serve (eh_R 6 0 0) eh_eI 0 0 90 [none, none, none, none, none, none, none, some (.int a2), none] [] (eh_FW s7) ((j6 s7).bind some)) ?_ (fun j6 Hj6 => ?_)
      · intro s7
        refine es_blk (pc' := 92) (L' := [none, none, none, none, none, none, none, some (.int a2), none]) (st' := [.int a2]) [(.iload 7, 0)] (by decide +kernel) rfl rfl ?_
        exact es_ret rfl rfl rfl ⟨by decide +kernel, _, rfl, rfl⟩ (Nat.le_refl _) (Nat.le_refl _)
      refine es_eq (tgt := 90) (off := (23)) (by decide +kernel) (by decide) (fun h8 => ?_) (fun h8 => ?_)
      · refine ef_drop (L2 := [none, none, none, none, none, none, none, some (.int a2), none]) [false, true, false, false, false, false, false, true, false] rfl rfl ?_
        exact Hj6 _
      refine es_blk (pc' := 72) (L' := [some (.ref 123), none, some (.int p1), some (.int p2), some (.int p3), some (.int p4), some (.int p5), some (.int a2), some (.int a5)]) (st' := [.int a2]) [(.iload 7, 0)] (by decide +kernel) rfl rfl ?_
      refine es_lt (tgt := 90) (off := (18)) (by decide +kernel) (by decide) (fun h9 => ?_) (fun h9 => ?_)
      · refine ef_drop (L2 := [none, none, none, none, none, none, none, some (.int a2), none]) [false, true, false, false, false, false, false, true, false] rfl rfl ?_
        exact Hj6 _
      refine es_blk (pc' := 76) (L' := [some (.ref 123), none, some (.int p1), some (.int p2), some (.int p3), some (.int p4), some (.int p5), some (.int a2), some (.int a5)]) (st' := [.ref 123]) [(.aload_n 0, 0)] (by decide +kernel) rfl rfl ?_
      refine ef_getP (k := 123) (j := 0) (q := 1) rfl eL_10_9 rfl rfl rfl (by decide +kernel) ?_
      refine es_blk (pc' := 87) (L' := [some (.ref 123), none, some (.int p1), some (.int p2), some (.int p3), some (.int p4), some (.int p5), some (.int a2), some (.int a5)]) (st' := [.int p5, .int p4, .int p3, .int p2, .int p1, .ref 1]) [(.iload_n 2, 0), (.iload_n 3, 0), (.iload 4, 0), (.iload 5, 0), (.iload 6, 0)] (by decide +kernel) rfl rfl ?_
      refine ef_veV (d := 4) (k := 1) (As := [.int p1, .int p2, .int p3, .int p4, .int p5]) (st := []) eV_5_chain eK_10_30 (eS_5_chain g s3 p1 p2 p3 p4 p5) rfl rfl (Nat.le_of_ble_eq_true rfl) rfl (Nat.le_of_ble_eq_true rfl) ⟨Nat.le_of_ble_eq_true rfl, Nat.le_of_ble_eq_true rfl⟩ ⟨Nat.le_refl _, Nat.le_refl _⟩ (by decide +kernel) (fun q10 _ => ?_)
      refine ef_drop (L2 := [none, none, none, none, none, none, none, some (.int a2), none]) [false, true, false, false, false, false, false, true, false] rfl rfl ?_
      exact Hj6 _
    refine ef_J (X := fun j11 => ∀ (u12 : Unit), eh_Sim g eM_10_serve (eh_R 6 0 0) eh_eI 0 0 58 [some (.ref 123), none, some (.int p1), some (.int p2), some (.int p3), some (.int p4), some (.int p5), some (.int a2), none] [] (eh_FW s3) ((j11 u12).bind some)) ?_ (fun j11 Hj11 => ?_)
    · intro u12
      refine es_blk (pc' := 59) (L' := [some (.ref 123), none, some (.int p1), some (.int p2), some (.int p3), some (.int p4), some (.int p5), some (.int a2), none]) (st' := [.int 1]) [(.iconst 1, 1)] (by decide +kernel) rfl rfl ?_
      refine es_goto (tgt := 63) (off := (4)) (by decide +kernel) (by decide) ?_
      exact Hj4 _
    refine ef_J (X := fun j13 => ∀ (u14 : Unit), eh_Sim g eM_10_serve (eh_R 6 0 0) eh_eI 0 0 46 [some (.ref 123), none, some (.int p1), some (.int p2), some (.int p3), some (.int p4), some (.int p5), some (.int a2), none] [] (eh_FW s3) ((j13 u14).bind some)) ?_ (fun j13 Hj13 => ?_)
    · intro u14
      refine es_blk (pc' := 49) (L' := [some (.ref 123), none, some (.int p1), some (.int p2), some (.int p3), some (.int p4), some (.int p5), some (.int a2), none]) (st' := [.int 19, .int p1]) [(.iload_n 2, 0), (.bipush 19, 19)] (by decide +kernel) rfl rfl ?_
      refine es_ieq (tgt := 58) (off := (9)) (by decide +kernel) (by decide) (fun h15 => ?_) (fun h15 => ?_)
      · exact Hj11 ()
      refine es_blk (pc' := 55) (L' := [some (.ref 123), none, some (.int p1), some (.int p2), some (.int p3), some (.int p4), some (.int p5), some (.int a2), none]) (st' := [.int 20, .int p1]) [(.iload_n 2, 0), (.bipush 20, 20)] (by decide +kernel) rfl rfl ?_
      refine es_ine (tgt := 62) (off := (7)) (by decide +kernel) (by decide) (fun h16 => ?_) (fun h16 => ?_)
      · exact Hj11 ()
      refine es_blk (pc' := 63) (L' := [some (.ref 123), none, some (.int p1), some (.int p2), some (.int p3), some (.int p4), some (.int p5), some (.int a2), none]) (st' := [.int 0]) [(.iconst 0, 0)] (by decide +kernel) rfl rfl ?_
      exact Hj4 _
    refine es_ilt (tgt := 46) (off := (9)) (by decide +kernel) (by decide) (fun h17 => ?_) (fun h17 => ?_)
    · exact Hj13 ()
    refine es_blk (pc' := 43) (L' := [some (.ref 123), none, some (.int p1), some (.int p2), some (.int p3), some (.int p4), some (.int p5), some (.int a2), none]) (st' := [.int 11, .int p1]) [(.iload_n 2, 0), (.bipush 11, 11)] (by decide +kernel) rfl rfl ?_
    refine es_ile (tgt := 58) (off := (15)) (by decide +kernel) (by decide) (fun h18 => ?_) (fun h18 => ?_)
    · exact Hj13 ()
    exact Hj11 ()
  refine es_ige (tgt := 22) (off := (19)) (by decide +kernel) (by decide) (fun h19 => ?_) (fun h19 => ?_)
  · refine es_blk (pc' := 16) (L' := [some (.ref 123), some (.ref p0), some (.int p1), some (.int p2), some (.int p3), some (.int p4), some (.int p5), none, none]) (st' := [.int p5, .int p4, .int p3, .int p2, .int p1, .ref p0, .ref 123]) [(.aload_n 0, 0), (.aload_n 1, 0), (.iload_n 2, 0), (.iload_n 3, 0), (.iload 4, 0), (.iload 5, 0), (.iload 6, 0)] (by decide +kernel) rfl rfl ?_
    refine ef_veI (d := 5) (k := 123) (As := [.ref p0, .int p1, .int p2, .int p3, .int p4, .int p5]) (st := []) eV_10_answerOfEnclaves eK_10_22 (eS_10_answerOfEnclaves g s p0 p1 p2 p3 p4 p5 hp0) rfl rfl (Nat.le_of_ble_eq_true rfl) rfl (Nat.le_of_ble_eq_true rfl) ⟨Nat.le_of_ble_eq_true rfl, Nat.le_of_ble_eq_true rfl⟩ ⟨Nat.le_refl _, Nat.le_refl _⟩ (by decide +kernel) (fun q20 _ => ?_)
    refine es_goto (tgt := 33) (off := (14)) (by decide +kernel) (by decide) ?_
    refine ef_drop (L2 := [some (.ref 123), none, some (.int p1), some (.int p2), some (.int p3), some (.int p4), some (.int p5), none, none]) [true, false, true, true, true, true, true, true, true] rfl rfl ?_
    exact Hj1 _ _
  refine es_blk (pc' := 30) (L' := [some (.ref 123), some (.ref p0), some (.int p1), some (.int p2), some (.int p3), some (.int p4), some (.int p5), none, none]) (st' := [.int p4, .int p3, .int p2, .int p1, .ref p0, .ref 123]) [(.aload_n 0, 0), (.aload_n 1, 0), (.iload_n 2, 0), (.iload_n 3, 0), (.iload 4, 0), (.iload 5, 0)] (by decide +kernel) rfl rfl ?_
  refine ef_veI (d := 5) (k := 123) (As := [.ref p0, .int p1, .int p2, .int p3, .int p4]) (st := []) eV_10_answerOfMachine eK_10_26 (eS_10_answerOfMachine g s p0 p1 p2 p3 p4 hp0) rfl rfl (Nat.le_of_ble_eq_true rfl) rfl (Nat.le_of_ble_eq_true rfl) ⟨Nat.le_of_ble_eq_true rfl, Nat.le_of_ble_eq_true rfl⟩ ⟨Nat.le_refl _, Nat.le_refl _⟩ (by decide +kernel) (fun q21 _ => ?_)
  refine ef_drop (L2 := [some (.ref 123), none, some (.int p1), some (.int p2), some (.int p3), some (.int p4), some (.int p5), none, none]) [true, false, true, true, true, true, true, true, true] rfl rfl ?_
  exact Hj1 _ _
def eF_12_mark (s : eh_F) (p0 np0 : Nat) : Option (eh_F) := eh_V (eh_tI s 127 79 0) (fun s1 => Option.bind (eF_12_say s1 5) (fun q2 => Option.bind (eF_12_sayBytes q2 p0 np0 0 96) (fun q3 => Option.bind (eF_12_keyed q3 186 32) (fun q4 => some q4))))
set_option maxHeartbeats 4000000 in
set_option maxRecDepth 100000 in
theorem eS_12_mark (g : eh_P) (s : eh_F) (p0 np0 : Nat) (hp0 : eh_SH[p0]? = some (101, np0)) : eh_Sim g eM_12_mark (eh_R 6 0 0) eh_eV 0 0 0 (eh_en 2 [.ref 127, .ref p0]) [] (eh_FW s) (eF_12_mark s p0 np0) := by
  unfold eF_12_mark
  refine ef_top (L := [some (.ref 127), some (.ref p0)]) rfl ?_
  refine es_blk (pc' := 2) (L' := [some (.ref 127), some (.ref p0)]) (st' := [.int 0, .ref 127]) [(.aload_n 0, 0), (.iconst 0, 0)] (by decide +kernel) rfl rfl ?_
  refine ef_putI (k := 127) (j := 79) rfl eL_12_258 rfl rfl (by decide +kernel) ?_
  refine ef_V (fun _ => [some (.ref 127), some (.ref p0)]) (fun _ => []) (fun s1 => eh_FW s1) (fun s1 => ?_)
  refine es_blk (pc' := 7) (L' := [some (.ref 127), some (.ref p0)]) (st' := [.int 5, .ref 127]) [(.aload_n 0, 0), (.iconst 5, 5)] (by decide +kernel) rfl rfl ?_
  refine ef_veV (d := 1) (k := 127) (As := [.int 5]) (st := []) eV_12_say eK_12_266 (eS_12_say g s1 5) rfl rfl (Nat.le_of_ble_eq_true rfl) rfl (Nat.le_of_ble_eq_true rfl) ⟨Nat.le_of_ble_eq_true rfl, Nat.le_of_ble_eq_true rfl⟩ ⟨Nat.le_refl _, Nat.le_refl _⟩ (by decide +kernel) (fun q2 _ => ?_)
  refine es_blk (pc' := 15) (L' := [some (.ref 127), some (.ref p0)]) (st' := [.int 96, .int 0, .ref p0, .ref 127]) [(.aload_n 0, 0), (.aload_n 1, 0), (.iconst 0, 0), (.bipush 96, 96)] (by decide +kernel) rfl rfl ?_
  refine ef_veV (d := 1) (k := 127) (As := [.ref p0, .int 0, .int 96]) (st := []) eV_12_sayBytes eK_12_269 (eS_12_sayBytes g q2 p0 np0 0 96 hp0) rfl rfl (Nat.le_of_ble_eq_true rfl) rfl (Nat.le_of_ble_eq_true rfl) ⟨Nat.le_of_ble_eq_true rfl, Nat.le_of_ble_eq_true rfl⟩ ⟨Nat.le_refl _, Nat.le_refl _⟩ (by decide +kernel) (fun q3 _ => ?_)
  refine es_blk (pc' := 20) (L' := [some (.ref 127), some (.ref p0)]) (st' := [.ref 127, .ref 127]) [(.aload_n 0, 0), (.aload_n 0, 0)] (by decide +kernel) rfl rfl ?_
  refine ef_getP (k := 127) (j := 72) (q := 186) rfl eL_12_187 rfl rfl rfl (by decide +kernel) ?_
  refine ef_veV (d := 5) (k := 127) (As := [.ref 186]) (st := []) eV_12_keyed eK_12_273 (eS_12_keyed g q3 186 32 rfl) rfl rfl (Nat.le_of_ble_eq_true rfl) rfl (Nat.le_of_ble_eq_true rfl) ⟨Nat.le_of_ble_eq_true rfl, Nat.le_of_ble_eq_true rfl⟩ ⟨Nat.le_refl _, Nat.le_refl _⟩ (by decide +kernel) (fun q4 _ => ?_)
  exact es_ret rfl rfl rfl ⟨by decide +kernel, rfl⟩ (Nat.le_refl _) (Nat.le_refl _)
def eF_12_boot (s : eh_F) (p0 : Int32) : Option (Int32 × eh_F) := Option.bind (eh_loop (fun (r75 : (Int32 × Int32 × eh_F) → Option (Int32 × eh_F)) (t1 : Int32 × Int32 × eh_F) => if t1.2.1 < 6 then (if eh_in t1.2.1 6 then eh_J (fun (a78 : Int32) => eh_V ((t1.1 + a78) : Int32) (fun x79 => if eh_in t1.2.1 6 then eh_V (eh_tI t1.2.2 155 (eh_ix t1.2.1) 0) (fun s80 => if eh_in t1.2.1 6 then eh_V (eh_tI s80 158 (eh_ix t1.2.1) 0) (fun s81 => eh_V ((t1.2.1 + 1) : Int32) (fun x82 => r75 (x79, x82, s81))) else none) else none)) (fun j77 => if (t1.2.2.1 155 (eh_ix t1.2.1)) = 0 then (j77 0) else (j77 1)) else none) else (some (t1.1, t1.2.2))) eh_FU (0, 0, s)) (fun (e2 : Int32 × eh_F) => Option.bind (eh_loop (fun (r70 : (Int32 × eh_F) → Option (eh_F)) (t3 : Int32 × eh_F) => if t3.1 < 131072 then (if eh_in t3.1 131072 then eh_V (eh_tI t3.2 128 (eh_ix t3.1) (eh_nb 0)) (fun s72 => eh_V ((t3.1 + 1) : Int32) (fun x73 => r70 (x73, s72))) else none) else (some t3.2)) eh_FU (0, e2.2)) (fun (e4 : eh_F) => Option.bind (eh_loop (fun (r65 : (Int32 × eh_F) → Option (eh_F)) (t5 : Int32 × eh_F) => if t5.1 < 448 then (if eh_in t5.1 448 then eh_V (eh_tI t5.2 129 (eh_ix t5.1) 0) (fun s67 => eh_V ((t5.1 + 1) : Int32) (fun x68 => r65 (x68, s67))) else none) else (some t5.2)) eh_FU (0, e4)) (fun (e6 : eh_F) => Option.bind (eh_loop (fun (r59 : (Int32 × eh_F) → Option (eh_F)) (t7 : Int32 × eh_F) => if t7.1 < 12 then (if eh_in t7.1 12 then eh_V (eh_tI t7.2 148 (eh_ix t7.1) 0) (fun s61 => if eh_in t7.1 12 then eh_V (eh_tI s61 164 (eh_ix t7.1) 0) (fun s62 => eh_V ((t7.1 + 1) : Int32) (fun x63 => r59 (x63, s62))) else none) else none) else (some t7.2)) eh_FU (0, e6)) (fun (e8 : eh_F) => Option.bind (eh_loop (fun (r39 : (Int32 × eh_F) → Option (eh_F)) (t9 : Int32 × eh_F) => if t9.1 < 2 then (if eh_in t9.1 14 then eh_V (eh_tI t9.2 130 (eh_ix t9.1) 0) (fun s41 => if eh_in t9.1 2 then eh_V (eh_tI s41 131 (eh_ix t9.1) 1) (fun s42 => if eh_in t9.1 2 then eh_V (eh_tI s42 132 (eh_ix t9.1) (eh_nz 0)) (fun s43 => if eh_in t9.1 2 then eh_V (eh_tI s43 133 (eh_ix t9.1) 0) (fun s44 => if eh_in t9.1 2 then eh_V (eh_tI s44 134 (eh_ix t9.1) 0) (fun s45 => if eh_in t9.1 2 then eh_V (eh_tI s45 135 (eh_ix t9.1) 0) (fun s46 => if eh_in t9.1 2 then eh_V (eh_tI s46 136 (eh_ix t9.1) 0) (fun s47 => if eh_in t9.1 2 then eh_V (eh_tI s47 137 (eh_ix t9.1) 0) (fun s48 => if eh_in t9.1 2 then eh_V (eh_tI s48 138 (eh_ix t9.1) 0) (fun s49 => if eh_in t9.1 2 then eh_V (eh_tI s49 139 (eh_ix t9.1) 0) (fun s50 => if eh_in t9.1 2 then eh_V (eh_tI s50 140 (eh_ix t9.1) 0) (fun s51 => if eh_in t9.1 2 then eh_V (eh_tI s51 141 (eh_ix t9.1) (-1)) (fun s52 => if eh_in t9.1 2 then eh_V (eh_tI s52 142 (eh_ix t9.1) 0) (fun s53 => if eh_in t9.1 2 then eh_V (eh_tI s53 143 (eh_ix t9.1) 0) (fun s54 => if eh_in t9.1 2 then eh_V (eh_tI s54 144 (eh_ix t9.1) (-1)) (fun s55 => if eh_in t9.1 2 then eh_V (eh_tI s55 147 (eh_ix t9.1) (-1)) (fun s56 => eh_V ((t9.1 + 1) : Int32) (fun x57 => r39 (x57, s56))) else none) else none) else none) else none) else none) else none) else none) else none) else none) else none) else none) else none) else none) else none) else none) else none) else (some t9.2)) eh_FU (0, e8)) (fun (e10 : eh_F) => eh_V (eh_tI e10 127 20 0) (fun s11 => eh_V (eh_tI s11 127 21 0) (fun s12 => eh_V (eh_tI s12 127 22 0) (fun s13 => eh_V (eh_tI s13 127 50 0) (fun s14 => eh_V (eh_tI s14 127 52 0) (fun s15 => eh_V (eh_tI s15 127 58 0) (fun s16 => eh_V (eh_tI s16 127 59 0) (fun s17 => eh_V (eh_tI s17 127 60 0) (fun s18 => eh_V (eh_tI s18 127 62 0) (fun s19 => Option.bind (eF_12_clearPath s19 (-1)) (fun q20 => Option.bind (eh_loop (fun (r34 : (Int32 × eh_F) → Option (eh_F)) (t21 : Int32 × eh_F) => if t21.1 < 32 then (if eh_in t21.1 32 then eh_V (eh_tI t21.2 187 (eh_ix t21.1) (eh_nb 0)) (fun s36 => eh_V ((t21.1 + 1) : Int32) (fun x37 => r34 (x37, s36))) else none) else (some t21.2)) eh_FU (0, q20)) (fun (e22 : eh_F) => eh_V (eh_tI e22 127 79 0) (fun s23 => Option.bind (eF_12_say s23 p0) (fun q24 => Option.bind (eF_12_keyed q24 185 32) (fun q25 => Option.bind (eh_loop (fun (r29 : (Int32 × eh_F) → Option (eh_F)) (t26 : Int32 × eh_F) => if t26.1 < 32 then (if eh_in t26.1 32 then if eh_in t26.1 32 then eh_V (eh_tI t26.2 186 (eh_ix t26.1) (eh_nb (t26.2.1 194 (eh_ix t26.1)))) (fun s31 => eh_V ((t26.1 + 1) : Int32) (fun x32 => r29 (x32, s31))) else none else none) else (some t26.2)) eh_FU (0, q25)) (fun (e27 : eh_F) => some (e2.1, e27)))))))))))))))))))))
set_option maxHeartbeats 4000000 in
set_option maxRecDepth 100000 in
theorem eS_12_boot (g : eh_P) (s : eh_F) (p0 : Int32) : eh_Sim g eM_12_boot (eh_R 6 0 0) eh_eI 0 0 0 (eh_en 4 [.ref 127, .int p0]) [] (eh_FW s) (eF_12_boot s p0) := by
  unfold eF_12_boot
  refine ef_top (L := [some (.ref 127), some (.int p0), none, none]) rfl ?_
  refine es_blk (pc' := 4) (L' := [some (.ref 127), some (.int p0), some (.int 0), some (.int 0)]) (st' := []) [(.iconst 0, 0), (.istore_n 2, 0), (.iconst 0, 0), (.istore_n 3, 0)] (by decide +kernel) rfl rfl ?_
  refine ef_loop1 (n := eh_FU) (i := (0, 0, s)) (px := 47) (fun (t1 : Int32 × Int32 × eh_F) => [some (.ref 127), some (.int p0), some (.int t1.1), some (.int t1.2.1)]) (fun (t1 : Int32 × Int32 × eh_F) => []) (fun (t1 : Int32 × Int32 × eh_F) => eh_FW t1.2.2) (fun (e2 : Int32 × eh_F) => [some (.ref 127), some (.int p0), some (.int e2.1), none]) (fun (e2 : Int32 × eh_F) => []) (fun (e2 : Int32 × eh_F) => eh_FW e2.2) (fun e2 => ?_) (fun K74 HxK74_0 r75 Hr75 t1 => ?_)
  · refine es_blk (pc' := 49) (L' := [some (.ref 127), some (.int p0), some (.int e2.1), some (.int 0)]) (st' := []) [(.iconst 0, 0), (.istore_n 3, 0)] (by decide +kernel) rfl rfl ?_
    refine ef_loop1 (n := eh_FU) (i := (0, e2.2)) (px := 68) (fun (t3 : Int32 × eh_F) => [some (.ref 127), some (.int p0), some (.int e2.1), some (.int t3.1)]) (fun (t3 : Int32 × eh_F) => []) (fun (t3 : Int32 × eh_F) => eh_FW t3.2) (fun (e4 : eh_F) => [some (.ref 127), some (.int p0), some (.int e2.1), none]) (fun (e4 : eh_F) => []) (fun (e4 : eh_F) => eh_FW e4) (fun e4 => ?_) (fun K69 HxK69_0 r70 Hr70 t3 => ?_)
    · refine es_blk (pc' := 70) (L' := [some (.ref 127), some (.int p0), some (.int e2.1), some (.int 0)]) (st' := []) [(.iconst 0, 0), (.istore_n 3, 0)] (by decide +kernel) rfl rfl ?_
      refine ef_loop1 (n := eh_FU) (i := (0, e4)) (px := 90) (fun (t5 : Int32 × eh_F) => [some (.ref 127), some (.int p0), some (.int e2.1), some (.int t5.1)]) (fun (t5 : Int32 × eh_F) => []) (fun (t5 : Int32 × eh_F) => eh_FW t5.2) (fun (e6 : eh_F) => [some (.ref 127), some (.int p0), some (.int e2.1), none]) (fun (e6 : eh_F) => []) (fun (e6 : eh_F) => eh_FW e6) (fun e6 => ?_) (fun K64 HxK64_0 r65 Hr65 t5 => ?_)
      · refine es_blk (pc' := 92) (L' := [some (.ref 127), some (.int p0), some (.int e2.1), some (.int 0)]) (st' := []) [(.iconst 0, 0), (.istore_n 3, 0)] (by decide +kernel) rfl rfl ?_
        refine ef_loop1 (n := eh_FU) (i := (0, e6)) (px := 118) (fun (t7 : Int32 × eh_F) => [some (.ref 127), some (.int p0), some (.int e2.1), some (.int t7.1)]) (fun (t7 : Int32 × eh_F) => []) (fun (t7 : Int32 × eh_F) => eh_FW t7.2) (fun (e8 : eh_F) => [some (.ref 127), some (.int p0), some (.int e2.1), none]) (fun (e8 : eh_F) => []) (fun (e8 : eh_F) => eh_FW e8) (fun e8 => ?_) (fun K58 HxK58_0 r59 Hr59 t7 => ?_)
        · refine es_blk (pc' := 120) (L' := [some (.ref 127), some (.int p0), some (.int e2.1), some (.int 0)]) (st' := []) [(.iconst 0, 0), (.istore_n 3, 0)] (by decide +kernel) rfl rfl ?_
          refine ef_loop1 (n := eh_FU) (i := (0, e8)) (px := 243) (fun (t9 : Int32 × eh_F) => [some (.ref 127), some (.int p0), some (.int e2.1), some (.int t9.1)]) (fun (t9 : Int32 × eh_F) => []) (fun (t9 : Int32 × eh_F) => eh_FW t9.2) (fun (e10 : eh_F) => [some (.ref 127), some (.int p0), some (.int e2.1), none]) (fun (e10 : eh_F) => []) (fun (e10 : eh_F) => eh_FW e10) (fun e10 => ?_) (fun K38 HxK38_0 r39 Hr39 t9 => ?_)
          · refine es_blk (pc' := 245) (L' := [some (.ref 127), some (.int p0), some (.int e2.1), none]) (st' := [.int 0, .ref 127]) [(.aload_n 0, 0), (.iconst 0, 0)] (by decide +kernel) rfl rfl ?_
            refine ef_putI (k := 127) (j := 20) rfl eL_12_280 rfl rfl (by decide +kernel) ?_
            refine ef_V (fun _ => [some (.ref 127), some (.int p0), some (.int e2.1), none]) (fun _ => []) (fun s11 => eh_FW s11) (fun s11 => ?_)
            refine es_blk (pc' := 250) (L' := [some (.ref 127), some (.int p0), some (.int e2.1), none]) (st' := [.int 0, .ref 127]) [(.aload_n 0, 0), (.iconst 0, 0)] (by decide +kernel) rfl rfl ?_
            refine ef_putZc (k := 127) (j := 21) rfl eL_12_283 rfl rfl (by decide) (by decide +kernel) ?_
            refine ef_V (fun _ => [some (.ref 127), some (.int p0), some (.int e2.1), none]) (fun _ => []) (fun s12 => eh_FW s12) (fun s12 => ?_)
            refine es_blk (pc' := 255) (L' := [some (.ref 127), some (.int p0), some (.int e2.1), none]) (st' := [.int 0, .ref 127]) [(.aload_n 0, 0), (.iconst 0, 0)] (by decide +kernel) rfl rfl ?_
            refine ef_putZc (k := 127) (j := 22) rfl eL_12_287 rfl rfl (by decide) (by decide +kernel) ?_
            refine ef_V (fun _ => [some (.ref 127), some (.int p0), some (.int e2.1), none]) (fun _ => []) (fun s13 => eh_FW s13) (fun s13 => ?_)
            refine es_blk (pc' := 260) (L' := [some (.ref 127), some (.int p0), some (.int e2.1), none]) (st' := [.int 0, .ref 127]) [(.aload_n 0, 0), (.iconst 0, 0)] (by decide +kernel) rfl rfl ?_
            refine ef_putI (k := 127) (j := 50) rfl eL_12_290 rfl rfl (by decide +kernel) ?_
            refine ef_V (fun _ => [some (.ref 127), some (.int p0), some (.int e2.1), none]) (fun _ => []) (fun s14 => eh_FW s14) (fun s14 => ?_)
            refine es_blk (pc' := 265) (L' := [some (.ref 127), some (.int p0), some (.int e2.1), none]) (st' := [.int 0, .ref 127]) [(.aload_n 0, 0), (.iconst 0, 0)] (by decide +kernel) rfl rfl ?_
            refine ef_putI (k := 127) (j := 52) rfl eL_12_293 rfl rfl (by decide +kernel) ?_
            refine ef_V (fun _ => [some (.ref 127), some (.int p0), some (.int e2.1), none]) (fun _ => []) (fun s15 => eh_FW s15) (fun s15 => ?_)
            refine es_blk (pc' := 270) (L' := [some (.ref 127), some (.int p0), some (.int e2.1), none]) (st' := [.int 0, .ref 127]) [(.aload_n 0, 0), (.iconst 0, 0)] (by decide +kernel) rfl rfl ?_
            refine ef_putI (k := 127) (j := 58) rfl eL_12_296 rfl rfl (by decide +kernel) ?_
            refine ef_V (fun _ => [some (.ref 127), some (.int p0), some (.int e2.1), none]) (fun _ => []) (fun s16 => eh_FW s16) (fun s16 => ?_)
            refine es_blk (pc' := 275) (L' := [some (.ref 127), some (.int p0), some (.int e2.1), none]) (st' := [.int 0, .ref 127]) [(.aload_n 0, 0), (.iconst 0, 0)] (by decide +kernel) rfl rfl ?_
            refine ef_putI (k := 127) (j := 59) rfl eL_12_299 rfl rfl (by decide +kernel) ?_
            refine ef_V (fun _ => [some (.ref 127), some (.int p0), some (.int e2.1), none]) (fun _ => []) (fun s17 => eh_FW s17) (fun s17 => ?_)
            refine es_blk (pc' := 280) (L' := [some (.ref 127), some (.int p0), some (.int e2.1), none]) (st' := [.int 0, .ref 127]) [(.aload_n 0, 0), (.iconst 0, 0)] (by decide +kernel) rfl rfl ?_
            refine ef_putI (k := 127) (j := 60) rfl eL_12_302 rfl rfl (by decide +kernel) ?_
            refine ef_V (fun _ => [some (.ref 127), some (.int p0), some (.int e2.1), none]) (fun _ => []) (fun s18 => eh_FW s18) (fun s18 => ?_)
            refine es_blk (pc' := 285) (L' := [some (.ref 127), some (.int p0), some (.int e2.1), none]) (st' := [.int 0, .ref 127]) [(.aload_n 0, 0), (.iconst 0, 0)] (by decide +kernel) rfl rfl ?_
            refine ef_putI (k := 127) (j := 62) rfl eL_12_305 rfl rfl (by decide +kernel) ?_
            refine ef_V (fun _ => [some (.ref 127), some (.int p0), some (.int e2.1), none]) (fun _ => []) (fun s19 => eh_FW s19) (fun s19 => ?_)
            refine es_blk (pc' := 290) (L' := [some (.ref 127), some (.int p0), some (.int e2.1), none]) (st' := [.int (-1), .ref 127]) [(.aload_n 0, 0), (.iconst (-1), (-1))] (by decide +kernel) rfl rfl ?_
            refine ef_veV (d := 1) (k := 127) (As := [.int (-1)]) (st := []) eV_12_clearPath eK_12_308 (eS_12_clearPath g s19 (-1)) rfl rfl (Nat.le_of_ble_eq_true rfl) rfl (Nat.le_of_ble_eq_true rfl) ⟨Nat.le_of_ble_eq_true rfl, Nat.le_of_ble_eq_true rfl⟩ ⟨Nat.le_refl _, Nat.le_refl _⟩ (by decide +kernel) (fun q20 _ => ?_)
            refine es_blk (pc' := 295) (L' := [some (.ref 127), some (.int p0), some (.int e2.1), some (.int 0)]) (st' := []) [(.iconst 0, 0), (.istore_n 3, 0)] (by decide +kernel) rfl rfl ?_
            refine ef_loop1 (n := eh_FU) (i := (0, q20)) (px := 314) (fun (t21 : Int32 × eh_F) => [some (.ref 127), some (.int p0), some (.int e2.1), some (.int t21.1)]) (fun (t21 : Int32 × eh_F) => []) (fun (t21 : Int32 × eh_F) => eh_FW t21.2) (fun (e22 : eh_F) => [some (.ref 127), some (.int p0), some (.int e2.1), none]) (fun (e22 : eh_F) => []) (fun (e22 : eh_F) => eh_FW e22) (fun e22 => ?_) (fun K33 HxK33_0 r34 Hr34 t21 => ?_)
            · refine es_blk (pc' := 316) (L' := [some (.ref 127), some (.int p0), some (.int e2.1), none]) (st' := [.int 0, .ref 127]) [(.aload_n 0, 0), (.iconst 0, 0)] (by decide +kernel) rfl rfl ?_
              refine ef_putI (k := 127) (j := 79) rfl eL_12_258 rfl rfl (by decide +kernel) ?_
              refine ef_V (fun _ => [some (.ref 127), some (.int p0), some (.int e2.1), none]) (fun _ => []) (fun s23 => eh_FW s23) (fun s23 => ?_)
              refine es_blk (pc' := 321) (L' := [some (.ref 127), some (.int p0), some (.int e2.1), none]) (st' := [.int p0, .ref 127]) [(.aload_n 0, 0), (.iload_n 1, 0)] (by decide +kernel) rfl rfl ?_
              refine ef_veV (d := 1) (k := 127) (As := [.int p0]) (st := []) eV_12_say eK_12_266 (eS_12_say g s23 p0) rfl rfl (Nat.le_of_ble_eq_true rfl) rfl (Nat.le_of_ble_eq_true rfl) ⟨Nat.le_of_ble_eq_true rfl, Nat.le_of_ble_eq_true rfl⟩ ⟨Nat.le_refl _, Nat.le_refl _⟩ (by decide +kernel) (fun q24 _ => ?_)
              refine es_blk (pc' := 326) (L' := [some (.ref 127), some (.int p0), some (.int e2.1), none]) (st' := [.ref 127, .ref 127]) [(.aload_n 0, 0), (.aload_n 0, 0)] (by decide +kernel) rfl rfl ?_
              refine ef_getP (k := 127) (j := 71) (q := 185) rfl eL_12_184 rfl rfl rfl (by decide +kernel) ?_
              refine ef_veV (d := 5) (k := 127) (As := [.ref 185]) (st := []) eV_12_keyed eK_12_273 (eS_12_keyed g q24 185 32 rfl) rfl rfl (Nat.le_of_ble_eq_true rfl) rfl (Nat.le_of_ble_eq_true rfl) ⟨Nat.le_of_ble_eq_true rfl, Nat.le_of_ble_eq_true rfl⟩ ⟨Nat.le_refl _, Nat.le_refl _⟩ (by decide +kernel) (fun q25 _ => ?_)
              refine es_blk (pc' := 334) (L' := [some (.ref 127), some (.int p0), some (.int e2.1), some (.int 0)]) (st' := []) [(.iconst 0, 0), (.istore_n 3, 0)] (by decide +kernel) rfl rfl ?_
              refine ef_drop (L2 := [some (.ref 127), none, some (.int e2.1), some (.int 0)]) [true, false, true, true] rfl rfl ?_
              refine ef_loop1 (n := eh_FU) (i := (0, q25)) (px := 358) (fun (t26 : Int32 × eh_F) => [some (.ref 127), none, some (.int e2.1), some (.int t26.1)]) (fun (t26 : Int32 × eh_F) => []) (fun (t26 : Int32 × eh_F) => eh_FW t26.2) (fun (e27 : eh_F) => [none, none, some (.int e2.1), none]) (fun (e27 : eh_F) => []) (fun (e27 : eh_F) => eh_FW e27) (fun e27 => ?_) (fun K28 HxK28_0 r29 Hr29 t26 => ?_)
              · refine es_blk (pc' := 359) (L' := [none, none, some (.int e2.1), none]) (st' := [.int e2.1]) [(.iload_n 2, 0)] (by decide +kernel) rfl rfl ?_
                exact es_ret rfl rfl rfl ⟨by decide +kernel, _, rfl, rfl⟩ (Nat.le_refl _) (Nat.le_refl _)
              · refine es_blk (pc' := 337) (L' := [some (.ref 127), none, some (.int e2.1), some (.int t26.1)]) (st' := [.int 32, .int t26.1]) [(.iload_n 3, 0), (.bipush 32, 32)] (by decide +kernel) rfl rfl ?_
                refine es_ige (tgt := 358) (off := (21)) (by decide +kernel) (by decide) (fun h30 => ?_) (fun h30 => ?_)
                · refine es_blk (pc' := 341) (L' := [some (.ref 127), none, some (.int e2.1), some (.int t26.1)]) (st' := [.ref 127]) [(.aload_n 0, 0)] (by decide +kernel) rfl rfl ?_
                  refine ef_getP (k := 127) (j := 72) (q := 186) rfl eL_12_187 rfl rfl rfl (by decide +kernel) ?_
                  refine es_blk (pc' := 346) (L' := [some (.ref 127), none, some (.int e2.1), some (.int t26.1)]) (st' := [.ref 127, .int t26.1, .ref 186]) [(.iload_n 3, 0), (.aload_n 0, 0)] (by decide +kernel) rfl rfl ?_
                  refine ef_getP (k := 127) (j := 81) (q := 194) rfl eL_12_212 rfl rfl rfl (by decide +kernel) ?_
                  refine es_blk (pc' := 350) (L' := [some (.ref 127), none, some (.int e2.1), some (.int t26.1)]) (st' := [.int t26.1, .ref 194, .int t26.1, .ref 186]) [(.iload_n 3, 0)] (by decide +kernel) rfl rfl ?_
                  refine ef_ald (k := 194) rfl (Or.inr ⟨Or.inl rfl, rfl⟩) (by decide +kernel) (fun _ => ?_)
                  refine ef_astB (k := 186) rfl (by decide +kernel) (fun _ => ?_)
                  refine ef_V (fun _ => [some (.ref 127), none, some (.int e2.1), some (.int t26.1)]) (fun _ => []) (fun s31 => eh_FW s31) (fun s31 => ?_)
                  refine es_blk (pc' := 355) (L' := [some (.ref 127), none, some (.int e2.1), some (.int (t26.1 + 1))]) (st' := []) [(.iinc 3 1, 1)] (by decide +kernel) rfl rfl ?_
                  refine ef_V (fun x32 => [some (.ref 127), none, some (.int e2.1), some (.int x32)]) (fun _ => []) (fun _ => eh_FW s31) (fun x32 => ?_)
                  refine es_goto (tgt := 334) (off := (-21)) (by decide +kernel) (by decide) ?_
                  exact Hr29 (x32, s31)
                refine ef_drop (L2 := [none, none, some (.int e2.1), none]) [false, true, true, false] rfl rfl ?_
                exact HxK28_0 t26.2
            · refine es_blk (pc' := 298) (L' := [some (.ref 127), some (.int p0), some (.int e2.1), some (.int t21.1)]) (st' := [.int 32, .int t21.1]) [(.iload_n 3, 0), (.bipush 32, 32)] (by decide +kernel) rfl rfl ?_
              refine es_ige (tgt := 314) (off := (16)) (by decide +kernel) (by decide) (fun h35 => ?_) (fun h35 => ?_)
              · refine es_blk (pc' := 302) (L' := [some (.ref 127), some (.int p0), some (.int e2.1), some (.int t21.1)]) (st' := [.ref 127]) [(.aload_n 0, 0)] (by decide +kernel) rfl rfl ?_
                refine ef_getP (k := 127) (j := 73) (q := 187) rfl eL_12_190 rfl rfl rfl (by decide +kernel) ?_
                refine es_blk (pc' := 307) (L' := [some (.ref 127), some (.int p0), some (.int e2.1), some (.int t21.1)]) (st' := [.int 0, .int t21.1, .ref 187]) [(.iload_n 3, 0), (.iconst 0, 0)] (by decide +kernel) rfl rfl ?_
                refine ef_astB (k := 187) rfl (by decide +kernel) (fun _ => ?_)
                refine ef_V (fun _ => [some (.ref 127), some (.int p0), some (.int e2.1), some (.int t21.1)]) (fun _ => []) (fun s36 => eh_FW s36) (fun s36 => ?_)
                refine es_blk (pc' := 311) (L' := [some (.ref 127), some (.int p0), some (.int e2.1), some (.int (t21.1 + 1))]) (st' := []) [(.iinc 3 1, 1)] (by decide +kernel) rfl rfl ?_
                refine ef_V (fun x37 => [some (.ref 127), some (.int p0), some (.int e2.1), some (.int x37)]) (fun _ => []) (fun _ => eh_FW s36) (fun x37 => ?_)
                refine es_goto (tgt := 295) (off := (-16)) (by decide +kernel) (by decide) ?_
                exact Hr34 (x37, s36)
              refine ef_drop (L2 := [some (.ref 127), some (.int p0), some (.int e2.1), none]) [true, true, true, false] rfl rfl ?_
              exact HxK33_0 t21.2
          · refine es_blk (pc' := 122) (L' := [some (.ref 127), some (.int p0), some (.int e2.1), some (.int t9.1)]) (st' := [.int 2, .int t9.1]) [(.iload_n 3, 0), (.iconst 2, 2)] (by decide +kernel) rfl rfl ?_
            refine es_ige (tgt := 243) (off := (121)) (by decide +kernel) (by decide) (fun h40 => ?_) (fun h40 => ?_)
            · refine es_blk (pc' := 126) (L' := [some (.ref 127), some (.int p0), some (.int e2.1), some (.int t9.1)]) (st' := [.ref 127]) [(.aload_n 0, 0)] (by decide +kernel) rfl rfl ?_
              refine ef_getP (k := 127) (j := 2) (q := 130) rfl eL_12_18 rfl rfl rfl (by decide +kernel) ?_
              refine es_blk (pc' := 131) (L' := [some (.ref 127), some (.int p0), some (.int e2.1), some (.int t9.1)]) (st' := [.int 0, .int t9.1, .ref 130]) [(.iload_n 3, 0), (.iconst 0, 0)] (by decide +kernel) rfl rfl ?_
              refine ef_ast (k := 130) rfl (by decide +kernel) (fun _ => ?_)
              refine ef_V (fun _ => [some (.ref 127), some (.int p0), some (.int e2.1), some (.int t9.1)]) (fun _ => []) (fun s41 => eh_FW s41) (fun s41 => ?_)
              refine es_blk (pc' := 133) (L' := [some (.ref 127), some (.int p0), some (.int e2.1), some (.int t9.1)]) (st' := [.ref 127]) [(.aload_n 0, 0)] (by decide +kernel) rfl rfl ?_
              refine ef_getP (k := 127) (j := 3) (q := 131) rfl eL_12_21 rfl rfl rfl (by decide +kernel) ?_
              refine es_blk (pc' := 138) (L' := [some (.ref 127), some (.int p0), some (.int e2.1), some (.int t9.1)]) (st' := [.int 1, .int t9.1, .ref 131]) [(.iload_n 3, 0), (.iconst 1, 1)] (by decide +kernel) rfl rfl ?_
              refine ef_ast (k := 131) rfl (by decide +kernel) (fun _ => ?_)
              refine ef_V (fun _ => [some (.ref 127), some (.int p0), some (.int e2.1), some (.int t9.1)]) (fun _ => []) (fun s42 => eh_FW s42) (fun s42 => ?_)
              refine es_blk (pc' := 140) (L' := [some (.ref 127), some (.int p0), some (.int e2.1), some (.int t9.1)]) (st' := [.ref 127]) [(.aload_n 0, 0)] (by decide +kernel) rfl rfl ?_
              refine ef_getP (k := 127) (j := 4) (q := 132) rfl eL_12_24 rfl rfl rfl (by decide +kernel) ?_
              refine es_blk (pc' := 145) (L' := [some (.ref 127), some (.int p0), some (.int e2.1), some (.int t9.1)]) (st' := [.int 0, .int t9.1, .ref 132]) [(.iload_n 3, 0), (.iconst 0, 0)] (by decide +kernel) rfl rfl ?_
              refine ef_astZ (k := 132) rfl (by decide +kernel) (fun _ => ?_)
              refine ef_V (fun _ => [some (.ref 127), some (.int p0), some (.int e2.1), some (.int t9.1)]) (fun _ => []) (fun s43 => eh_FW s43) (fun s43 => ?_)
              refine es_blk (pc' := 147) (L' := [some (.ref 127), some (.int p0), some (.int e2.1), some (.int t9.1)]) (st' := [.ref 127]) [(.aload_n 0, 0)] (by decide +kernel) rfl rfl ?_
              refine ef_getP (k := 127) (j := 5) (q := 133) rfl eL_12_28 rfl rfl rfl (by decide +kernel) ?_
              refine es_blk (pc' := 152) (L' := [some (.ref 127), some (.int p0), some (.int e2.1), some (.int t9.1)]) (st' := [.int 0, .int t9.1, .ref 133]) [(.iload_n 3, 0), (.iconst 0, 0)] (by decide +kernel) rfl rfl ?_
              refine ef_ast (k := 133) rfl (by decide +kernel) (fun _ => ?_)
              refine ef_V (fun _ => [some (.ref 127), some (.int p0), some (.int e2.1), some (.int t9.1)]) (fun _ => []) (fun s44 => eh_FW s44) (fun s44 => ?_)
              refine es_blk (pc' := 154) (L' := [some (.ref 127), some (.int p0), some (.int e2.1), some (.int t9.1)]) (st' := [.ref 127]) [(.aload_n 0, 0)] (by decide +kernel) rfl rfl ?_
              refine ef_getP (k := 127) (j := 6) (q := 134) rfl eL_12_31 rfl rfl rfl (by decide +kernel) ?_
              refine es_blk (pc' := 159) (L' := [some (.ref 127), some (.int p0), some (.int e2.1), some (.int t9.1)]) (st' := [.int 0, .int t9.1, .ref 134]) [(.iload_n 3, 0), (.iconst 0, 0)] (by decide +kernel) rfl rfl ?_
              refine ef_ast (k := 134) rfl (by decide +kernel) (fun _ => ?_)
              refine ef_V (fun _ => [some (.ref 127), some (.int p0), some (.int e2.1), some (.int t9.1)]) (fun _ => []) (fun s45 => eh_FW s45) (fun s45 => ?_)
              refine es_blk (pc' := 161) (L' := [some (.ref 127), some (.int p0), some (.int e2.1), some (.int t9.1)]) (st' := [.ref 127]) [(.aload_n 0, 0)] (by decide +kernel) rfl rfl ?_
              refine ef_getP (k := 127) (j := 7) (q := 135) rfl eL_12_34 rfl rfl rfl (by decide +kernel) ?_
              refine es_blk (pc' := 166) (L' := [some (.ref 127), some (.int p0), some (.int e2.1), some (.int t9.1)]) (st' := [.int 0, .int t9.1, .ref 135]) [(.iload_n 3, 0), (.iconst 0, 0)] (by decide +kernel) rfl rfl ?_
              refine ef_ast (k := 135) rfl (by decide +kernel) (fun _ => ?_)
              refine ef_V (fun _ => [some (.ref 127), some (.int p0), some (.int e2.1), some (.int t9.1)]) (fun _ => []) (fun s46 => eh_FW s46) (fun s46 => ?_)
              refine es_blk (pc' := 168) (L' := [some (.ref 127), some (.int p0), some (.int e2.1), some (.int t9.1)]) (st' := [.ref 127]) [(.aload_n 0, 0)] (by decide +kernel) rfl rfl ?_
              refine ef_getP (k := 127) (j := 8) (q := 136) rfl eL_12_37 rfl rfl rfl (by decide +kernel) ?_
              refine es_blk (pc' := 173) (L' := [some (.ref 127), some (.int p0), some (.int e2.1), some (.int t9.1)]) (st' := [.int 0, .int t9.1, .ref 136]) [(.iload_n 3, 0), (.iconst 0, 0)] (by decide +kernel) rfl rfl ?_
              refine ef_ast (k := 136) rfl (by decide +kernel) (fun _ => ?_)
              refine ef_V (fun _ => [some (.ref 127), some (.int p0), some (.int e2.1), some (.int t9.1)]) (fun _ => []) (fun s47 => eh_FW s47) (fun s47 => ?_)
              refine es_blk (pc' := 175) (L' := [some (.ref 127), some (.int p0), some (.int e2.1), some (.int t9.1)]) (st' := [.ref 127]) [(.aload_n 0, 0)] (by decide +kernel) rfl rfl ?_
              refine ef_getP (k := 127) (j := 9) (q := 137) rfl eL_12_40 rfl rfl rfl (by decide +kernel) ?_
              refine es_blk (pc' := 180) (L' := [some (.ref 127), some (.int p0), some (.int e2.1), some (.int t9.1)]) (st' := [.int 0, .int t9.1, .ref 137]) [(.iload_n 3, 0), (.iconst 0, 0)] (by decide +kernel) rfl rfl ?_
              refine ef_ast (k := 137) rfl (by decide +kernel) (fun _ => ?_)
              refine ef_V (fun _ => [some (.ref 127), some (.int p0), some (.int e2.1), some (.int t9.1)]) (fun _ => []) (fun s48 => eh_FW s48) (fun s48 => ?_)
              refine es_blk (pc' := 182) (L' := [some (.ref 127), some (.int p0), some (.int e2.1), some (.int t9.1)]) (st' := [.ref 127]) [(.aload_n 0, 0)] (by decide +kernel) rfl rfl ?_
              refine ef_getP (k := 127) (j := 10) (q := 138) rfl eL_12_43 rfl rfl rfl (by decide +kernel) ?_
              refine es_blk (pc' := 187) (L' := [some (.ref 127), some (.int p0), some (.int e2.1), some (.int t9.1)]) (st' := [.int 0, .int t9.1, .ref 138]) [(.iload_n 3, 0), (.iconst 0, 0)] (by decide +kernel) rfl rfl ?_
              refine ef_ast (k := 138) rfl (by decide +kernel) (fun _ => ?_)
              refine ef_V (fun _ => [some (.ref 127), some (.int p0), some (.int e2.1), some (.int t9.1)]) (fun _ => []) (fun s49 => eh_FW s49) (fun s49 => ?_)
              refine es_blk (pc' := 189) (L' := [some (.ref 127), some (.int p0), some (.int e2.1), some (.int t9.1)]) (st' := [.ref 127]) [(.aload_n 0, 0)] (by decide +kernel) rfl rfl ?_
              refine ef_getP (k := 127) (j := 11) (q := 139) rfl eL_12_46 rfl rfl rfl (by decide +kernel) ?_
              refine es_blk (pc' := 194) (L' := [some (.ref 127), some (.int p0), some (.int e2.1), some (.int t9.1)]) (st' := [.int 0, .int t9.1, .ref 139]) [(.iload_n 3, 0), (.iconst 0, 0)] (by decide +kernel) rfl rfl ?_
              refine ef_ast (k := 139) rfl (by decide +kernel) (fun _ => ?_)
              refine ef_V (fun _ => [some (.ref 127), some (.int p0), some (.int e2.1), some (.int t9.1)]) (fun _ => []) (fun s50 => eh_FW s50) (fun s50 => ?_)
              refine es_blk (pc' := 196) (L' := [some (.ref 127), some (.int p0), some (.int e2.1), some (.int t9.1)]) (st' := [.ref 127]) [(.aload_n 0, 0)] (by decide +kernel) rfl rfl ?_
              refine ef_getP (k := 127) (j := 12) (q := 140) rfl eL_12_49 rfl rfl rfl (by decide +kernel) ?_
              refine es_blk (pc' := 201) (L' := [some (.ref 127), some (.int p0), some (.int e2.1), some (.int t9.1)]) (st' := [.int 0, .int t9.1, .ref 140]) [(.iload_n 3, 0), (.iconst 0, 0)] (by decide +kernel) rfl rfl ?_
              refine ef_ast (k := 140) rfl (by decide +kernel) (fun _ => ?_)
              refine ef_V (fun _ => [some (.ref 127), some (.int p0), some (.int e2.1), some (.int t9.1)]) (fun _ => []) (fun s51 => eh_FW s51) (fun s51 => ?_)
              refine es_blk (pc' := 203) (L' := [some (.ref 127), some (.int p0), some (.int e2.1), some (.int t9.1)]) (st' := [.ref 127]) [(.aload_n 0, 0)] (by decide +kernel) rfl rfl ?_
              refine ef_getP (k := 127) (j := 13) (q := 141) rfl eL_12_52 rfl rfl rfl (by decide +kernel) ?_
              refine es_blk (pc' := 208) (L' := [some (.ref 127), some (.int p0), some (.int e2.1), some (.int t9.1)]) (st' := [.int (-1), .int t9.1, .ref 141]) [(.iload_n 3, 0), (.iconst (-1), (-1))] (by decide +kernel) rfl rfl ?_
              refine ef_ast (k := 141) rfl (by decide +kernel) (fun _ => ?_)
              refine ef_V (fun _ => [some (.ref 127), some (.int p0), some (.int e2.1), some (.int t9.1)]) (fun _ => []) (fun s52 => eh_FW s52) (fun s52 => ?_)
              refine es_blk (pc' := 210) (L' := [some (.ref 127), some (.int p0), some (.int e2.1), some (.int t9.1)]) (st' := [.ref 127]) [(.aload_n 0, 0)] (by decide +kernel) rfl rfl ?_
              refine ef_getP (k := 127) (j := 14) (q := 142) rfl eL_12_55 rfl rfl rfl (by decide +kernel) ?_
              refine es_blk (pc' := 215) (L' := [some (.ref 127), some (.int p0), some (.int e2.1), some (.int t9.1)]) (st' := [.int 0, .int t9.1, .ref 142]) [(.iload_n 3, 0), (.iconst 0, 0)] (by decide +kernel) rfl rfl ?_
              refine ef_ast (k := 142) rfl (by decide +kernel) (fun _ => ?_)
              refine ef_V (fun _ => [some (.ref 127), some (.int p0), some (.int e2.1), some (.int t9.1)]) (fun _ => []) (fun s53 => eh_FW s53) (fun s53 => ?_)
              refine es_blk (pc' := 217) (L' := [some (.ref 127), some (.int p0), some (.int e2.1), some (.int t9.1)]) (st' := [.ref 127]) [(.aload_n 0, 0)] (by decide +kernel) rfl rfl ?_
              refine ef_getP (k := 127) (j := 15) (q := 143) rfl eL_12_58 rfl rfl rfl (by decide +kernel) ?_
              refine es_blk (pc' := 222) (L' := [some (.ref 127), some (.int p0), some (.int e2.1), some (.int t9.1)]) (st' := [.int 0, .int t9.1, .ref 143]) [(.iload_n 3, 0), (.iconst 0, 0)] (by decide +kernel) rfl rfl ?_
              refine ef_ast (k := 143) rfl (by decide +kernel) (fun _ => ?_)
              refine ef_V (fun _ => [some (.ref 127), some (.int p0), some (.int e2.1), some (.int t9.1)]) (fun _ => []) (fun s54 => eh_FW s54) (fun s54 => ?_)
              refine es_blk (pc' := 224) (L' := [some (.ref 127), some (.int p0), some (.int e2.1), some (.int t9.1)]) (st' := [.ref 127]) [(.aload_n 0, 0)] (by decide +kernel) rfl rfl ?_
              refine ef_getP (k := 127) (j := 16) (q := 144) rfl eL_12_61 rfl rfl rfl (by decide +kernel) ?_
              refine es_blk (pc' := 229) (L' := [some (.ref 127), some (.int p0), some (.int e2.1), some (.int t9.1)]) (st' := [.int (-1), .int t9.1, .ref 144]) [(.iload_n 3, 0), (.iconst (-1), (-1))] (by decide +kernel) rfl rfl ?_
              refine ef_ast (k := 144) rfl (by decide +kernel) (fun _ => ?_)
              refine ef_V (fun _ => [some (.ref 127), some (.int p0), some (.int e2.1), some (.int t9.1)]) (fun _ => []) (fun s55 => eh_FW s55) (fun s55 => ?_)
              refine es_blk (pc' := 231) (L' := [some (.ref 127), some (.int p0), some (.int e2.1), some (.int t9.1)]) (st' := [.ref 127]) [(.aload_n 0, 0)] (by decide +kernel) rfl rfl ?_
              refine ef_getP (k := 127) (j := 19) (q := 147) rfl eL_12_70 rfl rfl rfl (by decide +kernel) ?_
              refine es_blk (pc' := 236) (L' := [some (.ref 127), some (.int p0), some (.int e2.1), some (.int t9.1)]) (st' := [.int (-1), .int t9.1, .ref 147]) [(.iload_n 3, 0), (.iconst (-1), (-1))] (by decide +kernel) rfl rfl ?_
              refine ef_ast (k := 147) rfl (by decide +kernel) (fun _ => ?_)
              refine ef_V (fun _ => [some (.ref 127), some (.int p0), some (.int e2.1), some (.int t9.1)]) (fun _ => []) (fun s56 => eh_FW s56) (fun s56 => ?_)
              refine es_blk (pc' := 240) (L' := [some (.ref 127), some (.int p0), some (.int e2.1), some (.int (t9.1 + 1))]) (st' := []) [(.iinc 3 1, 1)] (by decide +kernel) rfl rfl ?_
              refine ef_V (fun x57 => [some (.ref 127), some (.int p0), some (.int e2.1), some (.int x57)]) (fun _ => []) (fun _ => eh_FW s56) (fun x57 => ?_)
              refine es_goto (tgt := 120) (off := (-120)) (by decide +kernel) (by decide) ?_
              exact Hr39 (x57, s56)
            refine ef_drop (L2 := [some (.ref 127), some (.int p0), some (.int e2.1), none]) [true, true, true, false] rfl rfl ?_
            exact HxK38_0 t9.2
        · refine es_blk (pc' := 95) (L' := [some (.ref 127), some (.int p0), some (.int e2.1), some (.int t7.1)]) (st' := [.int 12, .int t7.1]) [(.iload_n 3, 0), (.bipush 12, 12)] (by decide +kernel) rfl rfl ?_
          refine es_ige (tgt := 118) (off := (23)) (by decide +kernel) (by decide) (fun h60 => ?_) (fun h60 => ?_)
          · refine es_blk (pc' := 99) (L' := [some (.ref 127), some (.int p0), some (.int e2.1), some (.int t7.1)]) (st' := [.ref 127]) [(.aload_n 0, 0)] (by decide +kernel) rfl rfl ?_
            refine ef_getP (k := 127) (j := 23) (q := 148) rfl eL_12_73 rfl rfl rfl (by decide +kernel) ?_
            refine es_blk (pc' := 104) (L' := [some (.ref 127), some (.int p0), some (.int e2.1), some (.int t7.1)]) (st' := [.int 0, .int t7.1, .ref 148]) [(.iload_n 3, 0), (.iconst 0, 0)] (by decide +kernel) rfl rfl ?_
            refine ef_ast (k := 148) rfl (by decide +kernel) (fun _ => ?_)
            refine ef_V (fun _ => [some (.ref 127), some (.int p0), some (.int e2.1), some (.int t7.1)]) (fun _ => []) (fun s61 => eh_FW s61) (fun s61 => ?_)
            refine es_blk (pc' := 106) (L' := [some (.ref 127), some (.int p0), some (.int e2.1), some (.int t7.1)]) (st' := [.ref 127]) [(.aload_n 0, 0)] (by decide +kernel) rfl rfl ?_
            refine ef_getP (k := 127) (j := 39) (q := 164) rfl eL_12_121 rfl rfl rfl (by decide +kernel) ?_
            refine es_blk (pc' := 111) (L' := [some (.ref 127), some (.int p0), some (.int e2.1), some (.int t7.1)]) (st' := [.int 0, .int t7.1, .ref 164]) [(.iload_n 3, 0), (.iconst 0, 0)] (by decide +kernel) rfl rfl ?_
            refine ef_ast (k := 164) rfl (by decide +kernel) (fun _ => ?_)
            refine ef_V (fun _ => [some (.ref 127), some (.int p0), some (.int e2.1), some (.int t7.1)]) (fun _ => []) (fun s62 => eh_FW s62) (fun s62 => ?_)
            refine es_blk (pc' := 115) (L' := [some (.ref 127), some (.int p0), some (.int e2.1), some (.int (t7.1 + 1))]) (st' := []) [(.iinc 3 1, 1)] (by decide +kernel) rfl rfl ?_
            refine ef_V (fun x63 => [some (.ref 127), some (.int p0), some (.int e2.1), some (.int x63)]) (fun _ => []) (fun _ => eh_FW s62) (fun x63 => ?_)
            refine es_goto (tgt := 92) (off := (-23)) (by decide +kernel) (by decide) ?_
            exact Hr59 (x63, s62)
          refine ef_drop (L2 := [some (.ref 127), some (.int p0), some (.int e2.1), none]) [true, true, true, false] rfl rfl ?_
          exact HxK58_0 t7.2
      · refine es_blk (pc' := 74) (L' := [some (.ref 127), some (.int p0), some (.int e2.1), some (.int t5.1)]) (st' := [.int 448, .int t5.1]) [(.iload_n 3, 0), (.sipush 448, 448)] (by decide +kernel) rfl rfl ?_
        refine es_ige (tgt := 90) (off := (16)) (by decide +kernel) (by decide) (fun h66 => ?_) (fun h66 => ?_)
        · refine es_blk (pc' := 78) (L' := [some (.ref 127), some (.int p0), some (.int e2.1), some (.int t5.1)]) (st' := [.ref 127]) [(.aload_n 0, 0)] (by decide +kernel) rfl rfl ?_
          refine ef_getP (k := 127) (j := 1) (q := 129) rfl eL_12_14 rfl rfl rfl (by decide +kernel) ?_
          refine es_blk (pc' := 83) (L' := [some (.ref 127), some (.int p0), some (.int e2.1), some (.int t5.1)]) (st' := [.int 0, .int t5.1, .ref 129]) [(.iload_n 3, 0), (.iconst 0, 0)] (by decide +kernel) rfl rfl ?_
          refine ef_ast (k := 129) rfl (by decide +kernel) (fun _ => ?_)
          refine ef_V (fun _ => [some (.ref 127), some (.int p0), some (.int e2.1), some (.int t5.1)]) (fun _ => []) (fun s67 => eh_FW s67) (fun s67 => ?_)
          refine es_blk (pc' := 87) (L' := [some (.ref 127), some (.int p0), some (.int e2.1), some (.int (t5.1 + 1))]) (st' := []) [(.iinc 3 1, 1)] (by decide +kernel) rfl rfl ?_
          refine ef_V (fun x68 => [some (.ref 127), some (.int p0), some (.int e2.1), some (.int x68)]) (fun _ => []) (fun _ => eh_FW s67) (fun x68 => ?_)
          refine es_goto (tgt := 70) (off := (-17)) (by decide +kernel) (by decide) ?_
          exact Hr65 (x68, s67)
        refine ef_drop (L2 := [some (.ref 127), some (.int p0), some (.int e2.1), none]) [true, true, true, false] rfl rfl ?_
        exact HxK64_0 t5.2
    · refine es_blk (pc' := 50) (L' := [some (.ref 127), some (.int p0), some (.int e2.1), some (.int t3.1)]) (st' := [.int t3.1]) [(.iload_n 3, 0)] (by decide +kernel) rfl rfl ?_
      refine es_ldc (v := 131072) eC_12_9 (by decide +kernel) ?_
      refine es_ige (tgt := 68) (off := (16)) (by decide +kernel) (by decide) (fun h71 => ?_) (fun h71 => ?_)
      · refine es_blk (pc' := 56) (L' := [some (.ref 127), some (.int p0), some (.int e2.1), some (.int t3.1)]) (st' := [.ref 127]) [(.aload_n 0, 0)] (by decide +kernel) rfl rfl ?_
        refine ef_getP (k := 127) (j := 0) (q := 128) rfl eL_12_10 rfl rfl rfl (by decide +kernel) ?_
        refine es_blk (pc' := 61) (L' := [some (.ref 127), some (.int p0), some (.int e2.1), some (.int t3.1)]) (st' := [.int 0, .int t3.1, .ref 128]) [(.iload_n 3, 0), (.iconst 0, 0)] (by decide +kernel) rfl rfl ?_
        refine ef_astB (k := 128) rfl (by decide +kernel) (fun _ => ?_)
        refine ef_V (fun _ => [some (.ref 127), some (.int p0), some (.int e2.1), some (.int t3.1)]) (fun _ => []) (fun s72 => eh_FW s72) (fun s72 => ?_)
        refine es_blk (pc' := 65) (L' := [some (.ref 127), some (.int p0), some (.int e2.1), some (.int (t3.1 + 1))]) (st' := []) [(.iinc 3 1, 1)] (by decide +kernel) rfl rfl ?_
        refine ef_V (fun x73 => [some (.ref 127), some (.int p0), some (.int e2.1), some (.int x73)]) (fun _ => []) (fun _ => eh_FW s72) (fun x73 => ?_)
        refine es_goto (tgt := 49) (off := (-16)) (by decide +kernel) (by decide) ?_
        exact Hr70 (x73, s72)
      refine ef_drop (L2 := [some (.ref 127), some (.int p0), some (.int e2.1), none]) [true, true, true, false] rfl rfl ?_
      exact HxK69_0 t3.2
  · refine es_blk (pc' := 7) (L' := [some (.ref 127), some (.int p0), some (.int t1.1), some (.int t1.2.1)]) (st' := [.int 6, .int t1.2.1]) [(.iload_n 3, 0), (.bipush 6, 6)] (by decide +kernel) rfl rfl ?_
    refine es_ige (tgt := 47) (off := (40)) (by decide +kernel) (by decide) (fun h76 => ?_) (fun h76 => ?_)
    · refine es_blk (pc' := 12) (L' := [some (.ref 127), some (.int p0), some (.int t1.1), some (.int t1.2.1)]) (st' := [.ref 127, .int t1.1]) [(.iload_n 2, 0), (.aload_n 0, 0)] (by decide +kernel) rfl rfl ?_
      refine ef_getP (k := 127) (j := 30) (q := 155) rfl eL_12_94 rfl rfl rfl (by decide +kernel) ?_
      refine es_blk (pc' := 16) (L' := [some (.ref 127), some (.int p0), some (.int t1.1), some (.int t1.2.1)]) (st' := [.int t1.2.1, .ref 155, .int t1.1]) [(.iload_n 3, 0)] (by decide +kernel) rfl rfl ?_
      refine ef_ald (k := 155) rfl (Or.inl ⟨rfl, rfl⟩) (by decide +kernel) (fun _ => ?_)
      refine ef_J (X := fun j77 => ∀ (a78 : Int32), eh_Sim g eM_12_boot (eh_R 6 0 0) eh_eI 0 0 25 [some (.ref 127), some (.int p0), none, some (.int t1.2.1)] [.int a78, .int t1.1] (eh_FW t1.2.2) ((j77 a78).bind K74)) ?_ (fun j77 Hj77 => ?_)
      · intro a78
        refine es_blk (pc' := 27) (L' := [some (.ref 127), some (.int p0), some (.int (t1.1 + a78)), some (.int t1.2.1)]) (st' := []) [(.iadd, 0), (.istore_n 2, 0)] (by decide +kernel) rfl rfl ?_
        refine ef_V (fun x79 => [some (.ref 127), some (.int p0), some (.int x79), some (.int t1.2.1)]) (fun _ => []) (fun _ => eh_FW t1.2.2) (fun x79 => ?_)
        refine es_blk (pc' := 28) (L' := [some (.ref 127), some (.int p0), some (.int x79), some (.int t1.2.1)]) (st' := [.ref 127]) [(.aload_n 0, 0)] (by decide +kernel) rfl rfl ?_
        refine ef_getP (k := 127) (j := 30) (q := 155) rfl eL_12_94 rfl rfl rfl (by decide +kernel) ?_
        refine es_blk (pc' := 33) (L' := [some (.ref 127), some (.int p0), some (.int x79), some (.int t1.2.1)]) (st' := [.int 0, .int t1.2.1, .ref 155]) [(.iload_n 3, 0), (.iconst 0, 0)] (by decide +kernel) rfl rfl ?_
        refine ef_ast (k := 155) rfl (by decide +kernel) (fun _ => ?_)
        refine ef_V (fun _ => [some (.ref 127), some (.int p0), some (.int x79), some (.int t1.2.1)]) (fun _ => []) (fun s80 => eh_FW s80) (fun s80 => ?_)
        refine es_blk (pc' := 35) (L' := [some (.ref 127), some (.int p0), some (.int x79), some (.int t1.2.1)]) (st' := [.ref 127]) [(.aload_n 0, 0)] (by decide +kernel) rfl rfl ?_
        refine ef_getP (k := 127) (j := 33) (q := 158) rfl eL_12_103 rfl rfl rfl (by decide +kernel) ?_
        refine es_blk (pc' := 40) (L' := [some (.ref 127), some (.int p0), some (.int x79), some (.int t1.2.1)]) (st' := [.int 0, .int t1.2.1, .ref 158]) [(.iload_n 3, 0), (.iconst 0, 0)] (by decide +kernel) rfl rfl ?_
        refine ef_ast (k := 158) rfl (by decide +kernel) (fun _ => ?_)
        refine ef_V (fun _ => [some (.ref 127), some (.int p0), some (.int x79), some (.int t1.2.1)]) (fun _ => []) (fun s81 => eh_FW s81) (fun s81 => ?_)
        refine es_blk (pc' := 44) (L' := [some (.ref 127), some (.int p0), some (.int x79), some (.int (t1.2.1 + 1))]) (st' := []) [(.iinc 3 1, 1)] (by decide +kernel) rfl rfl ?_
        refine ef_V (fun x82 => [some (.ref 127), some (.int p0), some (.int x79), some (.int x82)]) (fun _ => []) (fun _ => eh_FW s81) (fun x82 => ?_)
        refine es_goto (tgt := 4) (off := (-40)) (by decide +kernel) (by decide) ?_
        exact Hr75 (x79, x82, s81)
      refine es_eq (tgt := 24) (off := (7)) (by decide +kernel) (by decide) (fun h83 => ?_) (fun h83 => ?_)
      · refine es_blk (pc' := 25) (L' := [some (.ref 127), some (.int p0), some (.int t1.1), some (.int t1.2.1)]) (st' := [.int 0, .int t1.1]) [(.iconst 0, 0)] (by decide +kernel) rfl rfl ?_
        refine ef_drop (L2 := [some (.ref 127), some (.int p0), none, some (.int t1.2.1)]) [true, true, false, true] rfl rfl ?_
        exact Hj77 _
      refine es_blk (pc' := 21) (L' := [some (.ref 127), some (.int p0), some (.int t1.1), some (.int t1.2.1)]) (st' := [.int 1, .int t1.1]) [(.iconst 1, 1)] (by decide +kernel) rfl rfl ?_
      refine es_goto (tgt := 25) (off := (4)) (by decide +kernel) (by decide) ?_
      refine ef_drop (L2 := [some (.ref 127), some (.int p0), none, some (.int t1.2.1)]) [true, true, false, true] rfl rfl ?_
      exact Hj77 _
    refine ef_drop (L2 := [some (.ref 127), some (.int p0), some (.int t1.1), none]) [true, true, true, false] rfl rfl ?_
    exact HxK74_0 (t1.1, t1.2.2)
def eF_12_load (s : eh_F) (p0 : Int32) (p1 : Int32) (p2 : Int32) (p3 : Int32) : Option (Int32 × eh_F) := eh_J (fun (a2 : Int32) => if p2 = 0 then none else if (eh_rem p1 p2) = 0 then (Option.bind (eF_12_locate s p0 p1 p2 a2) (fun q5 => if (q5.2.1 127 83) = (-1) then (Option.bind (eh_loop (fun (r10 : (Int32 × Int32) → Option (Int32)) (t7 : Int32 × Int32) => if t7.2 < p2 then (if eh_in (q5.1 + t7.2) 131072 then eh_V ((t7.1 ||| (eh_shl ((q5.2.1 128 (eh_ix (q5.1 + t7.2))) &&& 255) (8 * t7.2))) : Int32) (fun x12 => eh_V ((t7.2 + 1) : Int32) (fun x13 => r10 (x12, x13))) else none) else (some t7.1)) eh_FU (0, 0)) (fun (e8 : Int32) => some (e8, q5.2))) else (some (0, q5.2)))) else (eh_J (fun (a15 : Int32) => Option.bind (eF_12_except s a15 p1) (fun q16 => some (0, q16))) (fun j14 => if p3 = 0 then (j14 4) else (j14 6)))) (fun j1 => if p3 = 0 then (j1 1) else (j1 2))
set_option maxHeartbeats 4000000 in
set_option maxRecDepth 100000 in
theorem eS_12_load (g : eh_P) (s : eh_F) (p0 : Int32) (p1 : Int32) (p2 : Int32) (p3 : Int32) : eh_Sim g eM_12_load (eh_R 6 0 0) eh_eI 0 0 0 (eh_en 9 [.ref 127, .int p0, .int p1, .int p2, .int p3]) [] (eh_FW s) (eF_12_load s p0 p1 p2 p3) := by
  unfold eF_12_load
  refine ef_top (L := [some (.ref 127), some (.int p0), some (.int p1), some (.int p2), some (.int p3), none, none, none, none]) rfl ?_
  refine es_blk (pc' := 2) (L' := [some (.ref 127), some (.int p0), some (.int p1), some (.int p2), some (.int p3), none, none, none, none]) (st' := [.int p3]) [(.iload 4, 0)] (by decide +kernel) rfl rfl ?_
  refine ef_J (X := fun j1 => ∀ (a2 : Int32), eh_Sim g eM_12_load (eh_R 6 0 0) eh_eI 0 0 10 [some (.ref 127), some (.int p0), some (.int p1), some (.int p2), some (.int p3), none, none, none, none] [.int a2] (eh_FW s) ((j1 a2).bind some)) ?_ (fun j1 Hj1 => ?_)
  · intro a2
    refine es_blk (pc' := 14) (L' := [some (.ref 127), some (.int p0), some (.int p1), some (.int p2), some (.int p3), some (.int a2), none, none, none]) (st' := [.int p2, .int p1]) [(.istore 5, 0), (.iload_n 2, 0), (.iload_n 3, 0)] (by decide +kernel) rfl rfl ?_
    refine es_chkN (fun h3 => ?_)
    refine es_irem (by decide +kernel) h3 ?_
    refine es_eq (tgt := 36) (off := (21)) (by decide +kernel) (by decide) (fun h4 => ?_) (fun h4 => ?_)
    · refine es_blk (pc' := 42) (L' := [some (.ref 127), some (.int p0), some (.int p1), some (.int p2), some (.int p3), some (.int a2), none, none, none]) (st' := [.int a2, .int p2, .int p1, .int p0, .ref 127]) [(.aload_n 0, 0), (.iload_n 1, 0), (.iload_n 2, 0), (.iload_n 3, 0), (.iload 5, 0)] (by decide +kernel) rfl rfl ?_
      refine ef_veI (d := 5) (k := 127) (As := [.int p0, .int p1, .int p2, .int a2]) (st := []) eV_12_locate eK_12_382 (eS_12_locate g s p0 p1 p2 a2) rfl rfl (Nat.le_of_ble_eq_true rfl) rfl (Nat.le_of_ble_eq_true rfl) ⟨Nat.le_of_ble_eq_true rfl, Nat.le_of_ble_eq_true rfl⟩ ⟨Nat.le_refl _, Nat.le_refl _⟩ (by decide +kernel) (fun q5 _ => ?_)
      refine es_blk (pc' := 48) (L' := [some (.ref 127), some (.int p0), some (.int p1), some (.int p2), some (.int p3), some (.int a2), some (.int q5.1), none, none]) (st' := [.ref 127]) [(.istore 6, 0), (.aload_n 0, 0)] (by decide +kernel) rfl rfl ?_
      refine ef_getI (k := 127) (j := 83) rfl eL_12_340 (by decide) (by decide +kernel) ?_
      refine es_blk (pc' := 52) (L' := [some (.ref 127), some (.int p0), some (.int p1), some (.int p2), some (.int p3), some (.int a2), some (.int q5.1), none, none]) (st' := [.int (-1), .int (q5.2.1 127 83)]) [(.iconst (-1), (-1))] (by decide +kernel) rfl rfl ?_
      refine es_ieq (tgt := 57) (off := (5)) (by decide +kernel) (by decide) (fun h6 => ?_) (fun h6 => ?_)
      · refine es_blk (pc' := 63) (L' := [some (.ref 127), some (.int p0), some (.int p1), some (.int p2), some (.int p3), some (.int a2), some (.int q5.1), some (.int 0), some (.int 0)]) (st' := []) [(.iconst 0, 0), (.istore 7, 0), (.iconst 0, 0), (.istore 8, 0)] (by decide +kernel) rfl rfl ?_
        refine ef_drop (L2 := [some (.ref 127), none, none, some (.int p2), none, none, some (.int q5.1), some (.int 0), some (.int 0)]) [true, false, false, true, false, false, true, true, true] rfl rfl ?_
        refine ef_loop1 (n := eh_FU) (i := (0, 0)) (px := 100) (fun (t7 : Int32 × Int32) => [some (.ref 127), none, none, some (.int p2), none, none, some (.int q5.1), some (.int t7.1), some (.int t7.2)]) (fun (t7 : Int32 × Int32) => []) (fun (t7 : Int32 × Int32) => eh_FW q5.2) (fun (e8 : Int32) => [none, none, none, none, none, none, none, some (.int e8), none]) (fun (e8 : Int32) => []) (fun (e8 : Int32) => eh_FW q5.2) (fun e8 => ?_) (fun K9 HxK9_0 r10 Hr10 t7 => ?_)
        · refine es_blk (pc' := 102) (L' := [none, none, none, none, none, none, none, some (.int e8), none]) (st' := [.int e8]) [(.iload 7, 0)] (by decide +kernel) rfl rfl ?_
          exact es_ret rfl rfl rfl ⟨by decide +kernel, _, rfl, rfl⟩ (Nat.le_refl _) (Nat.le_refl _)
        · refine es_blk (pc' := 66) (L' := [some (.ref 127), none, none, some (.int p2), none, none, some (.int q5.1), some (.int t7.1), some (.int t7.2)]) (st' := [.int p2, .int t7.2]) [(.iload 8, 0), (.iload_n 3, 0)] (by decide +kernel) rfl rfl ?_
          refine es_ige (tgt := 100) (off := (34)) (by decide +kernel) (by decide) (fun h11 => ?_) (fun h11 => ?_)
          · refine es_blk (pc' := 72) (L' := [some (.ref 127), none, none, some (.int p2), none, none, some (.int q5.1), some (.int t7.1), some (.int t7.2)]) (st' := [.ref 127, .int t7.1]) [(.iload 7, 0), (.aload_n 0, 0)] (by decide +kernel) rfl rfl ?_
            refine ef_getP (k := 127) (j := 0) (q := 128) rfl eL_12_10 rfl rfl rfl (by decide +kernel) ?_
            refine es_blk (pc' := 80) (L' := [some (.ref 127), none, none, some (.int p2), none, none, some (.int q5.1), some (.int t7.1), some (.int t7.2)]) (st' := [.int (q5.1 + t7.2), .ref 128, .int t7.1]) [(.iload 6, 0), (.iload 8, 0), (.iadd, 0)] (by decide +kernel) rfl rfl ?_
            refine ef_ald (k := 128) rfl (Or.inr ⟨Or.inl rfl, rfl⟩) (by decide +kernel) (fun _ => ?_)
            refine es_blk (pc' := 94) (L' := [some (.ref 127), none, none, some (.int p2), none, none, some (.int q5.1), some (.int (t7.1 ||| (eh_shl ((q5.2.1 128 (eh_ix (q5.1 + t7.2))) &&& 255) (8 * t7.2)))), some (.int t7.2)]) (st' := []) [(.sipush 255, 255), (.iand, 0), (.bipush 8, 8), (.iload 8, 0), (.imul, 0), (.ishl, 0), (.ior, 0), (.istore 7, 0)] (by decide +kernel) rfl rfl ?_
            refine ef_V (fun x12 => [some (.ref 127), none, none, some (.int p2), none, none, some (.int q5.1), some (.int x12), some (.int t7.2)]) (fun _ => []) (fun _ => eh_FW q5.2) (fun x12 => ?_)
            refine es_blk (pc' := 97) (L' := [some (.ref 127), none, none, some (.int p2), none, none, some (.int q5.1), some (.int x12), some (.int (t7.2 + 1))]) (st' := []) [(.iinc 8 1, 1)] (by decide +kernel) rfl rfl ?_
            refine ef_V (fun x13 => [some (.ref 127), none, none, some (.int p2), none, none, some (.int q5.1), some (.int x12), some (.int x13)]) (fun _ => []) (fun _ => eh_FW q5.2) (fun x13 => ?_)
            refine es_goto (tgt := 63) (off := (-34)) (by decide +kernel) (by decide) ?_
            exact Hr10 (x12, x13)
          refine ef_drop (L2 := [none, none, none, none, none, none, none, some (.int t7.1), none]) [false, true, true, false, true, true, false, true, false] rfl rfl ?_
          exact HxK9_0 t7.1
      refine es_blk (pc' := 56) (L' := [some (.ref 127), some (.int p0), some (.int p1), some (.int p2), some (.int p3), some (.int a2), some (.int q5.1), none, none]) (st' := [.int 0]) [(.iconst 0, 0)] (by decide +kernel) rfl rfl ?_
      exact es_ret rfl rfl rfl ⟨by decide +kernel, _, rfl, rfl⟩ (Nat.le_refl _) (Nat.le_refl _)
    refine es_blk (pc' := 21) (L' := [some (.ref 127), some (.int p0), some (.int p1), some (.int p2), some (.int p3), some (.int a2), none, none, none]) (st' := [.int p3, .ref 127]) [(.aload_n 0, 0), (.iload 4, 0)] (by decide +kernel) rfl rfl ?_
    refine ef_J (X := fun j14 => ∀ (a15 : Int32), eh_Sim g eM_12_load (eh_R 6 0 0) eh_eI 0 0 30 [none, none, some (.int p1), none, none, none, none, none, none] [.int a15, .ref 127] (eh_FW s) ((j14 a15).bind some)) ?_ (fun j14 Hj14 => ?_)
    · intro a15
      refine es_blk (pc' := 31) (L' := [none, none, some (.int p1), none, none, none, none, none, none]) (st' := [.int p1, .int a15, .ref 127]) [(.iload_n 2, 0)] (by decide +kernel) rfl rfl ?_
      refine ef_veV (d := 1) (k := 127) (As := [.int a15, .int p1]) (st := []) eV_12_except eK_12_359 (eS_12_except g s a15 p1) rfl rfl (Nat.le_of_ble_eq_true rfl) rfl (Nat.le_of_ble_eq_true rfl) ⟨Nat.le_of_ble_eq_true rfl, Nat.le_of_ble_eq_true rfl⟩ ⟨Nat.le_refl _, Nat.le_refl _⟩ (by decide +kernel) (fun q16 _ => ?_)
      refine es_blk (pc' := 35) (L' := [none, none, some (.int p1), none, none, none, none, none, none]) (st' := [.int 0]) [(.iconst 0, 0)] (by decide +kernel) rfl rfl ?_
      exact es_ret rfl rfl rfl ⟨by decide +kernel, _, rfl, rfl⟩ (Nat.le_refl _) (Nat.le_refl _)
    refine es_eq (tgt := 29) (off := (8)) (by decide +kernel) (by decide) (fun h17 => ?_) (fun h17 => ?_)
    · refine es_blk (pc' := 30) (L' := [some (.ref 127), some (.int p0), some (.int p1), some (.int p2), some (.int p3), some (.int a2), none, none, none]) (st' := [.int 4, .ref 127]) [(.iconst 4, 4)] (by decide +kernel) rfl rfl ?_
      refine ef_drop (L2 := [none, none, some (.int p1), none, none, none, none, none, none]) [false, false, true, false, false, false, true, true, true] rfl rfl ?_
      exact Hj14 _
    refine es_blk (pc' := 26) (L' := [some (.ref 127), some (.int p0), some (.int p1), some (.int p2), some (.int p3), some (.int a2), none, none, none]) (st' := [.int 6, .ref 127]) [(.bipush 6, 6)] (by decide +kernel) rfl rfl ?_
    refine es_goto (tgt := 30) (off := (4)) (by decide +kernel) (by decide) ?_
    refine ef_drop (L2 := [none, none, some (.int p1), none, none, none, none, none, none]) [false, false, true, false, false, false, true, true, true] rfl rfl ?_
    exact Hj14 _
  refine es_eq (tgt := 9) (off := (7)) (by decide +kernel) (by decide) (fun h18 => ?_) (fun h18 => ?_)
  · refine es_blk (pc' := 10) (L' := [some (.ref 127), some (.int p0), some (.int p1), some (.int p2), some (.int p3), none, none, none, none]) (st' := [.int 1]) [(.iconst 1, 1)] (by decide +kernel) rfl rfl ?_
    exact Hj1 _
  refine es_blk (pc' := 6) (L' := [some (.ref 127), some (.int p0), some (.int p1), some (.int p2), some (.int p3), none, none, none, none]) (st' := [.int 2]) [(.iconst 2, 2)] (by decide +kernel) rfl rfl ?_
  refine es_goto (tgt := 10) (off := (4)) (by decide +kernel) (by decide) ?_
  exact Hj1 _
def eF_12_store (s : eh_F) (p0 : Int32) (p1 : Int32) (p2 : Int32) (p3 : Int32) : Option (eh_F) := if p2 = 0 then none else if (eh_rem p1 p2) = 0 then (Option.bind (eF_12_locate s p0 p1 p2 2) (fun q3 => eh_J (fun (s5 : eh_F) => some s5) (fun j4 => if (q3.2.1 127 83) = (-1) then (Option.bind (eF_12_storeAt q3.2 p0 q3.1 p2 p3) (fun q7 => j4 q7)) else (j4 q3.2)))) else (Option.bind (eF_12_except s 6 p1) (fun q8 => some q8))
set_option maxHeartbeats 4000000 in
set_option maxRecDepth 100000 in
theorem eS_12_store (g : eh_P) (s : eh_F) (p0 : Int32) (p1 : Int32) (p2 : Int32) (p3 : Int32) : eh_Sim g eM_12_store (eh_R 6 0 0) eh_eV 0 0 0 (eh_en 6 [.ref 127, .int p0, .int p1, .int p2, .int p3]) [] (eh_FW s) (eF_12_store s p0 p1 p2 p3) := by
  unfold eF_12_store
  refine ef_top (L := [some (.ref 127), some (.int p0), some (.int p1), some (.int p2), some (.int p3), none]) rfl ?_
  refine es_blk (pc' := 2) (L' := [some (.ref 127), some (.int p0), some (.int p1), some (.int p2), some (.int p3), none]) (st' := [.int p2, .int p1]) [(.iload_n 2, 0), (.iload_n 3, 0)] (by decide +kernel) rfl rfl ?_
  refine es_chkN (fun h1 => ?_)
  refine es_irem (by decide +kernel) h1 ?_
  refine es_eq (tgt := 14) (off := (11)) (by decide +kernel) (by decide) (fun h2 => ?_) (fun h2 => ?_)
  · refine es_blk (pc' := 19) (L' := [some (.ref 127), some (.int p0), some (.int p1), some (.int p2), some (.int p3), none]) (st' := [.int 2, .int p2, .int p1, .int p0, .ref 127]) [(.aload_n 0, 0), (.iload_n 1, 0), (.iload_n 2, 0), (.iload_n 3, 0), (.iconst 2, 2)] (by decide +kernel) rfl rfl ?_
    refine ef_veI (d := 5) (k := 127) (As := [.int p0, .int p1, .int p2, .int 2]) (st := []) eV_12_locate eK_12_382 (eS_12_locate g s p0 p1 p2 2) rfl rfl (Nat.le_of_ble_eq_true rfl) rfl (Nat.le_of_ble_eq_true rfl) ⟨Nat.le_of_ble_eq_true rfl, Nat.le_of_ble_eq_true rfl⟩ ⟨Nat.le_refl _, Nat.le_refl _⟩ (by decide +kernel) (fun q3 _ => ?_)
    refine es_blk (pc' := 25) (L' := [some (.ref 127), some (.int p0), some (.int p1), some (.int p2), some (.int p3), some (.int q3.1)]) (st' := [.ref 127]) [(.istore 5, 0), (.aload_n 0, 0)] (by decide +kernel) rfl rfl ?_
    refine ef_getI (k := 127) (j := 83) rfl eL_12_340 (by decide) (by decide +kernel) ?_
    refine es_blk (pc' := 29) (L' := [some (.ref 127), some (.int p0), some (.int p1), some (.int p2), some (.int p3), some (.int q3.1)]) (st' := [.int (-1), .int (q3.2.1 127 83)]) [(.iconst (-1), (-1))] (by decide +kernel) rfl rfl ?_
    refine ef_J (X := fun j4 => ∀ (s5 : eh_F), eh_Sim g eM_12_store (eh_R 6 0 0) eh_eV 0 0 42 [none, none, none, none, none, none] [] (eh_FW s5) ((j4 s5).bind some)) ?_ (fun j4 Hj4 => ?_)
    · intro s5
      exact es_ret rfl rfl rfl ⟨by decide +kernel, rfl⟩ (Nat.le_refl _) (Nat.le_refl _)
    refine es_ine (tgt := 42) (off := (13)) (by decide +kernel) (by decide) (fun h6 => ?_) (fun h6 => ?_)
    · refine es_blk (pc' := 39) (L' := [some (.ref 127), some (.int p0), some (.int p1), some (.int p2), some (.int p3), some (.int q3.1)]) (st' := [.int p3, .int p2, .int q3.1, .int p0, .ref 127]) [(.aload_n 0, 0), (.iload_n 1, 0), (.iload 5, 0), (.iload_n 3, 0), (.iload 4, 0)] (by decide +kernel) rfl rfl ?_
      refine ef_veV (d := 2) (k := 127) (As := [.int p0, .int q3.1, .int p2, .int p3]) (st := []) eV_12_storeAt eK_12_386 (eS_12_storeAt g q3.2 p0 q3.1 p2 p3) rfl rfl (Nat.le_of_ble_eq_true rfl) rfl (Nat.le_of_ble_eq_true rfl) ⟨Nat.le_of_ble_eq_true rfl, Nat.le_of_ble_eq_true rfl⟩ ⟨Nat.le_refl _, Nat.le_refl _⟩ (by decide +kernel) (fun q7 _ => ?_)
      refine ef_drop (L2 := [none, none, none, none, none, none]) [false, false, false, false, false, false] rfl rfl ?_
      exact Hj4 _
    refine ef_drop (L2 := [none, none, none, none, none, none]) [false, false, false, false, false, false] rfl rfl ?_
    exact Hj4 _
  refine es_blk (pc' := 10) (L' := [some (.ref 127), some (.int p0), some (.int p1), some (.int p2), some (.int p3), none]) (st' := [.int p1, .int 6, .ref 127]) [(.aload_n 0, 0), (.bipush 6, 6), (.iload_n 2, 0)] (by decide +kernel) rfl rfl ?_
  refine ef_veV (d := 1) (k := 127) (As := [.int 6, .int p1]) (st := []) eV_12_except eK_12_359 (eS_12_except g s 6 p1) rfl rfl (Nat.le_of_ble_eq_true rfl) rfl (Nat.le_of_ble_eq_true rfl) ⟨Nat.le_of_ble_eq_true rfl, Nat.le_of_ble_eq_true rfl⟩ ⟨Nat.le_refl _, Nat.le_refl _⟩ (by decide +kernel) (fun q8 _ => ?_)
  exact es_ret rfl rfl rfl ⟨by decide +kernel, rfl⟩ (Nat.le_refl _) (Nat.le_refl _)
def eF_12_asked (s : eh_F) (p0 : Int32) (p1 : Int32) (p2 : Int32) (p3 : Int32) (p4 : Int32) (p5 : Int32) : Option (Int32 × eh_F) := eh_J (fun (u2 : Unit) => Option.bind (eF_12_run s p0 p1 p2 p3 p4) (fun q3 => some (q3.1, q3.2))) (fun j1 => eh_J (fun (u5 : Unit) => Option.bind (eF_12_share s p1 p2 p3 p4) (fun q6 => some (q6.1, q6.2))) (fun j4 => if p1 = 1 then (Option.bind (eF_12_create s p2 p3) (fun q9 => some (q9.1, q9.2))) else if p1 = 2 then (Option.bind (eF_12_loadPage s p2 p3 p4) (fun q11 => some (q11.1, q11.2))) else if p1 = 3 then (Option.bind (eF_12_makeThread s p2 p3 p4) (fun q13 => some (q13.1, q13.2))) else if p1 = 4 then (Option.bind (eF_12_finalise s p2 p3) (fun q15 => some (q15.1, q15.2))) else if p1 = 5 then (j1 ()) else if p1 = 6 then (j1 ()) else if p1 = 7 then (Option.bind (eF_12_stop s p2) (fun q19 => some (q19.1, q19.2))) else if p1 = 8 then (Option.bind (eF_12_destroy s p2) (fun q21 => some (q21.1, q21.2))) else if p1 = 9 then (j4 ()) else if p1 = 10 then (Option.bind (eF_12_link s p2 p3 p4 p5) (fun q24 => some (q24.1, q24.2))) else if p1 = 11 then (eh_J (fun (u27 : Unit) => some ((-1), s)) (fun j26 => if p2 < 0 then (j26 ()) else (if p2 < 12 then (if eh_in p2 12 then if 1 < (s.1 164 (eh_ix p2)) then (Option.bind (eF_12_drop s p2) (fun q31 => some (0, q31))) else (j26 ()) else none) else (j26 ())))) else if p1 = 12 then (if (s.1 127 52) = 1024 then (some ((-5), s)) else (if eh_in (s.1 127 52) 1024 then eh_V (eh_tI s 174 (eh_ix (s.1 127 52)) (eh_nb (eh_nb p2))) (fun s34 => eh_V (eh_tI s34 127 52 ((s34.1 127 52) + 1)) (fun s35 => some ((s35.1 127 52), s35))) else none)) else if p1 = 13 then (eh_J (fun (u38 : Unit) => if eh_in p2 2 then eh_V (eh_tI s 140 (eh_ix p2) 2) (fun s39 => some (0, s39)) else none) (fun j37 => if p2 = 0 then (j37 ()) else (if p2 = 1 then (j37 ()) else (some ((-1), s))))) else if p1 = 14 then (Option.bind (eF_12_move s p2 p3 p4) (fun q43 => some (q43.1, q43.2))) else if p1 = 15 then (eh_V (((s.1 127 59) + (256 * (s.1 127 60))) : Int32) (fun x45 => eh_V (eh_tI s 127 59 0) (fun s46 => eh_V (eh_tI s46 127 60 0) (fun s47 => some (x45, s47))))) else if p1 = 16 then (Option.bind (eF_12_isEnclave s p2) (fun q49 => eh_J (fun (u51 : Unit) => some ((-1), s)) (fun j50 => if q49 = 0 then (j50 ()) else (if p3 < 0 then (j50 ()) else (if 7 < p3 then (j50 ()) else (if eh_in p2 6 then eh_J (fun (a56 : Int32) => some (a56, s)) (fun j55 => if (s.1 155 (eh_ix p2)) = 1 then (j55 (-2)) else (Option.bind (eF_12_bigWord s 159 192 ((32 * p2) + (4 * p3))) (fun q58 => j55 q58))) else none)))))) else if p1 = 17 then (Option.bind (eF_12_isEnclave s p2) (fun q60 => eh_J (fun (u62 : Unit) => some ((-1), s)) (fun j61 => if q60 = 0 then (j61 ()) else (if p3 < 0 then (j61 ()) else (if (eh_rem p3 4) = 0 then (if eh_in p2 6 then if eh_in (s.1 156 (eh_ix p2)) 12 then if p3 < (s.1 166 (eh_ix (s.1 156 (eh_ix p2)))) then (if eh_in p2 6 then eh_J (fun (a68 : Int32) => some (a68, s)) (fun j67 => eh_J (fun (u70 : Unit) => j67 (-6)) (fun j69 => if (s.1 155 (eh_ix p2)) = 1 then (j69 ()) else (if eh_in p2 6 then if (s.1 157 (eh_ix p2)) = 1 then (if eh_in p2 6 then if eh_in (s.1 156 (eh_ix p2)) 12 then Option.bind (eF_12_littleWord s 128 131072 ((s.1 165 (eh_ix (s.1 156 (eh_ix p2)))) + p3)) (fun q73 => j67 q73) else none else none) else (j69 ()) else none))) else none) else (j61 ()) else none else none) else (j61 ())))))) else if p1 = 18 then (eh_V (eh_tI s 127 21 1) (fun s75 => some (0, s75))) else if p1 = 19 then (eh_J (fun (u78 : Unit) => some ((-1), s)) (fun j77 => if p2 < 0 then (j77 ()) else (if 100000 < p2 then (j77 ()) else (if eh_in p0 2 then eh_V (eh_tI s 143 (eh_ix p0) p2) (fun s81 => some (0, s81)) else none)))) else if p1 = 20 then (j4 ()) else if p1 = 21 then (Option.bind (eF_12_key s) (fun q84 => some (q84.1, q84.2))) else (some ((-1), s))))
set_option maxHeartbeats 4000000 in
set_option maxRecDepth 100000 in
theorem eS_12_asked (g : eh_P) (s : eh_F) (p0 : Int32) (p1 : Int32) (p2 : Int32) (p3 : Int32) (p4 : Int32) (p5 : Int32) : eh_Sim g eM_12_asked (eh_R 6 0 0) eh_eI 0 0 0 (eh_en 8 [.ref 127, .int p0, .int p1, .int p2, .int p3, .int p4, .int p5]) [] (eh_FW s) (eF_12_asked s p0 p1 p2 p3 p4 p5) := by
  unfold eF_12_asked
  refine ef_top (L := [some (.ref 127), some (.int p0), some (.int p1), some (.int p2), some (.int p3), some (.int p4), some (.int p5), none]) rfl ?_
  refine es_blk (pc' := 1) (L' := [some (.ref 127), some (.int p0), some (.int p1), some (.int p2), some (.int p3), some (.int p4), some (.int p5), none]) (st' := [.int p1]) [(.iload_n 2, 0)] (by decide +kernel) rfl rfl ?_
  refine ef_J (X := fun j1 => ∀ (u2 : Unit), eh_Sim g eM_12_asked (eh_R 6 0 0) eh_eI 0 0 136 [some (.ref 127), some (.int p0), some (.int p1), some (.int p2), some (.int p3), some (.int p4), none, none] [] (eh_FW s) ((j1 u2).bind some)) ?_ (fun j1 Hj1 => ?_)
  · intro u2
    refine es_blk (pc' := 144) (L' := [some (.ref 127), some (.int p0), some (.int p1), some (.int p2), some (.int p3), some (.int p4), none, none]) (st' := [.int p4, .int p3, .int p2, .int p1, .int p0, .ref 127]) [(.aload_n 0, 0), (.iload_n 1, 0), (.iload_n 2, 0), (.iload_n 3, 0), (.iload 4, 0), (.iload 5, 0)] (by decide +kernel) rfl rfl ?_
    refine ef_veI (d := 2) (k := 127) (As := [.int p0, .int p1, .int p2, .int p3, .int p4]) (st := []) eV_12_run eK_12_527 (eS_12_run g s p0 p1 p2 p3 p4) rfl rfl (Nat.le_of_ble_eq_true rfl) rfl (Nat.le_of_ble_eq_true rfl) ⟨Nat.le_of_ble_eq_true rfl, Nat.le_of_ble_eq_true rfl⟩ ⟨Nat.le_refl _, Nat.le_refl _⟩ (by decide +kernel) (fun q3 _ => ?_)
    exact es_ret rfl rfl rfl ⟨by decide +kernel, _, rfl, rfl⟩ (Nat.le_refl _) (Nat.le_refl _)
  refine ef_J (X := fun j4 => ∀ (u5 : Unit), eh_Sim g eM_12_asked (eh_R 6 0 0) eh_eI 0 0 160 [some (.ref 127), none, some (.int p1), some (.int p2), some (.int p3), some (.int p4), none, none] [] (eh_FW s) ((j4 u5).bind some)) ?_ (fun j4 Hj4 => ?_)
  · intro u5
    refine es_blk (pc' := 167) (L' := [some (.ref 127), none, some (.int p1), some (.int p2), some (.int p3), some (.int p4), none, none]) (st' := [.int p4, .int p3, .int p2, .int p1, .ref 127]) [(.aload_n 0, 0), (.iload_n 2, 0), (.iload_n 3, 0), (.iload 4, 0), (.iload 5, 0)] (by decide +kernel) rfl rfl ?_
    refine ef_veI (d := 4) (k := 127) (As := [.int p1, .int p2, .int p3, .int p4]) (st := []) eV_12_share eK_12_537 (eS_12_share g s p1 p2 p3 p4) rfl rfl (Nat.le_of_ble_eq_true rfl) rfl (Nat.le_of_ble_eq_true rfl) ⟨Nat.le_of_ble_eq_true rfl, Nat.le_of_ble_eq_true rfl⟩ ⟨Nat.le_refl _, Nat.le_refl _⟩ (by decide +kernel) (fun q6 _ => ?_)
    exact es_ret rfl rfl rfl ⟨by decide +kernel, _, rfl, rfl⟩ (Nat.le_refl _) (Nat.le_refl _)
  have hs7 : decode eM_12_asked.2.1 1 = .ok (.tableswitch (481) (1) (21) #[(99), (107), (117), (127), (135), (135), (147), (153), (159), (170), (182), (211), (250), (270), (280), (308), (362), (447), (454), (159), (476)], 99) := by decide +kernel
  refine es_ifc (fun h8 => ?_) (fun h8 => ?_)
  · refine es_tsw (off := (99)) (tgt := 100) hs7 1 h8 (by decide) ?_
    refine es_blk (pc' := 104) (L' := [some (.ref 127), some (.int p0), some (.int p1), some (.int p2), some (.int p3), some (.int p4), some (.int p5), none]) (st' := [.int p3, .int p2, .ref 127]) [(.aload_n 0, 0), (.iload_n 3, 0), (.iload 4, 0)] (by decide +kernel) rfl rfl ?_
    refine ef_veI (d := 5) (k := 127) (As := [.int p2, .int p3]) (st := []) eV_12_create eK_12_515 (eS_12_create g s p2 p3) rfl rfl (Nat.le_of_ble_eq_true rfl) rfl (Nat.le_of_ble_eq_true rfl) ⟨Nat.le_of_ble_eq_true rfl, Nat.le_of_ble_eq_true rfl⟩ ⟨Nat.le_refl _, Nat.le_refl _⟩ (by decide +kernel) (fun q9 _ => ?_)
    exact es_ret rfl rfl rfl ⟨by decide +kernel, _, rfl, rfl⟩ (Nat.le_refl _) (Nat.le_refl _)
  refine es_ifc (fun h10 => ?_) (fun h10 => ?_)
  · refine es_tsw (off := (107)) (tgt := 108) hs7 2 h10 (by decide) ?_
    refine es_blk (pc' := 114) (L' := [some (.ref 127), some (.int p0), some (.int p1), some (.int p2), some (.int p3), some (.int p4), some (.int p5), none]) (st' := [.int p4, .int p3, .int p2, .ref 127]) [(.aload_n 0, 0), (.iload_n 3, 0), (.iload 4, 0), (.iload 5, 0)] (by decide +kernel) rfl rfl ?_
    refine ef_veI (d := 5) (k := 127) (As := [.int p2, .int p3, .int p4]) (st := []) eV_12_loadPage eK_12_518 (eS_12_loadPage g s p2 p3 p4) rfl rfl (Nat.le_of_ble_eq_true rfl) rfl (Nat.le_of_ble_eq_true rfl) ⟨Nat.le_of_ble_eq_true rfl, Nat.le_of_ble_eq_true rfl⟩ ⟨Nat.le_refl _, Nat.le_refl _⟩ (by decide +kernel) (fun q11 _ => ?_)
    exact es_ret rfl rfl rfl ⟨by decide +kernel, _, rfl, rfl⟩ (Nat.le_refl _) (Nat.le_refl _)
  refine es_ifc (fun h12 => ?_) (fun h12 => ?_)
  · refine es_tsw (off := (117)) (tgt := 118) hs7 3 h12 (by decide) ?_
    refine es_blk (pc' := 124) (L' := [some (.ref 127), some (.int p0), some (.int p1), some (.int p2), some (.int p3), some (.int p4), some (.int p5), none]) (st' := [.int p4, .int p3, .int p2, .ref 127]) [(.aload_n 0, 0), (.iload_n 3, 0), (.iload 4, 0), (.iload 5, 0)] (by decide +kernel) rfl rfl ?_
    refine ef_veI (d := 5) (k := 127) (As := [.int p2, .int p3, .int p4]) (st := []) eV_12_makeThread eK_12_521 (eS_12_makeThread g s p2 p3 p4) rfl rfl (Nat.le_of_ble_eq_true rfl) rfl (Nat.le_of_ble_eq_true rfl) ⟨Nat.le_of_ble_eq_true rfl, Nat.le_of_ble_eq_true rfl⟩ ⟨Nat.le_refl _, Nat.le_refl _⟩ (by decide +kernel) (fun q13 _ => ?_)
    exact es_ret rfl rfl rfl ⟨by decide +kernel, _, rfl, rfl⟩ (Nat.le_refl _) (Nat.le_refl _)
  refine es_ifc (fun h14 => ?_) (fun h14 => ?_)
  · refine es_tsw (off := (127)) (tgt := 128) hs7 4 h14 (by decide) ?_
    refine es_blk (pc' := 132) (L' := [some (.ref 127), some (.int p0), some (.int p1), some (.int p2), some (.int p3), some (.int p4), some (.int p5), none]) (st' := [.int p3, .int p2, .ref 127]) [(.aload_n 0, 0), (.iload_n 3, 0), (.iload 4, 0)] (by decide +kernel) rfl rfl ?_
    refine ef_veI (d := 5) (k := 127) (As := [.int p2, .int p3]) (st := []) eV_12_finalise eK_12_524 (eS_12_finalise g s p2 p3) rfl rfl (Nat.le_of_ble_eq_true rfl) rfl (Nat.le_of_ble_eq_true rfl) ⟨Nat.le_of_ble_eq_true rfl, Nat.le_of_ble_eq_true rfl⟩ ⟨Nat.le_refl _, Nat.le_refl _⟩ (by decide +kernel) (fun q15 _ => ?_)
    exact es_ret rfl rfl rfl ⟨by decide +kernel, _, rfl, rfl⟩ (Nat.le_refl _) (Nat.le_refl _)
  refine es_ifc (fun h16 => ?_) (fun h16 => ?_)
  · refine es_tsw (off := (135)) (tgt := 136) hs7 5 h16 (by decide) ?_
    refine ef_drop (L2 := [some (.ref 127), some (.int p0), some (.int p1), some (.int p2), some (.int p3), some (.int p4), none, none]) [true, true, true, true, true, true, false, true] rfl rfl ?_
    exact Hj1 ()
  refine es_ifc (fun h17 => ?_) (fun h17 => ?_)
  · refine es_tsw (off := (135)) (tgt := 136) hs7 6 h17 (by decide) ?_
    refine ef_drop (L2 := [some (.ref 127), some (.int p0), some (.int p1), some (.int p2), some (.int p3), some (.int p4), none, none]) [true, true, true, true, true, true, false, true] rfl rfl ?_
    exact Hj1 ()
  refine es_ifc (fun h18 => ?_) (fun h18 => ?_)
  · refine es_tsw (off := (147)) (tgt := 148) hs7 7 h18 (by decide) ?_
    refine es_blk (pc' := 150) (L' := [some (.ref 127), some (.int p0), some (.int p1), some (.int p2), some (.int p3), some (.int p4), some (.int p5), none]) (st' := [.int p2, .ref 127]) [(.aload_n 0, 0), (.iload_n 3, 0)] (by decide +kernel) rfl rfl ?_
    refine ef_veI (d := 2) (k := 127) (As := [.int p2]) (st := []) eV_12_stop eK_12_531 (eS_12_stop g s p2) rfl rfl (Nat.le_of_ble_eq_true rfl) rfl (Nat.le_of_ble_eq_true rfl) ⟨Nat.le_of_ble_eq_true rfl, Nat.le_of_ble_eq_true rfl⟩ ⟨Nat.le_refl _, Nat.le_refl _⟩ (by decide +kernel) (fun q19 _ => ?_)
    exact es_ret rfl rfl rfl ⟨by decide +kernel, _, rfl, rfl⟩ (Nat.le_refl _) (Nat.le_refl _)
  refine es_ifc (fun h20 => ?_) (fun h20 => ?_)
  · refine es_tsw (off := (153)) (tgt := 154) hs7 8 h20 (by decide) ?_
    refine es_blk (pc' := 156) (L' := [some (.ref 127), some (.int p0), some (.int p1), some (.int p2), some (.int p3), some (.int p4), some (.int p5), none]) (st' := [.int p2, .ref 127]) [(.aload_n 0, 0), (.iload_n 3, 0)] (by decide +kernel) rfl rfl ?_
    refine ef_veI (d := 4) (k := 127) (As := [.int p2]) (st := []) eV_12_destroy eK_12_534 (eS_12_destroy g s p2) rfl rfl (Nat.le_of_ble_eq_true rfl) rfl (Nat.le_of_ble_eq_true rfl) ⟨Nat.le_of_ble_eq_true rfl, Nat.le_of_ble_eq_true rfl⟩ ⟨Nat.le_refl _, Nat.le_refl _⟩ (by decide +kernel) (fun q21 _ => ?_)
    exact es_ret rfl rfl rfl ⟨by decide +kernel, _, rfl, rfl⟩ (Nat.le_refl _) (Nat.le_refl _)
  refine es_ifc (fun h22 => ?_) (fun h22 => ?_)
  · refine es_tsw (off := (159)) (tgt := 160) hs7 9 h22 (by decide) ?_
    refine ef_drop (L2 := [some (.ref 127), none, some (.int p1), some (.int p2), some (.int p3), some (.int p4), none, none]) [true, false, true, true, true, true, false, true] rfl rfl ?_
    exact Hj4 ()
  refine es_ifc (fun h23 => ?_) (fun h23 => ?_)
  · refine es_tsw (off := (170)) (tgt := 171) hs7 10 h23 (by decide) ?_
    refine es_blk (pc' := 179) (L' := [some (.ref 127), some (.int p0), some (.int p1), some (.int p2), some (.int p3), some (.int p4), some (.int p5), none]) (st' := [.int p5, .int p4, .int p3, .int p2, .ref 127]) [(.aload_n 0, 0), (.iload_n 3, 0), (.iload 4, 0), (.iload 5, 0), (.iload 6, 0)] (by decide +kernel) rfl rfl ?_
    refine ef_veI (d := 4) (k := 127) (As := [.int p2, .int p3, .int p4, .int p5]) (st := []) eV_12_link eK_12_540 (eS_12_link g s p2 p3 p4 p5) rfl rfl (Nat.le_of_ble_eq_true rfl) rfl (Nat.le_of_ble_eq_true rfl) ⟨Nat.le_of_ble_eq_true rfl, Nat.le_of_ble_eq_true rfl⟩ ⟨Nat.le_refl _, Nat.le_refl _⟩ (by decide +kernel) (fun q24 _ => ?_)
    exact es_ret rfl rfl rfl ⟨by decide +kernel, _, rfl, rfl⟩ (Nat.le_refl _) (Nat.le_refl _)
  refine es_ifc (fun h25 => ?_) (fun h25 => ?_)
  · refine es_tsw (off := (182)) (tgt := 183) hs7 11 h25 (by decide) ?_
    refine es_blk (pc' := 184) (L' := [some (.ref 127), some (.int p0), some (.int p1), some (.int p2), some (.int p3), some (.int p4), some (.int p5), none]) (st' := [.int p2]) [(.iload_n 3, 0)] (by decide +kernel) rfl rfl ?_
    refine ef_J (X := fun j26 => ∀ (u27 : Unit), eh_Sim g eM_12_asked (eh_R 6 0 0) eh_eI 0 0 203 [none, none, none, none, none, none, none, none] [] (eh_FW s) ((j26 u27).bind some)) ?_ (fun j26 Hj26 => ?_)
    · intro u27
      refine es_blk (pc' := 204) (L' := [none, none, none, none, none, none, none, none]) (st' := [.int (-1)]) [(.iconst (-1), (-1))] (by decide +kernel) rfl rfl ?_
      exact es_ret rfl rfl rfl ⟨by decide +kernel, _, rfl, rfl⟩ (Nat.le_refl _) (Nat.le_refl _)
    refine es_lt (tgt := 203) (off := (19)) (by decide +kernel) (by decide) (fun h28 => ?_) (fun h28 => ?_)
    · refine ef_drop (L2 := [none, none, none, none, none, none, none, none]) [false, false, false, false, false, false, false, true] rfl rfl ?_
      exact Hj26 ()
    refine es_blk (pc' := 190) (L' := [some (.ref 127), some (.int p0), some (.int p1), some (.int p2), some (.int p3), some (.int p4), some (.int p5), none]) (st' := [.int 12, .int p2]) [(.iload_n 3, 0), (.bipush 12, 12)] (by decide +kernel) rfl rfl ?_
    refine es_ige (tgt := 203) (off := (13)) (by decide +kernel) (by decide) (fun h29 => ?_) (fun h29 => ?_)
    · refine es_blk (pc' := 194) (L' := [some (.ref 127), some (.int p0), some (.int p1), some (.int p2), some (.int p3), some (.int p4), some (.int p5), none]) (st' := [.ref 127]) [(.aload_n 0, 0)] (by decide +kernel) rfl rfl ?_
      refine ef_getP (k := 127) (j := 39) (q := 164) rfl eL_12_121 rfl rfl rfl (by decide +kernel) ?_
      refine es_blk (pc' := 198) (L' := [some (.ref 127), some (.int p0), some (.int p1), some (.int p2), some (.int p3), some (.int p4), some (.int p5), none]) (st' := [.int p2, .ref 164]) [(.iload_n 3, 0)] (by decide +kernel) rfl rfl ?_
      refine ef_ald (k := 164) rfl (Or.inl ⟨rfl, rfl⟩) (by decide +kernel) (fun _ => ?_)
      refine es_blk (pc' := 200) (L' := [some (.ref 127), some (.int p0), some (.int p1), some (.int p2), some (.int p3), some (.int p4), some (.int p5), none]) (st' := [.int 1, .int (s.1 164 (eh_ix p2))]) [(.iconst 1, 1)] (by decide +kernel) rfl rfl ?_
      refine es_igt (tgt := 205) (off := (5)) (by decide +kernel) (by decide) (fun h30 => ?_) (fun h30 => ?_)
      · refine es_blk (pc' := 207) (L' := [some (.ref 127), some (.int p0), some (.int p1), some (.int p2), some (.int p3), some (.int p4), some (.int p5), none]) (st' := [.int p2, .ref 127]) [(.aload_n 0, 0), (.iload_n 3, 0)] (by decide +kernel) rfl rfl ?_
        refine ef_veV (d := 3) (k := 127) (As := [.int p2]) (st := []) eV_12_drop eK_12_543 (eS_12_drop g s p2) rfl rfl (Nat.le_of_ble_eq_true rfl) rfl (Nat.le_of_ble_eq_true rfl) ⟨Nat.le_of_ble_eq_true rfl, Nat.le_of_ble_eq_true rfl⟩ ⟨Nat.le_refl _, Nat.le_refl _⟩ (by decide +kernel) (fun q31 _ => ?_)
        refine es_blk (pc' := 211) (L' := [some (.ref 127), some (.int p0), some (.int p1), some (.int p2), some (.int p3), some (.int p4), some (.int p5), none]) (st' := [.int 0]) [(.iconst 0, 0)] (by decide +kernel) rfl rfl ?_
        exact es_ret rfl rfl rfl ⟨by decide +kernel, _, rfl, rfl⟩ (Nat.le_refl _) (Nat.le_refl _)
      refine ef_drop (L2 := [none, none, none, none, none, none, none, none]) [false, false, false, false, false, false, false, true] rfl rfl ?_
      exact Hj26 ()
    refine ef_drop (L2 := [none, none, none, none, none, none, none, none]) [false, false, false, false, false, false, false, true] rfl rfl ?_
    exact Hj26 ()
  refine es_ifc (fun h32 => ?_) (fun h32 => ?_)
  · refine es_tsw (off := (211)) (tgt := 212) hs7 12 h32 (by decide) ?_
    refine es_blk (pc' := 213) (L' := [some (.ref 127), some (.int p0), some (.int p1), some (.int p2), some (.int p3), some (.int p4), some (.int p5), none]) (st' := [.ref 127]) [(.aload_n 0, 0)] (by decide +kernel) rfl rfl ?_
    refine ef_getI (k := 127) (j := 52) rfl eL_12_293 (by decide) (by decide +kernel) ?_
    refine es_blk (pc' := 219) (L' := [some (.ref 127), some (.int p0), some (.int p1), some (.int p2), some (.int p3), some (.int p4), some (.int p5), none]) (st' := [.int 1024, .int (s.1 127 52)]) [(.sipush 1024, 1024)] (by decide +kernel) rfl rfl ?_
    refine es_ine (tgt := 225) (off := (6)) (by decide +kernel) (by decide) (fun h33 => ?_) (fun h33 => ?_)
    · refine es_blk (pc' := 224) (L' := [some (.ref 127), some (.int p0), some (.int p1), some (.int p2), some (.int p3), some (.int p4), some (.int p5), none]) (st' := [.int (-5)]) [(.bipush (-5), (-5))] (by decide +kernel) rfl rfl ?_
      exact es_ret rfl rfl rfl ⟨by decide +kernel, _, rfl, rfl⟩ (Nat.le_refl _) (Nat.le_refl _)
    refine es_blk (pc' := 226) (L' := [some (.ref 127), some (.int p0), some (.int p1), some (.int p2), some (.int p3), some (.int p4), some (.int p5), none]) (st' := [.ref 127]) [(.aload_n 0, 0)] (by decide +kernel) rfl rfl ?_
    refine ef_getP (k := 127) (j := 51) (q := 174) rfl eL_12_151 rfl rfl rfl (by decide +kernel) ?_
    refine es_blk (pc' := 230) (L' := [some (.ref 127), some (.int p0), some (.int p1), some (.int p2), some (.int p3), some (.int p4), some (.int p5), none]) (st' := [.ref 127, .ref 174]) [(.aload_n 0, 0)] (by decide +kernel) rfl rfl ?_
    refine ef_getI (k := 127) (j := 52) rfl eL_12_293 (by decide) (by decide +kernel) ?_
    refine es_blk (pc' := 235) (L' := [some (.ref 127), some (.int p0), some (.int p1), some (.int p2), some (.int p3), some (.int p4), some (.int p5), none]) (st' := [.int (eh_nb p2), .int (s.1 127 52), .ref 174]) [(.iload_n 3, 0), (.i2b, 0)] (by decide +kernel) rfl rfl ?_
    refine ef_astB (k := 174) rfl (by decide +kernel) (fun _ => ?_)
    refine ef_V (fun _ => [some (.ref 127), some (.int p0), some (.int p1), some (.int p2), some (.int p3), some (.int p4), some (.int p5), none]) (fun _ => []) (fun s34 => eh_FW s34) (fun s34 => ?_)
    refine es_blk (pc' := 238) (L' := [some (.ref 127), some (.int p0), some (.int p1), some (.int p2), some (.int p3), some (.int p4), some (.int p5), none]) (st' := [.ref 127, .ref 127]) [(.aload_n 0, 0), (.dup, 0)] (by decide +kernel) rfl rfl ?_
    refine ef_getI (k := 127) (j := 52) rfl eL_12_293 (by decide) (by decide +kernel) ?_
    refine es_blk (pc' := 243) (L' := [some (.ref 127), some (.int p0), some (.int p1), some (.int p2), some (.int p3), some (.int p4), some (.int p5), none]) (st' := [.int ((s34.1 127 52) + 1), .ref 127]) [(.iconst 1, 1), (.iadd, 0)] (by decide +kernel) rfl rfl ?_
    refine ef_putI (k := 127) (j := 52) rfl eL_12_293 rfl rfl (by decide +kernel) ?_
    refine ef_V (fun _ => [some (.ref 127), some (.int p0), some (.int p1), some (.int p2), some (.int p3), some (.int p4), some (.int p5), none]) (fun _ => []) (fun s35 => eh_FW s35) (fun s35 => ?_)
    refine es_blk (pc' := 247) (L' := [some (.ref 127), some (.int p0), some (.int p1), some (.int p2), some (.int p3), some (.int p4), some (.int p5), none]) (st' := [.ref 127]) [(.aload_n 0, 0)] (by decide +kernel) rfl rfl ?_
    refine ef_getI (k := 127) (j := 52) rfl eL_12_293 (by decide) (by decide +kernel) ?_
    exact es_ret rfl rfl rfl ⟨by decide +kernel, _, rfl, rfl⟩ (Nat.le_refl _) (Nat.le_refl _)
  refine es_ifc (fun h36 => ?_) (fun h36 => ?_)
  · refine es_tsw (off := (250)) (tgt := 251) hs7 13 h36 (by decide) ?_
    refine es_blk (pc' := 252) (L' := [some (.ref 127), some (.int p0), some (.int p1), some (.int p2), some (.int p3), some (.int p4), some (.int p5), none]) (st' := [.int p2]) [(.iload_n 3, 0)] (by decide +kernel) rfl rfl ?_
    refine ef_J (X := fun j37 => ∀ (u38 : Unit), eh_Sim g eM_12_asked (eh_R 6 0 0) eh_eI 0 0 262 [some (.ref 127), none, none, some (.int p2), none, none, none, none] [] (eh_FW s) ((j37 u38).bind some)) ?_ (fun j37 Hj37 => ?_)
    · intro u38
      refine es_blk (pc' := 263) (L' := [some (.ref 127), none, none, some (.int p2), none, none, none, none]) (st' := [.ref 127]) [(.aload_n 0, 0)] (by decide +kernel) rfl rfl ?_
      refine ef_getP (k := 127) (j := 12) (q := 140) rfl eL_12_49 rfl rfl rfl (by decide +kernel) ?_
      refine es_blk (pc' := 268) (L' := [some (.ref 127), none, none, some (.int p2), none, none, none, none]) (st' := [.int 2, .int p2, .ref 140]) [(.iload_n 3, 0), (.iconst 2, 2)] (by decide +kernel) rfl rfl ?_
      refine ef_ast (k := 140) rfl (by decide +kernel) (fun _ => ?_)
      refine ef_V (fun _ => [some (.ref 127), none, none, some (.int p2), none, none, none, none]) (fun _ => []) (fun s39 => eh_FW s39) (fun s39 => ?_)
      refine es_blk (pc' := 270) (L' := [some (.ref 127), none, none, some (.int p2), none, none, none, none]) (st' := [.int 0]) [(.iconst 0, 0)] (by decide +kernel) rfl rfl ?_
      exact es_ret rfl rfl rfl ⟨by decide +kernel, _, rfl, rfl⟩ (Nat.le_refl _) (Nat.le_refl _)
    refine es_eq (tgt := 262) (off := (10)) (by decide +kernel) (by decide) (fun h40 => ?_) (fun h40 => ?_)
    · refine ef_drop (L2 := [some (.ref 127), none, none, some (.int p2), none, none, none, none]) [true, false, false, true, false, false, false, true] rfl rfl ?_
      exact Hj37 ()
    refine es_blk (pc' := 257) (L' := [some (.ref 127), some (.int p0), some (.int p1), some (.int p2), some (.int p3), some (.int p4), some (.int p5), none]) (st' := [.int 1, .int p2]) [(.iload_n 3, 0), (.iconst 1, 1)] (by decide +kernel) rfl rfl ?_
    refine es_ieq (tgt := 262) (off := (5)) (by decide +kernel) (by decide) (fun h41 => ?_) (fun h41 => ?_)
    · refine ef_drop (L2 := [some (.ref 127), none, none, some (.int p2), none, none, none, none]) [true, false, false, true, false, false, false, true] rfl rfl ?_
      exact Hj37 ()
    refine es_blk (pc' := 261) (L' := [some (.ref 127), some (.int p0), some (.int p1), some (.int p2), some (.int p3), some (.int p4), some (.int p5), none]) (st' := [.int (-1)]) [(.iconst (-1), (-1))] (by decide +kernel) rfl rfl ?_
    exact es_ret rfl rfl rfl ⟨by decide +kernel, _, rfl, rfl⟩ (Nat.le_refl _) (Nat.le_refl _)
  refine es_ifc (fun h42 => ?_) (fun h42 => ?_)
  · refine es_tsw (off := (270)) (tgt := 271) hs7 14 h42 (by decide) ?_
    refine es_blk (pc' := 277) (L' := [some (.ref 127), some (.int p0), some (.int p1), some (.int p2), some (.int p3), some (.int p4), some (.int p5), none]) (st' := [.int p4, .int p3, .int p2, .ref 127]) [(.aload_n 0, 0), (.iload_n 3, 0), (.iload 4, 0), (.iload 5, 0)] (by decide +kernel) rfl rfl ?_
    refine ef_veI (d := 1) (k := 127) (As := [.int p2, .int p3, .int p4]) (st := []) eV_12_move eK_12_546 (eS_12_move g s p2 p3 p4) rfl rfl (Nat.le_of_ble_eq_true rfl) rfl (Nat.le_of_ble_eq_true rfl) ⟨Nat.le_of_ble_eq_true rfl, Nat.le_of_ble_eq_true rfl⟩ ⟨Nat.le_refl _, Nat.le_refl _⟩ (by decide +kernel) (fun q43 _ => ?_)
    exact es_ret rfl rfl rfl ⟨by decide +kernel, _, rfl, rfl⟩ (Nat.le_refl _) (Nat.le_refl _)
  refine es_ifc (fun h44 => ?_) (fun h44 => ?_)
  · refine es_tsw (off := (280)) (tgt := 281) hs7 15 h44 (by decide) ?_
    refine es_blk (pc' := 282) (L' := [some (.ref 127), some (.int p0), some (.int p1), some (.int p2), some (.int p3), some (.int p4), some (.int p5), none]) (st' := [.ref 127]) [(.aload_n 0, 0)] (by decide +kernel) rfl rfl ?_
    refine ef_getI (k := 127) (j := 59) rfl eL_12_299 (by decide) (by decide +kernel) ?_
    refine es_blk (pc' := 289) (L' := [some (.ref 127), some (.int p0), some (.int p1), some (.int p2), some (.int p3), some (.int p4), some (.int p5), none]) (st' := [.ref 127, .int 256, .int (s.1 127 59)]) [(.sipush 256, 256), (.aload_n 0, 0)] (by decide +kernel) rfl rfl ?_
    refine ef_getI (k := 127) (j := 60) rfl eL_12_302 (by decide) (by decide +kernel) ?_
    refine es_blk (pc' := 296) (L' := [some (.ref 127), some (.int p0), some (.int p1), some (.int p2), some (.int p3), some (.int p4), some (.int p5), some (.int ((s.1 127 59) + (256 * (s.1 127 60))))]) (st' := []) [(.imul, 0), (.iadd, 0), (.istore 7, 0)] (by decide +kernel) rfl rfl ?_
    refine ef_V (fun x45 => [some (.ref 127), some (.int p0), some (.int p1), some (.int p2), some (.int p3), some (.int p4), some (.int p5), some (.int x45)]) (fun _ => []) (fun _ => eh_FW s) (fun x45 => ?_)
    refine es_blk (pc' := 298) (L' := [some (.ref 127), some (.int p0), some (.int p1), some (.int p2), some (.int p3), some (.int p4), some (.int p5), some (.int x45)]) (st' := [.int 0, .ref 127]) [(.aload_n 0, 0), (.iconst 0, 0)] (by decide +kernel) rfl rfl ?_
    refine ef_putI (k := 127) (j := 59) rfl eL_12_299 rfl rfl (by decide +kernel) ?_
    refine ef_V (fun _ => [some (.ref 127), some (.int p0), some (.int p1), some (.int p2), some (.int p3), some (.int p4), some (.int p5), some (.int x45)]) (fun _ => []) (fun s46 => eh_FW s46) (fun s46 => ?_)
    refine es_blk (pc' := 303) (L' := [some (.ref 127), some (.int p0), some (.int p1), some (.int p2), some (.int p3), some (.int p4), some (.int p5), some (.int x45)]) (st' := [.int 0, .ref 127]) [(.aload_n 0, 0), (.iconst 0, 0)] (by decide +kernel) rfl rfl ?_
    refine ef_putI (k := 127) (j := 60) rfl eL_12_302 rfl rfl (by decide +kernel) ?_
    refine ef_V (fun _ => [some (.ref 127), some (.int p0), some (.int p1), some (.int p2), some (.int p3), some (.int p4), some (.int p5), some (.int x45)]) (fun _ => []) (fun s47 => eh_FW s47) (fun s47 => ?_)
    refine es_blk (pc' := 308) (L' := [some (.ref 127), some (.int p0), some (.int p1), some (.int p2), some (.int p3), some (.int p4), some (.int p5), some (.int x45)]) (st' := [.int x45]) [(.iload 7, 0)] (by decide +kernel) rfl rfl ?_
    exact es_ret rfl rfl rfl ⟨by decide +kernel, _, rfl, rfl⟩ (Nat.le_refl _) (Nat.le_refl _)
  refine es_ifc (fun h48 => ?_) (fun h48 => ?_)
  · refine es_tsw (off := (308)) (tgt := 309) hs7 16 h48 (by decide) ?_
    refine es_blk (pc' := 311) (L' := [some (.ref 127), some (.int p0), some (.int p1), some (.int p2), some (.int p3), some (.int p4), some (.int p5), none]) (st' := [.int p2, .ref 127]) [(.aload_n 0, 0), (.iload_n 3, 0)] (by decide +kernel) rfl rfl ?_
    refine ef_vpI (d := 1) (k := 127) (As := [.int p2]) (st := []) eV_12_isEnclave eK_12_549 (eS_12_isEnclave g s p2) rfl rfl (Nat.le_of_ble_eq_true rfl) rfl (Nat.le_of_ble_eq_true rfl) ⟨Nat.le_of_ble_eq_true rfl, Nat.le_of_ble_eq_true rfl⟩ ⟨Nat.le_refl _, Nat.le_refl _⟩ (by decide +kernel) (fun q49 _ => ?_)
    refine ef_J (X := fun j50 => ∀ (u51 : Unit), eh_Sim g eM_12_asked (eh_R 6 0 0) eh_eI 0 0 329 [none, none, none, none, none, none, none, none] [] (eh_FW s) ((j50 u51).bind some)) ?_ (fun j50 Hj50 => ?_)
    · intro u51
      refine es_blk (pc' := 330) (L' := [none, none, none, none, none, none, none, none]) (st' := [.int (-1)]) [(.iconst (-1), (-1))] (by decide +kernel) rfl rfl ?_
      exact es_ret rfl rfl rfl ⟨by decide +kernel, _, rfl, rfl⟩ (Nat.le_refl _) (Nat.le_refl _)
    refine es_eq (tgt := 329) (off := (15)) (by decide +kernel) (by decide) (fun h52 => ?_) (fun h52 => ?_)
    · refine ef_drop (L2 := [none, none, none, none, none, none, none, none]) [false, false, false, false, false, false, false, true] rfl rfl ?_
      exact Hj50 ()
    refine es_blk (pc' := 319) (L' := [some (.ref 127), some (.int p0), some (.int p1), some (.int p2), some (.int p3), some (.int p4), some (.int p5), none]) (st' := [.int p3]) [(.iload 4, 0)] (by decide +kernel) rfl rfl ?_
    refine es_lt (tgt := 329) (off := (10)) (by decide +kernel) (by decide) (fun h53 => ?_) (fun h53 => ?_)
    · refine ef_drop (L2 := [none, none, none, none, none, none, none, none]) [false, false, false, false, false, false, false, true] rfl rfl ?_
      exact Hj50 ()
    refine es_blk (pc' := 326) (L' := [some (.ref 127), some (.int p0), some (.int p1), some (.int p2), some (.int p3), some (.int p4), some (.int p5), none]) (st' := [.int 7, .int p3]) [(.iload 4, 0), (.bipush 7, 7)] (by decide +kernel) rfl rfl ?_
    refine es_ile (tgt := 331) (off := (5)) (by decide +kernel) (by decide) (fun h54 => ?_) (fun h54 => ?_)
    · refine ef_drop (L2 := [none, none, none, none, none, none, none, none]) [false, false, false, false, false, false, false, true] rfl rfl ?_
      exact Hj50 ()
    refine es_blk (pc' := 332) (L' := [some (.ref 127), some (.int p0), some (.int p1), some (.int p2), some (.int p3), some (.int p4), some (.int p5), none]) (st' := [.ref 127]) [(.aload_n 0, 0)] (by decide +kernel) rfl rfl ?_
    refine ef_getP (k := 127) (j := 30) (q := 155) rfl eL_12_94 rfl rfl rfl (by decide +kernel) ?_
    refine es_blk (pc' := 336) (L' := [some (.ref 127), some (.int p0), some (.int p1), some (.int p2), some (.int p3), some (.int p4), some (.int p5), none]) (st' := [.int p2, .ref 155]) [(.iload_n 3, 0)] (by decide +kernel) rfl rfl ?_
    refine ef_ald (k := 155) rfl (Or.inl ⟨rfl, rfl⟩) (by decide +kernel) (fun _ => ?_)
    refine es_blk (pc' := 338) (L' := [some (.ref 127), some (.int p0), some (.int p1), some (.int p2), some (.int p3), some (.int p4), some (.int p5), none]) (st' := [.int 1, .int (s.1 155 (eh_ix p2))]) [(.iconst 1, 1)] (by decide +kernel) rfl rfl ?_
    refine ef_J (X := fun j55 => ∀ (a56 : Int32), eh_Sim g eM_12_asked (eh_R 6 0 0) eh_eI 0 0 362 [none, none, none, none, none, none, none, none] [.int a56] (eh_FW s) ((j55 a56).bind some)) ?_ (fun j55 Hj55 => ?_)
    · intro a56
      exact es_ret rfl rfl rfl ⟨by decide +kernel, _, rfl, rfl⟩ (Nat.le_refl _) (Nat.le_refl _)
    refine es_ine (tgt := 346) (off := (8)) (by decide +kernel) (by decide) (fun h57 => ?_) (fun h57 => ?_)
    · refine es_blk (pc' := 343) (L' := [some (.ref 127), some (.int p0), some (.int p1), some (.int p2), some (.int p3), some (.int p4), some (.int p5), none]) (st' := [.int (-2)]) [(.bipush (-2), (-2))] (by decide +kernel) rfl rfl ?_
      refine es_goto (tgt := 362) (off := (19)) (by decide +kernel) (by decide) ?_
      refine ef_drop (L2 := [none, none, none, none, none, none, none, none]) [false, false, false, false, false, false, false, true] rfl rfl ?_
      exact Hj55 _
    refine es_blk (pc' := 347) (L' := [some (.ref 127), some (.int p0), some (.int p1), some (.int p2), some (.int p3), some (.int p4), some (.int p5), none]) (st' := [.ref 127]) [(.aload_n 0, 0)] (by decide +kernel) rfl rfl ?_
    refine ef_getP (k := 127) (j := 34) (q := 159) rfl eL_12_106 rfl rfl rfl (by decide +kernel) ?_
    refine es_blk (pc' := 359) (L' := [some (.ref 127), some (.int p0), some (.int p1), some (.int p2), some (.int p3), some (.int p4), some (.int p5), none]) (st' := [.int ((32 * p2) + (4 * p3)), .ref 159]) [(.bipush 32, 32), (.iload_n 3, 0), (.imul, 0), (.iconst 4, 4), (.iload 4, 0), (.imul, 0), (.iadd, 0)] (by decide +kernel) rfl rfl ?_
    refine ef_spI (d := 1) (As := [.ref 159, .int ((32 * p2) + (4 * p3))]) (st := []) eV_12_bigWord eK_12_552 (eS_12_bigWord g s 159 192 ((32 * p2) + (4 * p3)) rfl) rfl (Nat.le_of_ble_eq_true rfl) rfl (Nat.le_of_ble_eq_true rfl) ⟨Nat.le_of_ble_eq_true rfl, Nat.le_of_ble_eq_true rfl⟩ ⟨Nat.le_refl _, Nat.le_refl _⟩ (by decide +kernel) (fun q58 _ => ?_)
    refine ef_drop (L2 := [none, none, none, none, none, none, none, none]) [false, false, false, false, false, false, false, true] rfl rfl ?_
    exact Hj55 _
  refine es_ifc (fun h59 => ?_) (fun h59 => ?_)
  · refine es_tsw (off := (362)) (tgt := 363) hs7 17 h59 (by decide) ?_
    refine es_blk (pc' := 365) (L' := [some (.ref 127), some (.int p0), some (.int p1), some (.int p2), some (.int p3), some (.int p4), some (.int p5), none]) (st' := [.int p2, .ref 127]) [(.aload_n 0, 0), (.iload_n 3, 0)] (by decide +kernel) rfl rfl ?_
    refine ef_vpI (d := 1) (k := 127) (As := [.int p2]) (st := []) eV_12_isEnclave eK_12_549 (eS_12_isEnclave g s p2) rfl rfl (Nat.le_of_ble_eq_true rfl) rfl (Nat.le_of_ble_eq_true rfl) ⟨Nat.le_of_ble_eq_true rfl, Nat.le_of_ble_eq_true rfl⟩ ⟨Nat.le_refl _, Nat.le_refl _⟩ (by decide +kernel) (fun q60 _ => ?_)
    refine ef_J (X := fun j61 => ∀ (u62 : Unit), eh_Sim g eM_12_asked (eh_R 6 0 0) eh_eI 0 0 399 [none, none, none, none, none, none, none, none] [] (eh_FW s) ((j61 u62).bind some)) ?_ (fun j61 Hj61 => ?_)
    · intro u62
      refine es_blk (pc' := 400) (L' := [none, none, none, none, none, none, none, none]) (st' := [.int (-1)]) [(.iconst (-1), (-1))] (by decide +kernel) rfl rfl ?_
      exact es_ret rfl rfl rfl ⟨by decide +kernel, _, rfl, rfl⟩ (Nat.le_refl _) (Nat.le_refl _)
    refine es_eq (tgt := 399) (off := (31)) (by decide +kernel) (by decide) (fun h63 => ?_) (fun h63 => ?_)
    · refine ef_drop (L2 := [none, none, none, none, none, none, none, none]) [false, false, false, false, false, false, false, true] rfl rfl ?_
      exact Hj61 ()
    refine es_blk (pc' := 373) (L' := [some (.ref 127), some (.int p0), some (.int p1), some (.int p2), some (.int p3), some (.int p4), some (.int p5), none]) (st' := [.int p3]) [(.iload 4, 0)] (by decide +kernel) rfl rfl ?_
    refine es_lt (tgt := 399) (off := (26)) (by decide +kernel) (by decide) (fun h64 => ?_) (fun h64 => ?_)
    · refine ef_drop (L2 := [none, none, none, none, none, none, none, none]) [false, false, false, false, false, false, false, true] rfl rfl ?_
      exact Hj61 ()
    refine es_blk (pc' := 379) (L' := [some (.ref 127), some (.int p0), some (.int p1), some (.int p2), some (.int p3), some (.int p4), some (.int p5), none]) (st' := [.int 4, .int p3]) [(.iload 4, 0), (.iconst 4, 4)] (by decide +kernel) rfl rfl ?_
    refine es_irem (by decide +kernel) (by decide) ?_
    refine es_ne (tgt := 399) (off := (19)) (by decide +kernel) (by decide) (fun h65 => ?_) (fun h65 => ?_)
    · refine es_blk (pc' := 386) (L' := [some (.ref 127), some (.int p0), some (.int p1), some (.int p2), some (.int p3), some (.int p4), some (.int p5), none]) (st' := [.ref 127, .int p3]) [(.iload 4, 0), (.aload_n 0, 0)] (by decide +kernel) rfl rfl ?_
      refine ef_getP (k := 127) (j := 41) (q := 166) rfl eL_12_127 rfl rfl rfl (by decide +kernel) ?_
      refine es_blk (pc' := 390) (L' := [some (.ref 127), some (.int p0), some (.int p1), some (.int p2), some (.int p3), some (.int p4), some (.int p5), none]) (st' := [.ref 127, .ref 166, .int p3]) [(.aload_n 0, 0)] (by decide +kernel) rfl rfl ?_
      refine ef_getP (k := 127) (j := 31) (q := 156) rfl eL_12_97 rfl rfl rfl (by decide +kernel) ?_
      refine es_blk (pc' := 394) (L' := [some (.ref 127), some (.int p0), some (.int p1), some (.int p2), some (.int p3), some (.int p4), some (.int p5), none]) (st' := [.int p2, .ref 156, .ref 166, .int p3]) [(.iload_n 3, 0)] (by decide +kernel) rfl rfl ?_
      refine ef_ald (k := 156) rfl (Or.inl ⟨rfl, rfl⟩) (by decide +kernel) (fun _ => ?_)
      refine ef_ald (k := 166) rfl (Or.inl ⟨rfl, rfl⟩) (by decide +kernel) (fun _ => ?_)
      refine es_ilt (tgt := 401) (off := (5)) (by decide +kernel) (by decide) (fun h66 => ?_) (fun h66 => ?_)
      · refine es_blk (pc' := 402) (L' := [some (.ref 127), some (.int p0), some (.int p1), some (.int p2), some (.int p3), some (.int p4), some (.int p5), none]) (st' := [.ref 127]) [(.aload_n 0, 0)] (by decide +kernel) rfl rfl ?_
        refine ef_getP (k := 127) (j := 30) (q := 155) rfl eL_12_94 rfl rfl rfl (by decide +kernel) ?_
        refine es_blk (pc' := 406) (L' := [some (.ref 127), some (.int p0), some (.int p1), some (.int p2), some (.int p3), some (.int p4), some (.int p5), none]) (st' := [.int p2, .ref 155]) [(.iload_n 3, 0)] (by decide +kernel) rfl rfl ?_
        refine ef_ald (k := 155) rfl (Or.inl ⟨rfl, rfl⟩) (by decide +kernel) (fun _ => ?_)
        refine es_blk (pc' := 408) (L' := [some (.ref 127), some (.int p0), some (.int p1), some (.int p2), some (.int p3), some (.int p4), some (.int p5), none]) (st' := [.int 1, .int (s.1 155 (eh_ix p2))]) [(.iconst 1, 1)] (by decide +kernel) rfl rfl ?_
        refine ef_J (X := fun j67 => ∀ (a68 : Int32), eh_Sim g eM_12_asked (eh_R 6 0 0) eh_eI 0 0 447 [none, none, none, none, none, none, none, none] [.int a68] (eh_FW s) ((j67 a68).bind some)) ?_ (fun j67 Hj67 => ?_)
        · intro a68
          exact es_ret rfl rfl rfl ⟨by decide +kernel, _, rfl, rfl⟩ (Nat.le_refl _) (Nat.le_refl _)
        refine ef_J (X := fun j69 => ∀ (u70 : Unit), eh_Sim g eM_12_asked (eh_R 6 0 0) eh_eI 0 0 421 [none, none, none, none, none, none, none, none] [] (eh_FW s) ((j69 u70).bind some)) ?_ (fun j69 Hj69 => ?_)
        · intro u70
          refine es_blk (pc' := 423) (L' := [none, none, none, none, none, none, none, none]) (st' := [.int (-6)]) [(.bipush (-6), (-6))] (by decide +kernel) rfl rfl ?_
          refine es_goto (tgt := 447) (off := (24)) (by decide +kernel) (by decide) ?_
          exact Hj67 _
        refine es_ieq (tgt := 421) (off := (13)) (by decide +kernel) (by decide) (fun h71 => ?_) (fun h71 => ?_)
        · refine ef_drop (L2 := [none, none, none, none, none, none, none, none]) [false, false, false, false, false, false, false, true] rfl rfl ?_
          exact Hj69 ()
        refine es_blk (pc' := 412) (L' := [some (.ref 127), some (.int p0), some (.int p1), some (.int p2), some (.int p3), some (.int p4), some (.int p5), none]) (st' := [.ref 127]) [(.aload_n 0, 0)] (by decide +kernel) rfl rfl ?_
        refine ef_getP (k := 127) (j := 32) (q := 157) rfl eL_12_100 rfl rfl rfl (by decide +kernel) ?_
        refine es_blk (pc' := 416) (L' := [some (.ref 127), some (.int p0), some (.int p1), some (.int p2), some (.int p3), some (.int p4), some (.int p5), none]) (st' := [.int p2, .ref 157]) [(.iload_n 3, 0)] (by decide +kernel) rfl rfl ?_
        refine ef_ald (k := 157) rfl (Or.inl ⟨rfl, rfl⟩) (by decide +kernel) (fun _ => ?_)
        refine es_blk (pc' := 418) (L' := [some (.ref 127), some (.int p0), some (.int p1), some (.int p2), some (.int p3), some (.int p4), some (.int p5), none]) (st' := [.int 1, .int (s.1 157 (eh_ix p2))]) [(.iconst 1, 1)] (by decide +kernel) rfl rfl ?_
        refine es_ieq (tgt := 426) (off := (8)) (by decide +kernel) (by decide) (fun h72 => ?_) (fun h72 => ?_)
        · refine es_blk (pc' := 427) (L' := [some (.ref 127), some (.int p0), some (.int p1), some (.int p2), some (.int p3), some (.int p4), some (.int p5), none]) (st' := [.ref 127]) [(.aload_n 0, 0)] (by decide +kernel) rfl rfl ?_
          refine ef_getP (k := 127) (j := 0) (q := 128) rfl eL_12_10 rfl rfl rfl (by decide +kernel) ?_
          refine es_blk (pc' := 431) (L' := [some (.ref 127), some (.int p0), some (.int p1), some (.int p2), some (.int p3), some (.int p4), some (.int p5), none]) (st' := [.ref 127, .ref 128]) [(.aload_n 0, 0)] (by decide +kernel) rfl rfl ?_
          refine ef_getP (k := 127) (j := 40) (q := 165) rfl eL_12_124 rfl rfl rfl (by decide +kernel) ?_
          refine es_blk (pc' := 435) (L' := [some (.ref 127), some (.int p0), some (.int p1), some (.int p2), some (.int p3), some (.int p4), some (.int p5), none]) (st' := [.ref 127, .ref 165, .ref 128]) [(.aload_n 0, 0)] (by decide +kernel) rfl rfl ?_
          refine ef_getP (k := 127) (j := 31) (q := 156) rfl eL_12_97 rfl rfl rfl (by decide +kernel) ?_
          refine es_blk (pc' := 439) (L' := [some (.ref 127), some (.int p0), some (.int p1), some (.int p2), some (.int p3), some (.int p4), some (.int p5), none]) (st' := [.int p2, .ref 156, .ref 165, .ref 128]) [(.iload_n 3, 0)] (by decide +kernel) rfl rfl ?_
          refine ef_ald (k := 156) rfl (Or.inl ⟨rfl, rfl⟩) (by decide +kernel) (fun _ => ?_)
          refine ef_ald (k := 165) rfl (Or.inl ⟨rfl, rfl⟩) (by decide +kernel) (fun _ => ?_)
          refine es_blk (pc' := 444) (L' := [some (.ref 127), some (.int p0), some (.int p1), some (.int p2), some (.int p3), some (.int p4), some (.int p5), none]) (st' := [.int ((s.1 165 (eh_ix (s.1 156 (eh_ix p2)))) + p3), .ref 128]) [(.iload 4, 0), (.iadd, 0)] (by decide +kernel) rfl rfl ?_
          refine ef_spI (d := 1) (As := [.ref 128, .int ((s.1 165 (eh_ix (s.1 156 (eh_ix p2)))) + p3)]) (st := []) eV_12_littleWord eK_12_368 (eS_12_littleWord g s 128 131072 ((s.1 165 (eh_ix (s.1 156 (eh_ix p2)))) + p3) rfl) rfl (Nat.le_of_ble_eq_true rfl) rfl (Nat.le_of_ble_eq_true rfl) ⟨Nat.le_of_ble_eq_true rfl, Nat.le_of_ble_eq_true rfl⟩ ⟨Nat.le_refl _, Nat.le_refl _⟩ (by decide +kernel) (fun q73 _ => ?_)
          refine ef_drop (L2 := [none, none, none, none, none, none, none, none]) [false, false, false, false, false, false, false, true] rfl rfl ?_
          exact Hj67 _
        refine ef_drop (L2 := [none, none, none, none, none, none, none, none]) [false, false, false, false, false, false, false, true] rfl rfl ?_
        exact Hj69 ()
      refine ef_drop (L2 := [none, none, none, none, none, none, none, none]) [false, false, false, false, false, false, false, true] rfl rfl ?_
      exact Hj61 ()
    refine ef_drop (L2 := [none, none, none, none, none, none, none, none]) [false, false, false, false, false, false, false, true] rfl rfl ?_
    exact Hj61 ()
  refine es_ifc (fun h74 => ?_) (fun h74 => ?_)
  · refine es_tsw (off := (447)) (tgt := 448) hs7 18 h74 (by decide) ?_
    refine es_blk (pc' := 450) (L' := [some (.ref 127), some (.int p0), some (.int p1), some (.int p2), some (.int p3), some (.int p4), some (.int p5), none]) (st' := [.int 1, .ref 127]) [(.aload_n 0, 0), (.iconst 1, 1)] (by decide +kernel) rfl rfl ?_
    refine ef_putZc (k := 127) (j := 21) rfl eL_12_283 rfl rfl (by decide) (by decide +kernel) ?_
    refine ef_V (fun _ => [some (.ref 127), some (.int p0), some (.int p1), some (.int p2), some (.int p3), some (.int p4), some (.int p5), none]) (fun _ => []) (fun s75 => eh_FW s75) (fun s75 => ?_)
    refine es_blk (pc' := 454) (L' := [some (.ref 127), some (.int p0), some (.int p1), some (.int p2), some (.int p3), some (.int p4), some (.int p5), none]) (st' := [.int 0]) [(.iconst 0, 0)] (by decide +kernel) rfl rfl ?_
    exact es_ret rfl rfl rfl ⟨by decide +kernel, _, rfl, rfl⟩ (Nat.le_refl _) (Nat.le_refl _)
  refine es_ifc (fun h76 => ?_) (fun h76 => ?_)
  · refine es_tsw (off := (454)) (tgt := 455) hs7 19 h76 (by decide) ?_
    refine es_blk (pc' := 456) (L' := [some (.ref 127), some (.int p0), some (.int p1), some (.int p2), some (.int p3), some (.int p4), some (.int p5), none]) (st' := [.int p2]) [(.iload_n 3, 0)] (by decide +kernel) rfl rfl ?_
    refine ef_J (X := fun j77 => ∀ (u78 : Unit), eh_Sim g eM_12_asked (eh_R 6 0 0) eh_eI 0 0 466 [none, none, none, none, none, none, none, none] [] (eh_FW s) ((j77 u78).bind some)) ?_ (fun j77 Hj77 => ?_)
    · intro u78
      refine es_blk (pc' := 467) (L' := [none, none, none, none, none, none, none, none]) (st' := [.int (-1)]) [(.iconst (-1), (-1))] (by decide +kernel) rfl rfl ?_
      exact es_ret rfl rfl rfl ⟨by decide +kernel, _, rfl, rfl⟩ (Nat.le_refl _) (Nat.le_refl _)
    refine es_lt (tgt := 466) (off := (10)) (by decide +kernel) (by decide) (fun h79 => ?_) (fun h79 => ?_)
    · refine ef_drop (L2 := [none, none, none, none, none, none, none, none]) [false, false, false, false, false, false, false, true] rfl rfl ?_
      exact Hj77 ()
    refine es_blk (pc' := 460) (L' := [some (.ref 127), some (.int p0), some (.int p1), some (.int p2), some (.int p3), some (.int p4), some (.int p5), none]) (st' := [.int p2]) [(.iload_n 3, 0)] (by decide +kernel) rfl rfl ?_
    refine es_ldcw (v := 100000) eC_12_555 (by decide +kernel) ?_
    refine es_ile (tgt := 468) (off := (5)) (by decide +kernel) (by decide) (fun h80 => ?_) (fun h80 => ?_)
    · refine ef_drop (L2 := [none, none, none, none, none, none, none, none]) [false, false, false, false, false, false, false, true] rfl rfl ?_
      exact Hj77 ()
    refine es_blk (pc' := 469) (L' := [some (.ref 127), some (.int p0), some (.int p1), some (.int p2), some (.int p3), some (.int p4), some (.int p5), none]) (st' := [.ref 127]) [(.aload_n 0, 0)] (by decide +kernel) rfl rfl ?_
    refine ef_getP (k := 127) (j := 15) (q := 143) rfl eL_12_58 rfl rfl rfl (by decide +kernel) ?_
    refine es_blk (pc' := 474) (L' := [some (.ref 127), some (.int p0), some (.int p1), some (.int p2), some (.int p3), some (.int p4), some (.int p5), none]) (st' := [.int p2, .int p0, .ref 143]) [(.iload_n 1, 0), (.iload_n 3, 0)] (by decide +kernel) rfl rfl ?_
    refine ef_ast (k := 143) rfl (by decide +kernel) (fun _ => ?_)
    refine ef_V (fun _ => [some (.ref 127), some (.int p0), some (.int p1), some (.int p2), some (.int p3), some (.int p4), some (.int p5), none]) (fun _ => []) (fun s81 => eh_FW s81) (fun s81 => ?_)
    refine es_blk (pc' := 476) (L' := [some (.ref 127), some (.int p0), some (.int p1), some (.int p2), some (.int p3), some (.int p4), some (.int p5), none]) (st' := [.int 0]) [(.iconst 0, 0)] (by decide +kernel) rfl rfl ?_
    exact es_ret rfl rfl rfl ⟨by decide +kernel, _, rfl, rfl⟩ (Nat.le_refl _) (Nat.le_refl _)
  refine es_ifc (fun h82 => ?_) (fun h82 => ?_)
  · refine es_tsw (off := (159)) (tgt := 160) hs7 20 h82 (by decide) ?_
    refine ef_drop (L2 := [some (.ref 127), none, some (.int p1), some (.int p2), some (.int p3), some (.int p4), none, none]) [true, false, true, true, true, true, false, true] rfl rfl ?_
    exact Hj4 ()
  refine es_ifc (fun h83 => ?_) (fun h83 => ?_)
  · refine es_tsw (off := (476)) (tgt := 477) hs7 21 h83 (by decide) ?_
    refine es_blk (pc' := 478) (L' := [some (.ref 127), some (.int p0), some (.int p1), some (.int p2), some (.int p3), some (.int p4), some (.int p5), none]) (st' := [.ref 127]) [(.aload_n 0, 0)] (by decide +kernel) rfl rfl ?_
    refine ef_veI (d := 1) (k := 127) (As := []) (st := []) eV_12_key eK_12_556 (eS_12_key g s) rfl rfl (Nat.le_of_ble_eq_true rfl) rfl (Nat.le_of_ble_eq_true rfl) ⟨Nat.le_of_ble_eq_true rfl, Nat.le_of_ble_eq_true rfl⟩ ⟨Nat.le_refl _, Nat.le_refl _⟩ (by decide +kernel) (fun q84 _ => ?_)
    exact es_ret rfl rfl rfl ⟨by decide +kernel, _, rfl, rfl⟩ (Nat.le_refl _) (Nat.le_refl _)
  refine es_tswD (tgt := 482) hs7 [1, 2, 3, 4, 5, 6, 7, 8, 9, 10, 11, 12, 13, 14, 15, 16, 17, 18, 19, 20, 21] (List.forall_mem_cons.mpr ⟨eh_nei 1 1 (by decide) h8, (List.forall_mem_cons.mpr ⟨eh_nei 2 2 (by decide) h10, (List.forall_mem_cons.mpr ⟨eh_nei 3 3 (by decide) h12, (List.forall_mem_cons.mpr ⟨eh_nei 4 4 (by decide) h14, (List.forall_mem_cons.mpr ⟨eh_nei 5 5 (by decide) h16, (List.forall_mem_cons.mpr ⟨eh_nei 6 6 (by decide) h17, (List.forall_mem_cons.mpr ⟨eh_nei 7 7 (by decide) h18, (List.forall_mem_cons.mpr ⟨eh_nei 8 8 (by decide) h20, (List.forall_mem_cons.mpr ⟨eh_nei 9 9 (by decide) h22, (List.forall_mem_cons.mpr ⟨eh_nei 10 10 (by decide) h23, (List.forall_mem_cons.mpr ⟨eh_nei 11 11 (by decide) h25, (List.forall_mem_cons.mpr ⟨eh_nei 12 12 (by decide) h32, (List.forall_mem_cons.mpr ⟨eh_nei 13 13 (by decide) h36, (List.forall_mem_cons.mpr ⟨eh_nei 14 14 (by decide) h42, (List.forall_mem_cons.mpr ⟨eh_nei 15 15 (by decide) h44, (List.forall_mem_cons.mpr ⟨eh_nei 16 16 (by decide) h48, (List.forall_mem_cons.mpr ⟨eh_nei 17 17 (by decide) h59, (List.forall_mem_cons.mpr ⟨eh_nei 18 18 (by decide) h74, (List.forall_mem_cons.mpr ⟨eh_nei 19 19 (by decide) h76, (List.forall_mem_cons.mpr ⟨eh_nei 20 20 (by decide) h82, (List.forall_mem_cons.mpr ⟨eh_nei 21 21 (by decide) h83, (List.forall_mem_nil _)⟩)⟩)⟩)⟩)⟩)⟩)⟩)⟩)⟩)⟩)⟩)⟩)⟩)⟩)⟩)⟩)⟩)⟩)⟩)⟩)⟩) (by decide) (by decide) (by decide) ?_
  refine es_blk (pc' := 483) (L' := [some (.ref 127), some (.int p0), some (.int p1), some (.int p2), some (.int p3), some (.int p4), some (.int p5), none]) (st' := [.int (-1)]) [(.iconst (-1), (-1))] (by decide +kernel) rfl rfl ?_
  exact es_ret rfl rfl rfl ⟨by decide +kernel, _, rfl, rfl⟩ (Nat.le_refl _) (Nat.le_refl _)
def eF_7_step (s : eh_F) (p0 : Int32) : Option (eh_F) := if eh_in p0 2 then Option.bind (eF_7_look s (eh_hp p0)) (fun q2 => if eh_okH (q2.2.2 4) then eh_J (fun (u5 : Unit) => if eh_okH (q2.2.2 4) then eh_V (eh_tI q2 (q2.2.2 4) 4 0) (fun s7 => Option.bind (eF_7_isInterrupted s7) (fun q8 => if q8.1 = 0 then (Option.bind (eF_7_doOne q8.2) (fun q10 => eh_J (fun (s12 : eh_F) => some s12) (fun j11 => if (q10.1 124 10) = (-1) then (eh_J (fun (u15 : Unit) => if (q10.1 124 12) = 0 then (if (q10.1 124 6) = 0 then (if eh_okH (q10.2.2 4) then eh_V (eh_tI q10 (q10.2.2 4) 2 (q10.1 124 9)) (fun s19 => j11 s19) else none) else (if eh_okF (q10.2.2 5) then eh_V (eh_tI q10 (q10.2.2 5) 2 (q10.1 124 9)) (fun s21 => j11 s21) else none)) else (if eh_okH (q10.2.2 4) then if eh_okX (q10.2.2 7) then if eh_okX (q10.2.2 7) then if eh_okX (q10.2.2 7) then if eh_okX (q10.2.2 7) then if eh_okX (q10.2.2 7) then Option.bind (eF_10_serve q10 (q10.2.2 4) (q10.1 (q10.2.2 7) 17) (q10.1 (q10.2.2 7) 10) (q10.1 (q10.2.2 7) 11) (q10.1 (q10.2.2 7) 12) (q10.1 (q10.2.2 7) 13)) (fun q28 => if eh_okH (q28.2.2.2 4) then eh_V (eh_tI q28.2 (q28.2.2.2 4) 2 (q28.2.1 124 9)) (fun s30 => if eh_okH (s30.2.2 4) then eh_J (fun (s33 : eh_F) => j11 s33) (fun j32 => if (s30.1 (s30.2.2 4) 5) = (-1) then (if eh_okX (s30.2.2 7) then eh_V (eh_tI s30 (s30.2.2 7) 10 q28.1) (fun s36 => j32 s36) else none) else (j32 s30)) else none) else none) else none else none else none else none else none else none)) (fun j14 => if (q10.1 124 12) = 0 then (j14 ()) else (if (q10.1 124 6) = 0 then (j14 ()) else (if eh_okH (q10.2.2 4) then if eh_okF (q10.2.2 5) then Option.bind (eF_3_serve q10 (q10.2.2 4) (q10.2.2 5)) (fun q41 => j11 q41) else none else none)))) else (Option.bind (eF_7_suffer q10) (fun q42 => j11 q42))))) else (some q8.2))) else none) (fun j4 => if (q2.1 (q2.2.2 4) 4) = 0 then (j4 ()) else (if eh_okH (q2.2.2 4) then Option.bind (eF_4_pending q2 (q2.2.2 4)) (fun q45 => if eh_okH (q2.2.2 4) then if (q45 &&& (q2.1 (q2.2.2 4) 10)) = 0 then (some q2) else (j4 ()) else none) else none)) else none) else none
set_option maxHeartbeats 4000000 in
set_option maxRecDepth 100000 in
theorem eS_7_step (g : eh_P) (s : eh_F) (p0 : Int32) : eh_Sim g eM_7_step (eh_R 7 0 0) eh_eV 0 0 0 (eh_en 3 [.ref 124, .int p0]) [] (eh_FW s) (eF_7_step s p0) := by
  unfold eF_7_step
  refine ef_top (L := [some (.ref 124), some (.int p0), none]) rfl ?_
  refine es_blk (pc' := 2) (L' := [some (.ref 124), some (.int p0), none]) (st' := [.ref 124, .ref 124]) [(.aload_n 0, 0), (.aload_n 0, 0)] (by decide +kernel) rfl rfl ?_
  refine ef_getP (k := 124) (j := 0) (q := 1) rfl eL_7_9 rfl rfl rfl (by decide +kernel) ?_
  refine ef_getP (k := 1) (j := 2) (q := 26) rfl eL_7_35 rfl rfl rfl (by decide +kernel) ?_
  refine es_blk (pc' := 9) (L' := [some (.ref 124), some (.int p0), none]) (st' := [.int p0, .ref 26, .ref 124]) [(.iload_n 1, 0)] (by decide +kernel) rfl rfl ?_
  refine ef_harts (by decide +kernel) (fun h1 => ?_)
  refine ef_veV (d := 2) (k := 124) (As := [.ref (eh_hp p0)]) (st := []) eV_7_look eK_7_58 (eS_7_look g s (eh_hp p0) h1) rfl rfl (Nat.le_of_ble_eq_true rfl) rfl (Nat.le_of_ble_eq_true rfl) ⟨Nat.le_of_ble_eq_true rfl, Nat.le_of_ble_eq_true rfl⟩ ⟨Nat.le_refl _, Nat.le_refl _⟩ (by decide +kernel) (fun q2 _ => ?_)
  refine es_blk (pc' := 14) (L' := [some (.ref 124), some (.int p0), none]) (st' := [.ref 124]) [(.aload_n 0, 0)] (by decide +kernel) rfl rfl ?_
  refine ef_getQ (j := 4) (ok := eh_okH) (by decide) eL_7_39 rfl (fun q h => eh_sh_NU (eh_H0sh h)) (by decide +kernel) (fun h3 => ?_)
  refine ef_getI (k := (q2.2.2 4)) (j := 4) (eh_H0sh h3) eL_7_62 (by decide) (by decide +kernel) ?_
  refine ef_J (X := fun j4 => ∀ (u5 : Unit), eh_Sim g eM_7_step (eh_R 7 0 0) eh_eV 0 0 49 [some (.ref 124), none, none] [] (eh_FW q2) ((j4 u5).bind some)) ?_ (fun j4 Hj4 => ?_)
  · intro u5
    refine es_blk (pc' := 50) (L' := [some (.ref 124), none, none]) (st' := [.ref 124]) [(.aload_n 0, 0)] (by decide +kernel) rfl rfl ?_
    refine ef_getQ (j := 4) (ok := eh_okH) (by decide) eL_7_39 rfl (fun q h => eh_sh_NU (eh_H0sh h)) (by decide +kernel) (fun h6 => ?_)
    refine es_blk (pc' := 54) (L' := [some (.ref 124), none, none]) (st' := [.int 0, .ref (q2.2.2 4)]) [(.iconst 0, 0)] (by decide +kernel) rfl rfl ?_
    refine ef_putZc (k := (q2.2.2 4)) (j := 4) (eh_H0sh h6) eL_7_62 rfl rfl (by decide) (by decide +kernel) ?_
    refine ef_V (fun _ => [some (.ref 124), none, none]) (fun _ => []) (fun s7 => eh_FW s7) (fun s7 => ?_)
    refine es_blk (pc' := 58) (L' := [some (.ref 124), none, none]) (st' := [.ref 124]) [(.aload_n 0, 0)] (by decide +kernel) rfl rfl ?_
    refine ef_veI (d := 4) (k := 124) (As := []) (st := []) eV_7_isInterrupted eK_7_78 (eS_7_isInterrupted g s7) rfl rfl (Nat.le_of_ble_eq_true rfl) rfl (Nat.le_of_ble_eq_true rfl) ⟨Nat.le_of_ble_eq_true rfl, Nat.le_of_ble_eq_true rfl⟩ ⟨Nat.le_refl _, Nat.le_refl _⟩ (by decide +kernel) (fun q8 _ => ?_)
    refine es_eq (tgt := 65) (off := (4)) (by decide +kernel) (by decide) (fun h9 => ?_) (fun h9 => ?_)
    · refine es_blk (pc' := 66) (L' := [some (.ref 124), none, none]) (st' := [.ref 124]) [(.aload_n 0, 0)] (by decide +kernel) rfl rfl ?_
      refine ef_veV (d := 6) (k := 124) (As := []) (st := []) eV_7_doOne eK_7_82 (eS_7_doOne g q8.2) rfl rfl (Nat.le_of_ble_eq_true rfl) rfl (Nat.le_of_ble_eq_true rfl) ⟨Nat.le_of_ble_eq_true rfl, Nat.le_of_ble_eq_true rfl⟩ ⟨Nat.le_refl _, Nat.le_refl _⟩ (by decide +kernel) (fun q10 _ => ?_)
      refine es_blk (pc' := 70) (L' := [some (.ref 124), none, none]) (st' := [.ref 124]) [(.aload_n 0, 0)] (by decide +kernel) rfl rfl ?_
      refine ef_getI (k := 124) (j := 10) rfl eL_7_85 (by decide) (by decide +kernel) ?_
      refine es_blk (pc' := 74) (L' := [some (.ref 124), none, none]) (st' := [.int (-1), .int (q10.1 124 10)]) [(.iconst (-1), (-1))] (by decide +kernel) rfl rfl ?_
      refine ef_J (X := fun j11 => ∀ (s12 : eh_F), eh_Sim g eM_7_step (eh_R 7 0 0) eh_eV 0 0 235 [none, none, none] [] (eh_FW s12) ((j11 s12).bind some)) ?_ (fun j11 Hj11 => ?_)
      · intro s12
        exact es_ret rfl rfl rfl ⟨by decide +kernel, rfl⟩ (Nat.le_refl _) (Nat.le_refl _)
      refine es_ieq (tgt := 84) (off := (10)) (by decide +kernel) (by decide) (fun h13 => ?_) (fun h13 => ?_)
      · refine es_blk (pc' := 85) (L' := [some (.ref 124), none, none]) (st' := [.ref 124]) [(.aload_n 0, 0)] (by decide +kernel) rfl rfl ?_
        refine ef_getI (k := 124) (j := 12) rfl eL_7_91 (by decide) (by decide +kernel) ?_
        refine ef_J (X := fun j14 => ∀ (u15 : Unit), eh_Sim g eM_7_step (eh_R 7 0 0) eh_eV 0 0 116 [some (.ref 124), none, none] [] (eh_FW q10) ((j14 u15).bind some)) ?_ (fun j14 Hj14 => ?_)
        · intro u15
          refine es_blk (pc' := 117) (L' := [some (.ref 124), none, none]) (st' := [.ref 124]) [(.aload_n 0, 0)] (by decide +kernel) rfl rfl ?_
          refine ef_getI (k := 124) (j := 12) rfl eL_7_91 (by decide) (by decide +kernel) ?_
          refine es_eq (tgt := 203) (off := (83)) (by decide +kernel) (by decide) (fun h16 => ?_) (fun h16 => ?_)
          · refine es_blk (pc' := 204) (L' := [some (.ref 124), none, none]) (st' := [.ref 124]) [(.aload_n 0, 0)] (by decide +kernel) rfl rfl ?_
            refine ef_getI (k := 124) (j := 6) rfl eL_7_94 (by decide) (by decide +kernel) ?_
            refine es_eq (tgt := 224) (off := (17)) (by decide +kernel) (by decide) (fun h17 => ?_) (fun h17 => ?_)
            · refine es_blk (pc' := 225) (L' := [some (.ref 124), none, none]) (st' := [.ref 124]) [(.aload_n 0, 0)] (by decide +kernel) rfl rfl ?_
              refine ef_getQ (j := 4) (ok := eh_okH) (by decide) eL_7_39 rfl (fun q h => eh_sh_NU (eh_H0sh h)) (by decide +kernel) (fun h18 => ?_)
              refine es_blk (pc' := 229) (L' := [some (.ref 124), none, none]) (st' := [.ref 124, .ref (q10.2.2 4)]) [(.aload_n 0, 0)] (by decide +kernel) rfl rfl ?_
              refine ef_getI (k := 124) (j := 9) rfl eL_7_106 (by decide) (by decide +kernel) ?_
              refine ef_putI (k := (q10.2.2 4)) (j := 2) (eh_H0sh h18) eL_7_109 rfl rfl (by decide +kernel) ?_
              refine ef_V (fun _ => [some (.ref 124), none, none]) (fun _ => []) (fun s19 => eh_FW s19) (fun s19 => ?_)
              refine ef_drop (L2 := [none, none, none]) [false, true, true] rfl rfl ?_
              exact Hj11 _
            refine es_blk (pc' := 211) (L' := [some (.ref 124), none, none]) (st' := [.ref 124]) [(.aload_n 0, 0)] (by decide +kernel) rfl rfl ?_
            refine ef_getQ (j := 5) (ok := eh_okF) (by decide) eL_7_47 rfl (fun q h => eh_sh_NU (eh_F0sh h)) (by decide +kernel) (fun h20 => ?_)
            refine es_blk (pc' := 215) (L' := [some (.ref 124), none, none]) (st' := [.ref 124, .ref (q10.2.2 5)]) [(.aload_n 0, 0)] (by decide +kernel) rfl rfl ?_
            refine ef_getI (k := 124) (j := 9) rfl eL_7_106 (by decide) (by decide +kernel) ?_
            refine ef_putI (k := (q10.2.2 5)) (j := 2) (eh_F0sh h20) eL_7_114 rfl rfl (by decide +kernel) ?_
            refine ef_V (fun _ => [some (.ref 124), none, none]) (fun _ => []) (fun s21 => eh_FW s21) (fun s21 => ?_)
            refine es_goto (tgt := 235) (off := (14)) (by decide +kernel) (by decide) ?_
            refine ef_drop (L2 := [none, none, none]) [false, true, true] rfl rfl ?_
            exact Hj11 _
          refine es_blk (pc' := 124) (L' := [some (.ref 124), none, none]) (st' := [.ref 124]) [(.aload_n 0, 0)] (by decide +kernel) rfl rfl ?_
          refine ef_getP (k := 124) (j := 2) (q := 123) rfl eL_7_22 rfl rfl rfl (by decide +kernel) ?_
          refine es_blk (pc' := 128) (L' := [some (.ref 124), none, none]) (st' := [.ref 124, .ref 123]) [(.aload_n 0, 0)] (by decide +kernel) rfl rfl ?_
          refine ef_getQ (j := 4) (ok := eh_okH) (by decide) eL_7_39 rfl (fun q h => eh_sh_NU (eh_H0sh h)) (by decide +kernel) (fun h22 => ?_)
          refine es_blk (pc' := 132) (L' := [some (.ref 124), none, none]) (st' := [.ref 124, .ref (q10.2.2 4), .ref 123]) [(.aload_n 0, 0)] (by decide +kernel) rfl rfl ?_
          refine ef_getQ (j := 7) (ok := eh_okX) (by decide) eL_7_57 rfl (fun q h => eh_sh_NU (eh_Xsh h)) (by decide +kernel) (fun h23 => ?_)
          refine es_blk (pc' := 137) (L' := [some (.ref 124), none, none]) (st' := [.int 17, .ref (q10.2.2 7), .ref (q10.2.2 4), .ref 123]) [(.bipush 17, 17)] (by decide +kernel) rfl rfl ?_
          refine ef_aldc (k := (q10.2.2 7)) (j := 17) (eh_Xsh h23) (Or.inl ⟨rfl, rfl⟩) (by decide) rfl (by decide +kernel) ?_
          refine es_blk (pc' := 139) (L' := [some (.ref 124), none, none]) (st' := [.ref 124, .int (q10.1 (q10.2.2 7) 17), .ref (q10.2.2 4), .ref 123]) [(.aload_n 0, 0)] (by decide +kernel) rfl rfl ?_
          refine ef_getQ (j := 7) (ok := eh_okX) (by decide) eL_7_57 rfl (fun q h => eh_sh_NU (eh_Xsh h)) (by decide +kernel) (fun h24 => ?_)
          refine es_blk (pc' := 144) (L' := [some (.ref 124), none, none]) (st' := [.int 10, .ref (q10.2.2 7), .int (q10.1 (q10.2.2 7) 17), .ref (q10.2.2 4), .ref 123]) [(.bipush 10, 10)] (by decide +kernel) rfl rfl ?_
          refine ef_aldc (k := (q10.2.2 7)) (j := 10) (eh_Xsh h24) (Or.inl ⟨rfl, rfl⟩) (by decide) rfl (by decide +kernel) ?_
          refine es_blk (pc' := 146) (L' := [some (.ref 124), none, none]) (st' := [.ref 124, .int (q10.1 (q10.2.2 7) 10), .int (q10.1 (q10.2.2 7) 17), .ref (q10.2.2 4), .ref 123]) [(.aload_n 0, 0)] (by decide +kernel) rfl rfl ?_
          refine ef_getQ (j := 7) (ok := eh_okX) (by decide) eL_7_57 rfl (fun q h => eh_sh_NU (eh_Xsh h)) (by decide +kernel) (fun h25 => ?_)
          refine es_blk (pc' := 151) (L' := [some (.ref 124), none, none]) (st' := [.int 11, .ref (q10.2.2 7), .int (q10.1 (q10.2.2 7) 10), .int (q10.1 (q10.2.2 7) 17), .ref (q10.2.2 4), .ref 123]) [(.bipush 11, 11)] (by decide +kernel) rfl rfl ?_
          refine ef_aldc (k := (q10.2.2 7)) (j := 11) (eh_Xsh h25) (Or.inl ⟨rfl, rfl⟩) (by decide) rfl (by decide +kernel) ?_
          refine es_blk (pc' := 153) (L' := [some (.ref 124), none, none]) (st' := [.ref 124, .int (q10.1 (q10.2.2 7) 11), .int (q10.1 (q10.2.2 7) 10), .int (q10.1 (q10.2.2 7) 17), .ref (q10.2.2 4), .ref 123]) [(.aload_n 0, 0)] (by decide +kernel) rfl rfl ?_
          refine ef_getQ (j := 7) (ok := eh_okX) (by decide) eL_7_57 rfl (fun q h => eh_sh_NU (eh_Xsh h)) (by decide +kernel) (fun h26 => ?_)
          refine es_blk (pc' := 158) (L' := [some (.ref 124), none, none]) (st' := [.int 12, .ref (q10.2.2 7), .int (q10.1 (q10.2.2 7) 11), .int (q10.1 (q10.2.2 7) 10), .int (q10.1 (q10.2.2 7) 17), .ref (q10.2.2 4), .ref 123]) [(.bipush 12, 12)] (by decide +kernel) rfl rfl ?_
          refine ef_aldc (k := (q10.2.2 7)) (j := 12) (eh_Xsh h26) (Or.inl ⟨rfl, rfl⟩) (by decide) rfl (by decide +kernel) ?_
          refine es_blk (pc' := 160) (L' := [some (.ref 124), none, none]) (st' := [.ref 124, .int (q10.1 (q10.2.2 7) 12), .int (q10.1 (q10.2.2 7) 11), .int (q10.1 (q10.2.2 7) 10), .int (q10.1 (q10.2.2 7) 17), .ref (q10.2.2 4), .ref 123]) [(.aload_n 0, 0)] (by decide +kernel) rfl rfl ?_
          refine ef_getQ (j := 7) (ok := eh_okX) (by decide) eL_7_57 rfl (fun q h => eh_sh_NU (eh_Xsh h)) (by decide +kernel) (fun h27 => ?_)
          refine es_blk (pc' := 165) (L' := [some (.ref 124), none, none]) (st' := [.int 13, .ref (q10.2.2 7), .int (q10.1 (q10.2.2 7) 12), .int (q10.1 (q10.2.2 7) 11), .int (q10.1 (q10.2.2 7) 10), .int (q10.1 (q10.2.2 7) 17), .ref (q10.2.2 4), .ref 123]) [(.bipush 13, 13)] (by decide +kernel) rfl rfl ?_
          refine ef_aldc (k := (q10.2.2 7)) (j := 13) (eh_Xsh h27) (Or.inl ⟨rfl, rfl⟩) (by decide) rfl (by decide +kernel) ?_
          refine ef_veI (d := 6) (k := 123) (As := [.ref (q10.2.2 4), .int (q10.1 (q10.2.2 7) 17), .int (q10.1 (q10.2.2 7) 10), .int (q10.1 (q10.2.2 7) 11), .int (q10.1 (q10.2.2 7) 12), .int (q10.1 (q10.2.2 7) 13)]) (st := []) eV_10_serve eK_7_101 (eS_10_serve g q10 (q10.2.2 4) (q10.1 (q10.2.2 7) 17) (q10.1 (q10.2.2 7) 10) (q10.1 (q10.2.2 7) 11) (q10.1 (q10.2.2 7) 12) (q10.1 (q10.2.2 7) 13) h22) rfl rfl (Nat.le_of_ble_eq_true rfl) rfl (Nat.le_of_ble_eq_true rfl) ⟨Nat.le_of_ble_eq_true rfl, Nat.le_of_ble_eq_true rfl⟩ ⟨Nat.le_refl _, Nat.le_refl _⟩ (by decide +kernel) (fun q28 _ => ?_)
          refine es_blk (pc' := 171) (L' := [some (.ref 124), none, some (.int q28.1)]) (st' := [.ref 124]) [(.istore_n 2, 0), (.aload_n 0, 0)] (by decide +kernel) rfl rfl ?_
          refine ef_getQ (j := 4) (ok := eh_okH) (by decide) eL_7_39 rfl (fun q h => eh_sh_NU (eh_H0sh h)) (by decide +kernel) (fun h29 => ?_)
          refine es_blk (pc' := 175) (L' := [some (.ref 124), none, some (.int q28.1)]) (st' := [.ref 124, .ref (q28.2.2.2 4)]) [(.aload_n 0, 0)] (by decide +kernel) rfl rfl ?_
          refine ef_getI (k := 124) (j := 9) rfl eL_7_106 (by decide) (by decide +kernel) ?_
          refine ef_putI (k := (q28.2.2.2 4)) (j := 2) (eh_H0sh h29) eL_7_109 rfl rfl (by decide +kernel) ?_
          refine ef_V (fun _ => [some (.ref 124), none, some (.int q28.1)]) (fun _ => []) (fun s30 => eh_FW s30) (fun s30 => ?_)
          refine es_blk (pc' := 182) (L' := [some (.ref 124), none, some (.int q28.1)]) (st' := [.ref 124]) [(.aload_n 0, 0)] (by decide +kernel) rfl rfl ?_
          refine ef_getQ (j := 4) (ok := eh_okH) (by decide) eL_7_39 rfl (fun q h => eh_sh_NU (eh_H0sh h)) (by decide +kernel) (fun h31 => ?_)
          refine ef_getI (k := (s30.2.2 4)) (j := 5) (eh_H0sh h31) eL_7_112 (by decide) (by decide +kernel) ?_
          refine es_blk (pc' := 189) (L' := [some (.ref 124), none, some (.int q28.1)]) (st' := [.int (-1), .int (s30.1 (s30.2.2 4) 5)]) [(.iconst (-1), (-1))] (by decide +kernel) rfl rfl ?_
          refine ef_J (X := fun j32 => ∀ (s33 : eh_F), eh_Sim g eM_7_step (eh_R 7 0 0) eh_eV 0 0 200 [none, none, none] [] (eh_FW s33) ((j32 s33).bind some)) ?_ (fun j32 Hj32 => ?_)
          · intro s33
            refine es_goto (tgt := 235) (off := (35)) (by decide +kernel) (by decide) ?_
            exact Hj11 _
          refine es_ine (tgt := 200) (off := (11)) (by decide +kernel) (by decide) (fun h34 => ?_) (fun h34 => ?_)
          · refine es_blk (pc' := 193) (L' := [some (.ref 124), none, some (.int q28.1)]) (st' := [.ref 124]) [(.aload_n 0, 0)] (by decide +kernel) rfl rfl ?_
            refine ef_getQ (j := 7) (ok := eh_okX) (by decide) eL_7_57 rfl (fun q h => eh_sh_NU (eh_Xsh h)) (by decide +kernel) (fun h35 => ?_)
            refine es_blk (pc' := 199) (L' := [some (.ref 124), none, some (.int q28.1)]) (st' := [.int q28.1, .int 10, .ref (s30.2.2 7)]) [(.bipush 10, 10), (.iload_n 2, 0)] (by decide +kernel) rfl rfl ?_
            refine ef_astc (k := (s30.2.2 7)) (j := 10) (eh_Xsh h35) (by decide) rfl (by decide +kernel) ?_
            refine ef_V (fun _ => [some (.ref 124), none, some (.int q28.1)]) (fun _ => []) (fun s36 => eh_FW s36) (fun s36 => ?_)
            refine ef_drop (L2 := [none, none, none]) [false, true, false] rfl rfl ?_
            exact Hj32 _
          refine ef_drop (L2 := [none, none, none]) [false, true, false] rfl rfl ?_
          exact Hj32 _
        refine es_eq (tgt := 116) (off := (28)) (by decide +kernel) (by decide) (fun h37 => ?_) (fun h37 => ?_)
        · exact Hj14 ()
        refine es_blk (pc' := 92) (L' := [some (.ref 124), none, none]) (st' := [.ref 124]) [(.aload_n 0, 0)] (by decide +kernel) rfl rfl ?_
        refine ef_getI (k := 124) (j := 6) rfl eL_7_94 (by decide) (by decide +kernel) ?_
        refine es_eq (tgt := 116) (off := (21)) (by decide +kernel) (by decide) (fun h38 => ?_) (fun h38 => ?_)
        · exact Hj14 ()
        refine es_blk (pc' := 99) (L' := [some (.ref 124), none, none]) (st' := [.ref 124]) [(.aload_n 0, 0)] (by decide +kernel) rfl rfl ?_
        refine ef_getP (k := 124) (j := 3) (q := 125) rfl eL_7_31 rfl rfl rfl (by decide +kernel) ?_
        refine es_blk (pc' := 103) (L' := [some (.ref 124), none, none]) (st' := [.ref 124, .ref 125]) [(.aload_n 0, 0)] (by decide +kernel) rfl rfl ?_
        refine ef_getQ (j := 4) (ok := eh_okH) (by decide) eL_7_39 rfl (fun q h => eh_sh_NU (eh_H0sh h)) (by decide +kernel) (fun h39 => ?_)
        refine es_blk (pc' := 107) (L' := [some (.ref 124), none, none]) (st' := [.ref 124, .ref (q10.2.2 4), .ref 125]) [(.aload_n 0, 0)] (by decide +kernel) rfl rfl ?_
        refine ef_getQ (j := 5) (ok := eh_okF) (by decide) eL_7_47 rfl (fun q h => eh_sh_NU (eh_F0sh h)) (by decide +kernel) (fun h40 => ?_)
        refine ef_veV (d := 6) (k := 125) (As := [.ref (q10.2.2 4), .ref (q10.2.2 5)]) (st := []) eV_3_serve eK_7_97 (eS_3_serve g q10 (q10.2.2 4) (q10.2.2 5) h39 h40) rfl rfl (Nat.le_of_ble_eq_true rfl) rfl (Nat.le_of_ble_eq_true rfl) ⟨Nat.le_of_ble_eq_true rfl, Nat.le_of_ble_eq_true rfl⟩ ⟨Nat.le_refl _, Nat.le_refl _⟩ (by decide +kernel) (fun q41 _ => ?_)
        refine es_goto (tgt := 235) (off := (122)) (by decide +kernel) (by decide) ?_
        refine ef_drop (L2 := [none, none, none]) [false, true, true] rfl rfl ?_
        exact Hj11 _
      refine es_blk (pc' := 78) (L' := [some (.ref 124), none, none]) (st' := [.ref 124]) [(.aload_n 0, 0)] (by decide +kernel) rfl rfl ?_
      refine ef_veV (d := 3) (k := 124) (As := []) (st := []) eV_7_suffer eK_7_88 (eS_7_suffer g q10) rfl rfl (Nat.le_of_ble_eq_true rfl) rfl (Nat.le_of_ble_eq_true rfl) ⟨Nat.le_of_ble_eq_true rfl, Nat.le_of_ble_eq_true rfl⟩ ⟨Nat.le_refl _, Nat.le_refl _⟩ (by decide +kernel) (fun q42 _ => ?_)
      refine es_goto (tgt := 235) (off := (154)) (by decide +kernel) (by decide) ?_
      refine ef_drop (L2 := [none, none, none]) [false, true, true] rfl rfl ?_
      exact Hj11 _
    exact es_ret rfl rfl rfl ⟨by decide +kernel, rfl⟩ (Nat.le_refl _) (Nat.le_refl _)
  refine es_eq (tgt := 49) (off := (29)) (by decide +kernel) (by decide) (fun h43 => ?_) (fun h43 => ?_)
  · refine ef_drop (L2 := [some (.ref 124), none, none]) [true, false, true] rfl rfl ?_
    exact Hj4 ()
  refine es_blk (pc' := 24) (L' := [some (.ref 124), some (.int p0), none]) (st' := [.ref 124]) [(.aload_n 0, 0)] (by decide +kernel) rfl rfl ?_
  refine ef_getQ (j := 4) (ok := eh_okH) (by decide) eL_7_39 rfl (fun q h => eh_sh_NU (eh_H0sh h)) (by decide +kernel) (fun h44 => ?_)
  refine es_blk (pc' := 28) (L' := [some (.ref 124), some (.int p0), none]) (st' := [.ref 124, .ref (q2.2.2 4)]) [(.aload_n 0, 0)] (by decide +kernel) rfl rfl ?_
  refine ef_getP (k := 124) (j := 0) (q := 1) rfl eL_7_9 rfl rfl rfl (by decide +kernel) ?_
  refine ef_getP (k := 1) (j := 1) (q := 12) rfl eL_7_66 rfl rfl rfl (by decide +kernel) ?_
  refine ef_vpI (d := 2) (k := (q2.2.2 4)) (As := [.ref 12]) (st := []) eV_4_pending eK_7_70 (eS_4_pending g q2 (q2.2.2 4) h44) (eh_H0sh h44) rfl (Nat.le_of_ble_eq_true rfl) rfl (Nat.le_of_ble_eq_true rfl) ⟨Nat.le_of_ble_eq_true rfl, Nat.le_of_ble_eq_true rfl⟩ ⟨Nat.le_refl _, Nat.le_refl _⟩ (by decide +kernel) (fun q45 _ => ?_)
  refine es_blk (pc' := 38) (L' := [some (.ref 124), some (.int p0), none]) (st' := [.ref 124, .int q45]) [(.aload_n 0, 0)] (by decide +kernel) rfl rfl ?_
  refine ef_getQ (j := 4) (ok := eh_okH) (by decide) eL_7_39 rfl (fun q h => eh_sh_NU (eh_H0sh h)) (by decide +kernel) (fun h46 => ?_)
  refine ef_getI (k := (q2.2.2 4)) (j := 10) (eh_H0sh h46) eL_7_74 (by decide) (by decide +kernel) ?_
  refine es_blk (pc' := 45) (L' := [some (.ref 124), some (.int p0), none]) (st' := [.int (q45 &&& (q2.1 (q2.2.2 4) 10))]) [(.iand, 0)] (by decide +kernel) rfl rfl ?_
  refine es_ne (tgt := 49) (off := (4)) (by decide +kernel) (by decide) (fun h47 => ?_) (fun h47 => ?_)
  · exact es_ret rfl rfl rfl ⟨by decide +kernel, rfl⟩ (Nat.le_refl _) (Nat.le_refl _)
  refine ef_drop (L2 := [some (.ref 124), none, none]) [true, false, true] rfl rfl ?_
  exact Hj4 ()
