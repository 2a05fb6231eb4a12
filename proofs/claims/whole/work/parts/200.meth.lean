def eF_0_wantsTheSystem (s : eh_F)  : Option (Int32) := eh_J (fun (a2 : Int32) => if a2 = 0 ∨ a2 = 1 then some a2 else none) (fun j1 => eh_J (fun (u5 : Unit) => j1 1) (fun j4 => if (s.1 12 1) = 0 then (if 0 < (s.1 12 8) then (j4 ()) else (if 0 < (s.1 20 1) then (j4 ()) else (j1 0))) else (j4 ())))
set_option maxHeartbeats 4000000 in
set_option maxRecDepth 100000 in
theorem eS_0_wantsTheSystem (g : eh_P) (s : eh_F)  : eh_Sim g eM_0_wantsTheSystem (eh_R 1 0 0) (eh_pI s) 0 0 0 (eh_en 1 [.ref 12]) [] (eh_FW s) (eF_0_wantsTheSystem s) := by
  unfold eF_0_wantsTheSystem
  refine ef_top (L := [some (.ref 12)]) rfl ?_
  refine es_blk (pc' := 1) (L' := [some (.ref 12)]) (st' := [.ref 12]) [(.aload_n 0, 0)] (by decide +kernel) rfl rfl ?_
  refine ef_getI (k := 12) (j := 1) rfl eL_0_50 (by decide) (by decide +kernel) ?_
  refine ef_J (X := fun j1 => ∀ (a2 : Int32), eh_Sim g eM_0_wantsTheSystem (eh_R 1 0 0) (eh_pI s) 0 0 29 [none] [.int a2] (eh_FW s) ((j1 a2).bind some)) ?_ (fun j1 Hj1 => ?_)
  · intro a2
    refine es_chk (fun h3 => ?_)
    exact es_ret rfl rfl rfl ⟨by decide +kernel, _, rfl, eh_narZ h3⟩ (Nat.le_refl _) (Nat.le_refl _)
  refine ef_J (X := fun j4 => ∀ (u5 : Unit), eh_Sim g eM_0_wantsTheSystem (eh_R 1 0 0) (eh_pI s) 0 0 24 [none] [] (eh_FW s) ((j4 u5).bind some)) ?_ (fun j4 Hj4 => ?_)
  · intro u5
    refine es_blk (pc' := 25) (L' := [none]) (st' := [.int 1]) [(.iconst 1, 1)] (by decide +kernel) rfl rfl ?_
    refine es_goto (tgt := 29) (off := (4)) (by decide +kernel) (by decide) ?_
    exact Hj1 _
  refine es_ne (tgt := 24) (off := (20)) (by decide +kernel) (by decide) (fun h6 => ?_) (fun h6 => ?_)
  · refine es_blk (pc' := 8) (L' := [some (.ref 12)]) (st' := [.ref 12]) [(.aload_n 0, 0)] (by decide +kernel) rfl rfl ?_
    refine ef_getI (k := 12) (j := 8) rfl eL_0_57 (by decide) (by decide +kernel) ?_
    refine es_gt (tgt := 24) (off := (13)) (by decide +kernel) (by decide) (fun h7 => ?_) (fun h7 => ?_)
    · refine ef_drop (L2 := [none]) [false] rfl rfl ?_
      exact Hj4 ()
    refine es_blk (pc' := 15) (L' := [some (.ref 12)]) (st' := [.ref 12]) [(.aload_n 0, 0)] (by decide +kernel) rfl rfl ?_
    refine ef_getP (k := 12) (j := 11) (q := 20) rfl eL_0_37 rfl rfl rfl (by decide +kernel) ?_
    refine ef_getI (k := 20) (j := 1) rfl eL_0_72 (by decide) (by decide +kernel) ?_
    refine es_le (tgt := 28) (off := (7)) (by decide +kernel) (by decide) (fun h8 => ?_) (fun h8 => ?_)
    · refine ef_drop (L2 := [none]) [false] rfl rfl ?_
      exact Hj4 ()
    refine es_blk (pc' := 29) (L' := [some (.ref 12)]) (st' := [.int 0]) [(.iconst 0, 0)] (by decide +kernel) rfl rfl ?_
    refine ef_drop (L2 := [none]) [false] rfl rfl ?_
    exact Hj1 _
  refine ef_drop (L2 := [none]) [false] rfl rfl ?_
  exact Hj4 ()
def eF_0_ask (s : eh_F) (p0 : Int32) (p1 : Int32) (p2 : Int32) : Option (Int32 × eh_F) := eh_J (fun (u2 : Unit) => some ((-5), s)) (fun j1 => if (s.1 12 7) < 0 then (j1 ()) else (if (s.1 12 7) < 4 then (if eh_in (s.1 12 7) 4 then eh_V (eh_tI s 14 (eh_ix (s.1 12 7)) (eh_nz p0)) (fun s5 => if eh_in (s5.1 12 7) 4 then eh_V (eh_tI s5 15 (eh_ix (s5.1 12 7)) p1) (fun s6 => if eh_in (s6.1 12 7) 4 then eh_V (eh_tI s6 16 (eh_ix (s6.1 12 7)) p2) (fun s7 => if eh_in (s7.1 12 7) 4 then eh_V (eh_tI s7 17 (eh_ix (s7.1 12 7)) 0) (fun s8 => eh_V (eh_tI s8 12 7 ((s8.1 12 7) + 1)) (fun s9 => some ((s9.1 12 7), s9))) else none) else none) else none) else none) else (j1 ())))
set_option maxHeartbeats 4000000 in
set_option maxRecDepth 100000 in
theorem eS_0_ask (g : eh_P) (s : eh_F) (p0 : Int32) (p1 : Int32) (p2 : Int32) : eh_Sim g eM_0_ask (eh_R 1 0 0) eh_eI 0 0 0 (eh_en 4 [.ref 12, .int p0, .int p1, .int p2]) [] (eh_FW s) (eF_0_ask s p0 p1 p2) := by
  unfold eF_0_ask
  refine ef_top (L := [some (.ref 12), some (.int p0), some (.int p1), some (.int p2)]) rfl ?_
  refine es_blk (pc' := 1) (L' := [some (.ref 12), some (.int p0), some (.int p1), some (.int p2)]) (st' := [.ref 12]) [(.aload_n 0, 0)] (by decide +kernel) rfl rfl ?_
  refine ef_getI (k := 12) (j := 7) rfl eL_0_54 (by decide) (by decide +kernel) ?_
  refine ef_J (X := fun j1 => ∀ (u2 : Unit), eh_Sim g eM_0_ask (eh_R 1 0 0) eh_eI 0 0 15 [none, none, none, none] [] (eh_FW s) ((j1 u2).bind some)) ?_ (fun j1 Hj1 => ?_)
  · intro u2
    refine es_blk (pc' := 17) (L' := [none, none, none, none]) (st' := [.int (-5)]) [(.bipush (-5), (-5))] (by decide +kernel) rfl rfl ?_
    exact es_ret rfl rfl rfl ⟨by decide +kernel, _, rfl, rfl⟩ (Nat.le_refl _) (Nat.le_refl _)
  refine es_lt (tgt := 15) (off := (11)) (by decide +kernel) (by decide) (fun h3 => ?_) (fun h3 => ?_)
  · refine ef_drop (L2 := [none, none, none, none]) [false, false, false, false] rfl rfl ?_
    exact Hj1 ()
  refine es_blk (pc' := 8) (L' := [some (.ref 12), some (.int p0), some (.int p1), some (.int p2)]) (st' := [.ref 12]) [(.aload_n 0, 0)] (by decide +kernel) rfl rfl ?_
  refine ef_getI (k := 12) (j := 7) rfl eL_0_54 (by decide) (by decide +kernel) ?_
  refine es_blk (pc' := 12) (L' := [some (.ref 12), some (.int p0), some (.int p1), some (.int p2)]) (st' := [.int 4, .int (s.1 12 7)]) [(.iconst 4, 4)] (by decide +kernel) rfl rfl ?_
  refine es_ilt (tgt := 18) (off := (6)) (by decide +kernel) (by decide) (fun h4 => ?_) (fun h4 => ?_)
  · refine es_blk (pc' := 19) (L' := [some (.ref 12), some (.int p0), some (.int p1), some (.int p2)]) (st' := [.ref 12]) [(.aload_n 0, 0)] (by decide +kernel) rfl rfl ?_
    refine ef_getP (k := 12) (j := 3) (q := 14) rfl eL_0_15 rfl rfl rfl (by decide +kernel) ?_
    refine es_blk (pc' := 23) (L' := [some (.ref 12), some (.int p0), some (.int p1), some (.int p2)]) (st' := [.ref 12, .ref 14]) [(.aload_n 0, 0)] (by decide +kernel) rfl rfl ?_
    refine ef_getI (k := 12) (j := 7) rfl eL_0_54 (by decide) (by decide +kernel) ?_
    refine es_blk (pc' := 27) (L' := [some (.ref 12), some (.int p0), some (.int p1), some (.int p2)]) (st' := [.int p0, .int (s.1 12 7), .ref 14]) [(.iload_n 1, 0)] (by decide +kernel) rfl rfl ?_
    refine ef_astZ (k := 14) rfl (by decide +kernel) (fun _ => ?_)
    refine ef_V (fun _ => [some (.ref 12), some (.int p0), some (.int p1), some (.int p2)]) (fun _ => []) (fun s5 => eh_FW s5) (fun s5 => ?_)
    refine es_blk (pc' := 29) (L' := [some (.ref 12), some (.int p0), some (.int p1), some (.int p2)]) (st' := [.ref 12]) [(.aload_n 0, 0)] (by decide +kernel) rfl rfl ?_
    refine ef_getP (k := 12) (j := 4) (q := 15) rfl eL_0_19 rfl rfl rfl (by decide +kernel) ?_
    refine es_blk (pc' := 33) (L' := [some (.ref 12), some (.int p0), some (.int p1), some (.int p2)]) (st' := [.ref 12, .ref 15]) [(.aload_n 0, 0)] (by decide +kernel) rfl rfl ?_
    refine ef_getI (k := 12) (j := 7) rfl eL_0_54 (by decide) (by decide +kernel) ?_
    refine es_blk (pc' := 37) (L' := [some (.ref 12), some (.int p0), some (.int p1), some (.int p2)]) (st' := [.int p1, .int (s5.1 12 7), .ref 15]) [(.iload_n 2, 0)] (by decide +kernel) rfl rfl ?_
    refine ef_ast (k := 15) rfl (by decide +kernel) (fun _ => ?_)
    refine ef_V (fun _ => [some (.ref 12), some (.int p0), some (.int p1), some (.int p2)]) (fun _ => []) (fun s6 => eh_FW s6) (fun s6 => ?_)
    refine es_blk (pc' := 39) (L' := [some (.ref 12), some (.int p0), some (.int p1), some (.int p2)]) (st' := [.ref 12]) [(.aload_n 0, 0)] (by decide +kernel) rfl rfl ?_
    refine ef_getP (k := 12) (j := 5) (q := 16) rfl eL_0_22 rfl rfl rfl (by decide +kernel) ?_
    refine es_blk (pc' := 43) (L' := [some (.ref 12), some (.int p0), some (.int p1), some (.int p2)]) (st' := [.ref 12, .ref 16]) [(.aload_n 0, 0)] (by decide +kernel) rfl rfl ?_
    refine ef_getI (k := 12) (j := 7) rfl eL_0_54 (by decide) (by decide +kernel) ?_
    refine es_blk (pc' := 47) (L' := [some (.ref 12), some (.int p0), some (.int p1), some (.int p2)]) (st' := [.int p2, .int (s6.1 12 7), .ref 16]) [(.iload_n 3, 0)] (by decide +kernel) rfl rfl ?_
    refine ef_ast (k := 16) rfl (by decide +kernel) (fun _ => ?_)
    refine ef_V (fun _ => [some (.ref 12), some (.int p0), some (.int p1), some (.int p2)]) (fun _ => []) (fun s7 => eh_FW s7) (fun s7 => ?_)
    refine es_blk (pc' := 49) (L' := [some (.ref 12), some (.int p0), some (.int p1), some (.int p2)]) (st' := [.ref 12]) [(.aload_n 0, 0)] (by decide +kernel) rfl rfl ?_
    refine ef_getP (k := 12) (j := 6) (q := 17) rfl eL_0_25 rfl rfl rfl (by decide +kernel) ?_
    refine es_blk (pc' := 53) (L' := [some (.ref 12), some (.int p0), some (.int p1), some (.int p2)]) (st' := [.ref 12, .ref 17]) [(.aload_n 0, 0)] (by decide +kernel) rfl rfl ?_
    refine ef_getI (k := 12) (j := 7) rfl eL_0_54 (by decide) (by decide +kernel) ?_
    refine es_blk (pc' := 57) (L' := [some (.ref 12), some (.int p0), some (.int p1), some (.int p2)]) (st' := [.int 0, .int (s7.1 12 7), .ref 17]) [(.iconst 0, 0)] (by decide +kernel) rfl rfl ?_
    refine ef_ast (k := 17) rfl (by decide +kernel) (fun _ => ?_)
    refine ef_V (fun _ => [some (.ref 12), some (.int p0), some (.int p1), some (.int p2)]) (fun _ => []) (fun s8 => eh_FW s8) (fun s8 => ?_)
    refine es_blk (pc' := 60) (L' := [some (.ref 12), some (.int p0), some (.int p1), some (.int p2)]) (st' := [.ref 12, .ref 12]) [(.aload_n 0, 0), (.dup, 0)] (by decide +kernel) rfl rfl ?_
    refine ef_getI (k := 12) (j := 7) rfl eL_0_54 (by decide) (by decide +kernel) ?_
    refine es_blk (pc' := 65) (L' := [some (.ref 12), some (.int p0), some (.int p1), some (.int p2)]) (st' := [.int ((s8.1 12 7) + 1), .ref 12]) [(.iconst 1, 1), (.iadd, 0)] (by decide +kernel) rfl rfl ?_
    refine ef_putI (k := 12) (j := 7) rfl eL_0_54 rfl rfl (by decide +kernel) ?_
    refine ef_V (fun _ => [some (.ref 12), some (.int p0), some (.int p1), some (.int p2)]) (fun _ => []) (fun s9 => eh_FW s9) (fun s9 => ?_)
    refine es_blk (pc' := 69) (L' := [some (.ref 12), some (.int p0), some (.int p1), some (.int p2)]) (st' := [.ref 12]) [(.aload_n 0, 0)] (by decide +kernel) rfl rfl ?_
    refine ef_getI (k := 12) (j := 7) rfl eL_0_54 (by decide) (by decide +kernel) ?_
    exact es_ret rfl rfl rfl ⟨by decide +kernel, _, rfl, rfl⟩ (Nat.le_refl _) (Nat.le_refl _)
  refine ef_drop (L2 := [none, none, none, none]) [false, false, false, false] rfl rfl ?_
  exact Hj1 ()
def eF_0_tell (s : eh_F)  : Option (Int32 × eh_F) := eh_V (((s.1 12 8) + (256 * (s.1 12 9))) : Int32) (fun x1 => eh_V (eh_tI s 12 8 0) (fun s2 => eh_V (eh_tI s2 12 9 0) (fun s3 => some (x1, s3))))
set_option maxHeartbeats 4000000 in
set_option maxRecDepth 100000 in
theorem eS_0_tell (g : eh_P) (s : eh_F)  : eh_Sim g eM_0_tell (eh_R 1 0 0) eh_eI 0 0 0 (eh_en 2 [.ref 12]) [] (eh_FW s) (eF_0_tell s) := by
  unfold eF_0_tell
  refine ef_top (L := [some (.ref 12), none]) rfl ?_
  refine es_blk (pc' := 1) (L' := [some (.ref 12), none]) (st' := [.ref 12]) [(.aload_n 0, 0)] (by decide +kernel) rfl rfl ?_
  refine ef_getI (k := 12) (j := 8) rfl eL_0_57 (by decide) (by decide +kernel) ?_
  refine es_blk (pc' := 8) (L' := [some (.ref 12), none]) (st' := [.ref 12, .int 256, .int (s.1 12 8)]) [(.sipush 256, 256), (.aload_n 0, 0)] (by decide +kernel) rfl rfl ?_
  refine ef_getI (k := 12) (j := 9) rfl eL_0_60 (by decide) (by decide +kernel) ?_
  refine es_blk (pc' := 14) (L' := [some (.ref 12), some (.int ((s.1 12 8) + (256 * (s.1 12 9))))]) (st' := []) [(.imul, 0), (.iadd, 0), (.istore_n 1, 0)] (by decide +kernel) rfl rfl ?_
  refine ef_V (fun x1 => [some (.ref 12), some (.int x1)]) (fun _ => []) (fun _ => eh_FW s) (fun x1 => ?_)
  refine es_blk (pc' := 16) (L' := [some (.ref 12), some (.int x1)]) (st' := [.int 0, .ref 12]) [(.aload_n 0, 0), (.iconst 0, 0)] (by decide +kernel) rfl rfl ?_
  refine ef_putI (k := 12) (j := 8) rfl eL_0_57 rfl rfl (by decide +kernel) ?_
  refine ef_V (fun _ => [some (.ref 12), some (.int x1)]) (fun _ => []) (fun s2 => eh_FW s2) (fun s2 => ?_)
  refine es_blk (pc' := 21) (L' := [some (.ref 12), some (.int x1)]) (st' := [.int 0, .ref 12]) [(.aload_n 0, 0), (.iconst 0, 0)] (by decide +kernel) rfl rfl ?_
  refine ef_putI (k := 12) (j := 9) rfl eL_0_60 rfl rfl (by decide +kernel) ?_
  refine ef_V (fun _ => [some (.ref 12), some (.int x1)]) (fun _ => []) (fun s3 => eh_FW s3) (fun s3 => ?_)
  refine es_blk (pc' := 25) (L' := [some (.ref 12), some (.int x1)]) (st' := [.int x1]) [(.iload_n 1, 0)] (by decide +kernel) rfl rfl ?_
  exact es_ret rfl rfl rfl ⟨by decide +kernel, _, rfl, rfl⟩ (Nat.le_refl _) (Nat.le_refl _)
def eF_0_dropFirst (s : eh_F)  : Option (eh_F) := eh_V (eh_tI s 12 7 ((s.1 12 7) - 1)) (fun s1 => Option.bind (eh_loop (fun (r5 : (Int32 × eh_F) → Option (eh_F)) (t2 : Int32 × eh_F) => if t2.1 < (t2.2.1 12 7) then (if (t2.1 + 1) < 4 then (if eh_in (t2.1 + 1) 4 then if eh_in t2.1 4 then eh_V (eh_tI t2.2 14 (eh_ix t2.1) (eh_nz (t2.2.1 14 (eh_ix (t2.1 + 1))))) (fun s8 => if eh_in (t2.1 + 1) 4 then if eh_in t2.1 4 then eh_V (eh_tI s8 15 (eh_ix t2.1) (s8.1 15 (eh_ix (t2.1 + 1)))) (fun s9 => if eh_in (t2.1 + 1) 4 then if eh_in t2.1 4 then eh_V (eh_tI s9 16 (eh_ix t2.1) (s9.1 16 (eh_ix (t2.1 + 1)))) (fun s10 => if eh_in (t2.1 + 1) 4 then if eh_in t2.1 4 then eh_V (eh_tI s10 17 (eh_ix t2.1) (s10.1 17 (eh_ix (t2.1 + 1)))) (fun s11 => eh_V ((t2.1 + 1) : Int32) (fun x12 => r5 (x12, s11))) else none else none) else none else none) else none else none) else none else none) else (some t2.2)) else (some t2.2)) eh_FU (0, s1)) (fun (e3 : eh_F) => some e3))
set_option maxHeartbeats 4000000 in
set_option maxRecDepth 100000 in
theorem eS_0_dropFirst (g : eh_P) (s : eh_F)  : eh_Sim g eM_0_dropFirst (eh_R 1 0 0) eh_eV 0 0 0 (eh_en 2 [.ref 12]) [] (eh_FW s) (eF_0_dropFirst s) := by
  unfold eF_0_dropFirst
  refine ef_top (L := [some (.ref 12), none]) rfl ?_
  refine es_blk (pc' := 2) (L' := [some (.ref 12), none]) (st' := [.ref 12, .ref 12]) [(.aload_n 0, 0), (.dup, 0)] (by decide +kernel) rfl rfl ?_
  refine ef_getI (k := 12) (j := 7) rfl eL_0_54 (by decide) (by decide +kernel) ?_
  refine es_blk (pc' := 7) (L' := [some (.ref 12), none]) (st' := [.int ((s.1 12 7) - 1), .ref 12]) [(.iconst 1, 1), (.isub, 0)] (by decide +kernel) rfl rfl ?_
  refine ef_putI (k := 12) (j := 7) rfl eL_0_54 rfl rfl (by decide +kernel) ?_
  refine ef_V (fun _ => [some (.ref 12), none]) (fun _ => []) (fun s1 => eh_FW s1) (fun s1 => ?_)
  refine es_blk (pc' := 12) (L' := [some (.ref 12), some (.int 0)]) (st' := []) [(.iconst 0, 0), (.istore_n 1, 0)] (by decide +kernel) rfl rfl ?_
  refine ef_loop1 (n := eh_FU) (i := (0, s1)) (px := 89) (fun (t2 : Int32 × eh_F) => [some (.ref 12), some (.int t2.1)]) (fun (t2 : Int32 × eh_F) => []) (fun (t2 : Int32 × eh_F) => eh_FW t2.2) (fun (e3 : eh_F) => [none, none]) (fun (e3 : eh_F) => []) (fun (e3 : eh_F) => eh_FW e3) (fun e3 => ?_) (fun K4 HxK4_0 r5 Hr5 t2 => ?_)
  · exact es_ret rfl rfl rfl ⟨by decide +kernel, rfl⟩ (Nat.le_refl _) (Nat.le_refl _)
  · refine es_blk (pc' := 14) (L' := [some (.ref 12), some (.int t2.1)]) (st' := [.ref 12, .int t2.1]) [(.iload_n 1, 0), (.aload_n 0, 0)] (by decide +kernel) rfl rfl ?_
    refine ef_getI (k := 12) (j := 7) rfl eL_0_54 (by decide) (by decide +kernel) ?_
    refine es_ige (tgt := 89) (off := (72)) (by decide +kernel) (by decide) (fun h6 => ?_) (fun h6 => ?_)
    · refine es_blk (pc' := 24) (L' := [some (.ref 12), some (.int t2.1)]) (st' := [.int 4, .int (t2.1 + 1)]) [(.iload_n 1, 0), (.iconst 1, 1), (.iadd, 0), (.iconst 4, 4)] (by decide +kernel) rfl rfl ?_
      refine es_ige (tgt := 89) (off := (65)) (by decide +kernel) (by decide) (fun h7 => ?_) (fun h7 => ?_)
      · refine es_blk (pc' := 28) (L' := [some (.ref 12), some (.int t2.1)]) (st' := [.ref 12]) [(.aload_n 0, 0)] (by decide +kernel) rfl rfl ?_
        refine ef_getP (k := 12) (j := 3) (q := 14) rfl eL_0_15 rfl rfl rfl (by decide +kernel) ?_
        refine es_blk (pc' := 33) (L' := [some (.ref 12), some (.int t2.1)]) (st' := [.ref 12, .int t2.1, .ref 14]) [(.iload_n 1, 0), (.aload_n 0, 0)] (by decide +kernel) rfl rfl ?_
        refine ef_getP (k := 12) (j := 3) (q := 14) rfl eL_0_15 rfl rfl rfl (by decide +kernel) ?_
        refine es_blk (pc' := 39) (L' := [some (.ref 12), some (.int t2.1)]) (st' := [.int (t2.1 + 1), .ref 14, .int t2.1, .ref 14]) [(.iload_n 1, 0), (.iconst 1, 1), (.iadd, 0)] (by decide +kernel) rfl rfl ?_
        refine ef_ald (k := 14) rfl (Or.inr ⟨Or.inr rfl, rfl⟩) (by decide +kernel) (fun _ => ?_)
        refine ef_astZ (k := 14) rfl (by decide +kernel) (fun _ => ?_)
        refine ef_V (fun _ => [some (.ref 12), some (.int t2.1)]) (fun _ => []) (fun s8 => eh_FW s8) (fun s8 => ?_)
        refine es_blk (pc' := 42) (L' := [some (.ref 12), some (.int t2.1)]) (st' := [.ref 12]) [(.aload_n 0, 0)] (by decide +kernel) rfl rfl ?_
        refine ef_getP (k := 12) (j := 4) (q := 15) rfl eL_0_19 rfl rfl rfl (by decide +kernel) ?_
        refine es_blk (pc' := 47) (L' := [some (.ref 12), some (.int t2.1)]) (st' := [.ref 12, .int t2.1, .ref 15]) [(.iload_n 1, 0), (.aload_n 0, 0)] (by decide +kernel) rfl rfl ?_
        refine ef_getP (k := 12) (j := 4) (q := 15) rfl eL_0_19 rfl rfl rfl (by decide +kernel) ?_
        refine es_blk (pc' := 53) (L' := [some (.ref 12), some (.int t2.1)]) (st' := [.int (t2.1 + 1), .ref 15, .int t2.1, .ref 15]) [(.iload_n 1, 0), (.iconst 1, 1), (.iadd, 0)] (by decide +kernel) rfl rfl ?_
        refine ef_ald (k := 15) rfl (Or.inl ⟨rfl, rfl⟩) (by decide +kernel) (fun _ => ?_)
        refine ef_ast (k := 15) rfl (by decide +kernel) (fun _ => ?_)
        refine ef_V (fun _ => [some (.ref 12), some (.int t2.1)]) (fun _ => []) (fun s9 => eh_FW s9) (fun s9 => ?_)
        refine es_blk (pc' := 56) (L' := [some (.ref 12), some (.int t2.1)]) (st' := [.ref 12]) [(.aload_n 0, 0)] (by decide +kernel) rfl rfl ?_
        refine ef_getP (k := 12) (j := 5) (q := 16) rfl eL_0_22 rfl rfl rfl (by decide +kernel) ?_
        refine es_blk (pc' := 61) (L' := [some (.ref 12), some (.int t2.1)]) (st' := [.ref 12, .int t2.1, .ref 16]) [(.iload_n 1, 0), (.aload_n 0, 0)] (by decide +kernel) rfl rfl ?_
        refine ef_getP (k := 12) (j := 5) (q := 16) rfl eL_0_22 rfl rfl rfl (by decide +kernel) ?_
        refine es_blk (pc' := 67) (L' := [some (.ref 12), some (.int t2.1)]) (st' := [.int (t2.1 + 1), .ref 16, .int t2.1, .ref 16]) [(.iload_n 1, 0), (.iconst 1, 1), (.iadd, 0)] (by decide +kernel) rfl rfl ?_
        refine ef_ald (k := 16) rfl (Or.inl ⟨rfl, rfl⟩) (by decide +kernel) (fun _ => ?_)
        refine ef_ast (k := 16) rfl (by decide +kernel) (fun _ => ?_)
        refine ef_V (fun _ => [some (.ref 12), some (.int t2.1)]) (fun _ => []) (fun s10 => eh_FW s10) (fun s10 => ?_)
        refine es_blk (pc' := 70) (L' := [some (.ref 12), some (.int t2.1)]) (st' := [.ref 12]) [(.aload_n 0, 0)] (by decide +kernel) rfl rfl ?_
        refine ef_getP (k := 12) (j := 6) (q := 17) rfl eL_0_25 rfl rfl rfl (by decide +kernel) ?_
        refine es_blk (pc' := 75) (L' := [some (.ref 12), some (.int t2.1)]) (st' := [.ref 12, .int t2.1, .ref 17]) [(.iload_n 1, 0), (.aload_n 0, 0)] (by decide +kernel) rfl rfl ?_
        refine ef_getP (k := 12) (j := 6) (q := 17) rfl eL_0_25 rfl rfl rfl (by decide +kernel) ?_
        refine es_blk (pc' := 81) (L' := [some (.ref 12), some (.int t2.1)]) (st' := [.int (t2.1 + 1), .ref 17, .int t2.1, .ref 17]) [(.iload_n 1, 0), (.iconst 1, 1), (.iadd, 0)] (by decide +kernel) rfl rfl ?_
        refine ef_ald (k := 17) rfl (Or.inl ⟨rfl, rfl⟩) (by decide +kernel) (fun _ => ?_)
        refine ef_ast (k := 17) rfl (by decide +kernel) (fun _ => ?_)
        refine ef_V (fun _ => [some (.ref 12), some (.int t2.1)]) (fun _ => []) (fun s11 => eh_FW s11) (fun s11 => ?_)
        refine es_blk (pc' := 86) (L' := [some (.ref 12), some (.int (t2.1 + 1))]) (st' := []) [(.iinc 1 1, 1)] (by decide +kernel) rfl rfl ?_
        refine ef_V (fun x12 => [some (.ref 12), some (.int x12)]) (fun _ => []) (fun _ => eh_FW s11) (fun x12 => ?_)
        refine es_goto (tgt := 12) (off := (-74)) (by decide +kernel) (by decide) ?_
        exact Hr5 (x12, s11)
      refine ef_drop (L2 := [none, none]) [false, false] rfl rfl ?_
      exact HxK4_0 t2.2
    refine ef_drop (L2 := [none, none]) [false, false] rfl rfl ?_
    exact HxK4_0 t2.2
def eF_0_swapDiskByte (s : eh_F) (p0 : Int32) (p1 : Int32) : Option (Int32 × eh_F) := eh_V ((eh_shr p0 2) : Int32) (fun x1 => eh_J (fun (u3 : Unit) => some ((-1), s)) (fun j2 => if x1 < 0 then (j2 ()) else (if x1 < (Int32.ofNat 2048) then (eh_V ((8 * (p0 &&& 3)) : Int32) (fun x6 => if eh_in x1 2048 then eh_V (((eh_ushr (s.1 13 (eh_ix x1)) x6) &&& 255) : Int32) (fun x7 => eh_J (fun (s9 : eh_F) => some (x7, s9)) (fun j8 => if p1 < 0 then (j8 s) else (if eh_in x1 2048 then if eh_in x1 2048 then eh_V (eh_tI s 13 (eh_ix x1) (((s.1 13 (eh_ix x1)) &&& ((eh_shl 255 x6) ^^^ (-1))) ||| (eh_shl (p1 &&& 255) x6))) (fun s11 => j8 s11) else none else none))) else none)) else (j2 ()))))
set_option maxHeartbeats 4000000 in
set_option maxRecDepth 100000 in
theorem eS_0_swapDiskByte (g : eh_P) (s : eh_F) (p0 : Int32) (p1 : Int32) : eh_Sim g eM_0_swapDiskByte (eh_R 1 0 0) eh_eI 0 0 0 (eh_en 6 [.ref 12, .int p0, .int p1]) [] (eh_FW s) (eF_0_swapDiskByte s p0 p1) := by
  unfold eF_0_swapDiskByte
  refine ef_top (L := [some (.ref 12), some (.int p0), some (.int p1), none, none, none]) rfl ?_
  refine es_blk (pc' := 4) (L' := [some (.ref 12), some (.int p0), some (.int p1), some (.int (eh_shr p0 2)), none, none]) (st' := []) [(.iload_n 1, 0), (.iconst 2, 2), (.ishr, 0), (.istore_n 3, 0)] (by decide +kernel) rfl rfl ?_
  refine ef_V (fun x1 => [some (.ref 12), some (.int p0), some (.int p1), some (.int x1), none, none]) (fun _ => []) (fun _ => eh_FW s) (fun x1 => ?_)
  refine es_blk (pc' := 5) (L' := [some (.ref 12), some (.int p0), some (.int p1), some (.int x1), none, none]) (st' := [.int x1]) [(.iload_n 3, 0)] (by decide +kernel) rfl rfl ?_
  refine ef_J (X := fun j2 => ∀ (u3 : Unit), eh_Sim g eM_0_swapDiskByte (eh_R 1 0 0) eh_eI 0 0 17 [none, none, none, none, none, none] [] (eh_FW s) ((j2 u3).bind some)) ?_ (fun j2 Hj2 => ?_)
  · intro u3
    refine es_blk (pc' := 18) (L' := [none, none, none, none, none, none]) (st' := [.int (-1)]) [(.iconst (-1), (-1))] (by decide +kernel) rfl rfl ?_
    exact es_ret rfl rfl rfl ⟨by decide +kernel, _, rfl, rfl⟩ (Nat.le_refl _) (Nat.le_refl _)
  refine es_lt (tgt := 17) (off := (12)) (by decide +kernel) (by decide) (fun h4 => ?_) (fun h4 => ?_)
  · refine ef_drop (L2 := [none, none, none, none, none, none]) [false, false, false, false, true, true] rfl rfl ?_
    exact Hj2 ()
  refine es_blk (pc' := 10) (L' := [some (.ref 12), some (.int p0), some (.int p1), some (.int x1), none, none]) (st' := [.ref 12, .int x1]) [(.iload_n 3, 0), (.aload_n 0, 0)] (by decide +kernel) rfl rfl ?_
  refine ef_getP (k := 12) (j := 2) (q := 13) rfl eL_0_11 rfl rfl rfl (by decide +kernel) ?_
  refine ef_alen (k := 13) rfl (by decide) (by decide +kernel) ?_
  refine es_ilt (tgt := 19) (off := (5)) (by decide +kernel) (by decide) (fun h5 => ?_) (fun h5 => ?_)
  · refine es_blk (pc' := 27) (L' := [some (.ref 12), some (.int p0), some (.int p1), some (.int x1), some (.int (8 * (p0 &&& 3))), none]) (st' := []) [(.bipush 8, 8), (.iload_n 1, 0), (.iconst 3, 3), (.iand, 0), (.imul, 0), (.istore 4, 0)] (by decide +kernel) rfl rfl ?_
    refine ef_V (fun x6 => [some (.ref 12), some (.int p0), some (.int p1), some (.int x1), some (.int x6), none]) (fun _ => []) (fun _ => eh_FW s) (fun x6 => ?_)
    refine es_blk (pc' := 28) (L' := [some (.ref 12), some (.int p0), some (.int p1), some (.int x1), some (.int x6), none]) (st' := [.ref 12]) [(.aload_n 0, 0)] (by decide +kernel) rfl rfl ?_
    refine ef_getP (k := 12) (j := 2) (q := 13) rfl eL_0_11 rfl rfl rfl (by decide +kernel) ?_
    refine es_blk (pc' := 32) (L' := [some (.ref 12), some (.int p0), some (.int p1), some (.int x1), some (.int x6), none]) (st' := [.int x1, .ref 13]) [(.iload_n 3, 0)] (by decide +kernel) rfl rfl ?_
    refine ef_ald (k := 13) rfl (Or.inl ⟨rfl, rfl⟩) (by decide +kernel) (fun _ => ?_)
    refine es_blk (pc' := 42) (L' := [some (.ref 12), some (.int p0), some (.int p1), some (.int x1), some (.int x6), some (.int ((eh_ushr (s.1 13 (eh_ix x1)) x6) &&& 255))]) (st' := []) [(.iload 4, 0), (.iushr, 0), (.sipush 255, 255), (.iand, 0), (.istore 5, 0)] (by decide +kernel) rfl rfl ?_
    refine ef_V (fun x7 => [some (.ref 12), some (.int p0), some (.int p1), some (.int x1), some (.int x6), some (.int x7)]) (fun _ => []) (fun _ => eh_FW s) (fun x7 => ?_)
    refine es_blk (pc' := 43) (L' := [some (.ref 12), some (.int p0), some (.int p1), some (.int x1), some (.int x6), some (.int x7)]) (st' := [.int p1]) [(.iload_n 2, 0)] (by decide +kernel) rfl rfl ?_
    refine ef_J (X := fun j8 => ∀ (s9 : eh_F), eh_Sim g eM_0_swapDiskByte (eh_R 1 0 0) eh_eI 0 0 76 [none, none, none, none, none, some (.int x7)] [] (eh_FW s9) ((j8 s9).bind some)) ?_ (fun j8 Hj8 => ?_)
    · intro s9
      refine es_blk (pc' := 78) (L' := [none, none, none, none, none, some (.int x7)]) (st' := [.int x7]) [(.iload 5, 0)] (by decide +kernel) rfl rfl ?_
      exact es_ret rfl rfl rfl ⟨by decide +kernel, _, rfl, rfl⟩ (Nat.le_refl _) (Nat.le_refl _)
    refine es_lt (tgt := 76) (off := (33)) (by decide +kernel) (by decide) (fun h10 => ?_) (fun h10 => ?_)
    · refine ef_drop (L2 := [none, none, none, none, none, some (.int x7)]) [false, false, false, false, false, true] rfl rfl ?_
      exact Hj8 _
    refine es_blk (pc' := 47) (L' := [some (.ref 12), some (.int p0), some (.int p1), some (.int x1), some (.int x6), some (.int x7)]) (st' := [.ref 12]) [(.aload_n 0, 0)] (by decide +kernel) rfl rfl ?_
    refine ef_getP (k := 12) (j := 2) (q := 13) rfl eL_0_11 rfl rfl rfl (by decide +kernel) ?_
    refine es_blk (pc' := 52) (L' := [some (.ref 12), some (.int p0), some (.int p1), some (.int x1), some (.int x6), some (.int x7)]) (st' := [.ref 12, .int x1, .ref 13]) [(.iload_n 3, 0), (.aload_n 0, 0)] (by decide +kernel) rfl rfl ?_
    refine ef_getP (k := 12) (j := 2) (q := 13) rfl eL_0_11 rfl rfl rfl (by decide +kernel) ?_
    refine es_blk (pc' := 56) (L' := [some (.ref 12), some (.int p0), some (.int p1), some (.int x1), some (.int x6), some (.int x7)]) (st' := [.int x1, .ref 13, .int x1, .ref 13]) [(.iload_n 3, 0)] (by decide +kernel) rfl rfl ?_
    refine ef_ald (k := 13) rfl (Or.inl ⟨rfl, rfl⟩) (by decide +kernel) (fun _ => ?_)
    refine es_blk (pc' := 75) (L' := [some (.ref 12), some (.int p0), some (.int p1), some (.int x1), some (.int x6), some (.int x7)]) (st' := [.int (((s.1 13 (eh_ix x1)) &&& ((eh_shl 255 x6) ^^^ (-1))) ||| (eh_shl (p1 &&& 255) x6)), .int x1, .ref 13]) [(.sipush 255, 255), (.iload 4, 0), (.ishl, 0), (.iconst (-1), (-1)), (.ixor, 0), (.iand, 0), (.iload_n 2, 0), (.sipush 255, 255), (.iand, 0), (.iload 4, 0), (.ishl, 0), (.ior, 0)] (by decide +kernel) rfl rfl ?_
    refine ef_ast (k := 13) rfl (by decide +kernel) (fun _ => ?_)
    refine ef_V (fun _ => [some (.ref 12), some (.int p0), some (.int p1), some (.int x1), some (.int x6), some (.int x7)]) (fun _ => []) (fun s11 => eh_FW s11) (fun s11 => ?_)
    refine ef_drop (L2 := [none, none, none, none, none, some (.int x7)]) [false, false, false, false, false, true] rfl rfl ?_
    exact Hj8 _
  refine ef_drop (L2 := [none, none, none, none, none, none]) [false, false, false, false, true, true] rfl rfl ?_
  exact Hj2 ()
def eF_2_handle (s : eh_F) (th : Nat) (p0 : Int32) : Option (eh_F) := eh_V (eh_tI s th 9 1) (fun s1 => eh_V (eh_tI s1 th 10 (s1.1 (th + 1) 10)) (fun s2 => eh_V (eh_tI s2 th 11 (s2.1 (th + 1) 11)) (fun s3 => eh_V (eh_tI s3 th 12 (s3.1 th 2)) (fun s4 => eh_V (eh_tI s4 th 13 (s4.1 th 8)) (fun s5 => eh_V (eh_tI s5 (th + 1) 10 p0) (fun s6 => eh_V (eh_tI s6 (th + 1) 11 (s6.1 th 2)) (fun s7 => eh_V (eh_tI s7 th 2 (s7.1 th 8)) (fun s8 => eh_V (eh_tI s8 th 8 0) (fun s9 => some s9)))))))))
set_option maxHeartbeats 4000000 in
set_option maxRecDepth 100000 in
theorem eS_2_handle (g : eh_P) (s : eh_F) (th : Nat) (p0 : Int32) (hth : eh_okF th = true) : eh_Sim g eM_2_handle (eh_R 1 0 0) eh_eV 0 0 0 (eh_en 2 [.ref th, .int p0]) [] (eh_FW s) (eF_2_handle s th p0) := by
  unfold eF_2_handle
  refine ef_top (L := [some (.ref th), some (.int p0)]) rfl ?_
  refine es_blk (pc' := 2) (L' := [some (.ref th), some (.int p0)]) (st' := [.int 1, .ref th]) [(.aload_n 0, 0), (.iconst 1, 1)] (by decide +kernel) rfl rfl ?_
  refine ef_putZc (k := th) (j := 9) (eh_F0sh hth) eL_2_49 rfl rfl (by decide) (by decide +kernel) ?_
  refine ef_V (fun _ => [some (.ref th), some (.int p0)]) (fun _ => []) (fun s1 => eh_FW s1) (fun s1 => ?_)
  refine es_blk (pc' := 7) (L' := [some (.ref th), some (.int p0)]) (st' := [.ref th, .ref th]) [(.aload_n 0, 0), (.aload_n 0, 0)] (by decide +kernel) rfl rfl ?_
  refine ef_getP (k := th) (j := 1) (q := (th + 1)) (eh_F0sh hth) eL_2_9 rfl (eh_Fx hth _) (eh_F1sh hth) (by decide +kernel) ?_
  refine es_blk (pc' := 12) (L' := [some (.ref th), some (.int p0)]) (st' := [.int 10, .ref (th + 1), .ref th]) [(.bipush 10, 10)] (by decide +kernel) rfl rfl ?_
  refine ef_aldc (k := (th + 1)) (j := 10) (eh_F1sh hth) (Or.inl ⟨rfl, rfl⟩) (by decide) rfl (by decide +kernel) ?_
  refine ef_putI (k := th) (j := 10) (eh_F0sh hth) eL_2_53 rfl rfl (by decide +kernel) ?_
  refine ef_V (fun _ => [some (.ref th), some (.int p0)]) (fun _ => []) (fun s2 => eh_FW s2) (fun s2 => ?_)
  refine es_blk (pc' := 18) (L' := [some (.ref th), some (.int p0)]) (st' := [.ref th, .ref th]) [(.aload_n 0, 0), (.aload_n 0, 0)] (by decide +kernel) rfl rfl ?_
  refine ef_getP (k := th) (j := 1) (q := (th + 1)) (eh_F0sh hth) eL_2_9 rfl (eh_Fx hth _) (eh_F1sh hth) (by decide +kernel) ?_
  refine es_blk (pc' := 23) (L' := [some (.ref th), some (.int p0)]) (st' := [.int 11, .ref (th + 1), .ref th]) [(.bipush 11, 11)] (by decide +kernel) rfl rfl ?_
  refine ef_aldc (k := (th + 1)) (j := 11) (eh_F1sh hth) (Or.inl ⟨rfl, rfl⟩) (by decide) rfl (by decide +kernel) ?_
  refine ef_putI (k := th) (j := 11) (eh_F0sh hth) eL_2_56 rfl rfl (by decide +kernel) ?_
  refine ef_V (fun _ => [some (.ref th), some (.int p0)]) (fun _ => []) (fun s3 => eh_FW s3) (fun s3 => ?_)
  refine es_blk (pc' := 29) (L' := [some (.ref th), some (.int p0)]) (st' := [.ref th, .ref th]) [(.aload_n 0, 0), (.aload_n 0, 0)] (by decide +kernel) rfl rfl ?_
  refine ef_getI (k := th) (j := 2) (eh_F0sh hth) eL_2_37 (by decide) (by decide +kernel) ?_
  refine ef_putI (k := th) (j := 12) (eh_F0sh hth) eL_2_59 rfl rfl (by decide +kernel) ?_
  refine ef_V (fun _ => [some (.ref th), some (.int p0)]) (fun _ => []) (fun s4 => eh_FW s4) (fun s4 => ?_)
  refine es_blk (pc' := 37) (L' := [some (.ref th), some (.int p0)]) (st' := [.ref th, .ref th]) [(.aload_n 0, 0), (.aload_n 0, 0)] (by decide +kernel) rfl rfl ?_
  refine ef_getI (k := th) (j := 8) (eh_F0sh hth) eL_2_46 (by decide) (by decide +kernel) ?_
  refine ef_putI (k := th) (j := 13) (eh_F0sh hth) eL_2_62 rfl rfl (by decide +kernel) ?_
  refine ef_V (fun _ => [some (.ref th), some (.int p0)]) (fun _ => []) (fun s5 => eh_FW s5) (fun s5 => ?_)
  refine es_blk (pc' := 44) (L' := [some (.ref th), some (.int p0)]) (st' := [.ref th]) [(.aload_n 0, 0)] (by decide +kernel) rfl rfl ?_
  refine ef_getP (k := th) (j := 1) (q := (th + 1)) (eh_F0sh hth) eL_2_9 rfl (eh_Fx hth _) (eh_F1sh hth) (by decide +kernel) ?_
  refine es_blk (pc' := 50) (L' := [some (.ref th), some (.int p0)]) (st' := [.int p0, .int 10, .ref (th + 1)]) [(.bipush 10, 10), (.iload_n 1, 0)] (by decide +kernel) rfl rfl ?_
  refine ef_astc (k := (th + 1)) (j := 10) (eh_F1sh hth) (by decide) rfl (by decide +kernel) ?_
  refine ef_V (fun _ => [some (.ref th), some (.int p0)]) (fun _ => []) (fun s6 => eh_FW s6) (fun s6 => ?_)
  refine es_blk (pc' := 52) (L' := [some (.ref th), some (.int p0)]) (st' := [.ref th]) [(.aload_n 0, 0)] (by decide +kernel) rfl rfl ?_
  refine ef_getP (k := th) (j := 1) (q := (th + 1)) (eh_F0sh hth) eL_2_9 rfl (eh_Fx hth _) (eh_F1sh hth) (by decide +kernel) ?_
  refine es_blk (pc' := 58) (L' := [some (.ref th), some (.int p0)]) (st' := [.ref th, .int 11, .ref (th + 1)]) [(.bipush 11, 11), (.aload_n 0, 0)] (by decide +kernel) rfl rfl ?_
  refine ef_getI (k := th) (j := 2) (eh_F0sh hth) eL_2_37 (by decide) (by decide +kernel) ?_
  refine ef_astc (k := (th + 1)) (j := 11) (eh_F1sh hth) (by decide) rfl (by decide +kernel) ?_
  refine ef_V (fun _ => [some (.ref th), some (.int p0)]) (fun _ => []) (fun s7 => eh_FW s7) (fun s7 => ?_)
  refine es_blk (pc' := 64) (L' := [some (.ref th), some (.int p0)]) (st' := [.ref th, .ref th]) [(.aload_n 0, 0), (.aload_n 0, 0)] (by decide +kernel) rfl rfl ?_
  refine ef_getI (k := th) (j := 8) (eh_F0sh hth) eL_2_46 (by decide) (by decide +kernel) ?_
  refine ef_putI (k := th) (j := 2) (eh_F0sh hth) eL_2_37 rfl rfl (by decide +kernel) ?_
  refine ef_V (fun _ => [some (.ref th), some (.int p0)]) (fun _ => []) (fun s8 => eh_FW s8) (fun s8 => ?_)
  refine es_blk (pc' := 72) (L' := [some (.ref th), some (.int p0)]) (st' := [.int 0, .ref th]) [(.aload_n 0, 0), (.iconst 0, 0)] (by decide +kernel) rfl rfl ?_
  refine ef_putI (k := th) (j := 8) (eh_F0sh hth) eL_2_46 rfl rfl (by decide +kernel) ?_
  refine ef_V (fun _ => [some (.ref th), some (.int p0)]) (fun _ => []) (fun s9 => eh_FW s9) (fun s9 => ?_)
  exact es_ret rfl rfl rfl ⟨by decide +kernel, rfl⟩ (Nat.le_refl _) (Nat.le_refl _)
def eF_2_goBack (s : eh_F) (th : Nat) (p0 : Int32) : Option (eh_F) := eh_V (eh_tI s (th + 1) 10 (s.1 th 10)) (fun s1 => eh_V (eh_tI s1 (th + 1) 11 (s1.1 th 11)) (fun s2 => eh_V (eh_tI s2 th 2 ((s2.1 th 12) + p0)) (fun s3 => eh_V (eh_tI s3 th 8 (s3.1 th 13)) (fun s4 => eh_V (eh_tI s4 th 9 0) (fun s5 => some s5)))))
set_option maxHeartbeats 4000000 in
set_option maxRecDepth 100000 in
theorem eS_2_goBack (g : eh_P) (s : eh_F) (th : Nat) (p0 : Int32) (hth : eh_okF th = true) : eh_Sim g eM_2_goBack (eh_R 1 0 0) eh_eV 0 0 0 (eh_en 2 [.ref th, .int p0]) [] (eh_FW s) (eF_2_goBack s th p0) := by
  unfold eF_2_goBack
  refine ef_top (L := [some (.ref th), some (.int p0)]) rfl ?_
  refine es_blk (pc' := 1) (L' := [some (.ref th), some (.int p0)]) (st' := [.ref th]) [(.aload_n 0, 0)] (by decide +kernel) rfl rfl ?_
  refine ef_getP (k := th) (j := 1) (q := (th + 1)) (eh_F0sh hth) eL_2_9 rfl (eh_Fx hth _) (eh_F1sh hth) (by decide +kernel) ?_
  refine es_blk (pc' := 7) (L' := [some (.ref th), some (.int p0)]) (st' := [.ref th, .int 10, .ref (th + 1)]) [(.bipush 10, 10), (.aload_n 0, 0)] (by decide +kernel) rfl rfl ?_
  refine ef_getI (k := th) (j := 10) (eh_F0sh hth) eL_2_53 (by decide) (by decide +kernel) ?_
  refine ef_astc (k := (th + 1)) (j := 10) (eh_F1sh hth) (by decide) rfl (by decide +kernel) ?_
  refine ef_V (fun _ => [some (.ref th), some (.int p0)]) (fun _ => []) (fun s1 => eh_FW s1) (fun s1 => ?_)
  refine es_blk (pc' := 12) (L' := [some (.ref th), some (.int p0)]) (st' := [.ref th]) [(.aload_n 0, 0)] (by decide +kernel) rfl rfl ?_
  refine ef_getP (k := th) (j := 1) (q := (th + 1)) (eh_F0sh hth) eL_2_9 rfl (eh_Fx hth _) (eh_F1sh hth) (by decide +kernel) ?_
  refine es_blk (pc' := 18) (L' := [some (.ref th), some (.int p0)]) (st' := [.ref th, .int 11, .ref (th + 1)]) [(.bipush 11, 11), (.aload_n 0, 0)] (by decide +kernel) rfl rfl ?_
  refine ef_getI (k := th) (j := 11) (eh_F0sh hth) eL_2_56 (by decide) (by decide +kernel) ?_
  refine ef_astc (k := (th + 1)) (j := 11) (eh_F1sh hth) (by decide) rfl (by decide +kernel) ?_
  refine ef_V (fun _ => [some (.ref th), some (.int p0)]) (fun _ => []) (fun s2 => eh_FW s2) (fun s2 => ?_)
  refine es_blk (pc' := 24) (L' := [some (.ref th), some (.int p0)]) (st' := [.ref th, .ref th]) [(.aload_n 0, 0), (.aload_n 0, 0)] (by decide +kernel) rfl rfl ?_
  refine ef_getI (k := th) (j := 12) (eh_F0sh hth) eL_2_59 (by decide) (by decide +kernel) ?_
  refine es_blk (pc' := 29) (L' := [some (.ref th), some (.int p0)]) (st' := [.int ((s2.1 th 12) + p0), .ref th]) [(.iload_n 1, 0), (.iadd, 0)] (by decide +kernel) rfl rfl ?_
  refine ef_putI (k := th) (j := 2) (eh_F0sh hth) eL_2_37 rfl rfl (by decide +kernel) ?_
  refine ef_V (fun _ => [some (.ref th), some (.int p0)]) (fun _ => []) (fun s3 => eh_FW s3) (fun s3 => ?_)
  refine es_blk (pc' := 34) (L' := [some (.ref th), some (.int p0)]) (st' := [.ref th, .ref th]) [(.aload_n 0, 0), (.aload_n 0, 0)] (by decide +kernel) rfl rfl ?_
  refine ef_getI (k := th) (j := 13) (eh_F0sh hth) eL_2_62 (by decide) (by decide +kernel) ?_
  refine ef_putI (k := th) (j := 8) (eh_F0sh hth) eL_2_46 rfl rfl (by decide +kernel) ?_
  refine ef_V (fun _ => [some (.ref th), some (.int p0)]) (fun _ => []) (fun s4 => eh_FW s4) (fun s4 => ?_)
  refine es_blk (pc' := 42) (L' := [some (.ref th), some (.int p0)]) (st' := [.int 0, .ref th]) [(.aload_n 0, 0), (.iconst 0, 0)] (by decide +kernel) rfl rfl ?_
  refine ef_putZc (k := th) (j := 9) (eh_F0sh hth) eL_2_49 rfl rfl (by decide) (by decide +kernel) ?_
  refine ef_V (fun _ => [some (.ref th), some (.int p0)]) (fun _ => []) (fun s5 => eh_FW s5) (fun s5 => ?_)
  exact es_ret rfl rfl rfl ⟨by decide +kernel, rfl⟩ (Nat.le_refl _) (Nat.le_refl _)
def eF_3_goOn (s : eh_F) (p0 : Nat) (p1 : Int32) : Option (eh_F) := eh_V (eh_tI s (p0 + 1) 10 p1) (fun s1 => eh_V (eh_tI s1 p0 2 ((s1.1 p0 2) + 4)) (fun s2 => some s2))
set_option maxHeartbeats 4000000 in
set_option maxRecDepth 100000 in
theorem eS_3_goOn (g : eh_P) (s : eh_F) (p0 : Nat) (p1 : Int32) (hp0 : eh_okF p0 = true) : eh_Sim g eM_3_goOn (eh_R 1 0 0) eh_eV 0 0 0 (eh_en 2 [.ref p0, .int p1]) [] (eh_FW s) (eF_3_goOn s p0 p1) := by
  unfold eF_3_goOn
  refine ef_top (L := [some (.ref p0), some (.int p1)]) rfl ?_
  refine es_blk (pc' := 1) (L' := [some (.ref p0), some (.int p1)]) (st' := [.ref p0]) [(.aload_n 0, 0)] (by decide +kernel) rfl rfl ?_
  refine ef_getP (k := p0) (j := 1) (q := (p0 + 1)) (eh_F0sh hp0) eL_3_31 rfl (eh_Fx hp0 _) (eh_F1sh hp0) (by decide +kernel) ?_
  refine es_blk (pc' := 7) (L' := [some (.ref p0), some (.int p1)]) (st' := [.int p1, .int 10, .ref (p0 + 1)]) [(.bipush 10, 10), (.iload_n 1, 0)] (by decide +kernel) rfl rfl ?_
  refine ef_astc (k := (p0 + 1)) (j := 10) (eh_F1sh hp0) (by decide) rfl (by decide +kernel) ?_
  refine ef_V (fun _ => [some (.ref p0), some (.int p1)]) (fun _ => []) (fun s1 => eh_FW s1) (fun s1 => ?_)
  refine es_blk (pc' := 10) (L' := [some (.ref p0), some (.int p1)]) (st' := [.ref p0, .ref p0]) [(.aload_n 0, 0), (.dup, 0)] (by decide +kernel) rfl rfl ?_
  refine ef_getI (k := p0) (j := 2) (eh_F0sh hp0) eL_3_108 (by decide) (by decide +kernel) ?_
  refine es_blk (pc' := 15) (L' := [some (.ref p0), some (.int p1)]) (st' := [.int ((s1.1 p0 2) + 4), .ref p0]) [(.iconst 4, 4), (.iadd, 0)] (by decide +kernel) rfl rfl ?_
  refine ef_putI (k := p0) (j := 2) (eh_F0sh hp0) eL_3_108 rfl rfl (by decide +kernel) ?_
  refine ef_V (fun _ => [some (.ref p0), some (.int p1)]) (fun _ => []) (fun s2 => eh_FW s2) (fun s2 => ?_)
  exact es_ret rfl rfl rfl ⟨by decide +kernel, rfl⟩ (Nat.le_refl _) (Nat.le_refl _)
def eF_3_setHandler (s : eh_F) (p0 : Nat) (p1 : Int32) : Option (Int32 × eh_F) := if (p1 &&& 3) = 0 then (eh_V (eh_tI s p0 8 p1) (fun s2 => some (0, s2))) else (some ((-1), s))
set_option maxHeartbeats 4000000 in
set_option maxRecDepth 100000 in
theorem eS_3_setHandler (g : eh_P) (s : eh_F) (p0 : Nat) (p1 : Int32) (hp0 : eh_okF p0 = true) : eh_Sim g eM_3_setHandler (eh_R 1 0 0) eh_eI 0 0 0 (eh_en 3 [.ref 125, .ref p0, .int p1]) [] (eh_FW s) (eF_3_setHandler s p0 p1) := by
  unfold eF_3_setHandler
  refine ef_top (L := [some (.ref 125), some (.ref p0), some (.int p1)]) rfl ?_
  refine es_blk (pc' := 3) (L' := [some (.ref 125), some (.ref p0), some (.int p1)]) (st' := [.int (p1 &&& 3)]) [(.iload_n 2, 0), (.iconst 3, 3), (.iand, 0)] (by decide +kernel) rfl rfl ?_
  refine es_eq (tgt := 8) (off := (5)) (by decide +kernel) (by decide) (fun h1 => ?_) (fun h1 => ?_)
  · refine es_blk (pc' := 10) (L' := [some (.ref 125), some (.ref p0), some (.int p1)]) (st' := [.int p1, .ref p0]) [(.aload_n 1, 0), (.iload_n 2, 0)] (by decide +kernel) rfl rfl ?_
    refine ef_putI (k := p0) (j := 8) (eh_F0sh hp0) eL_3_234 rfl rfl (by decide +kernel) ?_
    refine ef_V (fun _ => [some (.ref 125), some (.ref p0), some (.int p1)]) (fun _ => []) (fun s2 => eh_FW s2) (fun s2 => ?_)
    refine es_blk (pc' := 14) (L' := [some (.ref 125), some (.ref p0), some (.int p1)]) (st' := [.int 0]) [(.iconst 0, 0)] (by decide +kernel) rfl rfl ?_
    exact es_ret rfl rfl rfl ⟨by decide +kernel, _, rfl, rfl⟩ (Nat.le_refl _) (Nat.le_refl _)
  refine es_blk (pc' := 7) (L' := [some (.ref 125), some (.ref p0), some (.int p1)]) (st' := [.int (-1)]) [(.iconst (-1), (-1))] (by decide +kernel) rfl rfl ?_
  exact es_ret rfl rfl rfl ⟨by decide +kernel, _, rfl, rfl⟩ (Nat.le_refl _) (Nat.le_refl _)
def eF_4_trap (s : eh_F) (th : Nat) (p0 : Int32) (p1 : Int32) : Option (eh_F) := eh_V (eh_tI s th 13 (s.1 th 2)) (fun s1 => eh_V (eh_tI s1 th 14 p0) (fun s2 => eh_V (eh_tI s2 th 15 p1) (fun s3 => eh_V (((s3.1 th 9) &&& (-291)) : Int32) (fun x4 => eh_J (fun (a6 : Int32) => eh_J (fun (a8 : Int32) => eh_V (eh_tI s3 th 9 ((x4 ||| a6) ||| a8)) (fun s9 => eh_V (eh_tI s9 th 3 1) (fun s10 => eh_V (eh_tI s10 th 2 (s10.1 th 11)) (fun s11 => some s11)))) (fun j7 => if (s3.1 th 3) = 1 then (j7 256) else (j7 0))) (fun j5 => if ((s3.1 th 9) &&& 2) = 0 then (j5 0) else (j5 32))))))
set_option maxHeartbeats 4000000 in
set_option maxRecDepth 100000 in
theorem eS_4_trap (g : eh_P) (s : eh_F) (th : Nat) (p0 : Int32) (p1 : Int32) (hth : eh_okH th = true) : eh_Sim g eM_4_trap (eh_R 1 0 0) eh_eV 0 0 0 (eh_en 4 [.ref th, .int p0, .int p1]) [] (eh_FW s) (eF_4_trap s th p0 p1) := by
  unfold eF_4_trap
  refine ef_top (L := [some (.ref th), some (.int p0), some (.int p1), none]) rfl ?_
  refine es_blk (pc' := 2) (L' := [some (.ref th), some (.int p0), some (.int p1), none]) (st' := [.ref th, .ref th]) [(.aload_n 0, 0), (.aload_n 0, 0)] (by decide +kernel) rfl rfl ?_
  refine ef_getI (k := th) (j := 2) (eh_H0sh hth) eL_4_25 (by decide) (by decide +kernel) ?_
  refine ef_putI (k := th) (j := 13) (eh_H0sh hth) eL_4_59 rfl rfl (by decide +kernel) ?_
  refine ef_V (fun _ => [some (.ref th), some (.int p0), some (.int p1), none]) (fun _ => []) (fun s1 => eh_FW s1) (fun s1 => ?_)
  refine es_blk (pc' := 10) (L' := [some (.ref th), some (.int p0), some (.int p1), none]) (st' := [.int p0, .ref th]) [(.aload_n 0, 0), (.iload_n 1, 0)] (by decide +kernel) rfl rfl ?_
  refine ef_putI (k := th) (j := 14) (eh_H0sh hth) eL_4_62 rfl rfl (by decide +kernel) ?_
  refine ef_V (fun _ => [some (.ref th), some (.int p0), some (.int p1), none]) (fun _ => []) (fun s2 => eh_FW s2) (fun s2 => ?_)
  refine es_blk (pc' := 15) (L' := [some (.ref th), some (.int p0), some (.int p1), none]) (st' := [.int p1, .ref th]) [(.aload_n 0, 0), (.iload_n 2, 0)] (by decide +kernel) rfl rfl ?_
  refine ef_putI (k := th) (j := 15) (eh_H0sh hth) eL_4_65 rfl rfl (by decide +kernel) ?_
  refine ef_V (fun _ => [some (.ref th), some (.int p0), some (.int p1), none]) (fun _ => []) (fun s3 => eh_FW s3) (fun s3 => ?_)
  refine es_blk (pc' := 19) (L' := [some (.ref th), some (.int p0), some (.int p1), none]) (st' := [.ref th]) [(.aload_n 0, 0)] (by decide +kernel) rfl rfl ?_
  refine ef_getI (k := th) (j := 9) (eh_H0sh hth) eL_4_47 (by decide) (by decide +kernel) ?_
  refine es_blk (pc' := 27) (L' := [some (.ref th), some (.int p0), some (.int p1), some (.int ((s3.1 th 9) &&& (-291)))]) (st' := []) [(.sipush (-291), (-291)), (.iand, 0), (.istore_n 3, 0)] (by decide +kernel) rfl rfl ?_
  refine ef_V (fun x4 => [some (.ref th), some (.int p0), some (.int p1), some (.int x4)]) (fun _ => []) (fun _ => eh_FW s3) (fun x4 => ?_)
  refine es_blk (pc' := 30) (L' := [some (.ref th), some (.int p0), some (.int p1), some (.int x4)]) (st' := [.ref th, .int x4, .ref th]) [(.aload_n 0, 0), (.iload_n 3, 0), (.aload_n 0, 0)] (by decide +kernel) rfl rfl ?_
  refine ef_getI (k := th) (j := 9) (eh_H0sh hth) eL_4_47 (by decide) (by decide +kernel) ?_
  refine es_blk (pc' := 35) (L' := [some (.ref th), some (.int p0), some (.int p1), some (.int x4)]) (st' := [.int ((s3.1 th 9) &&& 2), .int x4, .ref th]) [(.iconst 2, 2), (.iand, 0)] (by decide +kernel) rfl rfl ?_
  refine ef_J (X := fun j5 => ∀ (a6 : Int32), eh_Sim g eM_4_trap (eh_R 1 0 0) eh_eV 0 0 44 [some (.ref th), none, none, none] [.int a6, .int x4, .ref th] (eh_FW s3) ((j5 a6).bind some)) ?_ (fun j5 Hj5 => ?_)
  · intro a6
    refine es_blk (pc' := 46) (L' := [some (.ref th), none, none, none]) (st' := [.ref th, .int (x4 ||| a6), .ref th]) [(.ior, 0), (.aload_n 0, 0)] (by decide +kernel) rfl rfl ?_
    refine ef_getI (k := th) (j := 3) (eh_H0sh hth) eL_4_28 (by decide) (by decide +kernel) ?_
    refine es_blk (pc' := 50) (L' := [some (.ref th), none, none, none]) (st' := [.int 1, .int (s3.1 th 3), .int (x4 ||| a6), .ref th]) [(.iconst 1, 1)] (by decide +kernel) rfl rfl ?_
    refine ef_J (X := fun j7 => ∀ (a8 : Int32), eh_Sim g eM_4_trap (eh_R 1 0 0) eh_eV 0 0 60 [some (.ref th), none, none, none] [.int a8, .int (x4 ||| a6), .ref th] (eh_FW s3) ((j7 a8).bind some)) ?_ (fun j7 Hj7 => ?_)
    · intro a8
      refine es_blk (pc' := 61) (L' := [some (.ref th), none, none, none]) (st' := [.int ((x4 ||| a6) ||| a8), .ref th]) [(.ior, 0)] (by decide +kernel) rfl rfl ?_
      refine ef_putI (k := th) (j := 9) (eh_H0sh hth) eL_4_47 rfl rfl (by decide +kernel) ?_
      refine ef_V (fun _ => [some (.ref th), none, none, none]) (fun _ => []) (fun s9 => eh_FW s9) (fun s9 => ?_)
      refine es_blk (pc' := 66) (L' := [some (.ref th), none, none, none]) (st' := [.int 1, .ref th]) [(.aload_n 0, 0), (.iconst 1, 1)] (by decide +kernel) rfl rfl ?_
      refine ef_putI (k := th) (j := 3) (eh_H0sh hth) eL_4_28 rfl rfl (by decide +kernel) ?_
      refine ef_V (fun _ => [some (.ref th), none, none, none]) (fun _ => []) (fun s10 => eh_FW s10) (fun s10 => ?_)
      refine es_blk (pc' := 71) (L' := [some (.ref th), none, none, none]) (st' := [.ref th, .ref th]) [(.aload_n 0, 0), (.aload_n 0, 0)] (by decide +kernel) rfl rfl ?_
      refine ef_getI (k := th) (j := 11) (eh_H0sh hth) eL_4_53 (by decide) (by decide +kernel) ?_
      refine ef_putI (k := th) (j := 2) (eh_H0sh hth) eL_4_25 rfl rfl (by decide +kernel) ?_
      refine ef_V (fun _ => [some (.ref th), none, none, none]) (fun _ => []) (fun s11 => eh_FW s11) (fun s11 => ?_)
      exact es_ret rfl rfl rfl ⟨by decide +kernel, rfl⟩ (Nat.le_refl _) (Nat.le_refl _)
    refine es_ine (tgt := 59) (off := (9)) (by decide +kernel) (by decide) (fun h12 => ?_) (fun h12 => ?_)
    · refine es_blk (pc' := 56) (L' := [some (.ref th), none, none, none]) (st' := [.int 256, .int (x4 ||| a6), .ref th]) [(.sipush 256, 256)] (by decide +kernel) rfl rfl ?_
      refine es_goto (tgt := 60) (off := (4)) (by decide +kernel) (by decide) ?_
      exact Hj7 _
    refine es_blk (pc' := 60) (L' := [some (.ref th), none, none, none]) (st' := [.int 0, .int (x4 ||| a6), .ref th]) [(.iconst 0, 0)] (by decide +kernel) rfl rfl ?_
    exact Hj7 _
  refine es_eq (tgt := 43) (off := (8)) (by decide +kernel) (by decide) (fun h13 => ?_) (fun h13 => ?_)
  · refine es_blk (pc' := 44) (L' := [some (.ref th), some (.int p0), some (.int p1), some (.int x4)]) (st' := [.int 0, .int x4, .ref th]) [(.iconst 0, 0)] (by decide +kernel) rfl rfl ?_
    refine ef_drop (L2 := [some (.ref th), none, none, none]) [true, false, false, false] rfl rfl ?_
    exact Hj5 _
  refine es_blk (pc' := 40) (L' := [some (.ref th), some (.int p0), some (.int p1), some (.int x4)]) (st' := [.int 32, .int x4, .ref th]) [(.bipush 32, 32)] (by decide +kernel) rfl rfl ?_
  refine es_goto (tgt := 44) (off := (4)) (by decide +kernel) (by decide) ?_
  refine ef_drop (L2 := [some (.ref th), none, none, none]) [true, false, false, false] rfl rfl ?_
  exact Hj5 _
def eF_4_leaveTrap (s : eh_F) (th : Nat) : Option (eh_F) := eh_J (fun (a2 : Int32) => eh_V (eh_tI s th 3 a2) (fun s3 => eh_V (((s3.1 th 9) &&& (-291)) : Int32) (fun x4 => eh_J (fun (a6 : Int32) => eh_V (eh_tI s3 th 9 ((x4 ||| a6) ||| 32)) (fun s7 => some s7)) (fun j5 => if ((s3.1 th 9) &&& 32) = 0 then (j5 0) else (j5 2))))) (fun j1 => if ((s.1 th 9) &&& 256) = 0 then (j1 0) else (j1 1))
set_option maxHeartbeats 4000000 in
set_option maxRecDepth 100000 in
theorem eS_4_leaveTrap (g : eh_P) (s : eh_F) (th : Nat) (hth : eh_okH th = true) : eh_Sim g eM_4_leaveTrap (eh_R 1 0 0) eh_eV 0 0 0 (eh_en 2 [.ref th]) [] (eh_FW s) (eF_4_leaveTrap s th) := by
  unfold eF_4_leaveTrap
  refine ef_top (L := [some (.ref th), none]) rfl ?_
  refine es_blk (pc' := 2) (L' := [some (.ref th), none]) (st' := [.ref th, .ref th]) [(.aload_n 0, 0), (.aload_n 0, 0)] (by decide +kernel) rfl rfl ?_
  refine ef_getI (k := th) (j := 9) (eh_H0sh hth) eL_4_47 (by decide) (by decide +kernel) ?_
  refine es_blk (pc' := 9) (L' := [some (.ref th), none]) (st' := [.int ((s.1 th 9) &&& 256), .ref th]) [(.sipush 256, 256), (.iand, 0)] (by decide +kernel) rfl rfl ?_
  refine ef_J (X := fun j1 => ∀ (a2 : Int32), eh_Sim g eM_4_leaveTrap (eh_R 1 0 0) eh_eV 0 0 17 [some (.ref th), none] [.int a2, .ref th] (eh_FW s) ((j1 a2).bind some)) ?_ (fun j1 Hj1 => ?_)
  · intro a2
    refine ef_putI (k := th) (j := 3) (eh_H0sh hth) eL_4_28 rfl rfl (by decide +kernel) ?_
    refine ef_V (fun _ => [some (.ref th), none]) (fun _ => []) (fun s3 => eh_FW s3) (fun s3 => ?_)
    refine es_blk (pc' := 21) (L' := [some (.ref th), none]) (st' := [.ref th]) [(.aload_n 0, 0)] (by decide +kernel) rfl rfl ?_
    refine ef_getI (k := th) (j := 9) (eh_H0sh hth) eL_4_47 (by decide) (by decide +kernel) ?_
    refine es_blk (pc' := 29) (L' := [some (.ref th), some (.int ((s3.1 th 9) &&& (-291)))]) (st' := []) [(.sipush (-291), (-291)), (.iand, 0), (.istore_n 1, 0)] (by decide +kernel) rfl rfl ?_
    refine ef_V (fun x4 => [some (.ref th), some (.int x4)]) (fun _ => []) (fun _ => eh_FW s3) (fun x4 => ?_)
    refine es_blk (pc' := 32) (L' := [some (.ref th), some (.int x4)]) (st' := [.ref th, .int x4, .ref th]) [(.aload_n 0, 0), (.iload_n 1, 0), (.aload_n 0, 0)] (by decide +kernel) rfl rfl ?_
    refine ef_getI (k := th) (j := 9) (eh_H0sh hth) eL_4_47 (by decide) (by decide +kernel) ?_
    refine es_blk (pc' := 38) (L' := [some (.ref th), some (.int x4)]) (st' := [.int ((s3.1 th 9) &&& 32), .int x4, .ref th]) [(.bipush 32, 32), (.iand, 0)] (by decide +kernel) rfl rfl ?_
    refine ef_J (X := fun j5 => ∀ (a6 : Int32), eh_Sim g eM_4_leaveTrap (eh_R 1 0 0) eh_eV 0 0 46 [none, none] [.int a6, .int x4, .ref th] (eh_FW s3) ((j5 a6).bind some)) ?_ (fun j5 Hj5 => ?_)
    · intro a6
      refine es_blk (pc' := 50) (L' := [none, none]) (st' := [.int ((x4 ||| a6) ||| 32), .ref th]) [(.ior, 0), (.bipush 32, 32), (.ior, 0)] (by decide +kernel) rfl rfl ?_
      refine ef_putI (k := th) (j := 9) (eh_H0sh hth) eL_4_47 rfl rfl (by decide +kernel) ?_
      refine ef_V (fun _ => [none, none]) (fun _ => []) (fun s7 => eh_FW s7) (fun s7 => ?_)
      exact es_ret rfl rfl rfl ⟨by decide +kernel, rfl⟩ (Nat.le_refl _) (Nat.le_refl _)
    refine es_eq (tgt := 45) (off := (7)) (by decide +kernel) (by decide) (fun h8 => ?_) (fun h8 => ?_)
    · refine es_blk (pc' := 46) (L' := [some (.ref th), some (.int x4)]) (st' := [.int 0, .int x4, .ref th]) [(.iconst 0, 0)] (by decide +kernel) rfl rfl ?_
      refine ef_drop (L2 := [none, none]) [false, false] rfl rfl ?_
      exact Hj5 _
    refine es_blk (pc' := 42) (L' := [some (.ref th), some (.int x4)]) (st' := [.int 2, .int x4, .ref th]) [(.iconst 2, 2)] (by decide +kernel) rfl rfl ?_
    refine es_goto (tgt := 46) (off := (4)) (by decide +kernel) (by decide) ?_
    refine ef_drop (L2 := [none, none]) [false, false] rfl rfl ?_
    exact Hj5 _
  refine es_eq (tgt := 16) (off := (7)) (by decide +kernel) (by decide) (fun h9 => ?_) (fun h9 => ?_)
  · refine es_blk (pc' := 17) (L' := [some (.ref th), none]) (st' := [.int 0, .ref th]) [(.iconst 0, 0)] (by decide +kernel) rfl rfl ?_
    exact Hj1 _
  refine es_blk (pc' := 13) (L' := [some (.ref th), none]) (st' := [.int 1, .ref th]) [(.iconst 1, 1)] (by decide +kernel) rfl rfl ?_
  refine es_goto (tgt := 17) (off := (4)) (by decide +kernel) (by decide) ?_
  exact Hj1 _
def eF_4_raiseSignal (s : eh_F) (th : Nat) : Option (eh_F) := eh_V (eh_tI s th 16 2) (fun s1 => some s1)
set_option maxHeartbeats 4000000 in
set_option maxRecDepth 100000 in
theorem eS_4_raiseSignal (g : eh_P) (s : eh_F) (th : Nat) (hth : eh_okH th = true) : eh_Sim g eM_4_raiseSignal (eh_R 1 0 0) eh_eV 0 0 0 (eh_en 1 [.ref th]) [] (eh_FW s) (eF_4_raiseSignal s th) := by
  unfold eF_4_raiseSignal
  refine ef_top (L := [some (.ref th)]) rfl ?_
  refine es_blk (pc' := 2) (L' := [some (.ref th)]) (st' := [.int 2, .ref th]) [(.aload_n 0, 0), (.iconst 2, 2)] (by decide +kernel) rfl rfl ?_
  refine ef_putI (k := th) (j := 16) (eh_H0sh hth) eL_4_68 rfl rfl (by decide +kernel) ?_
  refine ef_V (fun _ => [some (.ref th)]) (fun _ => []) (fun s1 => eh_FW s1) (fun s1 => ?_)
  exact es_ret rfl rfl rfl ⟨by decide +kernel, rfl⟩ (Nat.le_refl _) (Nat.le_refl _)
def eF_4_maySystemUse (s : eh_F) (p0 : Int32) (p1 : Int32) : Option (Int32) := eh_J (fun (u2 : Unit) => some 1) (fun j1 => eh_J (fun (u4 : Unit) => eh_J (fun (a6 : Int32) => if a6 = 0 ∨ a6 = 1 then some a6 else none) (fun j5 => if p1 = 0 then (j5 1) else (j5 0))) (fun j3 => if p0 = 256 then (j1 ()) else if p0 = 260 then (j1 ()) else if p0 = 261 then (j1 ()) else if p0 = 320 then (j1 ()) else if p0 = 321 then (j1 ()) else if p0 = 322 then (j1 ()) else if p0 = 323 then (j1 ()) else if p0 = 324 then (j1 ()) else if p0 = 333 then (j1 ()) else if p0 = 384 then (j1 ()) else if p0 = 3073 then (j3 ()) else if p0 = 3860 then (j3 ()) else (some 0)))
set_option maxHeartbeats 4000000 in
set_option maxRecDepth 100000 in
theorem eS_4_maySystemUse (g : eh_P) (s : eh_F) (p0 : Int32) (p1 : Int32) : eh_Sim g eM_4_maySystemUse (eh_R 1 0 0) (eh_pI s) 0 0 0 (eh_en 2 [.int p0, .int p1]) [] (eh_FW s) (eF_4_maySystemUse s p0 p1) := by
  unfold eF_4_maySystemUse
  refine ef_top (L := [some (.int p0), some (.int p1)]) rfl ?_
  refine es_blk (pc' := 1) (L' := [some (.int p0), some (.int p1)]) (st' := [.int p0]) [(.iload_n 0, 0)] (by decide +kernel) rfl rfl ?_
  refine ef_J (X := fun j1 => ∀ (u2 : Unit), eh_Sim g eM_4_maySystemUse (eh_R 1 0 0) (eh_pI s) 0 0 108 [none, none] [] (eh_FW s) ((j1 u2).bind some)) ?_ (fun j1 Hj1 => ?_)
  · intro u2
    refine es_blk (pc' := 109) (L' := [none, none]) (st' := [.int 1]) [(.iconst 1, 1)] (by decide +kernel) rfl rfl ?_
    exact es_ret rfl rfl rfl ⟨by decide +kernel, _, rfl, eh_narZ (Or.inr rfl)⟩ (Nat.le_refl _) (Nat.le_refl _)
  refine ef_J (X := fun j3 => ∀ (u4 : Unit), eh_Sim g eM_4_maySystemUse (eh_R 1 0 0) (eh_pI s) 0 0 110 [none, some (.int p1)] [] (eh_FW s) ((j3 u4).bind some)) ?_ (fun j3 Hj3 => ?_)
  · intro u4
    refine es_blk (pc' := 111) (L' := [none, some (.int p1)]) (st' := [.int p1]) [(.iload_n 1, 0)] (by decide +kernel) rfl rfl ?_
    refine ef_J (X := fun j5 => ∀ (a6 : Int32), eh_Sim g eM_4_maySystemUse (eh_R 1 0 0) (eh_pI s) 0 0 119 [none, none] [.int a6] (eh_FW s) ((j5 a6).bind some)) ?_ (fun j5 Hj5 => ?_)
    · intro a6
      refine es_chk (fun h7 => ?_)
      exact es_ret rfl rfl rfl ⟨by decide +kernel, _, rfl, eh_narZ h7⟩ (Nat.le_refl _) (Nat.le_refl _)
    refine es_ne (tgt := 118) (off := (7)) (by decide +kernel) (by decide) (fun h8 => ?_) (fun h8 => ?_)
    · refine es_blk (pc' := 115) (L' := [none, some (.int p1)]) (st' := [.int 1]) [(.iconst 1, 1)] (by decide +kernel) rfl rfl ?_
      refine es_goto (tgt := 119) (off := (4)) (by decide +kernel) (by decide) ?_
      refine ef_drop (L2 := [none, none]) [true, false] rfl rfl ?_
      exact Hj5 _
    refine es_blk (pc' := 119) (L' := [none, some (.int p1)]) (st' := [.int 0]) [(.iconst 0, 0)] (by decide +kernel) rfl rfl ?_
    refine ef_drop (L2 := [none, none]) [true, false] rfl rfl ?_
    exact Hj5 _
  have hs9 : decode eM_4_maySystemUse.2.1 1 = .ok (.lookupswitch (119) #[(256, 107), (260, 107), (261, 107), (320, 107), (321, 107), (322, 107), (323, 107), (324, 107), (333, 107), (384, 107), (3073, 109), (3860, 109)], 107) := by decide +kernel
  refine es_ifc (fun h10 => ?_) (fun h10 => ?_)
  · refine es_lsw (off := (107)) (tgt := 108) hs9 256 h10 (by decide) (by decide) (by decide) ?_
    refine ef_drop (L2 := [none, none]) [false, false] rfl rfl ?_
    exact Hj1 ()
  refine es_ifc (fun h11 => ?_) (fun h11 => ?_)
  · refine es_lsw (off := (107)) (tgt := 108) hs9 260 h11 (by decide) (by decide) (by decide) ?_
    refine ef_drop (L2 := [none, none]) [false, false] rfl rfl ?_
    exact Hj1 ()
  refine es_ifc (fun h12 => ?_) (fun h12 => ?_)
  · refine es_lsw (off := (107)) (tgt := 108) hs9 261 h12 (by decide) (by decide) (by decide) ?_
    refine ef_drop (L2 := [none, none]) [false, false] rfl rfl ?_
    exact Hj1 ()
  refine es_ifc (fun h13 => ?_) (fun h13 => ?_)
  · refine es_lsw (off := (107)) (tgt := 108) hs9 320 h13 (by decide) (by decide) (by decide) ?_
    refine ef_drop (L2 := [none, none]) [false, false] rfl rfl ?_
    exact Hj1 ()
  refine es_ifc (fun h14 => ?_) (fun h14 => ?_)
  · refine es_lsw (off := (107)) (tgt := 108) hs9 321 h14 (by decide) (by decide) (by decide) ?_
    refine ef_drop (L2 := [none, none]) [false, false] rfl rfl ?_
    exact Hj1 ()
  refine es_ifc (fun h15 => ?_) (fun h15 => ?_)
  · refine es_lsw (off := (107)) (tgt := 108) hs9 322 h15 (by decide) (by decide) (by decide) ?_
    refine ef_drop (L2 := [none, none]) [false, false] rfl rfl ?_
    exact Hj1 ()
  refine es_ifc (fun h16 => ?_) (fun h16 => ?_)
  · refine es_lsw (off := (107)) (tgt := 108) hs9 323 h16 (by decide) (by decide) (by decide) ?_
    refine ef_drop (L2 := [none, none]) [false, false] rfl rfl ?_
    exact Hj1 ()
  refine es_ifc (fun h17 => ?_) (fun h17 => ?_)
  · refine es_lsw (off := (107)) (tgt := 108) hs9 324 h17 (by decide) (by decide) (by decide) ?_
    refine ef_drop (L2 := [none, none]) [false, false] rfl rfl ?_
    exact Hj1 ()
  refine es_ifc (fun h18 => ?_) (fun h18 => ?_)
  · refine es_lsw (off := (107)) (tgt := 108) hs9 333 h18 (by decide) (by decide) (by decide) ?_
    refine ef_drop (L2 := [none, none]) [false, false] rfl rfl ?_
    exact Hj1 ()
  refine es_ifc (fun h19 => ?_) (fun h19 => ?_)
  · refine es_lsw (off := (107)) (tgt := 108) hs9 384 h19 (by decide) (by decide) (by decide) ?_
    refine ef_drop (L2 := [none, none]) [false, false] rfl rfl ?_
    exact Hj1 ()
  refine es_ifc (fun h20 => ?_) (fun h20 => ?_)
  · refine es_lsw (off := (109)) (tgt := 110) hs9 3073 h20 (by decide) (by decide) (by decide) ?_
    refine ef_drop (L2 := [none, some (.int p1)]) [false, true] rfl rfl ?_
    exact Hj3 ()
  refine es_ifc (fun h21 => ?_) (fun h21 => ?_)
  · refine es_lsw (off := (109)) (tgt := 110) hs9 3860 h21 (by decide) (by decide) (by decide) ?_
    refine ef_drop (L2 := [none, some (.int p1)]) [false, true] rfl rfl ?_
    exact Hj3 ()
  refine es_lswD (tgt := 120) hs9 [256, 260, 261, 320, 321, 322, 323, 324, 333, 384, 3073, 3860] (List.forall_mem_cons.mpr ⟨eh_nei 256 256 (by decide) h10, (List.forall_mem_cons.mpr ⟨eh_nei 260 260 (by decide) h11, (List.forall_mem_cons.mpr ⟨eh_nei 261 261 (by decide) h12, (List.forall_mem_cons.mpr ⟨eh_nei 320 320 (by decide) h13, (List.forall_mem_cons.mpr ⟨eh_nei 321 321 (by decide) h14, (List.forall_mem_cons.mpr ⟨eh_nei 322 322 (by decide) h15, (List.forall_mem_cons.mpr ⟨eh_nei 323 323 (by decide) h16, (List.forall_mem_cons.mpr ⟨eh_nei 324 324 (by decide) h17, (List.forall_mem_cons.mpr ⟨eh_nei 333 333 (by decide) h18, (List.forall_mem_cons.mpr ⟨eh_nei 384 384 (by decide) h19, (List.forall_mem_cons.mpr ⟨eh_nei 3073 3073 (by decide) h20, (List.forall_mem_cons.mpr ⟨eh_nei 3860 3860 (by decide) h21, (List.forall_mem_nil _)⟩)⟩)⟩)⟩)⟩)⟩)⟩)⟩)⟩)⟩)⟩)⟩) (by decide) (by decide) (by decide) ?_
  refine es_blk (pc' := 121) (L' := [some (.int p0), some (.int p1)]) (st' := [.int 0]) [(.iconst 0, 0)] (by decide +kernel) rfl rfl ?_
  exact es_ret rfl rfl rfl ⟨by decide +kernel, _, rfl, eh_narZ (Or.inl rfl)⟩ (Nat.le_refl _) (Nat.le_refl _)
def eF_4_writeControl (s : eh_F) (th : Nat) (p0 : Int32) (p1 : Int32) : Option (eh_F) := eh_J (fun (s2 : eh_F) => some s2) (fun j1 => if p0 = 256 then (eh_V (eh_tI s th 9 (p1 &&& 786722)) (fun s5 => j1 s5)) else if p0 = 260 then (eh_V (eh_tI s th 10 (p1 &&& 546)) (fun s7 => j1 s7)) else if p0 = 261 then (eh_V (eh_tI s th 11 (p1 &&& (-4))) (fun s9 => j1 s9)) else if p0 = 320 then (eh_V (eh_tI s th 12 p1) (fun s11 => j1 s11)) else if p0 = 321 then (eh_V (eh_tI s th 13 (p1 &&& (-4))) (fun s13 => j1 s13)) else if p0 = 322 then (eh_V (eh_tI s th 14 p1) (fun s15 => j1 s15)) else if p0 = 323 then (eh_V (eh_tI s th 15 p1) (fun s17 => j1 s17)) else if p0 = 324 then (eh_V (eh_tI s th 16 (p1 &&& 2)) (fun s19 => j1 s19)) else if p0 = 333 then (eh_V (eh_tI s th 17 p1) (fun s21 => j1 s21)) else if p0 = 384 then (eh_V (eh_tI s th 18 (p1 &&& (-2143289345))) (fun s23 => j1 s23)) else (j1 s))
set_option maxHeartbeats 4000000 in
set_option maxRecDepth 100000 in
theorem eS_4_writeControl (g : eh_P) (s : eh_F) (th : Nat) (p0 : Int32) (p1 : Int32) (hth : eh_okH th = true) : eh_Sim g eM_4_writeControl (eh_R 1 0 0) eh_eV 0 0 0 (eh_en 3 [.ref th, .int p0, .int p1]) [] (eh_FW s) (eF_4_writeControl s th p0 p1) := by
  unfold eF_4_writeControl
  refine ef_top (L := [some (.ref th), some (.int p0), some (.int p1)]) rfl ?_
  refine es_blk (pc' := 1) (L' := [some (.ref th), some (.int p0), some (.int p1)]) (st' := [.int p0]) [(.iload_n 1, 0)] (by decide +kernel) rfl rfl ?_
  refine ef_J (X := fun j1 => ∀ (s2 : eh_F), eh_Sim g eM_4_writeControl (eh_R 1 0 0) eh_eV 0 0 190 [none, none, none] [] (eh_FW s2) ((j1 s2).bind some)) ?_ (fun j1 Hj1 => ?_)
  · intro s2
    exact es_ret rfl rfl rfl ⟨by decide +kernel, rfl⟩ (Nat.le_refl _) (Nat.le_refl _)
  have hs3 : decode eM_4_writeControl.2.1 1 = .ok (.lookupswitch (189) #[(256, 91), (260, 102), (261, 114), (320, 125), (321, 133), (322, 144), (323, 152), (324, 160), (333, 170), (384, 178)], 91) := by decide +kernel
  refine es_ifc (fun h4 => ?_) (fun h4 => ?_)
  · refine es_lsw (off := (91)) (tgt := 92) hs3 256 h4 (by decide) (by decide) (by decide) ?_
    refine es_blk (pc' := 94) (L' := [some (.ref th), some (.int p0), some (.int p1)]) (st' := [.int p1, .ref th]) [(.aload_n 0, 0), (.iload_n 2, 0)] (by decide +kernel) rfl rfl ?_
    refine es_ldc (v := 786722) eC_4_94 (by decide +kernel) ?_
    refine es_blk (pc' := 97) (L' := [some (.ref th), some (.int p0), some (.int p1)]) (st' := [.int (p1 &&& 786722), .ref th]) [(.iand, 0)] (by decide +kernel) rfl rfl ?_
    refine ef_putI (k := th) (j := 9) (eh_H0sh hth) eL_4_47 rfl rfl (by decide +kernel) ?_
    refine ef_V (fun _ => [some (.ref th), some (.int p0), some (.int p1)]) (fun _ => []) (fun s5 => eh_FW s5) (fun s5 => ?_)
    refine es_goto (tgt := 190) (off := (90)) (by decide +kernel) (by decide) ?_
    refine ef_drop (L2 := [none, none, none]) [false, false, false] rfl rfl ?_
    exact Hj1 _
  refine es_ifc (fun h6 => ?_) (fun h6 => ?_)
  · refine es_lsw (off := (102)) (tgt := 103) hs3 260 h6 (by decide) (by decide) (by decide) ?_
    refine es_blk (pc' := 109) (L' := [some (.ref th), some (.int p0), some (.int p1)]) (st' := [.int (p1 &&& 546), .ref th]) [(.aload_n 0, 0), (.iload_n 2, 0), (.sipush 546, 546), (.iand, 0)] (by decide +kernel) rfl rfl ?_
    refine ef_putI (k := th) (j := 10) (eh_H0sh hth) eL_4_50 rfl rfl (by decide +kernel) ?_
    refine ef_V (fun _ => [some (.ref th), some (.int p0), some (.int p1)]) (fun _ => []) (fun s7 => eh_FW s7) (fun s7 => ?_)
    refine es_goto (tgt := 190) (off := (78)) (by decide +kernel) (by decide) ?_
    refine ef_drop (L2 := [none, none, none]) [false, false, false] rfl rfl ?_
    exact Hj1 _
  refine es_ifc (fun h8 => ?_) (fun h8 => ?_)
  · refine es_lsw (off := (114)) (tgt := 115) hs3 261 h8 (by decide) (by decide) (by decide) ?_
    refine es_blk (pc' := 120) (L' := [some (.ref th), some (.int p0), some (.int p1)]) (st' := [.int (p1 &&& (-4)), .ref th]) [(.aload_n 0, 0), (.iload_n 2, 0), (.bipush (-4), (-4)), (.iand, 0)] (by decide +kernel) rfl rfl ?_
    refine ef_putI (k := th) (j := 11) (eh_H0sh hth) eL_4_53 rfl rfl (by decide +kernel) ?_
    refine ef_V (fun _ => [some (.ref th), some (.int p0), some (.int p1)]) (fun _ => []) (fun s9 => eh_FW s9) (fun s9 => ?_)
    refine es_goto (tgt := 190) (off := (67)) (by decide +kernel) (by decide) ?_
    refine ef_drop (L2 := [none, none, none]) [false, false, false] rfl rfl ?_
    exact Hj1 _
  refine es_ifc (fun h10 => ?_) (fun h10 => ?_)
  · refine es_lsw (off := (125)) (tgt := 126) hs3 320 h10 (by decide) (by decide) (by decide) ?_
    refine es_blk (pc' := 128) (L' := [some (.ref th), some (.int p0), some (.int p1)]) (st' := [.int p1, .ref th]) [(.aload_n 0, 0), (.iload_n 2, 0)] (by decide +kernel) rfl rfl ?_
    refine ef_putI (k := th) (j := 12) (eh_H0sh hth) eL_4_56 rfl rfl (by decide +kernel) ?_
    refine ef_V (fun _ => [some (.ref th), some (.int p0), some (.int p1)]) (fun _ => []) (fun s11 => eh_FW s11) (fun s11 => ?_)
    refine es_goto (tgt := 190) (off := (59)) (by decide +kernel) (by decide) ?_
    refine ef_drop (L2 := [none, none, none]) [false, false, false] rfl rfl ?_
    exact Hj1 _
  refine es_ifc (fun h12 => ?_) (fun h12 => ?_)
  · refine es_lsw (off := (133)) (tgt := 134) hs3 321 h12 (by decide) (by decide) (by decide) ?_
    refine es_blk (pc' := 139) (L' := [some (.ref th), some (.int p0), some (.int p1)]) (st' := [.int (p1 &&& (-4)), .ref th]) [(.aload_n 0, 0), (.iload_n 2, 0), (.bipush (-4), (-4)), (.iand, 0)] (by decide +kernel) rfl rfl ?_
    refine ef_putI (k := th) (j := 13) (eh_H0sh hth) eL_4_59 rfl rfl (by decide +kernel) ?_
    refine ef_V (fun _ => [some (.ref th), some (.int p0), some (.int p1)]) (fun _ => []) (fun s13 => eh_FW s13) (fun s13 => ?_)
    refine es_goto (tgt := 190) (off := (48)) (by decide +kernel) (by decide) ?_
    refine ef_drop (L2 := [none, none, none]) [false, false, false] rfl rfl ?_
    exact Hj1 _
  refine es_ifc (fun h14 => ?_) (fun h14 => ?_)
  · refine es_lsw (off := (144)) (tgt := 145) hs3 322 h14 (by decide) (by decide) (by decide) ?_
    refine es_blk (pc' := 147) (L' := [some (.ref th), some (.int p0), some (.int p1)]) (st' := [.int p1, .ref th]) [(.aload_n 0, 0), (.iload_n 2, 0)] (by decide +kernel) rfl rfl ?_
    refine ef_putI (k := th) (j := 14) (eh_H0sh hth) eL_4_62 rfl rfl (by decide +kernel) ?_
    refine ef_V (fun _ => [some (.ref th), some (.int p0), some (.int p1)]) (fun _ => []) (fun s15 => eh_FW s15) (fun s15 => ?_)
    refine es_goto (tgt := 190) (off := (40)) (by decide +kernel) (by decide) ?_
    refine ef_drop (L2 := [none, none, none]) [false, false, false] rfl rfl ?_
    exact Hj1 _
  refine es_ifc (fun h16 => ?_) (fun h16 => ?_)
  · refine es_lsw (off := (152)) (tgt := 153) hs3 323 h16 (by decide) (by decide) (by decide) ?_
    refine es_blk (pc' := 155) (L' := [some (.ref th), some (.int p0), some (.int p1)]) (st' := [.int p1, .ref th]) [(.aload_n 0, 0), (.iload_n 2, 0)] (by decide +kernel) rfl rfl ?_
    refine ef_putI (k := th) (j := 15) (eh_H0sh hth) eL_4_65 rfl rfl (by decide +kernel) ?_
    refine ef_V (fun _ => [some (.ref th), some (.int p0), some (.int p1)]) (fun _ => []) (fun s17 => eh_FW s17) (fun s17 => ?_)
    refine es_goto (tgt := 190) (off := (32)) (by decide +kernel) (by decide) ?_
    refine ef_drop (L2 := [none, none, none]) [false, false, false] rfl rfl ?_
    exact Hj1 _
  refine es_ifc (fun h18 => ?_) (fun h18 => ?_)
  · refine es_lsw (off := (160)) (tgt := 161) hs3 324 h18 (by decide) (by decide) (by decide) ?_
    refine es_blk (pc' := 165) (L' := [some (.ref th), some (.int p0), some (.int p1)]) (st' := [.int (p1 &&& 2), .ref th]) [(.aload_n 0, 0), (.iload_n 2, 0), (.iconst 2, 2), (.iand, 0)] (by decide +kernel) rfl rfl ?_
    refine ef_putI (k := th) (j := 16) (eh_H0sh hth) eL_4_68 rfl rfl (by decide +kernel) ?_
    refine ef_V (fun _ => [some (.ref th), some (.int p0), some (.int p1)]) (fun _ => []) (fun s19 => eh_FW s19) (fun s19 => ?_)
    refine es_goto (tgt := 190) (off := (22)) (by decide +kernel) (by decide) ?_
    refine ef_drop (L2 := [none, none, none]) [false, false, false] rfl rfl ?_
    exact Hj1 _
  refine es_ifc (fun h20 => ?_) (fun h20 => ?_)
  · refine es_lsw (off := (170)) (tgt := 171) hs3 333 h20 (by decide) (by decide) (by decide) ?_
    refine es_blk (pc' := 173) (L' := [some (.ref th), some (.int p0), some (.int p1)]) (st' := [.int p1, .ref th]) [(.aload_n 0, 0), (.iload_n 2, 0)] (by decide +kernel) rfl rfl ?_
    refine ef_putI (k := th) (j := 17) (eh_H0sh hth) eL_4_71 rfl rfl (by decide +kernel) ?_
    refine ef_V (fun _ => [some (.ref th), some (.int p0), some (.int p1)]) (fun _ => []) (fun s21 => eh_FW s21) (fun s21 => ?_)
    refine es_goto (tgt := 190) (off := (14)) (by decide +kernel) (by decide) ?_
    refine ef_drop (L2 := [none, none, none]) [false, false, false] rfl rfl ?_
    exact Hj1 _
  refine es_ifc (fun h22 => ?_) (fun h22 => ?_)
  · refine es_lsw (off := (178)) (tgt := 179) hs3 384 h22 (by decide) (by decide) (by decide) ?_
    refine es_blk (pc' := 181) (L' := [some (.ref th), some (.int p0), some (.int p1)]) (st' := [.int p1, .ref th]) [(.aload_n 0, 0), (.iload_n 2, 0)] (by decide +kernel) rfl rfl ?_
    refine es_ldc (v := (-2143289345)) eC_4_95 (by decide +kernel) ?_
    refine es_blk (pc' := 184) (L' := [some (.ref th), some (.int p0), some (.int p1)]) (st' := [.int (p1 &&& (-2143289345)), .ref th]) [(.iand, 0)] (by decide +kernel) rfl rfl ?_
    refine ef_putI (k := th) (j := 18) (eh_H0sh hth) eL_4_74 rfl rfl (by decide +kernel) ?_
    refine ef_V (fun _ => [some (.ref th), some (.int p0), some (.int p1)]) (fun _ => []) (fun s23 => eh_FW s23) (fun s23 => ?_)
    refine es_goto (tgt := 190) (off := (3)) (by decide +kernel) (by decide) ?_
    refine ef_drop (L2 := [none, none, none]) [false, false, false] rfl rfl ?_
    exact Hj1 _
  refine es_lswD (tgt := 190) hs3 [256, 260, 261, 320, 321, 322, 323, 324, 333, 384] (List.forall_mem_cons.mpr ⟨eh_nei 256 256 (by decide) h4, (List.forall_mem_cons.mpr ⟨eh_nei 260 260 (by decide) h6, (List.forall_mem_cons.mpr ⟨eh_nei 261 261 (by decide) h8, (List.forall_mem_cons.mpr ⟨eh_nei 320 320 (by decide) h10, (List.forall_mem_cons.mpr ⟨eh_nei 321 321 (by decide) h12, (List.forall_mem_cons.mpr ⟨eh_nei 322 322 (by decide) h14, (List.forall_mem_cons.mpr ⟨eh_nei 323 323 (by decide) h16, (List.forall_mem_cons.mpr ⟨eh_nei 324 324 (by decide) h18, (List.forall_mem_cons.mpr ⟨eh_nei 333 333 (by decide) h20, (List.forall_mem_cons.mpr ⟨eh_nei 384 384 (by decide) h22, (List.forall_mem_nil _)⟩)⟩)⟩)⟩)⟩)⟩)⟩)⟩)⟩)⟩) (by decide) (by decide) (by decide) ?_
  refine ef_drop (L2 := [none, none, none]) [false, false, false] rfl rfl ?_
  exact Hj1 _
def eF_5_hasEnclave (s : eh_F) (p0 : Int32) : Option (Int32) := eh_J (fun (a2 : Int32) => if a2 = 0 ∨ a2 = 1 then some a2 else none) (fun j1 => eh_J (fun (u5 : Unit) => j1 0) (fun j4 => if p0 < 0 then (j4 ()) else (if p0 < 6 then (if eh_in p0 6 then if (s.1 (eh_ep p0) 5) = 0 then (j4 ()) else (j1 1) else none) else (j4 ()))))
set_option maxHeartbeats 4000000 in
set_option maxRecDepth 100000 in
theorem eS_5_hasEnclave (g : eh_P) (s : eh_F) (p0 : Int32) : eh_Sim g eM_5_hasEnclave (eh_R 1 0 0) (eh_pI s) 0 0 0 (eh_en 2 [.ref 1, .int p0]) [] (eh_FW s) (eF_5_hasEnclave s p0) := by
  unfold eF_5_hasEnclave
  refine ef_top (L := [some (.ref 1), some (.int p0)]) rfl ?_
  refine es_blk (pc' := 1) (L' := [some (.ref 1), some (.int p0)]) (st' := [.int p0]) [(.iload_n 1, 0)] (by decide +kernel) rfl rfl ?_
  refine ef_J (X := fun j1 => ∀ (a2 : Int32), eh_Sim g eM_5_hasEnclave (eh_R 1 0 0) (eh_pI s) 0 0 27 [none, none] [.int a2] (eh_FW s) ((j1 a2).bind some)) ?_ (fun j1 Hj1 => ?_)
  · intro a2
    refine es_chk (fun h3 => ?_)
    exact es_ret rfl rfl rfl ⟨by decide +kernel, _, rfl, eh_narZ h3⟩ (Nat.le_refl _) (Nat.le_refl _)
  refine ef_J (X := fun j4 => ∀ (u5 : Unit), eh_Sim g eM_5_hasEnclave (eh_R 1 0 0) (eh_pI s) 0 0 26 [none, none] [] (eh_FW s) ((j4 u5).bind some)) ?_ (fun j4 Hj4 => ?_)
  · intro u5
    refine es_blk (pc' := 27) (L' := [none, none]) (st' := [.int 0]) [(.iconst 0, 0)] (by decide +kernel) rfl rfl ?_
    exact Hj1 _
  refine es_lt (tgt := 26) (off := (25)) (by decide +kernel) (by decide) (fun h6 => ?_) (fun h6 => ?_)
  · refine ef_drop (L2 := [none, none]) [false, false] rfl rfl ?_
    exact Hj4 ()
  refine es_blk (pc' := 7) (L' := [some (.ref 1), some (.int p0)]) (st' := [.int 6, .int p0]) [(.iload_n 1, 0), (.bipush 6, 6)] (by decide +kernel) rfl rfl ?_
  refine es_ige (tgt := 26) (off := (19)) (by decide +kernel) (by decide) (fun h7 => ?_) (fun h7 => ?_)
  · refine es_blk (pc' := 11) (L' := [some (.ref 1), some (.int p0)]) (st' := [.ref 1]) [(.aload_n 0, 0)] (by decide +kernel) rfl rfl ?_
    refine ef_getP (k := 1) (j := 4) (q := 28) rfl eL_5_39 rfl rfl rfl (by decide +kernel) ?_
    refine es_blk (pc' := 15) (L' := [some (.ref 1), some (.int p0)]) (st' := [.int p0, .ref 28]) [(.iload_n 1, 0)] (by decide +kernel) rfl rfl ?_
    refine ef_encs (by decide +kernel) (fun h8 => ?_)
    refine ef_getI (k := (eh_ep p0)) (j := 5) (eh_E0sh h8) eL_5_103 (by decide) (by decide +kernel) ?_
    refine es_eq (tgt := 26) (off := (7)) (by decide +kernel) (by decide) (fun h9 => ?_) (fun h9 => ?_)
    · refine ef_drop (L2 := [none, none]) [false, false] rfl rfl ?_
      exact Hj4 ()
    refine es_blk (pc' := 23) (L' := [some (.ref 1), some (.int p0)]) (st' := [.int 1]) [(.iconst 1, 1)] (by decide +kernel) rfl rfl ?_
    refine es_goto (tgt := 27) (off := (4)) (by decide +kernel) (by decide) ?_
    refine ef_drop (L2 := [none, none]) [false, false] rfl rfl ?_
    exact Hj1 _
  refine ef_drop (L2 := [none, none]) [false, false] rfl rfl ?_
  exact Hj4 ()
def eF_5_hasFibre (s : eh_F) (p0 : Int32) : Option (Int32) := eh_J (fun (a2 : Int32) => if a2 = 0 ∨ a2 = 1 then some a2 else none) (fun j1 => eh_J (fun (u5 : Unit) => j1 0) (fun j4 => if p0 < 0 then (j4 ()) else (if p0 < 12 then (if eh_in p0 12 then if (s.1 (eh_fp p0) 6) = 0 then (j4 ()) else (j1 1) else none) else (j4 ()))))
set_option maxHeartbeats 4000000 in
set_option maxRecDepth 100000 in
theorem eS_5_hasFibre (g : eh_P) (s : eh_F) (p0 : Int32) : eh_Sim g eM_5_hasFibre (eh_R 1 0 0) (eh_pI s) 0 0 0 (eh_en 2 [.ref 1, .int p0]) [] (eh_FW s) (eF_5_hasFibre s p0) := by
  unfold eF_5_hasFibre
  refine ef_top (L := [some (.ref 1), some (.int p0)]) rfl ?_
  refine es_blk (pc' := 1) (L' := [some (.ref 1), some (.int p0)]) (st' := [.int p0]) [(.iload_n 1, 0)] (by decide +kernel) rfl rfl ?_
  refine ef_J (X := fun j1 => ∀ (a2 : Int32), eh_Sim g eM_5_hasFibre (eh_R 1 0 0) (eh_pI s) 0 0 27 [none, none] [.int a2] (eh_FW s) ((j1 a2).bind some)) ?_ (fun j1 Hj1 => ?_)
  · intro a2
    refine es_chk (fun h3 => ?_)
    exact es_ret rfl rfl rfl ⟨by decide +kernel, _, rfl, eh_narZ h3⟩ (Nat.le_refl _) (Nat.le_refl _)
  refine ef_J (X := fun j4 => ∀ (u5 : Unit), eh_Sim g eM_5_hasFibre (eh_R 1 0 0) (eh_pI s) 0 0 26 [none, none] [] (eh_FW s) ((j4 u5).bind some)) ?_ (fun j4 Hj4 => ?_)
  · intro u5
    refine es_blk (pc' := 27) (L' := [none, none]) (st' := [.int 0]) [(.iconst 0, 0)] (by decide +kernel) rfl rfl ?_
    exact Hj1 _
  refine es_lt (tgt := 26) (off := (25)) (by decide +kernel) (by decide) (fun h6 => ?_) (fun h6 => ?_)
  · refine ef_drop (L2 := [none, none]) [false, false] rfl rfl ?_
    exact Hj4 ()
  refine es_blk (pc' := 7) (L' := [some (.ref 1), some (.int p0)]) (st' := [.int 12, .int p0]) [(.iload_n 1, 0), (.bipush 12, 12)] (by decide +kernel) rfl rfl ?_
  refine es_ige (tgt := 26) (off := (19)) (by decide +kernel) (by decide) (fun h7 => ?_) (fun h7 => ?_)
  · refine es_blk (pc' := 11) (L' := [some (.ref 1), some (.int p0)]) (st' := [.ref 1]) [(.aload_n 0, 0)] (by decide +kernel) rfl rfl ?_
    refine ef_getP (k := 1) (j := 3) (q := 27) rfl eL_5_33 rfl rfl rfl (by decide +kernel) ?_
    refine es_blk (pc' := 15) (L' := [some (.ref 1), some (.int p0)]) (st' := [.int p0, .ref 27]) [(.iload_n 1, 0)] (by decide +kernel) rfl rfl ?_
    refine ef_fibres (by decide +kernel) (fun h8 => ?_)
    refine ef_getI (k := (eh_fp p0)) (j := 6) (eh_F0sh h8) eL_5_99 (by decide) (by decide +kernel) ?_
    refine es_eq (tgt := 26) (off := (7)) (by decide +kernel) (by decide) (fun h9 => ?_) (fun h9 => ?_)
    · refine ef_drop (L2 := [none, none]) [false, false] rfl rfl ?_
      exact Hj4 ()
    refine es_blk (pc' := 23) (L' := [some (.ref 1), some (.int p0)]) (st' := [.int 1]) [(.iconst 1, 1)] (by decide +kernel) rfl rfl ?_
    refine es_goto (tgt := 27) (off := (4)) (by decide +kernel) (by decide) ?_
    refine ef_drop (L2 := [none, none]) [false, false] rfl rfl ?_
    exact Hj1 _
  refine ef_drop (L2 := [none, none]) [false, false] rfl rfl ?_
  exact Hj4 ()
def eF_5_hasRegion (s : eh_F) (p0 : Int32) : Option (Int32) := eh_J (fun (a2 : Int32) => if a2 = 0 ∨ a2 = 1 then some a2 else none) (fun j1 => eh_J (fun (u5 : Unit) => j1 0) (fun j4 => if p0 < 0 then (j4 ()) else (if p0 < 12 then (if eh_in p0 12 then if (s.1 3 (eh_ix p0)) = 0 then (j4 ()) else (j1 1) else none) else (j4 ()))))
set_option maxHeartbeats 4000000 in
set_option maxRecDepth 100000 in
theorem eS_5_hasRegion (g : eh_P) (s : eh_F) (p0 : Int32) : eh_Sim g eM_5_hasRegion (eh_R 1 0 0) (eh_pI s) 0 0 0 (eh_en 2 [.ref 1, .int p0]) [] (eh_FW s) (eF_5_hasRegion s p0) := by
  unfold eF_5_hasRegion
  refine ef_top (L := [some (.ref 1), some (.int p0)]) rfl ?_
  refine es_blk (pc' := 1) (L' := [some (.ref 1), some (.int p0)]) (st' := [.int p0]) [(.iload_n 1, 0)] (by decide +kernel) rfl rfl ?_
  refine ef_J (X := fun j1 => ∀ (a2 : Int32), eh_Sim g eM_5_hasRegion (eh_R 1 0 0) (eh_pI s) 0 0 27 [none, none] [.int a2] (eh_FW s) ((j1 a2).bind some)) ?_ (fun j1 Hj1 => ?_)
  · intro a2
    refine es_chk (fun h3 => ?_)
    exact es_ret rfl rfl rfl ⟨by decide +kernel, _, rfl, eh_narZ h3⟩ (Nat.le_refl _) (Nat.le_refl _)
  refine ef_J (X := fun j4 => ∀ (u5 : Unit), eh_Sim g eM_5_hasRegion (eh_R 1 0 0) (eh_pI s) 0 0 26 [none, none] [] (eh_FW s) ((j4 u5).bind some)) ?_ (fun j4 Hj4 => ?_)
  · intro u5
    refine es_blk (pc' := 27) (L' := [none, none]) (st' := [.int 0]) [(.iconst 0, 0)] (by decide +kernel) rfl rfl ?_
    exact Hj1 _
  refine es_lt (tgt := 26) (off := (25)) (by decide +kernel) (by decide) (fun h6 => ?_) (fun h6 => ?_)
  · refine ef_drop (L2 := [none, none]) [false, false] rfl rfl ?_
    exact Hj4 ()
  refine es_blk (pc' := 7) (L' := [some (.ref 1), some (.int p0)]) (st' := [.int 12, .int p0]) [(.iload_n 1, 0), (.bipush 12, 12)] (by decide +kernel) rfl rfl ?_
  refine es_ige (tgt := 26) (off := (19)) (by decide +kernel) (by decide) (fun h7 => ?_) (fun h7 => ?_)
  · refine es_blk (pc' := 11) (L' := [some (.ref 1), some (.int p0)]) (st' := [.ref 1]) [(.aload_n 0, 0)] (by decide +kernel) rfl rfl ?_
    refine ef_getP (k := 1) (j := 0) (q := 2) rfl eL_5_12 rfl rfl rfl (by decide +kernel) ?_
    refine ef_getP (k := 2) (j := 0) (q := 3) rfl eL_5_127 rfl rfl rfl (by decide +kernel) ?_
    refine es_blk (pc' := 18) (L' := [some (.ref 1), some (.int p0)]) (st' := [.int p0, .ref 3]) [(.iload_n 1, 0)] (by decide +kernel) rfl rfl ?_
    refine ef_ald (k := 3) rfl (Or.inl ⟨rfl, rfl⟩) (by decide +kernel) (fun _ => ?_)
    refine es_eq (tgt := 26) (off := (7)) (by decide +kernel) (by decide) (fun h8 => ?_) (fun h8 => ?_)
    · refine ef_drop (L2 := [none, none]) [false, false] rfl rfl ?_
      exact Hj4 ()
    refine es_blk (pc' := 23) (L' := [some (.ref 1), some (.int p0)]) (st' := [.int 1]) [(.iconst 1, 1)] (by decide +kernel) rfl rfl ?_
    refine es_goto (tgt := 27) (off := (4)) (by decide +kernel) (by decide) ?_
    refine ef_drop (L2 := [none, none]) [false, false] rfl rfl ?_
    exact Hj1 _
  refine ef_drop (L2 := [none, none]) [false, false] rfl rfl ?_
  exact Hj4 ()
def eF_5_baseOf (s : eh_F) (p0 : Int32) : Option (Int32) := if eh_in p0 6 then if eh_in (s.1 (eh_ep p0) 6) 12 then some (s.1 4 (eh_ix (s.1 (eh_ep p0) 6))) else none else none
set_option maxHeartbeats 4000000 in
set_option maxRecDepth 100000 in
theorem eS_5_baseOf (g : eh_P) (s : eh_F) (p0 : Int32) : eh_Sim g eM_5_baseOf (eh_R 1 0 0) (eh_pI s) 0 0 0 (eh_en 2 [.ref 1, .int p0]) [] (eh_FW s) (eF_5_baseOf s p0) := by
  unfold eF_5_baseOf
  refine ef_top (L := [some (.ref 1), some (.int p0)]) rfl ?_
  refine es_blk (pc' := 1) (L' := [some (.ref 1), some (.int p0)]) (st' := [.ref 1]) [(.aload_n 0, 0)] (by decide +kernel) rfl rfl ?_
  refine ef_getP (k := 1) (j := 0) (q := 2) rfl eL_5_12 rfl rfl rfl (by decide +kernel) ?_
  refine ef_getP (k := 2) (j := 1) (q := 4) rfl eL_5_130 rfl rfl rfl (by decide +kernel) ?_
  refine es_blk (pc' := 8) (L' := [some (.ref 1), some (.int p0)]) (st' := [.ref 1, .ref 4]) [(.aload_n 0, 0)] (by decide +kernel) rfl rfl ?_
  refine ef_getP (k := 1) (j := 4) (q := 28) rfl eL_5_39 rfl rfl rfl (by decide +kernel) ?_
  refine es_blk (pc' := 12) (L' := [some (.ref 1), some (.int p0)]) (st' := [.int p0, .ref 28, .ref 4]) [(.iload_n 1, 0)] (by decide +kernel) rfl rfl ?_
  refine ef_encs (by decide +kernel) (fun h1 => ?_)
  refine ef_getI (k := (eh_ep p0)) (j := 6) (eh_E0sh h1) eL_5_133 (by decide) (by decide +kernel) ?_
  refine ef_ald (k := 4) rfl (Or.inl ⟨rfl, rfl⟩) (by decide +kernel) (fun _ => ?_)
  exact es_ret rfl rfl rfl ⟨by decide +kernel, _, rfl, rfl⟩ (Nat.le_refl _) (Nat.le_refl _)
def eF_5_sizeOf (s : eh_F) (p0 : Int32) : Option (Int32) := if eh_in p0 6 then if eh_in (s.1 (eh_ep p0) 6) 12 then some (s.1 5 (eh_ix (s.1 (eh_ep p0) 6))) else none else none
set_option maxHeartbeats 4000000 in
set_option maxRecDepth 100000 in
theorem eS_5_sizeOf (g : eh_P) (s : eh_F) (p0 : Int32) : eh_Sim g eM_5_sizeOf (eh_R 1 0 0) (eh_pI s) 0 0 0 (eh_en 2 [.ref 1, .int p0]) [] (eh_FW s) (eF_5_sizeOf s p0) := by
  unfold eF_5_sizeOf
  refine ef_top (L := [some (.ref 1), some (.int p0)]) rfl ?_
  refine es_blk (pc' := 1) (L' := [some (.ref 1), some (.int p0)]) (st' := [.ref 1]) [(.aload_n 0, 0)] (by decide +kernel) rfl rfl ?_
  refine ef_getP (k := 1) (j := 0) (q := 2) rfl eL_5_12 rfl rfl rfl (by decide +kernel) ?_
  refine ef_getP (k := 2) (j := 2) (q := 5) rfl eL_5_136 rfl rfl rfl (by decide +kernel) ?_
  refine es_blk (pc' := 8) (L' := [some (.ref 1), some (.int p0)]) (st' := [.ref 1, .ref 5]) [(.aload_n 0, 0)] (by decide +kernel) rfl rfl ?_
  refine ef_getP (k := 1) (j := 4) (q := 28) rfl eL_5_39 rfl rfl rfl (by decide +kernel) ?_
  refine es_blk (pc' := 12) (L' := [some (.ref 1), some (.int p0)]) (st' := [.int p0, .ref 28, .ref 5]) [(.iload_n 1, 0)] (by decide +kernel) rfl rfl ?_
  refine ef_encs (by decide +kernel) (fun h1 => ?_)
  refine ef_getI (k := (eh_ep p0)) (j := 6) (eh_E0sh h1) eL_5_133 (by decide) (by decide +kernel) ?_
  refine ef_ald (k := 5) rfl (Or.inl ⟨rfl, rfl⟩) (by decide +kernel) (fun _ => ?_)
  exact es_ret rfl rfl rfl ⟨by decide +kernel, _, rfl, rfl⟩ (Nat.le_refl _) (Nat.le_refl _)
def eF_5_enclaveCount (s : eh_F)  : Option (Int32) := Option.bind (eh_loop (fun (r4 : (Int32 × Int32) → Option (Int32)) (t1 : Int32 × Int32) => if t1.2 < 6 then (if eh_in t1.2 6 then eh_J (fun (a8 : Int32) => eh_V ((t1.1 + a8) : Int32) (fun x9 => eh_V ((t1.2 + 1) : Int32) (fun x10 => r4 (x9, x10)))) (fun j7 => if (s.1 (eh_ep t1.2) 5) = 0 then (j7 0) else (j7 1)) else none) else (some t1.1)) eh_FU (0, 0)) (fun (e2 : Int32) => some e2)
set_option maxHeartbeats 4000000 in
set_option maxRecDepth 100000 in
theorem eS_5_enclaveCount (g : eh_P) (s : eh_F)  : eh_Sim g eM_5_enclaveCount (eh_R 1 0 0) (eh_pI s) 0 0 0 (eh_en 3 [.ref 1]) [] (eh_FW s) (eF_5_enclaveCount s) := by
  unfold eF_5_enclaveCount
  refine ef_top (L := [some (.ref 1), none, none]) rfl ?_
  refine es_blk (pc' := 4) (L' := [some (.ref 1), some (.int 0), some (.int 0)]) (st' := []) [(.iconst 0, 0), (.istore_n 1, 0), (.iconst 0, 0), (.istore_n 2, 0)] (by decide +kernel) rfl rfl ?_
  refine ef_loop1 (n := eh_FU) (i := (0, 0)) (px := 36) (fun (t1 : Int32 × Int32) => [some (.ref 1), some (.int t1.1), some (.int t1.2)]) (fun (t1 : Int32 × Int32) => []) (fun (t1 : Int32 × Int32) => eh_FW s) (fun (e2 : Int32) => [none, some (.int e2), none]) (fun (e2 : Int32) => []) (fun (e2 : Int32) => eh_FW s) (fun e2 => ?_) (fun K3 HxK3_0 r4 Hr4 t1 => ?_)
  · refine es_blk (pc' := 37) (L' := [none, some (.int e2), none]) (st' := [.int e2]) [(.iload_n 1, 0)] (by decide +kernel) rfl rfl ?_
    exact es_ret rfl rfl rfl ⟨by decide +kernel, _, rfl, rfl⟩ (Nat.le_refl _) (Nat.le_refl _)
  · refine es_blk (pc' := 7) (L' := [some (.ref 1), some (.int t1.1), some (.int t1.2)]) (st' := [.int 6, .int t1.2]) [(.iload_n 2, 0), (.bipush 6, 6)] (by decide +kernel) rfl rfl ?_
    refine es_ige (tgt := 36) (off := (29)) (by decide +kernel) (by decide) (fun h5 => ?_) (fun h5 => ?_)
    · refine es_blk (pc' := 12) (L' := [some (.ref 1), some (.int t1.1), some (.int t1.2)]) (st' := [.ref 1, .int t1.1]) [(.iload_n 1, 0), (.aload_n 0, 0)] (by decide +kernel) rfl rfl ?_
      refine ef_getP (k := 1) (j := 4) (q := 28) rfl eL_5_39 rfl rfl rfl (by decide +kernel) ?_
      refine es_blk (pc' := 16) (L' := [some (.ref 1), some (.int t1.1), some (.int t1.2)]) (st' := [.int t1.2, .ref 28, .int t1.1]) [(.iload_n 2, 0)] (by decide +kernel) rfl rfl ?_
      refine ef_encs (by decide +kernel) (fun h6 => ?_)
      refine ef_getI (k := (eh_ep t1.2)) (j := 5) (eh_E0sh h6) eL_5_103 (by decide) (by decide +kernel) ?_
      refine ef_J (X := fun j7 => ∀ (a8 : Int32), eh_Sim g eM_5_enclaveCount (eh_R 1 0 0) (eh_pI s) 0 0 28 [some (.ref 1), none, some (.int t1.2)] [.int a8, .int t1.1] (eh_FW s) ((j7 a8).bind K3)) ?_ (fun j7 Hj7 => ?_)
      · intro a8
        refine es_blk (pc' := 30) (L' := [some (.ref 1), some (.int (t1.1 + a8)), some (.int t1.2)]) (st' := []) [(.iadd, 0), (.istore_n 1, 0)] (by decide +kernel) rfl rfl ?_
        refine ef_V (fun x9 => [some (.ref 1), some (.int x9), some (.int t1.2)]) (fun _ => []) (fun _ => eh_FW s) (fun x9 => ?_)
        refine es_blk (pc' := 33) (L' := [some (.ref 1), some (.int x9), some (.int (t1.2 + 1))]) (st' := []) [(.iinc 2 1, 1)] (by decide +kernel) rfl rfl ?_
        refine ef_V (fun x10 => [some (.ref 1), some (.int x9), some (.int x10)]) (fun _ => []) (fun _ => eh_FW s) (fun x10 => ?_)
        refine es_goto (tgt := 4) (off := (-29)) (by decide +kernel) (by decide) ?_
        exact Hr4 (x9, x10)
      refine es_eq (tgt := 27) (off := (7)) (by decide +kernel) (by decide) (fun h11 => ?_) (fun h11 => ?_)
      · refine es_blk (pc' := 28) (L' := [some (.ref 1), some (.int t1.1), some (.int t1.2)]) (st' := [.int 0, .int t1.1]) [(.iconst 0, 0)] (by decide +kernel) rfl rfl ?_
        refine ef_drop (L2 := [some (.ref 1), none, some (.int t1.2)]) [true, false, true] rfl rfl ?_
        exact Hj7 _
      refine es_blk (pc' := 24) (L' := [some (.ref 1), some (.int t1.1), some (.int t1.2)]) (st' := [.int 1, .int t1.1]) [(.iconst 1, 1)] (by decide +kernel) rfl rfl ?_
      refine es_goto (tgt := 28) (off := (4)) (by decide +kernel) (by decide) ?_
      refine ef_drop (L2 := [some (.ref 1), none, some (.int t1.2)]) [true, false, true] rfl rfl ?_
      exact Hj7 _
    refine ef_drop (L2 := [none, some (.int t1.1), none]) [false, true, false] rfl rfl ?_
    exact HxK3_0 t1.1
def eF_5_fibreCount (s : eh_F)  : Option (Int32) := Option.bind (eh_loop (fun (r4 : (Int32 × Int32) → Option (Int32)) (t1 : Int32 × Int32) => if t1.2 < 12 then (if eh_in t1.2 12 then eh_J (fun (a8 : Int32) => eh_V ((t1.1 + a8) : Int32) (fun x9 => eh_V ((t1.2 + 1) : Int32) (fun x10 => r4 (x9, x10)))) (fun j7 => if (s.1 (eh_fp t1.2) 6) = 0 then (j7 0) else (j7 1)) else none) else (some t1.1)) eh_FU (0, 0)) (fun (e2 : Int32) => some e2)
set_option maxHeartbeats 4000000 in
set_option maxRecDepth 100000 in
theorem eS_5_fibreCount (g : eh_P) (s : eh_F)  : eh_Sim g eM_5_fibreCount (eh_R 1 0 0) (eh_pI s) 0 0 0 (eh_en 3 [.ref 1]) [] (eh_FW s) (eF_5_fibreCount s) := by
  unfold eF_5_fibreCount
  refine ef_top (L := [some (.ref 1), none, none]) rfl ?_
  refine es_blk (pc' := 4) (L' := [some (.ref 1), some (.int 0), some (.int 0)]) (st' := []) [(.iconst 0, 0), (.istore_n 1, 0), (.iconst 0, 0), (.istore_n 2, 0)] (by decide +kernel) rfl rfl ?_
  refine ef_loop1 (n := eh_FU) (i := (0, 0)) (px := 36) (fun (t1 : Int32 × Int32) => [some (.ref 1), some (.int t1.1), some (.int t1.2)]) (fun (t1 : Int32 × Int32) => []) (fun (t1 : Int32 × Int32) => eh_FW s) (fun (e2 : Int32) => [none, some (.int e2), none]) (fun (e2 : Int32) => []) (fun (e2 : Int32) => eh_FW s) (fun e2 => ?_) (fun K3 HxK3_0 r4 Hr4 t1 => ?_)
  · refine es_blk (pc' := 37) (L' := [none, some (.int e2), none]) (st' := [.int e2]) [(.iload_n 1, 0)] (by decide +kernel) rfl rfl ?_
    exact es_ret rfl rfl rfl ⟨by decide +kernel, _, rfl, rfl⟩ (Nat.le_refl _) (Nat.le_refl _)
  · refine es_blk (pc' := 7) (L' := [some (.ref 1), some (.int t1.1), some (.int t1.2)]) (st' := [.int 12, .int t1.2]) [(.iload_n 2, 0), (.bipush 12, 12)] (by decide +kernel) rfl rfl ?_
    refine es_ige (tgt := 36) (off := (29)) (by decide +kernel) (by decide) (fun h5 => ?_) (fun h5 => ?_)
    · refine es_blk (pc' := 12) (L' := [some (.ref 1), some (.int t1.1), some (.int t1.2)]) (st' := [.ref 1, .int t1.1]) [(.iload_n 1, 0), (.aload_n 0, 0)] (by decide +kernel) rfl rfl ?_
      refine ef_getP (k := 1) (j := 3) (q := 27) rfl eL_5_33 rfl rfl rfl (by decide +kernel) ?_
      refine es_blk (pc' := 16) (L' := [some (.ref 1), some (.int t1.1), some (.int t1.2)]) (st' := [.int t1.2, .ref 27, .int t1.1]) [(.iload_n 2, 0)] (by decide +kernel) rfl rfl ?_
      refine ef_fibres (by decide +kernel) (fun h6 => ?_)
      refine ef_getI (k := (eh_fp t1.2)) (j := 6) (eh_F0sh h6) eL_5_99 (by decide) (by decide +kernel) ?_
      refine ef_J (X := fun j7 => ∀ (a8 : Int32), eh_Sim g eM_5_fibreCount (eh_R 1 0 0) (eh_pI s) 0 0 28 [some (.ref 1), none, some (.int t1.2)] [.int a8, .int t1.1] (eh_FW s) ((j7 a8).bind K3)) ?_ (fun j7 Hj7 => ?_)
      · intro a8
        refine es_blk (pc' := 30) (L' := [some (.ref 1), some (.int (t1.1 + a8)), some (.int t1.2)]) (st' := []) [(.iadd, 0), (.istore_n 1, 0)] (by decide +kernel) rfl rfl ?_
        refine ef_V (fun x9 => [some (.ref 1), some (.int x9), some (.int t1.2)]) (fun _ => []) (fun _ => eh_FW s) (fun x9 => ?_)
        refine es_blk (pc' := 33) (L' := [some (.ref 1), some (.int x9), some (.int (t1.2 + 1))]) (st' := []) [(.iinc 2 1, 1)] (by decide +kernel) rfl rfl ?_
        refine ef_V (fun x10 => [some (.ref 1), some (.int x9), some (.int x10)]) (fun _ => []) (fun _ => eh_FW s) (fun x10 => ?_)
        refine es_goto (tgt := 4) (off := (-29)) (by decide +kernel) (by decide) ?_
        exact Hr4 (x9, x10)
      refine es_eq (tgt := 27) (off := (7)) (by decide +kernel) (by decide) (fun h11 => ?_) (fun h11 => ?_)
      · refine es_blk (pc' := 28) (L' := [some (.ref 1), some (.int t1.1), some (.int t1.2)]) (st' := [.int 0, .int t1.1]) [(.iconst 0, 0)] (by decide +kernel) rfl rfl ?_
        refine ef_drop (L2 := [some (.ref 1), none, some (.int t1.2)]) [true, false, true] rfl rfl ?_
        exact Hj7 _
      refine es_blk (pc' := 24) (L' := [some (.ref 1), some (.int t1.1), some (.int t1.2)]) (st' := [.int 1, .int t1.1]) [(.iconst 1, 1)] (by decide +kernel) rfl rfl ?_
      refine es_goto (tgt := 28) (off := (4)) (by decide +kernel) (by decide) ?_
      refine ef_drop (L2 := [some (.ref 1), none, some (.int t1.2)]) [true, false, true] rfl rfl ?_
      exact Hj7 _
    refine ef_drop (L2 := [none, some (.int t1.1), none]) [false, true, false] rfl rfl ?_
    exact HxK3_0 t1.1
def eF_5_note (s : eh_F) (p0 : Int32) (p1 : Nat) (p2 : Int32) (p3 : Int32) (p4 : Int32) : Option (eh_F) := eh_J (fun (s2 : eh_F) => eh_V (eh_tI s2 1 11 ((s2.1 1 11) + 1)) (fun s3 => some s3)) (fun j1 => if (s.1 1 11) < 0 then (j1 s) else (if (s.1 1 11) < 1000 then (eh_V (((s.1 1 11) * 8) : Int32) (fun x6 => if eh_in x6 8000 then eh_V (eh_tI s 38 (eh_ix x6) p0) (fun s7 => if eh_in (x6 + 1) 8000 then eh_V (eh_tI s7 38 (eh_ix (x6 + 1)) (s7.1 12 0)) (fun s8 => if eh_in (x6 + 2) 8000 then eh_V (eh_tI s8 38 (eh_ix (x6 + 2)) (s8.1 p1 7)) (fun s9 => if eh_in (x6 + 3) 8000 then eh_V (eh_tI s9 38 (eh_ix (x6 + 3)) (s9.1 p1 0)) (fun s10 => if eh_in (x6 + 4) 8000 then eh_V (eh_tI s10 38 (eh_ix (x6 + 4)) (s10.1 p1 3)) (fun s11 => if eh_in (x6 + 5) 8000 then eh_V (eh_tI s11 38 (eh_ix (x6 + 5)) p2) (fun s12 => if eh_in (x6 + 6) 8000 then eh_V (eh_tI s12 38 (eh_ix (x6 + 6)) p3) (fun s13 => if eh_in (x6 + 7) 8000 then eh_V (eh_tI s13 38 (eh_ix (x6 + 7)) p4) (fun s14 => j1 s14) else none) else none) else none) else none) else none) else none) else none) else none)) else (j1 s)))
set_option maxHeartbeats 4000000 in
set_option maxRecDepth 100000 in
theorem eS_5_note (g : eh_P) (s : eh_F) (p0 : Int32) (p1 : Nat) (p2 : Int32) (p3 : Int32) (p4 : Int32) (hp1 : eh_okF p1 = true) : eh_Sim g eM_5_note (eh_R 1 0 0) eh_eV 0 0 0 (eh_en 7 [.ref 1, .int p0, .ref p1, .int p2, .int p3, .int p4]) [] (eh_FW s) (eF_5_note s p0 p1 p2 p3 p4) := by
  unfold eF_5_note
  refine ef_top (L := [some (.ref 1), some (.int p0), some (.ref p1), some (.int p2), some (.int p3), some (.int p4), none]) rfl ?_
  refine es_blk (pc' := 1) (L' := [some (.ref 1), some (.int p0), some (.ref p1), some (.int p2), some (.int p3), some (.int p4), none]) (st' := [.ref 1]) [(.aload_n 0, 0)] (by decide +kernel) rfl rfl ?_
  refine ef_getI (k := 1) (j := 11) rfl eL_5_117 (by decide) (by decide +kernel) ?_
  refine ef_J (X := fun j1 => ∀ (s2 : eh_F), eh_Sim g eM_5_note (eh_R 1 0 0) eh_eV 0 0 123 [some (.ref 1), none, none, none, none, none, none] [] (eh_FW s2) ((j1 s2).bind some)) ?_ (fun j1 Hj1 => ?_)
  · intro s2
    refine es_blk (pc' := 125) (L' := [some (.ref 1), none, none, none, none, none, none]) (st' := [.ref 1, .ref 1]) [(.aload_n 0, 0), (.dup, 0)] (by decide +kernel) rfl rfl ?_
    refine ef_getI (k := 1) (j := 11) rfl eL_5_117 (by decide) (by decide +kernel) ?_
    refine es_blk (pc' := 130) (L' := [some (.ref 1), none, none, none, none, none, none]) (st' := [.int ((s2.1 1 11) + 1), .ref 1]) [(.iconst 1, 1), (.iadd, 0)] (by decide +kernel) rfl rfl ?_
    refine ef_putI (k := 1) (j := 11) rfl eL_5_117 rfl rfl (by decide +kernel) ?_
    refine ef_V (fun _ => [some (.ref 1), none, none, none, none, none, none]) (fun _ => []) (fun s3 => eh_FW s3) (fun s3 => ?_)
    exact es_ret rfl rfl rfl ⟨by decide +kernel, rfl⟩ (Nat.le_refl _) (Nat.le_refl _)
  refine es_lt (tgt := 123) (off := (119)) (by decide +kernel) (by decide) (fun h4 => ?_) (fun h4 => ?_)
  · refine ef_drop (L2 := [some (.ref 1), none, none, none, none, none, none]) [true, false, false, false, false, false, true] rfl rfl ?_
    exact Hj1 _
  refine es_blk (pc' := 8) (L' := [some (.ref 1), some (.int p0), some (.ref p1), some (.int p2), some (.int p3), some (.int p4), none]) (st' := [.ref 1]) [(.aload_n 0, 0)] (by decide +kernel) rfl rfl ?_
  refine ef_getI (k := 1) (j := 11) rfl eL_5_117 (by decide) (by decide +kernel) ?_
  refine es_blk (pc' := 14) (L' := [some (.ref 1), some (.int p0), some (.ref p1), some (.int p2), some (.int p3), some (.int p4), none]) (st' := [.int 1000, .int (s.1 1 11)]) [(.sipush 1000, 1000)] (by decide +kernel) rfl rfl ?_
  refine es_ige (tgt := 123) (off := (109)) (by decide +kernel) (by decide) (fun h5 => ?_) (fun h5 => ?_)
  · refine es_blk (pc' := 18) (L' := [some (.ref 1), some (.int p0), some (.ref p1), some (.int p2), some (.int p3), some (.int p4), none]) (st' := [.ref 1]) [(.aload_n 0, 0)] (by decide +kernel) rfl rfl ?_
    refine ef_getI (k := 1) (j := 11) rfl eL_5_117 (by decide) (by decide +kernel) ?_
    refine es_blk (pc' := 26) (L' := [some (.ref 1), some (.int p0), some (.ref p1), some (.int p2), some (.int p3), some (.int p4), some (.int ((s.1 1 11) * 8))]) (st' := []) [(.bipush 8, 8), (.imul, 0), (.istore 6, 0)] (by decide +kernel) rfl rfl ?_
    refine ef_V (fun x6 => [some (.ref 1), some (.int p0), some (.ref p1), some (.int p2), some (.int p3), some (.int p4), some (.int x6)]) (fun _ => []) (fun _ => eh_FW s) (fun x6 => ?_)
    refine es_blk (pc' := 27) (L' := [some (.ref 1), some (.int p0), some (.ref p1), some (.int p2), some (.int p3), some (.int p4), some (.int x6)]) (st' := [.ref 1]) [(.aload_n 0, 0)] (by decide +kernel) rfl rfl ?_
    refine ef_getP (k := 1) (j := 14) (q := 38) rfl eL_5_66 rfl rfl rfl (by decide +kernel) ?_
    refine es_blk (pc' := 33) (L' := [some (.ref 1), some (.int p0), some (.ref p1), some (.int p2), some (.int p3), some (.int p4), some (.int x6)]) (st' := [.int p0, .int x6, .ref 38]) [(.iload 6, 0), (.iload_n 1, 0)] (by decide +kernel) rfl rfl ?_
    refine ef_ast (k := 38) rfl (by decide +kernel) (fun _ => ?_)
    refine ef_V (fun _ => [some (.ref 1), some (.int p0), some (.ref p1), some (.int p2), some (.int p3), some (.int p4), some (.int x6)]) (fun _ => []) (fun s7 => eh_FW s7) (fun s7 => ?_)
    refine es_blk (pc' := 35) (L' := [some (.ref 1), some (.int p0), some (.ref p1), some (.int p2), some (.int p3), some (.int p4), some (.int x6)]) (st' := [.ref 1]) [(.aload_n 0, 0)] (by decide +kernel) rfl rfl ?_
    refine ef_getP (k := 1) (j := 14) (q := 38) rfl eL_5_66 rfl rfl rfl (by decide +kernel) ?_
    refine es_blk (pc' := 43) (L' := [some (.ref 1), some (.int p0), some (.ref p1), some (.int p2), some (.int p3), some (.int p4), some (.int x6)]) (st' := [.ref 1, .int (x6 + 1), .ref 38]) [(.iload 6, 0), (.iconst 1, 1), (.iadd, 0), (.aload_n 0, 0)] (by decide +kernel) rfl rfl ?_
    refine ef_getP (k := 1) (j := 1) (q := 12) rfl eL_5_21 rfl rfl rfl (by decide +kernel) ?_
    refine ef_getI (k := 12) (j := 0) rfl eL_5_167 (by decide) (by decide +kernel) ?_
    refine ef_ast (k := 38) rfl (by decide +kernel) (fun _ => ?_)
    refine ef_V (fun _ => [some (.ref 1), some (.int p0), some (.ref p1), some (.int p2), some (.int p3), some (.int p4), some (.int x6)]) (fun _ => []) (fun s8 => eh_FW s8) (fun s8 => ?_)
    refine es_blk (pc' := 51) (L' := [some (.ref 1), some (.int p0), some (.ref p1), some (.int p2), some (.int p3), some (.int p4), some (.int x6)]) (st' := [.ref 1]) [(.aload_n 0, 0)] (by decide +kernel) rfl rfl ?_
    refine ef_getP (k := 1) (j := 14) (q := 38) rfl eL_5_66 rfl rfl rfl (by decide +kernel) ?_
    refine es_blk (pc' := 59) (L' := [some (.ref 1), some (.int p0), some (.ref p1), some (.int p2), some (.int p3), some (.int p4), some (.int x6)]) (st' := [.ref p1, .int (x6 + 2), .ref 38]) [(.iload 6, 0), (.iconst 2, 2), (.iadd, 0), (.aload_n 2, 0)] (by decide +kernel) rfl rfl ?_
    refine ef_getI (k := p1) (j := 7) (eh_F0sh hp1) eL_5_142 (by decide) (by decide +kernel) ?_
    refine ef_ast (k := 38) rfl (by decide +kernel) (fun _ => ?_)
    refine ef_V (fun _ => [some (.ref 1), some (.int p0), some (.ref p1), some (.int p2), some (.int p3), some (.int p4), some (.int x6)]) (fun _ => []) (fun s9 => eh_FW s9) (fun s9 => ?_)
    refine es_blk (pc' := 64) (L' := [some (.ref 1), some (.int p0), some (.ref p1), some (.int p2), some (.int p3), some (.int p4), some (.int x6)]) (st' := [.ref 1]) [(.aload_n 0, 0)] (by decide +kernel) rfl rfl ?_
    refine ef_getP (k := 1) (j := 14) (q := 38) rfl eL_5_66 rfl rfl rfl (by decide +kernel) ?_
    refine es_blk (pc' := 72) (L' := [some (.ref 1), some (.int p0), some (.ref p1), some (.int p2), some (.int p3), some (.int p4), some (.int x6)]) (st' := [.ref p1, .int (x6 + 3), .ref 38]) [(.iload 6, 0), (.iconst 3, 3), (.iadd, 0), (.aload_n 2, 0)] (by decide +kernel) rfl rfl ?_
    refine ef_getI (k := p1) (j := 0) (eh_F0sh hp1) eL_5_145 (by decide) (by decide +kernel) ?_
    refine ef_ast (k := 38) rfl (by decide +kernel) (fun _ => ?_)
    refine ef_V (fun _ => [some (.ref 1), some (.int p0), some (.ref p1), some (.int p2), some (.int p3), some (.int p4), some (.int x6)]) (fun _ => []) (fun s10 => eh_FW s10) (fun s10 => ?_)
    refine es_blk (pc' := 77) (L' := [some (.ref 1), some (.int p0), some (.ref p1), some (.int p2), some (.int p3), some (.int p4), some (.int x6)]) (st' := [.ref 1]) [(.aload_n 0, 0)] (by decide +kernel) rfl rfl ?_
    refine ef_getP (k := 1) (j := 14) (q := 38) rfl eL_5_66 rfl rfl rfl (by decide +kernel) ?_
    refine es_blk (pc' := 85) (L' := [some (.ref 1), some (.int p0), some (.ref p1), some (.int p2), some (.int p3), some (.int p4), some (.int x6)]) (st' := [.ref p1, .int (x6 + 4), .ref 38]) [(.iload 6, 0), (.iconst 4, 4), (.iadd, 0), (.aload_n 2, 0)] (by decide +kernel) rfl rfl ?_
    refine ef_getI (k := p1) (j := 3) (eh_F0sh hp1) eL_5_170 (by decide) (by decide +kernel) ?_
    refine ef_ast (k := 38) rfl (by decide +kernel) (fun _ => ?_)
    refine ef_V (fun _ => [some (.ref 1), some (.int p0), some (.ref p1), some (.int p2), some (.int p3), some (.int p4), some (.int x6)]) (fun _ => []) (fun s11 => eh_FW s11) (fun s11 => ?_)
    refine es_blk (pc' := 90) (L' := [some (.ref 1), some (.int p0), some (.ref p1), some (.int p2), some (.int p3), some (.int p4), some (.int x6)]) (st' := [.ref 1]) [(.aload_n 0, 0)] (by decide +kernel) rfl rfl ?_
    refine ef_getP (k := 1) (j := 14) (q := 38) rfl eL_5_66 rfl rfl rfl (by decide +kernel) ?_
    refine es_blk (pc' := 98) (L' := [some (.ref 1), some (.int p0), some (.ref p1), some (.int p2), some (.int p3), some (.int p4), some (.int x6)]) (st' := [.int p2, .int (x6 + 5), .ref 38]) [(.iload 6, 0), (.iconst 5, 5), (.iadd, 0), (.iload_n 3, 0)] (by decide +kernel) rfl rfl ?_
    refine ef_ast (k := 38) rfl (by decide +kernel) (fun _ => ?_)
    refine ef_V (fun _ => [some (.ref 1), some (.int p0), some (.ref p1), some (.int p2), some (.int p3), some (.int p4), some (.int x6)]) (fun _ => []) (fun s12 => eh_FW s12) (fun s12 => ?_)
    refine es_blk (pc' := 100) (L' := [some (.ref 1), some (.int p0), some (.ref p1), some (.int p2), some (.int p3), some (.int p4), some (.int x6)]) (st' := [.ref 1]) [(.aload_n 0, 0)] (by decide +kernel) rfl rfl ?_
    refine ef_getP (k := 1) (j := 14) (q := 38) rfl eL_5_66 rfl rfl rfl (by decide +kernel) ?_
    refine es_blk (pc' := 110) (L' := [some (.ref 1), some (.int p0), some (.ref p1), some (.int p2), some (.int p3), some (.int p4), some (.int x6)]) (st' := [.int p3, .int (x6 + 6), .ref 38]) [(.iload 6, 0), (.bipush 6, 6), (.iadd, 0), (.iload 4, 0)] (by decide +kernel) rfl rfl ?_
    refine ef_ast (k := 38) rfl (by decide +kernel) (fun _ => ?_)
    refine ef_V (fun _ => [some (.ref 1), some (.int p0), some (.ref p1), some (.int p2), some (.int p3), some (.int p4), some (.int x6)]) (fun _ => []) (fun s13 => eh_FW s13) (fun s13 => ?_)
    refine es_blk (pc' := 112) (L' := [some (.ref 1), some (.int p0), some (.ref p1), some (.int p2), some (.int p3), some (.int p4), some (.int x6)]) (st' := [.ref 1]) [(.aload_n 0, 0)] (by decide +kernel) rfl rfl ?_
    refine ef_getP (k := 1) (j := 14) (q := 38) rfl eL_5_66 rfl rfl rfl (by decide +kernel) ?_
    refine es_blk (pc' := 122) (L' := [some (.ref 1), some (.int p0), some (.ref p1), some (.int p2), some (.int p3), some (.int p4), some (.int x6)]) (st' := [.int p4, .int (x6 + 7), .ref 38]) [(.iload 6, 0), (.bipush 7, 7), (.iadd, 0), (.iload 5, 0)] (by decide +kernel) rfl rfl ?_
    refine ef_ast (k := 38) rfl (by decide +kernel) (fun _ => ?_)
    refine ef_V (fun _ => [some (.ref 1), some (.int p0), some (.ref p1), some (.int p2), some (.int p3), some (.int p4), some (.int x6)]) (fun _ => []) (fun s14 => eh_FW s14) (fun s14 => ?_)
    refine ef_drop (L2 := [some (.ref 1), none, none, none, none, none, none]) [true, false, false, false, false, false, false] rfl rfl ?_
    exact Hj1 _
  refine ef_drop (L2 := [some (.ref 1), none, none, none, none, none, none]) [true, false, false, false, false, false, true] rfl rfl ?_
  exact Hj1 _
