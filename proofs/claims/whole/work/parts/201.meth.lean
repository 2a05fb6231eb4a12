def eF_5_eventPart (s : eh_F) (p0 : Int32) (p1 : Int32) : Option (Int32) := eh_J (fun (a2 : Int32) => eh_J (fun (a4 : Int32) => some a4) (fun j3 => eh_J (fun (u6 : Unit) => j3 0) (fun j5 => if a2 = 0 then (j5 ()) else (if p1 < 0 then (j5 ()) else (if p1 < 8 then (if eh_in ((p0 * 8) + p1) 8000 then j3 (s.1 38 (eh_ix ((p0 * 8) + p1))) else none) else (j5 ())))))) (fun j1 => eh_J (fun (u11 : Unit) => j1 0) (fun j10 => if p0 < 0 then (j10 ()) else (if p0 < (s.1 1 11) then (if p0 < 1000 then (j1 1) else (j10 ())) else (j10 ()))))
set_option maxHeartbeats 4000000 in
set_option maxRecDepth 100000 in
theorem eS_5_eventPart (g : eh_P) (s : eh_F) (p0 : Int32) (p1 : Int32) : eh_Sim g eM_5_eventPart (eh_R 1 0 0) (eh_pI s) 0 0 0 (eh_en 4 [.ref 1, .int p0, .int p1]) [] (eh_FW s) (eF_5_eventPart s p0 p1) := by
  unfold eF_5_eventPart
  refine ef_top (L := [some (.ref 1), some (.int p0), some (.int p1), none]) rfl ?_
  refine es_blk (pc' := 1) (L' := [some (.ref 1), some (.int p0), some (.int p1), none]) (st' := [.int p0]) [(.iload_n 1, 0)] (by decide +kernel) rfl rfl ?_
  refine ef_J (X := fun j1 => ∀ (a2 : Int32), eh_Sim g eM_5_eventPart (eh_R 1 0 0) (eh_pI s) 0 0 24 [some (.ref 1), some (.int p0), some (.int p1), none] [.int a2] (eh_FW s) ((j1 a2).bind some)) ?_ (fun j1 Hj1 => ?_)
  · intro a2
    refine es_blk (pc' := 26) (L' := [some (.ref 1), some (.int p0), some (.int p1), some (.int a2)]) (st' := [.int a2]) [(.istore_n 3, 0), (.iload_n 3, 0)] (by decide +kernel) rfl rfl ?_
    refine ef_J (X := fun j3 => ∀ (a4 : Int32), eh_Sim g eM_5_eventPart (eh_R 1 0 0) (eh_pI s) 0 0 54 [none, none, none, none] [.int a4] (eh_FW s) ((j3 a4).bind some)) ?_ (fun j3 Hj3 => ?_)
    · intro a4
      exact es_ret rfl rfl rfl ⟨by decide +kernel, _, rfl, rfl⟩ (Nat.le_refl _) (Nat.le_refl _)
    refine ef_J (X := fun j5 => ∀ (u6 : Unit), eh_Sim g eM_5_eventPart (eh_R 1 0 0) (eh_pI s) 0 0 53 [none, none, none, none] [] (eh_FW s) ((j5 u6).bind some)) ?_ (fun j5 Hj5 => ?_)
    · intro u6
      refine es_blk (pc' := 54) (L' := [none, none, none, none]) (st' := [.int 0]) [(.iconst 0, 0)] (by decide +kernel) rfl rfl ?_
      exact Hj3 _
    refine es_eq (tgt := 53) (off := (27)) (by decide +kernel) (by decide) (fun h7 => ?_) (fun h7 => ?_)
    · refine ef_drop (L2 := [none, none, none, none]) [false, false, false, false] rfl rfl ?_
      exact Hj5 ()
    refine es_blk (pc' := 30) (L' := [some (.ref 1), some (.int p0), some (.int p1), some (.int a2)]) (st' := [.int p1]) [(.iload_n 2, 0)] (by decide +kernel) rfl rfl ?_
    refine es_lt (tgt := 53) (off := (23)) (by decide +kernel) (by decide) (fun h8 => ?_) (fun h8 => ?_)
    · refine ef_drop (L2 := [none, none, none, none]) [false, false, false, false] rfl rfl ?_
      exact Hj5 ()
    refine es_blk (pc' := 36) (L' := [some (.ref 1), some (.int p0), some (.int p1), some (.int a2)]) (st' := [.int 8, .int p1]) [(.iload_n 2, 0), (.bipush 8, 8)] (by decide +kernel) rfl rfl ?_
    refine es_ige (tgt := 53) (off := (17)) (by decide +kernel) (by decide) (fun h9 => ?_) (fun h9 => ?_)
    · refine es_blk (pc' := 40) (L' := [some (.ref 1), some (.int p0), some (.int p1), some (.int a2)]) (st' := [.ref 1]) [(.aload_n 0, 0)] (by decide +kernel) rfl rfl ?_
      refine ef_getP (k := 1) (j := 14) (q := 38) rfl eL_5_66 rfl rfl rfl (by decide +kernel) ?_
      refine es_blk (pc' := 49) (L' := [some (.ref 1), some (.int p0), some (.int p1), some (.int a2)]) (st' := [.int ((p0 * 8) + p1), .ref 38]) [(.iload_n 1, 0), (.bipush 8, 8), (.imul, 0), (.iload_n 2, 0), (.iadd, 0)] (by decide +kernel) rfl rfl ?_
      refine ef_ald (k := 38) rfl (Or.inl ⟨rfl, rfl⟩) (by decide +kernel) (fun _ => ?_)
      refine es_goto (tgt := 54) (off := (4)) (by decide +kernel) (by decide) ?_
      refine ef_drop (L2 := [none, none, none, none]) [false, false, false, false] rfl rfl ?_
      exact Hj3 _
    refine ef_drop (L2 := [none, none, none, none]) [false, false, false, false] rfl rfl ?_
    exact Hj5 ()
  refine ef_J (X := fun j10 => ∀ (u11 : Unit), eh_Sim g eM_5_eventPart (eh_R 1 0 0) (eh_pI s) 0 0 23 [some (.ref 1), some (.int p0), some (.int p1), none] [] (eh_FW s) ((j10 u11).bind some)) ?_ (fun j10 Hj10 => ?_)
  · intro u11
    refine es_blk (pc' := 24) (L' := [some (.ref 1), some (.int p0), some (.int p1), none]) (st' := [.int 0]) [(.iconst 0, 0)] (by decide +kernel) rfl rfl ?_
    exact Hj1 _
  refine es_lt (tgt := 23) (off := (22)) (by decide +kernel) (by decide) (fun h12 => ?_) (fun h12 => ?_)
  · exact Hj10 ()
  refine es_blk (pc' := 6) (L' := [some (.ref 1), some (.int p0), some (.int p1), none]) (st' := [.ref 1, .int p0]) [(.iload_n 1, 0), (.aload_n 0, 0)] (by decide +kernel) rfl rfl ?_
  refine ef_getI (k := 1) (j := 11) rfl eL_5_117 (by decide) (by decide +kernel) ?_
  refine es_ige (tgt := 23) (off := (14)) (by decide +kernel) (by decide) (fun h13 => ?_) (fun h13 => ?_)
  · refine es_blk (pc' := 16) (L' := [some (.ref 1), some (.int p0), some (.int p1), none]) (st' := [.int 1000, .int p0]) [(.iload_n 1, 0), (.sipush 1000, 1000)] (by decide +kernel) rfl rfl ?_
    refine es_ige (tgt := 23) (off := (7)) (by decide +kernel) (by decide) (fun h14 => ?_) (fun h14 => ?_)
    · refine es_blk (pc' := 20) (L' := [some (.ref 1), some (.int p0), some (.int p1), none]) (st' := [.int 1]) [(.iconst 1, 1)] (by decide +kernel) rfl rfl ?_
      refine es_goto (tgt := 24) (off := (4)) (by decide +kernel) (by decide) ?_
      exact Hj1 _
    exact Hj10 ()
  exact Hj10 ()
def eF_5_bears (s : eh_F) (p0 np0 : Nat) : Option (Int32) := Option.bind (eh_loop (fun (r5 : (Int32) → Option ((Unit) ⊕ (Unit))) (t1 : Int32) => if t1 < 8 then (if t1 < (Int32.ofNat np0) then (if eh_in t1 np0 then if eh_in (24 + t1) 32 then if (s.1 p0 (eh_ix t1)) = (s.1 36 (eh_ix (24 + t1))) then (eh_V ((t1 + 1) : Int32) (fun x9 => r5 x9)) else (some (.inr ())) else none else none) else (some (.inl ()))) else (some (.inl ()))) eh_FU 0) (Sum.elim (fun (e2 : Unit) => some 1) (fun (e3 : Unit) => some 0))
set_option maxHeartbeats 4000000 in
set_option maxRecDepth 100000 in
theorem eS_5_bears (g : eh_P) (s : eh_F) (p0 np0 : Nat) (hp0 : eh_SH[p0]? = some (100, np0)) : eh_Sim g eM_5_bears (eh_R 1 0 0) (eh_pI s) 0 0 0 (eh_en 3 [.ref 1, .ref p0]) [] (eh_FW s) (eF_5_bears s p0 np0) := by
  unfold eF_5_bears
  refine ef_top (L := [some (.ref 1), some (.ref p0), none]) rfl ?_
  refine es_blk (pc' := 2) (L' := [some (.ref 1), some (.ref p0), some (.int 0)]) (st' := []) [(.iconst 0, 0), (.istore_n 2, 0)] (by decide +kernel) rfl rfl ?_
  refine ef_loop2 (n := eh_FU) (i := 0) (px := 37) (px2 := 29) (fun (t1 : Int32) => [some (.ref 1), some (.ref p0), some (.int t1)]) (fun (t1 : Int32) => []) (fun (t1 : Int32) => eh_FW s) (fun (e2 : Unit) => [none, none, none]) (fun (e2 : Unit) => []) (fun (e2 : Unit) => eh_FW s) (fun (e3 : Unit) => [none, none, none]) (fun (e3 : Unit) => []) (fun (e3 : Unit) => eh_FW s) (fun e2 => ?_) (fun e3 => ?_) (fun K4 HxK4_0 HxK4_1 r5 Hr5 t1 => ?_)
  · refine es_blk (pc' := 38) (L' := [none, none, none]) (st' := [.int 1]) [(.iconst 1, 1)] (by decide +kernel) rfl rfl ?_
    exact es_ret rfl rfl rfl ⟨by decide +kernel, _, rfl, eh_narZ (Or.inr rfl)⟩ (Nat.le_refl _) (Nat.le_refl _)
  · refine es_blk (pc' := 30) (L' := [none, none, none]) (st' := [.int 0]) [(.iconst 0, 0)] (by decide +kernel) rfl rfl ?_
    exact es_ret rfl rfl rfl ⟨by decide +kernel, _, rfl, eh_narZ (Or.inl rfl)⟩ (Nat.le_refl _) (Nat.le_refl _)
  · refine es_blk (pc' := 5) (L' := [some (.ref 1), some (.ref p0), some (.int t1)]) (st' := [.int 8, .int t1]) [(.iload_n 2, 0), (.bipush 8, 8)] (by decide +kernel) rfl rfl ?_
    refine es_ige (tgt := 37) (off := (32)) (by decide +kernel) (by decide) (fun h6 => ?_) (fun h6 => ?_)
    · refine es_blk (pc' := 10) (L' := [some (.ref 1), some (.ref p0), some (.int t1)]) (st' := [.ref p0, .int t1]) [(.iload_n 2, 0), (.aload_n 1, 0)] (by decide +kernel) rfl rfl ?_
      refine ef_alen (k := p0) hp0 (by decide) (by decide +kernel) ?_
      refine es_ige (tgt := 37) (off := (26)) (by decide +kernel) (by decide) (fun h7 => ?_) (fun h7 => ?_)
      · refine es_blk (pc' := 16) (L' := [some (.ref 1), some (.ref p0), some (.int t1)]) (st' := [.int t1, .ref p0]) [(.aload_n 1, 0), (.iload_n 2, 0)] (by decide +kernel) rfl rfl ?_
        refine ef_ald (k := p0) hp0 (Or.inl ⟨rfl, rfl⟩) (by decide +kernel) (fun _ => ?_)
        refine es_blk (pc' := 18) (L' := [some (.ref 1), some (.ref p0), some (.int t1)]) (st' := [.ref 1, .int (s.1 p0 (eh_ix t1))]) [(.aload_n 0, 0)] (by decide +kernel) rfl rfl ?_
        refine ef_getP (k := 1) (j := 9) (q := 36) rfl eL_5_60 rfl rfl rfl (by decide +kernel) ?_
        refine es_blk (pc' := 25) (L' := [some (.ref 1), some (.ref p0), some (.int t1)]) (st' := [.int (24 + t1), .ref 36, .int (s.1 p0 (eh_ix t1))]) [(.bipush 24, 24), (.iload_n 2, 0), (.iadd, 0)] (by decide +kernel) rfl rfl ?_
        refine ef_ald (k := 36) rfl (Or.inl ⟨rfl, rfl⟩) (by decide +kernel) (fun _ => ?_)
        refine es_ieq (tgt := 31) (off := (5)) (by decide +kernel) (by decide) (fun h8 => ?_) (fun h8 => ?_)
        · refine es_blk (pc' := 34) (L' := [some (.ref 1), some (.ref p0), some (.int (t1 + 1))]) (st' := []) [(.iinc 2 1, 1)] (by decide +kernel) rfl rfl ?_
          refine ef_V (fun x9 => [some (.ref 1), some (.ref p0), some (.int x9)]) (fun _ => []) (fun _ => eh_FW s) (fun x9 => ?_)
          refine es_goto (tgt := 2) (off := (-32)) (by decide +kernel) (by decide) ?_
          exact Hr5 x9
        refine ef_drop (L2 := [none, none, none]) [false, false, false] rfl rfl ?_
        exact HxK4_1 ()
      refine ef_drop (L2 := [none, none, none]) [false, false, false] rfl rfl ?_
      exact HxK4_0 ()
    refine ef_drop (L2 := [none, none, none]) [false, false, false] rfl rfl ?_
    exact HxK4_0 ()
def eF_5_isCounted (s : eh_F) (p0 : Int32) (p1 np1 : Nat) : Option (Int32) := Option.bind (eh_loop (fun (r5 : (Int32) → Option ((Unit) ⊕ (Unit))) (t1 : Int32) => if t1 < 8 then (if eh_in ((p0 * 8) + t1) 64 then if eh_in t1 np1 then if (s.1 39 (eh_ix ((p0 * 8) + t1))) = (s.1 p1 (eh_ix t1)) then (eh_V ((t1 + 1) : Int32) (fun x8 => r5 x8)) else (some (.inr ())) else none else none) else (some (.inl ()))) eh_FU 0) (Sum.elim (fun (e2 : Unit) => some 1) (fun (e3 : Unit) => some 0))
set_option maxHeartbeats 4000000 in
set_option maxRecDepth 100000 in
theorem eS_5_isCounted (g : eh_P) (s : eh_F) (p0 : Int32) (p1 np1 : Nat) (hp1 : eh_SH[p1]? = some (100, np1)) : eh_Sim g eM_5_isCounted (eh_R 1 0 0) (eh_pI s) 0 0 0 (eh_en 4 [.ref 1, .int p0, .ref p1]) [] (eh_FW s) (eF_5_isCounted s p0 p1 np1) := by
  unfold eF_5_isCounted
  refine ef_top (L := [some (.ref 1), some (.int p0), some (.ref p1), none]) rfl ?_
  refine es_blk (pc' := 2) (L' := [some (.ref 1), some (.int p0), some (.ref p1), some (.int 0)]) (st' := []) [(.iconst 0, 0), (.istore_n 3, 0)] (by decide +kernel) rfl rfl ?_
  refine ef_loop2 (n := eh_FU) (i := 0) (px := 33) (px2 := 25) (fun (t1 : Int32) => [some (.ref 1), some (.int p0), some (.ref p1), some (.int t1)]) (fun (t1 : Int32) => []) (fun (t1 : Int32) => eh_FW s) (fun (e2 : Unit) => [none, none, none, none]) (fun (e2 : Unit) => []) (fun (e2 : Unit) => eh_FW s) (fun (e3 : Unit) => [none, none, none, none]) (fun (e3 : Unit) => []) (fun (e3 : Unit) => eh_FW s) (fun e2 => ?_) (fun e3 => ?_) (fun K4 HxK4_0 HxK4_1 r5 Hr5 t1 => ?_)
  · refine es_blk (pc' := 34) (L' := [none, none, none, none]) (st' := [.int 1]) [(.iconst 1, 1)] (by decide +kernel) rfl rfl ?_
    exact es_ret rfl rfl rfl ⟨by decide +kernel, _, rfl, eh_narZ (Or.inr rfl)⟩ (Nat.le_refl _) (Nat.le_refl _)
  · refine es_blk (pc' := 26) (L' := [none, none, none, none]) (st' := [.int 0]) [(.iconst 0, 0)] (by decide +kernel) rfl rfl ?_
    exact es_ret rfl rfl rfl ⟨by decide +kernel, _, rfl, eh_narZ (Or.inl rfl)⟩ (Nat.le_refl _) (Nat.le_refl _)
  · refine es_blk (pc' := 5) (L' := [some (.ref 1), some (.int p0), some (.ref p1), some (.int t1)]) (st' := [.int 8, .int t1]) [(.iload_n 3, 0), (.bipush 8, 8)] (by decide +kernel) rfl rfl ?_
    refine es_ige (tgt := 33) (off := (28)) (by decide +kernel) (by decide) (fun h6 => ?_) (fun h6 => ?_)
    · refine es_blk (pc' := 9) (L' := [some (.ref 1), some (.int p0), some (.ref p1), some (.int t1)]) (st' := [.ref 1]) [(.aload_n 0, 0)] (by decide +kernel) rfl rfl ?_
      refine ef_getP (k := 1) (j := 15) (q := 39) rfl eL_5_69 rfl rfl rfl (by decide +kernel) ?_
      refine es_blk (pc' := 18) (L' := [some (.ref 1), some (.int p0), some (.ref p1), some (.int t1)]) (st' := [.int ((p0 * 8) + t1), .ref 39]) [(.iload_n 1, 0), (.bipush 8, 8), (.imul, 0), (.iload_n 3, 0), (.iadd, 0)] (by decide +kernel) rfl rfl ?_
      refine ef_ald (k := 39) rfl (Or.inl ⟨rfl, rfl⟩) (by decide +kernel) (fun _ => ?_)
      refine es_blk (pc' := 21) (L' := [some (.ref 1), some (.int p0), some (.ref p1), some (.int t1)]) (st' := [.int t1, .ref p1, .int (s.1 39 (eh_ix ((p0 * 8) + t1)))]) [(.aload_n 2, 0), (.iload_n 3, 0)] (by decide +kernel) rfl rfl ?_
      refine ef_ald (k := p1) hp1 (Or.inl ⟨rfl, rfl⟩) (by decide +kernel) (fun _ => ?_)
      refine es_ieq (tgt := 27) (off := (5)) (by decide +kernel) (by decide) (fun h7 => ?_) (fun h7 => ?_)
      · refine es_blk (pc' := 30) (L' := [some (.ref 1), some (.int p0), some (.ref p1), some (.int (t1 + 1))]) (st' := []) [(.iinc 3 1, 1)] (by decide +kernel) rfl rfl ?_
        refine ef_V (fun x8 => [some (.ref 1), some (.int p0), some (.ref p1), some (.int x8)]) (fun _ => []) (fun _ => eh_FW s) (fun x8 => ?_)
        refine es_goto (tgt := 2) (off := (-28)) (by decide +kernel) (by decide) ?_
        exact Hr5 x8
      refine ef_drop (L2 := [none, none, none, none]) [false, false, false, false] rfl rfl ?_
      exact HxK4_1 ()
    refine ef_drop (L2 := [none, none, none, none]) [false, false, false, false] rfl rfl ?_
    exact HxK4_0 ()
def eF_5_mix (s : eh_F) (p0 : Int64) (p1 : Int32) : Option (Int64) := some (((p0 * 6364136223846793005) + (p1.toInt64)) + 1)
set_option maxHeartbeats 4000000 in
set_option maxRecDepth 100000 in
theorem eS_5_mix (g : eh_P) (s : eh_F) (p0 : Int64) (p1 : Int32) : eh_Sim g eM_5_mix (eh_R 1 0 0) (eh_pL s) 0 0 0 (eh_en 3 [.long p0, .int p1]) [] (eh_FW s) (eF_5_mix s p0 p1) := by
  unfold eF_5_mix
  refine ef_top (L := [some (.long p0), none, some (.int p1)]) rfl ?_
  refine es_blk (pc' := 1) (L' := [some (.long p0), none, some (.int p1)]) (st' := [.long p0]) [(.lload_n 0, 0)] (by decide +kernel) rfl rfl ?_
  refine es_ldc2 (v := 6364136223846793005) eC_5_202 (by decide +kernel) ?_
  refine es_blk (pc' := 10) (L' := [some (.long p0), none, some (.int p1)]) (st' := [.long (((p0 * 6364136223846793005) + (p1.toInt64)) + 1)]) [(.lmul, 0), (.iload_n 2, 0), (.i2l, 0), (.ladd, 0), (.lconst 1, 0), (.ladd, 0)] (by decide +kernel) rfl rfl ?_
  exact es_ret rfl rfl rfl ⟨by decide +kernel, rfl⟩ (Nat.le_refl _) (Nat.le_refl _)
def eF_6_wordAt (s : eh_F) (p0 : Int32) : Option (Int32) := eh_J (fun (a2 : Int32) => some a2) (fun j1 => eh_J (fun (u4 : Unit) => j1 0) (fun j3 => if p0 < 0 then (j3 ()) else (if p0 < 131072 then (if eh_in (eh_shr p0 2) 32768 then j1 (s.1 9 (eh_ix (eh_shr p0 2))) else none) else (j3 ()))))
set_option maxHeartbeats 4000000 in
set_option maxRecDepth 100000 in
theorem eS_6_wordAt (g : eh_P) (s : eh_F) (p0 : Int32) : eh_Sim g eM_6_wordAt (eh_R 1 0 0) (eh_pI s) 0 0 0 (eh_en 2 [.ref 2, .int p0]) [] (eh_FW s) (eF_6_wordAt s p0) := by
  unfold eF_6_wordAt
  refine ef_top (L := [some (.ref 2), some (.int p0)]) rfl ?_
  refine es_blk (pc' := 1) (L' := [some (.ref 2), some (.int p0)]) (st' := [.int p0]) [(.iload_n 1, 0)] (by decide +kernel) rfl rfl ?_
  refine ef_J (X := fun j1 => ∀ (a2 : Int32), eh_Sim g eM_6_wordAt (eh_R 1 0 0) (eh_pI s) 0 0 22 [none, none] [.int a2] (eh_FW s) ((j1 a2).bind some)) ?_ (fun j1 Hj1 => ?_)
  · intro a2
    exact es_ret rfl rfl rfl ⟨by decide +kernel, _, rfl, rfl⟩ (Nat.le_refl _) (Nat.le_refl _)
  refine ef_J (X := fun j3 => ∀ (u4 : Unit), eh_Sim g eM_6_wordAt (eh_R 1 0 0) (eh_pI s) 0 0 21 [none, none] [] (eh_FW s) ((j3 u4).bind some)) ?_ (fun j3 Hj3 => ?_)
  · intro u4
    refine es_blk (pc' := 22) (L' := [none, none]) (st' := [.int 0]) [(.iconst 0, 0)] (by decide +kernel) rfl rfl ?_
    exact Hj1 _
  refine es_lt (tgt := 21) (off := (20)) (by decide +kernel) (by decide) (fun h5 => ?_) (fun h5 => ?_)
  · refine ef_drop (L2 := [none, none]) [false, false] rfl rfl ?_
    exact Hj3 ()
  refine es_blk (pc' := 5) (L' := [some (.ref 2), some (.int p0)]) (st' := [.int p0]) [(.iload_n 1, 0)] (by decide +kernel) rfl rfl ?_
  refine es_ldc (v := 131072) eC_6_46 (by decide +kernel) ?_
  refine es_ige (tgt := 21) (off := (14)) (by decide +kernel) (by decide) (fun h6 => ?_) (fun h6 => ?_)
  · refine es_blk (pc' := 11) (L' := [some (.ref 2), some (.int p0)]) (st' := [.ref 2]) [(.aload_n 0, 0)] (by decide +kernel) rfl rfl ?_
    refine ef_getP (k := 2) (j := 6) (q := 9) rfl eL_6_31 rfl rfl rfl (by decide +kernel) ?_
    refine es_blk (pc' := 17) (L' := [some (.ref 2), some (.int p0)]) (st' := [.int (eh_shr p0 2), .ref 9]) [(.iload_n 1, 0), (.iconst 2, 2), (.ishr, 0)] (by decide +kernel) rfl rfl ?_
    refine ef_ald (k := 9) rfl (Or.inl ⟨rfl, rfl⟩) (by decide +kernel) (fun _ => ?_)
    refine es_goto (tgt := 22) (off := (4)) (by decide +kernel) (by decide) ?_
    refine ef_drop (L2 := [none, none]) [false, false] rfl rfl ?_
    exact Hj1 _
  refine ef_drop (L2 := [none, none]) [false, false] rfl rfl ?_
  exact Hj3 ()
def eF_6_isOpen (s : eh_F) (p0 : Int64) : Option (Int32) := eh_J (fun (u2 : Unit) => some 0) (fun j1 => if (lg_cmp p0 0) < 0 then (j1 ()) else (if (lg_cmp p0 131072) < 0 then (if eh_in (eh_shr (p0.toInt32) 8) 512 then eh_V ((s.1 10 (eh_ix (eh_shr (p0.toInt32) 8))) : Int32) (fun x5 => eh_J (fun (a7 : Int32) => if a7 = 0 ∨ a7 = 1 then some a7 else none) (fun j6 => eh_J (fun (u10 : Unit) => j6 1) (fun j9 => if x5 < 0 then (j9 ()) else (if eh_in x5 12 then if (s.1 3 (eh_ix x5)) = 2 then (j9 ()) else (j6 0) else none)))) else none) else (j1 ())))
set_option maxHeartbeats 4000000 in
set_option maxRecDepth 100000 in
theorem eS_6_isOpen (g : eh_P) (s : eh_F) (p0 : Int64) : eh_Sim g eM_6_isOpen (eh_R 1 0 0) (eh_pI s) 0 0 0 (eh_en 4 [.ref 2, .long p0]) [] (eh_FW s) (eF_6_isOpen s p0) := by
  unfold eF_6_isOpen
  refine ef_top (L := [some (.ref 2), some (.long p0), none, none]) rfl ?_
  refine es_blk (pc' := 3) (L' := [some (.ref 2), some (.long p0), none, none]) (st' := [.int (lg_cmp p0 0)]) [(.lload_n 1, 0), (.lconst 0, 0), (.lcmp, 0)] (by decide +kernel) rfl rfl ?_
  refine ef_J (X := fun j1 => ∀ (u2 : Unit), eh_Sim g eM_6_isOpen (eh_R 1 0 0) (eh_pI s) 0 0 14 [none, none, none, none] [] (eh_FW s) ((j1 u2).bind some)) ?_ (fun j1 Hj1 => ?_)
  · intro u2
    refine es_blk (pc' := 15) (L' := [none, none, none, none]) (st' := [.int 0]) [(.iconst 0, 0)] (by decide +kernel) rfl rfl ?_
    exact es_ret rfl rfl rfl ⟨by decide +kernel, _, rfl, eh_narZ (Or.inl rfl)⟩ (Nat.le_refl _) (Nat.le_refl _)
  refine es_lt (tgt := 14) (off := (11)) (by decide +kernel) (by decide) (fun h3 => ?_) (fun h3 => ?_)
  · refine ef_drop (L2 := [none, none, none, none]) [false, false, true, true] rfl rfl ?_
    exact Hj1 ()
  refine es_blk (pc' := 7) (L' := [some (.ref 2), some (.long p0), none, none]) (st' := [.long p0]) [(.lload_n 1, 0)] (by decide +kernel) rfl rfl ?_
  refine es_ldc2 (v := 131072) eC_6_58 (by decide +kernel) ?_
  refine es_blk (pc' := 11) (L' := [some (.ref 2), some (.long p0), none, none]) (st' := [.int (lg_cmp p0 131072)]) [(.lcmp, 0)] (by decide +kernel) rfl rfl ?_
  refine es_lt (tgt := 16) (off := (5)) (by decide +kernel) (by decide) (fun h4 => ?_) (fun h4 => ?_)
  · refine es_blk (pc' := 17) (L' := [some (.ref 2), some (.long p0), none, none]) (st' := [.ref 2]) [(.aload_n 0, 0)] (by decide +kernel) rfl rfl ?_
    refine ef_getP (k := 2) (j := 7) (q := 10) rfl eL_6_34 rfl rfl rfl (by decide +kernel) ?_
    refine es_blk (pc' := 25) (L' := [some (.ref 2), some (.long p0), none, none]) (st' := [.int (eh_shr (p0.toInt32) 8), .ref 10]) [(.lload_n 1, 0), (.l2i, 0), (.bipush 8, 8), (.ishr, 0)] (by decide +kernel) rfl rfl ?_
    refine ef_ald (k := 10) rfl (Or.inl ⟨rfl, rfl⟩) (by decide +kernel) (fun _ => ?_)
    refine es_blk (pc' := 27) (L' := [some (.ref 2), some (.long p0), none, some (.int (s.1 10 (eh_ix (eh_shr (p0.toInt32) 8))))]) (st' := []) [(.istore_n 3, 0)] (by decide +kernel) rfl rfl ?_
    refine ef_V (fun x5 => [some (.ref 2), some (.long p0), none, some (.int x5)]) (fun _ => []) (fun _ => eh_FW s) (fun x5 => ?_)
    refine es_blk (pc' := 28) (L' := [some (.ref 2), some (.long p0), none, some (.int x5)]) (st' := [.int x5]) [(.iload_n 3, 0)] (by decide +kernel) rfl rfl ?_
    refine ef_J (X := fun j6 => ∀ (a7 : Int32), eh_Sim g eM_6_isOpen (eh_R 1 0 0) (eh_pI s) 0 0 46 [none, none, none, none] [.int a7] (eh_FW s) ((j6 a7).bind some)) ?_ (fun j6 Hj6 => ?_)
    · intro a7
      refine es_chk (fun h8 => ?_)
      exact es_ret rfl rfl rfl ⟨by decide +kernel, _, rfl, eh_narZ h8⟩ (Nat.le_refl _) (Nat.le_refl _)
    refine ef_J (X := fun j9 => ∀ (u10 : Unit), eh_Sim g eM_6_isOpen (eh_R 1 0 0) (eh_pI s) 0 0 41 [none, none, none, none] [] (eh_FW s) ((j9 u10).bind some)) ?_ (fun j9 Hj9 => ?_)
    · intro u10
      refine es_blk (pc' := 42) (L' := [none, none, none, none]) (st' := [.int 1]) [(.iconst 1, 1)] (by decide +kernel) rfl rfl ?_
      refine es_goto (tgt := 46) (off := (4)) (by decide +kernel) (by decide) ?_
      exact Hj6 _
    refine es_lt (tgt := 41) (off := (13)) (by decide +kernel) (by decide) (fun h11 => ?_) (fun h11 => ?_)
    · refine ef_drop (L2 := [none, none, none, none]) [false, false, true, false] rfl rfl ?_
      exact Hj9 ()
    refine es_blk (pc' := 32) (L' := [some (.ref 2), some (.long p0), none, some (.int x5)]) (st' := [.ref 2]) [(.aload_n 0, 0)] (by decide +kernel) rfl rfl ?_
    refine ef_getP (k := 2) (j := 0) (q := 3) rfl eL_6_11 rfl rfl rfl (by decide +kernel) ?_
    refine es_blk (pc' := 36) (L' := [some (.ref 2), some (.long p0), none, some (.int x5)]) (st' := [.int x5, .ref 3]) [(.iload_n 3, 0)] (by decide +kernel) rfl rfl ?_
    refine ef_ald (k := 3) rfl (Or.inl ⟨rfl, rfl⟩) (by decide +kernel) (fun _ => ?_)
    refine es_blk (pc' := 38) (L' := [some (.ref 2), some (.long p0), none, some (.int x5)]) (st' := [.int 2, .int (s.1 3 (eh_ix x5))]) [(.iconst 2, 2)] (by decide +kernel) rfl rfl ?_
    refine es_ine (tgt := 45) (off := (7)) (by decide +kernel) (by decide) (fun h12 => ?_) (fun h12 => ?_)
    · refine ef_drop (L2 := [none, none, none, none]) [false, false, true, false] rfl rfl ?_
      exact Hj9 ()
    refine es_blk (pc' := 46) (L' := [some (.ref 2), some (.long p0), none, some (.int x5)]) (st' := [.int 0]) [(.iconst 0, 0)] (by decide +kernel) rfl rfl ?_
    refine ef_drop (L2 := [none, none, none, none]) [false, false, true, false] rfl rfl ?_
    exact Hj6 _
  refine ef_drop (L2 := [none, none, none, none]) [false, false, true, true] rfl rfl ?_
  exact Hj1 ()
def eF_6_sideOf (s : eh_F) (p0 : Int32) (p1 : Int32) : Option (Int32) := if eh_in p0 12 then if (s.1 6 (eh_ix p0)) = p1 then (some 1) else (if eh_in p0 12 then eh_J (fun (a3 : Int32) => some a3) (fun j2 => if (s.1 7 (eh_ix p0)) = p1 then (j2 2) else (j2 0)) else none) else none
set_option maxHeartbeats 4000000 in
set_option maxRecDepth 100000 in
theorem eS_6_sideOf (g : eh_P) (s : eh_F) (p0 : Int32) (p1 : Int32) : eh_Sim g eM_6_sideOf (eh_R 1 0 0) (eh_pI s) 0 0 0 (eh_en 3 [.ref 2, .int p0, .int p1]) [] (eh_FW s) (eF_6_sideOf s p0 p1) := by
  unfold eF_6_sideOf
  refine ef_top (L := [some (.ref 2), some (.int p0), some (.int p1)]) rfl ?_
  refine es_blk (pc' := 1) (L' := [some (.ref 2), some (.int p0), some (.int p1)]) (st' := [.ref 2]) [(.aload_n 0, 0)] (by decide +kernel) rfl rfl ?_
  refine ef_getP (k := 2) (j := 3) (q := 6) rfl eL_6_21 rfl rfl rfl (by decide +kernel) ?_
  refine es_blk (pc' := 5) (L' := [some (.ref 2), some (.int p0), some (.int p1)]) (st' := [.int p0, .ref 6]) [(.iload_n 1, 0)] (by decide +kernel) rfl rfl ?_
  refine ef_ald (k := 6) rfl (Or.inl ⟨rfl, rfl⟩) (by decide +kernel) (fun _ => ?_)
  refine es_blk (pc' := 7) (L' := [some (.ref 2), some (.int p0), some (.int p1)]) (st' := [.int p1, .int (s.1 6 (eh_ix p0))]) [(.iload_n 2, 0)] (by decide +kernel) rfl rfl ?_
  refine es_ine (tgt := 12) (off := (5)) (by decide +kernel) (by decide) (fun h1 => ?_) (fun h1 => ?_)
  · refine es_blk (pc' := 11) (L' := [some (.ref 2), some (.int p0), some (.int p1)]) (st' := [.int 1]) [(.iconst 1, 1)] (by decide +kernel) rfl rfl ?_
    exact es_ret rfl rfl rfl ⟨by decide +kernel, _, rfl, rfl⟩ (Nat.le_refl _) (Nat.le_refl _)
  refine es_blk (pc' := 13) (L' := [some (.ref 2), some (.int p0), some (.int p1)]) (st' := [.ref 2]) [(.aload_n 0, 0)] (by decide +kernel) rfl rfl ?_
  refine ef_getP (k := 2) (j := 4) (q := 7) rfl eL_6_24 rfl rfl rfl (by decide +kernel) ?_
  refine es_blk (pc' := 17) (L' := [some (.ref 2), some (.int p0), some (.int p1)]) (st' := [.int p0, .ref 7]) [(.iload_n 1, 0)] (by decide +kernel) rfl rfl ?_
  refine ef_ald (k := 7) rfl (Or.inl ⟨rfl, rfl⟩) (by decide +kernel) (fun _ => ?_)
  refine es_blk (pc' := 19) (L' := [some (.ref 2), some (.int p0), some (.int p1)]) (st' := [.int p1, .int (s.1 7 (eh_ix p0))]) [(.iload_n 2, 0)] (by decide +kernel) rfl rfl ?_
  refine ef_J (X := fun j2 => ∀ (a3 : Int32), eh_Sim g eM_6_sideOf (eh_R 1 0 0) (eh_pI s) 0 0 27 [none, none, none] [.int a3] (eh_FW s) ((j2 a3).bind some)) ?_ (fun j2 Hj2 => ?_)
  · intro a3
    exact es_ret rfl rfl rfl ⟨by decide +kernel, _, rfl, rfl⟩ (Nat.le_refl _) (Nat.le_refl _)
  refine es_ine (tgt := 26) (off := (7)) (by decide +kernel) (by decide) (fun h4 => ?_) (fun h4 => ?_)
  · refine es_blk (pc' := 23) (L' := [some (.ref 2), some (.int p0), some (.int p1)]) (st' := [.int 2]) [(.iconst 2, 2)] (by decide +kernel) rfl rfl ?_
    refine es_goto (tgt := 27) (off := (4)) (by decide +kernel) (by decide) ?_
    refine ef_drop (L2 := [none, none, none]) [false, false, false] rfl rfl ?_
    exact Hj2 _
  refine es_blk (pc' := 27) (L' := [some (.ref 2), some (.int p0), some (.int p1)]) (st' := [.int 0]) [(.iconst 0, 0)] (by decide +kernel) rfl rfl ?_
  refine ef_drop (L2 := [none, none, none]) [false, false, false] rfl rfl ?_
  exact Hj2 _
def eF_6_tellsOfStores (s : eh_F) (p0 : Int32) : Option (Int32) := eh_J (fun (a2 : Int32) => eh_J (fun (a4 : Int32) => if a4 = 0 ∨ a4 = 1 then some a4 else none) (fun j3 => eh_J (fun (u7 : Unit) => j3 0) (fun j6 => if a2 < 0 then (j6 ()) else (if eh_in a2 12 then eh_J (fun (u10 : Unit) => j3 1) (fun j9 => if (s.1 3 (eh_ix a2)) = 2 then (j9 ()) else (if eh_in a2 12 then if (s.1 3 (eh_ix a2)) = 3 then (j9 ()) else (j6 ()) else none)) else none)))) (fun j1 => eh_J (fun (u14 : Unit) => j1 (-1)) (fun j13 => if p0 < 0 then (j13 ()) else (if p0 < 131072 then (if eh_in (eh_shr p0 8) 512 then j1 (s.1 10 (eh_ix (eh_shr p0 8))) else none) else (j13 ()))))
set_option maxHeartbeats 4000000 in
set_option maxRecDepth 100000 in
theorem eS_6_tellsOfStores (g : eh_P) (s : eh_F) (p0 : Int32) : eh_Sim g eM_6_tellsOfStores (eh_R 1 0 0) (eh_pI s) 0 0 0 (eh_en 3 [.ref 2, .int p0]) [] (eh_FW s) (eF_6_tellsOfStores s p0) := by
  unfold eF_6_tellsOfStores
  refine ef_top (L := [some (.ref 2), some (.int p0), none]) rfl ?_
  refine es_blk (pc' := 1) (L' := [some (.ref 2), some (.int p0), none]) (st' := [.int p0]) [(.iload_n 1, 0)] (by decide +kernel) rfl rfl ?_
  refine ef_J (X := fun j1 => ∀ (a2 : Int32), eh_Sim g eM_6_tellsOfStores (eh_R 1 0 0) (eh_pI s) 0 0 23 [some (.ref 2), none, none] [.int a2] (eh_FW s) ((j1 a2).bind some)) ?_ (fun j1 Hj1 => ?_)
  · intro a2
    refine es_blk (pc' := 25) (L' := [some (.ref 2), none, some (.int a2)]) (st' := [.int a2]) [(.istore_n 2, 0), (.iload_n 2, 0)] (by decide +kernel) rfl rfl ?_
    refine ef_J (X := fun j3 => ∀ (a4 : Int32), eh_Sim g eM_6_tellsOfStores (eh_R 1 0 0) (eh_pI s) 0 0 53 [none, none, none] [.int a4] (eh_FW s) ((j3 a4).bind some)) ?_ (fun j3 Hj3 => ?_)
    · intro a4
      refine es_chk (fun h5 => ?_)
      exact es_ret rfl rfl rfl ⟨by decide +kernel, _, rfl, eh_narZ h5⟩ (Nat.le_refl _) (Nat.le_refl _)
    refine ef_J (X := fun j6 => ∀ (u7 : Unit), eh_Sim g eM_6_tellsOfStores (eh_R 1 0 0) (eh_pI s) 0 0 52 [none, none, none] [] (eh_FW s) ((j6 u7).bind some)) ?_ (fun j6 Hj6 => ?_)
    · intro u7
      refine es_blk (pc' := 53) (L' := [none, none, none]) (st' := [.int 0]) [(.iconst 0, 0)] (by decide +kernel) rfl rfl ?_
      exact Hj3 _
    refine es_lt (tgt := 52) (off := (27)) (by decide +kernel) (by decide) (fun h8 => ?_) (fun h8 => ?_)
    · refine ef_drop (L2 := [none, none, none]) [false, true, false] rfl rfl ?_
      exact Hj6 ()
    refine es_blk (pc' := 29) (L' := [some (.ref 2), none, some (.int a2)]) (st' := [.ref 2]) [(.aload_n 0, 0)] (by decide +kernel) rfl rfl ?_
    refine ef_getP (k := 2) (j := 0) (q := 3) rfl eL_6_11 rfl rfl rfl (by decide +kernel) ?_
    refine es_blk (pc' := 33) (L' := [some (.ref 2), none, some (.int a2)]) (st' := [.int a2, .ref 3]) [(.iload_n 2, 0)] (by decide +kernel) rfl rfl ?_
    refine ef_ald (k := 3) rfl (Or.inl ⟨rfl, rfl⟩) (by decide +kernel) (fun _ => ?_)
    refine es_blk (pc' := 35) (L' := [some (.ref 2), none, some (.int a2)]) (st' := [.int 2, .int (s.1 3 (eh_ix a2))]) [(.iconst 2, 2)] (by decide +kernel) rfl rfl ?_
    refine ef_J (X := fun j9 => ∀ (u10 : Unit), eh_Sim g eM_6_tellsOfStores (eh_R 1 0 0) (eh_pI s) 0 0 48 [none, none, none] [] (eh_FW s) ((j9 u10).bind some)) ?_ (fun j9 Hj9 => ?_)
    · intro u10
      refine es_blk (pc' := 49) (L' := [none, none, none]) (st' := [.int 1]) [(.iconst 1, 1)] (by decide +kernel) rfl rfl ?_
      refine es_goto (tgt := 53) (off := (4)) (by decide +kernel) (by decide) ?_
      exact Hj3 _
    refine es_ieq (tgt := 48) (off := (13)) (by decide +kernel) (by decide) (fun h11 => ?_) (fun h11 => ?_)
    · refine ef_drop (L2 := [none, none, none]) [false, true, false] rfl rfl ?_
      exact Hj9 ()
    refine es_blk (pc' := 39) (L' := [some (.ref 2), none, some (.int a2)]) (st' := [.ref 2]) [(.aload_n 0, 0)] (by decide +kernel) rfl rfl ?_
    refine ef_getP (k := 2) (j := 0) (q := 3) rfl eL_6_11 rfl rfl rfl (by decide +kernel) ?_
    refine es_blk (pc' := 43) (L' := [some (.ref 2), none, some (.int a2)]) (st' := [.int a2, .ref 3]) [(.iload_n 2, 0)] (by decide +kernel) rfl rfl ?_
    refine ef_ald (k := 3) rfl (Or.inl ⟨rfl, rfl⟩) (by decide +kernel) (fun _ => ?_)
    refine es_blk (pc' := 45) (L' := [some (.ref 2), none, some (.int a2)]) (st' := [.int 3, .int (s.1 3 (eh_ix a2))]) [(.iconst 3, 3)] (by decide +kernel) rfl rfl ?_
    refine es_ine (tgt := 52) (off := (7)) (by decide +kernel) (by decide) (fun h12 => ?_) (fun h12 => ?_)
    · refine ef_drop (L2 := [none, none, none]) [false, true, false] rfl rfl ?_
      exact Hj9 ()
    refine ef_drop (L2 := [none, none, none]) [false, true, false] rfl rfl ?_
    exact Hj6 ()
  refine ef_J (X := fun j13 => ∀ (u14 : Unit), eh_Sim g eM_6_tellsOfStores (eh_R 1 0 0) (eh_pI s) 0 0 22 [some (.ref 2), none, none] [] (eh_FW s) ((j13 u14).bind some)) ?_ (fun j13 Hj13 => ?_)
  · intro u14
    refine es_blk (pc' := 23) (L' := [some (.ref 2), none, none]) (st' := [.int (-1)]) [(.iconst (-1), (-1))] (by decide +kernel) rfl rfl ?_
    exact Hj1 _
  refine es_lt (tgt := 22) (off := (21)) (by decide +kernel) (by decide) (fun h15 => ?_) (fun h15 => ?_)
  · refine ef_drop (L2 := [some (.ref 2), none, none]) [true, false, true] rfl rfl ?_
    exact Hj13 ()
  refine es_blk (pc' := 5) (L' := [some (.ref 2), some (.int p0), none]) (st' := [.int p0]) [(.iload_n 1, 0)] (by decide +kernel) rfl rfl ?_
  refine es_ldc (v := 131072) eC_6_46 (by decide +kernel) ?_
  refine es_ige (tgt := 22) (off := (15)) (by decide +kernel) (by decide) (fun h16 => ?_) (fun h16 => ?_)
  · refine es_blk (pc' := 11) (L' := [some (.ref 2), some (.int p0), none]) (st' := [.ref 2]) [(.aload_n 0, 0)] (by decide +kernel) rfl rfl ?_
    refine ef_getP (k := 2) (j := 7) (q := 10) rfl eL_6_34 rfl rfl rfl (by decide +kernel) ?_
    refine es_blk (pc' := 18) (L' := [some (.ref 2), some (.int p0), none]) (st' := [.int (eh_shr p0 8), .ref 10]) [(.iload_n 1, 0), (.bipush 8, 8), (.ishr, 0)] (by decide +kernel) rfl rfl ?_
    refine ef_ald (k := 10) rfl (Or.inl ⟨rfl, rfl⟩) (by decide +kernel) (fun _ => ?_)
    refine es_goto (tgt := 23) (off := (4)) (by decide +kernel) (by decide) ?_
    refine ef_drop (L2 := [some (.ref 2), none, none]) [true, false, true] rfl rfl ?_
    exact Hj1 _
  refine ef_drop (L2 := [some (.ref 2), none, none]) [true, false, true] rfl rfl ?_
  exact Hj13 ()
def eF_6_change (s : eh_F) (p0 : Int32) (p1 : Int32) (p2 : Int32) : Option (eh_F) := eh_J (fun (u2 : Unit) => some s) (fun j1 => if p0 < 0 then (j1 ()) else (if p0 < 131072 then (eh_V ((8 * (p0 &&& 3)) : Int32) (fun x5 => eh_J (fun (a7 : Int32) => if eh_in (eh_shr p0 2) 32768 then if eh_in (eh_shr p0 2) 32768 then eh_V (eh_tI s 9 (eh_ix (eh_shr p0 2)) (((s.1 9 (eh_ix (eh_shr p0 2))) &&& (a7 ^^^ (-1))) ||| ((eh_shl p1 x5) &&& a7))) (fun s8 => some s8) else none else none) (fun j6 => if p2 = 4 then (j6 (-1)) else (eh_J (fun (a11 : Int32) => j6 (eh_shl a11 x5)) (fun j10 => if p2 = 2 then (j10 65535) else (j10 255)))))) else (j1 ())))
set_option maxHeartbeats 4000000 in
set_option maxRecDepth 100000 in
theorem eS_6_change (g : eh_P) (s : eh_F) (p0 : Int32) (p1 : Int32) (p2 : Int32) : eh_Sim g eM_6_change (eh_R 1 0 0) eh_eV 0 0 0 (eh_en 6 [.ref 2, .int p0, .int p1, .int p2]) [] (eh_FW s) (eF_6_change s p0 p1 p2) := by
  unfold eF_6_change
  refine ef_top (L := [some (.ref 2), some (.int p0), some (.int p1), some (.int p2), none, none]) rfl ?_
  refine es_blk (pc' := 1) (L' := [some (.ref 2), some (.int p0), some (.int p1), some (.int p2), none, none]) (st' := [.int p0]) [(.iload_n 1, 0)] (by decide +kernel) rfl rfl ?_
  refine ef_J (X := fun j1 => ∀ (u2 : Unit), eh_Sim g eM_6_change (eh_R 1 0 0) eh_eV 0 0 10 [none, none, none, none, none, none] [] (eh_FW s) ((j1 u2).bind some)) ?_ (fun j1 Hj1 => ?_)
  · intro u2
    exact es_ret rfl rfl rfl ⟨by decide +kernel, rfl⟩ (Nat.le_refl _) (Nat.le_refl _)
  refine es_lt (tgt := 10) (off := (9)) (by decide +kernel) (by decide) (fun h3 => ?_) (fun h3 => ?_)
  · refine ef_drop (L2 := [none, none, none, none, none, none]) [false, false, false, false, true, true] rfl rfl ?_
    exact Hj1 ()
  refine es_blk (pc' := 5) (L' := [some (.ref 2), some (.int p0), some (.int p1), some (.int p2), none, none]) (st' := [.int p0]) [(.iload_n 1, 0)] (by decide +kernel) rfl rfl ?_
  refine es_ldc (v := 131072) eC_6_46 (by decide +kernel) ?_
  refine es_ilt (tgt := 11) (off := (4)) (by decide +kernel) (by decide) (fun h4 => ?_) (fun h4 => ?_)
  · refine es_blk (pc' := 19) (L' := [some (.ref 2), some (.int p0), some (.int p1), some (.int p2), some (.int (8 * (p0 &&& 3))), none]) (st' := []) [(.bipush 8, 8), (.iload_n 1, 0), (.iconst 3, 3), (.iand, 0), (.imul, 0), (.istore 4, 0)] (by decide +kernel) rfl rfl ?_
    refine ef_V (fun x5 => [some (.ref 2), some (.int p0), some (.int p1), some (.int p2), some (.int x5), none]) (fun _ => []) (fun _ => eh_FW s) (fun x5 => ?_)
    refine es_blk (pc' := 21) (L' := [some (.ref 2), some (.int p0), some (.int p1), some (.int p2), some (.int x5), none]) (st' := [.int 4, .int p2]) [(.iload_n 3, 0), (.iconst 4, 4)] (by decide +kernel) rfl rfl ?_
    refine ef_J (X := fun j6 => ∀ (a7 : Int32), eh_Sim g eM_6_change (eh_R 1 0 0) eh_eV 0 0 44 [some (.ref 2), some (.int p0), some (.int p1), none, some (.int x5), none] [.int a7] (eh_FW s) ((j6 a7).bind some)) ?_ (fun j6 Hj6 => ?_)
    · intro a7
      refine es_blk (pc' := 47) (L' := [some (.ref 2), some (.int p0), some (.int p1), none, some (.int x5), some (.int a7)]) (st' := [.ref 2]) [(.istore 5, 0), (.aload_n 0, 0)] (by decide +kernel) rfl rfl ?_
      refine ef_getP (k := 2) (j := 6) (q := 9) rfl eL_6_31 rfl rfl rfl (by decide +kernel) ?_
      refine es_blk (pc' := 54) (L' := [some (.ref 2), some (.int p0), some (.int p1), none, some (.int x5), some (.int a7)]) (st' := [.ref 2, .int (eh_shr p0 2), .ref 9]) [(.iload_n 1, 0), (.iconst 2, 2), (.ishr, 0), (.aload_n 0, 0)] (by decide +kernel) rfl rfl ?_
      refine ef_getP (k := 2) (j := 6) (q := 9) rfl eL_6_31 rfl rfl rfl (by decide +kernel) ?_
      refine es_blk (pc' := 60) (L' := [some (.ref 2), some (.int p0), some (.int p1), none, some (.int x5), some (.int a7)]) (st' := [.int (eh_shr p0 2), .ref 9, .int (eh_shr p0 2), .ref 9]) [(.iload_n 1, 0), (.iconst 2, 2), (.ishr, 0)] (by decide +kernel) rfl rfl ?_
      refine ef_ald (k := 9) rfl (Or.inl ⟨rfl, rfl⟩) (by decide +kernel) (fun _ => ?_)
      refine es_blk (pc' := 74) (L' := [some (.ref 2), some (.int p0), some (.int p1), none, some (.int x5), some (.int a7)]) (st' := [.int (((s.1 9 (eh_ix (eh_shr p0 2))) &&& (a7 ^^^ (-1))) ||| ((eh_shl p1 x5) &&& a7)), .int (eh_shr p0 2), .ref 9]) [(.iload 5, 0), (.iconst (-1), (-1)), (.ixor, 0), (.iand, 0), (.iload_n 2, 0), (.iload 4, 0), (.ishl, 0), (.iload 5, 0), (.iand, 0), (.ior, 0)] (by decide +kernel) rfl rfl ?_
      refine ef_ast (k := 9) rfl (by decide +kernel) (fun _ => ?_)
      refine ef_V (fun _ => [some (.ref 2), some (.int p0), some (.int p1), none, some (.int x5), some (.int a7)]) (fun _ => []) (fun s8 => eh_FW s8) (fun s8 => ?_)
      exact es_ret rfl rfl rfl ⟨by decide +kernel, rfl⟩ (Nat.le_refl _) (Nat.le_refl _)
    refine es_ine (tgt := 28) (off := (7)) (by decide +kernel) (by decide) (fun h9 => ?_) (fun h9 => ?_)
    · refine es_blk (pc' := 25) (L' := [some (.ref 2), some (.int p0), some (.int p1), some (.int p2), some (.int x5), none]) (st' := [.int (-1)]) [(.iconst (-1), (-1))] (by decide +kernel) rfl rfl ?_
      refine es_goto (tgt := 44) (off := (19)) (by decide +kernel) (by decide) ?_
      refine ef_drop (L2 := [some (.ref 2), some (.int p0), some (.int p1), none, some (.int x5), none]) [true, true, true, false, true, true] rfl rfl ?_
      exact Hj6 _
    refine es_blk (pc' := 30) (L' := [some (.ref 2), some (.int p0), some (.int p1), some (.int p2), some (.int x5), none]) (st' := [.int 2, .int p2]) [(.iload_n 3, 0), (.iconst 2, 2)] (by decide +kernel) rfl rfl ?_
    refine ef_J (X := fun j10 => ∀ (a11 : Int32), eh_Sim g eM_6_change (eh_R 1 0 0) eh_eV 0 0 41 [some (.ref 2), some (.int p0), some (.int p1), none, some (.int x5), none] [.int a11] (eh_FW s) ((j10 a11).bind some)) ?_ (fun j10 Hj10 => ?_)
    · intro a11
      refine es_blk (pc' := 44) (L' := [some (.ref 2), some (.int p0), some (.int p1), none, some (.int x5), none]) (st' := [.int (eh_shl a11 x5)]) [(.iload 4, 0), (.ishl, 0)] (by decide +kernel) rfl rfl ?_
      exact Hj6 _
    refine es_ine (tgt := 38) (off := (8)) (by decide +kernel) (by decide) (fun h12 => ?_) (fun h12 => ?_)
    · refine es_ldc (v := 65535) eC_6_67 (by decide +kernel) ?_
      refine es_goto (tgt := 41) (off := (6)) (by decide +kernel) (by decide) ?_
      refine ef_drop (L2 := [some (.ref 2), some (.int p0), some (.int p1), none, some (.int x5), none]) [true, true, true, false, true, true] rfl rfl ?_
      exact Hj10 _
    refine es_blk (pc' := 41) (L' := [some (.ref 2), some (.int p0), some (.int p1), some (.int p2), some (.int x5), none]) (st' := [.int 255]) [(.sipush 255, 255)] (by decide +kernel) rfl rfl ?_
    refine ef_drop (L2 := [some (.ref 2), some (.int p0), some (.int p1), none, some (.int x5), none]) [true, true, true, false, true, true] rfl rfl ?_
    exact Hj10 _
  refine ef_drop (L2 := [none, none, none, none, none, none]) [false, false, false, false, true, true] rfl rfl ?_
  exact Hj1 ()
def eF_6_wipe (s : eh_F) (p0 : Int32) (p1 : Int32) : Option (eh_F) := eh_V ((eh_shr (p0 + p1) 2) : Int32) (fun x1 => eh_V ((eh_shr p0 2) : Int32) (fun x2 => Option.bind (eh_loop (fun (r17 : (Int32 × eh_F) → Option (eh_F)) (t3 : Int32 × eh_F) => if t3.1 < 0 then (some t3.2) else (if t3.1 < x1 then (if t3.1 < (Int32.ofNat 32768) then (if eh_in t3.1 32768 then eh_V (eh_tI t3.2 9 (eh_ix t3.1) 0) (fun s21 => eh_V ((t3.1 + 1) : Int32) (fun x22 => r17 (x22, s21))) else none) else (some t3.2)) else (some t3.2))) eh_FU (x2, s)) (fun (e4 : eh_F) => Option.bind (eh_loop (fun (r8 : (Int32 × eh_F) → Option (eh_F)) (t5 : Int32 × eh_F) => if t5.1 < 2 then (if eh_in t5.1 2 then eh_J (fun (s11 : eh_F) => eh_V ((t5.1 + 1) : Int32) (fun x12 => r8 (x12, s11))) (fun j10 => if (t5.2.1 11 (eh_ix t5.1)) < (eh_shr p0 2) then (j10 t5.2) else (if eh_in t5.1 2 then if (t5.2.1 11 (eh_ix t5.1)) < x1 then (if eh_in t5.1 2 then eh_V (eh_tI t5.2 11 (eh_ix t5.1) (-1)) (fun s15 => j10 s15) else none) else (j10 t5.2) else none)) else none) else (some t5.2)) eh_FU (0, e4)) (fun (e6 : eh_F) => some e6))))
set_option maxHeartbeats 4000000 in
set_option maxRecDepth 100000 in
theorem eS_6_wipe (g : eh_P) (s : eh_F) (p0 : Int32) (p1 : Int32) : eh_Sim g eM_6_wipe (eh_R 1 0 0) eh_eV 0 0 0 (eh_en 5 [.ref 2, .int p0, .int p1]) [] (eh_FW s) (eF_6_wipe s p0 p1) := by
  unfold eF_6_wipe
  refine ef_top (L := [some (.ref 2), some (.int p0), some (.int p1), none, none]) rfl ?_
  refine es_blk (pc' := 6) (L' := [some (.ref 2), some (.int p0), some (.int p1), some (.int (eh_shr (p0 + p1) 2)), none]) (st' := []) [(.iload_n 1, 0), (.iload_n 2, 0), (.iadd, 0), (.iconst 2, 2), (.ishr, 0), (.istore_n 3, 0)] (by decide +kernel) rfl rfl ?_
  refine ef_V (fun x1 => [some (.ref 2), some (.int p0), some (.int p1), some (.int x1), none]) (fun _ => []) (fun _ => eh_FW s) (fun x1 => ?_)
  refine es_blk (pc' := 11) (L' := [some (.ref 2), some (.int p0), some (.int p1), some (.int x1), some (.int (eh_shr p0 2))]) (st' := []) [(.iload_n 1, 0), (.iconst 2, 2), (.ishr, 0), (.istore 4, 0)] (by decide +kernel) rfl rfl ?_
  refine ef_V (fun x2 => [some (.ref 2), some (.int p0), some (.int p1), some (.int x1), some (.int x2)]) (fun _ => []) (fun _ => eh_FW s) (fun x2 => ?_)
  refine ef_drop (L2 := [some (.ref 2), some (.int p0), none, some (.int x1), some (.int x2)]) [true, true, false, true, true] rfl rfl ?_
  refine ef_loop1 (n := eh_FU) (i := (x2, s)) (px := 46) (fun (t3 : Int32 × eh_F) => [some (.ref 2), some (.int p0), none, some (.int x1), some (.int t3.1)]) (fun (t3 : Int32 × eh_F) => []) (fun (t3 : Int32 × eh_F) => eh_FW t3.2) (fun (e4 : eh_F) => [some (.ref 2), some (.int p0), none, some (.int x1), none]) (fun (e4 : eh_F) => []) (fun (e4 : eh_F) => eh_FW e4) (fun e4 => ?_) (fun K16 HxK16_0 r17 Hr17 t3 => ?_)
  · refine es_blk (pc' := 49) (L' := [some (.ref 2), some (.int p0), none, some (.int x1), some (.int 0)]) (st' := []) [(.iconst 0, 0), (.istore 4, 0)] (by decide +kernel) rfl rfl ?_
    refine ef_loop1 (n := eh_FU) (i := (0, e4)) (px := 93) (fun (t5 : Int32 × eh_F) => [some (.ref 2), some (.int p0), none, some (.int x1), some (.int t5.1)]) (fun (t5 : Int32 × eh_F) => []) (fun (t5 : Int32 × eh_F) => eh_FW t5.2) (fun (e6 : eh_F) => [none, none, none, none, none]) (fun (e6 : eh_F) => []) (fun (e6 : eh_F) => eh_FW e6) (fun e6 => ?_) (fun K7 HxK7_0 r8 Hr8 t5 => ?_)
    · exact es_ret rfl rfl rfl ⟨by decide +kernel, rfl⟩ (Nat.le_refl _) (Nat.le_refl _)
    · refine es_blk (pc' := 52) (L' := [some (.ref 2), some (.int p0), none, some (.int x1), some (.int t5.1)]) (st' := [.int 2, .int t5.1]) [(.iload 4, 0), (.iconst 2, 2)] (by decide +kernel) rfl rfl ?_
      refine es_ige (tgt := 93) (off := (41)) (by decide +kernel) (by decide) (fun h9 => ?_) (fun h9 => ?_)
      · refine es_blk (pc' := 56) (L' := [some (.ref 2), some (.int p0), none, some (.int x1), some (.int t5.1)]) (st' := [.ref 2]) [(.aload_n 0, 0)] (by decide +kernel) rfl rfl ?_
        refine ef_getP (k := 2) (j := 8) (q := 11) rfl eL_6_37 rfl rfl rfl (by decide +kernel) ?_
        refine es_blk (pc' := 61) (L' := [some (.ref 2), some (.int p0), none, some (.int x1), some (.int t5.1)]) (st' := [.int t5.1, .ref 11]) [(.iload 4, 0)] (by decide +kernel) rfl rfl ?_
        refine ef_ald (k := 11) rfl (Or.inl ⟨rfl, rfl⟩) (by decide +kernel) (fun _ => ?_)
        refine es_blk (pc' := 65) (L' := [some (.ref 2), some (.int p0), none, some (.int x1), some (.int t5.1)]) (st' := [.int (eh_shr p0 2), .int (t5.2.1 11 (eh_ix t5.1))]) [(.iload_n 1, 0), (.iconst 2, 2), (.ishr, 0)] (by decide +kernel) rfl rfl ?_
        refine ef_J (X := fun j10 => ∀ (s11 : eh_F), eh_Sim g eM_6_wipe (eh_R 1 0 0) eh_eV 0 0 87 [some (.ref 2), some (.int p0), none, some (.int x1), some (.int t5.1)] [] (eh_FW s11) ((j10 s11).bind K7)) ?_ (fun j10 Hj10 => ?_)
        · intro s11
          refine es_blk (pc' := 90) (L' := [some (.ref 2), some (.int p0), none, some (.int x1), some (.int (t5.1 + 1))]) (st' := []) [(.iinc 4 1, 1)] (by decide +kernel) rfl rfl ?_
          refine ef_V (fun x12 => [some (.ref 2), some (.int p0), none, some (.int x1), some (.int x12)]) (fun _ => []) (fun _ => eh_FW s11) (fun x12 => ?_)
          refine es_goto (tgt := 49) (off := (-41)) (by decide +kernel) (by decide) ?_
          exact Hr8 (x12, s11)
        refine es_ilt (tgt := 87) (off := (22)) (by decide +kernel) (by decide) (fun h13 => ?_) (fun h13 => ?_)
        · exact Hj10 _
        refine es_blk (pc' := 69) (L' := [some (.ref 2), some (.int p0), none, some (.int x1), some (.int t5.1)]) (st' := [.ref 2]) [(.aload_n 0, 0)] (by decide +kernel) rfl rfl ?_
        refine ef_getP (k := 2) (j := 8) (q := 11) rfl eL_6_37 rfl rfl rfl (by decide +kernel) ?_
        refine es_blk (pc' := 74) (L' := [some (.ref 2), some (.int p0), none, some (.int x1), some (.int t5.1)]) (st' := [.int t5.1, .ref 11]) [(.iload 4, 0)] (by decide +kernel) rfl rfl ?_
        refine ef_ald (k := 11) rfl (Or.inl ⟨rfl, rfl⟩) (by decide +kernel) (fun _ => ?_)
        refine es_blk (pc' := 76) (L' := [some (.ref 2), some (.int p0), none, some (.int x1), some (.int t5.1)]) (st' := [.int x1, .int (t5.2.1 11 (eh_ix t5.1))]) [(.iload_n 3, 0)] (by decide +kernel) rfl rfl ?_
        refine es_ige (tgt := 87) (off := (11)) (by decide +kernel) (by decide) (fun h14 => ?_) (fun h14 => ?_)
        · refine es_blk (pc' := 80) (L' := [some (.ref 2), some (.int p0), none, some (.int x1), some (.int t5.1)]) (st' := [.ref 2]) [(.aload_n 0, 0)] (by decide +kernel) rfl rfl ?_
          refine ef_getP (k := 2) (j := 8) (q := 11) rfl eL_6_37 rfl rfl rfl (by decide +kernel) ?_
          refine es_blk (pc' := 86) (L' := [some (.ref 2), some (.int p0), none, some (.int x1), some (.int t5.1)]) (st' := [.int (-1), .int t5.1, .ref 11]) [(.iload 4, 0), (.iconst (-1), (-1))] (by decide +kernel) rfl rfl ?_
          refine ef_ast (k := 11) rfl (by decide +kernel) (fun _ => ?_)
          refine ef_V (fun _ => [some (.ref 2), some (.int p0), none, some (.int x1), some (.int t5.1)]) (fun _ => []) (fun s15 => eh_FW s15) (fun s15 => ?_)
          exact Hj10 _
        exact Hj10 _
      refine ef_drop (L2 := [none, none, none, none, none]) [false, false, true, false, false] rfl rfl ?_
      exact HxK7_0 t5.2
  · refine es_blk (pc' := 13) (L' := [some (.ref 2), some (.int p0), none, some (.int x1), some (.int t3.1)]) (st' := [.int t3.1]) [(.iload 4, 0)] (by decide +kernel) rfl rfl ?_
    refine es_lt (tgt := 46) (off := (33)) (by decide +kernel) (by decide) (fun h18 => ?_) (fun h18 => ?_)
    · refine ef_drop (L2 := [some (.ref 2), some (.int p0), none, some (.int x1), none]) [true, true, true, true, false] rfl rfl ?_
      exact HxK16_0 t3.2
    refine es_blk (pc' := 19) (L' := [some (.ref 2), some (.int p0), none, some (.int x1), some (.int t3.1)]) (st' := [.int x1, .int t3.1]) [(.iload 4, 0), (.iload_n 3, 0)] (by decide +kernel) rfl rfl ?_
    refine es_ige (tgt := 46) (off := (27)) (by decide +kernel) (by decide) (fun h19 => ?_) (fun h19 => ?_)
    · refine es_blk (pc' := 25) (L' := [some (.ref 2), some (.int p0), none, some (.int x1), some (.int t3.1)]) (st' := [.ref 2, .int t3.1]) [(.iload 4, 0), (.aload_n 0, 0)] (by decide +kernel) rfl rfl ?_
      refine ef_getP (k := 2) (j := 6) (q := 9) rfl eL_6_31 rfl rfl rfl (by decide +kernel) ?_
      refine ef_alen (k := 9) rfl (by decide) (by decide +kernel) ?_
      refine es_ige (tgt := 46) (off := (17)) (by decide +kernel) (by decide) (fun h20 => ?_) (fun h20 => ?_)
      · refine es_blk (pc' := 33) (L' := [some (.ref 2), some (.int p0), none, some (.int x1), some (.int t3.1)]) (st' := [.ref 2]) [(.aload_n 0, 0)] (by decide +kernel) rfl rfl ?_
        refine ef_getP (k := 2) (j := 6) (q := 9) rfl eL_6_31 rfl rfl rfl (by decide +kernel) ?_
        refine es_blk (pc' := 39) (L' := [some (.ref 2), some (.int p0), none, some (.int x1), some (.int t3.1)]) (st' := [.int 0, .int t3.1, .ref 9]) [(.iload 4, 0), (.iconst 0, 0)] (by decide +kernel) rfl rfl ?_
        refine ef_ast (k := 9) rfl (by decide +kernel) (fun _ => ?_)
        refine ef_V (fun _ => [some (.ref 2), some (.int p0), none, some (.int x1), some (.int t3.1)]) (fun _ => []) (fun s21 => eh_FW s21) (fun s21 => ?_)
        refine es_blk (pc' := 43) (L' := [some (.ref 2), some (.int p0), none, some (.int x1), some (.int (t3.1 + 1))]) (st' := []) [(.iinc 4 1, 1)] (by decide +kernel) rfl rfl ?_
        refine ef_V (fun x22 => [some (.ref 2), some (.int p0), none, some (.int x1), some (.int x22)]) (fun _ => []) (fun _ => eh_FW s21) (fun x22 => ?_)
        refine es_goto (tgt := 11) (off := (-32)) (by decide +kernel) (by decide) ?_
        exact Hr17 (x22, s21)
      refine ef_drop (L2 := [some (.ref 2), some (.int p0), none, some (.int x1), none]) [true, true, true, true, false] rfl rfl ?_
      exact HxK16_0 t3.2
    refine ef_drop (L2 := [some (.ref 2), some (.int p0), none, some (.int x1), none]) [true, true, true, true, false] rfl rfl ?_
    exact HxK16_0 t3.2
def eF_6_reserve (s : eh_F) (p0 : Int32) (p1 : Int32) : Option (eh_F) := if eh_in p0 2 then eh_V (eh_tI s 11 (eh_ix p0) (eh_shr p1 2)) (fun s1 => some s1) else none
set_option maxHeartbeats 4000000 in
set_option maxRecDepth 100000 in
theorem eS_6_reserve (g : eh_P) (s : eh_F) (p0 : Int32) (p1 : Int32) : eh_Sim g eM_6_reserve (eh_R 1 0 0) eh_eV 0 0 0 (eh_en 3 [.ref 2, .int p0, .int p1]) [] (eh_FW s) (eF_6_reserve s p0 p1) := by
  unfold eF_6_reserve
  refine ef_top (L := [some (.ref 2), some (.int p0), some (.int p1)]) rfl ?_
  refine es_blk (pc' := 1) (L' := [some (.ref 2), some (.int p0), some (.int p1)]) (st' := [.ref 2]) [(.aload_n 0, 0)] (by decide +kernel) rfl rfl ?_
  refine ef_getP (k := 2) (j := 8) (q := 11) rfl eL_6_37 rfl rfl rfl (by decide +kernel) ?_
  refine es_blk (pc' := 8) (L' := [some (.ref 2), some (.int p0), some (.int p1)]) (st' := [.int (eh_shr p1 2), .int p0, .ref 11]) [(.iload_n 1, 0), (.iload_n 2, 0), (.iconst 2, 2), (.ishr, 0)] (by decide +kernel) rfl rfl ?_
  refine ef_ast (k := 11) rfl (by decide +kernel) (fun _ => ?_)
  refine ef_V (fun _ => [some (.ref 2), some (.int p0), some (.int p1)]) (fun _ => []) (fun s1 => eh_FW s1) (fun s1 => ?_)
  exact es_ret rfl rfl rfl ⟨by decide +kernel, rfl⟩ (Nat.le_refl _) (Nat.le_refl _)
def eF_6_unreserve (s : eh_F) (p0 : Int32) : Option (eh_F) := if eh_in p0 2 then eh_V (eh_tI s 11 (eh_ix p0) (-1)) (fun s1 => some s1) else none
set_option maxHeartbeats 4000000 in
set_option maxRecDepth 100000 in
theorem eS_6_unreserve (g : eh_P) (s : eh_F) (p0 : Int32) : eh_Sim g eM_6_unreserve (eh_R 1 0 0) eh_eV 0 0 0 (eh_en 2 [.ref 2, .int p0]) [] (eh_FW s) (eF_6_unreserve s p0) := by
  unfold eF_6_unreserve
  refine ef_top (L := [some (.ref 2), some (.int p0)]) rfl ?_
  refine es_blk (pc' := 1) (L' := [some (.ref 2), some (.int p0)]) (st' := [.ref 2]) [(.aload_n 0, 0)] (by decide +kernel) rfl rfl ?_
  refine ef_getP (k := 2) (j := 8) (q := 11) rfl eL_6_37 rfl rfl rfl (by decide +kernel) ?_
  refine es_blk (pc' := 6) (L' := [some (.ref 2), some (.int p0)]) (st' := [.int (-1), .int p0, .ref 11]) [(.iload_n 1, 0), (.iconst (-1), (-1))] (by decide +kernel) rfl rfl ?_
  refine ef_ast (k := 11) rfl (by decide +kernel) (fun _ => ?_)
  refine ef_V (fun _ => [some (.ref 2), some (.int p0)]) (fun _ => []) (fun s1 => eh_FW s1) (fun s1 => ?_)
  exact es_ret rfl rfl rfl ⟨by decide +kernel, rfl⟩ (Nat.le_refl _) (Nat.le_refl _)
def eF_6_isReserved (s : eh_F) (p0 : Int32) (p1 : Int32) : Option (Int32) := if eh_in p0 2 then eh_J (fun (a2 : Int32) => if a2 = 0 ∨ a2 = 1 then some a2 else none) (fun j1 => if (s.1 11 (eh_ix p0)) = (eh_shr p1 2) then (j1 1) else (j1 0)) else none
set_option maxHeartbeats 4000000 in
set_option maxRecDepth 100000 in
theorem eS_6_isReserved (g : eh_P) (s : eh_F) (p0 : Int32) (p1 : Int32) : eh_Sim g eM_6_isReserved (eh_R 1 0 0) (eh_pI s) 0 0 0 (eh_en 3 [.ref 2, .int p0, .int p1]) [] (eh_FW s) (eF_6_isReserved s p0 p1) := by
  unfold eF_6_isReserved
  refine ef_top (L := [some (.ref 2), some (.int p0), some (.int p1)]) rfl ?_
  refine es_blk (pc' := 1) (L' := [some (.ref 2), some (.int p0), some (.int p1)]) (st' := [.ref 2]) [(.aload_n 0, 0)] (by decide +kernel) rfl rfl ?_
  refine ef_getP (k := 2) (j := 8) (q := 11) rfl eL_6_37 rfl rfl rfl (by decide +kernel) ?_
  refine es_blk (pc' := 5) (L' := [some (.ref 2), some (.int p0), some (.int p1)]) (st' := [.int p0, .ref 11]) [(.iload_n 1, 0)] (by decide +kernel) rfl rfl ?_
  refine ef_ald (k := 11) rfl (Or.inl ⟨rfl, rfl⟩) (by decide +kernel) (fun _ => ?_)
  refine es_blk (pc' := 9) (L' := [some (.ref 2), some (.int p0), some (.int p1)]) (st' := [.int (eh_shr p1 2), .int (s.1 11 (eh_ix p0))]) [(.iload_n 2, 0), (.iconst 2, 2), (.ishr, 0)] (by decide +kernel) rfl rfl ?_
  refine ef_J (X := fun j1 => ∀ (a2 : Int32), eh_Sim g eM_6_isReserved (eh_R 1 0 0) (eh_pI s) 0 0 17 [none, none, none] [.int a2] (eh_FW s) ((j1 a2).bind some)) ?_ (fun j1 Hj1 => ?_)
  · intro a2
    refine es_chk (fun h3 => ?_)
    exact es_ret rfl rfl rfl ⟨by decide +kernel, _, rfl, eh_narZ h3⟩ (Nat.le_refl _) (Nat.le_refl _)
  refine es_ine (tgt := 16) (off := (7)) (by decide +kernel) (by decide) (fun h4 => ?_) (fun h4 => ?_)
  · refine es_blk (pc' := 13) (L' := [some (.ref 2), some (.int p0), some (.int p1)]) (st' := [.int 1]) [(.iconst 1, 1)] (by decide +kernel) rfl rfl ?_
    refine es_goto (tgt := 17) (off := (4)) (by decide +kernel) (by decide) ?_
    refine ef_drop (L2 := [none, none, none]) [false, false, false] rfl rfl ?_
    exact Hj1 _
  refine es_blk (pc' := 17) (L' := [some (.ref 2), some (.int p0), some (.int p1)]) (st' := [.int 0]) [(.iconst 0, 0)] (by decide +kernel) rfl rfl ?_
  refine ef_drop (L2 := [none, none, none]) [false, false, false] rfl rfl ?_
  exact Hj1 _
def eF_6_isSpan (s : eh_F) (p0 : Int32) (p1 : Int32) : Option (Int32) := eh_J (fun (u2 : Unit) => some 0) (fun j1 => if p1 < 256 then (j1 ()) else (if 32768 < p1 then (j1 ()) else (if (p1 &&& (p1 - 1)) = 0 then (eh_J (fun (a7 : Int32) => if a7 = 0 ∨ a7 = 1 then some a7 else none) (fun j6 => eh_J (fun (u10 : Unit) => j6 0) (fun j9 => if p0 < 0 then (j9 ()) else (if (131072 - p1) < p0 then (j9 ()) else (if (p0 &&& (p1 - 1)) = 0 then (j6 1) else (j9 ())))))) else (j1 ()))))
set_option maxHeartbeats 4000000 in
set_option maxRecDepth 100000 in
theorem eS_6_isSpan (g : eh_P) (s : eh_F) (p0 : Int32) (p1 : Int32) : eh_Sim g eM_6_isSpan (eh_R 1 0 0) (eh_pI s) 0 0 0 (eh_en 2 [.int p0, .int p1]) [] (eh_FW s) (eF_6_isSpan s p0 p1) := by
  unfold eF_6_isSpan
  refine ef_top (L := [some (.int p0), some (.int p1)]) rfl ?_
  refine es_blk (pc' := 4) (L' := [some (.int p0), some (.int p1)]) (st' := [.int 256, .int p1]) [(.iload_n 1, 0), (.sipush 256, 256)] (by decide +kernel) rfl rfl ?_
  refine ef_J (X := fun j1 => ∀ (u2 : Unit), eh_Sim g eM_6_isSpan (eh_R 1 0 0) (eh_pI s) 0 0 21 [none, none] [] (eh_FW s) ((j1 u2).bind some)) ?_ (fun j1 Hj1 => ?_)
  · intro u2
    refine es_blk (pc' := 22) (L' := [none, none]) (st' := [.int 0]) [(.iconst 0, 0)] (by decide +kernel) rfl rfl ?_
    exact es_ret rfl rfl rfl ⟨by decide +kernel, _, rfl, eh_narZ (Or.inl rfl)⟩ (Nat.le_refl _) (Nat.le_refl _)
  refine es_ilt (tgt := 21) (off := (17)) (by decide +kernel) (by decide) (fun h3 => ?_) (fun h3 => ?_)
  · refine ef_drop (L2 := [none, none]) [false, false] rfl rfl ?_
    exact Hj1 ()
  refine es_blk (pc' := 8) (L' := [some (.int p0), some (.int p1)]) (st' := [.int p1]) [(.iload_n 1, 0)] (by decide +kernel) rfl rfl ?_
  refine es_ldc (v := 32768) eC_6_30 (by decide +kernel) ?_
  refine es_igt (tgt := 21) (off := (11)) (by decide +kernel) (by decide) (fun h4 => ?_) (fun h4 => ?_)
  · refine ef_drop (L2 := [none, none]) [false, false] rfl rfl ?_
    exact Hj1 ()
  refine es_blk (pc' := 18) (L' := [some (.int p0), some (.int p1)]) (st' := [.int (p1 &&& (p1 - 1))]) [(.iload_n 1, 0), (.iload_n 1, 0), (.iconst 1, 1), (.isub, 0), (.iand, 0)] (by decide +kernel) rfl rfl ?_
  refine es_eq (tgt := 23) (off := (5)) (by decide +kernel) (by decide) (fun h5 => ?_) (fun h5 => ?_)
  · refine es_blk (pc' := 24) (L' := [some (.int p0), some (.int p1)]) (st' := [.int p0]) [(.iload_n 0, 0)] (by decide +kernel) rfl rfl ?_
    refine ef_J (X := fun j6 => ∀ (a7 : Int32), eh_Sim g eM_6_isSpan (eh_R 1 0 0) (eh_pI s) 0 0 48 [none, none] [.int a7] (eh_FW s) ((j6 a7).bind some)) ?_ (fun j6 Hj6 => ?_)
    · intro a7
      refine es_chk (fun h8 => ?_)
      exact es_ret rfl rfl rfl ⟨by decide +kernel, _, rfl, eh_narZ h8⟩ (Nat.le_refl _) (Nat.le_refl _)
    refine ef_J (X := fun j9 => ∀ (u10 : Unit), eh_Sim g eM_6_isSpan (eh_R 1 0 0) (eh_pI s) 0 0 47 [none, none] [] (eh_FW s) ((j9 u10).bind some)) ?_ (fun j9 Hj9 => ?_)
    · intro u10
      refine es_blk (pc' := 48) (L' := [none, none]) (st' := [.int 0]) [(.iconst 0, 0)] (by decide +kernel) rfl rfl ?_
      exact Hj6 _
    refine es_lt (tgt := 47) (off := (23)) (by decide +kernel) (by decide) (fun h11 => ?_) (fun h11 => ?_)
    · refine ef_drop (L2 := [none, none]) [false, false] rfl rfl ?_
      exact Hj9 ()
    refine es_blk (pc' := 28) (L' := [some (.int p0), some (.int p1)]) (st' := [.int p0]) [(.iload_n 0, 0)] (by decide +kernel) rfl rfl ?_
    refine es_ldc (v := 131072) eC_6_46 (by decide +kernel) ?_
    refine es_blk (pc' := 32) (L' := [some (.int p0), some (.int p1)]) (st' := [.int (131072 - p1), .int p0]) [(.iload_n 1, 0), (.isub, 0)] (by decide +kernel) rfl rfl ?_
    refine es_igt (tgt := 47) (off := (15)) (by decide +kernel) (by decide) (fun h12 => ?_) (fun h12 => ?_)
    · refine ef_drop (L2 := [none, none]) [false, false] rfl rfl ?_
      exact Hj9 ()
    refine es_blk (pc' := 40) (L' := [some (.int p0), some (.int p1)]) (st' := [.int (p0 &&& (p1 - 1))]) [(.iload_n 0, 0), (.iload_n 1, 0), (.iconst 1, 1), (.isub, 0), (.iand, 0)] (by decide +kernel) rfl rfl ?_
    refine es_ne (tgt := 47) (off := (7)) (by decide +kernel) (by decide) (fun h13 => ?_) (fun h13 => ?_)
    · refine es_blk (pc' := 44) (L' := [some (.int p0), some (.int p1)]) (st' := [.int 1]) [(.iconst 1, 1)] (by decide +kernel) rfl rfl ?_
      refine es_goto (tgt := 48) (off := (4)) (by decide +kernel) (by decide) ?_
      refine ef_drop (L2 := [none, none]) [false, false] rfl rfl ?_
      exact Hj6 _
    refine ef_drop (L2 := [none, none]) [false, false] rfl rfl ?_
    exact Hj9 ()
  refine ef_drop (L2 := [none, none]) [false, false] rfl rfl ?_
  exact Hj1 ()
def eF_6_overlaps (s : eh_F) (p0 : Int32) (p1 : Int32) : Option (Int32) := eh_V ((eh_shr p0 8) : Int32) (fun x1 => Option.bind (eh_loop (fun (r6 : (Int32) → Option ((Unit) ⊕ (Unit))) (t2 : Int32) => if t2 < (eh_shr (p0 + p1) 8) then (if t2 < 0 then (some (.inr ())) else (if t2 < 512 then (if eh_in t2 512 then if (s.1 10 (eh_ix t2)) = (-1) then (eh_V ((t2 + 1) : Int32) (fun x11 => r6 x11)) else (some (.inr ())) else none) else (some (.inr ())))) else (some (.inl ()))) eh_FU x1) (Sum.elim (fun (e3 : Unit) => some 0) (fun (e4 : Unit) => some 1)))
set_option maxHeartbeats 4000000 in
set_option maxRecDepth 100000 in
theorem eS_6_overlaps (g : eh_P) (s : eh_F) (p0 : Int32) (p1 : Int32) : eh_Sim g eM_6_overlaps (eh_R 1 0 0) (eh_pI s) 0 0 0 (eh_en 4 [.ref 2, .int p0, .int p1]) [] (eh_FW s) (eF_6_overlaps s p0 p1) := by
  unfold eF_6_overlaps
  refine ef_top (L := [some (.ref 2), some (.int p0), some (.int p1), none]) rfl ?_
  refine es_blk (pc' := 5) (L' := [some (.ref 2), some (.int p0), some (.int p1), some (.int (eh_shr p0 8))]) (st' := []) [(.iload_n 1, 0), (.bipush 8, 8), (.ishr, 0), (.istore_n 3, 0)] (by decide +kernel) rfl rfl ?_
  refine ef_V (fun x1 => [some (.ref 2), some (.int p0), some (.int p1), some (.int x1)]) (fun _ => []) (fun _ => eh_FW s) (fun x1 => ?_)
  refine ef_loop2 (n := eh_FU) (i := x1) (px := 44) (px2 := 36) (fun (t2 : Int32) => [some (.ref 2), some (.int p0), some (.int p1), some (.int t2)]) (fun (t2 : Int32) => []) (fun (t2 : Int32) => eh_FW s) (fun (e3 : Unit) => [none, none, none, none]) (fun (e3 : Unit) => []) (fun (e3 : Unit) => eh_FW s) (fun (e4 : Unit) => [none, none, none, none]) (fun (e4 : Unit) => []) (fun (e4 : Unit) => eh_FW s) (fun e3 => ?_) (fun e4 => ?_) (fun K5 HxK5_0 HxK5_1 r6 Hr6 t2 => ?_)
  · refine es_blk (pc' := 45) (L' := [none, none, none, none]) (st' := [.int 0]) [(.iconst 0, 0)] (by decide +kernel) rfl rfl ?_
    exact es_ret rfl rfl rfl ⟨by decide +kernel, _, rfl, eh_narZ (Or.inl rfl)⟩ (Nat.le_refl _) (Nat.le_refl _)
  · refine es_blk (pc' := 37) (L' := [none, none, none, none]) (st' := [.int 1]) [(.iconst 1, 1)] (by decide +kernel) rfl rfl ?_
    exact es_ret rfl rfl rfl ⟨by decide +kernel, _, rfl, eh_narZ (Or.inr rfl)⟩ (Nat.le_refl _) (Nat.le_refl _)
  · refine es_blk (pc' := 12) (L' := [some (.ref 2), some (.int p0), some (.int p1), some (.int t2)]) (st' := [.int (eh_shr (p0 + p1) 8), .int t2]) [(.iload_n 3, 0), (.iload_n 1, 0), (.iload_n 2, 0), (.iadd, 0), (.bipush 8, 8), (.ishr, 0)] (by decide +kernel) rfl rfl ?_
    refine es_ige (tgt := 44) (off := (32)) (by decide +kernel) (by decide) (fun h7 => ?_) (fun h7 => ?_)
    · refine es_blk (pc' := 16) (L' := [some (.ref 2), some (.int p0), some (.int p1), some (.int t2)]) (st' := [.int t2]) [(.iload_n 3, 0)] (by decide +kernel) rfl rfl ?_
      refine es_lt (tgt := 36) (off := (20)) (by decide +kernel) (by decide) (fun h8 => ?_) (fun h8 => ?_)
      · refine ef_drop (L2 := [none, none, none, none]) [false, false, false, false] rfl rfl ?_
        exact HxK5_1 ()
      refine es_blk (pc' := 23) (L' := [some (.ref 2), some (.int p0), some (.int p1), some (.int t2)]) (st' := [.int 512, .int t2]) [(.iload_n 3, 0), (.sipush 512, 512)] (by decide +kernel) rfl rfl ?_
      refine es_ige (tgt := 36) (off := (13)) (by decide +kernel) (by decide) (fun h9 => ?_) (fun h9 => ?_)
      · refine es_blk (pc' := 27) (L' := [some (.ref 2), some (.int p0), some (.int p1), some (.int t2)]) (st' := [.ref 2]) [(.aload_n 0, 0)] (by decide +kernel) rfl rfl ?_
        refine ef_getP (k := 2) (j := 7) (q := 10) rfl eL_6_34 rfl rfl rfl (by decide +kernel) ?_
        refine es_blk (pc' := 31) (L' := [some (.ref 2), some (.int p0), some (.int p1), some (.int t2)]) (st' := [.int t2, .ref 10]) [(.iload_n 3, 0)] (by decide +kernel) rfl rfl ?_
        refine ef_ald (k := 10) rfl (Or.inl ⟨rfl, rfl⟩) (by decide +kernel) (fun _ => ?_)
        refine es_blk (pc' := 33) (L' := [some (.ref 2), some (.int p0), some (.int p1), some (.int t2)]) (st' := [.int (-1), .int (s.1 10 (eh_ix t2))]) [(.iconst (-1), (-1))] (by decide +kernel) rfl rfl ?_
        refine es_ieq (tgt := 38) (off := (5)) (by decide +kernel) (by decide) (fun h10 => ?_) (fun h10 => ?_)
        · refine es_blk (pc' := 41) (L' := [some (.ref 2), some (.int p0), some (.int p1), some (.int (t2 + 1))]) (st' := []) [(.iinc 3 1, 1)] (by decide +kernel) rfl rfl ?_
          refine ef_V (fun x11 => [some (.ref 2), some (.int p0), some (.int p1), some (.int x11)]) (fun _ => []) (fun _ => eh_FW s) (fun x11 => ?_)
          refine es_goto (tgt := 5) (off := (-36)) (by decide +kernel) (by decide) ?_
          exact Hr6 x11
        refine ef_drop (L2 := [none, none, none, none]) [false, false, false, false] rfl rfl ?_
        exact HxK5_1 ()
      refine ef_drop (L2 := [none, none, none, none]) [false, false, false, false] rfl rfl ?_
      exact HxK5_1 ()
    refine ef_drop (L2 := [none, none, none, none]) [false, false, false, false] rfl rfl ?_
    exact HxK5_0 ()
def eF_6_leastFreeRegion (s : eh_F)  : Option (Int32) := Option.bind (eh_loop (fun (r5 : (Int32) → Option ((Unit) ⊕ (Int32))) (t1 : Int32) => if t1 < 12 then (if eh_in t1 12 then if (s.1 3 (eh_ix t1)) = 0 then (some (.inr t1)) else (eh_V ((t1 + 1) : Int32) (fun x8 => r5 x8)) else none) else (some (.inl ()))) eh_FU 0) (Sum.elim (fun (e2 : Unit) => some (-1)) (fun (e3 : Int32) => some e3))
set_option maxHeartbeats 4000000 in
set_option maxRecDepth 100000 in
theorem eS_6_leastFreeRegion (g : eh_P) (s : eh_F)  : eh_Sim g eM_6_leastFreeRegion (eh_R 1 0 0) (eh_pI s) 0 0 0 (eh_en 2 [.ref 2]) [] (eh_FW s) (eF_6_leastFreeRegion s) := by
  unfold eF_6_leastFreeRegion
  refine ef_top (L := [some (.ref 2), none]) rfl ?_
  refine es_blk (pc' := 2) (L' := [some (.ref 2), some (.int 0)]) (st' := []) [(.iconst 0, 0), (.istore_n 1, 0)] (by decide +kernel) rfl rfl ?_
  refine ef_loop2 (n := eh_FU) (i := 0) (px := 25) (px2 := 17) (fun (t1 : Int32) => [some (.ref 2), some (.int t1)]) (fun (t1 : Int32) => []) (fun (t1 : Int32) => eh_FW s) (fun (e2 : Unit) => [none, none]) (fun (e2 : Unit) => []) (fun (e2 : Unit) => eh_FW s) (fun (e3 : Int32) => [none, some (.int e3)]) (fun (e3 : Int32) => []) (fun (e3 : Int32) => eh_FW s) (fun e2 => ?_) (fun e3 => ?_) (fun K4 HxK4_0 HxK4_1 r5 Hr5 t1 => ?_)
  · refine es_blk (pc' := 26) (L' := [none, none]) (st' := [.int (-1)]) [(.iconst (-1), (-1))] (by decide +kernel) rfl rfl ?_
    exact es_ret rfl rfl rfl ⟨by decide +kernel, _, rfl, rfl⟩ (Nat.le_refl _) (Nat.le_refl _)
  · refine es_blk (pc' := 18) (L' := [none, some (.int e3)]) (st' := [.int e3]) [(.iload_n 1, 0)] (by decide +kernel) rfl rfl ?_
    exact es_ret rfl rfl rfl ⟨by decide +kernel, _, rfl, rfl⟩ (Nat.le_refl _) (Nat.le_refl _)
  · refine es_blk (pc' := 5) (L' := [some (.ref 2), some (.int t1)]) (st' := [.int 12, .int t1]) [(.iload_n 1, 0), (.bipush 12, 12)] (by decide +kernel) rfl rfl ?_
    refine es_ige (tgt := 25) (off := (20)) (by decide +kernel) (by decide) (fun h6 => ?_) (fun h6 => ?_)
    · refine es_blk (pc' := 9) (L' := [some (.ref 2), some (.int t1)]) (st' := [.ref 2]) [(.aload_n 0, 0)] (by decide +kernel) rfl rfl ?_
      refine ef_getP (k := 2) (j := 0) (q := 3) rfl eL_6_11 rfl rfl rfl (by decide +kernel) ?_
      refine es_blk (pc' := 13) (L' := [some (.ref 2), some (.int t1)]) (st' := [.int t1, .ref 3]) [(.iload_n 1, 0)] (by decide +kernel) rfl rfl ?_
      refine ef_ald (k := 3) rfl (Or.inl ⟨rfl, rfl⟩) (by decide +kernel) (fun _ => ?_)
      refine es_ne (tgt := 19) (off := (5)) (by decide +kernel) (by decide) (fun h7 => ?_) (fun h7 => ?_)
      · refine ef_drop (L2 := [none, some (.int t1)]) [false, true] rfl rfl ?_
        exact HxK4_1 t1
      refine es_blk (pc' := 22) (L' := [some (.ref 2), some (.int (t1 + 1))]) (st' := []) [(.iinc 1 1, 1)] (by decide +kernel) rfl rfl ?_
      refine ef_V (fun x8 => [some (.ref 2), some (.int x8)]) (fun _ => []) (fun _ => eh_FW s) (fun x8 => ?_)
      refine es_goto (tgt := 2) (off := (-20)) (by decide +kernel) (by decide) ?_
      exact Hr5 x8
    refine ef_drop (L2 := [none, none]) [false, false] rfl rfl ?_
    exact HxK4_0 ()
def eF_6_regionCount (s : eh_F)  : Option (Int32) := Option.bind (eh_loop (fun (r4 : (Int32 × Int32) → Option (Int32)) (t1 : Int32 × Int32) => if t1.2 < 12 then (if eh_in t1.2 12 then eh_J (fun (a7 : Int32) => eh_V ((t1.1 + a7) : Int32) (fun x8 => eh_V ((t1.2 + 1) : Int32) (fun x9 => r4 (x8, x9)))) (fun j6 => if (s.1 3 (eh_ix t1.2)) = 0 then (j6 0) else (j6 1)) else none) else (some t1.1)) eh_FU (0, 0)) (fun (e2 : Int32) => some e2)
set_option maxHeartbeats 4000000 in
set_option maxRecDepth 100000 in
theorem eS_6_regionCount (g : eh_P) (s : eh_F)  : eh_Sim g eM_6_regionCount (eh_R 1 0 0) (eh_pI s) 0 0 0 (eh_en 3 [.ref 2]) [] (eh_FW s) (eF_6_regionCount s) := by
  unfold eF_6_regionCount
  refine ef_top (L := [some (.ref 2), none, none]) rfl ?_
  refine es_blk (pc' := 4) (L' := [some (.ref 2), some (.int 0), some (.int 0)]) (st' := []) [(.iconst 0, 0), (.istore_n 1, 0), (.iconst 0, 0), (.istore_n 2, 0)] (by decide +kernel) rfl rfl ?_
  refine ef_loop1 (n := eh_FU) (i := (0, 0)) (px := 33) (fun (t1 : Int32 × Int32) => [some (.ref 2), some (.int t1.1), some (.int t1.2)]) (fun (t1 : Int32 × Int32) => []) (fun (t1 : Int32 × Int32) => eh_FW s) (fun (e2 : Int32) => [none, some (.int e2), none]) (fun (e2 : Int32) => []) (fun (e2 : Int32) => eh_FW s) (fun e2 => ?_) (fun K3 HxK3_0 r4 Hr4 t1 => ?_)
  · refine es_blk (pc' := 34) (L' := [none, some (.int e2), none]) (st' := [.int e2]) [(.iload_n 1, 0)] (by decide +kernel) rfl rfl ?_
    exact es_ret rfl rfl rfl ⟨by decide +kernel, _, rfl, rfl⟩ (Nat.le_refl _) (Nat.le_refl _)
  · refine es_blk (pc' := 7) (L' := [some (.ref 2), some (.int t1.1), some (.int t1.2)]) (st' := [.int 12, .int t1.2]) [(.iload_n 2, 0), (.bipush 12, 12)] (by decide +kernel) rfl rfl ?_
    refine es_ige (tgt := 33) (off := (26)) (by decide +kernel) (by decide) (fun h5 => ?_) (fun h5 => ?_)
    · refine es_blk (pc' := 12) (L' := [some (.ref 2), some (.int t1.1), some (.int t1.2)]) (st' := [.ref 2, .int t1.1]) [(.iload_n 1, 0), (.aload_n 0, 0)] (by decide +kernel) rfl rfl ?_
      refine ef_getP (k := 2) (j := 0) (q := 3) rfl eL_6_11 rfl rfl rfl (by decide +kernel) ?_
      refine es_blk (pc' := 16) (L' := [some (.ref 2), some (.int t1.1), some (.int t1.2)]) (st' := [.int t1.2, .ref 3, .int t1.1]) [(.iload_n 2, 0)] (by decide +kernel) rfl rfl ?_
      refine ef_ald (k := 3) rfl (Or.inl ⟨rfl, rfl⟩) (by decide +kernel) (fun _ => ?_)
      refine ef_J (X := fun j6 => ∀ (a7 : Int32), eh_Sim g eM_6_regionCount (eh_R 1 0 0) (eh_pI s) 0 0 25 [some (.ref 2), none, some (.int t1.2)] [.int a7, .int t1.1] (eh_FW s) ((j6 a7).bind K3)) ?_ (fun j6 Hj6 => ?_)
      · intro a7
        refine es_blk (pc' := 27) (L' := [some (.ref 2), some (.int (t1.1 + a7)), some (.int t1.2)]) (st' := []) [(.iadd, 0), (.istore_n 1, 0)] (by decide +kernel) rfl rfl ?_
        refine ef_V (fun x8 => [some (.ref 2), some (.int x8), some (.int t1.2)]) (fun _ => []) (fun _ => eh_FW s) (fun x8 => ?_)
        refine es_blk (pc' := 30) (L' := [some (.ref 2), some (.int x8), some (.int (t1.2 + 1))]) (st' := []) [(.iinc 2 1, 1)] (by decide +kernel) rfl rfl ?_
        refine ef_V (fun x9 => [some (.ref 2), some (.int x8), some (.int x9)]) (fun _ => []) (fun _ => eh_FW s) (fun x9 => ?_)
        refine es_goto (tgt := 4) (off := (-26)) (by decide +kernel) (by decide) ?_
        exact Hr4 (x8, x9)
      refine es_eq (tgt := 24) (off := (7)) (by decide +kernel) (by decide) (fun h10 => ?_) (fun h10 => ?_)
      · refine es_blk (pc' := 25) (L' := [some (.ref 2), some (.int t1.1), some (.int t1.2)]) (st' := [.int 0, .int t1.1]) [(.iconst 0, 0)] (by decide +kernel) rfl rfl ?_
        refine ef_drop (L2 := [some (.ref 2), none, some (.int t1.2)]) [true, false, true] rfl rfl ?_
        exact Hj6 _
      refine es_blk (pc' := 21) (L' := [some (.ref 2), some (.int t1.1), some (.int t1.2)]) (st' := [.int 1, .int t1.1]) [(.iconst 1, 1)] (by decide +kernel) rfl rfl ?_
      refine es_goto (tgt := 25) (off := (4)) (by decide +kernel) (by decide) ?_
      refine ef_drop (L2 := [some (.ref 2), none, some (.int t1.2)]) [true, false, true] rfl rfl ?_
      exact Hj6 _
    refine ef_drop (L2 := [none, some (.int t1.1), none]) [false, true, false] rfl rfl ?_
    exact HxK3_0 t1.1
def eF_6_markPages (s : eh_F) (p0 : Int32) (p1 : Int32) : Option (eh_F) := if eh_in p0 12 then eh_V ((eh_shr (s.1 4 (eh_ix p0)) 8) : Int32) (fun x1 => if eh_in p0 12 then eh_V ((x1 + (eh_shr (s.1 5 (eh_ix p0)) 8)) : Int32) (fun x2 => Option.bind (eh_loop (fun (r6 : (Int32 × eh_F) → Option (eh_F)) (t3 : Int32 × eh_F) => if t3.1 < x2 then (if t3.1 < 512 then (if eh_in t3.1 512 then eh_V (eh_tI t3.2 10 (eh_ix t3.1) p1) (fun s9 => eh_V ((t3.1 + 1) : Int32) (fun x10 => r6 (x10, s9))) else none) else (some t3.2)) else (some t3.2)) eh_FU (x1, s)) (fun (e4 : eh_F) => some e4)) else none) else none
set_option maxHeartbeats 4000000 in
set_option maxRecDepth 100000 in
theorem eS_6_markPages (g : eh_P) (s : eh_F) (p0 : Int32) (p1 : Int32) : eh_Sim g eM_6_markPages (eh_R 1 0 0) eh_eV 0 0 0 (eh_en 6 [.ref 2, .int p0, .int p1]) [] (eh_FW s) (eF_6_markPages s p0 p1) := by
  unfold eF_6_markPages
  refine ef_top (L := [some (.ref 2), some (.int p0), some (.int p1), none, none, none]) rfl ?_
  refine es_blk (pc' := 1) (L' := [some (.ref 2), some (.int p0), some (.int p1), none, none, none]) (st' := [.ref 2]) [(.aload_n 0, 0)] (by decide +kernel) rfl rfl ?_
  refine ef_getP (k := 2) (j := 1) (q := 4) rfl eL_6_15 rfl rfl rfl (by decide +kernel) ?_
  refine es_blk (pc' := 5) (L' := [some (.ref 2), some (.int p0), some (.int p1), none, none, none]) (st' := [.int p0, .ref 4]) [(.iload_n 1, 0)] (by decide +kernel) rfl rfl ?_
  refine ef_ald (k := 4) rfl (Or.inl ⟨rfl, rfl⟩) (by decide +kernel) (fun _ => ?_)
  refine es_blk (pc' := 10) (L' := [some (.ref 2), some (.int p0), some (.int p1), some (.int (eh_shr (s.1 4 (eh_ix p0)) 8)), none, none]) (st' := []) [(.bipush 8, 8), (.ishr, 0), (.istore_n 3, 0)] (by decide +kernel) rfl rfl ?_
  refine ef_V (fun x1 => [some (.ref 2), some (.int p0), some (.int p1), some (.int x1), none, none]) (fun _ => []) (fun _ => eh_FW s) (fun x1 => ?_)
  refine es_blk (pc' := 12) (L' := [some (.ref 2), some (.int p0), some (.int p1), some (.int x1), none, none]) (st' := [.ref 2, .int x1]) [(.iload_n 3, 0), (.aload_n 0, 0)] (by decide +kernel) rfl rfl ?_
  refine ef_getP (k := 2) (j := 2) (q := 5) rfl eL_6_18 rfl rfl rfl (by decide +kernel) ?_
  refine es_blk (pc' := 16) (L' := [some (.ref 2), some (.int p0), some (.int p1), some (.int x1), none, none]) (st' := [.int p0, .ref 5, .int x1]) [(.iload_n 1, 0)] (by decide +kernel) rfl rfl ?_
  refine ef_ald (k := 5) rfl (Or.inl ⟨rfl, rfl⟩) (by decide +kernel) (fun _ => ?_)
  refine es_blk (pc' := 23) (L' := [some (.ref 2), some (.int p0), some (.int p1), some (.int x1), some (.int (x1 + (eh_shr (s.1 5 (eh_ix p0)) 8))), none]) (st' := []) [(.bipush 8, 8), (.ishr, 0), (.iadd, 0), (.istore 4, 0)] (by decide +kernel) rfl rfl ?_
  refine ef_V (fun x2 => [some (.ref 2), some (.int p0), some (.int p1), some (.int x1), some (.int x2), none]) (fun _ => []) (fun _ => eh_FW s) (fun x2 => ?_)
  refine es_blk (pc' := 26) (L' := [some (.ref 2), some (.int p0), some (.int p1), some (.int x1), some (.int x2), some (.int x1)]) (st' := []) [(.iload_n 3, 0), (.istore 5, 0)] (by decide +kernel) rfl rfl ?_
  refine ef_drop (L2 := [some (.ref 2), none, some (.int p1), none, some (.int x2), some (.int x1)]) [true, false, true, false, true, true] rfl rfl ?_
  refine ef_loop1 (n := eh_FU) (i := (x1, s)) (px := 55) (fun (t3 : Int32 × eh_F) => [some (.ref 2), none, some (.int p1), none, some (.int x2), some (.int t3.1)]) (fun (t3 : Int32 × eh_F) => []) (fun (t3 : Int32 × eh_F) => eh_FW t3.2) (fun (e4 : eh_F) => [none, none, none, none, none, none]) (fun (e4 : eh_F) => []) (fun (e4 : eh_F) => eh_FW e4) (fun e4 => ?_) (fun K5 HxK5_0 r6 Hr6 t3 => ?_)
  · exact es_ret rfl rfl rfl ⟨by decide +kernel, rfl⟩ (Nat.le_refl _) (Nat.le_refl _)
  · refine es_blk (pc' := 30) (L' := [some (.ref 2), none, some (.int p1), none, some (.int x2), some (.int t3.1)]) (st' := [.int x2, .int t3.1]) [(.iload 5, 0), (.iload 4, 0)] (by decide +kernel) rfl rfl ?_
    refine es_ige (tgt := 55) (off := (25)) (by decide +kernel) (by decide) (fun h7 => ?_) (fun h7 => ?_)
    · refine es_blk (pc' := 38) (L' := [some (.ref 2), none, some (.int p1), none, some (.int x2), some (.int t3.1)]) (st' := [.int 512, .int t3.1]) [(.iload 5, 0), (.sipush 512, 512)] (by decide +kernel) rfl rfl ?_
      refine es_ige (tgt := 55) (off := (17)) (by decide +kernel) (by decide) (fun h8 => ?_) (fun h8 => ?_)
      · refine es_blk (pc' := 42) (L' := [some (.ref 2), none, some (.int p1), none, some (.int x2), some (.int t3.1)]) (st' := [.ref 2]) [(.aload_n 0, 0)] (by decide +kernel) rfl rfl ?_
        refine ef_getP (k := 2) (j := 7) (q := 10) rfl eL_6_34 rfl rfl rfl (by decide +kernel) ?_
        refine es_blk (pc' := 48) (L' := [some (.ref 2), none, some (.int p1), none, some (.int x2), some (.int t3.1)]) (st' := [.int p1, .int t3.1, .ref 10]) [(.iload 5, 0), (.iload_n 2, 0)] (by decide +kernel) rfl rfl ?_
        refine ef_ast (k := 10) rfl (by decide +kernel) (fun _ => ?_)
        refine ef_V (fun _ => [some (.ref 2), none, some (.int p1), none, some (.int x2), some (.int t3.1)]) (fun _ => []) (fun s9 => eh_FW s9) (fun s9 => ?_)
        refine es_blk (pc' := 52) (L' := [some (.ref 2), none, some (.int p1), none, some (.int x2), some (.int (t3.1 + 1))]) (st' := []) [(.iinc 5 1, 1)] (by decide +kernel) rfl rfl ?_
        refine ef_V (fun x10 => [some (.ref 2), none, some (.int p1), none, some (.int x2), some (.int x10)]) (fun _ => []) (fun _ => eh_FW s9) (fun x10 => ?_)
        refine es_goto (tgt := 26) (off := (-26)) (by decide +kernel) (by decide) ?_
        exact Hr6 (x10, s9)
      refine ef_drop (L2 := [none, none, none, none, none, none]) [false, true, false, true, false, false] rfl rfl ?_
      exact HxK5_0 t3.2
    refine ef_drop (L2 := [none, none, none, none, none, none]) [false, true, false, true, false, false] rfl rfl ?_
    exact HxK5_0 t3.2
def eF_6_entryPart (s : eh_F) (p0 : Int32) (p1 : Int32) (p2 : Int32) : Option (Int32) := eh_J (fun (a2 : Int32) => some a2) (fun j1 => if p1 = 0 then (if eh_in p0 12 then j1 (s.1 4 (eh_ix p0)) else none) else (if p1 = 1 then (if eh_in p0 12 then j1 (s.1 5 (eh_ix p0)) else none) else (j1 p2)))
set_option maxHeartbeats 4000000 in
set_option maxRecDepth 100000 in
theorem eS_6_entryPart (g : eh_P) (s : eh_F) (p0 : Int32) (p1 : Int32) (p2 : Int32) : eh_Sim g eM_6_entryPart (eh_R 1 0 0) (eh_pI s) 0 0 0 (eh_en 4 [.ref 2, .int p0, .int p1, .int p2]) [] (eh_FW s) (eF_6_entryPart s p0 p1 p2) := by
  unfold eF_6_entryPart
  refine ef_top (L := [some (.ref 2), some (.int p0), some (.int p1), some (.int p2)]) rfl ?_
  refine es_blk (pc' := 1) (L' := [some (.ref 2), some (.int p0), some (.int p1), some (.int p2)]) (st' := [.int p1]) [(.iload_n 2, 0)] (by decide +kernel) rfl rfl ?_
  refine ef_J (X := fun j1 => ∀ (a2 : Int32), eh_Sim g eM_6_entryPart (eh_R 1 0 0) (eh_pI s) 0 0 28 [none, none, none, none] [.int a2] (eh_FW s) ((j1 a2).bind some)) ?_ (fun j1 Hj1 => ?_)
  · intro a2
    exact es_ret rfl rfl rfl ⟨by decide +kernel, _, rfl, rfl⟩ (Nat.le_refl _) (Nat.le_refl _)
  refine es_ne (tgt := 13) (off := (12)) (by decide +kernel) (by decide) (fun h3 => ?_) (fun h3 => ?_)
  · refine es_blk (pc' := 5) (L' := [some (.ref 2), some (.int p0), some (.int p1), some (.int p2)]) (st' := [.ref 2]) [(.aload_n 0, 0)] (by decide +kernel) rfl rfl ?_
    refine ef_getP (k := 2) (j := 1) (q := 4) rfl eL_6_15 rfl rfl rfl (by decide +kernel) ?_
    refine es_blk (pc' := 9) (L' := [some (.ref 2), some (.int p0), some (.int p1), some (.int p2)]) (st' := [.int p0, .ref 4]) [(.iload_n 1, 0)] (by decide +kernel) rfl rfl ?_
    refine ef_ald (k := 4) rfl (Or.inl ⟨rfl, rfl⟩) (by decide +kernel) (fun _ => ?_)
    refine es_goto (tgt := 28) (off := (18)) (by decide +kernel) (by decide) ?_
    refine ef_drop (L2 := [none, none, none, none]) [false, false, false, false] rfl rfl ?_
    exact Hj1 _
  refine es_blk (pc' := 15) (L' := [some (.ref 2), some (.int p0), some (.int p1), some (.int p2)]) (st' := [.int 1, .int p1]) [(.iload_n 2, 0), (.iconst 1, 1)] (by decide +kernel) rfl rfl ?_
  refine es_ine (tgt := 27) (off := (12)) (by decide +kernel) (by decide) (fun h4 => ?_) (fun h4 => ?_)
  · refine es_blk (pc' := 19) (L' := [some (.ref 2), some (.int p0), some (.int p1), some (.int p2)]) (st' := [.ref 2]) [(.aload_n 0, 0)] (by decide +kernel) rfl rfl ?_
    refine ef_getP (k := 2) (j := 2) (q := 5) rfl eL_6_18 rfl rfl rfl (by decide +kernel) ?_
    refine es_blk (pc' := 23) (L' := [some (.ref 2), some (.int p0), some (.int p1), some (.int p2)]) (st' := [.int p0, .ref 5]) [(.iload_n 1, 0)] (by decide +kernel) rfl rfl ?_
    refine ef_ald (k := 5) rfl (Or.inl ⟨rfl, rfl⟩) (by decide +kernel) (fun _ => ?_)
    refine es_goto (tgt := 28) (off := (4)) (by decide +kernel) (by decide) ?_
    refine ef_drop (L2 := [none, none, none, none]) [false, false, false, false] rfl rfl ?_
    exact Hj1 _
  refine es_blk (pc' := 28) (L' := [some (.ref 2), some (.int p0), some (.int p1), some (.int p2)]) (st' := [.int p2]) [(.iload_n 3, 0)] (by decide +kernel) rfl rfl ?_
  refine ef_drop (L2 := [none, none, none, none]) [false, false, false, false] rfl rfl ?_
  exact Hj1 _
def eF_7_fail (s : eh_F) (p0 : Int32) (p1 : Int32) : Option (eh_F) := eh_V (eh_tI s 124 10 p0) (fun s1 => eh_V (eh_tI s1 124 11 p1) (fun s2 => some s2))
set_option maxHeartbeats 4000000 in
set_option maxRecDepth 100000 in
theorem eS_7_fail (g : eh_P) (s : eh_F) (p0 : Int32) (p1 : Int32) : eh_Sim g eM_7_fail (eh_R 1 0 0) eh_eV 0 0 0 (eh_en 3 [.ref 124, .int p0, .int p1]) [] (eh_FW s) (eF_7_fail s p0 p1) := by
  unfold eF_7_fail
  refine ef_top (L := [some (.ref 124), some (.int p0), some (.int p1)]) rfl ?_
  refine es_blk (pc' := 2) (L' := [some (.ref 124), some (.int p0), some (.int p1)]) (st' := [.int p0, .ref 124]) [(.aload_n 0, 0), (.iload_n 1, 0)] (by decide +kernel) rfl rfl ?_
  refine ef_putI (k := 124) (j := 10) rfl eL_7_85 rfl rfl (by decide +kernel) ?_
  refine ef_V (fun _ => [some (.ref 124), some (.int p0), some (.int p1)]) (fun _ => []) (fun s1 => eh_FW s1) (fun s1 => ?_)
  refine es_blk (pc' := 7) (L' := [some (.ref 124), some (.int p0), some (.int p1)]) (st' := [.int p1, .ref 124]) [(.aload_n 0, 0), (.iload_n 2, 0)] (by decide +kernel) rfl rfl ?_
  refine ef_putI (k := 124) (j := 11) rfl eL_7_123 rfl rfl (by decide +kernel) ?_
  refine ef_V (fun _ => [some (.ref 124), some (.int p0), some (.int p1)]) (fun _ => []) (fun s2 => eh_FW s2) (fun s2 => ?_)
  exact es_ret rfl rfl rfl ⟨by decide +kernel, rfl⟩ (Nat.le_refl _) (Nat.le_refl _)
def eF_7_put (s : eh_F) (p0 : Int32) (p1 : Int32) : Option (eh_F) := eh_V (((eh_ushr p0 7) &&& 31) : Int32) (fun x1 => eh_J (fun (s3 : eh_F) => some s3) (fun j2 => if x1 = 0 then (j2 s) else (if eh_okX (s.2.2 7) then if eh_in x1 32 then eh_V (eh_tI s (s.2.2 7) (eh_ix x1) p1) (fun s6 => j2 s6) else none else none)))
set_option maxHeartbeats 4000000 in
set_option maxRecDepth 100000 in
theorem eS_7_put (g : eh_P) (s : eh_F) (p0 : Int32) (p1 : Int32) : eh_Sim g eM_7_put (eh_R 1 0 0) eh_eV 0 0 0 (eh_en 4 [.ref 124, .int p0, .int p1]) [] (eh_FW s) (eF_7_put s p0 p1) := by
  unfold eF_7_put
  refine ef_top (L := [some (.ref 124), some (.int p0), some (.int p1), none]) rfl ?_
  refine es_blk (pc' := 8) (L' := [some (.ref 124), some (.int p0), some (.int p1), some (.int ((eh_ushr p0 7) &&& 31))]) (st' := []) [(.iload_n 1, 0), (.bipush 7, 7), (.iushr, 0), (.bipush 31, 31), (.iand, 0), (.istore_n 3, 0)] (by decide +kernel) rfl rfl ?_
  refine ef_V (fun x1 => [some (.ref 124), some (.int p0), some (.int p1), some (.int x1)]) (fun _ => []) (fun _ => eh_FW s) (fun x1 => ?_)
  refine es_blk (pc' := 9) (L' := [some (.ref 124), some (.int p0), some (.int p1), some (.int x1)]) (st' := [.int x1]) [(.iload_n 3, 0)] (by decide +kernel) rfl rfl ?_
  refine ef_J (X := fun j2 => ∀ (s3 : eh_F), eh_Sim g eM_7_put (eh_R 1 0 0) eh_eV 0 0 19 [none, none, none, none] [] (eh_FW s3) ((j2 s3).bind some)) ?_ (fun j2 Hj2 => ?_)
  · intro s3
    exact es_ret rfl rfl rfl ⟨by decide +kernel, rfl⟩ (Nat.le_refl _) (Nat.le_refl _)
  refine es_eq (tgt := 19) (off := (10)) (by decide +kernel) (by decide) (fun h4 => ?_) (fun h4 => ?_)
  · refine ef_drop (L2 := [none, none, none, none]) [false, false, false, false] rfl rfl ?_
    exact Hj2 _
  refine es_blk (pc' := 13) (L' := [some (.ref 124), some (.int p0), some (.int p1), some (.int x1)]) (st' := [.ref 124]) [(.aload_n 0, 0)] (by decide +kernel) rfl rfl ?_
  refine ef_getQ (j := 7) (ok := eh_okX) (by decide) eL_7_57 rfl (fun q h => eh_sh_NU (eh_Xsh h)) (by decide +kernel) (fun h5 => ?_)
  refine es_blk (pc' := 18) (L' := [some (.ref 124), some (.int p0), some (.int p1), some (.int x1)]) (st' := [.int p1, .int x1, .ref (s.2.2 7)]) [(.iload_n 3, 0), (.iload_n 2, 0)] (by decide +kernel) rfl rfl ?_
  refine ef_ast (k := (s.2.2 7)) (eh_Xsh h5) (by decide +kernel) (fun _ => ?_)
  refine ef_V (fun _ => [some (.ref 124), some (.int p0), some (.int p1), some (.int x1)]) (fun _ => []) (fun s6 => eh_FW s6) (fun s6 => ?_)
  refine ef_drop (L2 := [none, none, none, none]) [false, false, false, false] rfl rfl ?_
  exact Hj2 _
def eF_7_offsetJ (s : eh_F) (p0 : Int32) : Option (Int32) := some ((((eh_shl (eh_shr p0 31) 20) ||| (p0 &&& 1044480)) ||| ((eh_ushr p0 9) &&& 2048)) ||| ((eh_ushr p0 20) &&& 2046))
set_option maxHeartbeats 4000000 in
set_option maxRecDepth 100000 in
theorem eS_7_offsetJ (g : eh_P) (s : eh_F) (p0 : Int32) : eh_Sim g eM_7_offsetJ (eh_R 1 0 0) (eh_pI s) 0 0 0 (eh_en 1 [.int p0]) [] (eh_FW s) (eF_7_offsetJ s p0) := by
  unfold eF_7_offsetJ
  refine ef_top (L := [some (.int p0)]) rfl ?_
  refine es_blk (pc' := 8) (L' := [some (.int p0)]) (st' := [.int p0, .int (eh_shl (eh_shr p0 31) 20)]) [(.iload_n 0, 0), (.bipush 31, 31), (.ishr, 0), (.bipush 20, 20), (.ishl, 0), (.iload_n 0, 0)] (by decide +kernel) rfl rfl ?_
  refine es_ldc (v := 1044480) eC_7_204 (by decide +kernel) ?_
  refine es_blk (pc' := 30) (L' := [some (.int p0)]) (st' := [.int ((((eh_shl (eh_shr p0 31) 20) ||| (p0 &&& 1044480)) ||| ((eh_ushr p0 9) &&& 2048)) ||| ((eh_ushr p0 20) &&& 2046))]) [(.iand, 0), (.ior, 0), (.iload_n 0, 0), (.bipush 9, 9), (.iushr, 0), (.sipush 2048, 2048), (.iand, 0), (.ior, 0), (.iload_n 0, 0), (.bipush 20, 20), (.iushr, 0), (.sipush 2046, 2046), (.iand, 0), (.ior, 0)] (by decide +kernel) rfl rfl ?_
  exact es_ret rfl rfl rfl ⟨by decide +kernel, _, rfl, rfl⟩ (Nat.le_refl _) (Nat.le_refl _)
def eF_7_offsetB (s : eh_F) (p0 : Int32) : Option (Int32) := some ((((eh_shl (eh_shr p0 31) 12) ||| ((eh_shl p0 4) &&& 2048)) ||| ((eh_ushr p0 20) &&& 2016)) ||| ((eh_ushr p0 7) &&& 30))
set_option maxHeartbeats 4000000 in
set_option maxRecDepth 100000 in
theorem eS_7_offsetB (g : eh_P) (s : eh_F) (p0 : Int32) : eh_Sim g eM_7_offsetB (eh_R 1 0 0) (eh_pI s) 0 0 0 (eh_en 1 [.int p0]) [] (eh_FW s) (eF_7_offsetB s p0) := by
  unfold eF_7_offsetB
  refine ef_top (L := [some (.int p0)]) rfl ?_
  refine es_blk (pc' := 32) (L' := [some (.int p0)]) (st' := [.int ((((eh_shl (eh_shr p0 31) 12) ||| ((eh_shl p0 4) &&& 2048)) ||| ((eh_ushr p0 20) &&& 2016)) ||| ((eh_ushr p0 7) &&& 30))]) [(.iload_n 0, 0), (.bipush 31, 31), (.ishr, 0), (.bipush 12, 12), (.ishl, 0), (.iload_n 0, 0), (.iconst 4, 4), (.ishl, 0), (.sipush 2048, 2048), (.iand, 0), (.ior, 0), (.iload_n 0, 0), (.bipush 20, 20), (.iushr, 0), (.sipush 2016, 2016), (.iand, 0), (.ior, 0), (.iload_n 0, 0), (.bipush 7, 7), (.iushr, 0), (.bipush 30, 30), (.iand, 0), (.ior, 0)] (by decide +kernel) rfl rfl ?_
  exact es_ret rfl rfl rfl ⟨by decide +kernel, _, rfl, rfl⟩ (Nat.le_refl _) (Nat.le_refl _)
def eF_7_leftOf (s : eh_F) (p0 : Int32) : Option (Int32) := if eh_okX (s.2.2 7) then if eh_in ((eh_ushr p0 15) &&& 31) 32 then some (s.1 (s.2.2 7) (eh_ix ((eh_ushr p0 15) &&& 31))) else none else none
set_option maxHeartbeats 4000000 in
set_option maxRecDepth 100000 in
theorem eS_7_leftOf (g : eh_P) (s : eh_F) (p0 : Int32) : eh_Sim g eM_7_leftOf (eh_R 1 0 0) (eh_pI s) 0 0 0 (eh_en 2 [.ref 124, .int p0]) [] (eh_FW s) (eF_7_leftOf s p0) := by
  unfold eF_7_leftOf
  refine ef_top (L := [some (.ref 124), some (.int p0)]) rfl ?_
  refine es_blk (pc' := 1) (L' := [some (.ref 124), some (.int p0)]) (st' := [.ref 124]) [(.aload_n 0, 0)] (by decide +kernel) rfl rfl ?_
  refine ef_getQ (j := 7) (ok := eh_okX) (by decide) eL_7_57 rfl (fun q h => eh_sh_NU (eh_Xsh h)) (by decide +kernel) (fun h1 => ?_)
  refine es_blk (pc' := 11) (L' := [some (.ref 124), some (.int p0)]) (st' := [.int ((eh_ushr p0 15) &&& 31), .ref (s.2.2 7)]) [(.iload_n 1, 0), (.bipush 15, 15), (.iushr, 0), (.bipush 31, 31), (.iand, 0)] (by decide +kernel) rfl rfl ?_
  refine ef_ald (k := (s.2.2 7)) (eh_Xsh h1) (Or.inl ⟨rfl, rfl⟩) (by decide +kernel) (fun _ => ?_)
  exact es_ret rfl rfl rfl ⟨by decide +kernel, _, rfl, rfl⟩ (Nat.le_refl _) (Nat.le_refl _)
def eF_7_rightOf (s : eh_F) (p0 : Int32) : Option (Int32) := if eh_okX (s.2.2 7) then if eh_in ((eh_ushr p0 20) &&& 31) 32 then some (s.1 (s.2.2 7) (eh_ix ((eh_ushr p0 20) &&& 31))) else none else none
set_option maxHeartbeats 4000000 in
set_option maxRecDepth 100000 in
theorem eS_7_rightOf (g : eh_P) (s : eh_F) (p0 : Int32) : eh_Sim g eM_7_rightOf (eh_R 1 0 0) (eh_pI s) 0 0 0 (eh_en 2 [.ref 124, .int p0]) [] (eh_FW s) (eF_7_rightOf s p0) := by
  unfold eF_7_rightOf
  refine ef_top (L := [some (.ref 124), some (.int p0)]) rfl ?_
  refine es_blk (pc' := 1) (L' := [some (.ref 124), some (.int p0)]) (st' := [.ref 124]) [(.aload_n 0, 0)] (by decide +kernel) rfl rfl ?_
  refine ef_getQ (j := 7) (ok := eh_okX) (by decide) eL_7_57 rfl (fun q h => eh_sh_NU (eh_Xsh h)) (by decide +kernel) (fun h1 => ?_)
  refine es_blk (pc' := 11) (L' := [some (.ref 124), some (.int p0)]) (st' := [.int ((eh_ushr p0 20) &&& 31), .ref (s.2.2 7)]) [(.iload_n 1, 0), (.bipush 20, 20), (.iushr, 0), (.bipush 31, 31), (.iand, 0)] (by decide +kernel) rfl rfl ?_
  refine ef_ald (k := (s.2.2 7)) (eh_Xsh h1) (Or.inl ⟨rfl, rfl⟩) (by decide +kernel) (fun _ => ?_)
  exact es_ret rfl rfl rfl ⟨by decide +kernel, _, rfl, rfl⟩ (Nat.le_refl _) (Nat.le_refl _)
def eF_7_multiplied (s : eh_F) (p0 : Int32) (p1 : Int32) (p2 : Int32) : Option (Int32) := if p0 = 0 then (some (p1 * p2)) else if p0 = 1 then (some ((eh_lshr ((p1.toInt64) * (p2.toInt64)) 32).toInt32)) else if p0 = 2 then (some ((eh_lshr ((p1.toInt64) * ((p2.toInt64) &&& 4294967295)) 32).toInt32)) else (some ((eh_lushr (((p1.toInt64) &&& 4294967295) * ((p2.toInt64) &&& 4294967295)) 32).toInt32))
set_option maxHeartbeats 4000000 in
set_option maxRecDepth 100000 in
theorem eS_7_multiplied (g : eh_P) (s : eh_F) (p0 : Int32) (p1 : Int32) (p2 : Int32) : eh_Sim g eM_7_multiplied (eh_R 1 0 0) (eh_pI s) 0 0 0 (eh_en 3 [.int p0, .int p1, .int p2]) [] (eh_FW s) (eF_7_multiplied s p0 p1 p2) := by
  unfold eF_7_multiplied
  refine ef_top (L := [some (.int p0), some (.int p1), some (.int p2)]) rfl ?_
  refine es_blk (pc' := 1) (L' := [some (.int p0), some (.int p1), some (.int p2)]) (st' := [.int p0]) [(.iload_n 0, 0)] (by decide +kernel) rfl rfl ?_
  have hs1 : decode eM_7_multiplied.2.1 1 = .ok (.tableswitch (55) (0) (2) #[(27), (31), (41)], 27) := by decide +kernel
  refine es_ifc (fun h2 => ?_) (fun h2 => ?_)
  · refine es_tsw (off := (27)) (tgt := 28) hs1 0 h2 (by decide) ?_
    refine es_blk (pc' := 31) (L' := [some (.int p0), some (.int p1), some (.int p2)]) (st' := [.int (p1 * p2)]) [(.iload_n 1, 0), (.iload_n 2, 0), (.imul, 0)] (by decide +kernel) rfl rfl ?_
    exact es_ret rfl rfl rfl ⟨by decide +kernel, _, rfl, rfl⟩ (Nat.le_refl _) (Nat.le_refl _)
  refine es_ifc (fun h3 => ?_) (fun h3 => ?_)
  · refine es_tsw (off := (31)) (tgt := 32) hs1 1 h3 (by decide) ?_
    refine es_blk (pc' := 41) (L' := [some (.int p0), some (.int p1), some (.int p2)]) (st' := [.int ((eh_lshr ((p1.toInt64) * (p2.toInt64)) 32).toInt32)]) [(.iload_n 1, 0), (.i2l, 0), (.iload_n 2, 0), (.i2l, 0), (.lmul, 0), (.bipush 32, 32), (.lshr, 0), (.l2i, 0)] (by decide +kernel) rfl rfl ?_
    exact es_ret rfl rfl rfl ⟨by decide +kernel, _, rfl, rfl⟩ (Nat.le_refl _) (Nat.le_refl _)
  refine es_ifc (fun h4 => ?_) (fun h4 => ?_)
  · refine es_tsw (off := (41)) (tgt := 42) hs1 2 h4 (by decide) ?_
    refine es_blk (pc' := 46) (L' := [some (.int p0), some (.int p1), some (.int p2)]) (st' := [.long (p2.toInt64), .long (p1.toInt64)]) [(.iload_n 1, 0), (.i2l, 0), (.iload_n 2, 0), (.i2l, 0)] (by decide +kernel) rfl rfl ?_
    refine es_ldc2 (v := 4294967295) eC_7_242 (by decide +kernel) ?_
    refine es_blk (pc' := 55) (L' := [some (.int p0), some (.int p1), some (.int p2)]) (st' := [.int ((eh_lshr ((p1.toInt64) * ((p2.toInt64) &&& 4294967295)) 32).toInt32)]) [(.land, 0), (.lmul, 0), (.bipush 32, 32), (.lshr, 0), (.l2i, 0)] (by decide +kernel) rfl rfl ?_
    exact es_ret rfl rfl rfl ⟨by decide +kernel, _, rfl, rfl⟩ (Nat.le_refl _) (Nat.le_refl _)
  refine es_tswD (tgt := 56) hs1 [0, 1, 2] (List.forall_mem_cons.mpr ⟨eh_nei 0 0 (by decide) h2, (List.forall_mem_cons.mpr ⟨eh_nei 1 1 (by decide) h3, (List.forall_mem_cons.mpr ⟨eh_nei 2 2 (by decide) h4, (List.forall_mem_nil _)⟩)⟩)⟩) (by decide) (by decide) (by decide) ?_
  refine es_blk (pc' := 58) (L' := [some (.int p0), some (.int p1), some (.int p2)]) (st' := [.long (p1.toInt64)]) [(.iload_n 1, 0), (.i2l, 0)] (by decide +kernel) rfl rfl ?_
  refine es_ldc2 (v := 4294967295) eC_7_242 (by decide +kernel) ?_
  refine es_blk (pc' := 64) (L' := [some (.int p0), some (.int p1), some (.int p2)]) (st' := [.long (p2.toInt64), .long ((p1.toInt64) &&& 4294967295)]) [(.land, 0), (.iload_n 2, 0), (.i2l, 0)] (by decide +kernel) rfl rfl ?_
  refine es_ldc2 (v := 4294967295) eC_7_242 (by decide +kernel) ?_
  refine es_blk (pc' := 73) (L' := [some (.int p0), some (.int p1), some (.int p2)]) (st' := [.int ((eh_lushr (((p1.toInt64) &&& 4294967295) * ((p2.toInt64) &&& 4294967295)) 32).toInt32)]) [(.land, 0), (.lmul, 0), (.bipush 32, 32), (.lushr, 0), (.l2i, 0)] (by decide +kernel) rfl rfl ?_
  exact es_ret rfl rfl rfl ⟨by decide +kernel, _, rfl, rfl⟩ (Nat.le_refl _) (Nat.le_refl _)
def eF_7_divided (s : eh_F) (p0 : Int32) (p1 : Int32) (p2 : Int32) : Option (Int32) := eh_J (fun (a2 : Int32) => if p2 = 0 then (eh_J (fun (a5 : Int32) => some a5) (fun j4 => if a2 = 0 then (j4 (-1)) else (j4 p1))) else (if (p0 &&& 1) = 1 then (eh_V (((p1.toInt64) &&& 4294967295) : Int64) (fun x8 => eh_V (((p2.toInt64) &&& 4294967295) : Int64) (fun x9 => eh_J (fun (a11 : Int64) => some (a11.toInt32)) (fun j10 => if a2 = 0 then (if x9 = 0 then none else j10 (x8 / x9)) else (if x9 = 0 then none else j10 (eh_lrem x8 x9)))))) else (eh_J (fun (a16 : Int32) => some a16) (fun j15 => if a2 = 0 then (if p2 = 0 then none else j15 (p1 / p2)) else (if p2 = 0 then none else j15 (eh_rem p1 p2)))))) (fun j1 => if 5 < p0 then (j1 1) else (j1 0))
set_option maxHeartbeats 4000000 in
set_option maxRecDepth 100000 in
theorem eS_7_divided (g : eh_P) (s : eh_F) (p0 : Int32) (p1 : Int32) (p2 : Int32) : eh_Sim g eM_7_divided (eh_R 1 0 0) (eh_pI s) 0 0 0 (eh_en 8 [.int p0, .int p1, .int p2]) [] (eh_FW s) (eF_7_divided s p0 p1 p2) := by
  unfold eF_7_divided
  refine ef_top (L := [some (.int p0), some (.int p1), some (.int p2), none, none, none, none, none]) rfl ?_
  refine es_blk (pc' := 2) (L' := [some (.int p0), some (.int p1), some (.int p2), none, none, none, none, none]) (st' := [.int 5, .int p0]) [(.iload_n 0, 0), (.iconst 5, 5)] (by decide +kernel) rfl rfl ?_
  refine ef_J (X := fun j1 => ∀ (a2 : Int32), eh_Sim g eM_7_divided (eh_R 1 0 0) (eh_pI s) 0 0 10 [some (.int p0), some (.int p1), some (.int p2), none, none, none, none, none] [.int a2] (eh_FW s) ((j1 a2).bind some)) ?_ (fun j1 Hj1 => ?_)
  · intro a2
    refine es_blk (pc' := 12) (L' := [some (.int p0), some (.int p1), some (.int p2), some (.int a2), none, none, none, none]) (st' := [.int p2]) [(.istore_n 3, 0), (.iload_n 2, 0)] (by decide +kernel) rfl rfl ?_
    refine es_ne (tgt := 25) (off := (13)) (by decide +kernel) (by decide) (fun h3 => ?_) (fun h3 => ?_)
    · refine es_blk (pc' := 16) (L' := [some (.int p0), some (.int p1), some (.int p2), some (.int a2), none, none, none, none]) (st' := [.int a2]) [(.iload_n 3, 0)] (by decide +kernel) rfl rfl ?_
      refine ef_J (X := fun j4 => ∀ (a5 : Int32), eh_Sim g eM_7_divided (eh_R 1 0 0) (eh_pI s) 0 0 24 [none, none, none, none, none, none, none, none] [.int a5] (eh_FW s) ((j4 a5).bind some)) ?_ (fun j4 Hj4 => ?_)
      · intro a5
        exact es_ret rfl rfl rfl ⟨by decide +kernel, _, rfl, rfl⟩ (Nat.le_refl _) (Nat.le_refl _)
      refine es_eq (tgt := 23) (off := (7)) (by decide +kernel) (by decide) (fun h6 => ?_) (fun h6 => ?_)
      · refine es_blk (pc' := 24) (L' := [some (.int p0), some (.int p1), some (.int p2), some (.int a2), none, none, none, none]) (st' := [.int (-1)]) [(.iconst (-1), (-1))] (by decide +kernel) rfl rfl ?_
        refine ef_drop (L2 := [none, none, none, none, none, none, none, none]) [false, false, false, false, true, true, true, true] rfl rfl ?_
        exact Hj4 _
      refine es_blk (pc' := 20) (L' := [some (.int p0), some (.int p1), some (.int p2), some (.int a2), none, none, none, none]) (st' := [.int p1]) [(.iload_n 1, 0)] (by decide +kernel) rfl rfl ?_
      refine es_goto (tgt := 24) (off := (4)) (by decide +kernel) (by decide) ?_
      refine ef_drop (L2 := [none, none, none, none, none, none, none, none]) [false, false, false, false, true, true, true, true] rfl rfl ?_
      exact Hj4 _
    refine es_blk (pc' := 29) (L' := [some (.int p0), some (.int p1), some (.int p2), some (.int a2), none, none, none, none]) (st' := [.int 1, .int (p0 &&& 1)]) [(.iload_n 0, 0), (.iconst 1, 1), (.iand, 0), (.iconst 1, 1)] (by decide +kernel) rfl rfl ?_
    refine es_ine (tgt := 67) (off := (38)) (by decide +kernel) (by decide) (fun h7 => ?_) (fun h7 => ?_)
    · refine es_blk (pc' := 34) (L' := [some (.int p0), some (.int p1), some (.int p2), some (.int a2), none, none, none, none]) (st' := [.long (p1.toInt64)]) [(.iload_n 1, 0), (.i2l, 0)] (by decide +kernel) rfl rfl ?_
      refine es_ldc2 (v := 4294967295) eC_7_242 (by decide +kernel) ?_
      refine es_blk (pc' := 40) (L' := [some (.int p0), some (.int p1), some (.int p2), some (.int a2), some (.long ((p1.toInt64) &&& 4294967295)), none, none, none]) (st' := []) [(.land, 0), (.lstore 4, 0)] (by decide +kernel) rfl rfl ?_
      refine ef_V (fun x8 => [some (.int p0), some (.int p1), some (.int p2), some (.int a2), some (.long x8), none, none, none]) (fun _ => []) (fun _ => eh_FW s) (fun x8 => ?_)
      refine es_blk (pc' := 42) (L' := [some (.int p0), some (.int p1), some (.int p2), some (.int a2), some (.long x8), none, none, none]) (st' := [.long (p2.toInt64)]) [(.iload_n 2, 0), (.i2l, 0)] (by decide +kernel) rfl rfl ?_
      refine es_ldc2 (v := 4294967295) eC_7_242 (by decide +kernel) ?_
      refine es_blk (pc' := 48) (L' := [some (.int p0), some (.int p1), some (.int p2), some (.int a2), some (.long x8), none, some (.long ((p2.toInt64) &&& 4294967295)), none]) (st' := []) [(.land, 0), (.lstore 6, 0)] (by decide +kernel) rfl rfl ?_
      refine ef_V (fun x9 => [some (.int p0), some (.int p1), some (.int p2), some (.int a2), some (.long x8), none, some (.long x9), none]) (fun _ => []) (fun _ => eh_FW s) (fun x9 => ?_)
      refine es_blk (pc' := 49) (L' := [some (.int p0), some (.int p1), some (.int p2), some (.int a2), some (.long x8), none, some (.long x9), none]) (st' := [.int a2]) [(.iload_n 3, 0)] (by decide +kernel) rfl rfl ?_
      refine ef_J (X := fun j10 => ∀ (a11 : Int64), eh_Sim g eM_7_divided (eh_R 1 0 0) (eh_pI s) 0 0 65 [none, none, none, none, none, none, none, none] [.long a11] (eh_FW s) ((j10 a11).bind some)) ?_ (fun j10 Hj10 => ?_)
      · intro a11
        refine es_blk (pc' := 66) (L' := [none, none, none, none, none, none, none, none]) (st' := [.int (a11.toInt32)]) [(.l2i, 0)] (by decide +kernel) rfl rfl ?_
        exact es_ret rfl rfl rfl ⟨by decide +kernel, _, rfl, rfl⟩ (Nat.le_refl _) (Nat.le_refl _)
      refine es_eq (tgt := 60) (off := (11)) (by decide +kernel) (by decide) (fun h12 => ?_) (fun h12 => ?_)
      · refine es_blk (pc' := 64) (L' := [some (.int p0), some (.int p1), some (.int p2), some (.int a2), some (.long x8), none, some (.long x9), none]) (st' := [.long x9, .long x8]) [(.lload 4, 0), (.lload 6, 0)] (by decide +kernel) rfl rfl ?_
        refine es_chkNL (fun h13 => ?_)
        refine es_ldiv (by decide +kernel) h13 ?_
        refine ef_drop (L2 := [none, none, none, none, none, none, none, none]) [false, false, false, false, false, true, false, true] rfl rfl ?_
        exact Hj10 _
      refine es_blk (pc' := 56) (L' := [some (.int p0), some (.int p1), some (.int p2), some (.int a2), some (.long x8), none, some (.long x9), none]) (st' := [.long x9, .long x8]) [(.lload 4, 0), (.lload 6, 0)] (by decide +kernel) rfl rfl ?_
      refine es_chkNL (fun h14 => ?_)
      refine es_lrem (by decide +kernel) h14 ?_
      refine es_goto (tgt := 65) (off := (8)) (by decide +kernel) (by decide) ?_
      refine ef_drop (L2 := [none, none, none, none, none, none, none, none]) [false, false, false, false, false, true, false, true] rfl rfl ?_
      exact Hj10 _
    refine es_blk (pc' := 68) (L' := [some (.int p0), some (.int p1), some (.int p2), some (.int a2), none, none, none, none]) (st' := [.int a2]) [(.iload_n 3, 0)] (by decide +kernel) rfl rfl ?_
    refine ef_J (X := fun j15 => ∀ (a16 : Int32), eh_Sim g eM_7_divided (eh_R 1 0 0) (eh_pI s) 0 0 80 [none, none, none, none, none, none, none, none] [.int a16] (eh_FW s) ((j15 a16).bind some)) ?_ (fun j15 Hj15 => ?_)
    · intro a16
      exact es_ret rfl rfl rfl ⟨by decide +kernel, _, rfl, rfl⟩ (Nat.le_refl _) (Nat.le_refl _)
    refine es_eq (tgt := 77) (off := (9)) (by decide +kernel) (by decide) (fun h17 => ?_) (fun h17 => ?_)
    · refine es_blk (pc' := 79) (L' := [some (.int p0), some (.int p1), some (.int p2), some (.int a2), none, none, none, none]) (st' := [.int p2, .int p1]) [(.iload_n 1, 0), (.iload_n 2, 0)] (by decide +kernel) rfl rfl ?_
      refine es_chkN (fun h18 => ?_)
      refine es_idiv (by decide +kernel) h18 ?_
      refine ef_drop (L2 := [none, none, none, none, none, none, none, none]) [false, false, false, false, true, true, true, true] rfl rfl ?_
      exact Hj15 _
    refine es_blk (pc' := 73) (L' := [some (.int p0), some (.int p1), some (.int p2), some (.int a2), none, none, none, none]) (st' := [.int p2, .int p1]) [(.iload_n 1, 0), (.iload_n 2, 0)] (by decide +kernel) rfl rfl ?_
    refine es_chkN (fun h19 => ?_)
    refine es_irem (by decide +kernel) h19 ?_
    refine es_goto (tgt := 80) (off := (6)) (by decide +kernel) (by decide) ?_
    refine ef_drop (L2 := [none, none, none, none, none, none, none, none]) [false, false, false, false, true, true, true, true] rfl rfl ?_
    exact Hj15 _
  refine es_ile (tgt := 9) (off := (7)) (by decide +kernel) (by decide) (fun h20 => ?_) (fun h20 => ?_)
  · refine es_blk (pc' := 6) (L' := [some (.int p0), some (.int p1), some (.int p2), none, none, none, none, none]) (st' := [.int 1]) [(.iconst 1, 1)] (by decide +kernel) rfl rfl ?_
    refine es_goto (tgt := 10) (off := (4)) (by decide +kernel) (by decide) ?_
    exact Hj1 _
  refine es_blk (pc' := 10) (L' := [some (.int p0), some (.int p1), some (.int p2), none, none, none, none, none]) (st' := [.int 0]) [(.iconst 0, 0)] (by decide +kernel) rfl rfl ?_
  exact Hj1 _
