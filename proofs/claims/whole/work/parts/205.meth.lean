def eF_12_thread (s : eh_F) (p0 : Int32) (p1 : Int32) : Option (Int32) := eh_J (fun (u2 : Unit) => some (-1)) (fun j1 => if p0 < 0 then (j1 ()) else (if p0 < 12 then (if p1 = 0 then (if eh_in p0 12 then some (s.1 148 (eh_ix p0)) else none) else (if eh_in p0 12 then if (s.1 148 (eh_ix p0)) = 0 then (some (-1)) else (if p1 = 1 then (if eh_in p0 12 then some (s.1 149 (eh_ix p0)) else none) else if p1 = 2 then (eh_J (fun (a11 : Int32) => some a11) (fun j10 => if (s.1 144 0) = p0 then (j10 0) else (if (s.1 144 1) = p0 then (j10 1) else (j10 (-1))))) else if p1 = 3 then (if eh_in p0 12 then some (s.1 150 (eh_ix p0)) else none) else if p1 = 4 then (if eh_in p0 12 then some (s.1 151 (eh_ix p0)) else none) else (some (-1))) else none)) else (j1 ())))
set_option maxHeartbeats 4000000 in
set_option maxRecDepth 100000 in
theorem eS_12_thread (g : eh_P) (s : eh_F) (p0 : Int32) (p1 : Int32) : eh_Sim g eM_12_thread (eh_R 1 0 0) (eh_pI s) 0 0 0 (eh_en 3 [.ref 127, .int p0, .int p1]) [] (eh_FW s) (eF_12_thread s p0 p1) := by
  unfold eF_12_thread
  refine ef_top (L := [some (.ref 127), some (.int p0), some (.int p1)]) rfl ?_
  refine es_blk (pc' := 1) (L' := [some (.ref 127), some (.int p0), some (.int p1)]) (st' := [.int p0]) [(.iload_n 1, 0)] (by decide +kernel) rfl rfl ?_
  refine ef_J (X := fun j1 => ∀ (u2 : Unit), eh_Sim g eM_12_thread (eh_R 1 0 0) (eh_pI s) 0 0 10 [none, none, none] [] (eh_FW s) ((j1 u2).bind some)) ?_ (fun j1 Hj1 => ?_)
  · intro u2
    refine es_blk (pc' := 11) (L' := [none, none, none]) (st' := [.int (-1)]) [(.iconst (-1), (-1))] (by decide +kernel) rfl rfl ?_
    exact es_ret rfl rfl rfl ⟨by decide +kernel, _, rfl, rfl⟩ (Nat.le_refl _) (Nat.le_refl _)
  refine es_lt (tgt := 10) (off := (9)) (by decide +kernel) (by decide) (fun h3 => ?_) (fun h3 => ?_)
  · refine ef_drop (L2 := [none, none, none]) [false, false, false] rfl rfl ?_
    exact Hj1 ()
  refine es_blk (pc' := 7) (L' := [some (.ref 127), some (.int p0), some (.int p1)]) (st' := [.int 12, .int p0]) [(.iload_n 1, 0), (.bipush 12, 12)] (by decide +kernel) rfl rfl ?_
  refine es_ilt (tgt := 12) (off := (5)) (by decide +kernel) (by decide) (fun h4 => ?_) (fun h4 => ?_)
  · refine es_blk (pc' := 13) (L' := [some (.ref 127), some (.int p0), some (.int p1)]) (st' := [.int p1]) [(.iload_n 2, 0)] (by decide +kernel) rfl rfl ?_
    refine es_ne (tgt := 23) (off := (10)) (by decide +kernel) (by decide) (fun h5 => ?_) (fun h5 => ?_)
    · refine es_blk (pc' := 17) (L' := [some (.ref 127), some (.int p0), some (.int p1)]) (st' := [.ref 127]) [(.aload_n 0, 0)] (by decide +kernel) rfl rfl ?_
      refine ef_getP (k := 127) (j := 23) (q := 148) rfl eL_12_73 rfl rfl rfl (by decide +kernel) ?_
      refine es_blk (pc' := 21) (L' := [some (.ref 127), some (.int p0), some (.int p1)]) (st' := [.int p0, .ref 148]) [(.iload_n 1, 0)] (by decide +kernel) rfl rfl ?_
      refine ef_ald (k := 148) rfl (Or.inl ⟨rfl, rfl⟩) (by decide +kernel) (fun _ => ?_)
      exact es_ret rfl rfl rfl ⟨by decide +kernel, _, rfl, rfl⟩ (Nat.le_refl _) (Nat.le_refl _)
    refine es_blk (pc' := 24) (L' := [some (.ref 127), some (.int p0), some (.int p1)]) (st' := [.ref 127]) [(.aload_n 0, 0)] (by decide +kernel) rfl rfl ?_
    refine ef_getP (k := 127) (j := 23) (q := 148) rfl eL_12_73 rfl rfl rfl (by decide +kernel) ?_
    refine es_blk (pc' := 28) (L' := [some (.ref 127), some (.int p0), some (.int p1)]) (st' := [.int p0, .ref 148]) [(.iload_n 1, 0)] (by decide +kernel) rfl rfl ?_
    refine ef_ald (k := 148) rfl (Or.inl ⟨rfl, rfl⟩) (by decide +kernel) (fun _ => ?_)
    refine es_ne (tgt := 34) (off := (5)) (by decide +kernel) (by decide) (fun h6 => ?_) (fun h6 => ?_)
    · refine es_blk (pc' := 33) (L' := [some (.ref 127), some (.int p0), some (.int p1)]) (st' := [.int (-1)]) [(.iconst (-1), (-1))] (by decide +kernel) rfl rfl ?_
      exact es_ret rfl rfl rfl ⟨by decide +kernel, _, rfl, rfl⟩ (Nat.le_refl _) (Nat.le_refl _)
    refine es_blk (pc' := 35) (L' := [some (.ref 127), some (.int p0), some (.int p1)]) (st' := [.int p1]) [(.iload_n 2, 0)] (by decide +kernel) rfl rfl ?_
    have hs7 : decode eM_12_thread.2.1 35 = .ok (.tableswitch (80) (1) (4) #[(29), (36), (66), (73)], 29) := by decide +kernel
    refine es_ifc (fun h8 => ?_) (fun h8 => ?_)
    · refine es_tsw (off := (29)) (tgt := 64) hs7 1 h8 (by decide) ?_
      refine es_blk (pc' := 65) (L' := [some (.ref 127), some (.int p0), some (.int p1)]) (st' := [.ref 127]) [(.aload_n 0, 0)] (by decide +kernel) rfl rfl ?_
      refine ef_getP (k := 127) (j := 24) (q := 149) rfl eL_12_76 rfl rfl rfl (by decide +kernel) ?_
      refine es_blk (pc' := 69) (L' := [some (.ref 127), some (.int p0), some (.int p1)]) (st' := [.int p0, .ref 149]) [(.iload_n 1, 0)] (by decide +kernel) rfl rfl ?_
      refine ef_ald (k := 149) rfl (Or.inl ⟨rfl, rfl⟩) (by decide +kernel) (fun _ => ?_)
      exact es_ret rfl rfl rfl ⟨by decide +kernel, _, rfl, rfl⟩ (Nat.le_refl _) (Nat.le_refl _)
    refine es_ifc (fun h9 => ?_) (fun h9 => ?_)
    · refine es_tsw (off := (36)) (tgt := 71) hs7 2 h9 (by decide) ?_
      refine es_blk (pc' := 72) (L' := [some (.ref 127), some (.int p0), some (.int p1)]) (st' := [.ref 127]) [(.aload_n 0, 0)] (by decide +kernel) rfl rfl ?_
      refine ef_getP (k := 127) (j := 16) (q := 144) rfl eL_12_61 rfl rfl rfl (by decide +kernel) ?_
      refine es_blk (pc' := 76) (L' := [some (.ref 127), some (.int p0), some (.int p1)]) (st' := [.int 0, .ref 144]) [(.iconst 0, 0)] (by decide +kernel) rfl rfl ?_
      refine ef_aldc (k := 144) (j := 0) rfl (Or.inl ⟨rfl, rfl⟩) (by decide) rfl (by decide +kernel) ?_
      refine es_blk (pc' := 78) (L' := [some (.ref 127), some (.int p0), some (.int p1)]) (st' := [.int p0, .int (s.1 144 0)]) [(.iload_n 1, 0)] (by decide +kernel) rfl rfl ?_
      refine ef_J (X := fun j10 => ∀ (a11 : Int32), eh_Sim g eM_12_thread (eh_R 1 0 0) (eh_pI s) 0 0 100 [none, none, none] [.int a11] (eh_FW s) ((j10 a11).bind some)) ?_ (fun j10 Hj10 => ?_)
      · intro a11
        exact es_ret rfl rfl rfl ⟨by decide +kernel, _, rfl, rfl⟩ (Nat.le_refl _) (Nat.le_refl _)
      refine es_ine (tgt := 85) (off := (7)) (by decide +kernel) (by decide) (fun h12 => ?_) (fun h12 => ?_)
      · refine es_blk (pc' := 82) (L' := [some (.ref 127), some (.int p0), some (.int p1)]) (st' := [.int 0]) [(.iconst 0, 0)] (by decide +kernel) rfl rfl ?_
        refine es_goto (tgt := 100) (off := (18)) (by decide +kernel) (by decide) ?_
        refine ef_drop (L2 := [none, none, none]) [false, false, false] rfl rfl ?_
        exact Hj10 _
      refine es_blk (pc' := 86) (L' := [some (.ref 127), some (.int p0), some (.int p1)]) (st' := [.ref 127]) [(.aload_n 0, 0)] (by decide +kernel) rfl rfl ?_
      refine ef_getP (k := 127) (j := 16) (q := 144) rfl eL_12_61 rfl rfl rfl (by decide +kernel) ?_
      refine es_blk (pc' := 90) (L' := [some (.ref 127), some (.int p0), some (.int p1)]) (st' := [.int 1, .ref 144]) [(.iconst 1, 1)] (by decide +kernel) rfl rfl ?_
      refine ef_aldc (k := 144) (j := 1) rfl (Or.inl ⟨rfl, rfl⟩) (by decide) rfl (by decide +kernel) ?_
      refine es_blk (pc' := 92) (L' := [some (.ref 127), some (.int p0), some (.int p1)]) (st' := [.int p0, .int (s.1 144 1)]) [(.iload_n 1, 0)] (by decide +kernel) rfl rfl ?_
      refine es_ine (tgt := 99) (off := (7)) (by decide +kernel) (by decide) (fun h13 => ?_) (fun h13 => ?_)
      · refine es_blk (pc' := 96) (L' := [some (.ref 127), some (.int p0), some (.int p1)]) (st' := [.int 1]) [(.iconst 1, 1)] (by decide +kernel) rfl rfl ?_
        refine es_goto (tgt := 100) (off := (4)) (by decide +kernel) (by decide) ?_
        refine ef_drop (L2 := [none, none, none]) [false, false, false] rfl rfl ?_
        exact Hj10 _
      refine es_blk (pc' := 100) (L' := [some (.ref 127), some (.int p0), some (.int p1)]) (st' := [.int (-1)]) [(.iconst (-1), (-1))] (by decide +kernel) rfl rfl ?_
      refine ef_drop (L2 := [none, none, none]) [false, false, false] rfl rfl ?_
      exact Hj10 _
    refine es_ifc (fun h14 => ?_) (fun h14 => ?_)
    · refine es_tsw (off := (66)) (tgt := 101) hs7 3 h14 (by decide) ?_
      refine es_blk (pc' := 102) (L' := [some (.ref 127), some (.int p0), some (.int p1)]) (st' := [.ref 127]) [(.aload_n 0, 0)] (by decide +kernel) rfl rfl ?_
      refine ef_getP (k := 127) (j := 25) (q := 150) rfl eL_12_79 rfl rfl rfl (by decide +kernel) ?_
      refine es_blk (pc' := 106) (L' := [some (.ref 127), some (.int p0), some (.int p1)]) (st' := [.int p0, .ref 150]) [(.iload_n 1, 0)] (by decide +kernel) rfl rfl ?_
      refine ef_ald (k := 150) rfl (Or.inl ⟨rfl, rfl⟩) (by decide +kernel) (fun _ => ?_)
      exact es_ret rfl rfl rfl ⟨by decide +kernel, _, rfl, rfl⟩ (Nat.le_refl _) (Nat.le_refl _)
    refine es_ifc (fun h15 => ?_) (fun h15 => ?_)
    · refine es_tsw (off := (73)) (tgt := 108) hs7 4 h15 (by decide) ?_
      refine es_blk (pc' := 109) (L' := [some (.ref 127), some (.int p0), some (.int p1)]) (st' := [.ref 127]) [(.aload_n 0, 0)] (by decide +kernel) rfl rfl ?_
      refine ef_getP (k := 127) (j := 26) (q := 151) rfl eL_12_82 rfl rfl rfl (by decide +kernel) ?_
      refine es_blk (pc' := 113) (L' := [some (.ref 127), some (.int p0), some (.int p1)]) (st' := [.int p0, .ref 151]) [(.iload_n 1, 0)] (by decide +kernel) rfl rfl ?_
      refine ef_ald (k := 151) rfl (Or.inl ⟨rfl, rfl⟩) (by decide +kernel) (fun _ => ?_)
      exact es_ret rfl rfl rfl ⟨by decide +kernel, _, rfl, rfl⟩ (Nat.le_refl _) (Nat.le_refl _)
    refine es_tswD (tgt := 115) hs7 [1, 2, 3, 4] (List.forall_mem_cons.mpr ⟨eh_nei 1 1 (by decide) h8, (List.forall_mem_cons.mpr ⟨eh_nei 2 2 (by decide) h9, (List.forall_mem_cons.mpr ⟨eh_nei 3 3 (by decide) h14, (List.forall_mem_cons.mpr ⟨eh_nei 4 4 (by decide) h15, (List.forall_mem_nil _)⟩)⟩)⟩)⟩) (by decide) (by decide) (by decide) ?_
    refine es_blk (pc' := 116) (L' := [some (.ref 127), some (.int p0), some (.int p1)]) (st' := [.int (-1)]) [(.iconst (-1), (-1))] (by decide +kernel) rfl rfl ?_
    exact es_ret rfl rfl rfl ⟨by decide +kernel, _, rfl, rfl⟩ (Nat.le_refl _) (Nat.le_refl _)
  refine ef_drop (L2 := [none, none, none]) [false, false, false] rfl rfl ?_
  exact Hj1 ()
def eF_12_region (s : eh_F) (p0 : Int32) (p1 : Int32) : Option (Int32) := eh_J (fun (u2 : Unit) => some (-1)) (fun j1 => if p0 < 0 then (j1 ()) else (if p0 < 12 then (if p1 = 0 then (if eh_in p0 12 then some (s.1 164 (eh_ix p0)) else none) else (if eh_in p0 12 then if (s.1 164 (eh_ix p0)) = 0 then (some (-1)) else (if p1 = 1 then (if eh_in p0 12 then some (s.1 165 (eh_ix p0)) else none) else if p1 = 2 then (if eh_in p0 12 then some (s.1 166 (eh_ix p0)) else none) else if p1 = 3 then (if eh_in p0 12 then some (s.1 167 (eh_ix p0)) else none) else if p1 = 4 then (if eh_in p0 12 then some (s.1 168 (eh_ix p0)) else none) else if p1 = 5 then (if eh_in p0 12 then some (s.1 169 (eh_ix p0)) else none) else (some (-1))) else none)) else (j1 ())))
set_option maxHeartbeats 4000000 in
set_option maxRecDepth 100000 in
theorem eS_12_region (g : eh_P) (s : eh_F) (p0 : Int32) (p1 : Int32) : eh_Sim g eM_12_region (eh_R 1 0 0) (eh_pI s) 0 0 0 (eh_en 3 [.ref 127, .int p0, .int p1]) [] (eh_FW s) (eF_12_region s p0 p1) := by
  unfold eF_12_region
  refine ef_top (L := [some (.ref 127), some (.int p0), some (.int p1)]) rfl ?_
  refine es_blk (pc' := 1) (L' := [some (.ref 127), some (.int p0), some (.int p1)]) (st' := [.int p0]) [(.iload_n 1, 0)] (by decide +kernel) rfl rfl ?_
  refine ef_J (X := fun j1 => ∀ (u2 : Unit), eh_Sim g eM_12_region (eh_R 1 0 0) (eh_pI s) 0 0 10 [none, none, none] [] (eh_FW s) ((j1 u2).bind some)) ?_ (fun j1 Hj1 => ?_)
  · intro u2
    refine es_blk (pc' := 11) (L' := [none, none, none]) (st' := [.int (-1)]) [(.iconst (-1), (-1))] (by decide +kernel) rfl rfl ?_
    exact es_ret rfl rfl rfl ⟨by decide +kernel, _, rfl, rfl⟩ (Nat.le_refl _) (Nat.le_refl _)
  refine es_lt (tgt := 10) (off := (9)) (by decide +kernel) (by decide) (fun h3 => ?_) (fun h3 => ?_)
  · refine ef_drop (L2 := [none, none, none]) [false, false, false] rfl rfl ?_
    exact Hj1 ()
  refine es_blk (pc' := 7) (L' := [some (.ref 127), some (.int p0), some (.int p1)]) (st' := [.int 12, .int p0]) [(.iload_n 1, 0), (.bipush 12, 12)] (by decide +kernel) rfl rfl ?_
  refine es_ilt (tgt := 12) (off := (5)) (by decide +kernel) (by decide) (fun h4 => ?_) (fun h4 => ?_)
  · refine es_blk (pc' := 13) (L' := [some (.ref 127), some (.int p0), some (.int p1)]) (st' := [.int p1]) [(.iload_n 2, 0)] (by decide +kernel) rfl rfl ?_
    refine es_ne (tgt := 23) (off := (10)) (by decide +kernel) (by decide) (fun h5 => ?_) (fun h5 => ?_)
    · refine es_blk (pc' := 17) (L' := [some (.ref 127), some (.int p0), some (.int p1)]) (st' := [.ref 127]) [(.aload_n 0, 0)] (by decide +kernel) rfl rfl ?_
      refine ef_getP (k := 127) (j := 39) (q := 164) rfl eL_12_121 rfl rfl rfl (by decide +kernel) ?_
      refine es_blk (pc' := 21) (L' := [some (.ref 127), some (.int p0), some (.int p1)]) (st' := [.int p0, .ref 164]) [(.iload_n 1, 0)] (by decide +kernel) rfl rfl ?_
      refine ef_ald (k := 164) rfl (Or.inl ⟨rfl, rfl⟩) (by decide +kernel) (fun _ => ?_)
      exact es_ret rfl rfl rfl ⟨by decide +kernel, _, rfl, rfl⟩ (Nat.le_refl _) (Nat.le_refl _)
    refine es_blk (pc' := 24) (L' := [some (.ref 127), some (.int p0), some (.int p1)]) (st' := [.ref 127]) [(.aload_n 0, 0)] (by decide +kernel) rfl rfl ?_
    refine ef_getP (k := 127) (j := 39) (q := 164) rfl eL_12_121 rfl rfl rfl (by decide +kernel) ?_
    refine es_blk (pc' := 28) (L' := [some (.ref 127), some (.int p0), some (.int p1)]) (st' := [.int p0, .ref 164]) [(.iload_n 1, 0)] (by decide +kernel) rfl rfl ?_
    refine ef_ald (k := 164) rfl (Or.inl ⟨rfl, rfl⟩) (by decide +kernel) (fun _ => ?_)
    refine es_ne (tgt := 34) (off := (5)) (by decide +kernel) (by decide) (fun h6 => ?_) (fun h6 => ?_)
    · refine es_blk (pc' := 33) (L' := [some (.ref 127), some (.int p0), some (.int p1)]) (st' := [.int (-1)]) [(.iconst (-1), (-1))] (by decide +kernel) rfl rfl ?_
      exact es_ret rfl rfl rfl ⟨by decide +kernel, _, rfl, rfl⟩ (Nat.le_refl _) (Nat.le_refl _)
    refine es_blk (pc' := 35) (L' := [some (.ref 127), some (.int p0), some (.int p1)]) (st' := [.int p1]) [(.iload_n 2, 0)] (by decide +kernel) rfl rfl ?_
    have hs7 : decode eM_12_region.2.1 35 = .ok (.tableswitch (68) (1) (5) #[(33), (40), (47), (54), (61)], 33) := by decide +kernel
    refine es_ifc (fun h8 => ?_) (fun h8 => ?_)
    · refine es_tsw (off := (33)) (tgt := 68) hs7 1 h8 (by decide) ?_
      refine es_blk (pc' := 69) (L' := [some (.ref 127), some (.int p0), some (.int p1)]) (st' := [.ref 127]) [(.aload_n 0, 0)] (by decide +kernel) rfl rfl ?_
      refine ef_getP (k := 127) (j := 40) (q := 165) rfl eL_12_124 rfl rfl rfl (by decide +kernel) ?_
      refine es_blk (pc' := 73) (L' := [some (.ref 127), some (.int p0), some (.int p1)]) (st' := [.int p0, .ref 165]) [(.iload_n 1, 0)] (by decide +kernel) rfl rfl ?_
      refine ef_ald (k := 165) rfl (Or.inl ⟨rfl, rfl⟩) (by decide +kernel) (fun _ => ?_)
      exact es_ret rfl rfl rfl ⟨by decide +kernel, _, rfl, rfl⟩ (Nat.le_refl _) (Nat.le_refl _)
    refine es_ifc (fun h9 => ?_) (fun h9 => ?_)
    · refine es_tsw (off := (40)) (tgt := 75) hs7 2 h9 (by decide) ?_
      refine es_blk (pc' := 76) (L' := [some (.ref 127), some (.int p0), some (.int p1)]) (st' := [.ref 127]) [(.aload_n 0, 0)] (by decide +kernel) rfl rfl ?_
      refine ef_getP (k := 127) (j := 41) (q := 166) rfl eL_12_127 rfl rfl rfl (by decide +kernel) ?_
      refine es_blk (pc' := 80) (L' := [some (.ref 127), some (.int p0), some (.int p1)]) (st' := [.int p0, .ref 166]) [(.iload_n 1, 0)] (by decide +kernel) rfl rfl ?_
      refine ef_ald (k := 166) rfl (Or.inl ⟨rfl, rfl⟩) (by decide +kernel) (fun _ => ?_)
      exact es_ret rfl rfl rfl ⟨by decide +kernel, _, rfl, rfl⟩ (Nat.le_refl _) (Nat.le_refl _)
    refine es_ifc (fun h10 => ?_) (fun h10 => ?_)
    · refine es_tsw (off := (47)) (tgt := 82) hs7 3 h10 (by decide) ?_
      refine es_blk (pc' := 83) (L' := [some (.ref 127), some (.int p0), some (.int p1)]) (st' := [.ref 127]) [(.aload_n 0, 0)] (by decide +kernel) rfl rfl ?_
      refine ef_getP (k := 127) (j := 42) (q := 167) rfl eL_12_130 rfl rfl rfl (by decide +kernel) ?_
      refine es_blk (pc' := 87) (L' := [some (.ref 127), some (.int p0), some (.int p1)]) (st' := [.int p0, .ref 167]) [(.iload_n 1, 0)] (by decide +kernel) rfl rfl ?_
      refine ef_ald (k := 167) rfl (Or.inl ⟨rfl, rfl⟩) (by decide +kernel) (fun _ => ?_)
      exact es_ret rfl rfl rfl ⟨by decide +kernel, _, rfl, rfl⟩ (Nat.le_refl _) (Nat.le_refl _)
    refine es_ifc (fun h11 => ?_) (fun h11 => ?_)
    · refine es_tsw (off := (54)) (tgt := 89) hs7 4 h11 (by decide) ?_
      refine es_blk (pc' := 90) (L' := [some (.ref 127), some (.int p0), some (.int p1)]) (st' := [.ref 127]) [(.aload_n 0, 0)] (by decide +kernel) rfl rfl ?_
      refine ef_getP (k := 127) (j := 43) (q := 168) rfl eL_12_133 rfl rfl rfl (by decide +kernel) ?_
      refine es_blk (pc' := 94) (L' := [some (.ref 127), some (.int p0), some (.int p1)]) (st' := [.int p0, .ref 168]) [(.iload_n 1, 0)] (by decide +kernel) rfl rfl ?_
      refine ef_ald (k := 168) rfl (Or.inl ⟨rfl, rfl⟩) (by decide +kernel) (fun _ => ?_)
      exact es_ret rfl rfl rfl ⟨by decide +kernel, _, rfl, rfl⟩ (Nat.le_refl _) (Nat.le_refl _)
    refine es_ifc (fun h12 => ?_) (fun h12 => ?_)
    · refine es_tsw (off := (61)) (tgt := 96) hs7 5 h12 (by decide) ?_
      refine es_blk (pc' := 97) (L' := [some (.ref 127), some (.int p0), some (.int p1)]) (st' := [.ref 127]) [(.aload_n 0, 0)] (by decide +kernel) rfl rfl ?_
      refine ef_getP (k := 127) (j := 44) (q := 169) rfl eL_12_136 rfl rfl rfl (by decide +kernel) ?_
      refine es_blk (pc' := 101) (L' := [some (.ref 127), some (.int p0), some (.int p1)]) (st' := [.int p0, .ref 169]) [(.iload_n 1, 0)] (by decide +kernel) rfl rfl ?_
      refine ef_ald (k := 169) rfl (Or.inl ⟨rfl, rfl⟩) (by decide +kernel) (fun _ => ?_)
      exact es_ret rfl rfl rfl ⟨by decide +kernel, _, rfl, rfl⟩ (Nat.le_refl _) (Nat.le_refl _)
    refine es_tswD (tgt := 103) hs7 [1, 2, 3, 4, 5] (List.forall_mem_cons.mpr ⟨eh_nei 1 1 (by decide) h8, (List.forall_mem_cons.mpr ⟨eh_nei 2 2 (by decide) h9, (List.forall_mem_cons.mpr ⟨eh_nei 3 3 (by decide) h10, (List.forall_mem_cons.mpr ⟨eh_nei 4 4 (by decide) h11, (List.forall_mem_cons.mpr ⟨eh_nei 5 5 (by decide) h12, (List.forall_mem_nil _)⟩)⟩)⟩)⟩)⟩) (by decide) (by decide) (by decide) ?_
    refine es_blk (pc' := 104) (L' := [some (.ref 127), some (.int p0), some (.int p1)]) (st' := [.int (-1)]) [(.iconst (-1), (-1))] (by decide +kernel) rfl rfl ?_
    exact es_ret rfl rfl rfl ⟨by decide +kernel, _, rfl, rfl⟩ (Nat.le_refl _) (Nat.le_refl _)
  refine ef_drop (L2 := [none, none, none]) [false, false, false] rfl rfl ?_
  exact Hj1 ()
def eF_12_console (s : eh_F) (p0 : Int32) : Option (Int32) := eh_J (fun (a2 : Int32) => some a2) (fun j1 => eh_J (fun (u4 : Unit) => j1 (-1)) (fun j3 => if p0 < 0 then (j3 ()) else (if p0 < (s.1 127 52) then (if eh_in p0 1024 then j1 ((s.1 174 (eh_ix p0)) &&& 255) else none) else (j3 ()))))
set_option maxHeartbeats 4000000 in
set_option maxRecDepth 100000 in
theorem eS_12_console (g : eh_P) (s : eh_F) (p0 : Int32) : eh_Sim g eM_12_console (eh_R 1 0 0) (eh_pI s) 0 0 0 (eh_en 2 [.ref 127, .int p0]) [] (eh_FW s) (eF_12_console s p0) := by
  unfold eF_12_console
  refine ef_top (L := [some (.ref 127), some (.int p0)]) rfl ?_
  refine es_blk (pc' := 1) (L' := [some (.ref 127), some (.int p0)]) (st' := [.int p0]) [(.iload_n 1, 0)] (by decide +kernel) rfl rfl ?_
  refine ef_J (X := fun j1 => ∀ (a2 : Int32), eh_Sim g eM_12_console (eh_R 1 0 0) (eh_pI s) 0 0 26 [none, none] [.int a2] (eh_FW s) ((j1 a2).bind some)) ?_ (fun j1 Hj1 => ?_)
  · intro a2
    exact es_ret rfl rfl rfl ⟨by decide +kernel, _, rfl, rfl⟩ (Nat.le_refl _) (Nat.le_refl _)
  refine ef_J (X := fun j3 => ∀ (u4 : Unit), eh_Sim g eM_12_console (eh_R 1 0 0) (eh_pI s) 0 0 25 [none, none] [] (eh_FW s) ((j3 u4).bind some)) ?_ (fun j3 Hj3 => ?_)
  · intro u4
    refine es_blk (pc' := 26) (L' := [none, none]) (st' := [.int (-1)]) [(.iconst (-1), (-1))] (by decide +kernel) rfl rfl ?_
    exact Hj1 _
  refine es_lt (tgt := 25) (off := (24)) (by decide +kernel) (by decide) (fun h5 => ?_) (fun h5 => ?_)
  · refine ef_drop (L2 := [none, none]) [false, false] rfl rfl ?_
    exact Hj3 ()
  refine es_blk (pc' := 6) (L' := [some (.ref 127), some (.int p0)]) (st' := [.ref 127, .int p0]) [(.iload_n 1, 0), (.aload_n 0, 0)] (by decide +kernel) rfl rfl ?_
  refine ef_getI (k := 127) (j := 52) rfl eL_12_293 (by decide) (by decide +kernel) ?_
  refine es_ige (tgt := 25) (off := (16)) (by decide +kernel) (by decide) (fun h6 => ?_) (fun h6 => ?_)
  · refine es_blk (pc' := 13) (L' := [some (.ref 127), some (.int p0)]) (st' := [.ref 127]) [(.aload_n 0, 0)] (by decide +kernel) rfl rfl ?_
    refine ef_getP (k := 127) (j := 51) (q := 174) rfl eL_12_151 rfl rfl rfl (by decide +kernel) ?_
    refine es_blk (pc' := 17) (L' := [some (.ref 127), some (.int p0)]) (st' := [.int p0, .ref 174]) [(.iload_n 1, 0)] (by decide +kernel) rfl rfl ?_
    refine ef_ald (k := 174) rfl (Or.inr ⟨Or.inl rfl, rfl⟩) (by decide +kernel) (fun _ => ?_)
    refine es_blk (pc' := 22) (L' := [some (.ref 127), some (.int p0)]) (st' := [.int ((s.1 174 (eh_ix p0)) &&& 255)]) [(.sipush 255, 255), (.iand, 0)] (by decide +kernel) rfl rfl ?_
    refine es_goto (tgt := 26) (off := (4)) (by decide +kernel) (by decide) ?_
    refine ef_drop (L2 := [none, none]) [false, false] rfl rfl ?_
    exact Hj1 _
  refine ef_drop (L2 := [none, none]) [false, false] rfl rfl ?_
  exact Hj3 ()
def eF_12_disk (s : eh_F) (p0 : Int32) (p1 : Int32) (p2 : Int32) : Option (Int32 × eh_F) := eh_J (fun (u2 : Unit) => some ((-1), s)) (fun j1 => if p0 < 0 then (j1 ()) else (if 31 < p0 then (j1 ()) else (if p1 < 0 then (j1 ()) else (if 255 < p1 then (j1 ()) else (if p2 < (-1) then (j1 ()) else (if 255 < p2 then (j1 ()) else (if eh_in ((256 * p0) + p1) 8192 then eh_V (((s.1 175 (eh_ix ((256 * p0) + p1))) &&& 255) : Int32) (fun x9 => eh_J (fun (a11 : Int32) => if eh_in ((256 * p0) + p1) 8192 then eh_V (eh_tI s 175 (eh_ix ((256 * p0) + p1)) (eh_nb a11)) (fun s12 => some (x9, s12)) else none) (fun j10 => if p2 < 0 then (if eh_in ((256 * p0) + p1) 8192 then j10 (s.1 175 (eh_ix ((256 * p0) + p1))) else none) else (j10 (eh_nb p2)))) else none)))))))
set_option maxHeartbeats 4000000 in
set_option maxRecDepth 100000 in
theorem eS_12_disk (g : eh_P) (s : eh_F) (p0 : Int32) (p1 : Int32) (p2 : Int32) : eh_Sim g eM_12_disk (eh_R 1 0 0) eh_eI 0 0 0 (eh_en 5 [.ref 127, .int p0, .int p1, .int p2]) [] (eh_FW s) (eF_12_disk s p0 p1 p2) := by
  unfold eF_12_disk
  refine ef_top (L := [some (.ref 127), some (.int p0), some (.int p1), some (.int p2), none]) rfl ?_
  refine es_blk (pc' := 1) (L' := [some (.ref 127), some (.int p0), some (.int p1), some (.int p2), none]) (st' := [.int p0]) [(.iload_n 1, 0)] (by decide +kernel) rfl rfl ?_
  refine ef_J (X := fun j1 => ∀ (u2 : Unit), eh_Sim g eM_12_disk (eh_R 1 0 0) eh_eI 0 0 33 [none, none, none, none, none] [] (eh_FW s) ((j1 u2).bind some)) ?_ (fun j1 Hj1 => ?_)
  · intro u2
    refine es_blk (pc' := 34) (L' := [none, none, none, none, none]) (st' := [.int (-1)]) [(.iconst (-1), (-1))] (by decide +kernel) rfl rfl ?_
    exact es_ret rfl rfl rfl ⟨by decide +kernel, _, rfl, rfl⟩ (Nat.le_refl _) (Nat.le_refl _)
  refine es_lt (tgt := 33) (off := (32)) (by decide +kernel) (by decide) (fun h3 => ?_) (fun h3 => ?_)
  · refine ef_drop (L2 := [none, none, none, none, none]) [false, false, false, false, true] rfl rfl ?_
    exact Hj1 ()
  refine es_blk (pc' := 7) (L' := [some (.ref 127), some (.int p0), some (.int p1), some (.int p2), none]) (st' := [.int 31, .int p0]) [(.iload_n 1, 0), (.bipush 31, 31)] (by decide +kernel) rfl rfl ?_
  refine es_igt (tgt := 33) (off := (26)) (by decide +kernel) (by decide) (fun h4 => ?_) (fun h4 => ?_)
  · refine ef_drop (L2 := [none, none, none, none, none]) [false, false, false, false, true] rfl rfl ?_
    exact Hj1 ()
  refine es_blk (pc' := 11) (L' := [some (.ref 127), some (.int p0), some (.int p1), some (.int p2), none]) (st' := [.int p1]) [(.iload_n 2, 0)] (by decide +kernel) rfl rfl ?_
  refine es_lt (tgt := 33) (off := (22)) (by decide +kernel) (by decide) (fun h5 => ?_) (fun h5 => ?_)
  · refine ef_drop (L2 := [none, none, none, none, none]) [false, false, false, false, true] rfl rfl ?_
    exact Hj1 ()
  refine es_blk (pc' := 18) (L' := [some (.ref 127), some (.int p0), some (.int p1), some (.int p2), none]) (st' := [.int 255, .int p1]) [(.iload_n 2, 0), (.sipush 255, 255)] (by decide +kernel) rfl rfl ?_
  refine es_igt (tgt := 33) (off := (15)) (by decide +kernel) (by decide) (fun h6 => ?_) (fun h6 => ?_)
  · refine ef_drop (L2 := [none, none, none, none, none]) [false, false, false, false, true] rfl rfl ?_
    exact Hj1 ()
  refine es_blk (pc' := 23) (L' := [some (.ref 127), some (.int p0), some (.int p1), some (.int p2), none]) (st' := [.int (-1), .int p2]) [(.iload_n 3, 0), (.iconst (-1), (-1))] (by decide +kernel) rfl rfl ?_
  refine es_ilt (tgt := 33) (off := (10)) (by decide +kernel) (by decide) (fun h7 => ?_) (fun h7 => ?_)
  · refine ef_drop (L2 := [none, none, none, none, none]) [false, false, false, false, true] rfl rfl ?_
    exact Hj1 ()
  refine es_blk (pc' := 30) (L' := [some (.ref 127), some (.int p0), some (.int p1), some (.int p2), none]) (st' := [.int 255, .int p2]) [(.iload_n 3, 0), (.sipush 255, 255)] (by decide +kernel) rfl rfl ?_
  refine es_ile (tgt := 35) (off := (5)) (by decide +kernel) (by decide) (fun h8 => ?_) (fun h8 => ?_)
  · refine ef_drop (L2 := [none, none, none, none, none]) [false, false, false, false, true] rfl rfl ?_
    exact Hj1 ()
  refine es_blk (pc' := 36) (L' := [some (.ref 127), some (.int p0), some (.int p1), some (.int p2), none]) (st' := [.ref 127]) [(.aload_n 0, 0)] (by decide +kernel) rfl rfl ?_
  refine ef_getP (k := 127) (j := 53) (q := 175) rfl eL_12_154 rfl rfl rfl (by decide +kernel) ?_
  refine es_blk (pc' := 46) (L' := [some (.ref 127), some (.int p0), some (.int p1), some (.int p2), none]) (st' := [.int ((256 * p0) + p1), .ref 175]) [(.sipush 256, 256), (.iload_n 1, 0), (.imul, 0), (.iload_n 2, 0), (.iadd, 0)] (by decide +kernel) rfl rfl ?_
  refine ef_ald (k := 175) rfl (Or.inr ⟨Or.inl rfl, rfl⟩) (by decide +kernel) (fun _ => ?_)
  refine es_blk (pc' := 53) (L' := [some (.ref 127), some (.int p0), some (.int p1), some (.int p2), some (.int ((s.1 175 (eh_ix ((256 * p0) + p1))) &&& 255))]) (st' := []) [(.sipush 255, 255), (.iand, 0), (.istore 4, 0)] (by decide +kernel) rfl rfl ?_
  refine ef_V (fun x9 => [some (.ref 127), some (.int p0), some (.int p1), some (.int p2), some (.int x9)]) (fun _ => []) (fun _ => eh_FW s) (fun x9 => ?_)
  refine es_blk (pc' := 54) (L' := [some (.ref 127), some (.int p0), some (.int p1), some (.int p2), some (.int x9)]) (st' := [.ref 127]) [(.aload_n 0, 0)] (by decide +kernel) rfl rfl ?_
  refine ef_getP (k := 127) (j := 53) (q := 175) rfl eL_12_154 rfl rfl rfl (by decide +kernel) ?_
  refine es_blk (pc' := 65) (L' := [some (.ref 127), some (.int p0), some (.int p1), some (.int p2), some (.int x9)]) (st' := [.int p2, .int ((256 * p0) + p1), .ref 175]) [(.sipush 256, 256), (.iload_n 1, 0), (.imul, 0), (.iload_n 2, 0), (.iadd, 0), (.iload_n 3, 0)] (by decide +kernel) rfl rfl ?_
  refine ef_J (X := fun j10 => ∀ (a11 : Int32), eh_Sim g eM_12_disk (eh_R 1 0 0) eh_eI 0 0 85 [none, none, none, none, some (.int x9)] [.int a11, .int ((256 * p0) + p1), .ref 175] (eh_FW s) ((j10 a11).bind some)) ?_ (fun j10 Hj10 => ?_)
  · intro a11
    refine ef_astB (k := 175) rfl (by decide +kernel) (fun _ => ?_)
    refine ef_V (fun _ => [none, none, none, none, some (.int x9)]) (fun _ => []) (fun s12 => eh_FW s12) (fun s12 => ?_)
    refine es_blk (pc' := 88) (L' := [none, none, none, none, some (.int x9)]) (st' := [.int x9]) [(.iload 4, 0)] (by decide +kernel) rfl rfl ?_
    exact es_ret rfl rfl rfl ⟨by decide +kernel, _, rfl, rfl⟩ (Nat.le_refl _) (Nat.le_refl _)
  refine es_ge (tgt := 83) (off := (18)) (by decide +kernel) (by decide) (fun h13 => ?_) (fun h13 => ?_)
  · refine es_blk (pc' := 69) (L' := [some (.ref 127), some (.int p0), some (.int p1), some (.int p2), some (.int x9)]) (st' := [.ref 127, .int ((256 * p0) + p1), .ref 175]) [(.aload_n 0, 0)] (by decide +kernel) rfl rfl ?_
    refine ef_getP (k := 127) (j := 53) (q := 175) rfl eL_12_154 rfl rfl rfl (by decide +kernel) ?_
    refine es_blk (pc' := 79) (L' := [some (.ref 127), some (.int p0), some (.int p1), some (.int p2), some (.int x9)]) (st' := [.int ((256 * p0) + p1), .ref 175, .int ((256 * p0) + p1), .ref 175]) [(.sipush 256, 256), (.iload_n 1, 0), (.imul, 0), (.iload_n 2, 0), (.iadd, 0)] (by decide +kernel) rfl rfl ?_
    refine ef_ald (k := 175) rfl (Or.inr ⟨Or.inl rfl, rfl⟩) (by decide +kernel) (fun _ => ?_)
    refine es_goto (tgt := 85) (off := (5)) (by decide +kernel) (by decide) ?_
    refine ef_drop (L2 := [none, none, none, none, some (.int x9)]) [false, false, false, false, true] rfl rfl ?_
    exact Hj10 _
  refine es_blk (pc' := 85) (L' := [some (.ref 127), some (.int p0), some (.int p1), some (.int p2), some (.int x9)]) (st' := [.int (eh_nb p2), .int ((256 * p0) + p1), .ref 175]) [(.iload_n 3, 0), (.i2b, 0)] (by decide +kernel) rfl rfl ?_
  refine ef_drop (L2 := [none, none, none, none, some (.int x9)]) [false, false, false, false, true] rfl rfl ?_
  exact Hj10 _
def eF_12_on (s : eh_F) (p0 : Int64) (p1 : Int32) : Option (Int64) := some (((p0 * 6364136223846793005) + (p1.toInt64)) + 1)
set_option maxHeartbeats 4000000 in
set_option maxRecDepth 100000 in
theorem eS_12_on (g : eh_P) (s : eh_F) (p0 : Int64) (p1 : Int32) : eh_Sim g eM_12_on (eh_R 1 0 0) (eh_pL s) 0 0 0 (eh_en 3 [.long p0, .int p1]) [] (eh_FW s) (eF_12_on s p0 p1) := by
  unfold eF_12_on
  refine ef_top (L := [some (.long p0), none, some (.int p1)]) rfl ?_
  refine es_blk (pc' := 1) (L' := [some (.long p0), none, some (.int p1)]) (st' := [.long p0]) [(.lload_n 0, 0)] (by decide +kernel) rfl rfl ?_
  refine es_ldc2 (v := 6364136223846793005) eC_12_639 (by decide +kernel) ?_
  refine es_blk (pc' := 10) (L' := [some (.long p0), none, some (.int p1)]) (st' := [.long (((p0 * 6364136223846793005) + (p1.toInt64)) + 1)]) [(.lmul, 0), (.iload_n 2, 0), (.i2l, 0), (.ladd, 0), (.lconst 1, 0), (.ladd, 0)] (by decide +kernel) rfl rfl ?_
  exact es_ret rfl rfl rfl ⟨by decide +kernel, rfl⟩ (Nat.le_refl _) (Nat.le_refl _)
def eF_12_many (s : eh_F) (p0 np0 : Nat) : Option (Int32) := Option.bind (eh_loop (fun (r4 : (Int32 × Int32) → Option (Int32)) (t1 : Int32 × Int32) => if t1.2 < (Int32.ofNat np0) then (if eh_in t1.2 np0 then eh_J (fun (a7 : Int32) => eh_V ((t1.1 + a7) : Int32) (fun x8 => eh_V ((t1.2 + 1) : Int32) (fun x9 => r4 (x8, x9)))) (fun j6 => if (s.1 p0 (eh_ix t1.2)) = 0 then (j6 0) else (j6 1)) else none) else (some t1.1)) eh_FU (0, 0)) (fun (e2 : Int32) => some e2)
set_option maxHeartbeats 4000000 in
set_option maxRecDepth 100000 in
theorem eS_12_many (g : eh_P) (s : eh_F) (p0 np0 : Nat) (hp0 : eh_SH[p0]? = some (100, np0)) : eh_Sim g eM_12_many (eh_R 1 0 0) (eh_pI s) 0 0 0 (eh_en 3 [.ref p0]) [] (eh_FW s) (eF_12_many s p0 np0) := by
  unfold eF_12_many
  refine ef_top (L := [some (.ref p0), none, none]) rfl ?_
  refine es_blk (pc' := 4) (L' := [some (.ref p0), some (.int 0), some (.int 0)]) (st' := []) [(.iconst 0, 0), (.istore_n 1, 0), (.iconst 0, 0), (.istore_n 2, 0)] (by decide +kernel) rfl rfl ?_
  refine ef_loop1 (n := eh_FU) (i := (0, 0)) (px := 30) (fun (t1 : Int32 × Int32) => [some (.ref p0), some (.int t1.1), some (.int t1.2)]) (fun (t1 : Int32 × Int32) => []) (fun (t1 : Int32 × Int32) => eh_FW s) (fun (e2 : Int32) => [none, some (.int e2), none]) (fun (e2 : Int32) => []) (fun (e2 : Int32) => eh_FW s) (fun e2 => ?_) (fun K3 HxK3_0 r4 Hr4 t1 => ?_)
  · refine es_blk (pc' := 31) (L' := [none, some (.int e2), none]) (st' := [.int e2]) [(.iload_n 1, 0)] (by decide +kernel) rfl rfl ?_
    exact es_ret rfl rfl rfl ⟨by decide +kernel, _, rfl, rfl⟩ (Nat.le_refl _) (Nat.le_refl _)
  · refine es_blk (pc' := 6) (L' := [some (.ref p0), some (.int t1.1), some (.int t1.2)]) (st' := [.ref p0, .int t1.2]) [(.iload_n 2, 0), (.aload_n 0, 0)] (by decide +kernel) rfl rfl ?_
    refine ef_alen (k := p0) hp0 (by decide) (by decide +kernel) ?_
    refine es_ige (tgt := 30) (off := (23)) (by decide +kernel) (by decide) (fun h5 => ?_) (fun h5 => ?_)
    · refine es_blk (pc' := 13) (L' := [some (.ref p0), some (.int t1.1), some (.int t1.2)]) (st' := [.int t1.2, .ref p0, .int t1.1]) [(.iload_n 1, 0), (.aload_n 0, 0), (.iload_n 2, 0)] (by decide +kernel) rfl rfl ?_
      refine ef_ald (k := p0) hp0 (Or.inl ⟨rfl, rfl⟩) (by decide +kernel) (fun _ => ?_)
      refine ef_J (X := fun j6 => ∀ (a7 : Int32), eh_Sim g eM_12_many (eh_R 1 0 0) (eh_pI s) 0 0 22 [some (.ref p0), none, some (.int t1.2)] [.int a7, .int t1.1] (eh_FW s) ((j6 a7).bind K3)) ?_ (fun j6 Hj6 => ?_)
      · intro a7
        refine es_blk (pc' := 24) (L' := [some (.ref p0), some (.int (t1.1 + a7)), some (.int t1.2)]) (st' := []) [(.iadd, 0), (.istore_n 1, 0)] (by decide +kernel) rfl rfl ?_
        refine ef_V (fun x8 => [some (.ref p0), some (.int x8), some (.int t1.2)]) (fun _ => []) (fun _ => eh_FW s) (fun x8 => ?_)
        refine es_blk (pc' := 27) (L' := [some (.ref p0), some (.int x8), some (.int (t1.2 + 1))]) (st' := []) [(.iinc 2 1, 1)] (by decide +kernel) rfl rfl ?_
        refine ef_V (fun x9 => [some (.ref p0), some (.int x8), some (.int x9)]) (fun _ => []) (fun _ => eh_FW s) (fun x9 => ?_)
        refine es_goto (tgt := 4) (off := (-23)) (by decide +kernel) (by decide) ?_
        exact Hr4 (x8, x9)
      refine es_eq (tgt := 21) (off := (7)) (by decide +kernel) (by decide) (fun h10 => ?_) (fun h10 => ?_)
      · refine es_blk (pc' := 22) (L' := [some (.ref p0), some (.int t1.1), some (.int t1.2)]) (st' := [.int 0, .int t1.1]) [(.iconst 0, 0)] (by decide +kernel) rfl rfl ?_
        refine ef_drop (L2 := [some (.ref p0), none, some (.int t1.2)]) [true, false, true] rfl rfl ?_
        exact Hj6 _
      refine es_blk (pc' := 18) (L' := [some (.ref p0), some (.int t1.1), some (.int t1.2)]) (st' := [.int 1, .int t1.1]) [(.iconst 1, 1)] (by decide +kernel) rfl rfl ?_
      refine es_goto (tgt := 22) (off := (4)) (by decide +kernel) (by decide) ?_
      refine ef_drop (L2 := [some (.ref p0), none, some (.int t1.2)]) [true, false, true] rfl rfl ?_
      exact Hj6 _
    refine ef_drop (L2 := [none, some (.int t1.1), none]) [false, true, false] rfl rfl ?_
    exact HxK3_0 t1.1
def eF_13_cell (g : eh_P) (s : eh_F) (p1 : Int32) : Option (Int32) := eh_J (fun (a2 : Int32) => some a2) (fun j1 => if p1 < (Int32.ofNat (eh_n g)) then (if eh_in p1 (eh_n g) then j1 (eh_x g (eh_ix p1)) else none) else (j1 0))
set_option maxHeartbeats 4000000 in
set_option maxRecDepth 100000 in
theorem eS_13_cell (g : eh_P) (s : eh_F) (p1 : Int32) : eh_Sim g eM_13_cell (eh_R 1 0 0) (eh_pI s) 0 0 0 (eh_en 2 [.ref (eh_SB + 4), .int p1]) [] (eh_FW s) (eF_13_cell g s p1) := by
  unfold eF_13_cell
  refine ef_top (L := [some (.ref (eh_SB + 4)), some (.int p1)]) rfl ?_
  refine es_blk (pc' := 2) (L' := [some (.ref (eh_SB + 4)), some (.int p1)]) (st' := [.ref (eh_SB + 4), .int p1]) [(.iload_n 1, 0), (.aload_n 0, 0)] (by decide +kernel) rfl rfl ?_
  refine er_xlenS (by decide +kernel) ?_
  refine ef_J (X := fun j1 => ∀ (a2 : Int32), eh_Sim g eM_13_cell (eh_R 1 0 0) (eh_pI s) 0 0 13 [none, none] [.int a2] (eh_FW s) ((j1 a2).bind some)) ?_ (fun j1 Hj1 => ?_)
  · intro a2
    exact es_ret rfl rfl rfl ⟨by decide +kernel, _, rfl, rfl⟩ (Nat.le_refl _) (Nat.le_refl _)
  refine es_ige (tgt := 12) (off := (9)) (by decide +kernel) (by decide) (fun h3 => ?_) (fun h3 => ?_)
  · refine es_blk (pc' := 8) (L' := [some (.ref (eh_SB + 4)), some (.int p1)]) (st' := [.int p1, .ref (eh_SB + 4)]) [(.aload_n 0, 0), (.iload_n 1, 0)] (by decide +kernel) rfl rfl ?_
    refine ef_xld (by decide +kernel) (fun _ => ?_)
    refine es_goto (tgt := 13) (off := (4)) (by decide +kernel) (by decide) ?_
    refine ef_drop (L2 := [none, none]) [false, false] rfl rfl ?_
    exact Hj1 _
  refine es_blk (pc' := 13) (L' := [some (.ref (eh_SB + 4)), some (.int p1)]) (st' := [.int 0]) [(.iconst 0, 0)] (by decide +kernel) rfl rfl ?_
  refine ef_drop (L2 := [none, none]) [false, false] rfl rfl ?_
  exact Hj1 _
def eF_20_compare (s : eh_F) (p0 : Int32) (p1 : Int32) : Option (Int32) := eh_J (fun (a2 : Int32) => some a2) (fun j1 => if p0 < p1 then (j1 (-1)) else (if p0 = p1 then (j1 0) else (j1 1)))
set_option maxHeartbeats 4000000 in
set_option maxRecDepth 100000 in
theorem eS_20_compare (g : eh_P) (s : eh_F) (p0 : Int32) (p1 : Int32) : eh_Sim g eM_20_compare (eh_R 1 0 0) (eh_pI s) 0 0 0 (eh_en 2 [.int p0, .int p1]) [] (eh_FW s) (eF_20_compare s p0 p1) := by
  unfold eF_20_compare
  refine ef_top (L := [some (.int p0), some (.int p1)]) rfl ?_
  refine es_blk (pc' := 2) (L' := [some (.int p0), some (.int p1)]) (st' := [.int p1, .int p0]) [(.iload_n 0, 0), (.iload_n 1, 0)] (by decide +kernel) rfl rfl ?_
  refine ef_J (X := fun j1 => ∀ (a2 : Int32), eh_Sim g eM_20_compare (eh_R 1 0 0) (eh_pI s) 0 0 19 [none, none] [.int a2] (eh_FW s) ((j1 a2).bind some)) ?_ (fun j1 Hj1 => ?_)
  · intro a2
    exact es_ret rfl rfl rfl ⟨by decide +kernel, _, rfl, rfl⟩ (Nat.le_refl _) (Nat.le_refl _)
  refine es_ige (tgt := 9) (off := (7)) (by decide +kernel) (by decide) (fun h3 => ?_) (fun h3 => ?_)
  · refine es_blk (pc' := 6) (L' := [some (.int p0), some (.int p1)]) (st' := [.int (-1)]) [(.iconst (-1), (-1))] (by decide +kernel) rfl rfl ?_
    refine es_goto (tgt := 19) (off := (13)) (by decide +kernel) (by decide) ?_
    refine ef_drop (L2 := [none, none]) [false, false] rfl rfl ?_
    exact Hj1 _
  refine es_blk (pc' := 11) (L' := [some (.int p0), some (.int p1)]) (st' := [.int p1, .int p0]) [(.iload_n 0, 0), (.iload_n 1, 0)] (by decide +kernel) rfl rfl ?_
  refine es_ine (tgt := 18) (off := (7)) (by decide +kernel) (by decide) (fun h4 => ?_) (fun h4 => ?_)
  · refine es_blk (pc' := 15) (L' := [some (.int p0), some (.int p1)]) (st' := [.int 0]) [(.iconst 0, 0)] (by decide +kernel) rfl rfl ?_
    refine es_goto (tgt := 19) (off := (4)) (by decide +kernel) (by decide) ?_
    refine ef_drop (L2 := [none, none]) [false, false] rfl rfl ?_
    exact Hj1 _
  refine es_blk (pc' := 19) (L' := [some (.int p0), some (.int p1)]) (st' := [.int 1]) [(.iconst 1, 1)] (by decide +kernel) rfl rfl ?_
  refine ef_drop (L2 := [none, none]) [false, false] rfl rfl ?_
  exact Hj1 _
def eF_20_rotateRight (s : eh_F) (p0 : Int32) (p1 : Int32) : Option (Int32) := some ((eh_ushr p0 p1) ||| (eh_shl p0 (-p1)))
set_option maxHeartbeats 4000000 in
set_option maxRecDepth 100000 in
theorem eS_20_rotateRight (g : eh_P) (s : eh_F) (p0 : Int32) (p1 : Int32) : eh_Sim g eM_20_rotateRight (eh_R 1 0 0) (eh_pI s) 0 0 0 (eh_en 2 [.int p0, .int p1]) [] (eh_FW s) (eF_20_rotateRight s p0 p1) := by
  unfold eF_20_rotateRight
  refine ef_top (L := [some (.int p0), some (.int p1)]) rfl ?_
  refine es_blk (pc' := 8) (L' := [some (.int p0), some (.int p1)]) (st' := [.int ((eh_ushr p0 p1) ||| (eh_shl p0 (-p1)))]) [(.iload_n 0, 0), (.iload_n 1, 0), (.iushr, 0), (.iload_n 0, 0), (.iload_n 1, 0), (.ineg, 0), (.ishl, 0), (.ior, 0)] (by decide +kernel) rfl rfl ?_
  exact es_ret rfl rfl rfl ⟨by decide +kernel, _, rfl, rfl⟩ (Nat.le_refl _) (Nat.le_refl _)
def eF_23_fill (s : eh_F) (p0 np0 : Nat) (p1 : Int32) : Option (eh_F) := eh_V ((Int32.ofNat np0) : Int32) (fun x1 => Option.bind (eh_loop (fun (r5 : (Int32 × eh_F) → Option (eh_F)) (t2 : Int32 × eh_F) => if t2.1 < x1 then (if eh_in t2.1 np0 then eh_V (eh_tI t2.2 p0 (eh_ix t2.1) p1) (fun s7 => eh_V ((t2.1 + 1) : Int32) (fun x8 => r5 (x8, s7))) else none) else (some t2.2)) eh_FU (0, s)) (fun (e3 : eh_F) => some e3))
set_option maxHeartbeats 4000000 in
set_option maxRecDepth 100000 in
theorem eS_23_fill (g : eh_P) (s : eh_F) (p0 np0 : Nat) (p1 : Int32) (hp0 : eh_SH[p0]? = some (100, np0)) : eh_Sim g eM_23_fill (eh_R 1 0 0) eh_eV 0 0 0 (eh_en 4 [.ref p0, .int p1]) [] (eh_FW s) (eF_23_fill s p0 np0 p1) := by
  unfold eF_23_fill
  refine ef_top (L := [some (.ref p0), some (.int p1), none, none]) rfl ?_
  refine es_blk (pc' := 3) (L' := [some (.ref p0), some (.int p1), some (.int 0), none]) (st' := [.ref p0]) [(.iconst 0, 0), (.istore_n 2, 0), (.aload_n 0, 0)] (by decide +kernel) rfl rfl ?_
  refine ef_alen (k := p0) hp0 (by decide) (by decide +kernel) ?_
  refine es_blk (pc' := 5) (L' := [some (.ref p0), some (.int p1), some (.int 0), some (.int (Int32.ofNat np0))]) (st' := []) [(.istore_n 3, 0)] (by decide +kernel) rfl rfl ?_
  refine ef_V (fun x1 => [some (.ref p0), some (.int p1), some (.int 0), some (.int x1)]) (fun _ => []) (fun _ => eh_FW s) (fun x1 => ?_)
  refine ef_loop1 (n := eh_FU) (i := (0, s)) (px := 20) (fun (t2 : Int32 × eh_F) => [some (.ref p0), some (.int p1), some (.int t2.1), some (.int x1)]) (fun (t2 : Int32 × eh_F) => []) (fun (t2 : Int32 × eh_F) => eh_FW t2.2) (fun (e3 : eh_F) => [none, none, none, none]) (fun (e3 : eh_F) => []) (fun (e3 : eh_F) => eh_FW e3) (fun e3 => ?_) (fun K4 HxK4_0 r5 Hr5 t2 => ?_)
  · exact es_ret rfl rfl rfl ⟨by decide +kernel, rfl⟩ (Nat.le_refl _) (Nat.le_refl _)
  · refine es_blk (pc' := 7) (L' := [some (.ref p0), some (.int p1), some (.int t2.1), some (.int x1)]) (st' := [.int x1, .int t2.1]) [(.iload_n 2, 0), (.iload_n 3, 0)] (by decide +kernel) rfl rfl ?_
    refine es_ige (tgt := 20) (off := (13)) (by decide +kernel) (by decide) (fun h6 => ?_) (fun h6 => ?_)
    · refine es_blk (pc' := 13) (L' := [some (.ref p0), some (.int p1), some (.int t2.1), some (.int x1)]) (st' := [.int p1, .int t2.1, .ref p0]) [(.aload_n 0, 0), (.iload_n 2, 0), (.iload_n 1, 0)] (by decide +kernel) rfl rfl ?_
      refine ef_ast (k := p0) hp0 (by decide +kernel) (fun _ => ?_)
      refine ef_V (fun _ => [some (.ref p0), some (.int p1), some (.int t2.1), some (.int x1)]) (fun _ => []) (fun s7 => eh_FW s7) (fun s7 => ?_)
      refine es_blk (pc' := 17) (L' := [some (.ref p0), some (.int p1), some (.int (t2.1 + 1)), some (.int x1)]) (st' := []) [(.iinc 2 1, 1)] (by decide +kernel) rfl rfl ?_
      refine ef_V (fun x8 => [some (.ref p0), some (.int p1), some (.int x8), some (.int x1)]) (fun _ => []) (fun _ => eh_FW s7) (fun x8 => ?_)
      refine es_goto (tgt := 5) (off := (-12)) (by decide +kernel) (by decide) ?_
      exact Hr5 (x8, s7)
    refine ef_drop (L2 := [none, none, none, none]) [false, false, false, false] rfl rfl ?_
    exact HxK4_0 t2.2
def eF_0_givePath (s : eh_F) (p0 : Int32) : Option (eh_F) := eh_V (eh_tI s 12 14 p0) (fun s1 => Option.bind (eF_8_clear s1 22) (fun q2 => Option.bind (eF_8_clear q2 24) (fun q3 => some q3)))
set_option maxHeartbeats 4000000 in
set_option maxRecDepth 100000 in
theorem eS_0_givePath (g : eh_P) (s : eh_F) (p0 : Int32) : eh_Sim g eM_0_givePath (eh_R 2 0 0) eh_eV 0 0 0 (eh_en 2 [.ref 12, .int p0]) [] (eh_FW s) (eF_0_givePath s p0) := by
  unfold eF_0_givePath
  refine ef_top (L := [some (.ref 12), some (.int p0)]) rfl ?_
  refine es_blk (pc' := 2) (L' := [some (.ref 12), some (.int p0)]) (st' := [.int p0, .ref 12]) [(.aload_n 0, 0), (.iload_n 1, 0)] (by decide +kernel) rfl rfl ?_
  refine ef_putI (k := 12) (j := 14) rfl eL_0_69 rfl rfl (by decide +kernel) ?_
  refine ef_V (fun _ => [some (.ref 12), some (.int p0)]) (fun _ => []) (fun s1 => eh_FW s1) (fun s1 => ?_)
  refine es_blk (pc' := 6) (L' := [some (.ref 12), some (.int p0)]) (st' := [.ref 12]) [(.aload_n 0, 0)] (by decide +kernel) rfl rfl ?_
  refine ef_getP (k := 12) (j := 12) (q := 22) rfl eL_0_40 rfl rfl rfl (by decide +kernel) ?_
  refine ef_veV (d := 1) (k := 22) (As := []) (st := []) eV_8_clear eK_0_63 (eS_8_clear g s1 22 rfl) rfl rfl (Nat.le_of_ble_eq_true rfl) rfl (Nat.le_of_ble_eq_true rfl) ⟨Nat.le_of_ble_eq_true rfl, Nat.le_of_ble_eq_true rfl⟩ ⟨Nat.le_refl _, Nat.le_refl _⟩ (by decide +kernel) (fun q2 _ => ?_)
  refine es_blk (pc' := 13) (L' := [some (.ref 12), some (.int p0)]) (st' := [.ref 12]) [(.aload_n 0, 0)] (by decide +kernel) rfl rfl ?_
  refine ef_getP (k := 12) (j := 13) (q := 24) rfl eL_0_43 rfl rfl rfl (by decide +kernel) ?_
  refine ef_veV (d := 1) (k := 24) (As := []) (st := []) eV_8_clear eK_0_63 (eS_8_clear g q2 24 rfl) rfl rfl (Nat.le_of_ble_eq_true rfl) rfl (Nat.le_of_ble_eq_true rfl) ⟨Nat.le_of_ble_eq_true rfl, Nat.le_of_ble_eq_true rfl⟩ ⟨Nat.le_refl _, Nat.le_refl _⟩ (by decide +kernel) (fun q3 _ => ?_)
  exact es_ret rfl rfl rfl ⟨by decide +kernel, rfl⟩ (Nat.le_refl _) (Nat.le_refl _)
def eF_0_mixDisk (s : eh_F) (p0 : Int64) : Option (Int64) := Option.bind (eh_loop (fun (r4 : (Int64 × Int32) → Option (Int64)) (t1 : Int64 × Int32) => if t1.2 < (Int32.ofNat 2048) then (if eh_in t1.2 2048 then Option.bind (eF_5_mix s t1.1 (s.1 13 (eh_ix t1.2))) (fun q6 => eh_V ((t1.2 + 1) : Int32) (fun x7 => r4 (q6, x7))) else none) else (some t1.1)) eh_FU (p0, 0)) (fun (e2 : Int64) => some e2)
set_option maxHeartbeats 4000000 in
set_option maxRecDepth 100000 in
theorem eS_0_mixDisk (g : eh_P) (s : eh_F) (p0 : Int64) : eh_Sim g eM_0_mixDisk (eh_R 2 0 0) (eh_pL s) 0 0 0 (eh_en 6 [.ref 12, .long p0]) [] (eh_FW s) (eF_0_mixDisk s p0) := by
  unfold eF_0_mixDisk
  refine ef_top (L := [some (.ref 12), some (.long p0), none, none, none, none]) rfl ?_
  refine es_blk (pc' := 5) (L' := [some (.ref 12), some (.long p0), none, some (.long p0), none, some (.int 0)]) (st' := []) [(.lload_n 1, 0), (.lstore_n 3, 0), (.iconst 0, 0), (.istore 5, 0)] (by decide +kernel) rfl rfl ?_
  refine ef_drop (L2 := [some (.ref 12), none, none, some (.long p0), none, some (.int 0)]) [true, false, true, true, true, true] rfl rfl ?_
  refine ef_loop1 (n := eh_FU) (i := (p0, 0)) (px := 33) (fun (t1 : Int64 × Int32) => [some (.ref 12), none, none, some (.long t1.1), none, some (.int t1.2)]) (fun (t1 : Int64 × Int32) => []) (fun (t1 : Int64 × Int32) => eh_FW s) (fun (e2 : Int64) => [none, none, none, some (.long e2), none, none]) (fun (e2 : Int64) => []) (fun (e2 : Int64) => eh_FW s) (fun e2 => ?_) (fun K3 HxK3_0 r4 Hr4 t1 => ?_)
  · refine es_blk (pc' := 34) (L' := [none, none, none, some (.long e2), none, none]) (st' := [.long e2]) [(.lload_n 3, 0)] (by decide +kernel) rfl rfl ?_
    exact es_ret rfl rfl rfl ⟨by decide +kernel, rfl⟩ (Nat.le_refl _) (Nat.le_refl _)
  · refine es_blk (pc' := 8) (L' := [some (.ref 12), none, none, some (.long t1.1), none, some (.int t1.2)]) (st' := [.ref 12, .int t1.2]) [(.iload 5, 0), (.aload_n 0, 0)] (by decide +kernel) rfl rfl ?_
    refine ef_getP (k := 12) (j := 2) (q := 13) rfl eL_0_11 rfl rfl rfl (by decide +kernel) ?_
    refine ef_alen (k := 13) rfl (by decide) (by decide +kernel) ?_
    refine es_ige (tgt := 33) (off := (21)) (by decide +kernel) (by decide) (fun h5 => ?_) (fun h5 => ?_)
    · refine es_blk (pc' := 17) (L' := [some (.ref 12), none, none, some (.long t1.1), none, some (.int t1.2)]) (st' := [.ref 12, .long t1.1]) [(.lload_n 3, 0), (.aload_n 0, 0)] (by decide +kernel) rfl rfl ?_
      refine ef_getP (k := 12) (j := 2) (q := 13) rfl eL_0_11 rfl rfl rfl (by decide +kernel) ?_
      refine es_blk (pc' := 22) (L' := [some (.ref 12), none, none, some (.long t1.1), none, some (.int t1.2)]) (st' := [.int t1.2, .ref 13, .long t1.1]) [(.iload 5, 0)] (by decide +kernel) rfl rfl ?_
      refine ef_ald (k := 13) rfl (Or.inl ⟨rfl, rfl⟩) (by decide +kernel) (fun _ => ?_)
      refine ef_spL (d := 1) (As := [.long t1.1, .int (s.1 13 (eh_ix t1.2))]) (st := []) eV_5_mix eK_0_96 (eS_5_mix g s t1.1 (s.1 13 (eh_ix t1.2))) rfl (Nat.le_of_ble_eq_true rfl) rfl (Nat.le_of_ble_eq_true rfl) ⟨Nat.le_of_ble_eq_true rfl, Nat.le_of_ble_eq_true rfl⟩ ⟨Nat.le_refl _, Nat.le_refl _⟩ (by decide +kernel) (fun q6 _ => ?_)
      refine es_blk (pc' := 30) (L' := [some (.ref 12), none, none, some (.long q6), none, some (.int (t1.2 + 1))]) (st' := []) [(.lstore_n 3, 0), (.iinc 5 1, 1)] (by decide +kernel) rfl rfl ?_
      refine ef_V (fun x7 => [some (.ref 12), none, none, some (.long q6), none, some (.int x7)]) (fun _ => []) (fun _ => eh_FW s) (fun x7 => ?_)
      refine es_goto (tgt := 5) (off := (-25)) (by decide +kernel) (by decide) ?_
      exact Hr4 (q6, x7)
    refine ef_drop (L2 := [none, none, none, some (.long t1.1), none, none]) [false, true, true, true, true, false] rfl rfl ?_
    exact HxK3_0 t1.1
def eF_2_clear (s : eh_F) (th : Nat) : Option (eh_F) := Option.bind (eF_23_fill s (th + 1) 32 0) (fun q1 => eh_V (eh_tI q1 th 2 0) (fun s2 => eh_V (eh_tI s2 th 8 0) (fun s3 => eh_V (eh_tI s3 th 9 0) (fun s4 => some s4))))
set_option maxHeartbeats 4000000 in
set_option maxRecDepth 100000 in
theorem eS_2_clear (g : eh_P) (s : eh_F) (th : Nat) (hth : eh_okF th = true) : eh_Sim g eM_2_clear (eh_R 2 0 0) eh_eV 0 0 0 (eh_en 1 [.ref th]) [] (eh_FW s) (eF_2_clear s th) := by
  unfold eF_2_clear
  refine ef_top (L := [some (.ref th)]) rfl ?_
  refine es_blk (pc' := 1) (L' := [some (.ref th)]) (st' := [.ref th]) [(.aload_n 0, 0)] (by decide +kernel) rfl rfl ?_
  refine ef_getP (k := th) (j := 1) (q := (th + 1)) (eh_F0sh hth) eL_2_9 rfl (eh_Fx hth _) (eh_F1sh hth) (by decide +kernel) ?_
  refine es_blk (pc' := 5) (L' := [some (.ref th)]) (st' := [.int 0, .ref (th + 1)]) [(.iconst 0, 0)] (by decide +kernel) rfl rfl ?_
  refine ef_seV (d := 1) (As := [.ref (th + 1), .int 0]) (st := []) eV_23_fill eK_2_40 (eS_23_fill g s (th + 1) 32 0 (eh_F1sh hth)) rfl (Nat.le_of_ble_eq_true rfl) rfl (Nat.le_of_ble_eq_true rfl) ⟨Nat.le_of_ble_eq_true rfl, Nat.le_of_ble_eq_true rfl⟩ ⟨Nat.le_refl _, Nat.le_refl _⟩ (by decide +kernel) (fun q1 _ => ?_)
  refine es_blk (pc' := 10) (L' := [some (.ref th)]) (st' := [.int 0, .ref th]) [(.aload_n 0, 0), (.iconst 0, 0)] (by decide +kernel) rfl rfl ?_
  refine ef_putI (k := th) (j := 2) (eh_F0sh hth) eL_2_37 rfl rfl (by decide +kernel) ?_
  refine ef_V (fun _ => [some (.ref th)]) (fun _ => []) (fun s2 => eh_FW s2) (fun s2 => ?_)
  refine es_blk (pc' := 15) (L' := [some (.ref th)]) (st' := [.int 0, .ref th]) [(.aload_n 0, 0), (.iconst 0, 0)] (by decide +kernel) rfl rfl ?_
  refine ef_putI (k := th) (j := 8) (eh_F0sh hth) eL_2_46 rfl rfl (by decide +kernel) ?_
  refine ef_V (fun _ => [some (.ref th)]) (fun _ => []) (fun s3 => eh_FW s3) (fun s3 => ?_)
  refine es_blk (pc' := 20) (L' := [some (.ref th)]) (st' := [.int 0, .ref th]) [(.aload_n 0, 0), (.iconst 0, 0)] (by decide +kernel) rfl rfl ?_
  refine ef_putZc (k := th) (j := 9) (eh_F0sh hth) eL_2_49 rfl rfl (by decide) (by decide +kernel) ?_
  refine ef_V (fun _ => [some (.ref th)]) (fun _ => []) (fun s4 => eh_FW s4) (fun s4 => ?_)
  exact es_ret rfl rfl rfl ⟨by decide +kernel, rfl⟩ (Nat.le_refl _) (Nat.le_refl _)
def eF_3_accept (s : eh_F) (p0 : Nat) (p1 : Int32) : Option (Int32 × eh_F) := Option.bind (eF_5_hasRegion s p1) (fun q1 => eh_J (fun (u3 : Unit) => some ((-1), s)) (fun j2 => if q1 = 0 then (j2 ()) else (if eh_in p1 12 then if (s.1 3 (eh_ix p1)) = 1 then (j2 ()) else (Option.bind (eF_6_sideOf s p1 (s.1 p0 3)) (fun q6 => if q6 = 0 then (some ((-1), s)) else (if eh_in p1 12 then if ((s.1 8 (eh_ix p1)) &&& q6) = 0 then (if eh_in p1 12 then if eh_in p1 12 then eh_V (eh_tI s 8 (eh_ix p1) ((s.1 8 (eh_ix p1)) ||| q6)) (fun s9 => Option.bind (eF_5_note s9 5 p0 p1 0 0) (fun q10 => some (0, q10))) else none else none) else (some ((-2), s)) else none))) else none)))
set_option maxHeartbeats 4000000 in
set_option maxRecDepth 100000 in
theorem eS_3_accept (g : eh_P) (s : eh_F) (p0 : Nat) (p1 : Int32) (hp0 : eh_okF p0 = true) : eh_Sim g eM_3_accept (eh_R 2 0 0) eh_eI 0 0 0 (eh_en 4 [.ref 125, .ref p0, .int p1]) [] (eh_FW s) (eF_3_accept s p0 p1) := by
  unfold eF_3_accept
  refine ef_top (L := [some (.ref 125), some (.ref p0), some (.int p1), none]) rfl ?_
  refine es_blk (pc' := 1) (L' := [some (.ref 125), some (.ref p0), some (.int p1), none]) (st' := [.ref 125]) [(.aload_n 0, 0)] (by decide +kernel) rfl rfl ?_
  refine ef_getP (k := 125) (j := 0) (q := 1) rfl eL_3_15 rfl rfl rfl (by decide +kernel) ?_
  refine es_blk (pc' := 5) (L' := [some (.ref 125), some (.ref p0), some (.int p1), none]) (st' := [.int p1, .ref 1]) [(.iload_n 2, 0)] (by decide +kernel) rfl rfl ?_
  refine ef_vpI (d := 1) (k := 1) (As := [.int p1]) (st := []) eV_5_hasRegion eK_3_198 (eS_5_hasRegion g s p1) rfl rfl (Nat.le_of_ble_eq_true rfl) rfl (Nat.le_of_ble_eq_true rfl) ⟨Nat.le_of_ble_eq_true rfl, Nat.le_of_ble_eq_true rfl⟩ ⟨Nat.le_refl _, Nat.le_refl _⟩ (by decide +kernel) (fun q1 _ => ?_)
  refine ef_J (X := fun j2 => ∀ (u3 : Unit), eh_Sim g eM_3_accept (eh_R 2 0 0) eh_eI 0 0 24 [none, none, none, none] [] (eh_FW s) ((j2 u3).bind some)) ?_ (fun j2 Hj2 => ?_)
  · intro u3
    refine es_blk (pc' := 25) (L' := [none, none, none, none]) (st' := [.int (-1)]) [(.iconst (-1), (-1))] (by decide +kernel) rfl rfl ?_
    exact es_ret rfl rfl rfl ⟨by decide +kernel, _, rfl, rfl⟩ (Nat.le_refl _) (Nat.le_refl _)
  refine es_eq (tgt := 24) (off := (16)) (by decide +kernel) (by decide) (fun h4 => ?_) (fun h4 => ?_)
  · refine ef_drop (L2 := [none, none, none, none]) [false, false, false, true] rfl rfl ?_
    exact Hj2 ()
  refine es_blk (pc' := 12) (L' := [some (.ref 125), some (.ref p0), some (.int p1), none]) (st' := [.ref 125]) [(.aload_n 0, 0)] (by decide +kernel) rfl rfl ?_
  refine ef_getP (k := 125) (j := 1) (q := 2) rfl eL_3_25 rfl rfl rfl (by decide +kernel) ?_
  refine ef_getP (k := 2) (j := 0) (q := 3) rfl eL_3_202 rfl rfl rfl (by decide +kernel) ?_
  refine es_blk (pc' := 19) (L' := [some (.ref 125), some (.ref p0), some (.int p1), none]) (st' := [.int p1, .ref 3]) [(.iload_n 2, 0)] (by decide +kernel) rfl rfl ?_
  refine ef_ald (k := 3) rfl (Or.inl ⟨rfl, rfl⟩) (by decide +kernel) (fun _ => ?_)
  refine es_blk (pc' := 21) (L' := [some (.ref 125), some (.ref p0), some (.int p1), none]) (st' := [.int 1, .int (s.1 3 (eh_ix p1))]) [(.iconst 1, 1)] (by decide +kernel) rfl rfl ?_
  refine es_ine (tgt := 26) (off := (5)) (by decide +kernel) (by decide) (fun h5 => ?_) (fun h5 => ?_)
  · refine ef_drop (L2 := [none, none, none, none]) [false, false, false, true] rfl rfl ?_
    exact Hj2 ()
  refine es_blk (pc' := 27) (L' := [some (.ref 125), some (.ref p0), some (.int p1), none]) (st' := [.ref 125]) [(.aload_n 0, 0)] (by decide +kernel) rfl rfl ?_
  refine ef_getP (k := 125) (j := 1) (q := 2) rfl eL_3_25 rfl rfl rfl (by decide +kernel) ?_
  refine es_blk (pc' := 32) (L' := [some (.ref 125), some (.ref p0), some (.int p1), none]) (st' := [.ref p0, .int p1, .ref 2]) [(.iload_n 2, 0), (.aload_n 1, 0)] (by decide +kernel) rfl rfl ?_
  refine ef_getI (k := p0) (j := 3) (eh_F0sh hp0) eL_3_73 (by decide) (by decide +kernel) ?_
  refine ef_vpI (d := 1) (k := 2) (As := [.int p1, .int (s.1 p0 3)]) (st := []) eV_6_sideOf eK_3_205 (eS_6_sideOf g s p1 (s.1 p0 3)) rfl rfl (Nat.le_of_ble_eq_true rfl) rfl (Nat.le_of_ble_eq_true rfl) ⟨Nat.le_of_ble_eq_true rfl, Nat.le_of_ble_eq_true rfl⟩ ⟨Nat.le_refl _, Nat.le_refl _⟩ (by decide +kernel) (fun q6 _ => ?_)
  refine es_blk (pc' := 40) (L' := [some (.ref 125), some (.ref p0), some (.int p1), some (.int q6)]) (st' := [.int q6]) [(.istore_n 3, 0), (.iload_n 3, 0)] (by decide +kernel) rfl rfl ?_
  refine es_ne (tgt := 45) (off := (5)) (by decide +kernel) (by decide) (fun h7 => ?_) (fun h7 => ?_)
  · refine es_blk (pc' := 44) (L' := [some (.ref 125), some (.ref p0), some (.int p1), some (.int q6)]) (st' := [.int (-1)]) [(.iconst (-1), (-1))] (by decide +kernel) rfl rfl ?_
    exact es_ret rfl rfl rfl ⟨by decide +kernel, _, rfl, rfl⟩ (Nat.le_refl _) (Nat.le_refl _)
  refine es_blk (pc' := 46) (L' := [some (.ref 125), some (.ref p0), some (.int p1), some (.int q6)]) (st' := [.ref 125]) [(.aload_n 0, 0)] (by decide +kernel) rfl rfl ?_
  refine ef_getP (k := 125) (j := 1) (q := 2) rfl eL_3_25 rfl rfl rfl (by decide +kernel) ?_
  refine ef_getP (k := 2) (j := 5) (q := 8) rfl eL_3_209 rfl rfl rfl (by decide +kernel) ?_
  refine es_blk (pc' := 53) (L' := [some (.ref 125), some (.ref p0), some (.int p1), some (.int q6)]) (st' := [.int p1, .ref 8]) [(.iload_n 2, 0)] (by decide +kernel) rfl rfl ?_
  refine ef_ald (k := 8) rfl (Or.inl ⟨rfl, rfl⟩) (by decide +kernel) (fun _ => ?_)
  refine es_blk (pc' := 56) (L' := [some (.ref 125), some (.ref p0), some (.int p1), some (.int q6)]) (st' := [.int ((s.1 8 (eh_ix p1)) &&& q6)]) [(.iload_n 3, 0), (.iand, 0)] (by decide +kernel) rfl rfl ?_
  refine es_eq (tgt := 62) (off := (6)) (by decide +kernel) (by decide) (fun h8 => ?_) (fun h8 => ?_)
  · refine es_blk (pc' := 63) (L' := [some (.ref 125), some (.ref p0), some (.int p1), some (.int q6)]) (st' := [.ref 125]) [(.aload_n 0, 0)] (by decide +kernel) rfl rfl ?_
    refine ef_getP (k := 125) (j := 1) (q := 2) rfl eL_3_25 rfl rfl rfl (by decide +kernel) ?_
    refine ef_getP (k := 2) (j := 5) (q := 8) rfl eL_3_209 rfl rfl rfl (by decide +kernel) ?_
    refine es_blk (pc' := 71) (L' := [some (.ref 125), some (.ref p0), some (.int p1), some (.int q6)]) (st' := [.int p1, .ref 8, .int p1, .ref 8]) [(.iload_n 2, 0), (.dup2, 0)] (by decide +kernel) rfl rfl ?_
    refine ef_ald (k := 8) rfl (Or.inl ⟨rfl, rfl⟩) (by decide +kernel) (fun _ => ?_)
    refine es_blk (pc' := 74) (L' := [some (.ref 125), some (.ref p0), some (.int p1), some (.int q6)]) (st' := [.int ((s.1 8 (eh_ix p1)) ||| q6), .int p1, .ref 8]) [(.iload_n 3, 0), (.ior, 0)] (by decide +kernel) rfl rfl ?_
    refine ef_ast (k := 8) rfl (by decide +kernel) (fun _ => ?_)
    refine ef_V (fun _ => [some (.ref 125), some (.ref p0), some (.int p1), some (.int q6)]) (fun _ => []) (fun s9 => eh_FW s9) (fun s9 => ?_)
    refine es_blk (pc' := 76) (L' := [some (.ref 125), some (.ref p0), some (.int p1), some (.int q6)]) (st' := [.ref 125]) [(.aload_n 0, 0)] (by decide +kernel) rfl rfl ?_
    refine ef_getP (k := 125) (j := 0) (q := 1) rfl eL_3_15 rfl rfl rfl (by decide +kernel) ?_
    refine es_blk (pc' := 84) (L' := [some (.ref 125), some (.ref p0), some (.int p1), some (.int q6)]) (st' := [.int 0, .int 0, .int p1, .ref p0, .int 5, .ref 1]) [(.iconst 5, 5), (.aload_n 1, 0), (.iload_n 2, 0), (.iconst 0, 0), (.iconst 0, 0)] (by decide +kernel) rfl rfl ?_
    refine ef_veV (d := 1) (k := 1) (As := [.int 5, .ref p0, .int p1, .int 0, .int 0]) (st := []) eV_5_note eK_3_111 (eS_5_note g s9 5 p0 p1 0 0 hp0) rfl rfl (Nat.le_of_ble_eq_true rfl) rfl (Nat.le_of_ble_eq_true rfl) ⟨Nat.le_of_ble_eq_true rfl, Nat.le_of_ble_eq_true rfl⟩ ⟨Nat.le_refl _, Nat.le_refl _⟩ (by decide +kernel) (fun q10 _ => ?_)
    refine es_blk (pc' := 88) (L' := [some (.ref 125), some (.ref p0), some (.int p1), some (.int q6)]) (st' := [.int 0]) [(.iconst 0, 0)] (by decide +kernel) rfl rfl ?_
    exact es_ret rfl rfl rfl ⟨by decide +kernel, _, rfl, rfl⟩ (Nat.le_refl _) (Nat.le_refl _)
  refine es_blk (pc' := 61) (L' := [some (.ref 125), some (.ref p0), some (.int p1), some (.int q6)]) (st' := [.int (-2)]) [(.bipush (-2), (-2))] (by decide +kernel) rfl rfl ?_
  exact es_ret rfl rfl rfl ⟨by decide +kernel, _, rfl, rfl⟩ (Nat.le_refl _) (Nat.le_refl _)
def eF_4_restart (s : eh_F) (th : Nat) : Option (eh_F) := Option.bind (eF_23_fill s (th + 1) 32 0) (fun q1 => eh_V (eh_tI q1 th 2 0) (fun s2 => eh_V (eh_tI s2 th 3 1) (fun s3 => eh_V (eh_tI s3 th 4 0) (fun s4 => eh_V (eh_tI s4 th 5 (-1)) (fun s5 => eh_V (eh_tI s5 th 6 0) (fun s6 => eh_V (eh_tI s6 th 7 0) (fun s7 => eh_V (eh_tI s7 th 8 0) (fun s8 => eh_V (eh_tI s8 th 9 0) (fun s9 => eh_V (eh_tI s9 th 10 0) (fun s10 => eh_V (eh_tI s10 th 11 0) (fun s11 => eh_V (eh_tI s11 th 12 0) (fun s12 => eh_V (eh_tI s12 th 13 0) (fun s13 => eh_V (eh_tI s13 th 14 0) (fun s14 => eh_V (eh_tI s14 th 15 0) (fun s15 => eh_V (eh_tI s15 th 16 0) (fun s16 => eh_V (eh_tI s16 th 17 (-1)) (fun s17 => eh_V (eh_tI s17 th 18 0) (fun s18 => some s18))))))))))))))))))
set_option maxHeartbeats 4000000 in
set_option maxRecDepth 100000 in
theorem eS_4_restart (g : eh_P) (s : eh_F) (th : Nat) (hth : eh_okH th = true) : eh_Sim g eM_4_restart (eh_R 2 0 0) eh_eV 0 0 0 (eh_en 1 [.ref th]) [] (eh_FW s) (eF_4_restart s th) := by
  unfold eF_4_restart
  refine ef_top (L := [some (.ref th)]) rfl ?_
  refine es_blk (pc' := 1) (L' := [some (.ref th)]) (st' := [.ref th]) [(.aload_n 0, 0)] (by decide +kernel) rfl rfl ?_
  refine ef_getP (k := th) (j := 1) (q := (th + 1)) (eh_H0sh hth) eL_4_9 rfl (eh_Hx hth _) (eh_H1sh hth) (by decide +kernel) ?_
  refine es_blk (pc' := 5) (L' := [some (.ref th)]) (st' := [.int 0, .ref (th + 1)]) [(.iconst 0, 0)] (by decide +kernel) rfl rfl ?_
  refine ef_seV (d := 1) (As := [.ref (th + 1), .int 0]) (st := []) eV_23_fill eK_4_19 (eS_23_fill g s (th + 1) 32 0 (eh_H1sh hth)) rfl (Nat.le_of_ble_eq_true rfl) rfl (Nat.le_of_ble_eq_true rfl) ⟨Nat.le_of_ble_eq_true rfl, Nat.le_of_ble_eq_true rfl⟩ ⟨Nat.le_refl _, Nat.le_refl _⟩ (by decide +kernel) (fun q1 _ => ?_)
  refine es_blk (pc' := 10) (L' := [some (.ref th)]) (st' := [.int 0, .ref th]) [(.aload_n 0, 0), (.iconst 0, 0)] (by decide +kernel) rfl rfl ?_
  refine ef_putI (k := th) (j := 2) (eh_H0sh hth) eL_4_25 rfl rfl (by decide +kernel) ?_
  refine ef_V (fun _ => [some (.ref th)]) (fun _ => []) (fun s2 => eh_FW s2) (fun s2 => ?_)
  refine es_blk (pc' := 15) (L' := [some (.ref th)]) (st' := [.int 1, .ref th]) [(.aload_n 0, 0), (.iconst 1, 1)] (by decide +kernel) rfl rfl ?_
  refine ef_putI (k := th) (j := 3) (eh_H0sh hth) eL_4_28 rfl rfl (by decide +kernel) ?_
  refine ef_V (fun _ => [some (.ref th)]) (fun _ => []) (fun s3 => eh_FW s3) (fun s3 => ?_)
  refine es_blk (pc' := 20) (L' := [some (.ref th)]) (st' := [.int 0, .ref th]) [(.aload_n 0, 0), (.iconst 0, 0)] (by decide +kernel) rfl rfl ?_
  refine ef_putZc (k := th) (j := 4) (eh_H0sh hth) eL_4_31 rfl rfl (by decide) (by decide +kernel) ?_
  refine ef_V (fun _ => [some (.ref th)]) (fun _ => []) (fun s4 => eh_FW s4) (fun s4 => ?_)
  refine es_blk (pc' := 25) (L' := [some (.ref th)]) (st' := [.int (-1), .ref th]) [(.aload_n 0, 0), (.iconst (-1), (-1))] (by decide +kernel) rfl rfl ?_
  refine ef_putI (k := th) (j := 5) (eh_H0sh hth) eL_4_35 rfl rfl (by decide +kernel) ?_
  refine ef_V (fun _ => [some (.ref th)]) (fun _ => []) (fun s5 => eh_FW s5) (fun s5 => ?_)
  refine es_blk (pc' := 30) (L' := [some (.ref th)]) (st' := [.int 0, .ref th]) [(.aload_n 0, 0), (.iconst 0, 0)] (by decide +kernel) rfl rfl ?_
  refine ef_putI (k := th) (j := 6) (eh_H0sh hth) eL_4_38 rfl rfl (by decide +kernel) ?_
  refine ef_V (fun _ => [some (.ref th)]) (fun _ => []) (fun s6 => eh_FW s6) (fun s6 => ?_)
  refine es_blk (pc' := 35) (L' := [some (.ref th)]) (st' := [.int 0, .ref th]) [(.aload_n 0, 0), (.iconst 0, 0)] (by decide +kernel) rfl rfl ?_
  refine ef_putI (k := th) (j := 7) (eh_H0sh hth) eL_4_41 rfl rfl (by decide +kernel) ?_
  refine ef_V (fun _ => [some (.ref th)]) (fun _ => []) (fun s7 => eh_FW s7) (fun s7 => ?_)
  refine es_blk (pc' := 40) (L' := [some (.ref th)]) (st' := [.int 0, .ref th]) [(.aload_n 0, 0), (.iconst 0, 0)] (by decide +kernel) rfl rfl ?_
  refine ef_putI (k := th) (j := 8) (eh_H0sh hth) eL_4_44 rfl rfl (by decide +kernel) ?_
  refine ef_V (fun _ => [some (.ref th)]) (fun _ => []) (fun s8 => eh_FW s8) (fun s8 => ?_)
  refine es_blk (pc' := 45) (L' := [some (.ref th)]) (st' := [.int 0, .ref th]) [(.aload_n 0, 0), (.iconst 0, 0)] (by decide +kernel) rfl rfl ?_
  refine ef_putI (k := th) (j := 9) (eh_H0sh hth) eL_4_47 rfl rfl (by decide +kernel) ?_
  refine ef_V (fun _ => [some (.ref th)]) (fun _ => []) (fun s9 => eh_FW s9) (fun s9 => ?_)
  refine es_blk (pc' := 50) (L' := [some (.ref th)]) (st' := [.int 0, .ref th]) [(.aload_n 0, 0), (.iconst 0, 0)] (by decide +kernel) rfl rfl ?_
  refine ef_putI (k := th) (j := 10) (eh_H0sh hth) eL_4_50 rfl rfl (by decide +kernel) ?_
  refine ef_V (fun _ => [some (.ref th)]) (fun _ => []) (fun s10 => eh_FW s10) (fun s10 => ?_)
  refine es_blk (pc' := 55) (L' := [some (.ref th)]) (st' := [.int 0, .ref th]) [(.aload_n 0, 0), (.iconst 0, 0)] (by decide +kernel) rfl rfl ?_
  refine ef_putI (k := th) (j := 11) (eh_H0sh hth) eL_4_53 rfl rfl (by decide +kernel) ?_
  refine ef_V (fun _ => [some (.ref th)]) (fun _ => []) (fun s11 => eh_FW s11) (fun s11 => ?_)
  refine es_blk (pc' := 60) (L' := [some (.ref th)]) (st' := [.int 0, .ref th]) [(.aload_n 0, 0), (.iconst 0, 0)] (by decide +kernel) rfl rfl ?_
  refine ef_putI (k := th) (j := 12) (eh_H0sh hth) eL_4_56 rfl rfl (by decide +kernel) ?_
  refine ef_V (fun _ => [some (.ref th)]) (fun _ => []) (fun s12 => eh_FW s12) (fun s12 => ?_)
  refine es_blk (pc' := 65) (L' := [some (.ref th)]) (st' := [.int 0, .ref th]) [(.aload_n 0, 0), (.iconst 0, 0)] (by decide +kernel) rfl rfl ?_
  refine ef_putI (k := th) (j := 13) (eh_H0sh hth) eL_4_59 rfl rfl (by decide +kernel) ?_
  refine ef_V (fun _ => [some (.ref th)]) (fun _ => []) (fun s13 => eh_FW s13) (fun s13 => ?_)
  refine es_blk (pc' := 70) (L' := [some (.ref th)]) (st' := [.int 0, .ref th]) [(.aload_n 0, 0), (.iconst 0, 0)] (by decide +kernel) rfl rfl ?_
  refine ef_putI (k := th) (j := 14) (eh_H0sh hth) eL_4_62 rfl rfl (by decide +kernel) ?_
  refine ef_V (fun _ => [some (.ref th)]) (fun _ => []) (fun s14 => eh_FW s14) (fun s14 => ?_)
  refine es_blk (pc' := 75) (L' := [some (.ref th)]) (st' := [.int 0, .ref th]) [(.aload_n 0, 0), (.iconst 0, 0)] (by decide +kernel) rfl rfl ?_
  refine ef_putI (k := th) (j := 15) (eh_H0sh hth) eL_4_65 rfl rfl (by decide +kernel) ?_
  refine ef_V (fun _ => [some (.ref th)]) (fun _ => []) (fun s15 => eh_FW s15) (fun s15 => ?_)
  refine es_blk (pc' := 80) (L' := [some (.ref th)]) (st' := [.int 0, .ref th]) [(.aload_n 0, 0), (.iconst 0, 0)] (by decide +kernel) rfl rfl ?_
  refine ef_putI (k := th) (j := 16) (eh_H0sh hth) eL_4_68 rfl rfl (by decide +kernel) ?_
  refine ef_V (fun _ => [some (.ref th)]) (fun _ => []) (fun s16 => eh_FW s16) (fun s16 => ?_)
  refine es_blk (pc' := 85) (L' := [some (.ref th)]) (st' := [.int (-1), .ref th]) [(.aload_n 0, 0), (.iconst (-1), (-1))] (by decide +kernel) rfl rfl ?_
  refine ef_putI (k := th) (j := 17) (eh_H0sh hth) eL_4_71 rfl rfl (by decide +kernel) ?_
  refine ef_V (fun _ => [some (.ref th)]) (fun _ => []) (fun s17 => eh_FW s17) (fun s17 => ?_)
  refine es_blk (pc' := 90) (L' := [some (.ref th)]) (st' := [.int 0, .ref th]) [(.aload_n 0, 0), (.iconst 0, 0)] (by decide +kernel) rfl rfl ?_
  refine ef_putI (k := th) (j := 18) (eh_H0sh hth) eL_4_74 rfl rfl (by decide +kernel) ?_
  refine ef_V (fun _ => [some (.ref th)]) (fun _ => []) (fun s18 => eh_FW s18) (fun s18 => ?_)
  exact es_ret rfl rfl rfl ⟨by decide +kernel, rfl⟩ (Nat.le_refl _) (Nat.le_refl _)
def eF_4_pending (s : eh_F) (th : Nat) : Option (Int32) := Option.bind (eF_11_isBelow s (s.1 12 0) (s.1 th 17)) (fun q1 => eh_J (fun (a3 : Int32) => eh_J (fun (a5 : Int32) => Option.bind (eF_0_wantsTheSystem s) (fun q6 => eh_J (fun (a8 : Int32) => some (((s.1 th 16) ||| a5) ||| a8)) (fun j7 => if q6 = 0 then (j7 0) else (j7 512)))) (fun j4 => if a3 = 0 then (j4 0) else (j4 32))) (fun j2 => if q1 = 0 then (j2 1) else (j2 0)))
set_option maxHeartbeats 4000000 in
set_option maxRecDepth 100000 in
theorem eS_4_pending (g : eh_P) (s : eh_F) (th : Nat) (hth : eh_okH th = true) : eh_Sim g eM_4_pending (eh_R 2 0 0) (eh_pI s) 0 0 0 (eh_en 3 [.ref th, .ref 12]) [] (eh_FW s) (eF_4_pending s th) := by
  unfold eF_4_pending
  refine ef_top (L := [some (.ref th), some (.ref 12), none]) rfl ?_
  refine es_blk (pc' := 1) (L' := [some (.ref th), some (.ref 12), none]) (st' := [.ref 12]) [(.aload_n 1, 0)] (by decide +kernel) rfl rfl ?_
  refine ef_getI (k := 12) (j := 0) rfl eL_4_77 (by decide) (by decide +kernel) ?_
  refine es_blk (pc' := 5) (L' := [some (.ref th), some (.ref 12), none]) (st' := [.ref th, .int (s.1 12 0)]) [(.aload_n 0, 0)] (by decide +kernel) rfl rfl ?_
  refine ef_getI (k := th) (j := 17) (eh_H0sh hth) eL_4_71 (by decide) (by decide +kernel) ?_
  refine ef_snI (d := 1) (As := [.int (s.1 12 0), .int (s.1 th 17)]) (st := []) eV_11_isBelow eN_4_82 (eS_11_isBelow g s (s.1 12 0) (s.1 th 17)) rfl (Nat.le_of_ble_eq_true rfl) rfl (Nat.le_of_ble_eq_true rfl) ⟨Nat.le_of_ble_eq_true rfl, Nat.le_of_ble_eq_true rfl⟩ ⟨Nat.le_refl _, Nat.le_refl _⟩ (by decide +kernel) (fun q1 _ => ?_)
  refine ef_J (X := fun j2 => ∀ (a3 : Int32), eh_Sim g eM_4_pending (eh_R 2 0 0) (eh_pI s) 0 0 19 [some (.ref th), some (.ref 12), none] [.int a3] (eh_FW s) ((j2 a3).bind some)) ?_ (fun j2 Hj2 => ?_)
  · intro a3
    refine es_blk (pc' := 21) (L' := [some (.ref th), some (.ref 12), some (.int a3)]) (st' := [.ref th]) [(.istore_n 2, 0), (.aload_n 0, 0)] (by decide +kernel) rfl rfl ?_
    refine ef_getI (k := th) (j := 16) (eh_H0sh hth) eL_4_68 (by decide) (by decide +kernel) ?_
    refine es_blk (pc' := 25) (L' := [some (.ref th), some (.ref 12), some (.int a3)]) (st' := [.int a3, .int (s.1 th 16)]) [(.iload_n 2, 0)] (by decide +kernel) rfl rfl ?_
    refine ef_J (X := fun j4 => ∀ (a5 : Int32), eh_Sim g eM_4_pending (eh_R 2 0 0) (eh_pI s) 0 0 34 [none, some (.ref 12), none] [.int a5, .int (s.1 th 16)] (eh_FW s) ((j4 a5).bind some)) ?_ (fun j4 Hj4 => ?_)
    · intro a5
      refine es_blk (pc' := 36) (L' := [none, some (.ref 12), none]) (st' := [.ref 12, .int ((s.1 th 16) ||| a5)]) [(.ior, 0), (.aload_n 1, 0)] (by decide +kernel) rfl rfl ?_
      refine ef_vpI (d := 1) (k := 12) (As := []) (st := [.int ((s.1 th 16) ||| a5)]) eV_0_wantsTheSystem eK_4_86 (eS_0_wantsTheSystem g s) rfl rfl (Nat.le_of_ble_eq_true rfl) rfl (Nat.le_of_ble_eq_true rfl) ⟨Nat.le_of_ble_eq_true rfl, Nat.le_of_ble_eq_true rfl⟩ ⟨Nat.le_refl _, Nat.le_refl _⟩ (by decide +kernel) (fun q6 _ => ?_)
      refine ef_J (X := fun j7 => ∀ (a8 : Int32), eh_Sim g eM_4_pending (eh_R 2 0 0) (eh_pI s) 0 0 49 [none, none, none] [.int a8, .int ((s.1 th 16) ||| a5)] (eh_FW s) ((j7 a8).bind some)) ?_ (fun j7 Hj7 => ?_)
      · intro a8
        refine es_blk (pc' := 50) (L' := [none, none, none]) (st' := [.int (((s.1 th 16) ||| a5) ||| a8)]) [(.ior, 0)] (by decide +kernel) rfl rfl ?_
        exact es_ret rfl rfl rfl ⟨by decide +kernel, _, rfl, rfl⟩ (Nat.le_refl _) (Nat.le_refl _)
      refine es_eq (tgt := 48) (off := (9)) (by decide +kernel) (by decide) (fun h9 => ?_) (fun h9 => ?_)
      · refine es_blk (pc' := 49) (L' := [none, some (.ref 12), none]) (st' := [.int 0, .int ((s.1 th 16) ||| a5)]) [(.iconst 0, 0)] (by decide +kernel) rfl rfl ?_
        refine ef_drop (L2 := [none, none, none]) [true, false, true] rfl rfl ?_
        exact Hj7 _
      refine es_blk (pc' := 45) (L' := [none, some (.ref 12), none]) (st' := [.int 512, .int ((s.1 th 16) ||| a5)]) [(.sipush 512, 512)] (by decide +kernel) rfl rfl ?_
      refine es_goto (tgt := 49) (off := (4)) (by decide +kernel) (by decide) ?_
      refine ef_drop (L2 := [none, none, none]) [true, false, true] rfl rfl ?_
      exact Hj7 _
    refine es_eq (tgt := 33) (off := (8)) (by decide +kernel) (by decide) (fun h10 => ?_) (fun h10 => ?_)
    · refine es_blk (pc' := 34) (L' := [some (.ref th), some (.ref 12), some (.int a3)]) (st' := [.int 0, .int (s.1 th 16)]) [(.iconst 0, 0)] (by decide +kernel) rfl rfl ?_
      refine ef_drop (L2 := [none, some (.ref 12), none]) [false, true, false] rfl rfl ?_
      exact Hj4 _
    refine es_blk (pc' := 30) (L' := [some (.ref th), some (.ref 12), some (.int a3)]) (st' := [.int 32, .int (s.1 th 16)]) [(.bipush 32, 32)] (by decide +kernel) rfl rfl ?_
    refine es_goto (tgt := 34) (off := (4)) (by decide +kernel) (by decide) ?_
    refine ef_drop (L2 := [none, some (.ref 12), none]) [false, true, false] rfl rfl ?_
    exact Hj4 _
  refine es_ne (tgt := 18) (off := (7)) (by decide +kernel) (by decide) (fun h11 => ?_) (fun h11 => ?_)
  · refine es_blk (pc' := 15) (L' := [some (.ref th), some (.ref 12), none]) (st' := [.int 1]) [(.iconst 1, 1)] (by decide +kernel) rfl rfl ?_
    refine es_goto (tgt := 19) (off := (4)) (by decide +kernel) (by decide) ?_
    exact Hj2 _
  refine es_blk (pc' := 19) (L' := [some (.ref th), some (.ref 12), none]) (st' := [.int 0]) [(.iconst 0, 0)] (by decide +kernel) rfl rfl ?_
  exact Hj2 _
def eF_4_mixAll (s : eh_F) (th : Nat) (p0 : Int64) : Option (Int64) := Option.bind (eh_loop (fun (r22 : (Int64 × Int32) → Option (Int64)) (t1 : Int64 × Int32) => if t1.2 < 32 then (if eh_in t1.2 32 then Option.bind (eF_5_mix s t1.1 (s.1 (th + 1) (eh_ix t1.2))) (fun q24 => eh_V ((t1.2 + 1) : Int32) (fun x25 => r22 (q24, x25))) else none) else (some t1.1)) eh_FU (p0, 1)) (fun (e2 : Int64) => Option.bind (eF_5_mix s e2 (s.1 th 2)) (fun q3 => Option.bind (eF_5_mix s q3 (s.1 th 3)) (fun q4 => eh_J (fun (a6 : Int32) => Option.bind (eF_5_mix s q4 a6) (fun q7 => Option.bind (eF_5_mix s q7 (s.1 th 5)) (fun q8 => Option.bind (eF_5_mix s q8 (s.1 th 9)) (fun q9 => Option.bind (eF_5_mix s q9 (s.1 th 10)) (fun q10 => Option.bind (eF_5_mix s q10 (s.1 th 11)) (fun q11 => Option.bind (eF_5_mix s q11 (s.1 th 12)) (fun q12 => Option.bind (eF_5_mix s q12 (s.1 th 13)) (fun q13 => Option.bind (eF_5_mix s q13 (s.1 th 14)) (fun q14 => Option.bind (eF_5_mix s q14 (s.1 th 15)) (fun q15 => Option.bind (eF_5_mix s q15 (eh_shr (s.1 th 16) 1)) (fun q16 => Option.bind (eF_5_mix s q16 (s.1 th 17)) (fun q17 => Option.bind (eF_5_mix s q17 (s.1 th 18)) (fun q18 => Option.bind (eF_5_mix s q18 (s.1 th 6)) (fun q19 => some q19)))))))))))))) (fun j5 => if (s.1 th 4) = 0 then (j5 0) else (j5 1)))))
set_option maxHeartbeats 4000000 in
set_option maxRecDepth 100000 in
theorem eS_4_mixAll (g : eh_P) (s : eh_F) (th : Nat) (p0 : Int64) (hth : eh_okH th = true) : eh_Sim g eM_4_mixAll (eh_R 2 0 0) (eh_pL s) 0 0 0 (eh_en 6 [.ref th, .long p0]) [] (eh_FW s) (eF_4_mixAll s th p0) := by
  unfold eF_4_mixAll
  refine ef_top (L := [some (.ref th), some (.long p0), none, none, none, none]) rfl ?_
  refine es_blk (pc' := 5) (L' := [some (.ref th), some (.long p0), none, some (.long p0), none, some (.int 1)]) (st' := []) [(.lload_n 1, 0), (.lstore_n 3, 0), (.iconst 1, 1), (.istore 5, 0)] (by decide +kernel) rfl rfl ?_
  refine ef_drop (L2 := [some (.ref th), none, none, some (.long p0), none, some (.int 1)]) [true, false, true, true, true, true] rfl rfl ?_
  refine ef_loop1 (n := eh_FU) (i := (p0, 1)) (px := 30) (fun (t1 : Int64 × Int32) => [some (.ref th), none, none, some (.long t1.1), none, some (.int t1.2)]) (fun (t1 : Int64 × Int32) => []) (fun (t1 : Int64 × Int32) => eh_FW s) (fun (e2 : Int64) => [some (.ref th), none, none, some (.long e2), none, none]) (fun (e2 : Int64) => []) (fun (e2 : Int64) => eh_FW s) (fun e2 => ?_) (fun K21 HxK21_0 r22 Hr22 t1 => ?_)
  · refine es_blk (pc' := 32) (L' := [some (.ref th), none, none, some (.long e2), none, none]) (st' := [.ref th, .long e2]) [(.lload_n 3, 0), (.aload_n 0, 0)] (by decide +kernel) rfl rfl ?_
    refine ef_getI (k := th) (j := 2) (eh_H0sh hth) eL_4_25 (by decide) (by decide +kernel) ?_
    refine ef_spL (d := 1) (As := [.long e2, .int (s.1 th 2)]) (st := []) eV_5_mix eK_4_96 (eS_5_mix g s e2 (s.1 th 2)) rfl (Nat.le_of_ble_eq_true rfl) rfl (Nat.le_of_ble_eq_true rfl) ⟨Nat.le_of_ble_eq_true rfl, Nat.le_of_ble_eq_true rfl⟩ ⟨Nat.le_refl _, Nat.le_refl _⟩ (by decide +kernel) (fun q3 _ => ?_)
    refine es_blk (pc' := 39) (L' := [some (.ref th), none, none, some (.long e2), none, none]) (st' := [.ref th, .long q3]) [(.aload_n 0, 0)] (by decide +kernel) rfl rfl ?_
    refine ef_getI (k := th) (j := 3) (eh_H0sh hth) eL_4_28 (by decide) (by decide +kernel) ?_
    refine ef_spL (d := 1) (As := [.long q3, .int (s.1 th 3)]) (st := []) eV_5_mix eK_4_96 (eS_5_mix g s q3 (s.1 th 3)) rfl (Nat.le_of_ble_eq_true rfl) rfl (Nat.le_of_ble_eq_true rfl) ⟨Nat.le_of_ble_eq_true rfl, Nat.le_of_ble_eq_true rfl⟩ ⟨Nat.le_refl _, Nat.le_refl _⟩ (by decide +kernel) (fun q4 _ => ?_)
    refine es_blk (pc' := 48) (L' := [some (.ref th), none, none, some (.long q4), none, none]) (st' := [.ref th, .long q4]) [(.lstore_n 3, 0), (.lload_n 3, 0), (.aload_n 0, 0)] (by decide +kernel) rfl rfl ?_
    refine ef_getI (k := th) (j := 4) (eh_H0sh hth) eL_4_31 (by decide) (by decide +kernel) ?_
    refine ef_J (X := fun j5 => ∀ (a6 : Int32), eh_Sim g eM_4_mixAll (eh_R 2 0 0) (eh_pL s) 0 0 59 [some (.ref th), none, none, none, none, none] [.int a6, .long q4] (eh_FW s) ((j5 a6).bind some)) ?_ (fun j5 Hj5 => ?_)
    · intro a6
      refine ef_spL (d := 1) (As := [.long q4, .int a6]) (st := []) eV_5_mix eK_4_96 (eS_5_mix g s q4 a6) rfl (Nat.le_of_ble_eq_true rfl) rfl (Nat.le_of_ble_eq_true rfl) ⟨Nat.le_of_ble_eq_true rfl, Nat.le_of_ble_eq_true rfl⟩ ⟨Nat.le_refl _, Nat.le_refl _⟩ (by decide +kernel) (fun q7 _ => ?_)
      refine es_blk (pc' := 63) (L' := [some (.ref th), none, none, none, none, none]) (st' := [.ref th, .long q7]) [(.aload_n 0, 0)] (by decide +kernel) rfl rfl ?_
      refine ef_getI (k := th) (j := 5) (eh_H0sh hth) eL_4_35 (by decide) (by decide +kernel) ?_
      refine ef_spL (d := 1) (As := [.long q7, .int (s.1 th 5)]) (st := []) eV_5_mix eK_4_96 (eS_5_mix g s q7 (s.1 th 5)) rfl (Nat.le_of_ble_eq_true rfl) rfl (Nat.le_of_ble_eq_true rfl) ⟨Nat.le_of_ble_eq_true rfl, Nat.le_of_ble_eq_true rfl⟩ ⟨Nat.le_refl _, Nat.le_refl _⟩ (by decide +kernel) (fun q8 _ => ?_)
      refine es_blk (pc' := 72) (L' := [some (.ref th), none, none, some (.long q8), none, none]) (st' := [.ref th, .long q8]) [(.lstore_n 3, 0), (.lload_n 3, 0), (.aload_n 0, 0)] (by decide +kernel) rfl rfl ?_
      refine ef_getI (k := th) (j := 9) (eh_H0sh hth) eL_4_47 (by decide) (by decide +kernel) ?_
      refine ef_spL (d := 1) (As := [.long q8, .int (s.1 th 9)]) (st := []) eV_5_mix eK_4_96 (eS_5_mix g s q8 (s.1 th 9)) rfl (Nat.le_of_ble_eq_true rfl) rfl (Nat.le_of_ble_eq_true rfl) ⟨Nat.le_of_ble_eq_true rfl, Nat.le_of_ble_eq_true rfl⟩ ⟨Nat.le_refl _, Nat.le_refl _⟩ (by decide +kernel) (fun q9 _ => ?_)
      refine es_blk (pc' := 79) (L' := [some (.ref th), none, none, some (.long q8), none, none]) (st' := [.ref th, .long q9]) [(.aload_n 0, 0)] (by decide +kernel) rfl rfl ?_
      refine ef_getI (k := th) (j := 10) (eh_H0sh hth) eL_4_50 (by decide) (by decide +kernel) ?_
      refine ef_spL (d := 1) (As := [.long q9, .int (s.1 th 10)]) (st := []) eV_5_mix eK_4_96 (eS_5_mix g s q9 (s.1 th 10)) rfl (Nat.le_of_ble_eq_true rfl) rfl (Nat.le_of_ble_eq_true rfl) ⟨Nat.le_of_ble_eq_true rfl, Nat.le_of_ble_eq_true rfl⟩ ⟨Nat.le_refl _, Nat.le_refl _⟩ (by decide +kernel) (fun q10 _ => ?_)
      refine es_blk (pc' := 88) (L' := [some (.ref th), none, none, some (.long q10), none, none]) (st' := [.ref th, .long q10]) [(.lstore_n 3, 0), (.lload_n 3, 0), (.aload_n 0, 0)] (by decide +kernel) rfl rfl ?_
      refine ef_getI (k := th) (j := 11) (eh_H0sh hth) eL_4_53 (by decide) (by decide +kernel) ?_
      refine ef_spL (d := 1) (As := [.long q10, .int (s.1 th 11)]) (st := []) eV_5_mix eK_4_96 (eS_5_mix g s q10 (s.1 th 11)) rfl (Nat.le_of_ble_eq_true rfl) rfl (Nat.le_of_ble_eq_true rfl) ⟨Nat.le_of_ble_eq_true rfl, Nat.le_of_ble_eq_true rfl⟩ ⟨Nat.le_refl _, Nat.le_refl _⟩ (by decide +kernel) (fun q11 _ => ?_)
      refine es_blk (pc' := 95) (L' := [some (.ref th), none, none, some (.long q10), none, none]) (st' := [.ref th, .long q11]) [(.aload_n 0, 0)] (by decide +kernel) rfl rfl ?_
      refine ef_getI (k := th) (j := 12) (eh_H0sh hth) eL_4_56 (by decide) (by decide +kernel) ?_
      refine ef_spL (d := 1) (As := [.long q11, .int (s.1 th 12)]) (st := []) eV_5_mix eK_4_96 (eS_5_mix g s q11 (s.1 th 12)) rfl (Nat.le_of_ble_eq_true rfl) rfl (Nat.le_of_ble_eq_true rfl) ⟨Nat.le_of_ble_eq_true rfl, Nat.le_of_ble_eq_true rfl⟩ ⟨Nat.le_refl _, Nat.le_refl _⟩ (by decide +kernel) (fun q12 _ => ?_)
      refine es_blk (pc' := 104) (L' := [some (.ref th), none, none, some (.long q12), none, none]) (st' := [.ref th, .long q12]) [(.lstore_n 3, 0), (.lload_n 3, 0), (.aload_n 0, 0)] (by decide +kernel) rfl rfl ?_
      refine ef_getI (k := th) (j := 13) (eh_H0sh hth) eL_4_59 (by decide) (by decide +kernel) ?_
      refine ef_spL (d := 1) (As := [.long q12, .int (s.1 th 13)]) (st := []) eV_5_mix eK_4_96 (eS_5_mix g s q12 (s.1 th 13)) rfl (Nat.le_of_ble_eq_true rfl) rfl (Nat.le_of_ble_eq_true rfl) ⟨Nat.le_of_ble_eq_true rfl, Nat.le_of_ble_eq_true rfl⟩ ⟨Nat.le_refl _, Nat.le_refl _⟩ (by decide +kernel) (fun q13 _ => ?_)
      refine es_blk (pc' := 111) (L' := [some (.ref th), none, none, some (.long q12), none, none]) (st' := [.ref th, .long q13]) [(.aload_n 0, 0)] (by decide +kernel) rfl rfl ?_
      refine ef_getI (k := th) (j := 14) (eh_H0sh hth) eL_4_62 (by decide) (by decide +kernel) ?_
      refine ef_spL (d := 1) (As := [.long q13, .int (s.1 th 14)]) (st := []) eV_5_mix eK_4_96 (eS_5_mix g s q13 (s.1 th 14)) rfl (Nat.le_of_ble_eq_true rfl) rfl (Nat.le_of_ble_eq_true rfl) ⟨Nat.le_of_ble_eq_true rfl, Nat.le_of_ble_eq_true rfl⟩ ⟨Nat.le_refl _, Nat.le_refl _⟩ (by decide +kernel) (fun q14 _ => ?_)
      refine es_blk (pc' := 120) (L' := [some (.ref th), none, none, some (.long q14), none, none]) (st' := [.ref th, .long q14]) [(.lstore_n 3, 0), (.lload_n 3, 0), (.aload_n 0, 0)] (by decide +kernel) rfl rfl ?_
      refine ef_getI (k := th) (j := 15) (eh_H0sh hth) eL_4_65 (by decide) (by decide +kernel) ?_
      refine ef_spL (d := 1) (As := [.long q14, .int (s.1 th 15)]) (st := []) eV_5_mix eK_4_96 (eS_5_mix g s q14 (s.1 th 15)) rfl (Nat.le_of_ble_eq_true rfl) rfl (Nat.le_of_ble_eq_true rfl) ⟨Nat.le_of_ble_eq_true rfl, Nat.le_of_ble_eq_true rfl⟩ ⟨Nat.le_refl _, Nat.le_refl _⟩ (by decide +kernel) (fun q15 _ => ?_)
      refine es_blk (pc' := 127) (L' := [some (.ref th), none, none, some (.long q14), none, none]) (st' := [.ref th, .long q15]) [(.aload_n 0, 0)] (by decide +kernel) rfl rfl ?_
      refine ef_getI (k := th) (j := 16) (eh_H0sh hth) eL_4_68 (by decide) (by decide +kernel) ?_
      refine es_blk (pc' := 132) (L' := [some (.ref th), none, none, some (.long q14), none, none]) (st' := [.int (eh_shr (s.1 th 16) 1), .long q15]) [(.iconst 1, 1), (.ishr, 0)] (by decide +kernel) rfl rfl ?_
      refine ef_spL (d := 1) (As := [.long q15, .int (eh_shr (s.1 th 16) 1)]) (st := []) eV_5_mix eK_4_96 (eS_5_mix g s q15 (eh_shr (s.1 th 16) 1)) rfl (Nat.le_of_ble_eq_true rfl) rfl (Nat.le_of_ble_eq_true rfl) ⟨Nat.le_of_ble_eq_true rfl, Nat.le_of_ble_eq_true rfl⟩ ⟨Nat.le_refl _, Nat.le_refl _⟩ (by decide +kernel) (fun q16 _ => ?_)
      refine es_blk (pc' := 138) (L' := [some (.ref th), none, none, some (.long q16), none, none]) (st' := [.ref th, .long q16]) [(.lstore_n 3, 0), (.lload_n 3, 0), (.aload_n 0, 0)] (by decide +kernel) rfl rfl ?_
      refine ef_getI (k := th) (j := 17) (eh_H0sh hth) eL_4_71 (by decide) (by decide +kernel) ?_
      refine ef_spL (d := 1) (As := [.long q16, .int (s.1 th 17)]) (st := []) eV_5_mix eK_4_96 (eS_5_mix g s q16 (s.1 th 17)) rfl (Nat.le_of_ble_eq_true rfl) rfl (Nat.le_of_ble_eq_true rfl) ⟨Nat.le_of_ble_eq_true rfl, Nat.le_of_ble_eq_true rfl⟩ ⟨Nat.le_refl _, Nat.le_refl _⟩ (by decide +kernel) (fun q17 _ => ?_)
      refine es_blk (pc' := 145) (L' := [some (.ref th), none, none, some (.long q16), none, none]) (st' := [.ref th, .long q17]) [(.aload_n 0, 0)] (by decide +kernel) rfl rfl ?_
      refine ef_getI (k := th) (j := 18) (eh_H0sh hth) eL_4_74 (by decide) (by decide +kernel) ?_
      refine ef_spL (d := 1) (As := [.long q17, .int (s.1 th 18)]) (st := []) eV_5_mix eK_4_96 (eS_5_mix g s q17 (s.1 th 18)) rfl (Nat.le_of_ble_eq_true rfl) rfl (Nat.le_of_ble_eq_true rfl) ⟨Nat.le_of_ble_eq_true rfl, Nat.le_of_ble_eq_true rfl⟩ ⟨Nat.le_refl _, Nat.le_refl _⟩ (by decide +kernel) (fun q18 _ => ?_)
      refine es_blk (pc' := 154) (L' := [some (.ref th), none, none, some (.long q18), none, none]) (st' := [.ref th, .long q18]) [(.lstore_n 3, 0), (.lload_n 3, 0), (.aload_n 0, 0)] (by decide +kernel) rfl rfl ?_
      refine ef_getI (k := th) (j := 6) (eh_H0sh hth) eL_4_38 (by decide) (by decide +kernel) ?_
      refine ef_spL (d := 1) (As := [.long q18, .int (s.1 th 6)]) (st := []) eV_5_mix eK_4_96 (eS_5_mix g s q18 (s.1 th 6)) rfl (Nat.le_of_ble_eq_true rfl) rfl (Nat.le_of_ble_eq_true rfl) ⟨Nat.le_of_ble_eq_true rfl, Nat.le_of_ble_eq_true rfl⟩ ⟨Nat.le_refl _, Nat.le_refl _⟩ (by decide +kernel) (fun q19 _ => ?_)
      exact es_ret rfl rfl rfl ⟨by decide +kernel, rfl⟩ (Nat.le_refl _) (Nat.le_refl _)
    refine es_eq (tgt := 58) (off := (7)) (by decide +kernel) (by decide) (fun h20 => ?_) (fun h20 => ?_)
    · refine es_blk (pc' := 59) (L' := [some (.ref th), none, none, some (.long q4), none, none]) (st' := [.int 0, .long q4]) [(.iconst 0, 0)] (by decide +kernel) rfl rfl ?_
      refine ef_drop (L2 := [some (.ref th), none, none, none, none, none]) [true, true, true, false, true, true] rfl rfl ?_
      exact Hj5 _
    refine es_blk (pc' := 55) (L' := [some (.ref th), none, none, some (.long q4), none, none]) (st' := [.int 1, .long q4]) [(.iconst 1, 1)] (by decide +kernel) rfl rfl ?_
    refine es_goto (tgt := 59) (off := (4)) (by decide +kernel) (by decide) ?_
    refine ef_drop (L2 := [some (.ref th), none, none, none, none, none]) [true, true, true, false, true, true] rfl rfl ?_
    exact Hj5 _
  · refine es_blk (pc' := 9) (L' := [some (.ref th), none, none, some (.long t1.1), none, some (.int t1.2)]) (st' := [.int 32, .int t1.2]) [(.iload 5, 0), (.bipush 32, 32)] (by decide +kernel) rfl rfl ?_
    refine es_ige (tgt := 30) (off := (21)) (by decide +kernel) (by decide) (fun h23 => ?_) (fun h23 => ?_)
    · refine es_blk (pc' := 14) (L' := [some (.ref th), none, none, some (.long t1.1), none, some (.int t1.2)]) (st' := [.ref th, .long t1.1]) [(.lload_n 3, 0), (.aload_n 0, 0)] (by decide +kernel) rfl rfl ?_
      refine ef_getP (k := th) (j := 1) (q := (th + 1)) (eh_H0sh hth) eL_4_9 rfl (eh_Hx hth _) (eh_H1sh hth) (by decide +kernel) ?_
      refine es_blk (pc' := 19) (L' := [some (.ref th), none, none, some (.long t1.1), none, some (.int t1.2)]) (st' := [.int t1.2, .ref (th + 1), .long t1.1]) [(.iload 5, 0)] (by decide +kernel) rfl rfl ?_
      refine ef_ald (k := (th + 1)) (eh_H1sh hth) (Or.inl ⟨rfl, rfl⟩) (by decide +kernel) (fun _ => ?_)
      refine ef_spL (d := 1) (As := [.long t1.1, .int (s.1 (th + 1) (eh_ix t1.2))]) (st := []) eV_5_mix eK_4_96 (eS_5_mix g s t1.1 (s.1 (th + 1) (eh_ix t1.2))) rfl (Nat.le_of_ble_eq_true rfl) rfl (Nat.le_of_ble_eq_true rfl) ⟨Nat.le_of_ble_eq_true rfl, Nat.le_of_ble_eq_true rfl⟩ ⟨Nat.le_refl _, Nat.le_refl _⟩ (by decide +kernel) (fun q24 _ => ?_)
      refine es_blk (pc' := 27) (L' := [some (.ref th), none, none, some (.long q24), none, some (.int (t1.2 + 1))]) (st' := []) [(.lstore_n 3, 0), (.iinc 5 1, 1)] (by decide +kernel) rfl rfl ?_
      refine ef_V (fun x25 => [some (.ref th), none, none, some (.long q24), none, some (.int x25)]) (fun _ => []) (fun _ => eh_FW s) (fun x25 => ?_)
      refine es_goto (tgt := 5) (off := (-22)) (by decide +kernel) (by decide) ?_
      exact Hr22 (q24, x25)
    refine ef_drop (L2 := [some (.ref th), none, none, some (.long t1.1), none, none]) [true, true, true, true, true, false] rfl rfl ?_
    exact HxK21_0 t1.1
def eF_5_begin (s : eh_F) (p0 : Nat) (p1 : Nat) : Option (eh_F) := eh_V (eh_tI s p1 6 2) (fun s1 => eh_V (eh_tI s1 p1 7 (s1.1 p0 0)) (fun s2 => eh_V (eh_tI s2 p0 5 (s2.1 p1 0)) (fun s3 => eh_V (eh_tI s3 p0 4 0) (fun s4 => eh_V (eh_tI s4 p0 7 (s4.1 p0 6)) (fun s5 => eh_V (eh_tI s5 p0 8 0) (fun s6 => Option.bind (eF_6_unreserve s6 (s6.1 p0 0)) (fun q7 => some q7)))))))
set_option maxHeartbeats 4000000 in
set_option maxRecDepth 100000 in
theorem eS_5_begin (g : eh_P) (s : eh_F) (p0 : Nat) (p1 : Nat) (hp0 : eh_okH p0 = true) (hp1 : eh_okF p1 = true) : eh_Sim g eM_5_begin (eh_R 2 0 0) eh_eV 0 0 0 (eh_en 3 [.ref 1, .ref p0, .ref p1]) [] (eh_FW s) (eF_5_begin s p0 p1) := by
  unfold eF_5_begin
  refine ef_top (L := [some (.ref 1), some (.ref p0), some (.ref p1)]) rfl ?_
  refine es_blk (pc' := 2) (L' := [some (.ref 1), some (.ref p0), some (.ref p1)]) (st' := [.int 2, .ref p1]) [(.aload_n 2, 0), (.iconst 2, 2)] (by decide +kernel) rfl rfl ?_
  refine ef_putI (k := p1) (j := 6) (eh_F0sh hp1) eL_5_99 rfl rfl (by decide +kernel) ?_
  refine ef_V (fun _ => [some (.ref 1), some (.ref p0), some (.ref p1)]) (fun _ => []) (fun s1 => eh_FW s1) (fun s1 => ?_)
  refine es_blk (pc' := 7) (L' := [some (.ref 1), some (.ref p0), some (.ref p1)]) (st' := [.ref p0, .ref p1]) [(.aload_n 2, 0), (.aload_n 1, 0)] (by decide +kernel) rfl rfl ?_
  refine ef_getI (k := p0) (j := 0) (eh_H0sh hp0) eL_5_139 (by decide) (by decide +kernel) ?_
  refine ef_putI (k := p1) (j := 7) (eh_F0sh hp1) eL_5_142 rfl rfl (by decide +kernel) ?_
  refine ef_V (fun _ => [some (.ref 1), some (.ref p0), some (.ref p1)]) (fun _ => []) (fun s2 => eh_FW s2) (fun s2 => ?_)
  refine es_blk (pc' := 15) (L' := [some (.ref 1), some (.ref p0), some (.ref p1)]) (st' := [.ref p1, .ref p0]) [(.aload_n 1, 0), (.aload_n 2, 0)] (by decide +kernel) rfl rfl ?_
  refine ef_getI (k := p1) (j := 0) (eh_F0sh hp1) eL_5_145 (by decide) (by decide +kernel) ?_
  refine ef_putI (k := p0) (j := 5) (eh_H0sh hp0) eL_5_146 rfl rfl (by decide +kernel) ?_
  refine ef_V (fun _ => [some (.ref 1), some (.ref p0), some (.ref p1)]) (fun _ => []) (fun s3 => eh_FW s3) (fun s3 => ?_)
  refine es_blk (pc' := 23) (L' := [some (.ref 1), some (.ref p0), some (.ref p1)]) (st' := [.int 0, .ref p0]) [(.aload_n 1, 0), (.iconst 0, 0)] (by decide +kernel) rfl rfl ?_
  refine ef_putZc (k := p0) (j := 4) (eh_H0sh hp0) eL_5_149 rfl rfl (by decide) (by decide +kernel) ?_
  refine ef_V (fun _ => [some (.ref 1), some (.ref p0), some (.ref p1)]) (fun _ => []) (fun s4 => eh_FW s4) (fun s4 => ?_)
  refine es_blk (pc' := 28) (L' := [some (.ref 1), some (.ref p0), some (.ref p1)]) (st' := [.ref p0, .ref p0]) [(.aload_n 1, 0), (.aload_n 1, 0)] (by decide +kernel) rfl rfl ?_
  refine ef_getI (k := p0) (j := 6) (eh_H0sh hp0) eL_5_152 (by decide) (by decide +kernel) ?_
  refine ef_putI (k := p0) (j := 7) (eh_H0sh hp0) eL_5_155 rfl rfl (by decide +kernel) ?_
  refine ef_V (fun _ => [some (.ref 1), some (.ref p0), some (.ref p1)]) (fun _ => []) (fun s5 => eh_FW s5) (fun s5 => ?_)
  refine es_blk (pc' := 36) (L' := [some (.ref 1), some (.ref p0), some (.ref p1)]) (st' := [.int 0, .ref p0]) [(.aload_n 1, 0), (.iconst 0, 0)] (by decide +kernel) rfl rfl ?_
  refine ef_putI (k := p0) (j := 8) (eh_H0sh hp0) eL_5_158 rfl rfl (by decide +kernel) ?_
  refine ef_V (fun _ => [some (.ref 1), some (.ref p0), some (.ref p1)]) (fun _ => []) (fun s6 => eh_FW s6) (fun s6 => ?_)
  refine es_blk (pc' := 40) (L' := [some (.ref 1), some (.ref p0), some (.ref p1)]) (st' := [.ref 1]) [(.aload_n 0, 0)] (by decide +kernel) rfl rfl ?_
  refine ef_getP (k := 1) (j := 0) (q := 2) rfl eL_5_12 rfl rfl rfl (by decide +kernel) ?_
  refine es_blk (pc' := 44) (L' := [some (.ref 1), some (.ref p0), some (.ref p1)]) (st' := [.ref p0, .ref 2]) [(.aload_n 1, 0)] (by decide +kernel) rfl rfl ?_
  refine ef_getI (k := p0) (j := 0) (eh_H0sh hp0) eL_5_139 (by decide) (by decide +kernel) ?_
  refine ef_veV (d := 1) (k := 2) (As := [.int (s6.1 p0 0)]) (st := []) eV_6_unreserve eK_5_161 (eS_6_unreserve g s6 (s6.1 p0 0)) rfl rfl (Nat.le_of_ble_eq_true rfl) rfl (Nat.le_of_ble_eq_true rfl) ⟨Nat.le_of_ble_eq_true rfl, Nat.le_of_ble_eq_true rfl⟩ ⟨Nat.le_refl _, Nat.le_refl _⟩ (by decide +kernel) (fun q7 _ => ?_)
  exact es_ret rfl rfl rfl ⟨by decide +kernel, rfl⟩ (Nat.le_refl _) (Nat.le_refl _)
def eF_5_cease (s : eh_F) (p0 : Nat) (p1 : Nat) (p2 : Int32) (p3 : Int32) (p4 : Int32) : Option (eh_F) := eh_V (eh_tI s p1 6 p2) (fun s1 => eh_V (eh_tI s1 p1 7 (-1)) (fun s2 => eh_V (eh_tI s2 p0 5 (-1)) (fun s3 => eh_V (eh_tI s3 (p0 + 1) 10 p3) (fun s4 => eh_V (eh_tI s4 (p0 + 1) 11 p4) (fun s5 => eh_V (eh_tI s5 (p0 + 1) 12 (s5.1 p1 0)) (fun s6 => Option.bind (eF_6_unreserve s6 (s6.1 p0 0)) (fun q7 => some q7)))))))
set_option maxHeartbeats 4000000 in
set_option maxRecDepth 100000 in
theorem eS_5_cease (g : eh_P) (s : eh_F) (p0 : Nat) (p1 : Nat) (p2 : Int32) (p3 : Int32) (p4 : Int32) (hp0 : eh_okH p0 = true) (hp1 : eh_okF p1 = true) : eh_Sim g eM_5_cease (eh_R 2 0 0) eh_eV 0 0 0 (eh_en 6 [.ref 1, .ref p0, .ref p1, .int p2, .int p3, .int p4]) [] (eh_FW s) (eF_5_cease s p0 p1 p2 p3 p4) := by
  unfold eF_5_cease
  refine ef_top (L := [some (.ref 1), some (.ref p0), some (.ref p1), some (.int p2), some (.int p3), some (.int p4)]) rfl ?_
  refine es_blk (pc' := 2) (L' := [some (.ref 1), some (.ref p0), some (.ref p1), some (.int p2), some (.int p3), some (.int p4)]) (st' := [.int p2, .ref p1]) [(.aload_n 2, 0), (.iload_n 3, 0)] (by decide +kernel) rfl rfl ?_
  refine ef_putI (k := p1) (j := 6) (eh_F0sh hp1) eL_5_99 rfl rfl (by decide +kernel) ?_
  refine ef_V (fun _ => [some (.ref 1), some (.ref p0), some (.ref p1), some (.int p2), some (.int p3), some (.int p4)]) (fun _ => []) (fun s1 => eh_FW s1) (fun s1 => ?_)
  refine es_blk (pc' := 7) (L' := [some (.ref 1), some (.ref p0), some (.ref p1), some (.int p2), some (.int p3), some (.int p4)]) (st' := [.int (-1), .ref p1]) [(.aload_n 2, 0), (.iconst (-1), (-1))] (by decide +kernel) rfl rfl ?_
  refine ef_putI (k := p1) (j := 7) (eh_F0sh hp1) eL_5_142 rfl rfl (by decide +kernel) ?_
  refine ef_V (fun _ => [some (.ref 1), some (.ref p0), some (.ref p1), some (.int p2), some (.int p3), some (.int p4)]) (fun _ => []) (fun s2 => eh_FW s2) (fun s2 => ?_)
  refine es_blk (pc' := 12) (L' := [some (.ref 1), some (.ref p0), some (.ref p1), some (.int p2), some (.int p3), some (.int p4)]) (st' := [.int (-1), .ref p0]) [(.aload_n 1, 0), (.iconst (-1), (-1))] (by decide +kernel) rfl rfl ?_
  refine ef_putI (k := p0) (j := 5) (eh_H0sh hp0) eL_5_146 rfl rfl (by decide +kernel) ?_
  refine ef_V (fun _ => [some (.ref 1), some (.ref p0), some (.ref p1), some (.int p2), some (.int p3), some (.int p4)]) (fun _ => []) (fun s3 => eh_FW s3) (fun s3 => ?_)
  refine es_blk (pc' := 16) (L' := [some (.ref 1), some (.ref p0), some (.ref p1), some (.int p2), some (.int p3), some (.int p4)]) (st' := [.ref p0]) [(.aload_n 1, 0)] (by decide +kernel) rfl rfl ?_
  refine ef_getP (k := p0) (j := 1) (q := (p0 + 1)) (eh_H0sh hp0) eL_5_164 rfl (eh_Hx hp0 _) (eh_H1sh hp0) (by decide +kernel) ?_
  refine es_blk (pc' := 23) (L' := [some (.ref 1), some (.ref p0), some (.ref p1), some (.int p2), some (.int p3), some (.int p4)]) (st' := [.int p3, .int 10, .ref (p0 + 1)]) [(.bipush 10, 10), (.iload 4, 0)] (by decide +kernel) rfl rfl ?_
  refine ef_astc (k := (p0 + 1)) (j := 10) (eh_H1sh hp0) (by decide) rfl (by decide +kernel) ?_
  refine ef_V (fun _ => [some (.ref 1), some (.ref p0), some (.ref p1), some (.int p2), some (.int p3), some (.int p4)]) (fun _ => []) (fun s4 => eh_FW s4) (fun s4 => ?_)
  refine es_blk (pc' := 25) (L' := [some (.ref 1), some (.ref p0), some (.ref p1), some (.int p2), some (.int p3), some (.int p4)]) (st' := [.ref p0]) [(.aload_n 1, 0)] (by decide +kernel) rfl rfl ?_
  refine ef_getP (k := p0) (j := 1) (q := (p0 + 1)) (eh_H0sh hp0) eL_5_164 rfl (eh_Hx hp0 _) (eh_H1sh hp0) (by decide +kernel) ?_
  refine es_blk (pc' := 32) (L' := [some (.ref 1), some (.ref p0), some (.ref p1), some (.int p2), some (.int p3), some (.int p4)]) (st' := [.int p4, .int 11, .ref (p0 + 1)]) [(.bipush 11, 11), (.iload 5, 0)] (by decide +kernel) rfl rfl ?_
  refine ef_astc (k := (p0 + 1)) (j := 11) (eh_H1sh hp0) (by decide) rfl (by decide +kernel) ?_
  refine ef_V (fun _ => [some (.ref 1), some (.ref p0), some (.ref p1), some (.int p2), some (.int p3), some (.int p4)]) (fun _ => []) (fun s5 => eh_FW s5) (fun s5 => ?_)
  refine es_blk (pc' := 34) (L' := [some (.ref 1), some (.ref p0), some (.ref p1), some (.int p2), some (.int p3), some (.int p4)]) (st' := [.ref p0]) [(.aload_n 1, 0)] (by decide +kernel) rfl rfl ?_
  refine ef_getP (k := p0) (j := 1) (q := (p0 + 1)) (eh_H0sh hp0) eL_5_164 rfl (eh_Hx hp0 _) (eh_H1sh hp0) (by decide +kernel) ?_
  refine es_blk (pc' := 40) (L' := [some (.ref 1), some (.ref p0), some (.ref p1), some (.int p2), some (.int p3), some (.int p4)]) (st' := [.ref p1, .int 12, .ref (p0 + 1)]) [(.bipush 12, 12), (.aload_n 2, 0)] (by decide +kernel) rfl rfl ?_
  refine ef_getI (k := p1) (j := 0) (eh_F0sh hp1) eL_5_145 (by decide) (by decide +kernel) ?_
  refine ef_astc (k := (p0 + 1)) (j := 12) (eh_H1sh hp0) (by decide) rfl (by decide +kernel) ?_
  refine ef_V (fun _ => [some (.ref 1), some (.ref p0), some (.ref p1), some (.int p2), some (.int p3), some (.int p4)]) (fun _ => []) (fun s6 => eh_FW s6) (fun s6 => ?_)
  refine es_blk (pc' := 45) (L' := [some (.ref 1), some (.ref p0), some (.ref p1), some (.int p2), some (.int p3), some (.int p4)]) (st' := [.ref 1]) [(.aload_n 0, 0)] (by decide +kernel) rfl rfl ?_
  refine ef_getP (k := 1) (j := 0) (q := 2) rfl eL_5_12 rfl rfl rfl (by decide +kernel) ?_
  refine es_blk (pc' := 49) (L' := [some (.ref 1), some (.ref p0), some (.ref p1), some (.int p2), some (.int p3), some (.int p4)]) (st' := [.ref p0, .ref 2]) [(.aload_n 1, 0)] (by decide +kernel) rfl rfl ?_
  refine ef_getI (k := p0) (j := 0) (eh_H0sh hp0) eL_5_139 (by decide) (by decide +kernel) ?_
  refine ef_veV (d := 1) (k := 2) (As := [.int (s6.1 p0 0)]) (st := []) eV_6_unreserve eK_5_161 (eS_6_unreserve g s6 (s6.1 p0 0)) rfl rfl (Nat.le_of_ble_eq_true rfl) rfl (Nat.le_of_ble_eq_true rfl) ⟨Nat.le_of_ble_eq_true rfl, Nat.le_of_ble_eq_true rfl⟩ ⟨Nat.le_refl _, Nat.le_refl _⟩ (by decide +kernel) (fun q7 _ => ?_)
  exact es_ret rfl rfl rfl ⟨by decide +kernel, rfl⟩ (Nat.le_refl _) (Nat.le_refl _)
def eF_5_countUp (s : eh_F) (p0 np0 : Nat) : Option (Int32 × eh_F) := Option.bind (eh_loop (fun (r10 : (Int32) → Option ((Unit) ⊕ (Int32))) (t1 : Int32) => if t1 < (s.1 1 12) then (if t1 < 8 then (Option.bind (eF_5_isCounted s t1 p0 np0) (fun q13 => if q13 = 0 then (eh_V ((t1 + 1) : Int32) (fun x15 => r10 x15)) else (some (.inr t1)))) else (some (.inl ()))) else (some (.inl ()))) eh_FU 0) (Sum.elim (fun (e2 : Unit) => if (s.1 1 12) < 8 then (if eh_cok 0 ((s.1 1 12) * 8) 8 np0 64 then eh_V (eh_tF s 39 (va_cpy (s.1 p0) (s.1 39) (eh_ix 0) (eh_ix ((s.1 1 12) * 8)) (eh_ix 8))) (fun s4 => if eh_in (s4.1 1 12) 8 then eh_V (eh_tI s4 40 (eh_ix (s4.1 1 12)) 1) (fun s5 => eh_V (eh_tI s5 1 12 ((s5.1 1 12) + 1)) (fun s6 => some (1, s6))) else none) else none) else (some ((-5), s))) (fun (e7 : Int32) => if eh_in e7 8 then if eh_in e7 8 then eh_V (eh_tI s 40 (eh_ix e7) ((s.1 40 (eh_ix e7)) + 1)) (fun s8 => if eh_in e7 8 then some ((s8.1 40 (eh_ix e7)), s8) else none) else none else none))
set_option maxHeartbeats 4000000 in
set_option maxRecDepth 100000 in
theorem eS_5_countUp (g : eh_P) (s : eh_F) (p0 np0 : Nat) (hp0 : eh_SH[p0]? = some (100, np0)) : eh_Sim g eM_5_countUp (eh_R 2 0 0) eh_eI 0 0 0 (eh_en 3 [.ref 1, .ref p0]) [] (eh_FW s) (eF_5_countUp s p0 np0) := by
  unfold eF_5_countUp
  refine ef_top (L := [some (.ref 1), some (.ref p0), none]) rfl ?_
  refine es_blk (pc' := 2) (L' := [some (.ref 1), some (.ref p0), some (.int 0)]) (st' := []) [(.iconst 0, 0), (.istore_n 2, 0)] (by decide +kernel) rfl rfl ?_
  refine ef_loop2 (n := eh_FU) (i := 0) (px := 48) (px2 := 25) (fun (t1 : Int32) => [some (.ref 1), some (.ref p0), some (.int t1)]) (fun (t1 : Int32) => []) (fun (t1 : Int32) => eh_FW s) (fun (e2 : Unit) => [some (.ref 1), some (.ref p0), none]) (fun (e2 : Unit) => []) (fun (e2 : Unit) => eh_FW s) (fun (e7 : Int32) => [some (.ref 1), none, some (.int e7)]) (fun (e7 : Int32) => []) (fun (e7 : Int32) => eh_FW s) (fun e2 => ?_) (fun e7 => ?_) (fun K9 HxK9_0 HxK9_1 r10 Hr10 t1 => ?_)
  · refine es_blk (pc' := 49) (L' := [some (.ref 1), some (.ref p0), none]) (st' := [.ref 1]) [(.aload_n 0, 0)] (by decide +kernel) rfl rfl ?_
    refine ef_getI (k := 1) (j := 12) rfl eL_5_189 (by decide) (by decide +kernel) ?_
    refine es_blk (pc' := 54) (L' := [some (.ref 1), some (.ref p0), none]) (st' := [.int 8, .int (s.1 1 12)]) [(.bipush 8, 8)] (by decide +kernel) rfl rfl ?_
    refine es_ilt (tgt := 60) (off := (6)) (by decide +kernel) (by decide) (fun h3 => ?_) (fun h3 => ?_)
    · refine es_blk (pc' := 63) (L' := [some (.ref 1), some (.ref p0), none]) (st' := [.ref 1, .int 0, .ref p0]) [(.aload_n 1, 0), (.iconst 0, 0), (.aload_n 0, 0)] (by decide +kernel) rfl rfl ?_
      refine ef_getP (k := 1) (j := 15) (q := 39) rfl eL_5_69 rfl rfl rfl (by decide +kernel) ?_
      refine es_blk (pc' := 67) (L' := [some (.ref 1), some (.ref p0), none]) (st' := [.ref 1, .ref 39, .int 0, .ref p0]) [(.aload_n 0, 0)] (by decide +kernel) rfl rfl ?_
      refine ef_getI (k := 1) (j := 12) rfl eL_5_189 (by decide) (by decide +kernel) ?_
      refine es_blk (pc' := 75) (L' := [some (.ref 1), some (.ref p0), none]) (st' := [.int 8, .int ((s.1 1 12) * 8), .ref 39, .int 0, .ref p0]) [(.bipush 8, 8), (.imul, 0), (.bipush 8, 8)] (by decide +kernel) rfl rfl ?_
      refine ef_copyI (k0 := p0) (k1 := 39) hp0 rfl eK_5_196 eh_acN eh_acS eh_acI ⟨Nat.le_of_ble_eq_true rfl, Nat.le_of_ble_eq_true rfl⟩ (Nat.le_of_ble_eq_true rfl) (by decide +kernel) (fun _ => ?_)
      refine ef_V (fun _ => [some (.ref 1), some (.ref p0), none]) (fun _ => []) (fun s4 => eh_FW s4) (fun s4 => ?_)
      refine es_blk (pc' := 79) (L' := [some (.ref 1), some (.ref p0), none]) (st' := [.ref 1]) [(.aload_n 0, 0)] (by decide +kernel) rfl rfl ?_
      refine ef_getP (k := 1) (j := 16) (q := 40) rfl eL_5_72 rfl rfl rfl (by decide +kernel) ?_
      refine es_blk (pc' := 83) (L' := [some (.ref 1), some (.ref p0), none]) (st' := [.ref 1, .ref 40]) [(.aload_n 0, 0)] (by decide +kernel) rfl rfl ?_
      refine ef_getI (k := 1) (j := 12) rfl eL_5_189 (by decide) (by decide +kernel) ?_
      refine es_blk (pc' := 87) (L' := [some (.ref 1), some (.ref p0), none]) (st' := [.int 1, .int (s4.1 1 12), .ref 40]) [(.iconst 1, 1)] (by decide +kernel) rfl rfl ?_
      refine ef_ast (k := 40) rfl (by decide +kernel) (fun _ => ?_)
      refine ef_V (fun _ => [some (.ref 1), some (.ref p0), none]) (fun _ => []) (fun s5 => eh_FW s5) (fun s5 => ?_)
      refine es_blk (pc' := 90) (L' := [some (.ref 1), some (.ref p0), none]) (st' := [.ref 1, .ref 1]) [(.aload_n 0, 0), (.dup, 0)] (by decide +kernel) rfl rfl ?_
      refine ef_getI (k := 1) (j := 12) rfl eL_5_189 (by decide) (by decide +kernel) ?_
      refine es_blk (pc' := 95) (L' := [some (.ref 1), some (.ref p0), none]) (st' := [.int ((s5.1 1 12) + 1), .ref 1]) [(.iconst 1, 1), (.iadd, 0)] (by decide +kernel) rfl rfl ?_
      refine ef_putI (k := 1) (j := 12) rfl eL_5_189 rfl rfl (by decide +kernel) ?_
      refine ef_V (fun _ => [some (.ref 1), some (.ref p0), none]) (fun _ => []) (fun s6 => eh_FW s6) (fun s6 => ?_)
      refine es_blk (pc' := 99) (L' := [some (.ref 1), some (.ref p0), none]) (st' := [.int 1]) [(.iconst 1, 1)] (by decide +kernel) rfl rfl ?_
      exact es_ret rfl rfl rfl ⟨by decide +kernel, _, rfl, rfl⟩ (Nat.le_refl _) (Nat.le_refl _)
    refine es_blk (pc' := 59) (L' := [some (.ref 1), some (.ref p0), none]) (st' := [.int (-5)]) [(.bipush (-5), (-5))] (by decide +kernel) rfl rfl ?_
    exact es_ret rfl rfl rfl ⟨by decide +kernel, _, rfl, rfl⟩ (Nat.le_refl _) (Nat.le_refl _)
  · refine es_blk (pc' := 26) (L' := [some (.ref 1), none, some (.int e7)]) (st' := [.ref 1]) [(.aload_n 0, 0)] (by decide +kernel) rfl rfl ?_
    refine ef_getP (k := 1) (j := 16) (q := 40) rfl eL_5_72 rfl rfl rfl (by decide +kernel) ?_
    refine es_blk (pc' := 31) (L' := [some (.ref 1), none, some (.int e7)]) (st' := [.int e7, .ref 40, .int e7, .ref 40]) [(.iload_n 2, 0), (.dup2, 0)] (by decide +kernel) rfl rfl ?_
    refine ef_ald (k := 40) rfl (Or.inl ⟨rfl, rfl⟩) (by decide +kernel) (fun _ => ?_)
    refine es_blk (pc' := 34) (L' := [some (.ref 1), none, some (.int e7)]) (st' := [.int ((s.1 40 (eh_ix e7)) + 1), .int e7, .ref 40]) [(.iconst 1, 1), (.iadd, 0)] (by decide +kernel) rfl rfl ?_
    refine ef_ast (k := 40) rfl (by decide +kernel) (fun _ => ?_)
    refine ef_V (fun _ => [some (.ref 1), none, some (.int e7)]) (fun _ => []) (fun s8 => eh_FW s8) (fun s8 => ?_)
    refine es_blk (pc' := 36) (L' := [some (.ref 1), none, some (.int e7)]) (st' := [.ref 1]) [(.aload_n 0, 0)] (by decide +kernel) rfl rfl ?_
    refine ef_getP (k := 1) (j := 16) (q := 40) rfl eL_5_72 rfl rfl rfl (by decide +kernel) ?_
    refine es_blk (pc' := 40) (L' := [some (.ref 1), none, some (.int e7)]) (st' := [.int e7, .ref 40]) [(.iload_n 2, 0)] (by decide +kernel) rfl rfl ?_
    refine ef_ald (k := 40) rfl (Or.inl ⟨rfl, rfl⟩) (by decide +kernel) (fun _ => ?_)
    exact es_ret rfl rfl rfl ⟨by decide +kernel, _, rfl, rfl⟩ (Nat.le_refl _) (Nat.le_refl _)
  · refine es_blk (pc' := 4) (L' := [some (.ref 1), some (.ref p0), some (.int t1)]) (st' := [.ref 1, .int t1]) [(.iload_n 2, 0), (.aload_n 0, 0)] (by decide +kernel) rfl rfl ?_
    refine ef_getI (k := 1) (j := 12) rfl eL_5_189 (by decide) (by decide +kernel) ?_
    refine es_ige (tgt := 48) (off := (41)) (by decide +kernel) (by decide) (fun h11 => ?_) (fun h11 => ?_)
    · refine es_blk (pc' := 13) (L' := [some (.ref 1), some (.ref p0), some (.int t1)]) (st' := [.int 8, .int t1]) [(.iload_n 2, 0), (.bipush 8, 8)] (by decide +kernel) rfl rfl ?_
      refine es_ige (tgt := 48) (off := (35)) (by decide +kernel) (by decide) (fun h12 => ?_) (fun h12 => ?_)
      · refine es_blk (pc' := 19) (L' := [some (.ref 1), some (.ref p0), some (.int t1)]) (st' := [.ref p0, .int t1, .ref 1]) [(.aload_n 0, 0), (.iload_n 2, 0), (.aload_n 1, 0)] (by decide +kernel) rfl rfl ?_
        refine ef_vpI (d := 1) (k := 1) (As := [.int t1, .ref p0]) (st := []) eV_5_isCounted eK_5_192 (eS_5_isCounted g s t1 p0 np0 hp0) rfl rfl (Nat.le_of_ble_eq_true rfl) rfl (Nat.le_of_ble_eq_true rfl) ⟨Nat.le_of_ble_eq_true rfl, Nat.le_of_ble_eq_true rfl⟩ ⟨Nat.le_refl _, Nat.le_refl _⟩ (by decide +kernel) (fun q13 _ => ?_)
        refine es_eq (tgt := 42) (off := (20)) (by decide +kernel) (by decide) (fun h14 => ?_) (fun h14 => ?_)
        · refine es_blk (pc' := 45) (L' := [some (.ref 1), some (.ref p0), some (.int (t1 + 1))]) (st' := []) [(.iinc 2 1, 1)] (by decide +kernel) rfl rfl ?_
          refine ef_V (fun x15 => [some (.ref 1), some (.ref p0), some (.int x15)]) (fun _ => []) (fun _ => eh_FW s) (fun x15 => ?_)
          refine es_goto (tgt := 2) (off := (-43)) (by decide +kernel) (by decide) ?_
          exact Hr10 x15
        refine ef_drop (L2 := [some (.ref 1), none, some (.int t1)]) [true, false, true] rfl rfl ?_
        exact HxK9_1 t1
      refine ef_drop (L2 := [some (.ref 1), some (.ref p0), none]) [true, true, false] rfl rfl ?_
      exact HxK9_0 ()
    refine ef_drop (L2 := [some (.ref 1), some (.ref p0), none]) [true, true, false] rfl rfl ?_
    exact HxK9_0 ()
def eF_6_clear (s : eh_F)  : Option (eh_F) := Option.bind (eF_23_fill s 9 32768 0) (fun q1 => Option.bind (eF_23_fill q1 10 512 (-1)) (fun q2 => Option.bind (eF_23_fill q2 3 12 0) (fun q3 => Option.bind (eF_23_fill q3 11 2 (-1)) (fun q4 => some q4))))
set_option maxHeartbeats 4000000 in
set_option maxRecDepth 100000 in
theorem eS_6_clear (g : eh_P) (s : eh_F)  : eh_Sim g eM_6_clear (eh_R 2 0 0) eh_eV 0 0 0 (eh_en 1 [.ref 2]) [] (eh_FW s) (eF_6_clear s) := by
  unfold eF_6_clear
  refine ef_top (L := [some (.ref 2)]) rfl ?_
  refine es_blk (pc' := 1) (L' := [some (.ref 2)]) (st' := [.ref 2]) [(.aload_n 0, 0)] (by decide +kernel) rfl rfl ?_
  refine ef_getP (k := 2) (j := 6) (q := 9) rfl eL_6_31 rfl rfl rfl (by decide +kernel) ?_
  refine es_blk (pc' := 5) (L' := [some (.ref 2)]) (st' := [.int 0, .ref 9]) [(.iconst 0, 0)] (by decide +kernel) rfl rfl ?_
  refine ef_seV (d := 1) (As := [.ref 9, .int 0]) (st := []) eV_23_fill eK_6_40 (eS_23_fill g s 9 32768 0 rfl) rfl (Nat.le_of_ble_eq_true rfl) rfl (Nat.le_of_ble_eq_true rfl) ⟨Nat.le_of_ble_eq_true rfl, Nat.le_of_ble_eq_true rfl⟩ ⟨Nat.le_refl _, Nat.le_refl _⟩ (by decide +kernel) (fun q1 _ => ?_)
  refine es_blk (pc' := 9) (L' := [some (.ref 2)]) (st' := [.ref 2]) [(.aload_n 0, 0)] (by decide +kernel) rfl rfl ?_
  refine ef_getP (k := 2) (j := 7) (q := 10) rfl eL_6_34 rfl rfl rfl (by decide +kernel) ?_
  refine es_blk (pc' := 13) (L' := [some (.ref 2)]) (st' := [.int (-1), .ref 10]) [(.iconst (-1), (-1))] (by decide +kernel) rfl rfl ?_
  refine ef_seV (d := 1) (As := [.ref 10, .int (-1)]) (st := []) eV_23_fill eK_6_40 (eS_23_fill g q1 10 512 (-1) rfl) rfl (Nat.le_of_ble_eq_true rfl) rfl (Nat.le_of_ble_eq_true rfl) ⟨Nat.le_of_ble_eq_true rfl, Nat.le_of_ble_eq_true rfl⟩ ⟨Nat.le_refl _, Nat.le_refl _⟩ (by decide +kernel) (fun q2 _ => ?_)
  refine es_blk (pc' := 17) (L' := [some (.ref 2)]) (st' := [.ref 2]) [(.aload_n 0, 0)] (by decide +kernel) rfl rfl ?_
  refine ef_getP (k := 2) (j := 0) (q := 3) rfl eL_6_11 rfl rfl rfl (by decide +kernel) ?_
  refine es_blk (pc' := 21) (L' := [some (.ref 2)]) (st' := [.int 0, .ref 3]) [(.iconst 0, 0)] (by decide +kernel) rfl rfl ?_
  refine ef_seV (d := 1) (As := [.ref 3, .int 0]) (st := []) eV_23_fill eK_6_40 (eS_23_fill g q2 3 12 0 rfl) rfl (Nat.le_of_ble_eq_true rfl) rfl (Nat.le_of_ble_eq_true rfl) ⟨Nat.le_of_ble_eq_true rfl, Nat.le_of_ble_eq_true rfl⟩ ⟨Nat.le_refl _, Nat.le_refl _⟩ (by decide +kernel) (fun q3 _ => ?_)
  refine es_blk (pc' := 25) (L' := [some (.ref 2)]) (st' := [.ref 2]) [(.aload_n 0, 0)] (by decide +kernel) rfl rfl ?_
  refine ef_getP (k := 2) (j := 8) (q := 11) rfl eL_6_37 rfl rfl rfl (by decide +kernel) ?_
  refine es_blk (pc' := 29) (L' := [some (.ref 2)]) (st' := [.int (-1), .ref 11]) [(.iconst (-1), (-1))] (by decide +kernel) rfl rfl ?_
  refine ef_seV (d := 1) (As := [.ref 11, .int (-1)]) (st := []) eV_23_fill eK_6_40 (eS_23_fill g q3 11 2 (-1) rfl) rfl (Nat.le_of_ble_eq_true rfl) rfl (Nat.le_of_ble_eq_true rfl) ⟨Nat.le_of_ble_eq_true rfl, Nat.le_of_ble_eq_true rfl⟩ ⟨Nat.le_refl _, Nat.le_refl _⟩ (by decide +kernel) (fun q4 _ => ?_)
  exact es_ret rfl rfl rfl ⟨by decide +kernel, rfl⟩ (Nat.le_refl _) (Nat.le_refl _)
def eF_6_byteAt (s : eh_F) (p0 : Int32) : Option (Int32) := Option.bind (eF_6_wordAt s p0) (fun q1 => some ((eh_ushr q1 (8 * (p0 &&& 3))) &&& 255))
set_option maxHeartbeats 4000000 in
set_option maxRecDepth 100000 in
theorem eS_6_byteAt (g : eh_P) (s : eh_F) (p0 : Int32) : eh_Sim g eM_6_byteAt (eh_R 2 0 0) (eh_pI s) 0 0 0 (eh_en 2 [.ref 2, .int p0]) [] (eh_FW s) (eF_6_byteAt s p0) := by
  unfold eF_6_byteAt
  refine ef_top (L := [some (.ref 2), some (.int p0)]) rfl ?_
  refine es_blk (pc' := 2) (L' := [some (.ref 2), some (.int p0)]) (st' := [.int p0, .ref 2]) [(.aload_n 0, 0), (.iload_n 1, 0)] (by decide +kernel) rfl rfl ?_
  refine ef_vpI (d := 1) (k := 2) (As := [.int p0]) (st := []) eV_6_wordAt eK_6_47 (eS_6_wordAt g s p0) rfl rfl (Nat.le_of_ble_eq_true rfl) rfl (Nat.le_of_ble_eq_true rfl) ⟨Nat.le_of_ble_eq_true rfl, Nat.le_of_ble_eq_true rfl⟩ ⟨Nat.le_refl _, Nat.le_refl _⟩ (by decide +kernel) (fun q1 _ => ?_)
  refine es_blk (pc' := 16) (L' := [some (.ref 2), some (.int p0)]) (st' := [.int ((eh_ushr q1 (8 * (p0 &&& 3))) &&& 255)]) [(.bipush 8, 8), (.iload_n 1, 0), (.iconst 3, 3), (.iand, 0), (.imul, 0), (.iushr, 0), (.sipush 255, 255), (.iand, 0)] (by decide +kernel) rfl rfl ?_
  exact es_ret rfl rfl rfl ⟨by decide +kernel, _, rfl, rfl⟩ (Nat.le_refl _) (Nat.le_refl _)
def eF_6_areOpen (s : eh_F) (p0 : Int32) (p1 : Int32) : Option (Int32) := eh_J (fun (u2 : Unit) => some 0) (fun j1 => if p0 < 0 then (j1 ()) else (if 0 < p1 then (if (131072 - p0) < p1 then (j1 ()) else (eh_V ((eh_shr ((p0 + p1) - 1) 8) : Int32) (fun x6 => eh_V ((eh_shr p0 8) : Int32) (fun x7 => Option.bind (eh_loop (fun (r12 : (Int32) → Option ((Unit) ⊕ (Unit))) (t8 : Int32) => if x6 < t8 then (some (.inl ())) else (Option.bind (eF_6_isOpen s ((eh_shl t8 8).toInt64)) (fun q14 => if q14 = 0 then (some (.inr ())) else (eh_V ((t8 + 1) : Int32) (fun x16 => r12 x16))))) eh_FU x7) (Sum.elim (fun (e9 : Unit) => some 1) (fun (e10 : Unit) => some 0)))))) else (j1 ())))
set_option maxHeartbeats 4000000 in
set_option maxRecDepth 100000 in
theorem eS_6_areOpen (g : eh_P) (s : eh_F) (p0 : Int32) (p1 : Int32) : eh_Sim g eM_6_areOpen (eh_R 2 0 0) (eh_pI s) 0 0 0 (eh_en 5 [.ref 2, .int p0, .int p1]) [] (eh_FW s) (eF_6_areOpen s p0 p1) := by
  unfold eF_6_areOpen
  refine ef_top (L := [some (.ref 2), some (.int p0), some (.int p1), none, none]) rfl ?_
  refine es_blk (pc' := 1) (L' := [some (.ref 2), some (.int p0), some (.int p1), none, none]) (st' := [.int p0]) [(.iload_n 1, 0)] (by decide +kernel) rfl rfl ?_
  refine ef_J (X := fun j1 => ∀ (u2 : Unit), eh_Sim g eM_6_areOpen (eh_R 2 0 0) (eh_pI s) 0 0 16 [none, none, none, none, none] [] (eh_FW s) ((j1 u2).bind some)) ?_ (fun j1 Hj1 => ?_)
  · intro u2
    refine es_blk (pc' := 17) (L' := [none, none, none, none, none]) (st' := [.int 0]) [(.iconst 0, 0)] (by decide +kernel) rfl rfl ?_
    exact es_ret rfl rfl rfl ⟨by decide +kernel, _, rfl, eh_narZ (Or.inl rfl)⟩ (Nat.le_refl _) (Nat.le_refl _)
  refine es_lt (tgt := 16) (off := (15)) (by decide +kernel) (by decide) (fun h3 => ?_) (fun h3 => ?_)
  · refine ef_drop (L2 := [none, none, none, none, none]) [false, false, false, true, true] rfl rfl ?_
    exact Hj1 ()
  refine es_blk (pc' := 5) (L' := [some (.ref 2), some (.int p0), some (.int p1), none, none]) (st' := [.int p1]) [(.iload_n 2, 0)] (by decide +kernel) rfl rfl ?_
  refine es_le (tgt := 16) (off := (11)) (by decide +kernel) (by decide) (fun h4 => ?_) (fun h4 => ?_)
  · refine es_blk (pc' := 9) (L' := [some (.ref 2), some (.int p0), some (.int p1), none, none]) (st' := [.int p1]) [(.iload_n 2, 0)] (by decide +kernel) rfl rfl ?_
    refine es_ldc (v := 131072) eC_6_46 (by decide +kernel) ?_
    refine es_blk (pc' := 13) (L' := [some (.ref 2), some (.int p0), some (.int p1), none, none]) (st' := [.int (131072 - p0), .int p1]) [(.iload_n 1, 0), (.isub, 0)] (by decide +kernel) rfl rfl ?_
    refine es_ile (tgt := 18) (off := (5)) (by decide +kernel) (by decide) (fun h5 => ?_) (fun h5 => ?_)
    · refine ef_drop (L2 := [none, none, none, none, none]) [false, false, false, true, true] rfl rfl ?_
      exact Hj1 ()
    refine es_blk (pc' := 27) (L' := [some (.ref 2), some (.int p0), some (.int p1), some (.int (eh_shr ((p0 + p1) - 1) 8)), none]) (st' := []) [(.iload_n 1, 0), (.iload_n 2, 0), (.iadd, 0), (.iconst 1, 1), (.isub, 0), (.bipush 8, 8), (.ishr, 0), (.istore_n 3, 0)] (by decide +kernel) rfl rfl ?_
    refine ef_V (fun x6 => [some (.ref 2), some (.int p0), some (.int p1), some (.int x6), none]) (fun _ => []) (fun _ => eh_FW s) (fun x6 => ?_)
    refine es_blk (pc' := 33) (L' := [some (.ref 2), some (.int p0), some (.int p1), some (.int x6), some (.int (eh_shr p0 8))]) (st' := []) [(.iload_n 1, 0), (.bipush 8, 8), (.ishr, 0), (.istore 4, 0)] (by decide +kernel) rfl rfl ?_
    refine ef_V (fun x7 => [some (.ref 2), some (.int p0), some (.int p1), some (.int x6), some (.int x7)]) (fun _ => []) (fun _ => eh_FW s) (fun x7 => ?_)
    refine ef_drop (L2 := [some (.ref 2), none, none, some (.int x6), some (.int x7)]) [true, false, false, true, true] rfl rfl ?_
    refine ef_loop2 (n := eh_FU) (i := x7) (px := 60) (px2 := 52) (fun (t8 : Int32) => [some (.ref 2), none, none, some (.int x6), some (.int t8)]) (fun (t8 : Int32) => []) (fun (t8 : Int32) => eh_FW s) (fun (e9 : Unit) => [none, none, none, none, none]) (fun (e9 : Unit) => []) (fun (e9 : Unit) => eh_FW s) (fun (e10 : Unit) => [none, none, none, none, none]) (fun (e10 : Unit) => []) (fun (e10 : Unit) => eh_FW s) (fun e9 => ?_) (fun e10 => ?_) (fun K11 HxK11_0 HxK11_1 r12 Hr12 t8 => ?_)
    · refine es_blk (pc' := 61) (L' := [none, none, none, none, none]) (st' := [.int 1]) [(.iconst 1, 1)] (by decide +kernel) rfl rfl ?_
      exact es_ret rfl rfl rfl ⟨by decide +kernel, _, rfl, eh_narZ (Or.inr rfl)⟩ (Nat.le_refl _) (Nat.le_refl _)
    · refine es_blk (pc' := 53) (L' := [none, none, none, none, none]) (st' := [.int 0]) [(.iconst 0, 0)] (by decide +kernel) rfl rfl ?_
      exact es_ret rfl rfl rfl ⟨by decide +kernel, _, rfl, eh_narZ (Or.inl rfl)⟩ (Nat.le_refl _) (Nat.le_refl _)
    · refine es_blk (pc' := 36) (L' := [some (.ref 2), none, none, some (.int x6), some (.int t8)]) (st' := [.int x6, .int t8]) [(.iload 4, 0), (.iload_n 3, 0)] (by decide +kernel) rfl rfl ?_
      refine es_igt (tgt := 60) (off := (24)) (by decide +kernel) (by decide) (fun h13 => ?_) (fun h13 => ?_)
      · refine ef_drop (L2 := [none, none, none, none, none]) [false, true, true, false, false] rfl rfl ?_
        exact HxK11_0 ()
      refine es_blk (pc' := 46) (L' := [some (.ref 2), none, none, some (.int x6), some (.int t8)]) (st' := [.long ((eh_shl t8 8).toInt64), .ref 2]) [(.aload_n 0, 0), (.iload 4, 0), (.bipush 8, 8), (.ishl, 0), (.i2l, 0)] (by decide +kernel) rfl rfl ?_
      refine ef_vpI (d := 1) (k := 2) (As := [.long ((eh_shl t8 8).toInt64)]) (st := []) eV_6_isOpen eK_6_51 (eS_6_isOpen g s ((eh_shl t8 8).toInt64)) rfl rfl (Nat.le_of_ble_eq_true rfl) rfl (Nat.le_of_ble_eq_true rfl) ⟨Nat.le_of_ble_eq_true rfl, Nat.le_of_ble_eq_true rfl⟩ ⟨Nat.le_refl _, Nat.le_refl _⟩ (by decide +kernel) (fun q14 _ => ?_)
      refine es_ne (tgt := 54) (off := (5)) (by decide +kernel) (by decide) (fun h15 => ?_) (fun h15 => ?_)
      · refine ef_drop (L2 := [none, none, none, none, none]) [false, true, true, false, false] rfl rfl ?_
        exact HxK11_1 ()
      refine es_blk (pc' := 57) (L' := [some (.ref 2), none, none, some (.int x6), some (.int (t8 + 1))]) (st' := []) [(.iinc 4 1, 1)] (by decide +kernel) rfl rfl ?_
      refine ef_V (fun x16 => [some (.ref 2), none, none, some (.int x6), some (.int x16)]) (fun _ => []) (fun _ => eh_FW s) (fun x16 => ?_)
      refine es_goto (tgt := 33) (off := (-24)) (by decide +kernel) (by decide) ?_
      exact Hr12 x16
  refine ef_drop (L2 := [none, none, none, none, none]) [false, false, false, true, true] rfl rfl ?_
  exact Hj1 ()
