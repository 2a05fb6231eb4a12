def eF_7_allows (s : eh_F) (p0 : Int32) (p1 : Int32) : Option (Int32) := eh_J (fun (a2 : Int32) => eh_J (fun (a4 : Int32) => eh_J (fun (a6 : Int32) => if eh_okH (s.2.2 4) then eh_J (fun (a9 : Int32) => eh_J (fun (a11 : Int32) => if a11 = 0 ∨ a11 = 1 then some a11 else none) (fun j10 => eh_J (fun (u14 : Unit) => j10 0) (fun j13 => if a4 = 0 then (j13 ()) else (if (p0 &&& 64) = 0 then (j13 ()) else (eh_J (fun (u18 : Unit) => j10 1) (fun j17 => if a9 = 0 then (if eh_okH (s.2.2 4) then eh_J (fun (a22 : Int32) => if a6 = a22 then (j17 ()) else (j13 ())) (fun j21 => if (s.1 (s.2.2 4) 3) = 0 then (j21 1) else (j21 0)) else none) else (j17 ()))))))) (fun j8 => eh_J (fun (u26 : Unit) => j8 0) (fun j25 => if (s.1 (s.2.2 4) 3) = 1 then (if p1 = 4 then (j25 ()) else (if eh_okH (s.2.2 4) then if ((s.1 (s.2.2 4) 9) &&& 262144) = 0 then (j25 ()) else (j8 1) else none)) else (j25 ()))) else none) (fun j5 => if (p0 &&& 16) = 0 then (j5 0) else (j5 1))) (fun j3 => if p1 = 4 then (eh_J (fun (a34 : Int32) => j3 a34) (fun j33 => if (p0 &&& 8) = 0 then (j33 0) else (j33 1))) else (eh_J (fun (a37 : Int32) => j3 a37) (fun j36 => if p1 = 1 then (j36 a2) else (eh_J (fun (u40 : Unit) => j36 0) (fun j39 => if (p0 &&& 4) = 0 then (j39 ()) else (if (p0 &&& 128) = 0 then (j39 ()) else (j36 1)))))))) (fun j1 => eh_J (fun (u44 : Unit) => j1 1) (fun j43 => if (p0 &&& 2) = 0 then (eh_J (fun (u47 : Unit) => j1 0) (fun j46 => if (p0 &&& 8) = 0 then (j46 ()) else (if eh_okH (s.2.2 4) then if ((s.1 (s.2.2 4) 9) &&& 524288) = 0 then (j46 ()) else (j43 ()) else none))) else (j43 ())))
set_option maxHeartbeats 4000000 in
set_option maxRecDepth 100000 in
theorem eS_7_allows (g : eh_P) (s : eh_F) (p0 : Int32) (p1 : Int32) : eh_Sim g eM_7_allows (eh_R 1 0 0) (eh_pI s) 0 0 0 (eh_en 7 [.ref 124, .int p0, .int p1]) [] (eh_FW s) (eF_7_allows s p0 p1) := by
  unfold eF_7_allows
  refine ef_top (L := [some (.ref 124), some (.int p0), some (.int p1), none, none, none, none]) rfl ?_
  refine es_blk (pc' := 3) (L' := [some (.ref 124), some (.int p0), some (.int p1), none, none, none, none]) (st' := [.int (p0 &&& 2)]) [(.iload_n 1, 0), (.iconst 2, 2), (.iand, 0)] (by decide +kernel) rfl rfl ?_
  refine ef_J (X := fun j1 => ∀ (a2 : Int32), eh_Sim g eM_7_allows (eh_R 1 0 0) (eh_pI s) 0 0 32 [some (.ref 124), some (.int p0), some (.int p1), none, none, none, none] [.int a2] (eh_FW s) ((j1 a2).bind some)) ?_ (fun j1 Hj1 => ?_)
  · intro a2
    refine es_blk (pc' := 35) (L' := [some (.ref 124), some (.int p0), some (.int p1), some (.int a2), none, none, none]) (st' := [.int 4, .int p1]) [(.istore_n 3, 0), (.iload_n 2, 0), (.iconst 4, 4)] (by decide +kernel) rfl rfl ?_
    refine ef_J (X := fun j3 => ∀ (a4 : Int32), eh_Sim g eM_7_allows (eh_R 1 0 0) (eh_pI s) 0 0 85 [some (.ref 124), some (.int p0), some (.int p1), none, some (.int a4), none, none] [] (eh_FW s) ((j3 a4).bind some)) ?_ (fun j3 Hj3 => ?_)
    · intro a4
      refine es_blk (pc' := 89) (L' := [some (.ref 124), some (.int p0), some (.int p1), none, some (.int a4), none, none]) (st' := [.int (p0 &&& 16)]) [(.iload_n 1, 0), (.bipush 16, 16), (.iand, 0)] (by decide +kernel) rfl rfl ?_
      refine ef_J (X := fun j5 => ∀ (a6 : Int32), eh_Sim g eM_7_allows (eh_R 1 0 0) (eh_pI s) 0 0 97 [some (.ref 124), some (.int p0), some (.int p1), none, some (.int a4), none, none] [.int a6] (eh_FW s) ((j5 a6).bind some)) ?_ (fun j5 Hj5 => ?_)
      · intro a6
        refine es_blk (pc' := 100) (L' := [some (.ref 124), some (.int p0), some (.int p1), none, some (.int a4), some (.int a6), none]) (st' := [.ref 124]) [(.istore 5, 0), (.aload_n 0, 0)] (by decide +kernel) rfl rfl ?_
        refine ef_getQ (j := 4) (ok := eh_okH) (by decide) eL_7_39 rfl (fun q h => eh_sh_NU (eh_H0sh h)) (by decide +kernel) (fun h7 => ?_)
        refine ef_getI (k := (s.2.2 4)) (j := 3) (eh_H0sh h7) eL_7_259 (by decide) (by decide +kernel) ?_
        refine es_blk (pc' := 107) (L' := [some (.ref 124), some (.int p0), some (.int p1), none, some (.int a4), some (.int a6), none]) (st' := [.int 1, .int (s.1 (s.2.2 4) 3)]) [(.iconst 1, 1)] (by decide +kernel) rfl rfl ?_
        refine ef_J (X := fun j8 => ∀ (a9 : Int32), eh_Sim g eM_7_allows (eh_R 1 0 0) (eh_pI s) 0 0 134 [some (.ref 124), some (.int p0), none, none, some (.int a4), some (.int a6), none] [.int a9] (eh_FW s) ((j8 a9).bind some)) ?_ (fun j8 Hj8 => ?_)
        · intro a9
          refine es_blk (pc' := 138) (L' := [some (.ref 124), some (.int p0), none, none, some (.int a4), some (.int a6), some (.int a9)]) (st' := [.int a4]) [(.istore 6, 0), (.iload 4, 0)] (by decide +kernel) rfl rfl ?_
          refine ef_J (X := fun j10 => ∀ (a11 : Int32), eh_Sim g eM_7_allows (eh_R 1 0 0) (eh_pI s) 0 0 178 [none, none, none, none, none, none, none] [.int a11] (eh_FW s) ((j10 a11).bind some)) ?_ (fun j10 Hj10 => ?_)
          · intro a11
            refine es_chk (fun h12 => ?_)
            exact es_ret rfl rfl rfl ⟨by decide +kernel, _, rfl, eh_narZ h12⟩ (Nat.le_refl _) (Nat.le_refl _)
          refine ef_J (X := fun j13 => ∀ (u14 : Unit), eh_Sim g eM_7_allows (eh_R 1 0 0) (eh_pI s) 0 0 177 [none, none, none, none, none, none, none] [] (eh_FW s) ((j13 u14).bind some)) ?_ (fun j13 Hj13 => ?_)
          · intro u14
            refine es_blk (pc' := 178) (L' := [none, none, none, none, none, none, none]) (st' := [.int 0]) [(.iconst 0, 0)] (by decide +kernel) rfl rfl ?_
            exact Hj10 _
          refine es_eq (tgt := 177) (off := (39)) (by decide +kernel) (by decide) (fun h15 => ?_) (fun h15 => ?_)
          · refine ef_drop (L2 := [none, none, none, none, none, none, none]) [false, false, true, true, false, false, false] rfl rfl ?_
            exact Hj13 ()
          refine es_blk (pc' := 145) (L' := [some (.ref 124), some (.int p0), none, none, some (.int a4), some (.int a6), some (.int a9)]) (st' := [.int (p0 &&& 64)]) [(.iload_n 1, 0), (.bipush 64, 64), (.iand, 0)] (by decide +kernel) rfl rfl ?_
          refine es_eq (tgt := 177) (off := (32)) (by decide +kernel) (by decide) (fun h16 => ?_) (fun h16 => ?_)
          · refine ef_drop (L2 := [none, none, none, none, none, none, none]) [false, false, true, true, false, false, false] rfl rfl ?_
            exact Hj13 ()
          refine es_blk (pc' := 150) (L' := [some (.ref 124), some (.int p0), none, none, some (.int a4), some (.int a6), some (.int a9)]) (st' := [.int a9]) [(.iload 6, 0)] (by decide +kernel) rfl rfl ?_
          refine ef_J (X := fun j17 => ∀ (u18 : Unit), eh_Sim g eM_7_allows (eh_R 1 0 0) (eh_pI s) 0 0 173 [none, none, none, none, none, none, none] [] (eh_FW s) ((j17 u18).bind some)) ?_ (fun j17 Hj17 => ?_)
          · intro u18
            refine es_blk (pc' := 174) (L' := [none, none, none, none, none, none, none]) (st' := [.int 1]) [(.iconst 1, 1)] (by decide +kernel) rfl rfl ?_
            refine es_goto (tgt := 178) (off := (4)) (by decide +kernel) (by decide) ?_
            exact Hj10 _
          refine es_ne (tgt := 173) (off := (23)) (by decide +kernel) (by decide) (fun h19 => ?_) (fun h19 => ?_)
          · refine es_blk (pc' := 156) (L' := [some (.ref 124), some (.int p0), none, none, some (.int a4), some (.int a6), some (.int a9)]) (st' := [.ref 124, .int a6]) [(.iload 5, 0), (.aload_n 0, 0)] (by decide +kernel) rfl rfl ?_
            refine ef_getQ (j := 4) (ok := eh_okH) (by decide) eL_7_39 rfl (fun q h => eh_sh_NU (eh_H0sh h)) (by decide +kernel) (fun h20 => ?_)
            refine ef_getI (k := (s.2.2 4)) (j := 3) (eh_H0sh h20) eL_7_259 (by decide) (by decide +kernel) ?_
            refine ef_J (X := fun j21 => ∀ (a22 : Int32), eh_Sim g eM_7_allows (eh_R 1 0 0) (eh_pI s) 0 0 170 [none, none, none, none, none, none, none] [.int a22, .int a6] (eh_FW s) ((j21 a22).bind some)) ?_ (fun j21 Hj21 => ?_)
            · intro a22
              refine es_ine (tgt := 177) (off := (7)) (by decide +kernel) (by decide) (fun h23 => ?_) (fun h23 => ?_)
              · exact Hj17 ()
              exact Hj13 ()
            refine es_ne (tgt := 169) (off := (7)) (by decide +kernel) (by decide) (fun h24 => ?_) (fun h24 => ?_)
            · refine es_blk (pc' := 166) (L' := [some (.ref 124), some (.int p0), none, none, some (.int a4), some (.int a6), some (.int a9)]) (st' := [.int 1, .int a6]) [(.iconst 1, 1)] (by decide +kernel) rfl rfl ?_
              refine es_goto (tgt := 170) (off := (4)) (by decide +kernel) (by decide) ?_
              refine ef_drop (L2 := [none, none, none, none, none, none, none]) [false, false, true, true, false, false, false] rfl rfl ?_
              exact Hj21 _
            refine es_blk (pc' := 170) (L' := [some (.ref 124), some (.int p0), none, none, some (.int a4), some (.int a6), some (.int a9)]) (st' := [.int 0, .int a6]) [(.iconst 0, 0)] (by decide +kernel) rfl rfl ?_
            refine ef_drop (L2 := [none, none, none, none, none, none, none]) [false, false, true, true, false, false, false] rfl rfl ?_
            exact Hj21 _
          refine ef_drop (L2 := [none, none, none, none, none, none, none]) [false, false, true, true, false, false, false] rfl rfl ?_
          exact Hj17 ()
        refine ef_J (X := fun j25 => ∀ (u26 : Unit), eh_Sim g eM_7_allows (eh_R 1 0 0) (eh_pI s) 0 0 133 [some (.ref 124), some (.int p0), none, none, some (.int a4), some (.int a6), none] [] (eh_FW s) ((j25 u26).bind some)) ?_ (fun j25 Hj25 => ?_)
        · intro u26
          refine es_blk (pc' := 134) (L' := [some (.ref 124), some (.int p0), none, none, some (.int a4), some (.int a6), none]) (st' := [.int 0]) [(.iconst 0, 0)] (by decide +kernel) rfl rfl ?_
          exact Hj8 _
        refine es_ine (tgt := 133) (off := (26)) (by decide +kernel) (by decide) (fun h27 => ?_) (fun h27 => ?_)
        · refine es_blk (pc' := 112) (L' := [some (.ref 124), some (.int p0), some (.int p1), none, some (.int a4), some (.int a6), none]) (st' := [.int 4, .int p1]) [(.iload_n 2, 0), (.iconst 4, 4)] (by decide +kernel) rfl rfl ?_
          refine es_ieq (tgt := 133) (off := (21)) (by decide +kernel) (by decide) (fun h28 => ?_) (fun h28 => ?_)
          · refine ef_drop (L2 := [some (.ref 124), some (.int p0), none, none, some (.int a4), some (.int a6), none]) [true, true, false, true, true, true, true] rfl rfl ?_
            exact Hj25 ()
          refine es_blk (pc' := 116) (L' := [some (.ref 124), some (.int p0), some (.int p1), none, some (.int a4), some (.int a6), none]) (st' := [.ref 124]) [(.aload_n 0, 0)] (by decide +kernel) rfl rfl ?_
          refine ef_getQ (j := 4) (ok := eh_okH) (by decide) eL_7_39 rfl (fun q h => eh_sh_NU (eh_H0sh h)) (by decide +kernel) (fun h29 => ?_)
          refine ef_getI (k := (s.2.2 4)) (j := 9) (eh_H0sh h29) eL_7_323 (by decide) (by decide +kernel) ?_
          refine es_ldcw (v := 262144) eC_7_327 (by decide +kernel) ?_
          refine es_blk (pc' := 126) (L' := [some (.ref 124), some (.int p0), some (.int p1), none, some (.int a4), some (.int a6), none]) (st' := [.int ((s.1 (s.2.2 4) 9) &&& 262144)]) [(.iand, 0)] (by decide +kernel) rfl rfl ?_
          refine es_eq (tgt := 133) (off := (7)) (by decide +kernel) (by decide) (fun h30 => ?_) (fun h30 => ?_)
          · refine ef_drop (L2 := [some (.ref 124), some (.int p0), none, none, some (.int a4), some (.int a6), none]) [true, true, false, true, true, true, true] rfl rfl ?_
            exact Hj25 ()
          refine es_blk (pc' := 130) (L' := [some (.ref 124), some (.int p0), some (.int p1), none, some (.int a4), some (.int a6), none]) (st' := [.int 1]) [(.iconst 1, 1)] (by decide +kernel) rfl rfl ?_
          refine es_goto (tgt := 134) (off := (4)) (by decide +kernel) (by decide) ?_
          refine ef_drop (L2 := [some (.ref 124), some (.int p0), none, none, some (.int a4), some (.int a6), none]) [true, true, false, true, true, true, true] rfl rfl ?_
          exact Hj8 _
        refine ef_drop (L2 := [some (.ref 124), some (.int p0), none, none, some (.int a4), some (.int a6), none]) [true, true, false, true, true, true, true] rfl rfl ?_
        exact Hj25 ()
      refine es_eq (tgt := 96) (off := (7)) (by decide +kernel) (by decide) (fun h31 => ?_) (fun h31 => ?_)
      · refine es_blk (pc' := 97) (L' := [some (.ref 124), some (.int p0), some (.int p1), none, some (.int a4), none, none]) (st' := [.int 0]) [(.iconst 0, 0)] (by decide +kernel) rfl rfl ?_
        exact Hj5 _
      refine es_blk (pc' := 93) (L' := [some (.ref 124), some (.int p0), some (.int p1), none, some (.int a4), none, none]) (st' := [.int 1]) [(.iconst 1, 1)] (by decide +kernel) rfl rfl ?_
      refine es_goto (tgt := 97) (off := (4)) (by decide +kernel) (by decide) ?_
      exact Hj5 _
    refine es_ine (tgt := 55) (off := (20)) (by decide +kernel) (by decide) (fun h32 => ?_) (fun h32 => ?_)
    · refine es_blk (pc' := 42) (L' := [some (.ref 124), some (.int p0), some (.int p1), some (.int a2), none, none, none]) (st' := [.int (p0 &&& 8)]) [(.iload_n 1, 0), (.bipush 8, 8), (.iand, 0)] (by decide +kernel) rfl rfl ?_
      refine ef_J (X := fun j33 => ∀ (a34 : Int32), eh_Sim g eM_7_allows (eh_R 1 0 0) (eh_pI s) 0 0 50 [some (.ref 124), some (.int p0), some (.int p1), none, none, none, none] [.int a34] (eh_FW s) ((j33 a34).bind some)) ?_ (fun j33 Hj33 => ?_)
      · intro a34
        refine es_blk (pc' := 52) (L' := [some (.ref 124), some (.int p0), some (.int p1), none, some (.int a34), none, none]) (st' := []) [(.istore 4, 0)] (by decide +kernel) rfl rfl ?_
        refine es_goto (tgt := 85) (off := (33)) (by decide +kernel) (by decide) ?_
        exact Hj3 _
      refine es_eq (tgt := 49) (off := (7)) (by decide +kernel) (by decide) (fun h35 => ?_) (fun h35 => ?_)
      · refine es_blk (pc' := 50) (L' := [some (.ref 124), some (.int p0), some (.int p1), some (.int a2), none, none, none]) (st' := [.int 0]) [(.iconst 0, 0)] (by decide +kernel) rfl rfl ?_
        refine ef_drop (L2 := [some (.ref 124), some (.int p0), some (.int p1), none, none, none, none]) [true, true, true, false, true, true, true] rfl rfl ?_
        exact Hj33 _
      refine es_blk (pc' := 46) (L' := [some (.ref 124), some (.int p0), some (.int p1), some (.int a2), none, none, none]) (st' := [.int 1]) [(.iconst 1, 1)] (by decide +kernel) rfl rfl ?_
      refine es_goto (tgt := 50) (off := (4)) (by decide +kernel) (by decide) ?_
      refine ef_drop (L2 := [some (.ref 124), some (.int p0), some (.int p1), none, none, none, none]) [true, true, true, false, true, true, true] rfl rfl ?_
      exact Hj33 _
    refine es_blk (pc' := 57) (L' := [some (.ref 124), some (.int p0), some (.int p1), some (.int a2), none, none, none]) (st' := [.int 1, .int p1]) [(.iload_n 2, 0), (.iconst 1, 1)] (by decide +kernel) rfl rfl ?_
    refine ef_J (X := fun j36 => ∀ (a37 : Int32), eh_Sim g eM_7_allows (eh_R 1 0 0) (eh_pI s) 0 0 83 [some (.ref 124), some (.int p0), some (.int p1), none, none, none, none] [.int a37] (eh_FW s) ((j36 a37).bind some)) ?_ (fun j36 Hj36 => ?_)
    · intro a37
      refine es_blk (pc' := 85) (L' := [some (.ref 124), some (.int p0), some (.int p1), none, some (.int a37), none, none]) (st' := []) [(.istore 4, 0)] (by decide +kernel) rfl rfl ?_
      exact Hj3 _
    refine es_ine (tgt := 64) (off := (7)) (by decide +kernel) (by decide) (fun h38 => ?_) (fun h38 => ?_)
    · refine es_blk (pc' := 61) (L' := [some (.ref 124), some (.int p0), some (.int p1), some (.int a2), none, none, none]) (st' := [.int a2]) [(.iload_n 3, 0)] (by decide +kernel) rfl rfl ?_
      refine es_goto (tgt := 83) (off := (22)) (by decide +kernel) (by decide) ?_
      refine ef_drop (L2 := [some (.ref 124), some (.int p0), some (.int p1), none, none, none, none]) [true, true, true, false, true, true, true] rfl rfl ?_
      exact Hj36 _
    refine es_blk (pc' := 67) (L' := [some (.ref 124), some (.int p0), some (.int p1), some (.int a2), none, none, none]) (st' := [.int (p0 &&& 4)]) [(.iload_n 1, 0), (.iconst 4, 4), (.iand, 0)] (by decide +kernel) rfl rfl ?_
    refine ef_J (X := fun j39 => ∀ (u40 : Unit), eh_Sim g eM_7_allows (eh_R 1 0 0) (eh_pI s) 0 0 82 [some (.ref 124), some (.int p0), some (.int p1), none, none, none, none] [] (eh_FW s) ((j39 u40).bind some)) ?_ (fun j39 Hj39 => ?_)
    · intro u40
      refine es_blk (pc' := 83) (L' := [some (.ref 124), some (.int p0), some (.int p1), none, none, none, none]) (st' := [.int 0]) [(.iconst 0, 0)] (by decide +kernel) rfl rfl ?_
      exact Hj36 _
    refine es_eq (tgt := 82) (off := (15)) (by decide +kernel) (by decide) (fun h41 => ?_) (fun h41 => ?_)
    · refine ef_drop (L2 := [some (.ref 124), some (.int p0), some (.int p1), none, none, none, none]) [true, true, true, false, true, true, true] rfl rfl ?_
      exact Hj39 ()
    refine es_blk (pc' := 75) (L' := [some (.ref 124), some (.int p0), some (.int p1), some (.int a2), none, none, none]) (st' := [.int (p0 &&& 128)]) [(.iload_n 1, 0), (.sipush 128, 128), (.iand, 0)] (by decide +kernel) rfl rfl ?_
    refine es_eq (tgt := 82) (off := (7)) (by decide +kernel) (by decide) (fun h42 => ?_) (fun h42 => ?_)
    · refine ef_drop (L2 := [some (.ref 124), some (.int p0), some (.int p1), none, none, none, none]) [true, true, true, false, true, true, true] rfl rfl ?_
      exact Hj39 ()
    refine es_blk (pc' := 79) (L' := [some (.ref 124), some (.int p0), some (.int p1), some (.int a2), none, none, none]) (st' := [.int 1]) [(.iconst 1, 1)] (by decide +kernel) rfl rfl ?_
    refine es_goto (tgt := 83) (off := (4)) (by decide +kernel) (by decide) ?_
    refine ef_drop (L2 := [some (.ref 124), some (.int p0), some (.int p1), none, none, none, none]) [true, true, true, false, true, true, true] rfl rfl ?_
    exact Hj36 _
  refine ef_J (X := fun j43 => ∀ (u44 : Unit), eh_Sim g eM_7_allows (eh_R 1 0 0) (eh_pI s) 0 0 27 [some (.ref 124), some (.int p0), some (.int p1), none, none, none, none] [] (eh_FW s) ((j43 u44).bind some)) ?_ (fun j43 Hj43 => ?_)
  · intro u44
    refine es_blk (pc' := 28) (L' := [some (.ref 124), some (.int p0), some (.int p1), none, none, none, none]) (st' := [.int 1]) [(.iconst 1, 1)] (by decide +kernel) rfl rfl ?_
    refine es_goto (tgt := 32) (off := (4)) (by decide +kernel) (by decide) ?_
    exact Hj1 _
  refine es_ne (tgt := 27) (off := (24)) (by decide +kernel) (by decide) (fun h45 => ?_) (fun h45 => ?_)
  · refine es_blk (pc' := 10) (L' := [some (.ref 124), some (.int p0), some (.int p1), none, none, none, none]) (st' := [.int (p0 &&& 8)]) [(.iload_n 1, 0), (.bipush 8, 8), (.iand, 0)] (by decide +kernel) rfl rfl ?_
    refine ef_J (X := fun j46 => ∀ (u47 : Unit), eh_Sim g eM_7_allows (eh_R 1 0 0) (eh_pI s) 0 0 31 [some (.ref 124), some (.int p0), some (.int p1), none, none, none, none] [] (eh_FW s) ((j46 u47).bind some)) ?_ (fun j46 Hj46 => ?_)
    · intro u47
      refine es_blk (pc' := 32) (L' := [some (.ref 124), some (.int p0), some (.int p1), none, none, none, none]) (st' := [.int 0]) [(.iconst 0, 0)] (by decide +kernel) rfl rfl ?_
      exact Hj1 _
    refine es_eq (tgt := 31) (off := (21)) (by decide +kernel) (by decide) (fun h48 => ?_) (fun h48 => ?_)
    · exact Hj46 ()
    refine es_blk (pc' := 14) (L' := [some (.ref 124), some (.int p0), some (.int p1), none, none, none, none]) (st' := [.ref 124]) [(.aload_n 0, 0)] (by decide +kernel) rfl rfl ?_
    refine ef_getQ (j := 4) (ok := eh_okH) (by decide) eL_7_39 rfl (fun q h => eh_sh_NU (eh_H0sh h)) (by decide +kernel) (fun h49 => ?_)
    refine ef_getI (k := (s.2.2 4)) (j := 9) (eh_H0sh h49) eL_7_323 (by decide) (by decide +kernel) ?_
    refine es_ldcw (v := 524288) eC_7_326 (by decide +kernel) ?_
    refine es_blk (pc' := 24) (L' := [some (.ref 124), some (.int p0), some (.int p1), none, none, none, none]) (st' := [.int ((s.1 (s.2.2 4) 9) &&& 524288)]) [(.iand, 0)] (by decide +kernel) rfl rfl ?_
    refine es_eq (tgt := 31) (off := (7)) (by decide +kernel) (by decide) (fun h50 => ?_) (fun h50 => ?_)
    · exact Hj46 ()
    exact Hj43 ()
  exact Hj43 ()
def eF_7_accessFault (s : eh_F) (p0 : Int32) : Option (Int32) := eh_J (fun (a2 : Int32) => some a2) (fun j1 => if p0 = 4 then (j1 1) else (if p0 = 1 then (j1 5) else (j1 7)))
set_option maxHeartbeats 4000000 in
set_option maxRecDepth 100000 in
theorem eS_7_accessFault (g : eh_P) (s : eh_F) (p0 : Int32) : eh_Sim g eM_7_accessFault (eh_R 1 0 0) (eh_pI s) 0 0 0 (eh_en 1 [.int p0]) [] (eh_FW s) (eF_7_accessFault s p0) := by
  unfold eF_7_accessFault
  refine ef_top (L := [some (.int p0)]) rfl ?_
  refine es_blk (pc' := 2) (L' := [some (.int p0)]) (st' := [.int 4, .int p0]) [(.iload_n 0, 0), (.iconst 4, 4)] (by decide +kernel) rfl rfl ?_
  refine ef_J (X := fun j1 => ∀ (a2 : Int32), eh_Sim g eM_7_accessFault (eh_R 1 0 0) (eh_pI s) 0 0 20 [none] [.int a2] (eh_FW s) ((j1 a2).bind some)) ?_ (fun j1 Hj1 => ?_)
  · intro a2
    exact es_ret rfl rfl rfl ⟨by decide +kernel, _, rfl, rfl⟩ (Nat.le_refl _) (Nat.le_refl _)
  refine es_ine (tgt := 9) (off := (7)) (by decide +kernel) (by decide) (fun h3 => ?_) (fun h3 => ?_)
  · refine es_blk (pc' := 6) (L' := [some (.int p0)]) (st' := [.int 1]) [(.iconst 1, 1)] (by decide +kernel) rfl rfl ?_
    refine es_goto (tgt := 20) (off := (14)) (by decide +kernel) (by decide) ?_
    refine ef_drop (L2 := [none]) [false] rfl rfl ?_
    exact Hj1 _
  refine es_blk (pc' := 11) (L' := [some (.int p0)]) (st' := [.int 1, .int p0]) [(.iload_n 0, 0), (.iconst 1, 1)] (by decide +kernel) rfl rfl ?_
  refine es_ine (tgt := 18) (off := (7)) (by decide +kernel) (by decide) (fun h4 => ?_) (fun h4 => ?_)
  · refine es_blk (pc' := 15) (L' := [some (.int p0)]) (st' := [.int 5]) [(.iconst 5, 5)] (by decide +kernel) rfl rfl ?_
    refine es_goto (tgt := 20) (off := (5)) (by decide +kernel) (by decide) ?_
    refine ef_drop (L2 := [none]) [false] rfl rfl ?_
    exact Hj1 _
  refine es_blk (pc' := 20) (L' := [some (.int p0)]) (st' := [.int 7]) [(.bipush 7, 7)] (by decide +kernel) rfl rfl ?_
  refine ef_drop (L2 := [none]) [false] rfl rfl ?_
  exact Hj1 _
def eF_7_pageFault (s : eh_F) (p0 : Int32) : Option (Int32) := eh_J (fun (a2 : Int32) => some a2) (fun j1 => if p0 = 4 then (j1 12) else (if p0 = 1 then (j1 13) else (j1 15)))
set_option maxHeartbeats 4000000 in
set_option maxRecDepth 100000 in
theorem eS_7_pageFault (g : eh_P) (s : eh_F) (p0 : Int32) : eh_Sim g eM_7_pageFault (eh_R 1 0 0) (eh_pI s) 0 0 0 (eh_en 1 [.int p0]) [] (eh_FW s) (eF_7_pageFault s p0) := by
  unfold eF_7_pageFault
  refine ef_top (L := [some (.int p0)]) rfl ?_
  refine es_blk (pc' := 2) (L' := [some (.int p0)]) (st' := [.int 4, .int p0]) [(.iload_n 0, 0), (.iconst 4, 4)] (by decide +kernel) rfl rfl ?_
  refine ef_J (X := fun j1 => ∀ (a2 : Int32), eh_Sim g eM_7_pageFault (eh_R 1 0 0) (eh_pI s) 0 0 22 [none] [.int a2] (eh_FW s) ((j1 a2).bind some)) ?_ (fun j1 Hj1 => ?_)
  · intro a2
    exact es_ret rfl rfl rfl ⟨by decide +kernel, _, rfl, rfl⟩ (Nat.le_refl _) (Nat.le_refl _)
  refine es_ine (tgt := 10) (off := (8)) (by decide +kernel) (by decide) (fun h3 => ?_) (fun h3 => ?_)
  · refine es_blk (pc' := 7) (L' := [some (.int p0)]) (st' := [.int 12]) [(.bipush 12, 12)] (by decide +kernel) rfl rfl ?_
    refine es_goto (tgt := 22) (off := (15)) (by decide +kernel) (by decide) ?_
    refine ef_drop (L2 := [none]) [false] rfl rfl ?_
    exact Hj1 _
  refine es_blk (pc' := 12) (L' := [some (.int p0)]) (st' := [.int 1, .int p0]) [(.iload_n 0, 0), (.iconst 1, 1)] (by decide +kernel) rfl rfl ?_
  refine es_ine (tgt := 20) (off := (8)) (by decide +kernel) (by decide) (fun h4 => ?_) (fun h4 => ?_)
  · refine es_blk (pc' := 17) (L' := [some (.int p0)]) (st' := [.int 13]) [(.bipush 13, 13)] (by decide +kernel) rfl rfl ?_
    refine es_goto (tgt := 22) (off := (5)) (by decide +kernel) (by decide) ?_
    refine ef_drop (L2 := [none]) [false] rfl rfl ?_
    exact Hj1 _
  refine es_blk (pc' := 22) (L' := [some (.int p0)]) (st' := [.int 15]) [(.bipush 15, 15)] (by decide +kernel) rfl rfl ?_
  refine ef_drop (L2 := [none]) [false] rfl rfl ?_
  exact Hj1 _
def eF_8_clear (s : eh_F) (th : Nat) : Option (eh_F) := eh_V (eh_tI s th 1 0) (fun s1 => some s1)
set_option maxHeartbeats 4000000 in
set_option maxRecDepth 100000 in
theorem eS_8_clear (g : eh_P) (s : eh_F) (th : Nat) (hth : eh_okR th = true) : eh_Sim g eM_8_clear (eh_R 1 0 0) eh_eV 0 0 0 (eh_en 1 [.ref th]) [] (eh_FW s) (eF_8_clear s th) := by
  unfold eF_8_clear
  refine ef_top (L := [some (.ref th)]) rfl ?_
  refine es_blk (pc' := 2) (L' := [some (.ref th)]) (st' := [.int 0, .ref th]) [(.aload_n 0, 0), (.iconst 0, 0)] (by decide +kernel) rfl rfl ?_
  refine ef_putI (k := th) (j := 1) (eh_R0sh hth) eL_8_15 rfl rfl (by decide +kernel) ?_
  refine ef_V (fun _ => [some (.ref th)]) (fun _ => []) (fun s1 => eh_FW s1) (fun s1 => ?_)
  exact es_ret rfl rfl rfl ⟨by decide +kernel, rfl⟩ (Nat.le_refl _) (Nat.le_refl _)
def eF_8_add (s : eh_F) (th : Nat) (p0 : Int32) : Option (Int32 × eh_F) := eh_J (fun (u2 : Unit) => some (0, s)) (fun j1 => if (s.1 th 1) < 0 then (j1 ()) else (if (s.1 th 1) < (Int32.ofNat (eh_rn th)) then (if eh_in (s.1 th 1) (eh_rn th) then eh_V (eh_tI s (th + 1) (eh_ix (s.1 th 1)) p0) (fun s5 => eh_V (eh_tI s5 th 1 ((s5.1 th 1) + 1)) (fun s6 => some (1, s6))) else none) else (j1 ())))
set_option maxHeartbeats 4000000 in
set_option maxRecDepth 100000 in
theorem eS_8_add (g : eh_P) (s : eh_F) (th : Nat) (p0 : Int32) (hth : eh_okR th = true) : eh_Sim g eM_8_add (eh_R 1 0 0) eh_eI 0 0 0 (eh_en 2 [.ref th, .int p0]) [] (eh_FW s) (eF_8_add s th p0) := by
  unfold eF_8_add
  refine ef_top (L := [some (.ref th), some (.int p0)]) rfl ?_
  refine es_blk (pc' := 1) (L' := [some (.ref th), some (.int p0)]) (st' := [.ref th]) [(.aload_n 0, 0)] (by decide +kernel) rfl rfl ?_
  refine ef_getI (k := th) (j := 1) (eh_R0sh hth) eL_8_15 (by decide) (by decide +kernel) ?_
  refine ef_J (X := fun j1 => ∀ (u2 : Unit), eh_Sim g eM_8_add (eh_R 1 0 0) eh_eI 0 0 19 [none, none] [] (eh_FW s) ((j1 u2).bind some)) ?_ (fun j1 Hj1 => ?_)
  · intro u2
    refine es_blk (pc' := 20) (L' := [none, none]) (st' := [.int 0]) [(.iconst 0, 0)] (by decide +kernel) rfl rfl ?_
    exact es_ret rfl rfl rfl ⟨by decide +kernel, _, rfl, eh_narZ (Or.inl rfl)⟩ (Nat.le_refl _) (Nat.le_refl _)
  refine es_lt (tgt := 19) (off := (15)) (by decide +kernel) (by decide) (fun h3 => ?_) (fun h3 => ?_)
  · refine ef_drop (L2 := [none, none]) [false, false] rfl rfl ?_
    exact Hj1 ()
  refine es_blk (pc' := 8) (L' := [some (.ref th), some (.int p0)]) (st' := [.ref th]) [(.aload_n 0, 0)] (by decide +kernel) rfl rfl ?_
  refine ef_getI (k := th) (j := 1) (eh_R0sh hth) eL_8_15 (by decide) (by decide +kernel) ?_
  refine es_blk (pc' := 12) (L' := [some (.ref th), some (.int p0)]) (st' := [.ref th, .int (s.1 th 1)]) [(.aload_n 0, 0)] (by decide +kernel) rfl rfl ?_
  refine ef_getP (k := th) (j := 0) (q := (th + 1)) (eh_R0sh hth) eL_8_9 rfl (eh_Rx hth _) (eh_R1sh hth) (by decide +kernel) ?_
  refine ef_alen (k := (th + 1)) (eh_R1sh hth) (by decide) (by decide +kernel) ?_
  refine es_ilt (tgt := 21) (off := (5)) (by decide +kernel) (by decide) (fun h4 => ?_) (fun h4 => ?_)
  · refine es_blk (pc' := 22) (L' := [some (.ref th), some (.int p0)]) (st' := [.ref th]) [(.aload_n 0, 0)] (by decide +kernel) rfl rfl ?_
    refine ef_getP (k := th) (j := 0) (q := (th + 1)) (eh_R0sh hth) eL_8_9 rfl (eh_Rx hth _) (eh_R1sh hth) (by decide +kernel) ?_
    refine es_blk (pc' := 26) (L' := [some (.ref th), some (.int p0)]) (st' := [.ref th, .ref (th + 1)]) [(.aload_n 0, 0)] (by decide +kernel) rfl rfl ?_
    refine ef_getI (k := th) (j := 1) (eh_R0sh hth) eL_8_15 (by decide) (by decide +kernel) ?_
    refine es_blk (pc' := 30) (L' := [some (.ref th), some (.int p0)]) (st' := [.int p0, .int (s.1 th 1), .ref (th + 1)]) [(.iload_n 1, 0)] (by decide +kernel) rfl rfl ?_
    refine ef_ast (k := (th + 1)) (eh_R1sh hth) (by decide +kernel) (fun _ => ?_)
    refine ef_V (fun _ => [some (.ref th), some (.int p0)]) (fun _ => []) (fun s5 => eh_FW s5) (fun s5 => ?_)
    refine es_blk (pc' := 33) (L' := [some (.ref th), some (.int p0)]) (st' := [.ref th, .ref th]) [(.aload_n 0, 0), (.dup, 0)] (by decide +kernel) rfl rfl ?_
    refine ef_getI (k := th) (j := 1) (eh_R0sh hth) eL_8_15 (by decide) (by decide +kernel) ?_
    refine es_blk (pc' := 38) (L' := [some (.ref th), some (.int p0)]) (st' := [.int ((s5.1 th 1) + 1), .ref th]) [(.iconst 1, 1), (.iadd, 0)] (by decide +kernel) rfl rfl ?_
    refine ef_putI (k := th) (j := 1) (eh_R0sh hth) eL_8_15 rfl rfl (by decide +kernel) ?_
    refine ef_V (fun _ => [some (.ref th), some (.int p0)]) (fun _ => []) (fun s6 => eh_FW s6) (fun s6 => ?_)
    refine es_blk (pc' := 42) (L' := [some (.ref th), some (.int p0)]) (st' := [.int 1]) [(.iconst 1, 1)] (by decide +kernel) rfl rfl ?_
    exact es_ret rfl rfl rfl ⟨by decide +kernel, _, rfl, eh_narZ (Or.inr rfl)⟩ (Nat.le_refl _) (Nat.le_refl _)
  refine ef_drop (L2 := [none, none]) [false, false] rfl rfl ?_
  exact Hj1 ()
def eF_8_takeFirst (s : eh_F) (th : Nat) (p0 : Int32) : Option (Int32 × eh_F) := eh_J (fun (u2 : Unit) => some (p0, s)) (fun j1 => if 0 < (s.1 th 1) then (if (Int32.ofNat (eh_rn th)) < (s.1 th 1) then (j1 ()) else (if eh_in 0 (eh_rn th) then eh_V ((s.1 (th + 1) (eh_ix 0)) : Int32) (fun x5 => eh_V (eh_tI s th 1 ((s.1 th 1) - 1)) (fun s6 => if eh_cok 1 0 (s6.1 th 1) (eh_rn th) (eh_rn th) then eh_V (eh_tF s6 (th + 1) (va_cpy (s6.1 (th + 1)) (s6.1 (th + 1)) (eh_ix 1) (eh_ix 0) (eh_ix (s6.1 th 1)))) (fun s7 => some (x5, s7)) else none)) else none)) else (j1 ()))
set_option maxHeartbeats 4000000 in
set_option maxRecDepth 100000 in
theorem eS_8_takeFirst (g : eh_P) (s : eh_F) (th : Nat) (p0 : Int32) (hth : eh_okR th = true) : eh_Sim g eM_8_takeFirst (eh_R 1 0 0) eh_eI 0 0 0 (eh_en 3 [.ref th, .int p0]) [] (eh_FW s) (eF_8_takeFirst s th p0) := by
  unfold eF_8_takeFirst
  refine ef_top (L := [some (.ref th), some (.int p0), none]) rfl ?_
  refine es_blk (pc' := 1) (L' := [some (.ref th), some (.int p0), none]) (st' := [.ref th]) [(.aload_n 0, 0)] (by decide +kernel) rfl rfl ?_
  refine ef_getI (k := th) (j := 1) (eh_R0sh hth) eL_8_15 (by decide) (by decide +kernel) ?_
  refine ef_J (X := fun j1 => ∀ (u2 : Unit), eh_Sim g eM_8_takeFirst (eh_R 1 0 0) eh_eI 0 0 19 [none, some (.int p0), none] [] (eh_FW s) ((j1 u2).bind some)) ?_ (fun j1 Hj1 => ?_)
  · intro u2
    refine es_blk (pc' := 20) (L' := [none, some (.int p0), none]) (st' := [.int p0]) [(.iload_n 1, 0)] (by decide +kernel) rfl rfl ?_
    exact es_ret rfl rfl rfl ⟨by decide +kernel, _, rfl, rfl⟩ (Nat.le_refl _) (Nat.le_refl _)
  refine es_le (tgt := 19) (off := (15)) (by decide +kernel) (by decide) (fun h3 => ?_) (fun h3 => ?_)
  · refine es_blk (pc' := 8) (L' := [some (.ref th), some (.int p0), none]) (st' := [.ref th]) [(.aload_n 0, 0)] (by decide +kernel) rfl rfl ?_
    refine ef_getI (k := th) (j := 1) (eh_R0sh hth) eL_8_15 (by decide) (by decide +kernel) ?_
    refine es_blk (pc' := 12) (L' := [some (.ref th), some (.int p0), none]) (st' := [.ref th, .int (s.1 th 1)]) [(.aload_n 0, 0)] (by decide +kernel) rfl rfl ?_
    refine ef_getP (k := th) (j := 0) (q := (th + 1)) (eh_R0sh hth) eL_8_9 rfl (eh_Rx hth _) (eh_R1sh hth) (by decide +kernel) ?_
    refine ef_alen (k := (th + 1)) (eh_R1sh hth) (by decide) (by decide +kernel) ?_
    refine es_ile (tgt := 21) (off := (5)) (by decide +kernel) (by decide) (fun h4 => ?_) (fun h4 => ?_)
    · refine ef_drop (L2 := [none, some (.int p0), none]) [false, true, true] rfl rfl ?_
      exact Hj1 ()
    refine es_blk (pc' := 22) (L' := [some (.ref th), some (.int p0), none]) (st' := [.ref th]) [(.aload_n 0, 0)] (by decide +kernel) rfl rfl ?_
    refine ef_getP (k := th) (j := 0) (q := (th + 1)) (eh_R0sh hth) eL_8_9 rfl (eh_Rx hth _) (eh_R1sh hth) (by decide +kernel) ?_
    refine es_blk (pc' := 26) (L' := [some (.ref th), some (.int p0), none]) (st' := [.int 0, .ref (th + 1)]) [(.iconst 0, 0)] (by decide +kernel) rfl rfl ?_
    refine ef_ald (k := (th + 1)) (eh_R1sh hth) (Or.inl ⟨rfl, rfl⟩) (by decide +kernel) (fun _ => ?_)
    refine es_blk (pc' := 28) (L' := [some (.ref th), some (.int p0), some (.int (s.1 (th + 1) (eh_ix 0)))]) (st' := []) [(.istore_n 2, 0)] (by decide +kernel) rfl rfl ?_
    refine ef_V (fun x5 => [some (.ref th), some (.int p0), some (.int x5)]) (fun _ => []) (fun _ => eh_FW s) (fun x5 => ?_)
    refine es_blk (pc' := 30) (L' := [some (.ref th), some (.int p0), some (.int x5)]) (st' := [.ref th, .ref th]) [(.aload_n 0, 0), (.dup, 0)] (by decide +kernel) rfl rfl ?_
    refine ef_getI (k := th) (j := 1) (eh_R0sh hth) eL_8_15 (by decide) (by decide +kernel) ?_
    refine es_blk (pc' := 35) (L' := [some (.ref th), some (.int p0), some (.int x5)]) (st' := [.int ((s.1 th 1) - 1), .ref th]) [(.iconst 1, 1), (.isub, 0)] (by decide +kernel) rfl rfl ?_
    refine ef_putI (k := th) (j := 1) (eh_R0sh hth) eL_8_15 rfl rfl (by decide +kernel) ?_
    refine ef_V (fun _ => [some (.ref th), some (.int p0), some (.int x5)]) (fun _ => []) (fun s6 => eh_FW s6) (fun s6 => ?_)
    refine es_blk (pc' := 39) (L' := [some (.ref th), some (.int p0), some (.int x5)]) (st' := [.ref th]) [(.aload_n 0, 0)] (by decide +kernel) rfl rfl ?_
    refine ef_getP (k := th) (j := 0) (q := (th + 1)) (eh_R0sh hth) eL_8_9 rfl (eh_Rx hth _) (eh_R1sh hth) (by decide +kernel) ?_
    refine es_blk (pc' := 44) (L' := [some (.ref th), some (.int p0), some (.int x5)]) (st' := [.ref th, .int 1, .ref (th + 1)]) [(.iconst 1, 1), (.aload_n 0, 0)] (by decide +kernel) rfl rfl ?_
    refine ef_getP (k := th) (j := 0) (q := (th + 1)) (eh_R0sh hth) eL_8_9 rfl (eh_Rx hth _) (eh_R1sh hth) (by decide +kernel) ?_
    refine es_blk (pc' := 49) (L' := [some (.ref th), some (.int p0), some (.int x5)]) (st' := [.ref th, .int 0, .ref (th + 1), .int 1, .ref (th + 1)]) [(.iconst 0, 0), (.aload_n 0, 0)] (by decide +kernel) rfl rfl ?_
    refine ef_getI (k := th) (j := 1) (eh_R0sh hth) eL_8_15 (by decide) (by decide +kernel) ?_
    refine ef_copyI (k0 := (th + 1)) (k1 := (th + 1)) (eh_R1sh hth) (eh_R1sh hth) eK_8_19 eh_acN eh_acS eh_acI ⟨Nat.le_of_ble_eq_true rfl, Nat.le_of_ble_eq_true rfl⟩ (Nat.le_of_ble_eq_true rfl) (by decide +kernel) (fun _ => ?_)
    refine ef_V (fun _ => [some (.ref th), some (.int p0), some (.int x5)]) (fun _ => []) (fun s7 => eh_FW s7) (fun s7 => ?_)
    refine es_blk (pc' := 56) (L' := [some (.ref th), some (.int p0), some (.int x5)]) (st' := [.int x5]) [(.iload_n 2, 0)] (by decide +kernel) rfl rfl ?_
    exact es_ret rfl rfl rfl ⟨by decide +kernel, _, rfl, rfl⟩ (Nat.le_refl _) (Nat.le_refl _)
  refine ef_drop (L2 := [none, some (.int p0), none]) [false, true, true] rfl rfl ?_
  exact Hj1 ()
def eF_8_at (s : eh_F) (th : Nat) (p0 : Int32) : Option (Int32) := eh_J (fun (a2 : Int32) => some a2) (fun j1 => eh_J (fun (u4 : Unit) => j1 (-1)) (fun j3 => if p0 < 0 then (j3 ()) else (if p0 < (s.1 th 1) then (if p0 < (Int32.ofNat (eh_rn th)) then (if eh_in p0 (eh_rn th) then j1 (s.1 (th + 1) (eh_ix p0)) else none) else (j3 ())) else (j3 ()))))
set_option maxHeartbeats 4000000 in
set_option maxRecDepth 100000 in
theorem eS_8_at (g : eh_P) (s : eh_F) (th : Nat) (p0 : Int32) (hth : eh_okR th = true) : eh_Sim g eM_8_at (eh_R 1 0 0) (eh_pI s) 0 0 0 (eh_en 2 [.ref th, .int p0]) [] (eh_FW s) (eF_8_at s th p0) := by
  unfold eF_8_at
  refine ef_top (L := [some (.ref th), some (.int p0)]) rfl ?_
  refine es_blk (pc' := 1) (L' := [some (.ref th), some (.int p0)]) (st' := [.int p0]) [(.iload_n 1, 0)] (by decide +kernel) rfl rfl ?_
  refine ef_J (X := fun j1 => ∀ (a2 : Int32), eh_Sim g eM_8_at (eh_R 1 0 0) (eh_pI s) 0 0 31 [none, none] [.int a2] (eh_FW s) ((j1 a2).bind some)) ?_ (fun j1 Hj1 => ?_)
  · intro a2
    exact es_ret rfl rfl rfl ⟨by decide +kernel, _, rfl, rfl⟩ (Nat.le_refl _) (Nat.le_refl _)
  refine ef_J (X := fun j3 => ∀ (u4 : Unit), eh_Sim g eM_8_at (eh_R 1 0 0) (eh_pI s) 0 0 30 [none, none] [] (eh_FW s) ((j3 u4).bind some)) ?_ (fun j3 Hj3 => ?_)
  · intro u4
    refine es_blk (pc' := 31) (L' := [none, none]) (st' := [.int (-1)]) [(.iconst (-1), (-1))] (by decide +kernel) rfl rfl ?_
    exact Hj1 _
  refine es_lt (tgt := 30) (off := (29)) (by decide +kernel) (by decide) (fun h5 => ?_) (fun h5 => ?_)
  · refine ef_drop (L2 := [none, none]) [false, false] rfl rfl ?_
    exact Hj3 ()
  refine es_blk (pc' := 6) (L' := [some (.ref th), some (.int p0)]) (st' := [.ref th, .int p0]) [(.iload_n 1, 0), (.aload_n 0, 0)] (by decide +kernel) rfl rfl ?_
  refine ef_getI (k := th) (j := 1) (eh_R0sh hth) eL_8_15 (by decide) (by decide +kernel) ?_
  refine es_ige (tgt := 30) (off := (21)) (by decide +kernel) (by decide) (fun h6 => ?_) (fun h6 => ?_)
  · refine es_blk (pc' := 14) (L' := [some (.ref th), some (.int p0)]) (st' := [.ref th, .int p0]) [(.iload_n 1, 0), (.aload_n 0, 0)] (by decide +kernel) rfl rfl ?_
    refine ef_getP (k := th) (j := 0) (q := (th + 1)) (eh_R0sh hth) eL_8_9 rfl (eh_Rx hth _) (eh_R1sh hth) (by decide +kernel) ?_
    refine ef_alen (k := (th + 1)) (eh_R1sh hth) (by decide) (by decide +kernel) ?_
    refine es_ige (tgt := 30) (off := (12)) (by decide +kernel) (by decide) (fun h7 => ?_) (fun h7 => ?_)
    · refine es_blk (pc' := 22) (L' := [some (.ref th), some (.int p0)]) (st' := [.ref th]) [(.aload_n 0, 0)] (by decide +kernel) rfl rfl ?_
      refine ef_getP (k := th) (j := 0) (q := (th + 1)) (eh_R0sh hth) eL_8_9 rfl (eh_Rx hth _) (eh_R1sh hth) (by decide +kernel) ?_
      refine es_blk (pc' := 26) (L' := [some (.ref th), some (.int p0)]) (st' := [.int p0, .ref (th + 1)]) [(.iload_n 1, 0)] (by decide +kernel) rfl rfl ?_
      refine ef_ald (k := (th + 1)) (eh_R1sh hth) (Or.inl ⟨rfl, rfl⟩) (by decide +kernel) (fun _ => ?_)
      refine es_goto (tgt := 31) (off := (4)) (by decide +kernel) (by decide) ?_
      refine ef_drop (L2 := [none, none]) [false, false] rfl rfl ?_
      exact Hj1 _
    refine ef_drop (L2 := [none, none]) [false, false] rfl rfl ?_
    exact Hj3 ()
  refine ef_drop (L2 := [none, none]) [false, false] rfl rfl ?_
  exact Hj3 ()
def eF_9_begin (s : eh_F) (th : Nat) : Option (eh_F) := if eh_cok 0 0 8 (eh_tn 0) 8 then eh_V (eh_tF s (th + 1) (va_cpy (eh_tt 0) (s.1 (th + 1)) (eh_ix 0) (eh_ix 0) (eh_ix 8))) (fun s1 => eh_V (eh_tI s1 th 3 0) (fun s2 => some s2)) else none
set_option maxHeartbeats 4000000 in
set_option maxRecDepth 100000 in
theorem eS_9_begin (g : eh_P) (s : eh_F) (th : Nat) (hth : eh_okS th = true) : eh_Sim g eM_9_begin (eh_R 1 0 0) eh_eV 0 0 0 (eh_en 1 [.ref th]) [] (eh_FW s) (eF_9_begin s th) := by
  unfold eF_9_begin
  refine ef_top (L := [some (.ref th)]) rfl ?_
  refine ef_stat (i := 0) (by decide) eG_9_19 (by decide +kernel) ?_
  refine es_blk (pc' := 5) (L' := [some (.ref th)]) (st' := [.ref th, .int 0, .ref (eh_SB + 0)]) [(.iconst 0, 0), (.aload_n 0, 0)] (by decide +kernel) rfl rfl ?_
  refine ef_getP (k := th) (j := 0) (q := (th + 1)) (eh_S0sh hth) eL_9_7 rfl (eh_Sx hth _).1 (eh_S1sh hth) (by decide +kernel) ?_
  refine es_blk (pc' := 11) (L' := [some (.ref th)]) (st' := [.int 8, .int 0, .ref (th + 1), .int 0, .ref (eh_SB + 0)]) [(.iconst 0, 0), (.bipush 8, 8)] (by decide +kernel) rfl rfl ?_
  refine ef_copyT (i := 0) (k1 := (th + 1)) (by decide) (eh_S1sh hth) eK_9_22 eh_acN eh_acS eh_acI ⟨Nat.le_of_ble_eq_true rfl, Nat.le_of_ble_eq_true rfl⟩ (Nat.le_of_ble_eq_true rfl) (by decide +kernel) (fun _ => ?_)
  refine ef_V (fun _ => [some (.ref th)]) (fun _ => []) (fun s1 => eh_FW s1) (fun s1 => ?_)
  refine es_blk (pc' := 16) (L' := [some (.ref th)]) (st' := [.int 0, .ref th]) [(.aload_n 0, 0), (.iconst 0, 0)] (by decide +kernel) rfl rfl ?_
  refine ef_putI (k := th) (j := 3) (eh_S0sh hth) eL_9_28 rfl rfl (by decide +kernel) ?_
  refine ef_V (fun _ => [some (.ref th)]) (fun _ => []) (fun s2 => eh_FW s2) (fun s2 => ?_)
  exact es_ret rfl rfl rfl ⟨by decide +kernel, rfl⟩ (Nat.le_refl _) (Nat.le_refl _)
def eF_9_clearBlockFrom (s : eh_F) (th : Nat) (p0 : Int32) : Option (eh_F) := Option.bind (eh_loop (fun (r4 : (Int32 × eh_F) → Option (eh_F)) (t1 : Int32 × eh_F) => if t1.1 < 0 then (some t1.2) else (if t1.1 < 16 then (if eh_in t1.1 64 then eh_V (eh_tI t1.2 (th + 2) (eh_ix t1.1) 0) (fun s7 => eh_V ((t1.1 + 1) : Int32) (fun x8 => r4 (x8, s7))) else none) else (some t1.2))) eh_FU (p0, s)) (fun (e2 : eh_F) => some e2)
set_option maxHeartbeats 4000000 in
set_option maxRecDepth 100000 in
theorem eS_9_clearBlockFrom (g : eh_P) (s : eh_F) (th : Nat) (p0 : Int32) (hth : eh_okS th = true) : eh_Sim g eM_9_clearBlockFrom (eh_R 1 0 0) eh_eV 0 0 0 (eh_en 3 [.ref th, .int p0]) [] (eh_FW s) (eF_9_clearBlockFrom s th p0) := by
  unfold eF_9_clearBlockFrom
  refine ef_top (L := [some (.ref th), some (.int p0), none]) rfl ?_
  refine es_blk (pc' := 2) (L' := [some (.ref th), some (.int p0), some (.int p0)]) (st' := []) [(.iload_n 1, 0), (.istore_n 2, 0)] (by decide +kernel) rfl rfl ?_
  refine ef_drop (L2 := [some (.ref th), none, some (.int p0)]) [true, false, true] rfl rfl ?_
  refine ef_loop1 (n := eh_FU) (i := (p0, s)) (px := 25) (fun (t1 : Int32 × eh_F) => [some (.ref th), none, some (.int t1.1)]) (fun (t1 : Int32 × eh_F) => []) (fun (t1 : Int32 × eh_F) => eh_FW t1.2) (fun (e2 : eh_F) => [none, none, none]) (fun (e2 : eh_F) => []) (fun (e2 : eh_F) => eh_FW e2) (fun e2 => ?_) (fun K3 HxK3_0 r4 Hr4 t1 => ?_)
  · exact es_ret rfl rfl rfl ⟨by decide +kernel, rfl⟩ (Nat.le_refl _) (Nat.le_refl _)
  · refine es_blk (pc' := 3) (L' := [some (.ref th), none, some (.int t1.1)]) (st' := [.int t1.1]) [(.iload_n 2, 0)] (by decide +kernel) rfl rfl ?_
    refine es_lt (tgt := 25) (off := (22)) (by decide +kernel) (by decide) (fun h5 => ?_) (fun h5 => ?_)
    · refine ef_drop (L2 := [none, none, none]) [false, true, false] rfl rfl ?_
      exact HxK3_0 t1.2
    refine es_blk (pc' := 9) (L' := [some (.ref th), none, some (.int t1.1)]) (st' := [.int 16, .int t1.1]) [(.iload_n 2, 0), (.bipush 16, 16)] (by decide +kernel) rfl rfl ?_
    refine es_ige (tgt := 25) (off := (16)) (by decide +kernel) (by decide) (fun h6 => ?_) (fun h6 => ?_)
    · refine es_blk (pc' := 13) (L' := [some (.ref th), none, some (.int t1.1)]) (st' := [.ref th]) [(.aload_n 0, 0)] (by decide +kernel) rfl rfl ?_
      refine ef_getP (k := th) (j := 1) (q := (th + 2)) (eh_S0sh hth) eL_9_13 rfl (eh_Sx hth _).2.1 (eh_S2sh hth) (by decide +kernel) ?_
      refine es_blk (pc' := 18) (L' := [some (.ref th), none, some (.int t1.1)]) (st' := [.int 0, .int t1.1, .ref (th + 2)]) [(.iload_n 2, 0), (.iconst 0, 0)] (by decide +kernel) rfl rfl ?_
      refine ef_ast (k := (th + 2)) (eh_S2sh hth) (by decide +kernel) (fun _ => ?_)
      refine ef_V (fun _ => [some (.ref th), none, some (.int t1.1)]) (fun _ => []) (fun s7 => eh_FW s7) (fun s7 => ?_)
      refine es_blk (pc' := 22) (L' := [some (.ref th), none, some (.int (t1.1 + 1))]) (st' := []) [(.iinc 2 1, 1)] (by decide +kernel) rfl rfl ?_
      refine ef_V (fun x8 => [some (.ref th), none, some (.int x8)]) (fun _ => []) (fun _ => eh_FW s7) (fun x8 => ?_)
      refine es_goto (tgt := 2) (off := (-20)) (by decide +kernel) (by decide) ?_
      exact Hr4 (x8, s7)
    refine ef_drop (L2 := [none, none, none]) [false, true, false] rfl rfl ?_
    exact HxK3_0 t1.2
def eF_9_compress (s : eh_F) (th : Nat) : Option (eh_F) := Option.bind (eh_loop (fun (r32 : (Int32 × eh_F) → Option (eh_F)) (t1 : Int32 × eh_F) => if t1.1 < 64 then (if eh_in (t1.1 - 15) 64 then eh_V ((t1.2.1 (th + 2) (eh_ix (t1.1 - 15))) : Int32) (fun x34 => if eh_in (t1.1 - 2) 64 then eh_V ((t1.2.1 (th + 2) (eh_ix (t1.1 - 2))) : Int32) (fun x35 => eh_V (((((eh_ushr x34 7) ||| (eh_shl x34 25)) ^^^ ((eh_ushr x34 18) ||| (eh_shl x34 14))) ^^^ (eh_ushr x34 3)) : Int32) (fun x36 => eh_V (((((eh_ushr x35 17) ||| (eh_shl x35 15)) ^^^ ((eh_ushr x35 19) ||| (eh_shl x35 13))) ^^^ (eh_ushr x35 10)) : Int32) (fun x37 => if eh_in (t1.1 - 16) 64 then if eh_in (t1.1 - 7) 64 then if eh_in t1.1 64 then eh_V (eh_tI t1.2 (th + 2) (eh_ix t1.1) ((((t1.2.1 (th + 2) (eh_ix (t1.1 - 16))) + x36) + (t1.2.1 (th + 2) (eh_ix (t1.1 - 7)))) + x37)) (fun s38 => eh_V ((t1.1 + 1) : Int32) (fun x39 => r32 (x39, s38))) else none else none else none))) else none) else none) else (some t1.2)) eh_FU (16, s)) (fun (e2 : eh_F) => eh_V ((e2.1 (th + 1) 0) : Int32) (fun x3 => eh_V ((e2.1 (th + 1) 1) : Int32) (fun x4 => eh_V ((e2.1 (th + 1) 2) : Int32) (fun x5 => eh_V ((e2.1 (th + 1) 3) : Int32) (fun x6 => eh_V ((e2.1 (th + 1) 4) : Int32) (fun x7 => eh_V ((e2.1 (th + 1) 5) : Int32) (fun x8 => eh_V ((e2.1 (th + 1) 6) : Int32) (fun x9 => eh_V ((e2.1 (th + 1) 7) : Int32) (fun x10 => Option.bind (eh_loop (fun (r22 : (Int32 × Int32 × Int32 × Int32 × Int32 × Int32 × Int32 × Int32 × Int32) → Option (Int32 × Int32 × Int32 × Int32 × Int32 × Int32 × Int32 × Int32)) (t11 : Int32 × Int32 × Int32 × Int32 × Int32 × Int32 × Int32 × Int32 × Int32) => if t11.2.2.2.2.2.2.2.2 < 64 then (eh_V (((((eh_ushr t11.2.2.2.2.1 6) ||| (eh_shl t11.2.2.2.2.1 26)) ^^^ ((eh_ushr t11.2.2.2.2.1 11) ||| (eh_shl t11.2.2.2.2.1 21))) ^^^ ((eh_ushr t11.2.2.2.2.1 25) ||| (eh_shl t11.2.2.2.2.1 7))) : Int32) (fun x24 => if eh_in t11.2.2.2.2.2.2.2.2 (eh_tn 1) then if eh_in t11.2.2.2.2.2.2.2.2 64 then eh_V (((((t11.2.2.2.2.2.2.2.1 + x24) + ((t11.2.2.2.2.1 &&& t11.2.2.2.2.2.1) ^^^ ((t11.2.2.2.2.1 ^^^ (-1)) &&& t11.2.2.2.2.2.2.1))) + (eh_tt 1 (eh_ix t11.2.2.2.2.2.2.2.2))) + (e2.1 (th + 2) (eh_ix t11.2.2.2.2.2.2.2.2))) : Int32) (fun x25 => eh_V (((((eh_ushr t11.1 2) ||| (eh_shl t11.1 30)) ^^^ ((eh_ushr t11.1 13) ||| (eh_shl t11.1 19))) ^^^ ((eh_ushr t11.1 22) ||| (eh_shl t11.1 10))) : Int32) (fun x26 => eh_V ((x26 + (((t11.1 &&& t11.2.1) ^^^ (t11.1 &&& t11.2.2.1)) ^^^ (t11.2.1 &&& t11.2.2.1))) : Int32) (fun x27 => eh_V ((t11.2.2.2.1 + x25) : Int32) (fun x28 => eh_V ((x25 + x27) : Int32) (fun x29 => eh_V ((t11.2.2.2.2.2.2.2.2 + 1) : Int32) (fun x30 => r22 (x29, t11.1, t11.2.1, t11.2.2.1, x28, t11.2.2.2.2.1, t11.2.2.2.2.2.1, t11.2.2.2.2.2.2.1, x30))))))) else none else none)) else (some (t11.1, t11.2.1, t11.2.2.1, t11.2.2.2.1, t11.2.2.2.2.1, t11.2.2.2.2.2.1, t11.2.2.2.2.2.2.1, t11.2.2.2.2.2.2.2.1))) eh_FU (x3, x4, x5, x6, x7, x8, x9, x10, 0)) (fun (e12 : Int32 × Int32 × Int32 × Int32 × Int32 × Int32 × Int32 × Int32) => eh_V (eh_tI e2 (th + 1) 0 ((e2.1 (th + 1) 0) + e12.1)) (fun s13 => eh_V (eh_tI s13 (th + 1) 1 ((s13.1 (th + 1) 1) + e12.2.1)) (fun s14 => eh_V (eh_tI s14 (th + 1) 2 ((s14.1 (th + 1) 2) + e12.2.2.1)) (fun s15 => eh_V (eh_tI s15 (th + 1) 3 ((s15.1 (th + 1) 3) + e12.2.2.2.1)) (fun s16 => eh_V (eh_tI s16 (th + 1) 4 ((s16.1 (th + 1) 4) + e12.2.2.2.2.1)) (fun s17 => eh_V (eh_tI s17 (th + 1) 5 ((s17.1 (th + 1) 5) + e12.2.2.2.2.2.1)) (fun s18 => eh_V (eh_tI s18 (th + 1) 6 ((s18.1 (th + 1) 6) + e12.2.2.2.2.2.2.1)) (fun s19 => eh_V (eh_tI s19 (th + 1) 7 ((s19.1 (th + 1) 7) + e12.2.2.2.2.2.2.2)) (fun s20 => some s20))))))))))))))))))
set_option maxHeartbeats 4000000 in
set_option maxRecDepth 100000 in
theorem eS_9_compress (g : eh_P) (s : eh_F) (th : Nat) (hth : eh_okS th = true) : eh_Sim g eM_9_compress (eh_R 1 0 0) eh_eV 0 0 0 (eh_en 14 [.ref th]) [] (eh_FW s) (eF_9_compress s th) := by
  unfold eF_9_compress
  refine ef_top (L := [some (.ref th), none, none, none, none, none, none, none, none, none, none, none, none, none]) rfl ?_
  refine es_blk (pc' := 3) (L' := [some (.ref th), some (.int 16), none, none, none, none, none, none, none, none, none, none, none, none]) (st' := []) [(.bipush 16, 16), (.istore_n 1, 0)] (by decide +kernel) rfl rfl ?_
  refine ef_loop1 (n := eh_FU) (i := (16, s)) (px := 116) (fun (t1 : Int32 × eh_F) => [some (.ref th), some (.int t1.1), none, none, none, none, none, none, none, none, none, none, none, none]) (fun (t1 : Int32 × eh_F) => []) (fun (t1 : Int32 × eh_F) => eh_FW t1.2) (fun (e2 : eh_F) => [some (.ref th), none, none, none, none, none, none, none, none, none, none, none, none, none]) (fun (e2 : eh_F) => []) (fun (e2 : eh_F) => eh_FW e2) (fun e2 => ?_) (fun K31 HxK31_0 r32 Hr32 t1 => ?_)
  · refine es_blk (pc' := 117) (L' := [some (.ref th), none, none, none, none, none, none, none, none, none, none, none, none, none]) (st' := [.ref th]) [(.aload_n 0, 0)] (by decide +kernel) rfl rfl ?_
    refine ef_getP (k := th) (j := 0) (q := (th + 1)) (eh_S0sh hth) eL_9_7 rfl (eh_Sx hth _).1 (eh_S1sh hth) (by decide +kernel) ?_
    refine es_blk (pc' := 121) (L' := [some (.ref th), none, none, none, none, none, none, none, none, none, none, none, none, none]) (st' := [.int 0, .ref (th + 1)]) [(.iconst 0, 0)] (by decide +kernel) rfl rfl ?_
    refine ef_aldc (k := (th + 1)) (j := 0) (eh_S1sh hth) (Or.inl ⟨rfl, rfl⟩) (by decide) rfl (by decide +kernel) ?_
    refine es_blk (pc' := 123) (L' := [some (.ref th), some (.int (e2.1 (th + 1) 0)), none, none, none, none, none, none, none, none, none, none, none, none]) (st' := []) [(.istore_n 1, 0)] (by decide +kernel) rfl rfl ?_
    refine ef_V (fun x3 => [some (.ref th), some (.int x3), none, none, none, none, none, none, none, none, none, none, none, none]) (fun _ => []) (fun _ => eh_FW e2) (fun x3 => ?_)
    refine es_blk (pc' := 124) (L' := [some (.ref th), some (.int x3), none, none, none, none, none, none, none, none, none, none, none, none]) (st' := [.ref th]) [(.aload_n 0, 0)] (by decide +kernel) rfl rfl ?_
    refine ef_getP (k := th) (j := 0) (q := (th + 1)) (eh_S0sh hth) eL_9_7 rfl (eh_Sx hth _).1 (eh_S1sh hth) (by decide +kernel) ?_
    refine es_blk (pc' := 128) (L' := [some (.ref th), some (.int x3), none, none, none, none, none, none, none, none, none, none, none, none]) (st' := [.int 1, .ref (th + 1)]) [(.iconst 1, 1)] (by decide +kernel) rfl rfl ?_
    refine ef_aldc (k := (th + 1)) (j := 1) (eh_S1sh hth) (Or.inl ⟨rfl, rfl⟩) (by decide) rfl (by decide +kernel) ?_
    refine es_blk (pc' := 130) (L' := [some (.ref th), some (.int x3), some (.int (e2.1 (th + 1) 1)), none, none, none, none, none, none, none, none, none, none, none]) (st' := []) [(.istore_n 2, 0)] (by decide +kernel) rfl rfl ?_
    refine ef_V (fun x4 => [some (.ref th), some (.int x3), some (.int x4), none, none, none, none, none, none, none, none, none, none, none]) (fun _ => []) (fun _ => eh_FW e2) (fun x4 => ?_)
    refine es_blk (pc' := 131) (L' := [some (.ref th), some (.int x3), some (.int x4), none, none, none, none, none, none, none, none, none, none, none]) (st' := [.ref th]) [(.aload_n 0, 0)] (by decide +kernel) rfl rfl ?_
    refine ef_getP (k := th) (j := 0) (q := (th + 1)) (eh_S0sh hth) eL_9_7 rfl (eh_Sx hth _).1 (eh_S1sh hth) (by decide +kernel) ?_
    refine es_blk (pc' := 135) (L' := [some (.ref th), some (.int x3), some (.int x4), none, none, none, none, none, none, none, none, none, none, none]) (st' := [.int 2, .ref (th + 1)]) [(.iconst 2, 2)] (by decide +kernel) rfl rfl ?_
    refine ef_aldc (k := (th + 1)) (j := 2) (eh_S1sh hth) (Or.inl ⟨rfl, rfl⟩) (by decide) rfl (by decide +kernel) ?_
    refine es_blk (pc' := 137) (L' := [some (.ref th), some (.int x3), some (.int x4), some (.int (e2.1 (th + 1) 2)), none, none, none, none, none, none, none, none, none, none]) (st' := []) [(.istore_n 3, 0)] (by decide +kernel) rfl rfl ?_
    refine ef_V (fun x5 => [some (.ref th), some (.int x3), some (.int x4), some (.int x5), none, none, none, none, none, none, none, none, none, none]) (fun _ => []) (fun _ => eh_FW e2) (fun x5 => ?_)
    refine es_blk (pc' := 138) (L' := [some (.ref th), some (.int x3), some (.int x4), some (.int x5), none, none, none, none, none, none, none, none, none, none]) (st' := [.ref th]) [(.aload_n 0, 0)] (by decide +kernel) rfl rfl ?_
    refine ef_getP (k := th) (j := 0) (q := (th + 1)) (eh_S0sh hth) eL_9_7 rfl (eh_Sx hth _).1 (eh_S1sh hth) (by decide +kernel) ?_
    refine es_blk (pc' := 142) (L' := [some (.ref th), some (.int x3), some (.int x4), some (.int x5), none, none, none, none, none, none, none, none, none, none]) (st' := [.int 3, .ref (th + 1)]) [(.iconst 3, 3)] (by decide +kernel) rfl rfl ?_
    refine ef_aldc (k := (th + 1)) (j := 3) (eh_S1sh hth) (Or.inl ⟨rfl, rfl⟩) (by decide) rfl (by decide +kernel) ?_
    refine es_blk (pc' := 145) (L' := [some (.ref th), some (.int x3), some (.int x4), some (.int x5), some (.int (e2.1 (th + 1) 3)), none, none, none, none, none, none, none, none, none]) (st' := []) [(.istore 4, 0)] (by decide +kernel) rfl rfl ?_
    refine ef_V (fun x6 => [some (.ref th), some (.int x3), some (.int x4), some (.int x5), some (.int x6), none, none, none, none, none, none, none, none, none]) (fun _ => []) (fun _ => eh_FW e2) (fun x6 => ?_)
    refine es_blk (pc' := 146) (L' := [some (.ref th), some (.int x3), some (.int x4), some (.int x5), some (.int x6), none, none, none, none, none, none, none, none, none]) (st' := [.ref th]) [(.aload_n 0, 0)] (by decide +kernel) rfl rfl ?_
    refine ef_getP (k := th) (j := 0) (q := (th + 1)) (eh_S0sh hth) eL_9_7 rfl (eh_Sx hth _).1 (eh_S1sh hth) (by decide +kernel) ?_
    refine es_blk (pc' := 150) (L' := [some (.ref th), some (.int x3), some (.int x4), some (.int x5), some (.int x6), none, none, none, none, none, none, none, none, none]) (st' := [.int 4, .ref (th + 1)]) [(.iconst 4, 4)] (by decide +kernel) rfl rfl ?_
    refine ef_aldc (k := (th + 1)) (j := 4) (eh_S1sh hth) (Or.inl ⟨rfl, rfl⟩) (by decide) rfl (by decide +kernel) ?_
    refine es_blk (pc' := 153) (L' := [some (.ref th), some (.int x3), some (.int x4), some (.int x5), some (.int x6), some (.int (e2.1 (th + 1) 4)), none, none, none, none, none, none, none, none]) (st' := []) [(.istore 5, 0)] (by decide +kernel) rfl rfl ?_
    refine ef_V (fun x7 => [some (.ref th), some (.int x3), some (.int x4), some (.int x5), some (.int x6), some (.int x7), none, none, none, none, none, none, none, none]) (fun _ => []) (fun _ => eh_FW e2) (fun x7 => ?_)
    refine es_blk (pc' := 154) (L' := [some (.ref th), some (.int x3), some (.int x4), some (.int x5), some (.int x6), some (.int x7), none, none, none, none, none, none, none, none]) (st' := [.ref th]) [(.aload_n 0, 0)] (by decide +kernel) rfl rfl ?_
    refine ef_getP (k := th) (j := 0) (q := (th + 1)) (eh_S0sh hth) eL_9_7 rfl (eh_Sx hth _).1 (eh_S1sh hth) (by decide +kernel) ?_
    refine es_blk (pc' := 158) (L' := [some (.ref th), some (.int x3), some (.int x4), some (.int x5), some (.int x6), some (.int x7), none, none, none, none, none, none, none, none]) (st' := [.int 5, .ref (th + 1)]) [(.iconst 5, 5)] (by decide +kernel) rfl rfl ?_
    refine ef_aldc (k := (th + 1)) (j := 5) (eh_S1sh hth) (Or.inl ⟨rfl, rfl⟩) (by decide) rfl (by decide +kernel) ?_
    refine es_blk (pc' := 161) (L' := [some (.ref th), some (.int x3), some (.int x4), some (.int x5), some (.int x6), some (.int x7), some (.int (e2.1 (th + 1) 5)), none, none, none, none, none, none, none]) (st' := []) [(.istore 6, 0)] (by decide +kernel) rfl rfl ?_
    refine ef_V (fun x8 => [some (.ref th), some (.int x3), some (.int x4), some (.int x5), some (.int x6), some (.int x7), some (.int x8), none, none, none, none, none, none, none]) (fun _ => []) (fun _ => eh_FW e2) (fun x8 => ?_)
    refine es_blk (pc' := 162) (L' := [some (.ref th), some (.int x3), some (.int x4), some (.int x5), some (.int x6), some (.int x7), some (.int x8), none, none, none, none, none, none, none]) (st' := [.ref th]) [(.aload_n 0, 0)] (by decide +kernel) rfl rfl ?_
    refine ef_getP (k := th) (j := 0) (q := (th + 1)) (eh_S0sh hth) eL_9_7 rfl (eh_Sx hth _).1 (eh_S1sh hth) (by decide +kernel) ?_
    refine es_blk (pc' := 167) (L' := [some (.ref th), some (.int x3), some (.int x4), some (.int x5), some (.int x6), some (.int x7), some (.int x8), none, none, none, none, none, none, none]) (st' := [.int 6, .ref (th + 1)]) [(.bipush 6, 6)] (by decide +kernel) rfl rfl ?_
    refine ef_aldc (k := (th + 1)) (j := 6) (eh_S1sh hth) (Or.inl ⟨rfl, rfl⟩) (by decide) rfl (by decide +kernel) ?_
    refine es_blk (pc' := 170) (L' := [some (.ref th), some (.int x3), some (.int x4), some (.int x5), some (.int x6), some (.int x7), some (.int x8), some (.int (e2.1 (th + 1) 6)), none, none, none, none, none, none]) (st' := []) [(.istore 7, 0)] (by decide +kernel) rfl rfl ?_
    refine ef_V (fun x9 => [some (.ref th), some (.int x3), some (.int x4), some (.int x5), some (.int x6), some (.int x7), some (.int x8), some (.int x9), none, none, none, none, none, none]) (fun _ => []) (fun _ => eh_FW e2) (fun x9 => ?_)
    refine es_blk (pc' := 171) (L' := [some (.ref th), some (.int x3), some (.int x4), some (.int x5), some (.int x6), some (.int x7), some (.int x8), some (.int x9), none, none, none, none, none, none]) (st' := [.ref th]) [(.aload_n 0, 0)] (by decide +kernel) rfl rfl ?_
    refine ef_getP (k := th) (j := 0) (q := (th + 1)) (eh_S0sh hth) eL_9_7 rfl (eh_Sx hth _).1 (eh_S1sh hth) (by decide +kernel) ?_
    refine es_blk (pc' := 176) (L' := [some (.ref th), some (.int x3), some (.int x4), some (.int x5), some (.int x6), some (.int x7), some (.int x8), some (.int x9), none, none, none, none, none, none]) (st' := [.int 7, .ref (th + 1)]) [(.bipush 7, 7)] (by decide +kernel) rfl rfl ?_
    refine ef_aldc (k := (th + 1)) (j := 7) (eh_S1sh hth) (Or.inl ⟨rfl, rfl⟩) (by decide) rfl (by decide +kernel) ?_
    refine es_blk (pc' := 179) (L' := [some (.ref th), some (.int x3), some (.int x4), some (.int x5), some (.int x6), some (.int x7), some (.int x8), some (.int x9), some (.int (e2.1 (th + 1) 7)), none, none, none, none, none]) (st' := []) [(.istore 8, 0)] (by decide +kernel) rfl rfl ?_
    refine ef_V (fun x10 => [some (.ref th), some (.int x3), some (.int x4), some (.int x5), some (.int x6), some (.int x7), some (.int x8), some (.int x9), some (.int x10), none, none, none, none, none]) (fun _ => []) (fun _ => eh_FW e2) (fun x10 => ?_)
    refine es_blk (pc' := 182) (L' := [some (.ref th), some (.int x3), some (.int x4), some (.int x5), some (.int x6), some (.int x7), some (.int x8), some (.int x9), some (.int x10), some (.int 0), none, none, none, none]) (st' := []) [(.iconst 0, 0), (.istore 9, 0)] (by decide +kernel) rfl rfl ?_
    refine ef_loop1 (n := eh_FU) (i := (x3, x4, x5, x6, x7, x8, x9, x10, 0)) (px := 346) (fun (t11 : Int32 × Int32 × Int32 × Int32 × Int32 × Int32 × Int32 × Int32 × Int32) => [some (.ref th), some (.int t11.1), some (.int t11.2.1), some (.int t11.2.2.1), some (.int t11.2.2.2.1), some (.int t11.2.2.2.2.1), some (.int t11.2.2.2.2.2.1), some (.int t11.2.2.2.2.2.2.1), some (.int t11.2.2.2.2.2.2.2.1), some (.int t11.2.2.2.2.2.2.2.2), none, none, none, none]) (fun (t11 : Int32 × Int32 × Int32 × Int32 × Int32 × Int32 × Int32 × Int32 × Int32) => []) (fun (t11 : Int32 × Int32 × Int32 × Int32 × Int32 × Int32 × Int32 × Int32 × Int32) => eh_FW e2) (fun (e12 : Int32 × Int32 × Int32 × Int32 × Int32 × Int32 × Int32 × Int32) => [some (.ref th), some (.int e12.1), some (.int e12.2.1), some (.int e12.2.2.1), some (.int e12.2.2.2.1), some (.int e12.2.2.2.2.1), some (.int e12.2.2.2.2.2.1), some (.int e12.2.2.2.2.2.2.1), some (.int e12.2.2.2.2.2.2.2), none, none, none, none, none]) (fun (e12 : Int32 × Int32 × Int32 × Int32 × Int32 × Int32 × Int32 × Int32) => []) (fun (e12 : Int32 × Int32 × Int32 × Int32 × Int32 × Int32 × Int32 × Int32) => eh_FW e2) (fun e12 => ?_) (fun K21 HxK21_0 r22 Hr22 t11 => ?_)
    · refine es_blk (pc' := 347) (L' := [some (.ref th), some (.int e12.1), some (.int e12.2.1), some (.int e12.2.2.1), some (.int e12.2.2.2.1), some (.int e12.2.2.2.2.1), some (.int e12.2.2.2.2.2.1), some (.int e12.2.2.2.2.2.2.1), some (.int e12.2.2.2.2.2.2.2), none, none, none, none, none]) (st' := [.ref th]) [(.aload_n 0, 0)] (by decide +kernel) rfl rfl ?_
      refine ef_getP (k := th) (j := 0) (q := (th + 1)) (eh_S0sh hth) eL_9_7 rfl (eh_Sx hth _).1 (eh_S1sh hth) (by decide +kernel) ?_
      refine es_blk (pc' := 352) (L' := [some (.ref th), some (.int e12.1), some (.int e12.2.1), some (.int e12.2.2.1), some (.int e12.2.2.2.1), some (.int e12.2.2.2.2.1), some (.int e12.2.2.2.2.2.1), some (.int e12.2.2.2.2.2.2.1), some (.int e12.2.2.2.2.2.2.2), none, none, none, none, none]) (st' := [.int 0, .ref (th + 1), .int 0, .ref (th + 1)]) [(.iconst 0, 0), (.dup2, 0)] (by decide +kernel) rfl rfl ?_
      refine ef_aldc (k := (th + 1)) (j := 0) (eh_S1sh hth) (Or.inl ⟨rfl, rfl⟩) (by decide) rfl (by decide +kernel) ?_
      refine es_blk (pc' := 355) (L' := [some (.ref th), some (.int e12.1), some (.int e12.2.1), some (.int e12.2.2.1), some (.int e12.2.2.2.1), some (.int e12.2.2.2.2.1), some (.int e12.2.2.2.2.2.1), some (.int e12.2.2.2.2.2.2.1), some (.int e12.2.2.2.2.2.2.2), none, none, none, none, none]) (st' := [.int ((e2.1 (th + 1) 0) + e12.1), .int 0, .ref (th + 1)]) [(.iload_n 1, 0), (.iadd, 0)] (by decide +kernel) rfl rfl ?_
      refine ef_astc (k := (th + 1)) (j := 0) (eh_S1sh hth) (by decide) rfl (by decide +kernel) ?_
      refine ef_V (fun _ => [some (.ref th), some (.int e12.1), some (.int e12.2.1), some (.int e12.2.2.1), some (.int e12.2.2.2.1), some (.int e12.2.2.2.2.1), some (.int e12.2.2.2.2.2.1), some (.int e12.2.2.2.2.2.2.1), some (.int e12.2.2.2.2.2.2.2), none, none, none, none, none]) (fun _ => []) (fun s13 => eh_FW s13) (fun s13 => ?_)
      refine es_blk (pc' := 357) (L' := [some (.ref th), some (.int e12.1), some (.int e12.2.1), some (.int e12.2.2.1), some (.int e12.2.2.2.1), some (.int e12.2.2.2.2.1), some (.int e12.2.2.2.2.2.1), some (.int e12.2.2.2.2.2.2.1), some (.int e12.2.2.2.2.2.2.2), none, none, none, none, none]) (st' := [.ref th]) [(.aload_n 0, 0)] (by decide +kernel) rfl rfl ?_
      refine ef_getP (k := th) (j := 0) (q := (th + 1)) (eh_S0sh hth) eL_9_7 rfl (eh_Sx hth _).1 (eh_S1sh hth) (by decide +kernel) ?_
      refine es_blk (pc' := 362) (L' := [some (.ref th), some (.int e12.1), some (.int e12.2.1), some (.int e12.2.2.1), some (.int e12.2.2.2.1), some (.int e12.2.2.2.2.1), some (.int e12.2.2.2.2.2.1), some (.int e12.2.2.2.2.2.2.1), some (.int e12.2.2.2.2.2.2.2), none, none, none, none, none]) (st' := [.int 1, .ref (th + 1), .int 1, .ref (th + 1)]) [(.iconst 1, 1), (.dup2, 0)] (by decide +kernel) rfl rfl ?_
      refine ef_aldc (k := (th + 1)) (j := 1) (eh_S1sh hth) (Or.inl ⟨rfl, rfl⟩) (by decide) rfl (by decide +kernel) ?_
      refine es_blk (pc' := 365) (L' := [some (.ref th), some (.int e12.1), some (.int e12.2.1), some (.int e12.2.2.1), some (.int e12.2.2.2.1), some (.int e12.2.2.2.2.1), some (.int e12.2.2.2.2.2.1), some (.int e12.2.2.2.2.2.2.1), some (.int e12.2.2.2.2.2.2.2), none, none, none, none, none]) (st' := [.int ((s13.1 (th + 1) 1) + e12.2.1), .int 1, .ref (th + 1)]) [(.iload_n 2, 0), (.iadd, 0)] (by decide +kernel) rfl rfl ?_
      refine ef_astc (k := (th + 1)) (j := 1) (eh_S1sh hth) (by decide) rfl (by decide +kernel) ?_
      refine ef_V (fun _ => [some (.ref th), some (.int e12.1), some (.int e12.2.1), some (.int e12.2.2.1), some (.int e12.2.2.2.1), some (.int e12.2.2.2.2.1), some (.int e12.2.2.2.2.2.1), some (.int e12.2.2.2.2.2.2.1), some (.int e12.2.2.2.2.2.2.2), none, none, none, none, none]) (fun _ => []) (fun s14 => eh_FW s14) (fun s14 => ?_)
      refine es_blk (pc' := 367) (L' := [some (.ref th), some (.int e12.1), some (.int e12.2.1), some (.int e12.2.2.1), some (.int e12.2.2.2.1), some (.int e12.2.2.2.2.1), some (.int e12.2.2.2.2.2.1), some (.int e12.2.2.2.2.2.2.1), some (.int e12.2.2.2.2.2.2.2), none, none, none, none, none]) (st' := [.ref th]) [(.aload_n 0, 0)] (by decide +kernel) rfl rfl ?_
      refine ef_getP (k := th) (j := 0) (q := (th + 1)) (eh_S0sh hth) eL_9_7 rfl (eh_Sx hth _).1 (eh_S1sh hth) (by decide +kernel) ?_
      refine es_blk (pc' := 372) (L' := [some (.ref th), some (.int e12.1), some (.int e12.2.1), some (.int e12.2.2.1), some (.int e12.2.2.2.1), some (.int e12.2.2.2.2.1), some (.int e12.2.2.2.2.2.1), some (.int e12.2.2.2.2.2.2.1), some (.int e12.2.2.2.2.2.2.2), none, none, none, none, none]) (st' := [.int 2, .ref (th + 1), .int 2, .ref (th + 1)]) [(.iconst 2, 2), (.dup2, 0)] (by decide +kernel) rfl rfl ?_
      refine ef_aldc (k := (th + 1)) (j := 2) (eh_S1sh hth) (Or.inl ⟨rfl, rfl⟩) (by decide) rfl (by decide +kernel) ?_
      refine es_blk (pc' := 375) (L' := [some (.ref th), some (.int e12.1), some (.int e12.2.1), some (.int e12.2.2.1), some (.int e12.2.2.2.1), some (.int e12.2.2.2.2.1), some (.int e12.2.2.2.2.2.1), some (.int e12.2.2.2.2.2.2.1), some (.int e12.2.2.2.2.2.2.2), none, none, none, none, none]) (st' := [.int ((s14.1 (th + 1) 2) + e12.2.2.1), .int 2, .ref (th + 1)]) [(.iload_n 3, 0), (.iadd, 0)] (by decide +kernel) rfl rfl ?_
      refine ef_astc (k := (th + 1)) (j := 2) (eh_S1sh hth) (by decide) rfl (by decide +kernel) ?_
      refine ef_V (fun _ => [some (.ref th), some (.int e12.1), some (.int e12.2.1), some (.int e12.2.2.1), some (.int e12.2.2.2.1), some (.int e12.2.2.2.2.1), some (.int e12.2.2.2.2.2.1), some (.int e12.2.2.2.2.2.2.1), some (.int e12.2.2.2.2.2.2.2), none, none, none, none, none]) (fun _ => []) (fun s15 => eh_FW s15) (fun s15 => ?_)
      refine es_blk (pc' := 377) (L' := [some (.ref th), some (.int e12.1), some (.int e12.2.1), some (.int e12.2.2.1), some (.int e12.2.2.2.1), some (.int e12.2.2.2.2.1), some (.int e12.2.2.2.2.2.1), some (.int e12.2.2.2.2.2.2.1), some (.int e12.2.2.2.2.2.2.2), none, none, none, none, none]) (st' := [.ref th]) [(.aload_n 0, 0)] (by decide +kernel) rfl rfl ?_
      refine ef_getP (k := th) (j := 0) (q := (th + 1)) (eh_S0sh hth) eL_9_7 rfl (eh_Sx hth _).1 (eh_S1sh hth) (by decide +kernel) ?_
      refine es_blk (pc' := 382) (L' := [some (.ref th), some (.int e12.1), some (.int e12.2.1), some (.int e12.2.2.1), some (.int e12.2.2.2.1), some (.int e12.2.2.2.2.1), some (.int e12.2.2.2.2.2.1), some (.int e12.2.2.2.2.2.2.1), some (.int e12.2.2.2.2.2.2.2), none, none, none, none, none]) (st' := [.int 3, .ref (th + 1), .int 3, .ref (th + 1)]) [(.iconst 3, 3), (.dup2, 0)] (by decide +kernel) rfl rfl ?_
      refine ef_aldc (k := (th + 1)) (j := 3) (eh_S1sh hth) (Or.inl ⟨rfl, rfl⟩) (by decide) rfl (by decide +kernel) ?_
      refine es_blk (pc' := 386) (L' := [some (.ref th), some (.int e12.1), some (.int e12.2.1), some (.int e12.2.2.1), some (.int e12.2.2.2.1), some (.int e12.2.2.2.2.1), some (.int e12.2.2.2.2.2.1), some (.int e12.2.2.2.2.2.2.1), some (.int e12.2.2.2.2.2.2.2), none, none, none, none, none]) (st' := [.int ((s15.1 (th + 1) 3) + e12.2.2.2.1), .int 3, .ref (th + 1)]) [(.iload 4, 0), (.iadd, 0)] (by decide +kernel) rfl rfl ?_
      refine ef_astc (k := (th + 1)) (j := 3) (eh_S1sh hth) (by decide) rfl (by decide +kernel) ?_
      refine ef_V (fun _ => [some (.ref th), some (.int e12.1), some (.int e12.2.1), some (.int e12.2.2.1), some (.int e12.2.2.2.1), some (.int e12.2.2.2.2.1), some (.int e12.2.2.2.2.2.1), some (.int e12.2.2.2.2.2.2.1), some (.int e12.2.2.2.2.2.2.2), none, none, none, none, none]) (fun _ => []) (fun s16 => eh_FW s16) (fun s16 => ?_)
      refine es_blk (pc' := 388) (L' := [some (.ref th), some (.int e12.1), some (.int e12.2.1), some (.int e12.2.2.1), some (.int e12.2.2.2.1), some (.int e12.2.2.2.2.1), some (.int e12.2.2.2.2.2.1), some (.int e12.2.2.2.2.2.2.1), some (.int e12.2.2.2.2.2.2.2), none, none, none, none, none]) (st' := [.ref th]) [(.aload_n 0, 0)] (by decide +kernel) rfl rfl ?_
      refine ef_getP (k := th) (j := 0) (q := (th + 1)) (eh_S0sh hth) eL_9_7 rfl (eh_Sx hth _).1 (eh_S1sh hth) (by decide +kernel) ?_
      refine es_blk (pc' := 393) (L' := [some (.ref th), some (.int e12.1), some (.int e12.2.1), some (.int e12.2.2.1), some (.int e12.2.2.2.1), some (.int e12.2.2.2.2.1), some (.int e12.2.2.2.2.2.1), some (.int e12.2.2.2.2.2.2.1), some (.int e12.2.2.2.2.2.2.2), none, none, none, none, none]) (st' := [.int 4, .ref (th + 1), .int 4, .ref (th + 1)]) [(.iconst 4, 4), (.dup2, 0)] (by decide +kernel) rfl rfl ?_
      refine ef_aldc (k := (th + 1)) (j := 4) (eh_S1sh hth) (Or.inl ⟨rfl, rfl⟩) (by decide) rfl (by decide +kernel) ?_
      refine es_blk (pc' := 397) (L' := [some (.ref th), some (.int e12.1), some (.int e12.2.1), some (.int e12.2.2.1), some (.int e12.2.2.2.1), some (.int e12.2.2.2.2.1), some (.int e12.2.2.2.2.2.1), some (.int e12.2.2.2.2.2.2.1), some (.int e12.2.2.2.2.2.2.2), none, none, none, none, none]) (st' := [.int ((s16.1 (th + 1) 4) + e12.2.2.2.2.1), .int 4, .ref (th + 1)]) [(.iload 5, 0), (.iadd, 0)] (by decide +kernel) rfl rfl ?_
      refine ef_astc (k := (th + 1)) (j := 4) (eh_S1sh hth) (by decide) rfl (by decide +kernel) ?_
      refine ef_V (fun _ => [some (.ref th), some (.int e12.1), some (.int e12.2.1), some (.int e12.2.2.1), some (.int e12.2.2.2.1), some (.int e12.2.2.2.2.1), some (.int e12.2.2.2.2.2.1), some (.int e12.2.2.2.2.2.2.1), some (.int e12.2.2.2.2.2.2.2), none, none, none, none, none]) (fun _ => []) (fun s17 => eh_FW s17) (fun s17 => ?_)
      refine es_blk (pc' := 399) (L' := [some (.ref th), some (.int e12.1), some (.int e12.2.1), some (.int e12.2.2.1), some (.int e12.2.2.2.1), some (.int e12.2.2.2.2.1), some (.int e12.2.2.2.2.2.1), some (.int e12.2.2.2.2.2.2.1), some (.int e12.2.2.2.2.2.2.2), none, none, none, none, none]) (st' := [.ref th]) [(.aload_n 0, 0)] (by decide +kernel) rfl rfl ?_
      refine ef_getP (k := th) (j := 0) (q := (th + 1)) (eh_S0sh hth) eL_9_7 rfl (eh_Sx hth _).1 (eh_S1sh hth) (by decide +kernel) ?_
      refine es_blk (pc' := 404) (L' := [some (.ref th), some (.int e12.1), some (.int e12.2.1), some (.int e12.2.2.1), some (.int e12.2.2.2.1), some (.int e12.2.2.2.2.1), some (.int e12.2.2.2.2.2.1), some (.int e12.2.2.2.2.2.2.1), some (.int e12.2.2.2.2.2.2.2), none, none, none, none, none]) (st' := [.int 5, .ref (th + 1), .int 5, .ref (th + 1)]) [(.iconst 5, 5), (.dup2, 0)] (by decide +kernel) rfl rfl ?_
      refine ef_aldc (k := (th + 1)) (j := 5) (eh_S1sh hth) (Or.inl ⟨rfl, rfl⟩) (by decide) rfl (by decide +kernel) ?_
      refine es_blk (pc' := 408) (L' := [some (.ref th), some (.int e12.1), some (.int e12.2.1), some (.int e12.2.2.1), some (.int e12.2.2.2.1), some (.int e12.2.2.2.2.1), some (.int e12.2.2.2.2.2.1), some (.int e12.2.2.2.2.2.2.1), some (.int e12.2.2.2.2.2.2.2), none, none, none, none, none]) (st' := [.int ((s17.1 (th + 1) 5) + e12.2.2.2.2.2.1), .int 5, .ref (th + 1)]) [(.iload 6, 0), (.iadd, 0)] (by decide +kernel) rfl rfl ?_
      refine ef_astc (k := (th + 1)) (j := 5) (eh_S1sh hth) (by decide) rfl (by decide +kernel) ?_
      refine ef_V (fun _ => [some (.ref th), some (.int e12.1), some (.int e12.2.1), some (.int e12.2.2.1), some (.int e12.2.2.2.1), some (.int e12.2.2.2.2.1), some (.int e12.2.2.2.2.2.1), some (.int e12.2.2.2.2.2.2.1), some (.int e12.2.2.2.2.2.2.2), none, none, none, none, none]) (fun _ => []) (fun s18 => eh_FW s18) (fun s18 => ?_)
      refine es_blk (pc' := 410) (L' := [some (.ref th), some (.int e12.1), some (.int e12.2.1), some (.int e12.2.2.1), some (.int e12.2.2.2.1), some (.int e12.2.2.2.2.1), some (.int e12.2.2.2.2.2.1), some (.int e12.2.2.2.2.2.2.1), some (.int e12.2.2.2.2.2.2.2), none, none, none, none, none]) (st' := [.ref th]) [(.aload_n 0, 0)] (by decide +kernel) rfl rfl ?_
      refine ef_getP (k := th) (j := 0) (q := (th + 1)) (eh_S0sh hth) eL_9_7 rfl (eh_Sx hth _).1 (eh_S1sh hth) (by decide +kernel) ?_
      refine es_blk (pc' := 416) (L' := [some (.ref th), some (.int e12.1), some (.int e12.2.1), some (.int e12.2.2.1), some (.int e12.2.2.2.1), some (.int e12.2.2.2.2.1), some (.int e12.2.2.2.2.2.1), some (.int e12.2.2.2.2.2.2.1), some (.int e12.2.2.2.2.2.2.2), none, none, none, none, none]) (st' := [.int 6, .ref (th + 1), .int 6, .ref (th + 1)]) [(.bipush 6, 6), (.dup2, 0)] (by decide +kernel) rfl rfl ?_
      refine ef_aldc (k := (th + 1)) (j := 6) (eh_S1sh hth) (Or.inl ⟨rfl, rfl⟩) (by decide) rfl (by decide +kernel) ?_
      refine es_blk (pc' := 420) (L' := [some (.ref th), some (.int e12.1), some (.int e12.2.1), some (.int e12.2.2.1), some (.int e12.2.2.2.1), some (.int e12.2.2.2.2.1), some (.int e12.2.2.2.2.2.1), some (.int e12.2.2.2.2.2.2.1), some (.int e12.2.2.2.2.2.2.2), none, none, none, none, none]) (st' := [.int ((s18.1 (th + 1) 6) + e12.2.2.2.2.2.2.1), .int 6, .ref (th + 1)]) [(.iload 7, 0), (.iadd, 0)] (by decide +kernel) rfl rfl ?_
      refine ef_astc (k := (th + 1)) (j := 6) (eh_S1sh hth) (by decide) rfl (by decide +kernel) ?_
      refine ef_V (fun _ => [some (.ref th), some (.int e12.1), some (.int e12.2.1), some (.int e12.2.2.1), some (.int e12.2.2.2.1), some (.int e12.2.2.2.2.1), some (.int e12.2.2.2.2.2.1), some (.int e12.2.2.2.2.2.2.1), some (.int e12.2.2.2.2.2.2.2), none, none, none, none, none]) (fun _ => []) (fun s19 => eh_FW s19) (fun s19 => ?_)
      refine es_blk (pc' := 422) (L' := [some (.ref th), some (.int e12.1), some (.int e12.2.1), some (.int e12.2.2.1), some (.int e12.2.2.2.1), some (.int e12.2.2.2.2.1), some (.int e12.2.2.2.2.2.1), some (.int e12.2.2.2.2.2.2.1), some (.int e12.2.2.2.2.2.2.2), none, none, none, none, none]) (st' := [.ref th]) [(.aload_n 0, 0)] (by decide +kernel) rfl rfl ?_
      refine ef_getP (k := th) (j := 0) (q := (th + 1)) (eh_S0sh hth) eL_9_7 rfl (eh_Sx hth _).1 (eh_S1sh hth) (by decide +kernel) ?_
      refine es_blk (pc' := 428) (L' := [some (.ref th), some (.int e12.1), some (.int e12.2.1), some (.int e12.2.2.1), some (.int e12.2.2.2.1), some (.int e12.2.2.2.2.1), some (.int e12.2.2.2.2.2.1), some (.int e12.2.2.2.2.2.2.1), some (.int e12.2.2.2.2.2.2.2), none, none, none, none, none]) (st' := [.int 7, .ref (th + 1), .int 7, .ref (th + 1)]) [(.bipush 7, 7), (.dup2, 0)] (by decide +kernel) rfl rfl ?_
      refine ef_aldc (k := (th + 1)) (j := 7) (eh_S1sh hth) (Or.inl ⟨rfl, rfl⟩) (by decide) rfl (by decide +kernel) ?_
      refine es_blk (pc' := 432) (L' := [some (.ref th), some (.int e12.1), some (.int e12.2.1), some (.int e12.2.2.1), some (.int e12.2.2.2.1), some (.int e12.2.2.2.2.1), some (.int e12.2.2.2.2.2.1), some (.int e12.2.2.2.2.2.2.1), some (.int e12.2.2.2.2.2.2.2), none, none, none, none, none]) (st' := [.int ((s19.1 (th + 1) 7) + e12.2.2.2.2.2.2.2), .int 7, .ref (th + 1)]) [(.iload 8, 0), (.iadd, 0)] (by decide +kernel) rfl rfl ?_
      refine ef_astc (k := (th + 1)) (j := 7) (eh_S1sh hth) (by decide) rfl (by decide +kernel) ?_
      refine ef_V (fun _ => [some (.ref th), some (.int e12.1), some (.int e12.2.1), some (.int e12.2.2.1), some (.int e12.2.2.2.1), some (.int e12.2.2.2.2.1), some (.int e12.2.2.2.2.2.1), some (.int e12.2.2.2.2.2.2.1), some (.int e12.2.2.2.2.2.2.2), none, none, none, none, none]) (fun _ => []) (fun s20 => eh_FW s20) (fun s20 => ?_)
      exact es_ret rfl rfl rfl ⟨by decide +kernel, rfl⟩ (Nat.le_refl _) (Nat.le_refl _)
    · refine es_blk (pc' := 186) (L' := [some (.ref th), some (.int t11.1), some (.int t11.2.1), some (.int t11.2.2.1), some (.int t11.2.2.2.1), some (.int t11.2.2.2.2.1), some (.int t11.2.2.2.2.2.1), some (.int t11.2.2.2.2.2.2.1), some (.int t11.2.2.2.2.2.2.2.1), some (.int t11.2.2.2.2.2.2.2.2), none, none, none, none]) (st' := [.int 64, .int t11.2.2.2.2.2.2.2.2]) [(.iload 9, 0), (.bipush 64, 64)] (by decide +kernel) rfl rfl ?_
      refine es_ige (tgt := 346) (off := (160)) (by decide +kernel) (by decide) (fun h23 => ?_) (fun h23 => ?_)
      · refine es_blk (pc' := 226) (L' := [some (.ref th), some (.int t11.1), some (.int t11.2.1), some (.int t11.2.2.1), some (.int t11.2.2.2.1), some (.int t11.2.2.2.2.1), some (.int t11.2.2.2.2.2.1), some (.int t11.2.2.2.2.2.2.1), some (.int t11.2.2.2.2.2.2.2.1), some (.int t11.2.2.2.2.2.2.2.2), some (.int ((((eh_ushr t11.2.2.2.2.1 6) ||| (eh_shl t11.2.2.2.2.1 26)) ^^^ ((eh_ushr t11.2.2.2.2.1 11) ||| (eh_shl t11.2.2.2.2.1 21))) ^^^ ((eh_ushr t11.2.2.2.2.1 25) ||| (eh_shl t11.2.2.2.2.1 7)))), none, none, none]) (st' := []) [(.iload 5, 0), (.bipush 6, 6), (.iushr, 0), (.iload 5, 0), (.bipush 26, 26), (.ishl, 0), (.ior, 0), (.iload 5, 0), (.bipush 11, 11), (.iushr, 0), (.iload 5, 0), (.bipush 21, 21), (.ishl, 0), (.ior, 0), (.ixor, 0), (.iload 5, 0), (.bipush 25, 25), (.iushr, 0), (.iload 5, 0), (.bipush 7, 7), (.ishl, 0), (.ior, 0), (.ixor, 0), (.istore 10, 0)] (by decide +kernel) rfl rfl ?_
        refine ef_V (fun x24 => [some (.ref th), some (.int t11.1), some (.int t11.2.1), some (.int t11.2.2.1), some (.int t11.2.2.2.1), some (.int t11.2.2.2.2.1), some (.int t11.2.2.2.2.2.1), some (.int t11.2.2.2.2.2.2.1), some (.int t11.2.2.2.2.2.2.2.1), some (.int t11.2.2.2.2.2.2.2.2), some (.int x24), none, none, none]) (fun _ => []) (fun _ => eh_FW e2) (fun x24 => ?_)
        refine es_blk (pc' := 245) (L' := [some (.ref th), some (.int t11.1), some (.int t11.2.1), some (.int t11.2.2.1), some (.int t11.2.2.2.1), some (.int t11.2.2.2.2.1), some (.int t11.2.2.2.2.2.1), some (.int t11.2.2.2.2.2.2.1), some (.int t11.2.2.2.2.2.2.2.1), some (.int t11.2.2.2.2.2.2.2.2), some (.int x24), none, none, none]) (st' := [.int ((t11.2.2.2.2.2.2.2.1 + x24) + ((t11.2.2.2.2.1 &&& t11.2.2.2.2.2.1) ^^^ ((t11.2.2.2.2.1 ^^^ (-1)) &&& t11.2.2.2.2.2.2.1)))]) [(.iload 8, 0), (.iload 10, 0), (.iadd, 0), (.iload 5, 0), (.iload 6, 0), (.iand, 0), (.iload 5, 0), (.iconst (-1), (-1)), (.ixor, 0), (.iload 7, 0), (.iand, 0), (.ixor, 0), (.iadd, 0)] (by decide +kernel) rfl rfl ?_
        refine ef_stat (i := 1) (by decide) eG_9_59 (by decide +kernel) ?_
        refine es_blk (pc' := 250) (L' := [some (.ref th), some (.int t11.1), some (.int t11.2.1), some (.int t11.2.2.1), some (.int t11.2.2.2.1), some (.int t11.2.2.2.2.1), some (.int t11.2.2.2.2.2.1), some (.int t11.2.2.2.2.2.2.1), some (.int t11.2.2.2.2.2.2.2.1), some (.int t11.2.2.2.2.2.2.2.2), some (.int x24), none, none, none]) (st' := [.int t11.2.2.2.2.2.2.2.2, .ref (eh_SB + 1), .int ((t11.2.2.2.2.2.2.2.1 + x24) + ((t11.2.2.2.2.1 &&& t11.2.2.2.2.2.1) ^^^ ((t11.2.2.2.2.1 ^^^ (-1)) &&& t11.2.2.2.2.2.2.1)))]) [(.iload 9, 0)] (by decide +kernel) rfl rfl ?_
        refine ef_tld (i := 1) (by decide) (by decide +kernel) (fun _ => ?_)
        refine es_blk (pc' := 253) (L' := [some (.ref th), some (.int t11.1), some (.int t11.2.1), some (.int t11.2.2.1), some (.int t11.2.2.2.1), some (.int t11.2.2.2.2.1), some (.int t11.2.2.2.2.2.1), some (.int t11.2.2.2.2.2.2.1), some (.int t11.2.2.2.2.2.2.2.1), some (.int t11.2.2.2.2.2.2.2.2), some (.int x24), none, none, none]) (st' := [.ref th, .int (((t11.2.2.2.2.2.2.2.1 + x24) + ((t11.2.2.2.2.1 &&& t11.2.2.2.2.2.1) ^^^ ((t11.2.2.2.2.1 ^^^ (-1)) &&& t11.2.2.2.2.2.2.1))) + (eh_tt 1 (eh_ix t11.2.2.2.2.2.2.2.2)))]) [(.iadd, 0), (.aload_n 0, 0)] (by decide +kernel) rfl rfl ?_
        refine ef_getP (k := th) (j := 1) (q := (th + 2)) (eh_S0sh hth) eL_9_13 rfl (eh_Sx hth _).2.1 (eh_S2sh hth) (by decide +kernel) ?_
        refine es_blk (pc' := 258) (L' := [some (.ref th), some (.int t11.1), some (.int t11.2.1), some (.int t11.2.2.1), some (.int t11.2.2.2.1), some (.int t11.2.2.2.2.1), some (.int t11.2.2.2.2.2.1), some (.int t11.2.2.2.2.2.2.1), some (.int t11.2.2.2.2.2.2.2.1), some (.int t11.2.2.2.2.2.2.2.2), some (.int x24), none, none, none]) (st' := [.int t11.2.2.2.2.2.2.2.2, .ref (th + 2), .int (((t11.2.2.2.2.2.2.2.1 + x24) + ((t11.2.2.2.2.1 &&& t11.2.2.2.2.2.1) ^^^ ((t11.2.2.2.2.1 ^^^ (-1)) &&& t11.2.2.2.2.2.2.1))) + (eh_tt 1 (eh_ix t11.2.2.2.2.2.2.2.2)))]) [(.iload 9, 0)] (by decide +kernel) rfl rfl ?_
        refine ef_ald (k := (th + 2)) (eh_S2sh hth) (Or.inl ⟨rfl, rfl⟩) (by decide +kernel) (fun _ => ?_)
        refine es_blk (pc' := 262) (L' := [some (.ref th), some (.int t11.1), some (.int t11.2.1), some (.int t11.2.2.1), some (.int t11.2.2.2.1), some (.int t11.2.2.2.2.1), some (.int t11.2.2.2.2.2.1), some (.int t11.2.2.2.2.2.2.1), some (.int t11.2.2.2.2.2.2.2.1), some (.int t11.2.2.2.2.2.2.2.2), some (.int x24), some (.int ((((t11.2.2.2.2.2.2.2.1 + x24) + ((t11.2.2.2.2.1 &&& t11.2.2.2.2.2.1) ^^^ ((t11.2.2.2.2.1 ^^^ (-1)) &&& t11.2.2.2.2.2.2.1))) + (eh_tt 1 (eh_ix t11.2.2.2.2.2.2.2.2))) + (e2.1 (th + 2) (eh_ix t11.2.2.2.2.2.2.2.2)))), none, none]) (st' := []) [(.iadd, 0), (.istore 11, 0)] (by decide +kernel) rfl rfl ?_
        refine ef_V (fun x25 => [some (.ref th), some (.int t11.1), some (.int t11.2.1), some (.int t11.2.2.1), some (.int t11.2.2.2.1), some (.int t11.2.2.2.2.1), some (.int t11.2.2.2.2.2.1), some (.int t11.2.2.2.2.2.2.1), some (.int t11.2.2.2.2.2.2.2.1), some (.int t11.2.2.2.2.2.2.2.2), some (.int x24), some (.int x25), none, none]) (fun _ => []) (fun _ => eh_FW e2) (fun x25 => ?_)
        refine es_blk (pc' := 292) (L' := [some (.ref th), some (.int t11.1), some (.int t11.2.1), some (.int t11.2.2.1), some (.int t11.2.2.2.1), some (.int t11.2.2.2.2.1), some (.int t11.2.2.2.2.2.1), some (.int t11.2.2.2.2.2.2.1), some (.int t11.2.2.2.2.2.2.2.1), some (.int t11.2.2.2.2.2.2.2.2), some (.int x24), some (.int x25), some (.int ((((eh_ushr t11.1 2) ||| (eh_shl t11.1 30)) ^^^ ((eh_ushr t11.1 13) ||| (eh_shl t11.1 19))) ^^^ ((eh_ushr t11.1 22) ||| (eh_shl t11.1 10)))), none]) (st' := []) [(.iload_n 1, 0), (.iconst 2, 2), (.iushr, 0), (.iload_n 1, 0), (.bipush 30, 30), (.ishl, 0), (.ior, 0), (.iload_n 1, 0), (.bipush 13, 13), (.iushr, 0), (.iload_n 1, 0), (.bipush 19, 19), (.ishl, 0), (.ior, 0), (.ixor, 0), (.iload_n 1, 0), (.bipush 22, 22), (.iushr, 0), (.iload_n 1, 0), (.bipush 10, 10), (.ishl, 0), (.ior, 0), (.ixor, 0), (.istore 12, 0)] (by decide +kernel) rfl rfl ?_
        refine ef_V (fun x26 => [some (.ref th), some (.int t11.1), some (.int t11.2.1), some (.int t11.2.2.1), some (.int t11.2.2.2.1), some (.int t11.2.2.2.2.1), some (.int t11.2.2.2.2.2.1), some (.int t11.2.2.2.2.2.2.1), some (.int t11.2.2.2.2.2.2.2.1), some (.int t11.2.2.2.2.2.2.2.2), some (.int x24), some (.int x25), some (.int x26), none]) (fun _ => []) (fun _ => eh_FW e2) (fun x26 => ?_)
        refine es_blk (pc' := 308) (L' := [some (.ref th), some (.int t11.1), some (.int t11.2.1), some (.int t11.2.2.1), some (.int t11.2.2.2.1), some (.int t11.2.2.2.2.1), some (.int t11.2.2.2.2.2.1), some (.int t11.2.2.2.2.2.2.1), some (.int t11.2.2.2.2.2.2.2.1), some (.int t11.2.2.2.2.2.2.2.2), some (.int x24), some (.int x25), some (.int x26), some (.int (x26 + (((t11.1 &&& t11.2.1) ^^^ (t11.1 &&& t11.2.2.1)) ^^^ (t11.2.1 &&& t11.2.2.1))))]) (st' := []) [(.iload 12, 0), (.iload_n 1, 0), (.iload_n 2, 0), (.iand, 0), (.iload_n 1, 0), (.iload_n 3, 0), (.iand, 0), (.ixor, 0), (.iload_n 2, 0), (.iload_n 3, 0), (.iand, 0), (.ixor, 0), (.iadd, 0), (.istore 13, 0)] (by decide +kernel) rfl rfl ?_
        refine ef_V (fun x27 => [some (.ref th), some (.int t11.1), some (.int t11.2.1), some (.int t11.2.2.1), some (.int t11.2.2.2.1), some (.int t11.2.2.2.2.1), some (.int t11.2.2.2.2.2.1), some (.int t11.2.2.2.2.2.2.1), some (.int t11.2.2.2.2.2.2.2.1), some (.int t11.2.2.2.2.2.2.2.2), some (.int x24), some (.int x25), some (.int x26), some (.int x27)]) (fun _ => []) (fun _ => eh_FW e2) (fun x27 => ?_)
        refine es_blk (pc' := 327) (L' := [some (.ref th), some (.int t11.1), some (.int t11.2.1), some (.int t11.2.2.1), some (.int t11.2.2.2.1), some (.int (t11.2.2.2.1 + x25)), some (.int t11.2.2.2.2.1), some (.int t11.2.2.2.2.2.1), some (.int t11.2.2.2.2.2.2.1), some (.int t11.2.2.2.2.2.2.2.2), some (.int x24), some (.int x25), some (.int x26), some (.int x27)]) (st' := []) [(.iload 7, 0), (.istore 8, 0), (.iload 6, 0), (.istore 7, 0), (.iload 5, 0), (.istore 6, 0), (.iload 4, 0), (.iload 11, 0), (.iadd, 0), (.istore 5, 0)] (by decide +kernel) rfl rfl ?_
        refine ef_V (fun x28 => [some (.ref th), some (.int t11.1), some (.int t11.2.1), some (.int t11.2.2.1), some (.int t11.2.2.2.1), some (.int x28), some (.int t11.2.2.2.2.1), some (.int t11.2.2.2.2.2.1), some (.int t11.2.2.2.2.2.2.1), some (.int t11.2.2.2.2.2.2.2.2), some (.int x24), some (.int x25), some (.int x26), some (.int x27)]) (fun _ => []) (fun _ => eh_FW e2) (fun x28 => ?_)
        refine es_blk (pc' := 340) (L' := [some (.ref th), some (.int (x25 + x27)), some (.int t11.1), some (.int t11.2.1), some (.int t11.2.2.1), some (.int x28), some (.int t11.2.2.2.2.1), some (.int t11.2.2.2.2.2.1), some (.int t11.2.2.2.2.2.2.1), some (.int t11.2.2.2.2.2.2.2.2), some (.int x24), some (.int x25), some (.int x26), some (.int x27)]) (st' := []) [(.iload_n 3, 0), (.istore 4, 0), (.iload_n 2, 0), (.istore_n 3, 0), (.iload_n 1, 0), (.istore_n 2, 0), (.iload 11, 0), (.iload 13, 0), (.iadd, 0), (.istore_n 1, 0)] (by decide +kernel) rfl rfl ?_
        refine ef_V (fun x29 => [some (.ref th), some (.int x29), some (.int t11.1), some (.int t11.2.1), some (.int t11.2.2.1), some (.int x28), some (.int t11.2.2.2.2.1), some (.int t11.2.2.2.2.2.1), some (.int t11.2.2.2.2.2.2.1), some (.int t11.2.2.2.2.2.2.2.2), some (.int x24), some (.int x25), some (.int x26), some (.int x27)]) (fun _ => []) (fun _ => eh_FW e2) (fun x29 => ?_)
        refine es_blk (pc' := 343) (L' := [some (.ref th), some (.int x29), some (.int t11.1), some (.int t11.2.1), some (.int t11.2.2.1), some (.int x28), some (.int t11.2.2.2.2.1), some (.int t11.2.2.2.2.2.1), some (.int t11.2.2.2.2.2.2.1), some (.int (t11.2.2.2.2.2.2.2.2 + 1)), some (.int x24), some (.int x25), some (.int x26), some (.int x27)]) (st' := []) [(.iinc 9 1, 1)] (by decide +kernel) rfl rfl ?_
        refine ef_V (fun x30 => [some (.ref th), some (.int x29), some (.int t11.1), some (.int t11.2.1), some (.int t11.2.2.1), some (.int x28), some (.int t11.2.2.2.2.1), some (.int t11.2.2.2.2.2.1), some (.int t11.2.2.2.2.2.2.1), some (.int x30), some (.int x24), some (.int x25), some (.int x26), some (.int x27)]) (fun _ => []) (fun _ => eh_FW e2) (fun x30 => ?_)
        refine es_goto (tgt := 182) (off := (-161)) (by decide +kernel) (by decide) ?_
        refine ef_drop (L2 := [some (.ref th), some (.int x29), some (.int t11.1), some (.int t11.2.1), some (.int t11.2.2.1), some (.int x28), some (.int t11.2.2.2.2.1), some (.int t11.2.2.2.2.2.1), some (.int t11.2.2.2.2.2.2.1), some (.int x30), none, none, none, none]) [true, true, true, true, true, true, true, true, true, true, false, false, false, false] rfl rfl ?_
        exact Hr22 (x29, t11.1, t11.2.1, t11.2.2.1, x28, t11.2.2.2.2.1, t11.2.2.2.2.2.1, t11.2.2.2.2.2.2.1, x30)
      refine ef_drop (L2 := [some (.ref th), some (.int t11.1), some (.int t11.2.1), some (.int t11.2.2.1), some (.int t11.2.2.2.1), some (.int t11.2.2.2.2.1), some (.int t11.2.2.2.2.2.1), some (.int t11.2.2.2.2.2.2.1), some (.int t11.2.2.2.2.2.2.2.1), none, none, none, none, none]) [true, true, true, true, true, true, true, true, true, false, true, true, true, true] rfl rfl ?_
      exact HxK21_0 (t11.1, t11.2.1, t11.2.2.1, t11.2.2.2.1, t11.2.2.2.2.1, t11.2.2.2.2.2.1, t11.2.2.2.2.2.2.1, t11.2.2.2.2.2.2.2.1)
  · refine es_blk (pc' := 6) (L' := [some (.ref th), some (.int t1.1), none, none, none, none, none, none, none, none, none, none, none, none]) (st' := [.int 64, .int t1.1]) [(.iload_n 1, 0), (.bipush 64, 64)] (by decide +kernel) rfl rfl ?_
    refine es_ige (tgt := 116) (off := (110)) (by decide +kernel) (by decide) (fun h33 => ?_) (fun h33 => ?_)
    · refine es_blk (pc' := 10) (L' := [some (.ref th), some (.int t1.1), none, none, none, none, none, none, none, none, none, none, none, none]) (st' := [.ref th]) [(.aload_n 0, 0)] (by decide +kernel) rfl rfl ?_
      refine ef_getP (k := th) (j := 1) (q := (th + 2)) (eh_S0sh hth) eL_9_13 rfl (eh_Sx hth _).2.1 (eh_S2sh hth) (by decide +kernel) ?_
      refine es_blk (pc' := 17) (L' := [some (.ref th), some (.int t1.1), none, none, none, none, none, none, none, none, none, none, none, none]) (st' := [.int (t1.1 - 15), .ref (th + 2)]) [(.iload_n 1, 0), (.bipush 15, 15), (.isub, 0)] (by decide +kernel) rfl rfl ?_
      refine ef_ald (k := (th + 2)) (eh_S2sh hth) (Or.inl ⟨rfl, rfl⟩) (by decide +kernel) (fun _ => ?_)
      refine es_blk (pc' := 19) (L' := [some (.ref th), some (.int t1.1), some (.int (t1.2.1 (th + 2) (eh_ix (t1.1 - 15)))), none, none, none, none, none, none, none, none, none, none, none]) (st' := []) [(.istore_n 2, 0)] (by decide +kernel) rfl rfl ?_
      refine ef_V (fun x34 => [some (.ref th), some (.int t1.1), some (.int x34), none, none, none, none, none, none, none, none, none, none, none]) (fun _ => []) (fun _ => eh_FW t1.2) (fun x34 => ?_)
      refine es_blk (pc' := 20) (L' := [some (.ref th), some (.int t1.1), some (.int x34), none, none, none, none, none, none, none, none, none, none, none]) (st' := [.ref th]) [(.aload_n 0, 0)] (by decide +kernel) rfl rfl ?_
      refine ef_getP (k := th) (j := 1) (q := (th + 2)) (eh_S0sh hth) eL_9_13 rfl (eh_Sx hth _).2.1 (eh_S2sh hth) (by decide +kernel) ?_
      refine es_blk (pc' := 26) (L' := [some (.ref th), some (.int t1.1), some (.int x34), none, none, none, none, none, none, none, none, none, none, none]) (st' := [.int (t1.1 - 2), .ref (th + 2)]) [(.iload_n 1, 0), (.iconst 2, 2), (.isub, 0)] (by decide +kernel) rfl rfl ?_
      refine ef_ald (k := (th + 2)) (eh_S2sh hth) (Or.inl ⟨rfl, rfl⟩) (by decide +kernel) (fun _ => ?_)
      refine es_blk (pc' := 28) (L' := [some (.ref th), some (.int t1.1), some (.int x34), some (.int (t1.2.1 (th + 2) (eh_ix (t1.1 - 2)))), none, none, none, none, none, none, none, none, none, none]) (st' := []) [(.istore_n 3, 0)] (by decide +kernel) rfl rfl ?_
      refine ef_V (fun x35 => [some (.ref th), some (.int t1.1), some (.int x34), some (.int x35), none, none, none, none, none, none, none, none, none, none]) (fun _ => []) (fun _ => eh_FW t1.2) (fun x35 => ?_)
      refine es_blk (pc' := 53) (L' := [some (.ref th), some (.int t1.1), some (.int x34), some (.int x35), some (.int ((((eh_ushr x34 7) ||| (eh_shl x34 25)) ^^^ ((eh_ushr x34 18) ||| (eh_shl x34 14))) ^^^ (eh_ushr x34 3))), none, none, none, none, none, none, none, none, none]) (st' := []) [(.iload_n 2, 0), (.bipush 7, 7), (.iushr, 0), (.iload_n 2, 0), (.bipush 25, 25), (.ishl, 0), (.ior, 0), (.iload_n 2, 0), (.bipush 18, 18), (.iushr, 0), (.iload_n 2, 0), (.bipush 14, 14), (.ishl, 0), (.ior, 0), (.ixor, 0), (.iload_n 2, 0), (.iconst 3, 3), (.iushr, 0), (.ixor, 0), (.istore 4, 0)] (by decide +kernel) rfl rfl ?_
      refine ef_V (fun x36 => [some (.ref th), some (.int t1.1), some (.int x34), some (.int x35), some (.int x36), none, none, none, none, none, none, none, none, none]) (fun _ => []) (fun _ => eh_FW t1.2) (fun x36 => ?_)
      refine es_blk (pc' := 79) (L' := [some (.ref th), some (.int t1.1), some (.int x34), some (.int x35), some (.int x36), some (.int ((((eh_ushr x35 17) ||| (eh_shl x35 15)) ^^^ ((eh_ushr x35 19) ||| (eh_shl x35 13))) ^^^ (eh_ushr x35 10))), none, none, none, none, none, none, none, none]) (st' := []) [(.iload_n 3, 0), (.bipush 17, 17), (.iushr, 0), (.iload_n 3, 0), (.bipush 15, 15), (.ishl, 0), (.ior, 0), (.iload_n 3, 0), (.bipush 19, 19), (.iushr, 0), (.iload_n 3, 0), (.bipush 13, 13), (.ishl, 0), (.ior, 0), (.ixor, 0), (.iload_n 3, 0), (.bipush 10, 10), (.iushr, 0), (.ixor, 0), (.istore 5, 0)] (by decide +kernel) rfl rfl ?_
      refine ef_V (fun x37 => [some (.ref th), some (.int t1.1), some (.int x34), some (.int x35), some (.int x36), some (.int x37), none, none, none, none, none, none, none, none]) (fun _ => []) (fun _ => eh_FW t1.2) (fun x37 => ?_)
      refine es_blk (pc' := 80) (L' := [some (.ref th), some (.int t1.1), some (.int x34), some (.int x35), some (.int x36), some (.int x37), none, none, none, none, none, none, none, none]) (st' := [.ref th]) [(.aload_n 0, 0)] (by decide +kernel) rfl rfl ?_
      refine ef_getP (k := th) (j := 1) (q := (th + 2)) (eh_S0sh hth) eL_9_13 rfl (eh_Sx hth _).2.1 (eh_S2sh hth) (by decide +kernel) ?_
      refine es_blk (pc' := 85) (L' := [some (.ref th), some (.int t1.1), some (.int x34), some (.int x35), some (.int x36), some (.int x37), none, none, none, none, none, none, none, none]) (st' := [.ref th, .int t1.1, .ref (th + 2)]) [(.iload_n 1, 0), (.aload_n 0, 0)] (by decide +kernel) rfl rfl ?_
      refine ef_getP (k := th) (j := 1) (q := (th + 2)) (eh_S0sh hth) eL_9_13 rfl (eh_Sx hth _).2.1 (eh_S2sh hth) (by decide +kernel) ?_
      refine es_blk (pc' := 92) (L' := [some (.ref th), some (.int t1.1), some (.int x34), some (.int x35), some (.int x36), some (.int x37), none, none, none, none, none, none, none, none]) (st' := [.int (t1.1 - 16), .ref (th + 2), .int t1.1, .ref (th + 2)]) [(.iload_n 1, 0), (.bipush 16, 16), (.isub, 0)] (by decide +kernel) rfl rfl ?_
      refine ef_ald (k := (th + 2)) (eh_S2sh hth) (Or.inl ⟨rfl, rfl⟩) (by decide +kernel) (fun _ => ?_)
      refine es_blk (pc' := 97) (L' := [some (.ref th), some (.int t1.1), some (.int x34), some (.int x35), some (.int x36), some (.int x37), none, none, none, none, none, none, none, none]) (st' := [.ref th, .int ((t1.2.1 (th + 2) (eh_ix (t1.1 - 16))) + x36), .int t1.1, .ref (th + 2)]) [(.iload 4, 0), (.iadd, 0), (.aload_n 0, 0)] (by decide +kernel) rfl rfl ?_
      refine ef_getP (k := th) (j := 1) (q := (th + 2)) (eh_S0sh hth) eL_9_13 rfl (eh_Sx hth _).2.1 (eh_S2sh hth) (by decide +kernel) ?_
      refine es_blk (pc' := 104) (L' := [some (.ref th), some (.int t1.1), some (.int x34), some (.int x35), some (.int x36), some (.int x37), none, none, none, none, none, none, none, none]) (st' := [.int (t1.1 - 7), .ref (th + 2), .int ((t1.2.1 (th + 2) (eh_ix (t1.1 - 16))) + x36), .int t1.1, .ref (th + 2)]) [(.iload_n 1, 0), (.bipush 7, 7), (.isub, 0)] (by decide +kernel) rfl rfl ?_
      refine ef_ald (k := (th + 2)) (eh_S2sh hth) (Or.inl ⟨rfl, rfl⟩) (by decide +kernel) (fun _ => ?_)
      refine es_blk (pc' := 109) (L' := [some (.ref th), some (.int t1.1), some (.int x34), some (.int x35), some (.int x36), some (.int x37), none, none, none, none, none, none, none, none]) (st' := [.int ((((t1.2.1 (th + 2) (eh_ix (t1.1 - 16))) + x36) + (t1.2.1 (th + 2) (eh_ix (t1.1 - 7)))) + x37), .int t1.1, .ref (th + 2)]) [(.iadd, 0), (.iload 5, 0), (.iadd, 0)] (by decide +kernel) rfl rfl ?_
      refine ef_ast (k := (th + 2)) (eh_S2sh hth) (by decide +kernel) (fun _ => ?_)
      refine ef_V (fun _ => [some (.ref th), some (.int t1.1), some (.int x34), some (.int x35), some (.int x36), some (.int x37), none, none, none, none, none, none, none, none]) (fun _ => []) (fun s38 => eh_FW s38) (fun s38 => ?_)
      refine es_blk (pc' := 113) (L' := [some (.ref th), some (.int (t1.1 + 1)), some (.int x34), some (.int x35), some (.int x36), some (.int x37), none, none, none, none, none, none, none, none]) (st' := []) [(.iinc 1 1, 1)] (by decide +kernel) rfl rfl ?_
      refine ef_V (fun x39 => [some (.ref th), some (.int x39), some (.int x34), some (.int x35), some (.int x36), some (.int x37), none, none, none, none, none, none, none, none]) (fun _ => []) (fun _ => eh_FW s38) (fun x39 => ?_)
      refine es_goto (tgt := 3) (off := (-110)) (by decide +kernel) (by decide) ?_
      refine ef_drop (L2 := [some (.ref th), some (.int x39), none, none, none, none, none, none, none, none, none, none, none, none]) [true, true, false, false, false, false, true, true, true, true, true, true, true, true] rfl rfl ?_
      exact Hr32 (x39, s38)
    refine ef_drop (L2 := [some (.ref th), none, none, none, none, none, none, none, none, none, none, none, none, none]) [true, false, true, true, true, true, true, true, true, true, true, true, true, true] rfl rfl ?_
    exact HxK31_0 t1.2
def eF_9_flip (s : eh_F) (p0 : Int32) : Option (Int32) := some ((((eh_shl p0 24) ||| (eh_shl (p0 &&& 65280) 8)) ||| ((eh_ushr p0 8) &&& 65280)) ||| (eh_ushr p0 24))
set_option maxHeartbeats 4000000 in
set_option maxRecDepth 100000 in
theorem eS_9_flip (g : eh_P) (s : eh_F) (p0 : Int32) : eh_Sim g eM_9_flip (eh_R 1 0 0) (eh_pI s) 0 0 0 (eh_en 1 [.int p0]) [] (eh_FW s) (eF_9_flip s p0) := by
  unfold eF_9_flip
  refine ef_top (L := [some (.int p0)]) rfl ?_
  refine es_blk (pc' := 5) (L' := [some (.int p0)]) (st' := [.int p0, .int (eh_shl p0 24)]) [(.iload_n 0, 0), (.bipush 24, 24), (.ishl, 0), (.iload_n 0, 0)] (by decide +kernel) rfl rfl ?_
  refine es_ldc (v := 65280) eC_9_62 (by decide +kernel) ?_
  refine es_blk (pc' := 16) (L' := [some (.int p0)]) (st' := [.int (eh_ushr p0 8), .int ((eh_shl p0 24) ||| (eh_shl (p0 &&& 65280) 8))]) [(.iand, 0), (.bipush 8, 8), (.ishl, 0), (.ior, 0), (.iload_n 0, 0), (.bipush 8, 8), (.iushr, 0)] (by decide +kernel) rfl rfl ?_
  refine es_ldc (v := 65280) eC_9_62 (by decide +kernel) ?_
  refine es_blk (pc' := 25) (L' := [some (.int p0)]) (st' := [.int ((((eh_shl p0 24) ||| (eh_shl (p0 &&& 65280) 8)) ||| ((eh_ushr p0 8) &&& 65280)) ||| (eh_ushr p0 24))]) [(.iand, 0), (.ior, 0), (.iload_n 0, 0), (.bipush 24, 24), (.iushr, 0), (.ior, 0)] (by decide +kernel) rfl rfl ?_
  exact es_ret rfl rfl rfl ⟨by decide +kernel, _, rfl, rfl⟩ (Nat.le_refl _) (Nat.le_refl _)
def eF_10_leastFreeEnclave (s : eh_F)  : Option (Int32) := Option.bind (eh_loop (fun (r5 : (Int32) → Option ((Unit) ⊕ (Int32))) (t1 : Int32) => if t1 < 6 then (if eh_in t1 6 then if (s.1 (eh_ep t1) 5) = 0 then (some (.inr t1)) else (eh_V ((t1 + 1) : Int32) (fun x9 => r5 x9)) else none) else (some (.inl ()))) eh_FU 0) (Sum.elim (fun (e2 : Unit) => some (-1)) (fun (e3 : Int32) => some e3))
set_option maxHeartbeats 4000000 in
set_option maxRecDepth 100000 in
theorem eS_10_leastFreeEnclave (g : eh_P) (s : eh_F)  : eh_Sim g eM_10_leastFreeEnclave (eh_R 1 0 0) (eh_pI s) 0 0 0 (eh_en 2 [.ref 123]) [] (eh_FW s) (eF_10_leastFreeEnclave s) := by
  unfold eF_10_leastFreeEnclave
  refine ef_top (L := [some (.ref 123), none]) rfl ?_
  refine es_blk (pc' := 2) (L' := [some (.ref 123), some (.int 0)]) (st' := []) [(.iconst 0, 0), (.istore_n 1, 0)] (by decide +kernel) rfl rfl ?_
  refine ef_loop2 (n := eh_FU) (i := 0) (px := 31) (px2 := 23) (fun (t1 : Int32) => [some (.ref 123), some (.int t1)]) (fun (t1 : Int32) => []) (fun (t1 : Int32) => eh_FW s) (fun (e2 : Unit) => [none, none]) (fun (e2 : Unit) => []) (fun (e2 : Unit) => eh_FW s) (fun (e3 : Int32) => [none, some (.int e3)]) (fun (e3 : Int32) => []) (fun (e3 : Int32) => eh_FW s) (fun e2 => ?_) (fun e3 => ?_) (fun K4 HxK4_0 HxK4_1 r5 Hr5 t1 => ?_)
  · refine es_blk (pc' := 32) (L' := [none, none]) (st' := [.int (-1)]) [(.iconst (-1), (-1))] (by decide +kernel) rfl rfl ?_
    exact es_ret rfl rfl rfl ⟨by decide +kernel, _, rfl, rfl⟩ (Nat.le_refl _) (Nat.le_refl _)
  · refine es_blk (pc' := 24) (L' := [none, some (.int e3)]) (st' := [.int e3]) [(.iload_n 1, 0)] (by decide +kernel) rfl rfl ?_
    exact es_ret rfl rfl rfl ⟨by decide +kernel, _, rfl, rfl⟩ (Nat.le_refl _) (Nat.le_refl _)
  · refine es_blk (pc' := 5) (L' := [some (.ref 123), some (.int t1)]) (st' := [.int 6, .int t1]) [(.iload_n 1, 0), (.bipush 6, 6)] (by decide +kernel) rfl rfl ?_
    refine es_ige (tgt := 31) (off := (26)) (by decide +kernel) (by decide) (fun h6 => ?_) (fun h6 => ?_)
    · refine es_blk (pc' := 9) (L' := [some (.ref 123), some (.int t1)]) (st' := [.ref 123]) [(.aload_n 0, 0)] (by decide +kernel) rfl rfl ?_
      refine ef_getP (k := 123) (j := 0) (q := 1) rfl eL_10_9 rfl rfl rfl (by decide +kernel) ?_
      refine ef_getP (k := 1) (j := 4) (q := 28) rfl eL_10_136 rfl rfl rfl (by decide +kernel) ?_
      refine es_blk (pc' := 16) (L' := [some (.ref 123), some (.int t1)]) (st' := [.int t1, .ref 28]) [(.iload_n 1, 0)] (by decide +kernel) rfl rfl ?_
      refine ef_encs (by decide +kernel) (fun h7 => ?_)
      refine ef_getI (k := (eh_ep t1)) (j := 5) (eh_E0sh h7) eL_10_146 (by decide) (by decide +kernel) ?_
      refine es_ne (tgt := 25) (off := (5)) (by decide +kernel) (by decide) (fun h8 => ?_) (fun h8 => ?_)
      · refine ef_drop (L2 := [none, some (.int t1)]) [false, true] rfl rfl ?_
        exact HxK4_1 t1
      refine es_blk (pc' := 28) (L' := [some (.ref 123), some (.int (t1 + 1))]) (st' := []) [(.iinc 1 1, 1)] (by decide +kernel) rfl rfl ?_
      refine ef_V (fun x9 => [some (.ref 123), some (.int x9)]) (fun _ => []) (fun _ => eh_FW s) (fun x9 => ?_)
      refine es_goto (tgt := 2) (off := (-26)) (by decide +kernel) (by decide) ?_
      exact Hr5 x9
    refine ef_drop (L2 := [none, none]) [false, false] rfl rfl ?_
    exact HxK4_0 ()
def eF_10_leastFreeFibre (s : eh_F)  : Option (Int32) := Option.bind (eh_loop (fun (r5 : (Int32) → Option ((Unit) ⊕ (Int32))) (t1 : Int32) => if t1 < 12 then (if eh_in t1 12 then if (s.1 (eh_fp t1) 6) = 0 then (some (.inr t1)) else (eh_V ((t1 + 1) : Int32) (fun x9 => r5 x9)) else none) else (some (.inl ()))) eh_FU 0) (Sum.elim (fun (e2 : Unit) => some (-1)) (fun (e3 : Int32) => some e3))
set_option maxHeartbeats 4000000 in
set_option maxRecDepth 100000 in
theorem eS_10_leastFreeFibre (g : eh_P) (s : eh_F)  : eh_Sim g eM_10_leastFreeFibre (eh_R 1 0 0) (eh_pI s) 0 0 0 (eh_en 2 [.ref 123]) [] (eh_FW s) (eF_10_leastFreeFibre s) := by
  unfold eF_10_leastFreeFibre
  refine ef_top (L := [some (.ref 123), none]) rfl ?_
  refine es_blk (pc' := 2) (L' := [some (.ref 123), some (.int 0)]) (st' := []) [(.iconst 0, 0), (.istore_n 1, 0)] (by decide +kernel) rfl rfl ?_
  refine ef_loop2 (n := eh_FU) (i := 0) (px := 31) (px2 := 23) (fun (t1 : Int32) => [some (.ref 123), some (.int t1)]) (fun (t1 : Int32) => []) (fun (t1 : Int32) => eh_FW s) (fun (e2 : Unit) => [none, none]) (fun (e2 : Unit) => []) (fun (e2 : Unit) => eh_FW s) (fun (e3 : Int32) => [none, some (.int e3)]) (fun (e3 : Int32) => []) (fun (e3 : Int32) => eh_FW s) (fun e2 => ?_) (fun e3 => ?_) (fun K4 HxK4_0 HxK4_1 r5 Hr5 t1 => ?_)
  · refine es_blk (pc' := 32) (L' := [none, none]) (st' := [.int (-1)]) [(.iconst (-1), (-1))] (by decide +kernel) rfl rfl ?_
    exact es_ret rfl rfl rfl ⟨by decide +kernel, _, rfl, rfl⟩ (Nat.le_refl _) (Nat.le_refl _)
  · refine es_blk (pc' := 24) (L' := [none, some (.int e3)]) (st' := [.int e3]) [(.iload_n 1, 0)] (by decide +kernel) rfl rfl ?_
    exact es_ret rfl rfl rfl ⟨by decide +kernel, _, rfl, rfl⟩ (Nat.le_refl _) (Nat.le_refl _)
  · refine es_blk (pc' := 5) (L' := [some (.ref 123), some (.int t1)]) (st' := [.int 12, .int t1]) [(.iload_n 1, 0), (.bipush 12, 12)] (by decide +kernel) rfl rfl ?_
    refine es_ige (tgt := 31) (off := (26)) (by decide +kernel) (by decide) (fun h6 => ?_) (fun h6 => ?_)
    · refine es_blk (pc' := 9) (L' := [some (.ref 123), some (.int t1)]) (st' := [.ref 123]) [(.aload_n 0, 0)] (by decide +kernel) rfl rfl ?_
      refine ef_getP (k := 123) (j := 0) (q := 1) rfl eL_10_9 rfl rfl rfl (by decide +kernel) ?_
      refine ef_getP (k := 1) (j := 3) (q := 27) rfl eL_10_186 rfl rfl rfl (by decide +kernel) ?_
      refine es_blk (pc' := 16) (L' := [some (.ref 123), some (.int t1)]) (st' := [.int t1, .ref 27]) [(.iload_n 1, 0)] (by decide +kernel) rfl rfl ?_
      refine ef_fibres (by decide +kernel) (fun h7 => ?_)
      refine ef_getI (k := (eh_fp t1)) (j := 6) (eh_F0sh h7) eL_10_193 (by decide) (by decide +kernel) ?_
      refine es_ne (tgt := 25) (off := (5)) (by decide +kernel) (by decide) (fun h8 => ?_) (fun h8 => ?_)
      · refine ef_drop (L2 := [none, some (.int t1)]) [false, true] rfl rfl ?_
        exact HxK4_1 t1
      refine es_blk (pc' := 28) (L' := [some (.ref 123), some (.int (t1 + 1))]) (st' := []) [(.iinc 1 1, 1)] (by decide +kernel) rfl rfl ?_
      refine ef_V (fun x9 => [some (.ref 123), some (.int x9)]) (fun _ => []) (fun _ => eh_FW s) (fun x9 => ?_)
      refine es_goto (tgt := 2) (off := (-26)) (by decide +kernel) (by decide) ?_
      exact Hr5 x9
    refine ef_drop (L2 := [none, none]) [false, false] rfl rfl ?_
    exact HxK4_0 ()
def eF_10_goOff (s : eh_F)  : Option (Int32 × eh_F) := eh_V (eh_tI s 1 10 1) (fun s1 => some (0, s1))
set_option maxHeartbeats 4000000 in
set_option maxRecDepth 100000 in
theorem eS_10_goOff (g : eh_P) (s : eh_F)  : eh_Sim g eM_10_goOff (eh_R 1 0 0) eh_eI 0 0 0 (eh_en 1 [.ref 123]) [] (eh_FW s) (eF_10_goOff s) := by
  unfold eF_10_goOff
  refine ef_top (L := [some (.ref 123)]) rfl ?_
  refine es_blk (pc' := 1) (L' := [some (.ref 123)]) (st' := [.ref 123]) [(.aload_n 0, 0)] (by decide +kernel) rfl rfl ?_
  refine ef_getP (k := 123) (j := 0) (q := 1) rfl eL_10_9 rfl rfl rfl (by decide +kernel) ?_
  refine es_blk (pc' := 5) (L' := [some (.ref 123)]) (st' := [.int 1, .ref 1]) [(.iconst 1, 1)] (by decide +kernel) rfl rfl ?_
  refine ef_putZc (k := 1) (j := 10) rfl eL_10_264 rfl rfl (by decide) (by decide +kernel) ?_
  refine ef_V (fun _ => [some (.ref 123)]) (fun _ => []) (fun s1 => eh_FW s1) (fun s1 => ?_)
  refine es_blk (pc' := 9) (L' := [some (.ref 123)]) (st' := [.int 0]) [(.iconst 0, 0)] (by decide +kernel) rfl rfl ?_
  exact es_ret rfl rfl rfl ⟨by decide +kernel, _, rfl, rfl⟩ (Nat.le_refl _) (Nat.le_refl _)
def eF_10_setSlice (s : eh_F) (p0 : Nat) (p1 : Int32) : Option (Int32 × eh_F) := eh_J (fun (u2 : Unit) => some ((-1), s)) (fun j1 => if p1 < 0 then (j1 ()) else (if 100000 < p1 then (j1 ()) else (eh_V (eh_tI s p0 6 p1) (fun s5 => some (0, s5)))))
set_option maxHeartbeats 4000000 in
set_option maxRecDepth 100000 in
theorem eS_10_setSlice (g : eh_P) (s : eh_F) (p0 : Nat) (p1 : Int32) (hp0 : eh_okH p0 = true) : eh_Sim g eM_10_setSlice (eh_R 1 0 0) eh_eI 0 0 0 (eh_en 3 [.ref 123, .ref p0, .int p1]) [] (eh_FW s) (eF_10_setSlice s p0 p1) := by
  unfold eF_10_setSlice
  refine ef_top (L := [some (.ref 123), some (.ref p0), some (.int p1)]) rfl ?_
  refine es_blk (pc' := 1) (L' := [some (.ref 123), some (.ref p0), some (.int p1)]) (st' := [.int p1]) [(.iload_n 2, 0)] (by decide +kernel) rfl rfl ?_
  refine ef_J (X := fun j1 => ∀ (u2 : Unit), eh_Sim g eM_10_setSlice (eh_R 1 0 0) eh_eI 0 0 11 [none, none, none] [] (eh_FW s) ((j1 u2).bind some)) ?_ (fun j1 Hj1 => ?_)
  · intro u2
    refine es_blk (pc' := 12) (L' := [none, none, none]) (st' := [.int (-1)]) [(.iconst (-1), (-1))] (by decide +kernel) rfl rfl ?_
    exact es_ret rfl rfl rfl ⟨by decide +kernel, _, rfl, rfl⟩ (Nat.le_refl _) (Nat.le_refl _)
  refine es_lt (tgt := 11) (off := (10)) (by decide +kernel) (by decide) (fun h3 => ?_) (fun h3 => ?_)
  · refine ef_drop (L2 := [none, none, none]) [false, false, false] rfl rfl ?_
    exact Hj1 ()
  refine es_blk (pc' := 5) (L' := [some (.ref 123), some (.ref p0), some (.int p1)]) (st' := [.int p1]) [(.iload_n 2, 0)] (by decide +kernel) rfl rfl ?_
  refine es_ldcw (v := 100000) eC_10_268 (by decide +kernel) ?_
  refine es_ile (tgt := 13) (off := (5)) (by decide +kernel) (by decide) (fun h4 => ?_) (fun h4 => ?_)
  · refine ef_drop (L2 := [none, none, none]) [false, false, false] rfl rfl ?_
    exact Hj1 ()
  refine es_blk (pc' := 15) (L' := [some (.ref 123), some (.ref p0), some (.int p1)]) (st' := [.int p1, .ref p0]) [(.aload_n 1, 0), (.iload_n 2, 0)] (by decide +kernel) rfl rfl ?_
  refine ef_putI (k := p0) (j := 6) (eh_H0sh hp0) eL_10_269 rfl rfl (by decide +kernel) ?_
  refine ef_V (fun _ => [some (.ref 123), some (.ref p0), some (.int p1)]) (fun _ => []) (fun s5 => eh_FW s5) (fun s5 => ?_)
  refine es_blk (pc' := 19) (L' := [some (.ref 123), some (.ref p0), some (.int p1)]) (st' := [.int 0]) [(.iconst 0, 0)] (by decide +kernel) rfl rfl ?_
  exact es_ret rfl rfl rfl ⟨by decide +kernel, _, rfl, rfl⟩ (Nat.le_refl _) (Nat.le_refl _)
def eF_11_line (s : eh_F) (p0 : Int32) : Option (Int32 × eh_F) := eh_V ((s.1 12 1) : Int32) (fun x1 => if p0 = 0 ∨ p0 = 1 then eh_V (eh_tI s 12 1 p0) (fun s2 => if x1 = 0 ∨ x1 = 1 then some (x1, s2) else none) else none)
set_option maxHeartbeats 4000000 in
set_option maxRecDepth 100000 in
theorem eS_11_line (g : eh_P) (s : eh_F) (p0 : Int32) : eh_Sim g eM_11_line (eh_R 1 0 0) eh_eI 0 0 0 (eh_en 3 [.ref 0, .int p0]) [] (eh_FW s) (eF_11_line s p0) := by
  unfold eF_11_line
  refine ef_top (L := [some (.ref 0), some (.int p0), none]) rfl ?_
  refine es_blk (pc' := 1) (L' := [some (.ref 0), some (.int p0), none]) (st' := [.ref 0]) [(.aload_n 0, 0)] (by decide +kernel) rfl rfl ?_
  refine ef_getP (k := 0) (j := 0) (q := 1) rfl eL_11_12 rfl rfl rfl (by decide +kernel) ?_
  refine ef_getP (k := 1) (j := 1) (q := 12) rfl eL_11_128 rfl rfl rfl (by decide +kernel) ?_
  refine ef_getI (k := 12) (j := 1) rfl eL_11_176 (by decide) (by decide +kernel) ?_
  refine es_blk (pc' := 11) (L' := [some (.ref 0), some (.int p0), some (.int (s.1 12 1))]) (st' := []) [(.istore_n 2, 0)] (by decide +kernel) rfl rfl ?_
  refine ef_V (fun x1 => [some (.ref 0), some (.int p0), some (.int x1)]) (fun _ => []) (fun _ => eh_FW s) (fun x1 => ?_)
  refine es_blk (pc' := 12) (L' := [some (.ref 0), some (.int p0), some (.int x1)]) (st' := [.ref 0]) [(.aload_n 0, 0)] (by decide +kernel) rfl rfl ?_
  refine ef_getP (k := 0) (j := 0) (q := 1) rfl eL_11_12 rfl rfl rfl (by decide +kernel) ?_
  refine ef_getP (k := 1) (j := 1) (q := 12) rfl eL_11_128 rfl rfl rfl (by decide +kernel) ?_
  refine es_blk (pc' := 19) (L' := [some (.ref 0), some (.int p0), some (.int x1)]) (st' := [.int p0, .ref 12]) [(.iload_n 1, 0)] (by decide +kernel) rfl rfl ?_
  refine ef_putZ (k := 12) (j := 1) rfl eL_11_176 rfl rfl (by decide +kernel) (fun _ => ?_)
  refine ef_V (fun _ => [some (.ref 0), some (.int p0), some (.int x1)]) (fun _ => []) (fun s2 => eh_FW s2) (fun s2 => ?_)
  refine es_blk (pc' := 23) (L' := [some (.ref 0), some (.int p0), some (.int x1)]) (st' := [.int x1]) [(.iload_n 2, 0)] (by decide +kernel) rfl rfl ?_
  refine es_chk (fun h3 => ?_)
  exact es_ret rfl rfl rfl ⟨by decide +kernel, _, rfl, eh_narZ h3⟩ (Nat.le_refl _) (Nat.le_refl _)
def eF_11_thread (s : eh_F) (p0 : Int32) (p1 : Int32) : Option (Int32) := eh_J (fun (u2 : Unit) => some (-1)) (fun j1 => if p0 < 0 then (j1 ()) else (if p0 < 12 then (if eh_in p0 12 then if p1 = 0 then (some (s.1 (eh_fp p0) 6)) else (if (s.1 (eh_fp p0) 6) = 0 then (some (-1)) else (if p1 = 1 then (some (s.1 (eh_fp p0) 3)) else if p1 = 2 then (some (s.1 (eh_fp p0) 7)) else if p1 = 3 then (some (s.1 (eh_fp p0) 4)) else if p1 = 4 then (some (s.1 (eh_fp p0) 5)) else (some (-1)))) else none) else (j1 ())))
set_option maxHeartbeats 4000000 in
set_option maxRecDepth 100000 in
theorem eS_11_thread (g : eh_P) (s : eh_F) (p0 : Int32) (p1 : Int32) : eh_Sim g eM_11_thread (eh_R 1 0 0) (eh_pI s) 0 0 0 (eh_en 4 [.ref 0, .int p0, .int p1]) [] (eh_FW s) (eF_11_thread s p0 p1) := by
  unfold eF_11_thread
  refine ef_top (L := [some (.ref 0), some (.int p0), some (.int p1), none]) rfl ?_
  refine es_blk (pc' := 1) (L' := [some (.ref 0), some (.int p0), some (.int p1), none]) (st' := [.int p0]) [(.iload_n 1, 0)] (by decide +kernel) rfl rfl ?_
  refine ef_J (X := fun j1 => ∀ (u2 : Unit), eh_Sim g eM_11_thread (eh_R 1 0 0) (eh_pI s) 0 0 10 [none, none, none, none] [] (eh_FW s) ((j1 u2).bind some)) ?_ (fun j1 Hj1 => ?_)
  · intro u2
    refine es_blk (pc' := 11) (L' := [none, none, none, none]) (st' := [.int (-1)]) [(.iconst (-1), (-1))] (by decide +kernel) rfl rfl ?_
    exact es_ret rfl rfl rfl ⟨by decide +kernel, _, rfl, rfl⟩ (Nat.le_refl _) (Nat.le_refl _)
  refine es_lt (tgt := 10) (off := (9)) (by decide +kernel) (by decide) (fun h3 => ?_) (fun h3 => ?_)
  · refine ef_drop (L2 := [none, none, none, none]) [false, false, false, true] rfl rfl ?_
    exact Hj1 ()
  refine es_blk (pc' := 7) (L' := [some (.ref 0), some (.int p0), some (.int p1), none]) (st' := [.int 12, .int p0]) [(.iload_n 1, 0), (.bipush 12, 12)] (by decide +kernel) rfl rfl ?_
  refine es_ilt (tgt := 12) (off := (5)) (by decide +kernel) (by decide) (fun h4 => ?_) (fun h4 => ?_)
  · refine es_blk (pc' := 13) (L' := [some (.ref 0), some (.int p0), some (.int p1), none]) (st' := [.ref 0]) [(.aload_n 0, 0)] (by decide +kernel) rfl rfl ?_
    refine ef_getP (k := 0) (j := 0) (q := 1) rfl eL_11_12 rfl rfl rfl (by decide +kernel) ?_
    refine ef_getP (k := 1) (j := 3) (q := 27) rfl eL_11_101 rfl rfl rfl (by decide +kernel) ?_
    refine es_blk (pc' := 20) (L' := [some (.ref 0), some (.int p0), some (.int p1), none]) (st' := [.int p0, .ref 27]) [(.iload_n 1, 0)] (by decide +kernel) rfl rfl ?_
    refine ef_fibres (by decide +kernel) (fun h5 => ?_)
    refine es_blk (pc' := 23) (L' := [some (.ref 0), some (.int p0), some (.int p1), some (.ref (eh_fp p0))]) (st' := [.int p1]) [(.astore_n 3, 0), (.iload_n 2, 0)] (by decide +kernel) rfl rfl ?_
    refine es_ne (tgt := 31) (off := (8)) (by decide +kernel) (by decide) (fun h6 => ?_) (fun h6 => ?_)
    · refine es_blk (pc' := 27) (L' := [some (.ref 0), some (.int p0), some (.int p1), some (.ref (eh_fp p0))]) (st' := [.ref (eh_fp p0)]) [(.aload_n 3, 0)] (by decide +kernel) rfl rfl ?_
      refine ef_getI (k := (eh_fp p0)) (j := 6) (eh_F0sh h5) eL_11_202 (by decide) (by decide +kernel) ?_
      exact es_ret rfl rfl rfl ⟨by decide +kernel, _, rfl, rfl⟩ (Nat.le_refl _) (Nat.le_refl _)
    refine es_blk (pc' := 32) (L' := [some (.ref 0), some (.int p0), some (.int p1), some (.ref (eh_fp p0))]) (st' := [.ref (eh_fp p0)]) [(.aload_n 3, 0)] (by decide +kernel) rfl rfl ?_
    refine ef_getI (k := (eh_fp p0)) (j := 6) (eh_F0sh h5) eL_11_202 (by decide) (by decide +kernel) ?_
    refine es_ne (tgt := 40) (off := (5)) (by decide +kernel) (by decide) (fun h7 => ?_) (fun h7 => ?_)
    · refine es_blk (pc' := 39) (L' := [some (.ref 0), some (.int p0), some (.int p1), some (.ref (eh_fp p0))]) (st' := [.int (-1)]) [(.iconst (-1), (-1))] (by decide +kernel) rfl rfl ?_
      exact es_ret rfl rfl rfl ⟨by decide +kernel, _, rfl, rfl⟩ (Nat.le_refl _) (Nat.le_refl _)
    refine es_blk (pc' := 41) (L' := [some (.ref 0), some (.int p0), some (.int p1), some (.ref (eh_fp p0))]) (st' := [.int p1]) [(.iload_n 2, 0)] (by decide +kernel) rfl rfl ?_
    have hs8 : decode eM_11_thread.2.1 41 = .ok (.tableswitch (51) (1) (4) #[(31), (36), (41), (46)], 31) := by decide +kernel
    refine es_ifc (fun h9 => ?_) (fun h9 => ?_)
    · refine es_tsw (off := (31)) (tgt := 72) hs8 1 h9 (by decide) ?_
      refine es_blk (pc' := 73) (L' := [some (.ref 0), some (.int p0), some (.int p1), some (.ref (eh_fp p0))]) (st' := [.ref (eh_fp p0)]) [(.aload_n 3, 0)] (by decide +kernel) rfl rfl ?_
      refine ef_getI (k := (eh_fp p0)) (j := 3) (eh_F0sh h5) eL_11_203 (by decide) (by decide +kernel) ?_
      exact es_ret rfl rfl rfl ⟨by decide +kernel, _, rfl, rfl⟩ (Nat.le_refl _) (Nat.le_refl _)
    refine es_ifc (fun h10 => ?_) (fun h10 => ?_)
    · refine es_tsw (off := (36)) (tgt := 77) hs8 2 h10 (by decide) ?_
      refine es_blk (pc' := 78) (L' := [some (.ref 0), some (.int p0), some (.int p1), some (.ref (eh_fp p0))]) (st' := [.ref (eh_fp p0)]) [(.aload_n 3, 0)] (by decide +kernel) rfl rfl ?_
      refine ef_getI (k := (eh_fp p0)) (j := 7) (eh_F0sh h5) eL_11_206 (by decide) (by decide +kernel) ?_
      exact es_ret rfl rfl rfl ⟨by decide +kernel, _, rfl, rfl⟩ (Nat.le_refl _) (Nat.le_refl _)
    refine es_ifc (fun h11 => ?_) (fun h11 => ?_)
    · refine es_tsw (off := (41)) (tgt := 82) hs8 3 h11 (by decide) ?_
      refine es_blk (pc' := 83) (L' := [some (.ref 0), some (.int p0), some (.int p1), some (.ref (eh_fp p0))]) (st' := [.ref (eh_fp p0)]) [(.aload_n 3, 0)] (by decide +kernel) rfl rfl ?_
      refine ef_getI (k := (eh_fp p0)) (j := 4) (eh_F0sh h5) eL_11_209 (by decide) (by decide +kernel) ?_
      exact es_ret rfl rfl rfl ⟨by decide +kernel, _, rfl, rfl⟩ (Nat.le_refl _) (Nat.le_refl _)
    refine es_ifc (fun h12 => ?_) (fun h12 => ?_)
    · refine es_tsw (off := (46)) (tgt := 87) hs8 4 h12 (by decide) ?_
      refine es_blk (pc' := 88) (L' := [some (.ref 0), some (.int p0), some (.int p1), some (.ref (eh_fp p0))]) (st' := [.ref (eh_fp p0)]) [(.aload_n 3, 0)] (by decide +kernel) rfl rfl ?_
      refine ef_getI (k := (eh_fp p0)) (j := 5) (eh_F0sh h5) eL_11_212 (by decide) (by decide +kernel) ?_
      exact es_ret rfl rfl rfl ⟨by decide +kernel, _, rfl, rfl⟩ (Nat.le_refl _) (Nat.le_refl _)
    refine es_tswD (tgt := 92) hs8 [1, 2, 3, 4] (List.forall_mem_cons.mpr ⟨eh_nei 1 1 (by decide) h9, (List.forall_mem_cons.mpr ⟨eh_nei 2 2 (by decide) h10, (List.forall_mem_cons.mpr ⟨eh_nei 3 3 (by decide) h11, (List.forall_mem_cons.mpr ⟨eh_nei 4 4 (by decide) h12, (List.forall_mem_nil _)⟩)⟩)⟩)⟩) (by decide) (by decide) (by decide) ?_
    refine es_blk (pc' := 93) (L' := [some (.ref 0), some (.int p0), some (.int p1), some (.ref (eh_fp p0))]) (st' := [.int (-1)]) [(.iconst (-1), (-1))] (by decide +kernel) rfl rfl ?_
    exact es_ret rfl rfl rfl ⟨by decide +kernel, _, rfl, rfl⟩ (Nat.le_refl _) (Nat.le_refl _)
  refine ef_drop (L2 := [none, none, none, none]) [false, false, false, true] rfl rfl ?_
  exact Hj1 ()
def eF_11_region (s : eh_F) (p0 : Int32) (p1 : Int32) : Option (Int32) := eh_J (fun (u2 : Unit) => some (-1)) (fun j1 => if p0 < 0 then (j1 ()) else (if p0 < 12 then (if p1 = 0 then (if eh_in p0 12 then some (s.1 3 (eh_ix p0)) else none) else (if eh_in p0 12 then if (s.1 3 (eh_ix p0)) = 0 then (some (-1)) else (if p1 = 1 then (if eh_in p0 12 then some (s.1 4 (eh_ix p0)) else none) else if p1 = 2 then (if eh_in p0 12 then some (s.1 5 (eh_ix p0)) else none) else if p1 = 3 then (if eh_in p0 12 then some (s.1 6 (eh_ix p0)) else none) else if p1 = 4 then (if eh_in p0 12 then some (s.1 7 (eh_ix p0)) else none) else if p1 = 5 then (if eh_in p0 12 then some (s.1 8 (eh_ix p0)) else none) else (some (-1))) else none)) else (j1 ())))
set_option maxHeartbeats 4000000 in
set_option maxRecDepth 100000 in
theorem eS_11_region (g : eh_P) (s : eh_F) (p0 : Int32) (p1 : Int32) : eh_Sim g eM_11_region (eh_R 1 0 0) (eh_pI s) 0 0 0 (eh_en 4 [.ref 0, .int p0, .int p1]) [] (eh_FW s) (eF_11_region s p0 p1) := by
  unfold eF_11_region
  refine ef_top (L := [some (.ref 0), some (.int p0), some (.int p1), none]) rfl ?_
  refine es_blk (pc' := 1) (L' := [some (.ref 0), some (.int p0), some (.int p1), none]) (st' := [.ref 0]) [(.aload_n 0, 0)] (by decide +kernel) rfl rfl ?_
  refine ef_getP (k := 0) (j := 0) (q := 1) rfl eL_11_12 rfl rfl rfl (by decide +kernel) ?_
  refine ef_getP (k := 1) (j := 0) (q := 2) rfl eL_11_43 rfl rfl rfl (by decide +kernel) ?_
  refine es_blk (pc' := 9) (L' := [some (.ref 0), some (.int p0), some (.int p1), some (.ref 2)]) (st' := [.int p0]) [(.astore_n 3, 0), (.iload_n 1, 0)] (by decide +kernel) rfl rfl ?_
  refine ef_J (X := fun j1 => ∀ (u2 : Unit), eh_Sim g eM_11_region (eh_R 1 0 0) (eh_pI s) 0 0 18 [none, none, none, none] [] (eh_FW s) ((j1 u2).bind some)) ?_ (fun j1 Hj1 => ?_)
  · intro u2
    refine es_blk (pc' := 19) (L' := [none, none, none, none]) (st' := [.int (-1)]) [(.iconst (-1), (-1))] (by decide +kernel) rfl rfl ?_
    exact es_ret rfl rfl rfl ⟨by decide +kernel, _, rfl, rfl⟩ (Nat.le_refl _) (Nat.le_refl _)
  refine es_lt (tgt := 18) (off := (9)) (by decide +kernel) (by decide) (fun h3 => ?_) (fun h3 => ?_)
  · refine ef_drop (L2 := [none, none, none, none]) [false, false, false, false] rfl rfl ?_
    exact Hj1 ()
  refine es_blk (pc' := 15) (L' := [some (.ref 0), some (.int p0), some (.int p1), some (.ref 2)]) (st' := [.int 12, .int p0]) [(.iload_n 1, 0), (.bipush 12, 12)] (by decide +kernel) rfl rfl ?_
  refine es_ilt (tgt := 20) (off := (5)) (by decide +kernel) (by decide) (fun h4 => ?_) (fun h4 => ?_)
  · refine es_blk (pc' := 21) (L' := [some (.ref 0), some (.int p0), some (.int p1), some (.ref 2)]) (st' := [.int p1]) [(.iload_n 2, 0)] (by decide +kernel) rfl rfl ?_
    refine es_ne (tgt := 31) (off := (10)) (by decide +kernel) (by decide) (fun h5 => ?_) (fun h5 => ?_)
    · refine es_blk (pc' := 25) (L' := [some (.ref 0), some (.int p0), some (.int p1), some (.ref 2)]) (st' := [.ref 2]) [(.aload_n 3, 0)] (by decide +kernel) rfl rfl ?_
      refine ef_getP (k := 2) (j := 0) (q := 3) rfl eL_11_215 rfl rfl rfl (by decide +kernel) ?_
      refine es_blk (pc' := 29) (L' := [some (.ref 0), some (.int p0), some (.int p1), some (.ref 2)]) (st' := [.int p0, .ref 3]) [(.iload_n 1, 0)] (by decide +kernel) rfl rfl ?_
      refine ef_ald (k := 3) rfl (Or.inl ⟨rfl, rfl⟩) (by decide +kernel) (fun _ => ?_)
      exact es_ret rfl rfl rfl ⟨by decide +kernel, _, rfl, rfl⟩ (Nat.le_refl _) (Nat.le_refl _)
    refine es_blk (pc' := 32) (L' := [some (.ref 0), some (.int p0), some (.int p1), some (.ref 2)]) (st' := [.ref 2]) [(.aload_n 3, 0)] (by decide +kernel) rfl rfl ?_
    refine ef_getP (k := 2) (j := 0) (q := 3) rfl eL_11_215 rfl rfl rfl (by decide +kernel) ?_
    refine es_blk (pc' := 36) (L' := [some (.ref 0), some (.int p0), some (.int p1), some (.ref 2)]) (st' := [.int p0, .ref 3]) [(.iload_n 1, 0)] (by decide +kernel) rfl rfl ?_
    refine ef_ald (k := 3) rfl (Or.inl ⟨rfl, rfl⟩) (by decide +kernel) (fun _ => ?_)
    refine es_ne (tgt := 42) (off := (5)) (by decide +kernel) (by decide) (fun h6 => ?_) (fun h6 => ?_)
    · refine es_blk (pc' := 41) (L' := [some (.ref 0), some (.int p0), some (.int p1), some (.ref 2)]) (st' := [.int (-1)]) [(.iconst (-1), (-1))] (by decide +kernel) rfl rfl ?_
      exact es_ret rfl rfl rfl ⟨by decide +kernel, _, rfl, rfl⟩ (Nat.le_refl _) (Nat.le_refl _)
    refine es_blk (pc' := 43) (L' := [some (.ref 0), some (.int p0), some (.int p1), some (.ref 2)]) (st' := [.int p1]) [(.iload_n 2, 0)] (by decide +kernel) rfl rfl ?_
    have hs7 : decode eM_11_region.2.1 43 = .ok (.tableswitch (68) (1) (5) #[(33), (40), (47), (54), (61)], 33) := by decide +kernel
    refine es_ifc (fun h8 => ?_) (fun h8 => ?_)
    · refine es_tsw (off := (33)) (tgt := 76) hs7 1 h8 (by decide) ?_
      refine es_blk (pc' := 77) (L' := [some (.ref 0), some (.int p0), some (.int p1), some (.ref 2)]) (st' := [.ref 2]) [(.aload_n 3, 0)] (by decide +kernel) rfl rfl ?_
      refine ef_getP (k := 2) (j := 1) (q := 4) rfl eL_11_218 rfl rfl rfl (by decide +kernel) ?_
      refine es_blk (pc' := 81) (L' := [some (.ref 0), some (.int p0), some (.int p1), some (.ref 2)]) (st' := [.int p0, .ref 4]) [(.iload_n 1, 0)] (by decide +kernel) rfl rfl ?_
      refine ef_ald (k := 4) rfl (Or.inl ⟨rfl, rfl⟩) (by decide +kernel) (fun _ => ?_)
      exact es_ret rfl rfl rfl ⟨by decide +kernel, _, rfl, rfl⟩ (Nat.le_refl _) (Nat.le_refl _)
    refine es_ifc (fun h9 => ?_) (fun h9 => ?_)
    · refine es_tsw (off := (40)) (tgt := 83) hs7 2 h9 (by decide) ?_
      refine es_blk (pc' := 84) (L' := [some (.ref 0), some (.int p0), some (.int p1), some (.ref 2)]) (st' := [.ref 2]) [(.aload_n 3, 0)] (by decide +kernel) rfl rfl ?_
      refine ef_getP (k := 2) (j := 2) (q := 5) rfl eL_11_221 rfl rfl rfl (by decide +kernel) ?_
      refine es_blk (pc' := 88) (L' := [some (.ref 0), some (.int p0), some (.int p1), some (.ref 2)]) (st' := [.int p0, .ref 5]) [(.iload_n 1, 0)] (by decide +kernel) rfl rfl ?_
      refine ef_ald (k := 5) rfl (Or.inl ⟨rfl, rfl⟩) (by decide +kernel) (fun _ => ?_)
      exact es_ret rfl rfl rfl ⟨by decide +kernel, _, rfl, rfl⟩ (Nat.le_refl _) (Nat.le_refl _)
    refine es_ifc (fun h10 => ?_) (fun h10 => ?_)
    · refine es_tsw (off := (47)) (tgt := 90) hs7 3 h10 (by decide) ?_
      refine es_blk (pc' := 91) (L' := [some (.ref 0), some (.int p0), some (.int p1), some (.ref 2)]) (st' := [.ref 2]) [(.aload_n 3, 0)] (by decide +kernel) rfl rfl ?_
      refine ef_getP (k := 2) (j := 3) (q := 6) rfl eL_11_224 rfl rfl rfl (by decide +kernel) ?_
      refine es_blk (pc' := 95) (L' := [some (.ref 0), some (.int p0), some (.int p1), some (.ref 2)]) (st' := [.int p0, .ref 6]) [(.iload_n 1, 0)] (by decide +kernel) rfl rfl ?_
      refine ef_ald (k := 6) rfl (Or.inl ⟨rfl, rfl⟩) (by decide +kernel) (fun _ => ?_)
      exact es_ret rfl rfl rfl ⟨by decide +kernel, _, rfl, rfl⟩ (Nat.le_refl _) (Nat.le_refl _)
    refine es_ifc (fun h11 => ?_) (fun h11 => ?_)
    · refine es_tsw (off := (54)) (tgt := 97) hs7 4 h11 (by decide) ?_
      refine es_blk (pc' := 98) (L' := [some (.ref 0), some (.int p0), some (.int p1), some (.ref 2)]) (st' := [.ref 2]) [(.aload_n 3, 0)] (by decide +kernel) rfl rfl ?_
      refine ef_getP (k := 2) (j := 4) (q := 7) rfl eL_11_227 rfl rfl rfl (by decide +kernel) ?_
      refine es_blk (pc' := 102) (L' := [some (.ref 0), some (.int p0), some (.int p1), some (.ref 2)]) (st' := [.int p0, .ref 7]) [(.iload_n 1, 0)] (by decide +kernel) rfl rfl ?_
      refine ef_ald (k := 7) rfl (Or.inl ⟨rfl, rfl⟩) (by decide +kernel) (fun _ => ?_)
      exact es_ret rfl rfl rfl ⟨by decide +kernel, _, rfl, rfl⟩ (Nat.le_refl _) (Nat.le_refl _)
    refine es_ifc (fun h12 => ?_) (fun h12 => ?_)
    · refine es_tsw (off := (61)) (tgt := 104) hs7 5 h12 (by decide) ?_
      refine es_blk (pc' := 105) (L' := [some (.ref 0), some (.int p0), some (.int p1), some (.ref 2)]) (st' := [.ref 2]) [(.aload_n 3, 0)] (by decide +kernel) rfl rfl ?_
      refine ef_getP (k := 2) (j := 5) (q := 8) rfl eL_11_230 rfl rfl rfl (by decide +kernel) ?_
      refine es_blk (pc' := 109) (L' := [some (.ref 0), some (.int p0), some (.int p1), some (.ref 2)]) (st' := [.int p0, .ref 8]) [(.iload_n 1, 0)] (by decide +kernel) rfl rfl ?_
      refine ef_ald (k := 8) rfl (Or.inl ⟨rfl, rfl⟩) (by decide +kernel) (fun _ => ?_)
      exact es_ret rfl rfl rfl ⟨by decide +kernel, _, rfl, rfl⟩ (Nat.le_refl _) (Nat.le_refl _)
    refine es_tswD (tgt := 111) hs7 [1, 2, 3, 4, 5] (List.forall_mem_cons.mpr ⟨eh_nei 1 1 (by decide) h8, (List.forall_mem_cons.mpr ⟨eh_nei 2 2 (by decide) h9, (List.forall_mem_cons.mpr ⟨eh_nei 3 3 (by decide) h10, (List.forall_mem_cons.mpr ⟨eh_nei 4 4 (by decide) h11, (List.forall_mem_cons.mpr ⟨eh_nei 5 5 (by decide) h12, (List.forall_mem_nil _)⟩)⟩)⟩)⟩)⟩) (by decide) (by decide) (by decide) ?_
    refine es_blk (pc' := 112) (L' := [some (.ref 0), some (.int p0), some (.int p1), some (.ref 2)]) (st' := [.int (-1)]) [(.iconst (-1), (-1))] (by decide +kernel) rfl rfl ?_
    exact es_ret rfl rfl rfl ⟨by decide +kernel, _, rfl, rfl⟩ (Nat.le_refl _) (Nat.le_refl _)
  refine ef_drop (L2 := [none, none, none, none]) [false, false, false, false] rfl rfl ?_
  exact Hj1 ()
def eF_11_countOfHart (s : eh_F) (p0 : Int32) : Option (Int32) := if eh_in (p0 &&& 1) 2 then eh_V ((eh_shr p0 1) : Int32) (fun x2 => if x2 = 4 then (some (s.1 (eh_hp (p0 &&& 1)) 5)) else if x2 = 5 then (eh_J (fun (a7 : Int32) => some a7) (fun j6 => if (s.1 (eh_hp (p0 &&& 1)) 4) = 0 then (j6 0) else (j6 1))) else if x2 = 6 then (some (s.1 (eh_hp (p0 &&& 1)) 3)) else (some (s.1 (eh_hp (p0 &&& 1)) 2))) else none
set_option maxHeartbeats 4000000 in
set_option maxRecDepth 100000 in
theorem eS_11_countOfHart (g : eh_P) (s : eh_F) (p0 : Int32) : eh_Sim g eM_11_countOfHart (eh_R 1 0 0) (eh_pI s) 0 0 0 (eh_en 3 [.ref 0, .int p0]) [] (eh_FW s) (eF_11_countOfHart s p0) := by
  unfold eF_11_countOfHart
  refine ef_top (L := [some (.ref 0), some (.int p0), none]) rfl ?_
  refine es_blk (pc' := 1) (L' := [some (.ref 0), some (.int p0), none]) (st' := [.ref 0]) [(.aload_n 0, 0)] (by decide +kernel) rfl rfl ?_
  refine ef_getP (k := 0) (j := 0) (q := 1) rfl eL_11_12 rfl rfl rfl (by decide +kernel) ?_
  refine ef_getP (k := 1) (j := 2) (q := 26) rfl eL_11_88 rfl rfl rfl (by decide +kernel) ?_
  refine es_blk (pc' := 10) (L' := [some (.ref 0), some (.int p0), none]) (st' := [.int (p0 &&& 1), .ref 26]) [(.iload_n 1, 0), (.iconst 1, 1), (.iand, 0)] (by decide +kernel) rfl rfl ?_
  refine ef_harts (by decide +kernel) (fun h1 => ?_)
  refine es_blk (pc' := 15) (L' := [some (.ref 0), some (.int p0), some (.ref (eh_hp (p0 &&& 1)))]) (st' := [.int (eh_shr p0 1)]) [(.astore_n 2, 0), (.iload_n 1, 0), (.iconst 1, 1), (.ishr, 0)] (by decide +kernel) rfl rfl ?_
  refine ef_V (fun _ => [some (.ref 0), some (.int p0), some (.ref (eh_hp (p0 &&& 1)))]) (fun x2 => [.int x2]) (fun _ => eh_FW s) (fun x2 => ?_)
  have hs3 : decode eM_11_countOfHart.2.1 15 = .ok (.tableswitch (48) (4) (6) #[(25), (30), (43)], 25) := by decide +kernel
  refine es_ifc (fun h4 => ?_) (fun h4 => ?_)
  · refine es_tsw (off := (25)) (tgt := 40) hs3 4 h4 (by decide) ?_
    refine es_blk (pc' := 41) (L' := [some (.ref 0), some (.int p0), some (.ref (eh_hp (p0 &&& 1)))]) (st' := [.ref (eh_hp (p0 &&& 1))]) [(.aload_n 2, 0)] (by decide +kernel) rfl rfl ?_
    refine ef_getI (k := (eh_hp (p0 &&& 1))) (j := 5) (eh_H0sh h1) eL_11_139 (by decide) (by decide +kernel) ?_
    exact es_ret rfl rfl rfl ⟨by decide +kernel, _, rfl, rfl⟩ (Nat.le_refl _) (Nat.le_refl _)
  refine es_ifc (fun h5 => ?_) (fun h5 => ?_)
  · refine es_tsw (off := (30)) (tgt := 45) hs3 5 h5 (by decide) ?_
    refine es_blk (pc' := 46) (L' := [some (.ref 0), some (.int p0), some (.ref (eh_hp (p0 &&& 1)))]) (st' := [.ref (eh_hp (p0 &&& 1))]) [(.aload_n 2, 0)] (by decide +kernel) rfl rfl ?_
    refine ef_getI (k := (eh_hp (p0 &&& 1))) (j := 4) (eh_H0sh h1) eL_11_116 (by decide) (by decide +kernel) ?_
    refine ef_J (X := fun j6 => ∀ (a7 : Int32), eh_Sim g eM_11_countOfHart (eh_R 1 0 0) (eh_pI s) 0 0 57 [none, none, none] [.int a7] (eh_FW s) ((j6 a7).bind some)) ?_ (fun j6 Hj6 => ?_)
    · intro a7
      exact es_ret rfl rfl rfl ⟨by decide +kernel, _, rfl, rfl⟩ (Nat.le_refl _) (Nat.le_refl _)
    refine es_eq (tgt := 56) (off := (7)) (by decide +kernel) (by decide) (fun h8 => ?_) (fun h8 => ?_)
    · refine es_blk (pc' := 57) (L' := [some (.ref 0), some (.int p0), some (.ref (eh_hp (p0 &&& 1)))]) (st' := [.int 0]) [(.iconst 0, 0)] (by decide +kernel) rfl rfl ?_
      refine ef_drop (L2 := [none, none, none]) [false, false, false] rfl rfl ?_
      exact Hj6 _
    refine es_blk (pc' := 53) (L' := [some (.ref 0), some (.int p0), some (.ref (eh_hp (p0 &&& 1)))]) (st' := [.int 1]) [(.iconst 1, 1)] (by decide +kernel) rfl rfl ?_
    refine es_goto (tgt := 57) (off := (4)) (by decide +kernel) (by decide) ?_
    refine ef_drop (L2 := [none, none, none]) [false, false, false] rfl rfl ?_
    exact Hj6 _
  refine es_ifc (fun h9 => ?_) (fun h9 => ?_)
  · refine es_tsw (off := (43)) (tgt := 58) hs3 6 h9 (by decide) ?_
    refine es_blk (pc' := 59) (L' := [some (.ref 0), some (.int p0), some (.ref (eh_hp (p0 &&& 1)))]) (st' := [.ref (eh_hp (p0 &&& 1))]) [(.aload_n 2, 0)] (by decide +kernel) rfl rfl ?_
    refine ef_getI (k := (eh_hp (p0 &&& 1))) (j := 3) (eh_H0sh h1) eL_11_113 (by decide) (by decide +kernel) ?_
    exact es_ret rfl rfl rfl ⟨by decide +kernel, _, rfl, rfl⟩ (Nat.le_refl _) (Nat.le_refl _)
  refine es_tswD (tgt := 63) hs3 [4, 5, 6] (List.forall_mem_cons.mpr ⟨eh_nei 4 4 (by decide) h4, (List.forall_mem_cons.mpr ⟨eh_nei 5 5 (by decide) h5, (List.forall_mem_cons.mpr ⟨eh_nei 6 6 (by decide) h9, (List.forall_mem_nil _)⟩)⟩)⟩) (by decide) (by decide) (by decide) ?_
  refine es_blk (pc' := 64) (L' := [some (.ref 0), some (.int p0), some (.ref (eh_hp (p0 &&& 1)))]) (st' := [.ref (eh_hp (p0 &&& 1))]) [(.aload_n 2, 0)] (by decide +kernel) rfl rfl ?_
  refine ef_getI (k := (eh_hp (p0 &&& 1))) (j := 2) (eh_H0sh h1) eL_11_112 (by decide) (by decide +kernel) ?_
  exact es_ret rfl rfl rfl ⟨by decide +kernel, _, rfl, rfl⟩ (Nat.le_refl _) (Nat.le_refl _)
def eF_11_isHart (s : eh_F) (p0 : Int32) : Option (Int32) := eh_J (fun (a2 : Int32) => if a2 = 0 ∨ a2 = 1 then some a2 else none) (fun j1 => eh_J (fun (u5 : Unit) => j1 0) (fun j4 => if p0 < 0 then (j4 ()) else (if p0 < 2 then (j1 1) else (j4 ()))))
set_option maxHeartbeats 4000000 in
set_option maxRecDepth 100000 in
theorem eS_11_isHart (g : eh_P) (s : eh_F) (p0 : Int32) : eh_Sim g eM_11_isHart (eh_R 1 0 0) (eh_pI s) 0 0 0 (eh_en 1 [.int p0]) [] (eh_FW s) (eF_11_isHart s p0) := by
  unfold eF_11_isHart
  refine ef_top (L := [some (.int p0)]) rfl ?_
  refine es_blk (pc' := 1) (L' := [some (.int p0)]) (st' := [.int p0]) [(.iload_n 0, 0)] (by decide +kernel) rfl rfl ?_
  refine ef_J (X := fun j1 => ∀ (a2 : Int32), eh_Sim g eM_11_isHart (eh_R 1 0 0) (eh_pI s) 0 0 14 [none] [.int a2] (eh_FW s) ((j1 a2).bind some)) ?_ (fun j1 Hj1 => ?_)
  · intro a2
    refine es_chk (fun h3 => ?_)
    exact es_ret rfl rfl rfl ⟨by decide +kernel, _, rfl, eh_narZ h3⟩ (Nat.le_refl _) (Nat.le_refl _)
  refine ef_J (X := fun j4 => ∀ (u5 : Unit), eh_Sim g eM_11_isHart (eh_R 1 0 0) (eh_pI s) 0 0 13 [none] [] (eh_FW s) ((j4 u5).bind some)) ?_ (fun j4 Hj4 => ?_)
  · intro u5
    refine es_blk (pc' := 14) (L' := [none]) (st' := [.int 0]) [(.iconst 0, 0)] (by decide +kernel) rfl rfl ?_
    exact Hj1 _
  refine es_lt (tgt := 13) (off := (12)) (by decide +kernel) (by decide) (fun h6 => ?_) (fun h6 => ?_)
  · refine ef_drop (L2 := [none]) [false] rfl rfl ?_
    exact Hj4 ()
  refine es_blk (pc' := 6) (L' := [some (.int p0)]) (st' := [.int 2, .int p0]) [(.iload_n 0, 0), (.iconst 2, 2)] (by decide +kernel) rfl rfl ?_
  refine es_ige (tgt := 13) (off := (7)) (by decide +kernel) (by decide) (fun h7 => ?_) (fun h7 => ?_)
  · refine es_blk (pc' := 10) (L' := [some (.int p0)]) (st' := [.int 1]) [(.iconst 1, 1)] (by decide +kernel) rfl rfl ?_
    refine es_goto (tgt := 14) (off := (4)) (by decide +kernel) (by decide) ?_
    refine ef_drop (L2 := [none]) [false] rfl rfl ?_
    exact Hj1 _
  refine ef_drop (L2 := [none]) [false] rfl rfl ?_
  exact Hj4 ()
def eF_11_isBelow (s : eh_F) (p0 : Int32) (p1 : Int32) : Option (Int32) := eh_J (fun (a2 : Int32) => if a2 = 0 ∨ a2 = 1 then some a2 else none) (fun j1 => if (p0 ^^^ (-2147483648)) < (p1 ^^^ (-2147483648)) then (j1 1) else (j1 0))
set_option maxHeartbeats 4000000 in
set_option maxRecDepth 100000 in
theorem eS_11_isBelow (g : eh_P) (s : eh_F) (p0 : Int32) (p1 : Int32) : eh_Sim g eM_11_isBelow (eh_R 1 0 0) (eh_pI s) 0 0 0 (eh_en 2 [.int p0, .int p1]) [] (eh_FW s) (eF_11_isBelow s p0 p1) := by
  unfold eF_11_isBelow
  refine ef_top (L := [some (.int p0), some (.int p1)]) rfl ?_
  refine es_blk (pc' := 1) (L' := [some (.int p0), some (.int p1)]) (st' := [.int p0]) [(.iload_n 0, 0)] (by decide +kernel) rfl rfl ?_
  refine es_ldcw (v := (-2147483648)) eC_11_316 (by decide +kernel) ?_
  refine es_blk (pc' := 6) (L' := [some (.int p0), some (.int p1)]) (st' := [.int p1, .int (p0 ^^^ (-2147483648))]) [(.ixor, 0), (.iload_n 1, 0)] (by decide +kernel) rfl rfl ?_
  refine es_ldcw (v := (-2147483648)) eC_11_316 (by decide +kernel) ?_
  refine es_blk (pc' := 10) (L' := [some (.int p0), some (.int p1)]) (st' := [.int (p1 ^^^ (-2147483648)), .int (p0 ^^^ (-2147483648))]) [(.ixor, 0)] (by decide +kernel) rfl rfl ?_
  refine ef_J (X := fun j1 => ∀ (a2 : Int32), eh_Sim g eM_11_isBelow (eh_R 1 0 0) (eh_pI s) 0 0 18 [none, none] [.int a2] (eh_FW s) ((j1 a2).bind some)) ?_ (fun j1 Hj1 => ?_)
  · intro a2
    refine es_chk (fun h3 => ?_)
    exact es_ret rfl rfl rfl ⟨by decide +kernel, _, rfl, eh_narZ h3⟩ (Nat.le_refl _) (Nat.le_refl _)
  refine es_ige (tgt := 17) (off := (7)) (by decide +kernel) (by decide) (fun h4 => ?_) (fun h4 => ?_)
  · refine es_blk (pc' := 14) (L' := [some (.int p0), some (.int p1)]) (st' := [.int 1]) [(.iconst 1, 1)] (by decide +kernel) rfl rfl ?_
    refine es_goto (tgt := 18) (off := (4)) (by decide +kernel) (by decide) ?_
    refine ef_drop (L2 := [none, none]) [false, false] rfl rfl ?_
    exact Hj1 _
  refine es_blk (pc' := 18) (L' := [some (.int p0), some (.int p1)]) (st' := [.int 0]) [(.iconst 0, 0)] (by decide +kernel) rfl rfl ?_
  refine ef_drop (L2 := [none, none]) [false, false] rfl rfl ?_
  exact Hj1 _
