def eF_12_create (s : eh_F) (p0 : Int32) (p1 : Int32) : Option (Int32 × eh_F) := Option.bind (eF_12_isSpan s p0 p1) (fun q1 => if q1 = 0 then (some ((-1), s)) else (Option.bind (eF_12_isOverlap s p0 p1) (fun q3 => if q3 = 0 then (Option.bind (eF_12_free s 155 6) (fun q5 => eh_J (fun (u7 : Unit) => some ((-5), s)) (fun j6 => if q5 = (-1) then (j6 ()) else (Option.bind (eF_12_free s 164 12) (fun q9 => if q9 = (-1) then (j6 ()) else (Option.bind (eF_12_makeRegion s 1 p0 p1 q5 (-1)) (fun q11 => if eh_in q5 6 then eh_V (eh_tI q11.2 156 (eh_ix q5) q11.1) (fun s12 => if eh_in q5 6 then eh_V (eh_tI s12 155 (eh_ix q5) 1) (fun s13 => if eh_in q5 6 then eh_V (eh_tI s13 157 (eh_ix q5) (-1)) (fun s14 => if eh_in q5 6 then if eh_in q5 6 then eh_V (eh_tI s14 158 (eh_ix q5) ((s14.1 158 (eh_ix q5)) + 1)) (fun s15 => if eh_in q5 6 then eh_V (eh_tI s15 161 (eh_ix q5) (eh_nz 0)) (fun s16 => if eh_in q5 6 then eh_V (eh_tI s16 163 (eh_ix q5) 0) (fun s17 => Option.bind (eF_12_begin s17 q5) (fun q18 => Option.bind (eF_12_addNumber q18 q5 1) (fun q19 => Option.bind (eF_12_addNumber q19 q5 p1) (fun q20 => some (q5, q20))))) else none) else none) else none else none) else none) else none) else none))))))) else (some ((-4), s)))))
set_option maxHeartbeats 4000000 in
set_option maxRecDepth 100000 in
theorem eS_12_create (g : eh_P) (s : eh_F) (p0 : Int32) (p1 : Int32) : eh_Sim g eM_12_create (eh_R 5 0 0) eh_eI 0 0 0 (eh_en 4 [.ref 127, .int p0, .int p1]) [] (eh_FW s) (eF_12_create s p0 p1) := by
  unfold eF_12_create
  refine ef_top (L := [some (.ref 127), some (.int p0), some (.int p1), none]) rfl ?_
  refine es_blk (pc' := 2) (L' := [some (.ref 127), some (.int p0), some (.int p1), none]) (st' := [.int p1, .int p0]) [(.iload_n 1, 0), (.iload_n 2, 0)] (by decide +kernel) rfl rfl ?_
  refine ef_spI (d := 1) (As := [.int p0, .int p1]) (st := []) eV_12_isSpan eK_12_560 (eS_12_isSpan g s p0 p1) rfl (Nat.le_of_ble_eq_true rfl) rfl (Nat.le_of_ble_eq_true rfl) ⟨Nat.le_of_ble_eq_true rfl, Nat.le_of_ble_eq_true rfl⟩ ⟨Nat.le_refl _, Nat.le_refl _⟩ (by decide +kernel) (fun q1 _ => ?_)
  refine es_ne (tgt := 10) (off := (5)) (by decide +kernel) (by decide) (fun h2 => ?_) (fun h2 => ?_)
  · refine es_blk (pc' := 9) (L' := [some (.ref 127), some (.int p0), some (.int p1), none]) (st' := [.int (-1)]) [(.iconst (-1), (-1))] (by decide +kernel) rfl rfl ?_
    exact es_ret rfl rfl rfl ⟨by decide +kernel, _, rfl, rfl⟩ (Nat.le_refl _) (Nat.le_refl _)
  refine es_blk (pc' := 13) (L' := [some (.ref 127), some (.int p0), some (.int p1), none]) (st' := [.int p1, .int p0, .ref 127]) [(.aload_n 0, 0), (.iload_n 1, 0), (.iload_n 2, 0)] (by decide +kernel) rfl rfl ?_
  refine ef_vpI (d := 1) (k := 127) (As := [.int p0, .int p1]) (st := []) eV_12_isOverlap eK_12_563 (eS_12_isOverlap g s p0 p1) rfl rfl (Nat.le_of_ble_eq_true rfl) rfl (Nat.le_of_ble_eq_true rfl) ⟨Nat.le_of_ble_eq_true rfl, Nat.le_of_ble_eq_true rfl⟩ ⟨Nat.le_refl _, Nat.le_refl _⟩ (by decide +kernel) (fun q3 _ => ?_)
  refine es_eq (tgt := 22) (off := (6)) (by decide +kernel) (by decide) (fun h4 => ?_) (fun h4 => ?_)
  · refine es_blk (pc' := 23) (L' := [some (.ref 127), some (.int p0), some (.int p1), none]) (st' := [.ref 127]) [(.aload_n 0, 0)] (by decide +kernel) rfl rfl ?_
    refine ef_getP (k := 127) (j := 30) (q := 155) rfl eL_12_94 rfl rfl rfl (by decide +kernel) ?_
    refine ef_spI (d := 1) (As := [.ref 155]) (st := []) eV_12_free eK_12_506 (eS_12_free g s 155 6 rfl) rfl (Nat.le_of_ble_eq_true rfl) rfl (Nat.le_of_ble_eq_true rfl) ⟨Nat.le_of_ble_eq_true rfl, Nat.le_of_ble_eq_true rfl⟩ ⟨Nat.le_refl _, Nat.le_refl _⟩ (by decide +kernel) (fun q5 _ => ?_)
    refine es_blk (pc' := 32) (L' := [some (.ref 127), some (.int p0), some (.int p1), some (.int q5)]) (st' := [.int (-1), .int q5]) [(.istore_n 3, 0), (.iload_n 3, 0), (.iconst (-1), (-1))] (by decide +kernel) rfl rfl ?_
    refine ef_J (X := fun j6 => ∀ (u7 : Unit), eh_Sim g eM_12_create (eh_R 5 0 0) eh_eI 0 0 46 [none, none, none, none] [] (eh_FW s) ((j6 u7).bind some)) ?_ (fun j6 Hj6 => ?_)
    · intro u7
      refine es_blk (pc' := 48) (L' := [none, none, none, none]) (st' := [.int (-5)]) [(.bipush (-5), (-5))] (by decide +kernel) rfl rfl ?_
      exact es_ret rfl rfl rfl ⟨by decide +kernel, _, rfl, rfl⟩ (Nat.le_refl _) (Nat.le_refl _)
    refine es_ieq (tgt := 46) (off := (14)) (by decide +kernel) (by decide) (fun h8 => ?_) (fun h8 => ?_)
    · refine ef_drop (L2 := [none, none, none, none]) [false, false, false, false] rfl rfl ?_
      exact Hj6 ()
    refine es_blk (pc' := 36) (L' := [some (.ref 127), some (.int p0), some (.int p1), some (.int q5)]) (st' := [.ref 127]) [(.aload_n 0, 0)] (by decide +kernel) rfl rfl ?_
    refine ef_getP (k := 127) (j := 39) (q := 164) rfl eL_12_121 rfl rfl rfl (by decide +kernel) ?_
    refine ef_spI (d := 1) (As := [.ref 164]) (st := []) eV_12_free eK_12_506 (eS_12_free g s 164 12 rfl) rfl (Nat.le_of_ble_eq_true rfl) rfl (Nat.le_of_ble_eq_true rfl) ⟨Nat.le_of_ble_eq_true rfl, Nat.le_of_ble_eq_true rfl⟩ ⟨Nat.le_refl _, Nat.le_refl _⟩ (by decide +kernel) (fun q9 _ => ?_)
    refine es_blk (pc' := 43) (L' := [some (.ref 127), some (.int p0), some (.int p1), some (.int q5)]) (st' := [.int (-1), .int q9]) [(.iconst (-1), (-1))] (by decide +kernel) rfl rfl ?_
    refine es_ine (tgt := 49) (off := (6)) (by decide +kernel) (by decide) (fun h10 => ?_) (fun h10 => ?_)
    · refine ef_drop (L2 := [none, none, none, none]) [false, false, false, false] rfl rfl ?_
      exact Hj6 ()
    refine es_blk (pc' := 50) (L' := [some (.ref 127), some (.int p0), some (.int p1), some (.int q5)]) (st' := [.ref 127]) [(.aload_n 0, 0)] (by decide +kernel) rfl rfl ?_
    refine ef_getP (k := 127) (j := 31) (q := 156) rfl eL_12_97 rfl rfl rfl (by decide +kernel) ?_
    refine es_blk (pc' := 60) (L' := [some (.ref 127), some (.int p0), some (.int p1), some (.int q5)]) (st' := [.int (-1), .int q5, .int p1, .int p0, .int 1, .ref 127, .int q5, .ref 156]) [(.iload_n 3, 0), (.aload_n 0, 0), (.iconst 1, 1), (.iload_n 1, 0), (.iload_n 2, 0), (.iload_n 3, 0), (.iconst (-1), (-1))] (by decide +kernel) rfl rfl ?_
    refine ef_veI (d := 3) (k := 127) (As := [.int 1, .int p0, .int p1, .int q5, .int (-1)]) (st := [.int q5, .ref 156]) eV_12_makeRegion eK_12_566 (eS_12_makeRegion g s 1 p0 p1 q5 (-1)) rfl rfl (Nat.le_of_ble_eq_true rfl) rfl (Nat.le_of_ble_eq_true rfl) ⟨Nat.le_of_ble_eq_true rfl, Nat.le_of_ble_eq_true rfl⟩ ⟨Nat.le_refl _, Nat.le_refl _⟩ (by decide +kernel) (fun q11 _ => ?_)
    refine ef_ast (k := 156) rfl (by decide +kernel) (fun _ => ?_)
    refine ef_V (fun _ => [some (.ref 127), some (.int p0), some (.int p1), some (.int q5)]) (fun _ => []) (fun s12 => eh_FW s12) (fun s12 => ?_)
    refine es_blk (pc' := 65) (L' := [some (.ref 127), some (.int p0), some (.int p1), some (.int q5)]) (st' := [.ref 127]) [(.aload_n 0, 0)] (by decide +kernel) rfl rfl ?_
    refine ef_getP (k := 127) (j := 30) (q := 155) rfl eL_12_94 rfl rfl rfl (by decide +kernel) ?_
    refine es_blk (pc' := 70) (L' := [some (.ref 127), some (.int p0), some (.int p1), some (.int q5)]) (st' := [.int 1, .int q5, .ref 155]) [(.iload_n 3, 0), (.iconst 1, 1)] (by decide +kernel) rfl rfl ?_
    refine ef_ast (k := 155) rfl (by decide +kernel) (fun _ => ?_)
    refine ef_V (fun _ => [some (.ref 127), some (.int p0), some (.int p1), some (.int q5)]) (fun _ => []) (fun s13 => eh_FW s13) (fun s13 => ?_)
    refine es_blk (pc' := 72) (L' := [some (.ref 127), some (.int p0), some (.int p1), some (.int q5)]) (st' := [.ref 127]) [(.aload_n 0, 0)] (by decide +kernel) rfl rfl ?_
    refine ef_getP (k := 127) (j := 32) (q := 157) rfl eL_12_100 rfl rfl rfl (by decide +kernel) ?_
    refine es_blk (pc' := 77) (L' := [some (.ref 127), some (.int p0), some (.int p1), some (.int q5)]) (st' := [.int (-1), .int q5, .ref 157]) [(.iload_n 3, 0), (.iconst (-1), (-1))] (by decide +kernel) rfl rfl ?_
    refine ef_ast (k := 157) rfl (by decide +kernel) (fun _ => ?_)
    refine ef_V (fun _ => [some (.ref 127), some (.int p0), some (.int p1), some (.int q5)]) (fun _ => []) (fun s14 => eh_FW s14) (fun s14 => ?_)
    refine es_blk (pc' := 79) (L' := [some (.ref 127), some (.int p0), some (.int p1), some (.int q5)]) (st' := [.ref 127]) [(.aload_n 0, 0)] (by decide +kernel) rfl rfl ?_
    refine ef_getP (k := 127) (j := 33) (q := 158) rfl eL_12_103 rfl rfl rfl (by decide +kernel) ?_
    refine es_blk (pc' := 84) (L' := [some (.ref 127), some (.int p0), some (.int p1), some (.int q5)]) (st' := [.int q5, .ref 158, .int q5, .ref 158]) [(.iload_n 3, 0), (.dup2, 0)] (by decide +kernel) rfl rfl ?_
    refine ef_ald (k := 158) rfl (Or.inl ⟨rfl, rfl⟩) (by decide +kernel) (fun _ => ?_)
    refine es_blk (pc' := 87) (L' := [some (.ref 127), some (.int p0), some (.int p1), some (.int q5)]) (st' := [.int ((s14.1 158 (eh_ix q5)) + 1), .int q5, .ref 158]) [(.iconst 1, 1), (.iadd, 0)] (by decide +kernel) rfl rfl ?_
    refine ef_ast (k := 158) rfl (by decide +kernel) (fun _ => ?_)
    refine ef_V (fun _ => [some (.ref 127), some (.int p0), some (.int p1), some (.int q5)]) (fun _ => []) (fun s15 => eh_FW s15) (fun s15 => ?_)
    refine es_blk (pc' := 89) (L' := [some (.ref 127), some (.int p0), some (.int p1), some (.int q5)]) (st' := [.ref 127]) [(.aload_n 0, 0)] (by decide +kernel) rfl rfl ?_
    refine ef_getP (k := 127) (j := 36) (q := 161) rfl eL_12_112 rfl rfl rfl (by decide +kernel) ?_
    refine es_blk (pc' := 94) (L' := [some (.ref 127), some (.int p0), some (.int p1), some (.int q5)]) (st' := [.int 0, .int q5, .ref 161]) [(.iload_n 3, 0), (.iconst 0, 0)] (by decide +kernel) rfl rfl ?_
    refine ef_astZ (k := 161) rfl (by decide +kernel) (fun _ => ?_)
    refine ef_V (fun _ => [some (.ref 127), some (.int p0), some (.int p1), some (.int q5)]) (fun _ => []) (fun s16 => eh_FW s16) (fun s16 => ?_)
    refine es_blk (pc' := 96) (L' := [some (.ref 127), some (.int p0), some (.int p1), some (.int q5)]) (st' := [.ref 127]) [(.aload_n 0, 0)] (by decide +kernel) rfl rfl ?_
    refine ef_getP (k := 127) (j := 38) (q := 163) rfl eL_12_118 rfl rfl rfl (by decide +kernel) ?_
    refine es_blk (pc' := 101) (L' := [some (.ref 127), some (.int p0), some (.int p1), some (.int q5)]) (st' := [.int 0, .int q5, .ref 163]) [(.iload_n 3, 0), (.iconst 0, 0)] (by decide +kernel) rfl rfl ?_
    refine ef_ast (k := 163) rfl (by decide +kernel) (fun _ => ?_)
    refine ef_V (fun _ => [some (.ref 127), some (.int p0), some (.int p1), some (.int q5)]) (fun _ => []) (fun s17 => eh_FW s17) (fun s17 => ?_)
    refine es_blk (pc' := 104) (L' := [some (.ref 127), some (.int p0), some (.int p1), some (.int q5)]) (st' := [.int q5, .ref 127]) [(.aload_n 0, 0), (.iload_n 3, 0)] (by decide +kernel) rfl rfl ?_
    refine ef_veV (d := 1) (k := 127) (As := [.int q5]) (st := []) eV_12_begin eK_12_218 (eS_12_begin g s17 q5) rfl rfl (Nat.le_of_ble_eq_true rfl) rfl (Nat.le_of_ble_eq_true rfl) ⟨Nat.le_of_ble_eq_true rfl, Nat.le_of_ble_eq_true rfl⟩ ⟨Nat.le_refl _, Nat.le_refl _⟩ (by decide +kernel) (fun q18 _ => ?_)
    refine es_blk (pc' := 110) (L' := [some (.ref 127), some (.int p0), some (.int p1), some (.int q5)]) (st' := [.int 1, .int q5, .ref 127]) [(.aload_n 0, 0), (.iload_n 3, 0), (.iconst 1, 1)] (by decide +kernel) rfl rfl ?_
    refine ef_veV (d := 4) (k := 127) (As := [.int q5, .int 1]) (st := []) eV_12_addNumber eK_12_222 (eS_12_addNumber g q18 q5 1) rfl rfl (Nat.le_of_ble_eq_true rfl) rfl (Nat.le_of_ble_eq_true rfl) ⟨Nat.le_of_ble_eq_true rfl, Nat.le_of_ble_eq_true rfl⟩ ⟨Nat.le_refl _, Nat.le_refl _⟩ (by decide +kernel) (fun q19 _ => ?_)
    refine es_blk (pc' := 116) (L' := [some (.ref 127), some (.int p0), some (.int p1), some (.int q5)]) (st' := [.int p1, .int q5, .ref 127]) [(.aload_n 0, 0), (.iload_n 3, 0), (.iload_n 2, 0)] (by decide +kernel) rfl rfl ?_
    refine ef_veV (d := 4) (k := 127) (As := [.int q5, .int p1]) (st := []) eV_12_addNumber eK_12_222 (eS_12_addNumber g q19 q5 p1) rfl rfl (Nat.le_of_ble_eq_true rfl) rfl (Nat.le_of_ble_eq_true rfl) ⟨Nat.le_of_ble_eq_true rfl, Nat.le_of_ble_eq_true rfl⟩ ⟨Nat.le_refl _, Nat.le_refl _⟩ (by decide +kernel) (fun q20 _ => ?_)
    refine es_blk (pc' := 120) (L' := [some (.ref 127), some (.int p0), some (.int p1), some (.int q5)]) (st' := [.int q5]) [(.iload_n 3, 0)] (by decide +kernel) rfl rfl ?_
    exact es_ret rfl rfl rfl ⟨by decide +kernel, _, rfl, rfl⟩ (Nat.le_refl _) (Nat.le_refl _)
  refine es_blk (pc' := 21) (L' := [some (.ref 127), some (.int p0), some (.int p1), none]) (st' := [.int (-4)]) [(.bipush (-4), (-4))] (by decide +kernel) rfl rfl ?_
  exact es_ret rfl rfl rfl ⟨by decide +kernel, _, rfl, rfl⟩ (Nat.le_refl _) (Nat.le_refl _)
def eF_12_loadPage (s : eh_F) (p0 : Int32) (p1 : Int32) (p2 : Int32) : Option (Int32 × eh_F) := Option.bind (eF_12_isEnclave s p0) (fun q1 => eh_J (fun (u3 : Unit) => some ((-1), s)) (fun j2 => if q1 = 0 then (j2 ()) else (if p1 < 0 then (j2 ()) else (if eh_in p0 6 then if eh_in (s.1 156 (eh_ix p0)) 12 then if p1 < ((s.1 166 (eh_ix (s.1 156 (eh_ix p0)))) / 256) then (if p2 < 0 then (j2 ()) else (if (eh_rem p2 4) = 0 then (if 130816 < p2 then (j2 ()) else (Option.bind (eF_12_areOpen s p2 256) (fun q10 => if q10 = 0 then (j2 ()) else (if eh_in p0 6 then if (s.1 155 (eh_ix p0)) = 1 then (Option.bind (eF_12_addNumber s p0 2) (fun q13 => Option.bind (eF_12_addNumber q13 p0 p1) (fun q14 => Option.bind (eF_12_addBytes q14 p0 128 131072 p2 256) (fun q15 => Option.bind (eh_loop (fun (r19 : (Int32 × eh_F) → Option (eh_F)) (t16 : Int32 × eh_F) => if t16.1 < 256 then (if eh_in p0 6 then if eh_in (t16.2.1 156 (eh_ix p0)) 12 then if eh_in (p2 + t16.1) 131072 then Option.bind (eF_12_setByte t16.2 (((t16.2.1 165 (eh_ix (t16.2.1 156 (eh_ix p0)))) + (256 * p1)) + t16.1) (t16.2.1 128 (eh_ix (p2 + t16.1)))) (fun q21 => eh_V ((t16.1 + 1) : Int32) (fun x22 => r19 (x22, q21))) else none else none else none) else (some t16.2)) eh_FU (0, q15)) (fun (e17 : eh_F) => some (0, e17)))))) else (some ((-2), s)) else none)))) else (j2 ()))) else (j2 ()) else none else none))))
set_option maxHeartbeats 4000000 in
set_option maxRecDepth 100000 in
theorem eS_12_loadPage (g : eh_P) (s : eh_F) (p0 : Int32) (p1 : Int32) (p2 : Int32) : eh_Sim g eM_12_loadPage (eh_R 5 0 0) eh_eI 0 0 0 (eh_en 5 [.ref 127, .int p0, .int p1, .int p2]) [] (eh_FW s) (eF_12_loadPage s p0 p1 p2) := by
  unfold eF_12_loadPage
  refine ef_top (L := [some (.ref 127), some (.int p0), some (.int p1), some (.int p2), none]) rfl ?_
  refine es_blk (pc' := 2) (L' := [some (.ref 127), some (.int p0), some (.int p1), some (.int p2), none]) (st' := [.int p0, .ref 127]) [(.aload_n 0, 0), (.iload_n 1, 0)] (by decide +kernel) rfl rfl ?_
  refine ef_vpI (d := 1) (k := 127) (As := [.int p0]) (st := []) eV_12_isEnclave eK_12_549 (eS_12_isEnclave g s p0) rfl rfl (Nat.le_of_ble_eq_true rfl) rfl (Nat.le_of_ble_eq_true rfl) ⟨Nat.le_of_ble_eq_true rfl, Nat.le_of_ble_eq_true rfl⟩ ⟨Nat.le_refl _, Nat.le_refl _⟩ (by decide +kernel) (fun q1 _ => ?_)
  refine ef_J (X := fun j2 => ∀ (u3 : Unit), eh_Sim g eM_12_loadPage (eh_R 5 0 0) eh_eI 0 0 59 [none, none, none, none, none] [] (eh_FW s) ((j2 u3).bind some)) ?_ (fun j2 Hj2 => ?_)
  · intro u3
    refine es_blk (pc' := 60) (L' := [none, none, none, none, none]) (st' := [.int (-1)]) [(.iconst (-1), (-1))] (by decide +kernel) rfl rfl ?_
    exact es_ret rfl rfl rfl ⟨by decide +kernel, _, rfl, rfl⟩ (Nat.le_refl _) (Nat.le_refl _)
  refine es_eq (tgt := 59) (off := (54)) (by decide +kernel) (by decide) (fun h4 => ?_) (fun h4 => ?_)
  · refine ef_drop (L2 := [none, none, none, none, none]) [false, false, false, false, true] rfl rfl ?_
    exact Hj2 ()
  refine es_blk (pc' := 9) (L' := [some (.ref 127), some (.int p0), some (.int p1), some (.int p2), none]) (st' := [.int p1]) [(.iload_n 2, 0)] (by decide +kernel) rfl rfl ?_
  refine es_lt (tgt := 59) (off := (50)) (by decide +kernel) (by decide) (fun h5 => ?_) (fun h5 => ?_)
  · refine ef_drop (L2 := [none, none, none, none, none]) [false, false, false, false, true] rfl rfl ?_
    exact Hj2 ()
  refine es_blk (pc' := 14) (L' := [some (.ref 127), some (.int p0), some (.int p1), some (.int p2), none]) (st' := [.ref 127, .int p1]) [(.iload_n 2, 0), (.aload_n 0, 0)] (by decide +kernel) rfl rfl ?_
  refine ef_getP (k := 127) (j := 41) (q := 166) rfl eL_12_127 rfl rfl rfl (by decide +kernel) ?_
  refine es_blk (pc' := 18) (L' := [some (.ref 127), some (.int p0), some (.int p1), some (.int p2), none]) (st' := [.ref 127, .ref 166, .int p1]) [(.aload_n 0, 0)] (by decide +kernel) rfl rfl ?_
  refine ef_getP (k := 127) (j := 31) (q := 156) rfl eL_12_97 rfl rfl rfl (by decide +kernel) ?_
  refine es_blk (pc' := 22) (L' := [some (.ref 127), some (.int p0), some (.int p1), some (.int p2), none]) (st' := [.int p0, .ref 156, .ref 166, .int p1]) [(.iload_n 1, 0)] (by decide +kernel) rfl rfl ?_
  refine ef_ald (k := 156) rfl (Or.inl ⟨rfl, rfl⟩) (by decide +kernel) (fun _ => ?_)
  refine ef_ald (k := 166) rfl (Or.inl ⟨rfl, rfl⟩) (by decide +kernel) (fun _ => ?_)
  refine es_blk (pc' := 27) (L' := [some (.ref 127), some (.int p0), some (.int p1), some (.int p2), none]) (st' := [.int 256, .int (s.1 166 (eh_ix (s.1 156 (eh_ix p0)))), .int p1]) [(.sipush 256, 256)] (by decide +kernel) rfl rfl ?_
  refine es_idiv (by decide +kernel) (by decide) ?_
  refine es_ige (tgt := 59) (off := (31)) (by decide +kernel) (by decide) (fun h6 => ?_) (fun h6 => ?_)
  · refine es_blk (pc' := 32) (L' := [some (.ref 127), some (.int p0), some (.int p1), some (.int p2), none]) (st' := [.int p2]) [(.iload_n 3, 0)] (by decide +kernel) rfl rfl ?_
    refine es_lt (tgt := 59) (off := (27)) (by decide +kernel) (by decide) (fun h7 => ?_) (fun h7 => ?_)
    · refine ef_drop (L2 := [none, none, none, none, none]) [false, false, false, false, true] rfl rfl ?_
      exact Hj2 ()
    refine es_blk (pc' := 37) (L' := [some (.ref 127), some (.int p0), some (.int p1), some (.int p2), none]) (st' := [.int 4, .int p2]) [(.iload_n 3, 0), (.iconst 4, 4)] (by decide +kernel) rfl rfl ?_
    refine es_irem (by decide +kernel) (by decide) ?_
    refine es_ne (tgt := 59) (off := (21)) (by decide +kernel) (by decide) (fun h8 => ?_) (fun h8 => ?_)
    · refine es_blk (pc' := 42) (L' := [some (.ref 127), some (.int p0), some (.int p1), some (.int p2), none]) (st' := [.int p2]) [(.iload_n 3, 0)] (by decide +kernel) rfl rfl ?_
      refine es_ldcw (v := 130816) eC_12_569 (by decide +kernel) ?_
      refine es_igt (tgt := 59) (off := (14)) (by decide +kernel) (by decide) (fun h9 => ?_) (fun h9 => ?_)
      · refine ef_drop (L2 := [none, none, none, none, none]) [false, false, false, false, true] rfl rfl ?_
        exact Hj2 ()
      refine es_blk (pc' := 53) (L' := [some (.ref 127), some (.int p0), some (.int p1), some (.int p2), none]) (st' := [.int 256, .int p2, .ref 127]) [(.aload_n 0, 0), (.iload_n 3, 0), (.sipush 256, 256)] (by decide +kernel) rfl rfl ?_
      refine ef_vpI (d := 1) (k := 127) (As := [.int p2, .int 256]) (st := []) eV_12_areOpen eK_12_570 (eS_12_areOpen g s p2 256) rfl rfl (Nat.le_of_ble_eq_true rfl) rfl (Nat.le_of_ble_eq_true rfl) ⟨Nat.le_of_ble_eq_true rfl, Nat.le_of_ble_eq_true rfl⟩ ⟨Nat.le_refl _, Nat.le_refl _⟩ (by decide +kernel) (fun q10 _ => ?_)
      refine es_ne (tgt := 61) (off := (5)) (by decide +kernel) (by decide) (fun h11 => ?_) (fun h11 => ?_)
      · refine ef_drop (L2 := [none, none, none, none, none]) [false, false, false, false, true] rfl rfl ?_
        exact Hj2 ()
      refine es_blk (pc' := 62) (L' := [some (.ref 127), some (.int p0), some (.int p1), some (.int p2), none]) (st' := [.ref 127]) [(.aload_n 0, 0)] (by decide +kernel) rfl rfl ?_
      refine ef_getP (k := 127) (j := 30) (q := 155) rfl eL_12_94 rfl rfl rfl (by decide +kernel) ?_
      refine es_blk (pc' := 66) (L' := [some (.ref 127), some (.int p0), some (.int p1), some (.int p2), none]) (st' := [.int p0, .ref 155]) [(.iload_n 1, 0)] (by decide +kernel) rfl rfl ?_
      refine ef_ald (k := 155) rfl (Or.inl ⟨rfl, rfl⟩) (by decide +kernel) (fun _ => ?_)
      refine es_blk (pc' := 68) (L' := [some (.ref 127), some (.int p0), some (.int p1), some (.int p2), none]) (st' := [.int 1, .int (s.1 155 (eh_ix p0))]) [(.iconst 1, 1)] (by decide +kernel) rfl rfl ?_
      refine es_ieq (tgt := 74) (off := (6)) (by decide +kernel) (by decide) (fun h12 => ?_) (fun h12 => ?_)
      · refine es_blk (pc' := 77) (L' := [some (.ref 127), some (.int p0), some (.int p1), some (.int p2), none]) (st' := [.int 2, .int p0, .ref 127]) [(.aload_n 0, 0), (.iload_n 1, 0), (.iconst 2, 2)] (by decide +kernel) rfl rfl ?_
        refine ef_veV (d := 4) (k := 127) (As := [.int p0, .int 2]) (st := []) eV_12_addNumber eK_12_222 (eS_12_addNumber g s p0 2) rfl rfl (Nat.le_of_ble_eq_true rfl) rfl (Nat.le_of_ble_eq_true rfl) ⟨Nat.le_of_ble_eq_true rfl, Nat.le_of_ble_eq_true rfl⟩ ⟨Nat.le_refl _, Nat.le_refl _⟩ (by decide +kernel) (fun q13 _ => ?_)
        refine es_blk (pc' := 83) (L' := [some (.ref 127), some (.int p0), some (.int p1), some (.int p2), none]) (st' := [.int p1, .int p0, .ref 127]) [(.aload_n 0, 0), (.iload_n 1, 0), (.iload_n 2, 0)] (by decide +kernel) rfl rfl ?_
        refine ef_veV (d := 4) (k := 127) (As := [.int p0, .int p1]) (st := []) eV_12_addNumber eK_12_222 (eS_12_addNumber g q13 p0 p1) rfl rfl (Nat.le_of_ble_eq_true rfl) rfl (Nat.le_of_ble_eq_true rfl) ⟨Nat.le_of_ble_eq_true rfl, Nat.le_of_ble_eq_true rfl⟩ ⟨Nat.le_refl _, Nat.le_refl _⟩ (by decide +kernel) (fun q14 _ => ?_)
        refine es_blk (pc' := 89) (L' := [some (.ref 127), some (.int p0), some (.int p1), some (.int p2), none]) (st' := [.ref 127, .int p0, .ref 127]) [(.aload_n 0, 0), (.iload_n 1, 0), (.aload_n 0, 0)] (by decide +kernel) rfl rfl ?_
        refine ef_getP (k := 127) (j := 0) (q := 128) rfl eL_12_10 rfl rfl rfl (by decide +kernel) ?_
        refine es_blk (pc' := 96) (L' := [some (.ref 127), some (.int p0), some (.int p1), some (.int p2), none]) (st' := [.int 256, .int p2, .ref 128, .int p0, .ref 127]) [(.iload_n 3, 0), (.sipush 256, 256)] (by decide +kernel) rfl rfl ?_
        refine ef_veV (d := 4) (k := 127) (As := [.int p0, .ref 128, .int p2, .int 256]) (st := []) eV_12_addBytes eK_12_262 (eS_12_addBytes g q14 p0 128 131072 p2 256 rfl) rfl rfl (Nat.le_of_ble_eq_true rfl) rfl (Nat.le_of_ble_eq_true rfl) ⟨Nat.le_of_ble_eq_true rfl, Nat.le_of_ble_eq_true rfl⟩ ⟨Nat.le_refl _, Nat.le_refl _⟩ (by decide +kernel) (fun q15 _ => ?_)
        refine es_blk (pc' := 102) (L' := [some (.ref 127), some (.int p0), some (.int p1), some (.int p2), some (.int 0)]) (st' := []) [(.iconst 0, 0), (.istore 4, 0)] (by decide +kernel) rfl rfl ?_
        refine ef_loop1 (n := eh_FU) (i := (0, q15)) (px := 149) (fun (t16 : Int32 × eh_F) => [some (.ref 127), some (.int p0), some (.int p1), some (.int p2), some (.int t16.1)]) (fun (t16 : Int32 × eh_F) => []) (fun (t16 : Int32 × eh_F) => eh_FW t16.2) (fun (e17 : eh_F) => [none, none, none, none, none]) (fun (e17 : eh_F) => []) (fun (e17 : eh_F) => eh_FW e17) (fun e17 => ?_) (fun K18 HxK18_0 r19 Hr19 t16 => ?_)
        · refine es_blk (pc' := 150) (L' := [none, none, none, none, none]) (st' := [.int 0]) [(.iconst 0, 0)] (by decide +kernel) rfl rfl ?_
          exact es_ret rfl rfl rfl ⟨by decide +kernel, _, rfl, rfl⟩ (Nat.le_refl _) (Nat.le_refl _)
        · refine es_blk (pc' := 107) (L' := [some (.ref 127), some (.int p0), some (.int p1), some (.int p2), some (.int t16.1)]) (st' := [.int 256, .int t16.1]) [(.iload 4, 0), (.sipush 256, 256)] (by decide +kernel) rfl rfl ?_
          refine es_ige (tgt := 149) (off := (42)) (by decide +kernel) (by decide) (fun h20 => ?_) (fun h20 => ?_)
          · refine es_blk (pc' := 112) (L' := [some (.ref 127), some (.int p0), some (.int p1), some (.int p2), some (.int t16.1)]) (st' := [.ref 127, .ref 127]) [(.aload_n 0, 0), (.aload_n 0, 0)] (by decide +kernel) rfl rfl ?_
            refine ef_getP (k := 127) (j := 40) (q := 165) rfl eL_12_124 rfl rfl rfl (by decide +kernel) ?_
            refine es_blk (pc' := 116) (L' := [some (.ref 127), some (.int p0), some (.int p1), some (.int p2), some (.int t16.1)]) (st' := [.ref 127, .ref 165, .ref 127]) [(.aload_n 0, 0)] (by decide +kernel) rfl rfl ?_
            refine ef_getP (k := 127) (j := 31) (q := 156) rfl eL_12_97 rfl rfl rfl (by decide +kernel) ?_
            refine es_blk (pc' := 120) (L' := [some (.ref 127), some (.int p0), some (.int p1), some (.int p2), some (.int t16.1)]) (st' := [.int p0, .ref 156, .ref 165, .ref 127]) [(.iload_n 1, 0)] (by decide +kernel) rfl rfl ?_
            refine ef_ald (k := 156) rfl (Or.inl ⟨rfl, rfl⟩) (by decide +kernel) (fun _ => ?_)
            refine ef_ald (k := 165) rfl (Or.inl ⟨rfl, rfl⟩) (by decide +kernel) (fun _ => ?_)
            refine es_blk (pc' := 132) (L' := [some (.ref 127), some (.int p0), some (.int p1), some (.int p2), some (.int t16.1)]) (st' := [.ref 127, .int (((t16.2.1 165 (eh_ix (t16.2.1 156 (eh_ix p0)))) + (256 * p1)) + t16.1), .ref 127]) [(.sipush 256, 256), (.iload_n 2, 0), (.imul, 0), (.iadd, 0), (.iload 4, 0), (.iadd, 0), (.aload_n 0, 0)] (by decide +kernel) rfl rfl ?_
            refine ef_getP (k := 127) (j := 0) (q := 128) rfl eL_12_10 rfl rfl rfl (by decide +kernel) ?_
            refine es_blk (pc' := 139) (L' := [some (.ref 127), some (.int p0), some (.int p1), some (.int p2), some (.int t16.1)]) (st' := [.int (p2 + t16.1), .ref 128, .int (((t16.2.1 165 (eh_ix (t16.2.1 156 (eh_ix p0)))) + (256 * p1)) + t16.1), .ref 127]) [(.iload_n 3, 0), (.iload 4, 0), (.iadd, 0)] (by decide +kernel) rfl rfl ?_
            refine ef_ald (k := 128) rfl (Or.inr ⟨Or.inl rfl, rfl⟩) (by decide +kernel) (fun _ => ?_)
            refine ef_veV (d := 1) (k := 127) (As := [.int (((t16.2.1 165 (eh_ix (t16.2.1 156 (eh_ix p0)))) + (256 * p1)) + t16.1), .int (t16.2.1 128 (eh_ix (p2 + t16.1)))]) (st := []) eV_12_setByte eK_12_320 (eS_12_setByte g t16.2 (((t16.2.1 165 (eh_ix (t16.2.1 156 (eh_ix p0)))) + (256 * p1)) + t16.1) (t16.2.1 128 (eh_ix (p2 + t16.1)))) rfl rfl (Nat.le_of_ble_eq_true rfl) rfl (Nat.le_of_ble_eq_true rfl) ⟨Nat.le_of_ble_eq_true rfl, Nat.le_of_ble_eq_true rfl⟩ ⟨Nat.le_refl _, Nat.le_refl _⟩ (by decide +kernel) (fun q21 _ => ?_)
            refine es_blk (pc' := 146) (L' := [some (.ref 127), some (.int p0), some (.int p1), some (.int p2), some (.int (t16.1 + 1))]) (st' := []) [(.iinc 4 1, 1)] (by decide +kernel) rfl rfl ?_
            refine ef_V (fun x22 => [some (.ref 127), some (.int p0), some (.int p1), some (.int p2), some (.int x22)]) (fun _ => []) (fun _ => eh_FW q21) (fun x22 => ?_)
            refine es_goto (tgt := 102) (off := (-44)) (by decide +kernel) (by decide) ?_
            exact Hr19 (x22, q21)
          refine ef_drop (L2 := [none, none, none, none, none]) [false, false, false, false, false] rfl rfl ?_
          exact HxK18_0 t16.2
      refine es_blk (pc' := 73) (L' := [some (.ref 127), some (.int p0), some (.int p1), some (.int p2), none]) (st' := [.int (-2)]) [(.bipush (-2), (-2))] (by decide +kernel) rfl rfl ?_
      exact es_ret rfl rfl rfl ⟨by decide +kernel, _, rfl, rfl⟩ (Nat.le_refl _) (Nat.le_refl _)
    refine ef_drop (L2 := [none, none, none, none, none]) [false, false, false, false, true] rfl rfl ?_
    exact Hj2 ()
  refine ef_drop (L2 := [none, none, none, none, none]) [false, false, false, false, true] rfl rfl ?_
  exact Hj2 ()
def eF_12_makeThread (s : eh_F) (p0 : Int32) (p1 : Int32) (p2 : Int32) : Option (Int32 × eh_F) := Option.bind (eF_12_isEnclave s p0) (fun q1 => eh_J (fun (u3 : Unit) => some ((-1), s)) (fun j2 => if q1 = 0 then (j2 ()) else (if p1 < 0 then (j2 ()) else (if (eh_rem p1 4) = 0 then (if eh_in p0 6 then if eh_in (s.1 156 (eh_ix p0)) 12 then if p1 < (s.1 166 (eh_ix (s.1 156 (eh_ix p0)))) then (if p2 < 0 then (j2 ()) else (if (eh_rem p2 16) = 0 then (if eh_in p0 6 then if eh_in (s.1 156 (eh_ix p0)) 12 then if (s.1 166 (eh_ix (s.1 156 (eh_ix p0)))) < p2 then (j2 ()) else (if eh_in p0 6 then if (s.1 155 (eh_ix p0)) = 1 then (Option.bind (eF_12_free s 148 12) (fun q12 => eh_J (fun (u14 : Unit) => some ((-5), s)) (fun j13 => if q12 = (-1) then (j13 ()) else (Option.bind (eF_12_threadsOf s p0) (fun q16 => if q16 = 3 then (j13 ()) else (if eh_in q12 12 then eh_V (eh_tI s 148 (eh_ix q12) 1) (fun s18 => if eh_in q12 12 then eh_V (eh_tI s18 149 (eh_ix q12) p0) (fun s19 => if eh_in q12 12 then eh_V (eh_tI s19 150 (eh_ix q12) p1) (fun s20 => if eh_in q12 12 then eh_V (eh_tI s20 151 (eh_ix q12) p2) (fun s21 => if eh_in q12 12 then eh_V (eh_tI s21 152 (eh_ix q12) 0) (fun s22 => if eh_in q12 12 then eh_V (eh_tI s22 153 (eh_ix q12) (eh_nz 0)) (fun s23 => if eh_in (2 + q12) 14 then eh_V (eh_tI s23 130 (eh_ix (2 + q12)) 0) (fun s24 => Option.bind (eh_loop (fun (r31 : (Int32 × eh_F) → Option (eh_F)) (t25 : Int32 × eh_F) => if t25.1 < 32 then (if eh_in ((32 * (2 + q12)) + t25.1) 448 then eh_V (eh_tI t25.2 129 (eh_ix ((32 * (2 + q12)) + t25.1)) 0) (fun s33 => eh_V ((t25.1 + 1) : Int32) (fun x34 => r31 (x34, s33))) else none) else (some t25.2)) eh_FU (0, s24)) (fun (e26 : eh_F) => Option.bind (eF_12_addNumber e26 p0 3) (fun q27 => Option.bind (eF_12_addNumber q27 p0 p1) (fun q28 => Option.bind (eF_12_addNumber q28 p0 p2) (fun q29 => some (q12, q29)))))) else none) else none) else none) else none) else none) else none) else none)))))) else (some ((-2), s)) else none) else none else none) else (j2 ()))) else (j2 ()) else none else none) else (j2 ())))))
set_option maxHeartbeats 4000000 in
set_option maxRecDepth 100000 in
theorem eS_12_makeThread (g : eh_P) (s : eh_F) (p0 : Int32) (p1 : Int32) (p2 : Int32) : eh_Sim g eM_12_makeThread (eh_R 5 0 0) eh_eI 0 0 0 (eh_en 6 [.ref 127, .int p0, .int p1, .int p2]) [] (eh_FW s) (eF_12_makeThread s p0 p1 p2) := by
  unfold eF_12_makeThread
  refine ef_top (L := [some (.ref 127), some (.int p0), some (.int p1), some (.int p2), none, none]) rfl ?_
  refine es_blk (pc' := 2) (L' := [some (.ref 127), some (.int p0), some (.int p1), some (.int p2), none, none]) (st' := [.int p0, .ref 127]) [(.aload_n 0, 0), (.iload_n 1, 0)] (by decide +kernel) rfl rfl ?_
  refine ef_vpI (d := 1) (k := 127) (As := [.int p0]) (st := []) eV_12_isEnclave eK_12_549 (eS_12_isEnclave g s p0) rfl rfl (Nat.le_of_ble_eq_true rfl) rfl (Nat.le_of_ble_eq_true rfl) ⟨Nat.le_of_ble_eq_true rfl, Nat.le_of_ble_eq_true rfl⟩ ⟨Nat.le_refl _, Nat.le_refl _⟩ (by decide +kernel) (fun q1 _ => ?_)
  refine ef_J (X := fun j2 => ∀ (u3 : Unit), eh_Sim g eM_12_makeThread (eh_R 5 0 0) eh_eI 0 0 59 [none, none, none, none, none, none] [] (eh_FW s) ((j2 u3).bind some)) ?_ (fun j2 Hj2 => ?_)
  · intro u3
    refine es_blk (pc' := 60) (L' := [none, none, none, none, none, none]) (st' := [.int (-1)]) [(.iconst (-1), (-1))] (by decide +kernel) rfl rfl ?_
    exact es_ret rfl rfl rfl ⟨by decide +kernel, _, rfl, rfl⟩ (Nat.le_refl _) (Nat.le_refl _)
  refine es_eq (tgt := 59) (off := (54)) (by decide +kernel) (by decide) (fun h4 => ?_) (fun h4 => ?_)
  · refine ef_drop (L2 := [none, none, none, none, none, none]) [false, false, false, false, true, true] rfl rfl ?_
    exact Hj2 ()
  refine es_blk (pc' := 9) (L' := [some (.ref 127), some (.int p0), some (.int p1), some (.int p2), none, none]) (st' := [.int p1]) [(.iload_n 2, 0)] (by decide +kernel) rfl rfl ?_
  refine es_lt (tgt := 59) (off := (50)) (by decide +kernel) (by decide) (fun h5 => ?_) (fun h5 => ?_)
  · refine ef_drop (L2 := [none, none, none, none, none, none]) [false, false, false, false, true, true] rfl rfl ?_
    exact Hj2 ()
  refine es_blk (pc' := 14) (L' := [some (.ref 127), some (.int p0), some (.int p1), some (.int p2), none, none]) (st' := [.int 4, .int p1]) [(.iload_n 2, 0), (.iconst 4, 4)] (by decide +kernel) rfl rfl ?_
  refine es_irem (by decide +kernel) (by decide) ?_
  refine es_ne (tgt := 59) (off := (44)) (by decide +kernel) (by decide) (fun h6 => ?_) (fun h6 => ?_)
  · refine es_blk (pc' := 20) (L' := [some (.ref 127), some (.int p0), some (.int p1), some (.int p2), none, none]) (st' := [.ref 127, .int p1]) [(.iload_n 2, 0), (.aload_n 0, 0)] (by decide +kernel) rfl rfl ?_
    refine ef_getP (k := 127) (j := 41) (q := 166) rfl eL_12_127 rfl rfl rfl (by decide +kernel) ?_
    refine es_blk (pc' := 24) (L' := [some (.ref 127), some (.int p0), some (.int p1), some (.int p2), none, none]) (st' := [.ref 127, .ref 166, .int p1]) [(.aload_n 0, 0)] (by decide +kernel) rfl rfl ?_
    refine ef_getP (k := 127) (j := 31) (q := 156) rfl eL_12_97 rfl rfl rfl (by decide +kernel) ?_
    refine es_blk (pc' := 28) (L' := [some (.ref 127), some (.int p0), some (.int p1), some (.int p2), none, none]) (st' := [.int p0, .ref 156, .ref 166, .int p1]) [(.iload_n 1, 0)] (by decide +kernel) rfl rfl ?_
    refine ef_ald (k := 156) rfl (Or.inl ⟨rfl, rfl⟩) (by decide +kernel) (fun _ => ?_)
    refine ef_ald (k := 166) rfl (Or.inl ⟨rfl, rfl⟩) (by decide +kernel) (fun _ => ?_)
    refine es_ige (tgt := 59) (off := (29)) (by decide +kernel) (by decide) (fun h7 => ?_) (fun h7 => ?_)
    · refine es_blk (pc' := 34) (L' := [some (.ref 127), some (.int p0), some (.int p1), some (.int p2), none, none]) (st' := [.int p2]) [(.iload_n 3, 0)] (by decide +kernel) rfl rfl ?_
      refine es_lt (tgt := 59) (off := (25)) (by decide +kernel) (by decide) (fun h8 => ?_) (fun h8 => ?_)
      · refine ef_drop (L2 := [none, none, none, none, none, none]) [false, false, false, false, true, true] rfl rfl ?_
        exact Hj2 ()
      refine es_blk (pc' := 40) (L' := [some (.ref 127), some (.int p0), some (.int p1), some (.int p2), none, none]) (st' := [.int 16, .int p2]) [(.iload_n 3, 0), (.bipush 16, 16)] (by decide +kernel) rfl rfl ?_
      refine es_irem (by decide +kernel) (by decide) ?_
      refine es_ne (tgt := 59) (off := (18)) (by decide +kernel) (by decide) (fun h9 => ?_) (fun h9 => ?_)
      · refine es_blk (pc' := 46) (L' := [some (.ref 127), some (.int p0), some (.int p1), some (.int p2), none, none]) (st' := [.ref 127, .int p2]) [(.iload_n 3, 0), (.aload_n 0, 0)] (by decide +kernel) rfl rfl ?_
        refine ef_getP (k := 127) (j := 41) (q := 166) rfl eL_12_127 rfl rfl rfl (by decide +kernel) ?_
        refine es_blk (pc' := 50) (L' := [some (.ref 127), some (.int p0), some (.int p1), some (.int p2), none, none]) (st' := [.ref 127, .ref 166, .int p2]) [(.aload_n 0, 0)] (by decide +kernel) rfl rfl ?_
        refine ef_getP (k := 127) (j := 31) (q := 156) rfl eL_12_97 rfl rfl rfl (by decide +kernel) ?_
        refine es_blk (pc' := 54) (L' := [some (.ref 127), some (.int p0), some (.int p1), some (.int p2), none, none]) (st' := [.int p0, .ref 156, .ref 166, .int p2]) [(.iload_n 1, 0)] (by decide +kernel) rfl rfl ?_
        refine ef_ald (k := 156) rfl (Or.inl ⟨rfl, rfl⟩) (by decide +kernel) (fun _ => ?_)
        refine ef_ald (k := 166) rfl (Or.inl ⟨rfl, rfl⟩) (by decide +kernel) (fun _ => ?_)
        refine es_ile (tgt := 61) (off := (5)) (by decide +kernel) (by decide) (fun h10 => ?_) (fun h10 => ?_)
        · refine ef_drop (L2 := [none, none, none, none, none, none]) [false, false, false, false, true, true] rfl rfl ?_
          exact Hj2 ()
        refine es_blk (pc' := 62) (L' := [some (.ref 127), some (.int p0), some (.int p1), some (.int p2), none, none]) (st' := [.ref 127]) [(.aload_n 0, 0)] (by decide +kernel) rfl rfl ?_
        refine ef_getP (k := 127) (j := 30) (q := 155) rfl eL_12_94 rfl rfl rfl (by decide +kernel) ?_
        refine es_blk (pc' := 66) (L' := [some (.ref 127), some (.int p0), some (.int p1), some (.int p2), none, none]) (st' := [.int p0, .ref 155]) [(.iload_n 1, 0)] (by decide +kernel) rfl rfl ?_
        refine ef_ald (k := 155) rfl (Or.inl ⟨rfl, rfl⟩) (by decide +kernel) (fun _ => ?_)
        refine es_blk (pc' := 68) (L' := [some (.ref 127), some (.int p0), some (.int p1), some (.int p2), none, none]) (st' := [.int 1, .int (s.1 155 (eh_ix p0))]) [(.iconst 1, 1)] (by decide +kernel) rfl rfl ?_
        refine es_ieq (tgt := 74) (off := (6)) (by decide +kernel) (by decide) (fun h11 => ?_) (fun h11 => ?_)
        · refine es_blk (pc' := 75) (L' := [some (.ref 127), some (.int p0), some (.int p1), some (.int p2), none, none]) (st' := [.ref 127]) [(.aload_n 0, 0)] (by decide +kernel) rfl rfl ?_
          refine ef_getP (k := 127) (j := 23) (q := 148) rfl eL_12_73 rfl rfl rfl (by decide +kernel) ?_
          refine ef_spI (d := 1) (As := [.ref 148]) (st := []) eV_12_free eK_12_506 (eS_12_free g s 148 12 rfl) rfl (Nat.le_of_ble_eq_true rfl) rfl (Nat.le_of_ble_eq_true rfl) ⟨Nat.le_of_ble_eq_true rfl, Nat.le_of_ble_eq_true rfl⟩ ⟨Nat.le_refl _, Nat.le_refl _⟩ (by decide +kernel) (fun q12 _ => ?_)
          refine es_blk (pc' := 86) (L' := [some (.ref 127), some (.int p0), some (.int p1), some (.int p2), some (.int q12), none]) (st' := [.int (-1), .int q12]) [(.istore 4, 0), (.iload 4, 0), (.iconst (-1), (-1))] (by decide +kernel) rfl rfl ?_
          refine ef_J (X := fun j13 => ∀ (u14 : Unit), eh_Sim g eM_12_makeThread (eh_R 5 0 0) eh_eI 0 0 98 [none, none, none, none, none, none] [] (eh_FW s) ((j13 u14).bind some)) ?_ (fun j13 Hj13 => ?_)
          · intro u14
            refine es_blk (pc' := 100) (L' := [none, none, none, none, none, none]) (st' := [.int (-5)]) [(.bipush (-5), (-5))] (by decide +kernel) rfl rfl ?_
            exact es_ret rfl rfl rfl ⟨by decide +kernel, _, rfl, rfl⟩ (Nat.le_refl _) (Nat.le_refl _)
          refine es_ieq (tgt := 98) (off := (12)) (by decide +kernel) (by decide) (fun h15 => ?_) (fun h15 => ?_)
          · refine ef_drop (L2 := [none, none, none, none, none, none]) [false, false, false, false, false, true] rfl rfl ?_
            exact Hj13 ()
          refine es_blk (pc' := 91) (L' := [some (.ref 127), some (.int p0), some (.int p1), some (.int p2), some (.int q12), none]) (st' := [.int p0, .ref 127]) [(.aload_n 0, 0), (.iload_n 1, 0)] (by decide +kernel) rfl rfl ?_
          refine ef_vpI (d := 1) (k := 127) (As := [.int p0]) (st := []) eV_12_threadsOf eK_12_573 (eS_12_threadsOf g s p0) rfl rfl (Nat.le_of_ble_eq_true rfl) rfl (Nat.le_of_ble_eq_true rfl) ⟨Nat.le_of_ble_eq_true rfl, Nat.le_of_ble_eq_true rfl⟩ ⟨Nat.le_refl _, Nat.le_refl _⟩ (by decide +kernel) (fun q16 _ => ?_)
          refine es_blk (pc' := 95) (L' := [some (.ref 127), some (.int p0), some (.int p1), some (.int p2), some (.int q12), none]) (st' := [.int 3, .int q16]) [(.iconst 3, 3)] (by decide +kernel) rfl rfl ?_
          refine es_ine (tgt := 101) (off := (6)) (by decide +kernel) (by decide) (fun h17 => ?_) (fun h17 => ?_)
          · refine ef_drop (L2 := [none, none, none, none, none, none]) [false, false, false, false, false, true] rfl rfl ?_
            exact Hj13 ()
          refine es_blk (pc' := 102) (L' := [some (.ref 127), some (.int p0), some (.int p1), some (.int p2), some (.int q12), none]) (st' := [.ref 127]) [(.aload_n 0, 0)] (by decide +kernel) rfl rfl ?_
          refine ef_getP (k := 127) (j := 23) (q := 148) rfl eL_12_73 rfl rfl rfl (by decide +kernel) ?_
          refine es_blk (pc' := 108) (L' := [some (.ref 127), some (.int p0), some (.int p1), some (.int p2), some (.int q12), none]) (st' := [.int 1, .int q12, .ref 148]) [(.iload 4, 0), (.iconst 1, 1)] (by decide +kernel) rfl rfl ?_
          refine ef_ast (k := 148) rfl (by decide +kernel) (fun _ => ?_)
          refine ef_V (fun _ => [some (.ref 127), some (.int p0), some (.int p1), some (.int p2), some (.int q12), none]) (fun _ => []) (fun s18 => eh_FW s18) (fun s18 => ?_)
          refine es_blk (pc' := 110) (L' := [some (.ref 127), some (.int p0), some (.int p1), some (.int p2), some (.int q12), none]) (st' := [.ref 127]) [(.aload_n 0, 0)] (by decide +kernel) rfl rfl ?_
          refine ef_getP (k := 127) (j := 24) (q := 149) rfl eL_12_76 rfl rfl rfl (by decide +kernel) ?_
          refine es_blk (pc' := 116) (L' := [some (.ref 127), some (.int p0), some (.int p1), some (.int p2), some (.int q12), none]) (st' := [.int p0, .int q12, .ref 149]) [(.iload 4, 0), (.iload_n 1, 0)] (by decide +kernel) rfl rfl ?_
          refine ef_ast (k := 149) rfl (by decide +kernel) (fun _ => ?_)
          refine ef_V (fun _ => [some (.ref 127), some (.int p0), some (.int p1), some (.int p2), some (.int q12), none]) (fun _ => []) (fun s19 => eh_FW s19) (fun s19 => ?_)
          refine es_blk (pc' := 118) (L' := [some (.ref 127), some (.int p0), some (.int p1), some (.int p2), some (.int q12), none]) (st' := [.ref 127]) [(.aload_n 0, 0)] (by decide +kernel) rfl rfl ?_
          refine ef_getP (k := 127) (j := 25) (q := 150) rfl eL_12_79 rfl rfl rfl (by decide +kernel) ?_
          refine es_blk (pc' := 124) (L' := [some (.ref 127), some (.int p0), some (.int p1), some (.int p2), some (.int q12), none]) (st' := [.int p1, .int q12, .ref 150]) [(.iload 4, 0), (.iload_n 2, 0)] (by decide +kernel) rfl rfl ?_
          refine ef_ast (k := 150) rfl (by decide +kernel) (fun _ => ?_)
          refine ef_V (fun _ => [some (.ref 127), some (.int p0), some (.int p1), some (.int p2), some (.int q12), none]) (fun _ => []) (fun s20 => eh_FW s20) (fun s20 => ?_)
          refine es_blk (pc' := 126) (L' := [some (.ref 127), some (.int p0), some (.int p1), some (.int p2), some (.int q12), none]) (st' := [.ref 127]) [(.aload_n 0, 0)] (by decide +kernel) rfl rfl ?_
          refine ef_getP (k := 127) (j := 26) (q := 151) rfl eL_12_82 rfl rfl rfl (by decide +kernel) ?_
          refine es_blk (pc' := 132) (L' := [some (.ref 127), some (.int p0), some (.int p1), some (.int p2), some (.int q12), none]) (st' := [.int p2, .int q12, .ref 151]) [(.iload 4, 0), (.iload_n 3, 0)] (by decide +kernel) rfl rfl ?_
          refine ef_ast (k := 151) rfl (by decide +kernel) (fun _ => ?_)
          refine ef_V (fun _ => [some (.ref 127), some (.int p0), some (.int p1), some (.int p2), some (.int q12), none]) (fun _ => []) (fun s21 => eh_FW s21) (fun s21 => ?_)
          refine es_blk (pc' := 134) (L' := [some (.ref 127), some (.int p0), some (.int p1), some (.int p2), some (.int q12), none]) (st' := [.ref 127]) [(.aload_n 0, 0)] (by decide +kernel) rfl rfl ?_
          refine ef_getP (k := 127) (j := 27) (q := 152) rfl eL_12_85 rfl rfl rfl (by decide +kernel) ?_
          refine es_blk (pc' := 140) (L' := [some (.ref 127), some (.int p0), some (.int p1), some (.int p2), some (.int q12), none]) (st' := [.int 0, .int q12, .ref 152]) [(.iload 4, 0), (.iconst 0, 0)] (by decide +kernel) rfl rfl ?_
          refine ef_ast (k := 152) rfl (by decide +kernel) (fun _ => ?_)
          refine ef_V (fun _ => [some (.ref 127), some (.int p0), some (.int p1), some (.int p2), some (.int q12), none]) (fun _ => []) (fun s22 => eh_FW s22) (fun s22 => ?_)
          refine es_blk (pc' := 142) (L' := [some (.ref 127), some (.int p0), some (.int p1), some (.int p2), some (.int q12), none]) (st' := [.ref 127]) [(.aload_n 0, 0)] (by decide +kernel) rfl rfl ?_
          refine ef_getP (k := 127) (j := 28) (q := 153) rfl eL_12_88 rfl rfl rfl (by decide +kernel) ?_
          refine es_blk (pc' := 148) (L' := [some (.ref 127), some (.int p0), some (.int p1), some (.int p2), some (.int q12), none]) (st' := [.int 0, .int q12, .ref 153]) [(.iload 4, 0), (.iconst 0, 0)] (by decide +kernel) rfl rfl ?_
          refine ef_astZ (k := 153) rfl (by decide +kernel) (fun _ => ?_)
          refine ef_V (fun _ => [some (.ref 127), some (.int p0), some (.int p1), some (.int p2), some (.int q12), none]) (fun _ => []) (fun s23 => eh_FW s23) (fun s23 => ?_)
          refine es_blk (pc' := 150) (L' := [some (.ref 127), some (.int p0), some (.int p1), some (.int p2), some (.int q12), none]) (st' := [.ref 127]) [(.aload_n 0, 0)] (by decide +kernel) rfl rfl ?_
          refine ef_getP (k := 127) (j := 2) (q := 130) rfl eL_12_18 rfl rfl rfl (by decide +kernel) ?_
          refine es_blk (pc' := 158) (L' := [some (.ref 127), some (.int p0), some (.int p1), some (.int p2), some (.int q12), none]) (st' := [.int 0, .int (2 + q12), .ref 130]) [(.iconst 2, 2), (.iload 4, 0), (.iadd, 0), (.iconst 0, 0)] (by decide +kernel) rfl rfl ?_
          refine ef_ast (k := 130) rfl (by decide +kernel) (fun _ => ?_)
          refine ef_V (fun _ => [some (.ref 127), some (.int p0), some (.int p1), some (.int p2), some (.int q12), none]) (fun _ => []) (fun s24 => eh_FW s24) (fun s24 => ?_)
          refine es_blk (pc' := 162) (L' := [some (.ref 127), some (.int p0), some (.int p1), some (.int p2), some (.int q12), some (.int 0)]) (st' := []) [(.iconst 0, 0), (.istore 5, 0)] (by decide +kernel) rfl rfl ?_
          refine ef_loop1 (n := eh_FU) (i := (0, s24)) (px := 191) (fun (t25 : Int32 × eh_F) => [some (.ref 127), some (.int p0), some (.int p1), some (.int p2), some (.int q12), some (.int t25.1)]) (fun (t25 : Int32 × eh_F) => []) (fun (t25 : Int32 × eh_F) => eh_FW t25.2) (fun (e26 : eh_F) => [some (.ref 127), some (.int p0), some (.int p1), some (.int p2), some (.int q12), none]) (fun (e26 : eh_F) => []) (fun (e26 : eh_F) => eh_FW e26) (fun e26 => ?_) (fun K30 HxK30_0 r31 Hr31 t25 => ?_)
          · refine es_blk (pc' := 194) (L' := [some (.ref 127), some (.int p0), some (.int p1), some (.int p2), some (.int q12), none]) (st' := [.int 3, .int p0, .ref 127]) [(.aload_n 0, 0), (.iload_n 1, 0), (.iconst 3, 3)] (by decide +kernel) rfl rfl ?_
            refine ef_veV (d := 4) (k := 127) (As := [.int p0, .int 3]) (st := []) eV_12_addNumber eK_12_222 (eS_12_addNumber g e26 p0 3) rfl rfl (Nat.le_of_ble_eq_true rfl) rfl (Nat.le_of_ble_eq_true rfl) ⟨Nat.le_of_ble_eq_true rfl, Nat.le_of_ble_eq_true rfl⟩ ⟨Nat.le_refl _, Nat.le_refl _⟩ (by decide +kernel) (fun q27 _ => ?_)
            refine es_blk (pc' := 200) (L' := [some (.ref 127), some (.int p0), some (.int p1), some (.int p2), some (.int q12), none]) (st' := [.int p1, .int p0, .ref 127]) [(.aload_n 0, 0), (.iload_n 1, 0), (.iload_n 2, 0)] (by decide +kernel) rfl rfl ?_
            refine ef_veV (d := 4) (k := 127) (As := [.int p0, .int p1]) (st := []) eV_12_addNumber eK_12_222 (eS_12_addNumber g q27 p0 p1) rfl rfl (Nat.le_of_ble_eq_true rfl) rfl (Nat.le_of_ble_eq_true rfl) ⟨Nat.le_of_ble_eq_true rfl, Nat.le_of_ble_eq_true rfl⟩ ⟨Nat.le_refl _, Nat.le_refl _⟩ (by decide +kernel) (fun q28 _ => ?_)
            refine es_blk (pc' := 206) (L' := [some (.ref 127), some (.int p0), some (.int p1), some (.int p2), some (.int q12), none]) (st' := [.int p2, .int p0, .ref 127]) [(.aload_n 0, 0), (.iload_n 1, 0), (.iload_n 3, 0)] (by decide +kernel) rfl rfl ?_
            refine ef_veV (d := 4) (k := 127) (As := [.int p0, .int p2]) (st := []) eV_12_addNumber eK_12_222 (eS_12_addNumber g q28 p0 p2) rfl rfl (Nat.le_of_ble_eq_true rfl) rfl (Nat.le_of_ble_eq_true rfl) ⟨Nat.le_of_ble_eq_true rfl, Nat.le_of_ble_eq_true rfl⟩ ⟨Nat.le_refl _, Nat.le_refl _⟩ (by decide +kernel) (fun q29 _ => ?_)
            refine es_blk (pc' := 211) (L' := [some (.ref 127), some (.int p0), some (.int p1), some (.int p2), some (.int q12), none]) (st' := [.int q12]) [(.iload 4, 0)] (by decide +kernel) rfl rfl ?_
            exact es_ret rfl rfl rfl ⟨by decide +kernel, _, rfl, rfl⟩ (Nat.le_refl _) (Nat.le_refl _)
          · refine es_blk (pc' := 166) (L' := [some (.ref 127), some (.int p0), some (.int p1), some (.int p2), some (.int q12), some (.int t25.1)]) (st' := [.int 32, .int t25.1]) [(.iload 5, 0), (.bipush 32, 32)] (by decide +kernel) rfl rfl ?_
            refine es_ige (tgt := 191) (off := (25)) (by decide +kernel) (by decide) (fun h32 => ?_) (fun h32 => ?_)
            · refine es_blk (pc' := 170) (L' := [some (.ref 127), some (.int p0), some (.int p1), some (.int p2), some (.int q12), some (.int t25.1)]) (st' := [.ref 127]) [(.aload_n 0, 0)] (by decide +kernel) rfl rfl ?_
              refine ef_getP (k := 127) (j := 1) (q := 129) rfl eL_12_14 rfl rfl rfl (by decide +kernel) ?_
              refine es_blk (pc' := 184) (L' := [some (.ref 127), some (.int p0), some (.int p1), some (.int p2), some (.int q12), some (.int t25.1)]) (st' := [.int 0, .int ((32 * (2 + q12)) + t25.1), .ref 129]) [(.bipush 32, 32), (.iconst 2, 2), (.iload 4, 0), (.iadd, 0), (.imul, 0), (.iload 5, 0), (.iadd, 0), (.iconst 0, 0)] (by decide +kernel) rfl rfl ?_
              refine ef_ast (k := 129) rfl (by decide +kernel) (fun _ => ?_)
              refine ef_V (fun _ => [some (.ref 127), some (.int p0), some (.int p1), some (.int p2), some (.int q12), some (.int t25.1)]) (fun _ => []) (fun s33 => eh_FW s33) (fun s33 => ?_)
              refine es_blk (pc' := 188) (L' := [some (.ref 127), some (.int p0), some (.int p1), some (.int p2), some (.int q12), some (.int (t25.1 + 1))]) (st' := []) [(.iinc 5 1, 1)] (by decide +kernel) rfl rfl ?_
              refine ef_V (fun x34 => [some (.ref 127), some (.int p0), some (.int p1), some (.int p2), some (.int q12), some (.int x34)]) (fun _ => []) (fun _ => eh_FW s33) (fun x34 => ?_)
              refine es_goto (tgt := 162) (off := (-26)) (by decide +kernel) (by decide) ?_
              exact Hr31 (x34, s33)
            refine ef_drop (L2 := [some (.ref 127), some (.int p0), some (.int p1), some (.int p2), some (.int q12), none]) [true, true, true, true, true, false] rfl rfl ?_
            exact HxK30_0 t25.2
        refine es_blk (pc' := 73) (L' := [some (.ref 127), some (.int p0), some (.int p1), some (.int p2), none, none]) (st' := [.int (-2)]) [(.bipush (-2), (-2))] (by decide +kernel) rfl rfl ?_
        exact es_ret rfl rfl rfl ⟨by decide +kernel, _, rfl, rfl⟩ (Nat.le_refl _) (Nat.le_refl _)
      refine ef_drop (L2 := [none, none, none, none, none, none]) [false, false, false, false, true, true] rfl rfl ?_
      exact Hj2 ()
    refine ef_drop (L2 := [none, none, none, none, none, none]) [false, false, false, false, true, true] rfl rfl ?_
    exact Hj2 ()
  refine ef_drop (L2 := [none, none, none, none, none, none]) [false, false, false, false, true, true] rfl rfl ?_
  exact Hj2 ()
def eF_12_finalise (s : eh_F) (p0 : Int32) (p1 : Int32) : Option (Int32 × eh_F) := Option.bind (eF_12_isEnclave s p0) (fun q1 => eh_J (fun (u3 : Unit) => some ((-1), s)) (fun j2 => if q1 = 0 then (j2 ()) else (eh_J (fun (u6 : Unit) => if eh_in p0 6 then if (s.1 155 (eh_ix p0)) = 1 then (Option.bind (eF_12_addNumber s p0 4) (fun q8 => Option.bind (eF_12_addNumber q8 p0 p1) (fun q9 => Option.bind (eF_12_finish q9 p0 159 192 (32 * p0)) (fun q10 => Option.bind (eh_loop (fun (r16 : (Int32 × eh_F) → Option (eh_F)) (t11 : Int32 × eh_F) => if t11.1 < 32 then (if eh_in ((32 * p0) + t11.1) 192 then eh_V (eh_tI t11.2 160 (eh_ix ((32 * p0) + t11.1)) (eh_nb 0)) (fun s18 => eh_V ((t11.1 + 1) : Int32) (fun x19 => r16 (x19, s18))) else none) else (some t11.2)) eh_FU (0, q10)) (fun (e12 : eh_F) => if eh_in p0 6 then eh_V (eh_tI e12 157 (eh_ix p0) p1) (fun s13 => if eh_in p0 6 then eh_V (eh_tI s13 155 (eh_ix p0) 2) (fun s14 => some (0, s14)) else none) else none))))) else (some ((-2), s)) else none) (fun j5 => if p1 = 0 then (j5 ()) else (if p1 = 1 then (j5 ()) else (j2 ()))))))
set_option maxHeartbeats 4000000 in
set_option maxRecDepth 100000 in
theorem eS_12_finalise (g : eh_P) (s : eh_F) (p0 : Int32) (p1 : Int32) : eh_Sim g eM_12_finalise (eh_R 5 0 0) eh_eI 0 0 0 (eh_en 4 [.ref 127, .int p0, .int p1]) [] (eh_FW s) (eF_12_finalise s p0 p1) := by
  unfold eF_12_finalise
  refine ef_top (L := [some (.ref 127), some (.int p0), some (.int p1), none]) rfl ?_
  refine es_blk (pc' := 2) (L' := [some (.ref 127), some (.int p0), some (.int p1), none]) (st' := [.int p0, .ref 127]) [(.aload_n 0, 0), (.iload_n 1, 0)] (by decide +kernel) rfl rfl ?_
  refine ef_vpI (d := 1) (k := 127) (As := [.int p0]) (st := []) eV_12_isEnclave eK_12_549 (eS_12_isEnclave g s p0) rfl rfl (Nat.le_of_ble_eq_true rfl) rfl (Nat.le_of_ble_eq_true rfl) ⟨Nat.le_of_ble_eq_true rfl, Nat.le_of_ble_eq_true rfl⟩ ⟨Nat.le_refl _, Nat.le_refl _⟩ (by decide +kernel) (fun q1 _ => ?_)
  refine ef_J (X := fun j2 => ∀ (u3 : Unit), eh_Sim g eM_12_finalise (eh_R 5 0 0) eh_eI 0 0 17 [none, none, none, none] [] (eh_FW s) ((j2 u3).bind some)) ?_ (fun j2 Hj2 => ?_)
  · intro u3
    refine es_blk (pc' := 18) (L' := [none, none, none, none]) (st' := [.int (-1)]) [(.iconst (-1), (-1))] (by decide +kernel) rfl rfl ?_
    exact es_ret rfl rfl rfl ⟨by decide +kernel, _, rfl, rfl⟩ (Nat.le_refl _) (Nat.le_refl _)
  refine es_eq (tgt := 17) (off := (12)) (by decide +kernel) (by decide) (fun h4 => ?_) (fun h4 => ?_)
  · refine ef_drop (L2 := [none, none, none, none]) [false, false, false, true] rfl rfl ?_
    exact Hj2 ()
  refine es_blk (pc' := 9) (L' := [some (.ref 127), some (.int p0), some (.int p1), none]) (st' := [.int p1]) [(.iload_n 2, 0)] (by decide +kernel) rfl rfl ?_
  refine ef_J (X := fun j5 => ∀ (u6 : Unit), eh_Sim g eM_12_finalise (eh_R 5 0 0) eh_eI 0 0 19 [some (.ref 127), some (.int p0), some (.int p1), none] [] (eh_FW s) ((j5 u6).bind some)) ?_ (fun j5 Hj5 => ?_)
  · intro u6
    refine es_blk (pc' := 20) (L' := [some (.ref 127), some (.int p0), some (.int p1), none]) (st' := [.ref 127]) [(.aload_n 0, 0)] (by decide +kernel) rfl rfl ?_
    refine ef_getP (k := 127) (j := 30) (q := 155) rfl eL_12_94 rfl rfl rfl (by decide +kernel) ?_
    refine es_blk (pc' := 24) (L' := [some (.ref 127), some (.int p0), some (.int p1), none]) (st' := [.int p0, .ref 155]) [(.iload_n 1, 0)] (by decide +kernel) rfl rfl ?_
    refine ef_ald (k := 155) rfl (Or.inl ⟨rfl, rfl⟩) (by decide +kernel) (fun _ => ?_)
    refine es_blk (pc' := 26) (L' := [some (.ref 127), some (.int p0), some (.int p1), none]) (st' := [.int 1, .int (s.1 155 (eh_ix p0))]) [(.iconst 1, 1)] (by decide +kernel) rfl rfl ?_
    refine es_ieq (tgt := 32) (off := (6)) (by decide +kernel) (by decide) (fun h7 => ?_) (fun h7 => ?_)
    · refine es_blk (pc' := 35) (L' := [some (.ref 127), some (.int p0), some (.int p1), none]) (st' := [.int 4, .int p0, .ref 127]) [(.aload_n 0, 0), (.iload_n 1, 0), (.iconst 4, 4)] (by decide +kernel) rfl rfl ?_
      refine ef_veV (d := 4) (k := 127) (As := [.int p0, .int 4]) (st := []) eV_12_addNumber eK_12_222 (eS_12_addNumber g s p0 4) rfl rfl (Nat.le_of_ble_eq_true rfl) rfl (Nat.le_of_ble_eq_true rfl) ⟨Nat.le_of_ble_eq_true rfl, Nat.le_of_ble_eq_true rfl⟩ ⟨Nat.le_refl _, Nat.le_refl _⟩ (by decide +kernel) (fun q8 _ => ?_)
      refine es_blk (pc' := 41) (L' := [some (.ref 127), some (.int p0), some (.int p1), none]) (st' := [.int p1, .int p0, .ref 127]) [(.aload_n 0, 0), (.iload_n 1, 0), (.iload_n 2, 0)] (by decide +kernel) rfl rfl ?_
      refine ef_veV (d := 4) (k := 127) (As := [.int p0, .int p1]) (st := []) eV_12_addNumber eK_12_222 (eS_12_addNumber g q8 p0 p1) rfl rfl (Nat.le_of_ble_eq_true rfl) rfl (Nat.le_of_ble_eq_true rfl) ⟨Nat.le_of_ble_eq_true rfl, Nat.le_of_ble_eq_true rfl⟩ ⟨Nat.le_refl _, Nat.le_refl _⟩ (by decide +kernel) (fun q9 _ => ?_)
      refine es_blk (pc' := 47) (L' := [some (.ref 127), some (.int p0), some (.int p1), none]) (st' := [.ref 127, .int p0, .ref 127]) [(.aload_n 0, 0), (.iload_n 1, 0), (.aload_n 0, 0)] (by decide +kernel) rfl rfl ?_
      refine ef_getP (k := 127) (j := 34) (q := 159) rfl eL_12_106 rfl rfl rfl (by decide +kernel) ?_
      refine es_blk (pc' := 54) (L' := [some (.ref 127), some (.int p0), some (.int p1), none]) (st' := [.int (32 * p0), .ref 159, .int p0, .ref 127]) [(.bipush 32, 32), (.iload_n 1, 0), (.imul, 0)] (by decide +kernel) rfl rfl ?_
      refine ef_veV (d := 4) (k := 127) (As := [.int p0, .ref 159, .int (32 * p0)]) (st := []) eV_12_finish eK_12_226 (eS_12_finish g q9 p0 159 192 (32 * p0) rfl) rfl rfl (Nat.le_of_ble_eq_true rfl) rfl (Nat.le_of_ble_eq_true rfl) ⟨Nat.le_of_ble_eq_true rfl, Nat.le_of_ble_eq_true rfl⟩ ⟨Nat.le_refl _, Nat.le_refl _⟩ (by decide +kernel) (fun q10 _ => ?_)
      refine es_blk (pc' := 59) (L' := [some (.ref 127), some (.int p0), some (.int p1), some (.int 0)]) (st' := []) [(.iconst 0, 0), (.istore_n 3, 0)] (by decide +kernel) rfl rfl ?_
      refine ef_loop1 (n := eh_FU) (i := (0, q10)) (px := 83) (fun (t11 : Int32 × eh_F) => [some (.ref 127), some (.int p0), some (.int p1), some (.int t11.1)]) (fun (t11 : Int32 × eh_F) => []) (fun (t11 : Int32 × eh_F) => eh_FW t11.2) (fun (e12 : eh_F) => [some (.ref 127), some (.int p0), some (.int p1), none]) (fun (e12 : eh_F) => []) (fun (e12 : eh_F) => eh_FW e12) (fun e12 => ?_) (fun K15 HxK15_0 r16 Hr16 t11 => ?_)
      · refine es_blk (pc' := 84) (L' := [some (.ref 127), some (.int p0), some (.int p1), none]) (st' := [.ref 127]) [(.aload_n 0, 0)] (by decide +kernel) rfl rfl ?_
        refine ef_getP (k := 127) (j := 32) (q := 157) rfl eL_12_100 rfl rfl rfl (by decide +kernel) ?_
        refine es_blk (pc' := 89) (L' := [some (.ref 127), some (.int p0), some (.int p1), none]) (st' := [.int p1, .int p0, .ref 157]) [(.iload_n 1, 0), (.iload_n 2, 0)] (by decide +kernel) rfl rfl ?_
        refine ef_ast (k := 157) rfl (by decide +kernel) (fun _ => ?_)
        refine ef_V (fun _ => [some (.ref 127), some (.int p0), some (.int p1), none]) (fun _ => []) (fun s13 => eh_FW s13) (fun s13 => ?_)
        refine es_blk (pc' := 91) (L' := [some (.ref 127), some (.int p0), some (.int p1), none]) (st' := [.ref 127]) [(.aload_n 0, 0)] (by decide +kernel) rfl rfl ?_
        refine ef_getP (k := 127) (j := 30) (q := 155) rfl eL_12_94 rfl rfl rfl (by decide +kernel) ?_
        refine es_blk (pc' := 96) (L' := [some (.ref 127), some (.int p0), some (.int p1), none]) (st' := [.int 2, .int p0, .ref 155]) [(.iload_n 1, 0), (.iconst 2, 2)] (by decide +kernel) rfl rfl ?_
        refine ef_ast (k := 155) rfl (by decide +kernel) (fun _ => ?_)
        refine ef_V (fun _ => [some (.ref 127), some (.int p0), some (.int p1), none]) (fun _ => []) (fun s14 => eh_FW s14) (fun s14 => ?_)
        refine es_blk (pc' := 98) (L' := [some (.ref 127), some (.int p0), some (.int p1), none]) (st' := [.int 0]) [(.iconst 0, 0)] (by decide +kernel) rfl rfl ?_
        exact es_ret rfl rfl rfl ⟨by decide +kernel, _, rfl, rfl⟩ (Nat.le_refl _) (Nat.le_refl _)
      · refine es_blk (pc' := 62) (L' := [some (.ref 127), some (.int p0), some (.int p1), some (.int t11.1)]) (st' := [.int 32, .int t11.1]) [(.iload_n 3, 0), (.bipush 32, 32)] (by decide +kernel) rfl rfl ?_
        refine es_ige (tgt := 83) (off := (21)) (by decide +kernel) (by decide) (fun h17 => ?_) (fun h17 => ?_)
        · refine es_blk (pc' := 66) (L' := [some (.ref 127), some (.int p0), some (.int p1), some (.int t11.1)]) (st' := [.ref 127]) [(.aload_n 0, 0)] (by decide +kernel) rfl rfl ?_
          refine ef_getP (k := 127) (j := 35) (q := 160) rfl eL_12_109 rfl rfl rfl (by decide +kernel) ?_
          refine es_blk (pc' := 76) (L' := [some (.ref 127), some (.int p0), some (.int p1), some (.int t11.1)]) (st' := [.int 0, .int ((32 * p0) + t11.1), .ref 160]) [(.bipush 32, 32), (.iload_n 1, 0), (.imul, 0), (.iload_n 3, 0), (.iadd, 0), (.iconst 0, 0)] (by decide +kernel) rfl rfl ?_
          refine ef_astB (k := 160) rfl (by decide +kernel) (fun _ => ?_)
          refine ef_V (fun _ => [some (.ref 127), some (.int p0), some (.int p1), some (.int t11.1)]) (fun _ => []) (fun s18 => eh_FW s18) (fun s18 => ?_)
          refine es_blk (pc' := 80) (L' := [some (.ref 127), some (.int p0), some (.int p1), some (.int (t11.1 + 1))]) (st' := []) [(.iinc 3 1, 1)] (by decide +kernel) rfl rfl ?_
          refine ef_V (fun x19 => [some (.ref 127), some (.int p0), some (.int p1), some (.int x19)]) (fun _ => []) (fun _ => eh_FW s18) (fun x19 => ?_)
          refine es_goto (tgt := 59) (off := (-21)) (by decide +kernel) (by decide) ?_
          exact Hr16 (x19, s18)
        refine ef_drop (L2 := [some (.ref 127), some (.int p0), some (.int p1), none]) [true, true, true, false] rfl rfl ?_
        exact HxK15_0 t11.2
    refine es_blk (pc' := 31) (L' := [some (.ref 127), some (.int p0), some (.int p1), none]) (st' := [.int (-2)]) [(.bipush (-2), (-2))] (by decide +kernel) rfl rfl ?_
    exact es_ret rfl rfl rfl ⟨by decide +kernel, _, rfl, rfl⟩ (Nat.le_refl _) (Nat.le_refl _)
  refine es_eq (tgt := 19) (off := (10)) (by decide +kernel) (by decide) (fun h20 => ?_) (fun h20 => ?_)
  · exact Hj5 ()
  refine es_blk (pc' := 14) (L' := [some (.ref 127), some (.int p0), some (.int p1), none]) (st' := [.int 1, .int p1]) [(.iload_n 2, 0), (.iconst 1, 1)] (by decide +kernel) rfl rfl ?_
  refine es_ieq (tgt := 19) (off := (5)) (by decide +kernel) (by decide) (fun h21 => ?_) (fun h21 => ?_)
  · exact Hj5 ()
  refine ef_drop (L2 := [none, none, none, none]) [false, false, false, true] rfl rfl ?_
  exact Hj2 ()
def eF_12_send (s : eh_F) (p0 : Int32) (p1 : Int32) (p2 : Int32) (p3 : Int32) : Option (Int32 × eh_F) := Option.bind (eF_12_isEnclave s p2) (fun q1 => eh_J (fun (s3 : eh_F) => some ((-1), s3)) (fun j2 => if q1 = 0 then (j2 s) else (if p2 = p1 then (j2 s) else (Option.bind (eF_12_canRead s p0 p3 32) (fun q6 => if q6.1 = 0 then (j2 q6.2) else (if eh_in p2 6 then if (q6.2.1 155 (eh_ix p2)) = 2 then (if eh_in p2 6 then if (q6.2.1 161 (eh_ix p2)) = 0 then (Option.bind (eh_loop (fun (r22 : (Int32 × eh_F) → Option (eh_F)) (t10 : Int32 × eh_F) => if t10.1 < 32 then (if eh_in t10.1 128 then if eh_in ((64 * p2) + t10.1) 384 then eh_V (eh_tI t10.2 162 (eh_ix ((64 * p2) + t10.1)) (eh_nb (t10.2.1 195 (eh_ix t10.1)))) (fun s24 => if eh_in ((32 * p1) + t10.1) 192 then if eh_in (((64 * p2) + 32) + t10.1) 384 then eh_V (eh_tI s24 162 (eh_ix (((64 * p2) + 32) + t10.1)) (eh_nb (s24.1 159 (eh_ix ((32 * p1) + t10.1))))) (fun s25 => eh_V ((t10.1 + 1) : Int32) (fun x26 => r22 (x26, s25))) else none else none) else none else none) else (some t10.2)) eh_FU (0, q6.2)) (fun (e11 : eh_F) => if eh_in p2 6 then eh_V (eh_tI e11 161 (eh_ix p2) (eh_nz 1)) (fun s12 => Option.bind (eh_loop (fun (r16 : (Int32 × eh_F) → Option (eh_F)) (t13 : Int32 × eh_F) => if t13.1 < 8 then (Option.bind (eF_12_littleWord t13.2 195 128 (4 * t13.1)) (fun q18 => Option.bind (eF_12_happens t13.2 6 p0 p2 t13.1 q18) (fun q19 => eh_V ((t13.1 + 1) : Int32) (fun x20 => r16 (x20, q19))))) else (some t13.2)) eh_FU (0, s12)) (fun (e14 : eh_F) => some (0, e14))) else none)) else (some ((-5), q6.2)) else none) else (some ((-2), q6.2)) else none))))))
set_option maxHeartbeats 4000000 in
set_option maxRecDepth 100000 in
theorem eS_12_send (g : eh_P) (s : eh_F) (p0 : Int32) (p1 : Int32) (p2 : Int32) (p3 : Int32) : eh_Sim g eM_12_send (eh_R 5 0 0) eh_eI 0 0 0 (eh_en 6 [.ref 127, .int p0, .int p1, .int p2, .int p3]) [] (eh_FW s) (eF_12_send s p0 p1 p2 p3) := by
  unfold eF_12_send
  refine ef_top (L := [some (.ref 127), some (.int p0), some (.int p1), some (.int p2), some (.int p3), none]) rfl ?_
  refine es_blk (pc' := 2) (L' := [some (.ref 127), some (.int p0), some (.int p1), some (.int p2), some (.int p3), none]) (st' := [.int p2, .ref 127]) [(.aload_n 0, 0), (.iload_n 3, 0)] (by decide +kernel) rfl rfl ?_
  refine ef_vpI (d := 1) (k := 127) (As := [.int p2]) (st := []) eV_12_isEnclave eK_12_549 (eS_12_isEnclave g s p2) rfl rfl (Nat.le_of_ble_eq_true rfl) rfl (Nat.le_of_ble_eq_true rfl) ⟨Nat.le_of_ble_eq_true rfl, Nat.le_of_ble_eq_true rfl⟩ ⟨Nat.le_refl _, Nat.le_refl _⟩ (by decide +kernel) (fun q1 _ => ?_)
  refine ef_J (X := fun j2 => ∀ (s3 : eh_F), eh_Sim g eM_12_send (eh_R 5 0 0) eh_eI 0 0 25 [none, none, none, none, none, none] [] (eh_FW s3) ((j2 s3).bind some)) ?_ (fun j2 Hj2 => ?_)
  · intro s3
    refine es_blk (pc' := 26) (L' := [none, none, none, none, none, none]) (st' := [.int (-1)]) [(.iconst (-1), (-1))] (by decide +kernel) rfl rfl ?_
    exact es_ret rfl rfl rfl ⟨by decide +kernel, _, rfl, rfl⟩ (Nat.le_refl _) (Nat.le_refl _)
  refine es_eq (tgt := 25) (off := (20)) (by decide +kernel) (by decide) (fun h4 => ?_) (fun h4 => ?_)
  · refine ef_drop (L2 := [none, none, none, none, none, none]) [false, false, false, false, false, true] rfl rfl ?_
    exact Hj2 _
  refine es_blk (pc' := 10) (L' := [some (.ref 127), some (.int p0), some (.int p1), some (.int p2), some (.int p3), none]) (st' := [.int p1, .int p2]) [(.iload_n 3, 0), (.iload_n 2, 0)] (by decide +kernel) rfl rfl ?_
  refine es_ieq (tgt := 25) (off := (15)) (by decide +kernel) (by decide) (fun h5 => ?_) (fun h5 => ?_)
  · refine ef_drop (L2 := [none, none, none, none, none, none]) [false, false, false, false, false, true] rfl rfl ?_
    exact Hj2 _
  refine es_blk (pc' := 19) (L' := [some (.ref 127), some (.int p0), some (.int p1), some (.int p2), some (.int p3), none]) (st' := [.int 32, .int p3, .int p0, .ref 127]) [(.aload_n 0, 0), (.iload_n 1, 0), (.iload 4, 0), (.bipush 32, 32)] (by decide +kernel) rfl rfl ?_
  refine ef_veI (d := 4) (k := 127) (As := [.int p0, .int p3, .int 32]) (st := []) eV_12_canRead eK_12_595 (eS_12_canRead g s p0 p3 32) rfl rfl (Nat.le_of_ble_eq_true rfl) rfl (Nat.le_of_ble_eq_true rfl) ⟨Nat.le_of_ble_eq_true rfl, Nat.le_of_ble_eq_true rfl⟩ ⟨Nat.le_refl _, Nat.le_refl _⟩ (by decide +kernel) (fun q6 _ => ?_)
  refine es_ne (tgt := 27) (off := (5)) (by decide +kernel) (by decide) (fun h7 => ?_) (fun h7 => ?_)
  · refine ef_drop (L2 := [none, none, none, none, none, none]) [false, false, false, false, false, true] rfl rfl ?_
    exact Hj2 _
  refine es_blk (pc' := 28) (L' := [some (.ref 127), some (.int p0), some (.int p1), some (.int p2), some (.int p3), none]) (st' := [.ref 127]) [(.aload_n 0, 0)] (by decide +kernel) rfl rfl ?_
  refine ef_getP (k := 127) (j := 30) (q := 155) rfl eL_12_94 rfl rfl rfl (by decide +kernel) ?_
  refine es_blk (pc' := 32) (L' := [some (.ref 127), some (.int p0), some (.int p1), some (.int p2), some (.int p3), none]) (st' := [.int p2, .ref 155]) [(.iload_n 3, 0)] (by decide +kernel) rfl rfl ?_
  refine ef_ald (k := 155) rfl (Or.inl ⟨rfl, rfl⟩) (by decide +kernel) (fun _ => ?_)
  refine es_blk (pc' := 34) (L' := [some (.ref 127), some (.int p0), some (.int p1), some (.int p2), some (.int p3), none]) (st' := [.int 2, .int (q6.2.1 155 (eh_ix p2))]) [(.iconst 2, 2)] (by decide +kernel) rfl rfl ?_
  refine es_ieq (tgt := 40) (off := (6)) (by decide +kernel) (by decide) (fun h8 => ?_) (fun h8 => ?_)
  · refine es_blk (pc' := 41) (L' := [some (.ref 127), some (.int p0), some (.int p1), some (.int p2), some (.int p3), none]) (st' := [.ref 127]) [(.aload_n 0, 0)] (by decide +kernel) rfl rfl ?_
    refine ef_getP (k := 127) (j := 36) (q := 161) rfl eL_12_112 rfl rfl rfl (by decide +kernel) ?_
    refine es_blk (pc' := 45) (L' := [some (.ref 127), some (.int p0), some (.int p1), some (.int p2), some (.int p3), none]) (st' := [.int p2, .ref 161]) [(.iload_n 3, 0)] (by decide +kernel) rfl rfl ?_
    refine ef_ald (k := 161) rfl (Or.inr ⟨Or.inr rfl, rfl⟩) (by decide +kernel) (fun _ => ?_)
    refine es_eq (tgt := 52) (off := (6)) (by decide +kernel) (by decide) (fun h9 => ?_) (fun h9 => ?_)
    · refine es_blk (pc' := 55) (L' := [some (.ref 127), some (.int p0), some (.int p1), some (.int p2), some (.int p3), some (.int 0)]) (st' := []) [(.iconst 0, 0), (.istore 5, 0)] (by decide +kernel) rfl rfl ?_
      refine ef_drop (L2 := [some (.ref 127), some (.int p0), some (.int p1), some (.int p2), none, some (.int 0)]) [true, true, true, true, false, true] rfl rfl ?_
      refine ef_loop1 (n := eh_FU) (i := (0, q6.2)) (px := 114) (fun (t10 : Int32 × eh_F) => [some (.ref 127), some (.int p0), some (.int p1), some (.int p2), none, some (.int t10.1)]) (fun (t10 : Int32 × eh_F) => []) (fun (t10 : Int32 × eh_F) => eh_FW t10.2) (fun (e11 : eh_F) => [some (.ref 127), some (.int p0), none, some (.int p2), none, none]) (fun (e11 : eh_F) => []) (fun (e11 : eh_F) => eh_FW e11) (fun e11 => ?_) (fun K21 HxK21_0 r22 Hr22 t10 => ?_)
      · refine es_blk (pc' := 115) (L' := [some (.ref 127), some (.int p0), none, some (.int p2), none, none]) (st' := [.ref 127]) [(.aload_n 0, 0)] (by decide +kernel) rfl rfl ?_
        refine ef_getP (k := 127) (j := 36) (q := 161) rfl eL_12_112 rfl rfl rfl (by decide +kernel) ?_
        refine es_blk (pc' := 120) (L' := [some (.ref 127), some (.int p0), none, some (.int p2), none, none]) (st' := [.int 1, .int p2, .ref 161]) [(.iload_n 3, 0), (.iconst 1, 1)] (by decide +kernel) rfl rfl ?_
        refine ef_astZ (k := 161) rfl (by decide +kernel) (fun _ => ?_)
        refine ef_V (fun _ => [some (.ref 127), some (.int p0), none, some (.int p2), none, none]) (fun _ => []) (fun s12 => eh_FW s12) (fun s12 => ?_)
        refine es_blk (pc' := 124) (L' := [some (.ref 127), some (.int p0), none, some (.int p2), none, some (.int 0)]) (st' := []) [(.iconst 0, 0), (.istore 5, 0)] (by decide +kernel) rfl rfl ?_
        refine ef_loop1 (n := eh_FU) (i := (0, s12)) (px := 158) (fun (t13 : Int32 × eh_F) => [some (.ref 127), some (.int p0), none, some (.int p2), none, some (.int t13.1)]) (fun (t13 : Int32 × eh_F) => []) (fun (t13 : Int32 × eh_F) => eh_FW t13.2) (fun (e14 : eh_F) => [none, none, none, none, none, none]) (fun (e14 : eh_F) => []) (fun (e14 : eh_F) => eh_FW e14) (fun e14 => ?_) (fun K15 HxK15_0 r16 Hr16 t13 => ?_)
        · refine es_blk (pc' := 159) (L' := [none, none, none, none, none, none]) (st' := [.int 0]) [(.iconst 0, 0)] (by decide +kernel) rfl rfl ?_
          exact es_ret rfl rfl rfl ⟨by decide +kernel, _, rfl, rfl⟩ (Nat.le_refl _) (Nat.le_refl _)
        · refine es_blk (pc' := 128) (L' := [some (.ref 127), some (.int p0), none, some (.int p2), none, some (.int t13.1)]) (st' := [.int 8, .int t13.1]) [(.iload 5, 0), (.bipush 8, 8)] (by decide +kernel) rfl rfl ?_
          refine es_ige (tgt := 158) (off := (30)) (by decide +kernel) (by decide) (fun h17 => ?_) (fun h17 => ?_)
          · refine es_blk (pc' := 139) (L' := [some (.ref 127), some (.int p0), none, some (.int p2), none, some (.int t13.1)]) (st' := [.ref 127, .int t13.1, .int p2, .int p0, .int 6, .ref 127]) [(.aload_n 0, 0), (.bipush 6, 6), (.iload_n 1, 0), (.iload_n 3, 0), (.iload 5, 0), (.aload_n 0, 0)] (by decide +kernel) rfl rfl ?_
            refine ef_getP (k := 127) (j := 82) (q := 195) rfl eL_12_215 rfl rfl rfl (by decide +kernel) ?_
            refine es_blk (pc' := 146) (L' := [some (.ref 127), some (.int p0), none, some (.int p2), none, some (.int t13.1)]) (st' := [.int (4 * t13.1), .ref 195, .int t13.1, .int p2, .int p0, .int 6, .ref 127]) [(.iconst 4, 4), (.iload 5, 0), (.imul, 0)] (by decide +kernel) rfl rfl ?_
            refine ef_spI (d := 1) (As := [.ref 195, .int (4 * t13.1)]) (st := [.int t13.1, .int p2, .int p0, .int 6, .ref 127]) eV_12_littleWord eK_12_368 (eS_12_littleWord g t13.2 195 128 (4 * t13.1) rfl) rfl (Nat.le_of_ble_eq_true rfl) rfl (Nat.le_of_ble_eq_true rfl) ⟨Nat.le_of_ble_eq_true rfl, Nat.le_of_ble_eq_true rfl⟩ ⟨Nat.le_refl _, Nat.le_refl _⟩ (by decide +kernel) (fun q18 _ => ?_)
            refine ef_veV (d := 1) (k := 127) (As := [.int 6, .int p0, .int p2, .int t13.1, .int q18]) (st := []) eV_12_happens eK_12_394 (eS_12_happens g t13.2 6 p0 p2 t13.1 q18) rfl rfl (Nat.le_of_ble_eq_true rfl) rfl (Nat.le_of_ble_eq_true rfl) ⟨Nat.le_of_ble_eq_true rfl, Nat.le_of_ble_eq_true rfl⟩ ⟨Nat.le_refl _, Nat.le_refl _⟩ (by decide +kernel) (fun q19 _ => ?_)
            refine es_blk (pc' := 155) (L' := [some (.ref 127), some (.int p0), none, some (.int p2), none, some (.int (t13.1 + 1))]) (st' := []) [(.iinc 5 1, 1)] (by decide +kernel) rfl rfl ?_
            refine ef_V (fun x20 => [some (.ref 127), some (.int p0), none, some (.int p2), none, some (.int x20)]) (fun _ => []) (fun _ => eh_FW q19) (fun x20 => ?_)
            refine es_goto (tgt := 124) (off := (-31)) (by decide +kernel) (by decide) ?_
            exact Hr16 (x20, q19)
          refine ef_drop (L2 := [none, none, none, none, none, none]) [false, false, true, false, true, false] rfl rfl ?_
          exact HxK15_0 t13.2
      · refine es_blk (pc' := 59) (L' := [some (.ref 127), some (.int p0), some (.int p1), some (.int p2), none, some (.int t10.1)]) (st' := [.int 32, .int t10.1]) [(.iload 5, 0), (.bipush 32, 32)] (by decide +kernel) rfl rfl ?_
        refine es_ige (tgt := 114) (off := (55)) (by decide +kernel) (by decide) (fun h23 => ?_) (fun h23 => ?_)
        · refine es_blk (pc' := 63) (L' := [some (.ref 127), some (.int p0), some (.int p1), some (.int p2), none, some (.int t10.1)]) (st' := [.ref 127]) [(.aload_n 0, 0)] (by decide +kernel) rfl rfl ?_
          refine ef_getP (k := 127) (j := 37) (q := 162) rfl eL_12_115 rfl rfl rfl (by decide +kernel) ?_
          refine es_blk (pc' := 74) (L' := [some (.ref 127), some (.int p0), some (.int p1), some (.int p2), none, some (.int t10.1)]) (st' := [.ref 127, .int ((64 * p2) + t10.1), .ref 162]) [(.bipush 64, 64), (.iload_n 3, 0), (.imul, 0), (.iload 5, 0), (.iadd, 0), (.aload_n 0, 0)] (by decide +kernel) rfl rfl ?_
          refine ef_getP (k := 127) (j := 82) (q := 195) rfl eL_12_215 rfl rfl rfl (by decide +kernel) ?_
          refine es_blk (pc' := 79) (L' := [some (.ref 127), some (.int p0), some (.int p1), some (.int p2), none, some (.int t10.1)]) (st' := [.int t10.1, .ref 195, .int ((64 * p2) + t10.1), .ref 162]) [(.iload 5, 0)] (by decide +kernel) rfl rfl ?_
          refine ef_ald (k := 195) rfl (Or.inr ⟨Or.inl rfl, rfl⟩) (by decide +kernel) (fun _ => ?_)
          refine ef_astB (k := 162) rfl (by decide +kernel) (fun _ => ?_)
          refine ef_V (fun _ => [some (.ref 127), some (.int p0), some (.int p1), some (.int p2), none, some (.int t10.1)]) (fun _ => []) (fun s24 => eh_FW s24) (fun s24 => ?_)
          refine es_blk (pc' := 82) (L' := [some (.ref 127), some (.int p0), some (.int p1), some (.int p2), none, some (.int t10.1)]) (st' := [.ref 127]) [(.aload_n 0, 0)] (by decide +kernel) rfl rfl ?_
          refine ef_getP (k := 127) (j := 37) (q := 162) rfl eL_12_115 rfl rfl rfl (by decide +kernel) ?_
          refine es_blk (pc' := 96) (L' := [some (.ref 127), some (.int p0), some (.int p1), some (.int p2), none, some (.int t10.1)]) (st' := [.ref 127, .int (((64 * p2) + 32) + t10.1), .ref 162]) [(.bipush 64, 64), (.iload_n 3, 0), (.imul, 0), (.bipush 32, 32), (.iadd, 0), (.iload 5, 0), (.iadd, 0), (.aload_n 0, 0)] (by decide +kernel) rfl rfl ?_
          refine ef_getP (k := 127) (j := 34) (q := 159) rfl eL_12_106 rfl rfl rfl (by decide +kernel) ?_
          refine es_blk (pc' := 106) (L' := [some (.ref 127), some (.int p0), some (.int p1), some (.int p2), none, some (.int t10.1)]) (st' := [.int ((32 * p1) + t10.1), .ref 159, .int (((64 * p2) + 32) + t10.1), .ref 162]) [(.bipush 32, 32), (.iload_n 2, 0), (.imul, 0), (.iload 5, 0), (.iadd, 0)] (by decide +kernel) rfl rfl ?_
          refine ef_ald (k := 159) rfl (Or.inr ⟨Or.inl rfl, rfl⟩) (by decide +kernel) (fun _ => ?_)
          refine ef_astB (k := 162) rfl (by decide +kernel) (fun _ => ?_)
          refine ef_V (fun _ => [some (.ref 127), some (.int p0), some (.int p1), some (.int p2), none, some (.int t10.1)]) (fun _ => []) (fun s25 => eh_FW s25) (fun s25 => ?_)
          refine es_blk (pc' := 111) (L' := [some (.ref 127), some (.int p0), some (.int p1), some (.int p2), none, some (.int (t10.1 + 1))]) (st' := []) [(.iinc 5 1, 1)] (by decide +kernel) rfl rfl ?_
          refine ef_V (fun x26 => [some (.ref 127), some (.int p0), some (.int p1), some (.int p2), none, some (.int x26)]) (fun _ => []) (fun _ => eh_FW s25) (fun x26 => ?_)
          refine es_goto (tgt := 55) (off := (-56)) (by decide +kernel) (by decide) ?_
          exact Hr22 (x26, s25)
        refine ef_drop (L2 := [some (.ref 127), some (.int p0), none, some (.int p2), none, none]) [true, true, false, true, true, false] rfl rfl ?_
        exact HxK21_0 t10.2
    refine es_blk (pc' := 51) (L' := [some (.ref 127), some (.int p0), some (.int p1), some (.int p2), some (.int p3), none]) (st' := [.int (-5)]) [(.bipush (-5), (-5))] (by decide +kernel) rfl rfl ?_
    exact es_ret rfl rfl rfl ⟨by decide +kernel, _, rfl, rfl⟩ (Nat.le_refl _) (Nat.le_refl _)
  refine es_blk (pc' := 39) (L' := [some (.ref 127), some (.int p0), some (.int p1), some (.int p2), some (.int p3), none]) (st' := [.int (-2)]) [(.bipush (-2), (-2))] (by decide +kernel) rfl rfl ?_
  exact es_ret rfl rfl rfl ⟨by decide +kernel, _, rfl, rfl⟩ (Nat.le_refl _) (Nat.le_refl _)
def eF_12_receive (s : eh_F) (p0 : Int32) (p1 : Int32) (p2 : Int32) : Option (Int32 × eh_F) := Option.bind (eF_12_canWrite s p0 p2 64) (fun q1 => if q1.1 = 0 then (some ((-1), q1.2)) else (if eh_in p1 6 then eh_J (fun (a4 : Int32) => Option.bind (eF_12_happens q1.2 7 p0 a4 0 0) (fun q5 => if eh_in p1 6 then if (q5.1 161 (eh_ix p1)) = 0 then (some (0, q5)) else (if eh_in p1 6 then eh_V (eh_tI q5 161 (eh_ix p1) (eh_nz 0)) (fun s7 => Option.bind (eF_12_writeTo s7 p0 p2 162 384 (64 * p1) 64) (fun q8 => some (1, q8))) else none) else none)) (fun j3 => if (q1.2.1 161 (eh_ix p1)) = 0 then (j3 0) else (j3 1)) else none))
set_option maxHeartbeats 4000000 in
set_option maxRecDepth 100000 in
theorem eS_12_receive (g : eh_P) (s : eh_F) (p0 : Int32) (p1 : Int32) (p2 : Int32) : eh_Sim g eM_12_receive (eh_R 5 0 0) eh_eI 0 0 0 (eh_en 4 [.ref 127, .int p0, .int p1, .int p2]) [] (eh_FW s) (eF_12_receive s p0 p1 p2) := by
  unfold eF_12_receive
  refine ef_top (L := [some (.ref 127), some (.int p0), some (.int p1), some (.int p2)]) rfl ?_
  refine es_blk (pc' := 5) (L' := [some (.ref 127), some (.int p0), some (.int p1), some (.int p2)]) (st' := [.int 64, .int p2, .int p0, .ref 127]) [(.aload_n 0, 0), (.iload_n 1, 0), (.iload_n 3, 0), (.bipush 64, 64)] (by decide +kernel) rfl rfl ?_
  refine ef_veI (d := 4) (k := 127) (As := [.int p0, .int p2, .int 64]) (st := []) eV_12_canWrite eK_12_588 (eS_12_canWrite g s p0 p2 64) rfl rfl (Nat.le_of_ble_eq_true rfl) rfl (Nat.le_of_ble_eq_true rfl) ⟨Nat.le_of_ble_eq_true rfl, Nat.le_of_ble_eq_true rfl⟩ ⟨Nat.le_refl _, Nat.le_refl _⟩ (by decide +kernel) (fun q1 _ => ?_)
  refine es_ne (tgt := 13) (off := (5)) (by decide +kernel) (by decide) (fun h2 => ?_) (fun h2 => ?_)
  · refine es_blk (pc' := 12) (L' := [some (.ref 127), some (.int p0), some (.int p1), some (.int p2)]) (st' := [.int (-1)]) [(.iconst (-1), (-1))] (by decide +kernel) rfl rfl ?_
    exact es_ret rfl rfl rfl ⟨by decide +kernel, _, rfl, rfl⟩ (Nat.le_refl _) (Nat.le_refl _)
  refine es_blk (pc' := 18) (L' := [some (.ref 127), some (.int p0), some (.int p1), some (.int p2)]) (st' := [.ref 127, .int p0, .int 7, .ref 127]) [(.aload_n 0, 0), (.bipush 7, 7), (.iload_n 1, 0), (.aload_n 0, 0)] (by decide +kernel) rfl rfl ?_
  refine ef_getP (k := 127) (j := 36) (q := 161) rfl eL_12_112 rfl rfl rfl (by decide +kernel) ?_
  refine es_blk (pc' := 22) (L' := [some (.ref 127), some (.int p0), some (.int p1), some (.int p2)]) (st' := [.int p1, .ref 161, .int p0, .int 7, .ref 127]) [(.iload_n 2, 0)] (by decide +kernel) rfl rfl ?_
  refine ef_ald (k := 161) rfl (Or.inr ⟨Or.inr rfl, rfl⟩) (by decide +kernel) (fun _ => ?_)
  refine ef_J (X := fun j3 => ∀ (a4 : Int32), eh_Sim g eM_12_receive (eh_R 5 0 0) eh_eI 0 0 31 [some (.ref 127), some (.int p0), some (.int p1), some (.int p2)] [.int a4, .int p0, .int 7, .ref 127] (eh_FW q1.2) ((j3 a4).bind some)) ?_ (fun j3 Hj3 => ?_)
  · intro a4
    refine es_blk (pc' := 33) (L' := [some (.ref 127), some (.int p0), some (.int p1), some (.int p2)]) (st' := [.int 0, .int 0, .int a4, .int p0, .int 7, .ref 127]) [(.iconst 0, 0), (.iconst 0, 0)] (by decide +kernel) rfl rfl ?_
    refine ef_veV (d := 1) (k := 127) (As := [.int 7, .int p0, .int a4, .int 0, .int 0]) (st := []) eV_12_happens eK_12_394 (eS_12_happens g q1.2 7 p0 a4 0 0) rfl rfl (Nat.le_of_ble_eq_true rfl) rfl (Nat.le_of_ble_eq_true rfl) ⟨Nat.le_of_ble_eq_true rfl, Nat.le_of_ble_eq_true rfl⟩ ⟨Nat.le_refl _, Nat.le_refl _⟩ (by decide +kernel) (fun q5 _ => ?_)
    refine es_blk (pc' := 37) (L' := [some (.ref 127), some (.int p0), some (.int p1), some (.int p2)]) (st' := [.ref 127]) [(.aload_n 0, 0)] (by decide +kernel) rfl rfl ?_
    refine ef_getP (k := 127) (j := 36) (q := 161) rfl eL_12_112 rfl rfl rfl (by decide +kernel) ?_
    refine es_blk (pc' := 41) (L' := [some (.ref 127), some (.int p0), some (.int p1), some (.int p2)]) (st' := [.int p1, .ref 161]) [(.iload_n 2, 0)] (by decide +kernel) rfl rfl ?_
    refine ef_ald (k := 161) rfl (Or.inr ⟨Or.inr rfl, rfl⟩) (by decide +kernel) (fun _ => ?_)
    refine es_ne (tgt := 47) (off := (5)) (by decide +kernel) (by decide) (fun h6 => ?_) (fun h6 => ?_)
    · refine es_blk (pc' := 46) (L' := [some (.ref 127), some (.int p0), some (.int p1), some (.int p2)]) (st' := [.int 0]) [(.iconst 0, 0)] (by decide +kernel) rfl rfl ?_
      exact es_ret rfl rfl rfl ⟨by decide +kernel, _, rfl, rfl⟩ (Nat.le_refl _) (Nat.le_refl _)
    refine es_blk (pc' := 48) (L' := [some (.ref 127), some (.int p0), some (.int p1), some (.int p2)]) (st' := [.ref 127]) [(.aload_n 0, 0)] (by decide +kernel) rfl rfl ?_
    refine ef_getP (k := 127) (j := 36) (q := 161) rfl eL_12_112 rfl rfl rfl (by decide +kernel) ?_
    refine es_blk (pc' := 53) (L' := [some (.ref 127), some (.int p0), some (.int p1), some (.int p2)]) (st' := [.int 0, .int p1, .ref 161]) [(.iload_n 2, 0), (.iconst 0, 0)] (by decide +kernel) rfl rfl ?_
    refine ef_astZ (k := 161) rfl (by decide +kernel) (fun _ => ?_)
    refine ef_V (fun _ => [some (.ref 127), some (.int p0), some (.int p1), some (.int p2)]) (fun _ => []) (fun s7 => eh_FW s7) (fun s7 => ?_)
    refine es_blk (pc' := 58) (L' := [some (.ref 127), some (.int p0), some (.int p1), some (.int p2)]) (st' := [.ref 127, .int p2, .int p0, .ref 127]) [(.aload_n 0, 0), (.iload_n 1, 0), (.iload_n 3, 0), (.aload_n 0, 0)] (by decide +kernel) rfl rfl ?_
    refine ef_getP (k := 127) (j := 37) (q := 162) rfl eL_12_115 rfl rfl rfl (by decide +kernel) ?_
    refine es_blk (pc' := 67) (L' := [some (.ref 127), some (.int p0), some (.int p1), some (.int p2)]) (st' := [.int 64, .int (64 * p1), .ref 162, .int p2, .int p0, .ref 127]) [(.bipush 64, 64), (.iload_n 2, 0), (.imul, 0), (.bipush 64, 64)] (by decide +kernel) rfl rfl ?_
    refine ef_veV (d := 3) (k := 127) (As := [.int p0, .int p2, .ref 162, .int (64 * p1), .int 64]) (st := []) eV_12_writeTo eK_12_591 (eS_12_writeTo g s7 p0 p2 162 384 (64 * p1) 64 rfl) rfl rfl (Nat.le_of_ble_eq_true rfl) rfl (Nat.le_of_ble_eq_true rfl) ⟨Nat.le_of_ble_eq_true rfl, Nat.le_of_ble_eq_true rfl⟩ ⟨Nat.le_refl _, Nat.le_refl _⟩ (by decide +kernel) (fun q8 _ => ?_)
    refine es_blk (pc' := 71) (L' := [some (.ref 127), some (.int p0), some (.int p1), some (.int p2)]) (st' := [.int 1]) [(.iconst 1, 1)] (by decide +kernel) rfl rfl ?_
    exact es_ret rfl rfl rfl ⟨by decide +kernel, _, rfl, rfl⟩ (Nat.le_refl _) (Nat.le_refl _)
  refine es_eq (tgt := 30) (off := (7)) (by decide +kernel) (by decide) (fun h9 => ?_) (fun h9 => ?_)
  · refine es_blk (pc' := 31) (L' := [some (.ref 127), some (.int p0), some (.int p1), some (.int p2)]) (st' := [.int 0, .int p0, .int 7, .ref 127]) [(.iconst 0, 0)] (by decide +kernel) rfl rfl ?_
    exact Hj3 _
  refine es_blk (pc' := 27) (L' := [some (.ref 127), some (.int p0), some (.int p1), some (.int p2)]) (st' := [.int 1, .int p0, .int 7, .ref 127]) [(.iconst 1, 1)] (by decide +kernel) rfl rfl ?_
  refine es_goto (tgt := 31) (off := (4)) (by decide +kernel) (by decide) ?_
  exact Hj3 _
def eF_12_control_2 (s : eh_F) (p0 : Int32) (p1 : Int32) : Option (Int32) := Option.bind (eF_12_isHart s p0) (fun q1 => eh_J (fun (a3 : Int32) => some a3) (fun j2 => eh_J (fun (u5 : Unit) => j2 0) (fun j4 => if q1 = 0 then (j4 ()) else (Option.bind (eF_12_isRegister s p1) (fun q7 => if q7 = 0 then (j4 ()) else (Option.bind (eF_12_readRegister s p0 p1) (fun q9 => j2 q9)))))))
set_option maxHeartbeats 4000000 in
set_option maxRecDepth 100000 in
theorem eS_12_control_2 (g : eh_P) (s : eh_F) (p0 : Int32) (p1 : Int32) : eh_Sim g eM_12_control_2 (eh_R 5 0 0) (eh_pI s) 0 0 0 (eh_en 3 [.ref 127, .int p0, .int p1]) [] (eh_FW s) (eF_12_control_2 s p0 p1) := by
  unfold eF_12_control_2
  refine ef_top (L := [some (.ref 127), some (.int p0), some (.int p1)]) rfl ?_
  refine es_blk (pc' := 1) (L' := [some (.ref 127), some (.int p0), some (.int p1)]) (st' := [.int p0]) [(.iload_n 1, 0)] (by decide +kernel) rfl rfl ?_
  refine ef_spI (d := 1) (As := [.int p0]) (st := []) eV_12_isHart eK_12_632 (eS_12_isHart g s p0) rfl (Nat.le_of_ble_eq_true rfl) rfl (Nat.le_of_ble_eq_true rfl) ⟨Nat.le_of_ble_eq_true rfl, Nat.le_of_ble_eq_true rfl⟩ ⟨Nat.le_refl _, Nat.le_refl _⟩ (by decide +kernel) (fun q1 _ => ?_)
  refine ef_J (X := fun j2 => ∀ (a3 : Int32), eh_Sim g eM_12_control_2 (eh_R 5 0 0) (eh_pI s) 0 0 24 [none, none, none] [.int a3] (eh_FW s) ((j2 a3).bind some)) ?_ (fun j2 Hj2 => ?_)
  · intro a3
    exact es_ret rfl rfl rfl ⟨by decide +kernel, _, rfl, rfl⟩ (Nat.le_refl _) (Nat.le_refl _)
  refine ef_J (X := fun j4 => ∀ (u5 : Unit), eh_Sim g eM_12_control_2 (eh_R 5 0 0) (eh_pI s) 0 0 23 [none, none, none] [] (eh_FW s) ((j4 u5).bind some)) ?_ (fun j4 Hj4 => ?_)
  · intro u5
    refine es_blk (pc' := 24) (L' := [none, none, none]) (st' := [.int 0]) [(.iconst 0, 0)] (by decide +kernel) rfl rfl ?_
    exact Hj2 _
  refine es_eq (tgt := 23) (off := (19)) (by decide +kernel) (by decide) (fun h6 => ?_) (fun h6 => ?_)
  · refine ef_drop (L2 := [none, none, none]) [false, false, false] rfl rfl ?_
    exact Hj4 ()
  refine es_blk (pc' := 8) (L' := [some (.ref 127), some (.int p0), some (.int p1)]) (st' := [.int p1]) [(.iload_n 2, 0)] (by decide +kernel) rfl rfl ?_
  refine ef_spI (d := 1) (As := [.int p1]) (st := []) eV_12_isRegister eK_12_488 (eS_12_isRegister g s p1) rfl (Nat.le_of_ble_eq_true rfl) rfl (Nat.le_of_ble_eq_true rfl) ⟨Nat.le_of_ble_eq_true rfl, Nat.le_of_ble_eq_true rfl⟩ ⟨Nat.le_refl _, Nat.le_refl _⟩ (by decide +kernel) (fun q7 _ => ?_)
  refine es_eq (tgt := 23) (off := (12)) (by decide +kernel) (by decide) (fun h8 => ?_) (fun h8 => ?_)
  · refine ef_drop (L2 := [none, none, none]) [false, false, false] rfl rfl ?_
    exact Hj4 ()
  refine es_blk (pc' := 17) (L' := [some (.ref 127), some (.int p0), some (.int p1)]) (st' := [.int p1, .int p0, .ref 127]) [(.aload_n 0, 0), (.iload_n 1, 0), (.iload_n 2, 0)] (by decide +kernel) rfl rfl ?_
  refine ef_vpI (d := 4) (k := 127) (As := [.int p0, .int p1]) (st := []) eV_12_readRegister eK_12_492 (eS_12_readRegister g s p0 p1) rfl rfl (Nat.le_of_ble_eq_true rfl) rfl (Nat.le_of_ble_eq_true rfl) ⟨Nat.le_of_ble_eq_true rfl, Nat.le_of_ble_eq_true rfl⟩ ⟨Nat.le_refl _, Nat.le_refl _⟩ (by decide +kernel) (fun q9 _ => ?_)
  refine es_goto (tgt := 24) (off := (4)) (by decide +kernel) (by decide) ?_
  refine ef_drop (L2 := [none, none, none]) [false, false, false] rfl rfl ?_
  exact Hj2 _
def eF_12_digest (s : eh_F) (p0 : Int32) (p1 : Int32) (p2 : Int32) : Option (Int32 × eh_F) := eh_J (fun (u2 : Unit) => some (0, s)) (fun j1 => if p0 < 0 then (j1 ()) else (if p1 < 0 then (j1 ()) else (if 4096 < p1 then (j1 ()) else (if (131072 - p1) < p0 then (j1 ()) else (if p2 < 0 then (j1 ()) else (if 7 < p2 then (j1 ()) else (Option.bind (eF_12_begin s 6) (fun q9 => Option.bind (eh_loop (fun (r15 : (Int32 × eh_F) → Option (eh_F)) (t10 : Int32 × eh_F) => if t10.1 < p1 then (Option.bind (eF_12_shown t10.2 (p0 + t10.1)) (fun q17 => Option.bind (eF_12_add t10.2 6 q17) (fun q18 => eh_V ((t10.1 + 1) : Int32) (fun x19 => r15 (x19, q18))))) else (some t10.2)) eh_FU (0, q9)) (fun (e11 : eh_F) => Option.bind (eF_12_finish e11 6 194 32 0) (fun q12 => Option.bind (eF_12_bigWord q12 194 32 (4 * p2)) (fun q13 => some (q13, q12))))))))))))
set_option maxHeartbeats 4000000 in
set_option maxRecDepth 100000 in
theorem eS_12_digest (g : eh_P) (s : eh_F) (p0 : Int32) (p1 : Int32) (p2 : Int32) : eh_Sim g eM_12_digest (eh_R 5 0 0) eh_eI 0 0 0 (eh_en 5 [.ref 127, .int p0, .int p1, .int p2]) [] (eh_FW s) (eF_12_digest s p0 p1 p2) := by
  unfold eF_12_digest
  refine ef_top (L := [some (.ref 127), some (.int p0), some (.int p1), some (.int p2), none]) rfl ?_
  refine es_blk (pc' := 1) (L' := [some (.ref 127), some (.int p0), some (.int p1), some (.int p2), none]) (st' := [.int p0]) [(.iload_n 1, 0)] (by decide +kernel) rfl rfl ?_
  refine ef_J (X := fun j1 => ∀ (u2 : Unit), eh_Sim g eM_12_digest (eh_R 5 0 0) eh_eI 0 0 33 [none, none, none, none, none] [] (eh_FW s) ((j1 u2).bind some)) ?_ (fun j1 Hj1 => ?_)
  · intro u2
    refine es_blk (pc' := 34) (L' := [none, none, none, none, none]) (st' := [.int 0]) [(.iconst 0, 0)] (by decide +kernel) rfl rfl ?_
    exact es_ret rfl rfl rfl ⟨by decide +kernel, _, rfl, rfl⟩ (Nat.le_refl _) (Nat.le_refl _)
  refine es_lt (tgt := 33) (off := (32)) (by decide +kernel) (by decide) (fun h3 => ?_) (fun h3 => ?_)
  · refine ef_drop (L2 := [none, none, none, none, none]) [false, false, false, false, true] rfl rfl ?_
    exact Hj1 ()
  refine es_blk (pc' := 5) (L' := [some (.ref 127), some (.int p0), some (.int p1), some (.int p2), none]) (st' := [.int p1]) [(.iload_n 2, 0)] (by decide +kernel) rfl rfl ?_
  refine es_lt (tgt := 33) (off := (28)) (by decide +kernel) (by decide) (fun h4 => ?_) (fun h4 => ?_)
  · refine ef_drop (L2 := [none, none, none, none, none]) [false, false, false, false, true] rfl rfl ?_
    exact Hj1 ()
  refine es_blk (pc' := 12) (L' := [some (.ref 127), some (.int p0), some (.int p1), some (.int p2), none]) (st' := [.int 4096, .int p1]) [(.iload_n 2, 0), (.sipush 4096, 4096)] (by decide +kernel) rfl rfl ?_
  refine es_igt (tgt := 33) (off := (21)) (by decide +kernel) (by decide) (fun h5 => ?_) (fun h5 => ?_)
  · refine ef_drop (L2 := [none, none, none, none, none]) [false, false, false, false, true] rfl rfl ?_
    exact Hj1 ()
  refine es_blk (pc' := 16) (L' := [some (.ref 127), some (.int p0), some (.int p1), some (.int p2), none]) (st' := [.int p0]) [(.iload_n 1, 0)] (by decide +kernel) rfl rfl ?_
  refine es_ldc (v := 131072) eC_12_9 (by decide +kernel) ?_
  refine es_blk (pc' := 20) (L' := [some (.ref 127), some (.int p0), some (.int p1), some (.int p2), none]) (st' := [.int (131072 - p1), .int p0]) [(.iload_n 2, 0), (.isub, 0)] (by decide +kernel) rfl rfl ?_
  refine es_igt (tgt := 33) (off := (13)) (by decide +kernel) (by decide) (fun h6 => ?_) (fun h6 => ?_)
  · refine ef_drop (L2 := [none, none, none, none, none]) [false, false, false, false, true] rfl rfl ?_
    exact Hj1 ()
  refine es_blk (pc' := 24) (L' := [some (.ref 127), some (.int p0), some (.int p1), some (.int p2), none]) (st' := [.int p2]) [(.iload_n 3, 0)] (by decide +kernel) rfl rfl ?_
  refine es_lt (tgt := 33) (off := (9)) (by decide +kernel) (by decide) (fun h7 => ?_) (fun h7 => ?_)
  · refine ef_drop (L2 := [none, none, none, none, none]) [false, false, false, false, true] rfl rfl ?_
    exact Hj1 ()
  refine es_blk (pc' := 30) (L' := [some (.ref 127), some (.int p0), some (.int p1), some (.int p2), none]) (st' := [.int 7, .int p2]) [(.iload_n 3, 0), (.bipush 7, 7)] (by decide +kernel) rfl rfl ?_
  refine es_ile (tgt := 35) (off := (5)) (by decide +kernel) (by decide) (fun h8 => ?_) (fun h8 => ?_)
  · refine ef_drop (L2 := [none, none, none, none, none]) [false, false, false, false, true] rfl rfl ?_
    exact Hj1 ()
  refine es_blk (pc' := 38) (L' := [some (.ref 127), some (.int p0), some (.int p1), some (.int p2), none]) (st' := [.int 6, .ref 127]) [(.aload_n 0, 0), (.bipush 6, 6)] (by decide +kernel) rfl rfl ?_
  refine ef_veV (d := 1) (k := 127) (As := [.int 6]) (st := []) eV_12_begin eK_12_218 (eS_12_begin g s 6) rfl rfl (Nat.le_of_ble_eq_true rfl) rfl (Nat.le_of_ble_eq_true rfl) ⟨Nat.le_of_ble_eq_true rfl, Nat.le_of_ble_eq_true rfl⟩ ⟨Nat.le_refl _, Nat.le_refl _⟩ (by decide +kernel) (fun q9 _ => ?_)
  refine es_blk (pc' := 44) (L' := [some (.ref 127), some (.int p0), some (.int p1), some (.int p2), some (.int 0)]) (st' := []) [(.iconst 0, 0), (.istore 4, 0)] (by decide +kernel) rfl rfl ?_
  refine ef_loop1 (n := eh_FU) (i := (0, q9)) (px := 70) (fun (t10 : Int32 × eh_F) => [some (.ref 127), some (.int p0), some (.int p1), some (.int p2), some (.int t10.1)]) (fun (t10 : Int32 × eh_F) => []) (fun (t10 : Int32 × eh_F) => eh_FW t10.2) (fun (e11 : eh_F) => [some (.ref 127), none, none, some (.int p2), none]) (fun (e11 : eh_F) => []) (fun (e11 : eh_F) => eh_FW e11) (fun e11 => ?_) (fun K14 HxK14_0 r15 Hr15 t10 => ?_)
  · refine es_blk (pc' := 74) (L' := [some (.ref 127), none, none, some (.int p2), none]) (st' := [.ref 127, .int 6, .ref 127]) [(.aload_n 0, 0), (.bipush 6, 6), (.aload_n 0, 0)] (by decide +kernel) rfl rfl ?_
    refine ef_getP (k := 127) (j := 81) (q := 194) rfl eL_12_212 rfl rfl rfl (by decide +kernel) ?_
    refine es_blk (pc' := 78) (L' := [some (.ref 127), none, none, some (.int p2), none]) (st' := [.int 0, .ref 194, .int 6, .ref 127]) [(.iconst 0, 0)] (by decide +kernel) rfl rfl ?_
    refine ef_veV (d := 4) (k := 127) (As := [.int 6, .ref 194, .int 0]) (st := []) eV_12_finish eK_12_226 (eS_12_finish g e11 6 194 32 0 rfl) rfl rfl (Nat.le_of_ble_eq_true rfl) rfl (Nat.le_of_ble_eq_true rfl) ⟨Nat.le_of_ble_eq_true rfl, Nat.le_of_ble_eq_true rfl⟩ ⟨Nat.le_refl _, Nat.le_refl _⟩ (by decide +kernel) (fun q12 _ => ?_)
    refine es_blk (pc' := 82) (L' := [some (.ref 127), none, none, some (.int p2), none]) (st' := [.ref 127]) [(.aload_n 0, 0)] (by decide +kernel) rfl rfl ?_
    refine ef_getP (k := 127) (j := 81) (q := 194) rfl eL_12_212 rfl rfl rfl (by decide +kernel) ?_
    refine es_blk (pc' := 88) (L' := [some (.ref 127), none, none, some (.int p2), none]) (st' := [.int (4 * p2), .ref 194]) [(.iconst 4, 4), (.iload_n 3, 0), (.imul, 0)] (by decide +kernel) rfl rfl ?_
    refine ef_spI (d := 1) (As := [.ref 194, .int (4 * p2)]) (st := []) eV_12_bigWord eK_12_552 (eS_12_bigWord g q12 194 32 (4 * p2) rfl) rfl (Nat.le_of_ble_eq_true rfl) rfl (Nat.le_of_ble_eq_true rfl) ⟨Nat.le_of_ble_eq_true rfl, Nat.le_of_ble_eq_true rfl⟩ ⟨Nat.le_refl _, Nat.le_refl _⟩ (by decide +kernel) (fun q13 _ => ?_)
    exact es_ret rfl rfl rfl ⟨by decide +kernel, _, rfl, rfl⟩ (Nat.le_refl _) (Nat.le_refl _)
  · refine es_blk (pc' := 47) (L' := [some (.ref 127), some (.int p0), some (.int p1), some (.int p2), some (.int t10.1)]) (st' := [.int p1, .int t10.1]) [(.iload 4, 0), (.iload_n 2, 0)] (by decide +kernel) rfl rfl ?_
    refine es_ige (tgt := 70) (off := (23)) (by decide +kernel) (by decide) (fun h16 => ?_) (fun h16 => ?_)
    · refine es_blk (pc' := 58) (L' := [some (.ref 127), some (.int p0), some (.int p1), some (.int p2), some (.int t10.1)]) (st' := [.int (p0 + t10.1), .ref 127, .int 6, .ref 127]) [(.aload_n 0, 0), (.bipush 6, 6), (.aload_n 0, 0), (.iload_n 1, 0), (.iload 4, 0), (.iadd, 0)] (by decide +kernel) rfl rfl ?_
      refine ef_vpI (d := 2) (k := 127) (As := [.int (p0 + t10.1)]) (st := [.int 6, .ref 127]) eV_12_shown eK_12_635 (eS_12_shown g t10.2 (p0 + t10.1)) rfl rfl (Nat.le_of_ble_eq_true rfl) rfl (Nat.le_of_ble_eq_true rfl) ⟨Nat.le_of_ble_eq_true rfl, Nat.le_of_ble_eq_true rfl⟩ ⟨Nat.le_refl _, Nat.le_refl _⟩ (by decide +kernel) (fun q17 _ => ?_)
      refine ef_veV (d := 3) (k := 127) (As := [.int 6, .int q17]) (st := []) eV_12_add eK_12_242 (eS_12_add g t10.2 6 q17) rfl rfl (Nat.le_of_ble_eq_true rfl) rfl (Nat.le_of_ble_eq_true rfl) ⟨Nat.le_of_ble_eq_true rfl, Nat.le_of_ble_eq_true rfl⟩ ⟨Nat.le_refl _, Nat.le_refl _⟩ (by decide +kernel) (fun q18 _ => ?_)
      refine es_blk (pc' := 67) (L' := [some (.ref 127), some (.int p0), some (.int p1), some (.int p2), some (.int (t10.1 + 1))]) (st' := []) [(.iinc 4 1, 1)] (by decide +kernel) rfl rfl ?_
      refine ef_V (fun x19 => [some (.ref 127), some (.int p0), some (.int p1), some (.int p2), some (.int x19)]) (fun _ => []) (fun _ => eh_FW q18) (fun x19 => ?_)
      refine es_goto (tgt := 44) (off := (-23)) (by decide +kernel) (by decide) ?_
      exact Hr15 (x19, q18)
    refine ef_drop (L2 := [some (.ref 127), none, none, some (.int p2), none]) [true, false, false, true, false] rfl rfl ?_
    exact HxK14_0 t10.2
def eF_3_serve (s : eh_F) (p0 : Nat) (p1 : Nat) : Option (eh_F) := eh_V ((s.1 (p1 + 1) 10) : Int32) (fun x1 => eh_V ((s.1 (p1 + 1) 11) : Int32) (fun x2 => eh_J (fun (a4 : Int32) => eh_V ((s.1 (p1 + 1) 17) : Int32) (fun x5 => eh_J (fun (s7 : eh_F) => some s7) (fun j6 => eh_J (fun (u9 : Unit) => Option.bind (eF_3_answerOfPath s p1 (s.1 (p1 + 1) 17) x1) (fun q10 => Option.bind (eF_3_goOn q10.2 p1 q10.1) (fun q11 => j6 q11))) (fun j8 => if x5 = 32 then (Option.bind (eF_3_leave s p0 p1 1 1 0) (fun q14 => j6 q14)) else if x5 = 33 then (Option.bind (eF_3_leave s p0 p1 2 4 1) (fun q16 => j6 q16)) else if x5 = 34 then (Option.bind (eF_3_attest s p1 x1 x2) (fun q18 => Option.bind (eF_3_goOn q18.2 p1 q18.1) (fun q19 => j6 q19))) else if x5 = 35 then (Option.bind (eF_3_giveKey s p1 x1 x2) (fun q21 => Option.bind (eF_3_goOn q21.2 p1 q21.1) (fun q22 => j6 q22))) else if x5 = 36 then (Option.bind (eF_3_giveRandom s p1 x1 x2) (fun q24 => Option.bind (eF_3_goOn q24.2 p1 q24.1) (fun q25 => j6 q25))) else if x5 = 37 then (Option.bind (eF_3_verify s p1 x1) (fun q27 => Option.bind (eF_3_goOn q27.2 p1 q27.1) (fun q28 => j6 q28))) else if x5 = 38 then (Option.bind (eF_3_accept s p1 x1) (fun q30 => Option.bind (eF_3_goOn q30.2 p1 q30.1) (fun q31 => j6 q31))) else if x5 = 39 then (if eh_in (s.1 p1 3) 6 then Option.bind (eF_3_giveDigest s p1 x1 ((eh_ep (s.1 p1 3)) + 5) 8) (fun q34 => Option.bind (eF_3_goOn q34.2 p1 q34.1) (fun q35 => j6 q35)) else none) else if x5 = 40 then (Option.bind (eF_3_send s p1 x1 x2) (fun q37 => Option.bind (eF_3_goOn q37.2 p1 q37.1) (fun q38 => j6 q38))) else if x5 = 41 then (Option.bind (eF_3_receive s p1 x1) (fun q40 => Option.bind (eF_3_goOn q40.2 p1 q40.1) (fun q41 => j6 q41))) else if x5 = 42 then (Option.bind (eF_3_countOne s p1) (fun q43 => Option.bind (eF_3_goOn q43.2 p1 q43.1) (fun q44 => j6 q44))) else if x5 = 43 then (Option.bind (eF_3_setHandler s p1 x1) (fun q46 => Option.bind (eF_3_goOn q46.2 p1 q46.1) (fun q47 => j6 q47))) else if x5 = 44 then (if a4 = 0 then (Option.bind (eF_3_goOn s p1 (-1)) (fun q50 => j6 q50)) else (Option.bind (eF_2_goBack s p1 x1) (fun q51 => j6 q51))) else if x5 = 49 then (Option.bind (eF_3_extend s p1 x1) (fun q53 => Option.bind (eF_3_goOn q53.2 p1 q53.1) (fun q54 => j6 q54))) else if x5 = 50 then (Option.bind (eF_3_giveDigest s p1 x1 34 8) (fun q56 => Option.bind (eF_3_goOn q56.2 p1 q56.1) (fun q57 => j6 q57))) else (j8 ()))))) (fun j3 => eh_J (fun (u59 : Unit) => j3 0) (fun j58 => if (s.1 p1 9) = 0 then (j58 ()) else (if (x1 &&& 3) = 0 then (j3 1) else (j58 ()))))))
set_option maxHeartbeats 4000000 in
set_option maxRecDepth 100000 in
theorem eS_3_serve (g : eh_P) (s : eh_F) (p0 : Nat) (p1 : Nat) (hp0 : eh_okH p0 = true) (hp1 : eh_okF p1 = true) : eh_Sim g eM_3_serve (eh_R 6 0 0) eh_eV 0 0 0 (eh_en 6 [.ref 125, .ref p0, .ref p1]) [] (eh_FW s) (eF_3_serve s p0 p1) := by
  unfold eF_3_serve
  refine ef_top (L := [some (.ref 125), some (.ref p0), some (.ref p1), none, none, none]) rfl ?_
  refine es_blk (pc' := 1) (L' := [some (.ref 125), some (.ref p0), some (.ref p1), none, none, none]) (st' := [.ref p1]) [(.aload_n 2, 0)] (by decide +kernel) rfl rfl ?_
  refine ef_getP (k := p1) (j := 1) (q := (p1 + 1)) (eh_F0sh hp1) eL_3_31 rfl (eh_Fx hp1 _) (eh_F1sh hp1) (by decide +kernel) ?_
  refine es_blk (pc' := 6) (L' := [some (.ref 125), some (.ref p0), some (.ref p1), none, none, none]) (st' := [.int 10, .ref (p1 + 1)]) [(.bipush 10, 10)] (by decide +kernel) rfl rfl ?_
  refine ef_aldc (k := (p1 + 1)) (j := 10) (eh_F1sh hp1) (Or.inl ⟨rfl, rfl⟩) (by decide) rfl (by decide +kernel) ?_
  refine es_blk (pc' := 8) (L' := [some (.ref 125), some (.ref p0), some (.ref p1), some (.int (s.1 (p1 + 1) 10)), none, none]) (st' := []) [(.istore_n 3, 0)] (by decide +kernel) rfl rfl ?_
  refine ef_V (fun x1 => [some (.ref 125), some (.ref p0), some (.ref p1), some (.int x1), none, none]) (fun _ => []) (fun _ => eh_FW s) (fun x1 => ?_)
  refine es_blk (pc' := 9) (L' := [some (.ref 125), some (.ref p0), some (.ref p1), some (.int x1), none, none]) (st' := [.ref p1]) [(.aload_n 2, 0)] (by decide +kernel) rfl rfl ?_
  refine ef_getP (k := p1) (j := 1) (q := (p1 + 1)) (eh_F0sh hp1) eL_3_31 rfl (eh_Fx hp1 _) (eh_F1sh hp1) (by decide +kernel) ?_
  refine es_blk (pc' := 14) (L' := [some (.ref 125), some (.ref p0), some (.ref p1), some (.int x1), none, none]) (st' := [.int 11, .ref (p1 + 1)]) [(.bipush 11, 11)] (by decide +kernel) rfl rfl ?_
  refine ef_aldc (k := (p1 + 1)) (j := 11) (eh_F1sh hp1) (Or.inl ⟨rfl, rfl⟩) (by decide) rfl (by decide +kernel) ?_
  refine es_blk (pc' := 17) (L' := [some (.ref 125), some (.ref p0), some (.ref p1), some (.int x1), some (.int (s.1 (p1 + 1) 11)), none]) (st' := []) [(.istore 4, 0)] (by decide +kernel) rfl rfl ?_
  refine ef_V (fun x2 => [some (.ref 125), some (.ref p0), some (.ref p1), some (.int x1), some (.int x2), none]) (fun _ => []) (fun _ => eh_FW s) (fun x2 => ?_)
  refine es_blk (pc' := 18) (L' := [some (.ref 125), some (.ref p0), some (.ref p1), some (.int x1), some (.int x2), none]) (st' := [.ref p1]) [(.aload_n 2, 0)] (by decide +kernel) rfl rfl ?_
  refine ef_getI (k := p1) (j := 9) (eh_F0sh hp1) eL_3_36 (by decide) (by decide +kernel) ?_
  refine ef_J (X := fun j3 => ∀ (a4 : Int32), eh_Sim g eM_3_serve (eh_R 6 0 0) eh_eV 0 0 35 [some (.ref 125), some (.ref p0), some (.ref p1), some (.int x1), some (.int x2), none] [.int a4] (eh_FW s) ((j3 a4).bind some)) ?_ (fun j3 Hj3 => ?_)
  · intro a4
    refine es_blk (pc' := 38) (L' := [some (.ref 125), some (.ref p0), some (.ref p1), some (.int x1), some (.int x2), some (.int a4)]) (st' := [.ref p1]) [(.istore 5, 0), (.aload_n 2, 0)] (by decide +kernel) rfl rfl ?_
    refine ef_getP (k := p1) (j := 1) (q := (p1 + 1)) (eh_F0sh hp1) eL_3_31 rfl (eh_Fx hp1 _) (eh_F1sh hp1) (by decide +kernel) ?_
    refine es_blk (pc' := 43) (L' := [some (.ref 125), some (.ref p0), some (.ref p1), some (.int x1), some (.int x2), some (.int a4)]) (st' := [.int 17, .ref (p1 + 1)]) [(.bipush 17, 17)] (by decide +kernel) rfl rfl ?_
    refine ef_aldc (k := (p1 + 1)) (j := 17) (eh_F1sh hp1) (Or.inl ⟨rfl, rfl⟩) (by decide) rfl (by decide +kernel) ?_
    refine ef_V (fun _ => [some (.ref 125), some (.ref p0), some (.ref p1), some (.int x1), some (.int x2), some (.int a4)]) (fun x5 => [.int x5]) (fun _ => eh_FW s) (fun x5 => ?_)
    refine ef_J (X := fun j6 => ∀ (s7 : eh_F), eh_Sim g eM_3_serve (eh_R 6 0 0) eh_eV 0 0 383 [none, none, none, none, none, none] [] (eh_FW s7) ((j6 s7).bind some)) ?_ (fun j6 Hj6 => ?_)
    · intro s7
      exact es_ret rfl rfl rfl ⟨by decide +kernel, rfl⟩ (Nat.le_refl _) (Nat.le_refl _)
    refine ef_J (X := fun j8 => ∀ (u9 : Unit), eh_Sim g eM_3_serve (eh_R 6 0 0) eh_eV 0 0 366 [some (.ref 125), none, some (.ref p1), some (.int x1), none, none] [] (eh_FW s) ((j8 u9).bind some)) ?_ (fun j8 Hj8 => ?_)
    · intro u9
      refine es_blk (pc' := 370) (L' := [some (.ref 125), none, some (.ref p1), some (.int x1), none, none]) (st' := [.ref p1, .ref p1, .ref 125, .ref p1]) [(.aload_n 2, 0), (.aload_n 0, 0), (.aload_n 2, 0), (.aload_n 2, 0)] (by decide +kernel) rfl rfl ?_
      refine ef_getP (k := p1) (j := 1) (q := (p1 + 1)) (eh_F0sh hp1) eL_3_31 rfl (eh_Fx hp1 _) (eh_F1sh hp1) (by decide +kernel) ?_
      refine es_blk (pc' := 375) (L' := [some (.ref 125), none, some (.ref p1), some (.int x1), none, none]) (st' := [.int 17, .ref (p1 + 1), .ref p1, .ref 125, .ref p1]) [(.bipush 17, 17)] (by decide +kernel) rfl rfl ?_
      refine ef_aldc (k := (p1 + 1)) (j := 17) (eh_F1sh hp1) (Or.inl ⟨rfl, rfl⟩) (by decide) rfl (by decide +kernel) ?_
      refine es_blk (pc' := 377) (L' := [some (.ref 125), none, some (.ref p1), some (.int x1), none, none]) (st' := [.int x1, .int (s.1 (p1 + 1) 17), .ref p1, .ref 125, .ref p1]) [(.iload_n 3, 0)] (by decide +kernel) rfl rfl ?_
      refine ef_veI (d := 4) (k := 125) (As := [.ref p1, .int (s.1 (p1 + 1) 17), .int x1]) (st := [.ref p1]) eV_3_answerOfPath eK_3_105 (eS_3_answerOfPath g s p1 (s.1 (p1 + 1) 17) x1 hp1) rfl rfl (Nat.le_of_ble_eq_true rfl) rfl (Nat.le_of_ble_eq_true rfl) ⟨Nat.le_of_ble_eq_true rfl, Nat.le_of_ble_eq_true rfl⟩ ⟨Nat.le_refl _, Nat.le_refl _⟩ (by decide +kernel) (fun q10 _ => ?_)
      refine ef_seV (d := 1) (As := [.ref p1, .int q10.1]) (st := []) eV_3_goOn eK_3_48 (eS_3_goOn g q10.2 p1 q10.1 hp1) rfl (Nat.le_of_ble_eq_true rfl) rfl (Nat.le_of_ble_eq_true rfl) ⟨Nat.le_of_ble_eq_true rfl, Nat.le_of_ble_eq_true rfl⟩ ⟨Nat.le_refl _, Nat.le_refl _⟩ (by decide +kernel) (fun q11 _ => ?_)
      refine ef_drop (L2 := [none, none, none, none, none, none]) [false, true, false, false, true, true] rfl rfl ?_
      exact Hj6 _
    have hs12 : decode eM_3_serve.2.1 44 = .ok (.tableswitch (322) (32) (50) #[(92), (104), (137), (152), (167), (182), (195), (208), (236), (251), (264), (276), (116), (322), (322), (322), (322), (289), (302)], 92) := by decide +kernel
    refine es_ifc (fun h13 => ?_) (fun h13 => ?_)
    · refine es_tsw (off := (92)) (tgt := 136) hs12 32 h13 (by decide) ?_
      refine es_blk (pc' := 142) (L' := [some (.ref 125), some (.ref p0), some (.ref p1), some (.int x1), some (.int x2), some (.int a4)]) (st' := [.int 0, .int 1, .int 1, .ref p1, .ref p0, .ref 125]) [(.aload_n 0, 0), (.aload_n 1, 0), (.aload_n 2, 0), (.iconst 1, 1), (.iconst 1, 1), (.iconst 0, 0)] (by decide +kernel) rfl rfl ?_
      refine ef_veV (d := 3) (k := 125) (As := [.ref p0, .ref p1, .int 1, .int 1, .int 0]) (st := []) eV_3_leave eK_3_40 (eS_3_leave g s p0 p1 1 1 0 hp0 hp1) rfl rfl (Nat.le_of_ble_eq_true rfl) rfl (Nat.le_of_ble_eq_true rfl) ⟨Nat.le_of_ble_eq_true rfl, Nat.le_of_ble_eq_true rfl⟩ ⟨Nat.le_refl _, Nat.le_refl _⟩ (by decide +kernel) (fun q14 _ => ?_)
      refine es_goto (tgt := 383) (off := (238)) (by decide +kernel) (by decide) ?_
      refine ef_drop (L2 := [none, none, none, none, none, none]) [false, false, false, false, false, false] rfl rfl ?_
      exact Hj6 _
    refine es_ifc (fun h15 => ?_) (fun h15 => ?_)
    · refine es_tsw (off := (104)) (tgt := 148) hs12 33 h15 (by decide) ?_
      refine es_blk (pc' := 154) (L' := [some (.ref 125), some (.ref p0), some (.ref p1), some (.int x1), some (.int x2), some (.int a4)]) (st' := [.int 1, .int 4, .int 2, .ref p1, .ref p0, .ref 125]) [(.aload_n 0, 0), (.aload_n 1, 0), (.aload_n 2, 0), (.iconst 2, 2), (.iconst 4, 4), (.iconst 1, 1)] (by decide +kernel) rfl rfl ?_
      refine ef_veV (d := 3) (k := 125) (As := [.ref p0, .ref p1, .int 2, .int 4, .int 1]) (st := []) eV_3_leave eK_3_40 (eS_3_leave g s p0 p1 2 4 1 hp0 hp1) rfl rfl (Nat.le_of_ble_eq_true rfl) rfl (Nat.le_of_ble_eq_true rfl) ⟨Nat.le_of_ble_eq_true rfl, Nat.le_of_ble_eq_true rfl⟩ ⟨Nat.le_refl _, Nat.le_refl _⟩ (by decide +kernel) (fun q16 _ => ?_)
      refine es_goto (tgt := 383) (off := (226)) (by decide +kernel) (by decide) ?_
      refine ef_drop (L2 := [none, none, none, none, none, none]) [false, false, false, false, false, false] rfl rfl ?_
      exact Hj6 _
    refine es_ifc (fun h17 => ?_) (fun h17 => ?_)
    · refine es_tsw (off := (137)) (tgt := 181) hs12 34 h17 (by decide) ?_
      refine es_blk (pc' := 187) (L' := [some (.ref 125), some (.ref p0), some (.ref p1), some (.int x1), some (.int x2), some (.int a4)]) (st' := [.int x2, .int x1, .ref p1, .ref 125, .ref p1]) [(.aload_n 2, 0), (.aload_n 0, 0), (.aload_n 2, 0), (.iload_n 3, 0), (.iload 4, 0)] (by decide +kernel) rfl rfl ?_
      refine ef_veI (d := 5) (k := 125) (As := [.ref p1, .int x1, .int x2]) (st := [.ref p1]) eV_3_attest eK_3_52 (eS_3_attest g s p1 x1 x2 hp1) rfl rfl (Nat.le_of_ble_eq_true rfl) rfl (Nat.le_of_ble_eq_true rfl) ⟨Nat.le_of_ble_eq_true rfl, Nat.le_of_ble_eq_true rfl⟩ ⟨Nat.le_refl _, Nat.le_refl _⟩ (by decide +kernel) (fun q18 _ => ?_)
      refine ef_seV (d := 1) (As := [.ref p1, .int q18.1]) (st := []) eV_3_goOn eK_3_48 (eS_3_goOn g q18.2 p1 q18.1 hp1) rfl (Nat.le_of_ble_eq_true rfl) rfl (Nat.le_of_ble_eq_true rfl) ⟨Nat.le_of_ble_eq_true rfl, Nat.le_of_ble_eq_true rfl⟩ ⟨Nat.le_refl _, Nat.le_refl _⟩ (by decide +kernel) (fun q19 _ => ?_)
      refine es_goto (tgt := 383) (off := (190)) (by decide +kernel) (by decide) ?_
      refine ef_drop (L2 := [none, none, none, none, none, none]) [false, false, false, false, false, false] rfl rfl ?_
      exact Hj6 _
    refine es_ifc (fun h20 => ?_) (fun h20 => ?_)
    · refine es_tsw (off := (152)) (tgt := 196) hs12 35 h20 (by decide) ?_
      refine es_blk (pc' := 202) (L' := [some (.ref 125), some (.ref p0), some (.ref p1), some (.int x1), some (.int x2), some (.int a4)]) (st' := [.int x2, .int x1, .ref p1, .ref 125, .ref p1]) [(.aload_n 2, 0), (.aload_n 0, 0), (.aload_n 2, 0), (.iload_n 3, 0), (.iload 4, 0)] (by decide +kernel) rfl rfl ?_
      refine ef_veI (d := 5) (k := 125) (As := [.ref p1, .int x1, .int x2]) (st := [.ref p1]) eV_3_giveKey eK_3_56 (eS_3_giveKey g s p1 x1 x2 hp1) rfl rfl (Nat.le_of_ble_eq_true rfl) rfl (Nat.le_of_ble_eq_true rfl) ⟨Nat.le_of_ble_eq_true rfl, Nat.le_of_ble_eq_true rfl⟩ ⟨Nat.le_refl _, Nat.le_refl _⟩ (by decide +kernel) (fun q21 _ => ?_)
      refine ef_seV (d := 1) (As := [.ref p1, .int q21.1]) (st := []) eV_3_goOn eK_3_48 (eS_3_goOn g q21.2 p1 q21.1 hp1) rfl (Nat.le_of_ble_eq_true rfl) rfl (Nat.le_of_ble_eq_true rfl) ⟨Nat.le_of_ble_eq_true rfl, Nat.le_of_ble_eq_true rfl⟩ ⟨Nat.le_refl _, Nat.le_refl _⟩ (by decide +kernel) (fun q22 _ => ?_)
      refine es_goto (tgt := 383) (off := (175)) (by decide +kernel) (by decide) ?_
      refine ef_drop (L2 := [none, none, none, none, none, none]) [false, false, false, false, false, false] rfl rfl ?_
      exact Hj6 _
    refine es_ifc (fun h23 => ?_) (fun h23 => ?_)
    · refine es_tsw (off := (167)) (tgt := 211) hs12 36 h23 (by decide) ?_
      refine es_blk (pc' := 217) (L' := [some (.ref 125), some (.ref p0), some (.ref p1), some (.int x1), some (.int x2), some (.int a4)]) (st' := [.int x2, .int x1, .ref p1, .ref 125, .ref p1]) [(.aload_n 2, 0), (.aload_n 0, 0), (.aload_n 2, 0), (.iload_n 3, 0), (.iload 4, 0)] (by decide +kernel) rfl rfl ?_
      refine ef_veI (d := 5) (k := 125) (As := [.ref p1, .int x1, .int x2]) (st := [.ref p1]) eV_3_giveRandom eK_3_59 (eS_3_giveRandom g s p1 x1 x2 hp1) rfl rfl (Nat.le_of_ble_eq_true rfl) rfl (Nat.le_of_ble_eq_true rfl) ⟨Nat.le_of_ble_eq_true rfl, Nat.le_of_ble_eq_true rfl⟩ ⟨Nat.le_refl _, Nat.le_refl _⟩ (by decide +kernel) (fun q24 _ => ?_)
      refine ef_seV (d := 1) (As := [.ref p1, .int q24.1]) (st := []) eV_3_goOn eK_3_48 (eS_3_goOn g q24.2 p1 q24.1 hp1) rfl (Nat.le_of_ble_eq_true rfl) rfl (Nat.le_of_ble_eq_true rfl) ⟨Nat.le_of_ble_eq_true rfl, Nat.le_of_ble_eq_true rfl⟩ ⟨Nat.le_refl _, Nat.le_refl _⟩ (by decide +kernel) (fun q25 _ => ?_)
      refine es_goto (tgt := 383) (off := (160)) (by decide +kernel) (by decide) ?_
      refine ef_drop (L2 := [none, none, none, none, none, none]) [false, false, false, false, false, false] rfl rfl ?_
      exact Hj6 _
    refine es_ifc (fun h26 => ?_) (fun h26 => ?_)
    · refine es_tsw (off := (182)) (tgt := 226) hs12 37 h26 (by decide) ?_
      refine es_blk (pc' := 230) (L' := [some (.ref 125), some (.ref p0), some (.ref p1), some (.int x1), some (.int x2), some (.int a4)]) (st' := [.int x1, .ref p1, .ref 125, .ref p1]) [(.aload_n 2, 0), (.aload_n 0, 0), (.aload_n 2, 0), (.iload_n 3, 0)] (by decide +kernel) rfl rfl ?_
      refine ef_veI (d := 5) (k := 125) (As := [.ref p1, .int x1]) (st := [.ref p1]) eV_3_verify eK_3_62 (eS_3_verify g s p1 x1 hp1) rfl rfl (Nat.le_of_ble_eq_true rfl) rfl (Nat.le_of_ble_eq_true rfl) ⟨Nat.le_of_ble_eq_true rfl, Nat.le_of_ble_eq_true rfl⟩ ⟨Nat.le_refl _, Nat.le_refl _⟩ (by decide +kernel) (fun q27 _ => ?_)
      refine ef_seV (d := 1) (As := [.ref p1, .int q27.1]) (st := []) eV_3_goOn eK_3_48 (eS_3_goOn g q27.2 p1 q27.1 hp1) rfl (Nat.le_of_ble_eq_true rfl) rfl (Nat.le_of_ble_eq_true rfl) ⟨Nat.le_of_ble_eq_true rfl, Nat.le_of_ble_eq_true rfl⟩ ⟨Nat.le_refl _, Nat.le_refl _⟩ (by decide +kernel) (fun q28 _ => ?_)
      refine es_goto (tgt := 383) (off := (147)) (by decide +kernel) (by decide) ?_
      refine ef_drop (L2 := [none, none, none, none, none, none]) [false, false, false, false, false, false] rfl rfl ?_
      exact Hj6 _
    refine es_ifc (fun h29 => ?_) (fun h29 => ?_)
    · refine es_tsw (off := (195)) (tgt := 239) hs12 38 h29 (by decide) ?_
      refine es_blk (pc' := 243) (L' := [some (.ref 125), some (.ref p0), some (.ref p1), some (.int x1), some (.int x2), some (.int a4)]) (st' := [.int x1, .ref p1, .ref 125, .ref p1]) [(.aload_n 2, 0), (.aload_n 0, 0), (.aload_n 2, 0), (.iload_n 3, 0)] (by decide +kernel) rfl rfl ?_
      refine ef_veI (d := 2) (k := 125) (As := [.ref p1, .int x1]) (st := [.ref p1]) eV_3_accept eK_3_66 (eS_3_accept g s p1 x1 hp1) rfl rfl (Nat.le_of_ble_eq_true rfl) rfl (Nat.le_of_ble_eq_true rfl) ⟨Nat.le_of_ble_eq_true rfl, Nat.le_of_ble_eq_true rfl⟩ ⟨Nat.le_refl _, Nat.le_refl _⟩ (by decide +kernel) (fun q30 _ => ?_)
      refine ef_seV (d := 1) (As := [.ref p1, .int q30.1]) (st := []) eV_3_goOn eK_3_48 (eS_3_goOn g q30.2 p1 q30.1 hp1) rfl (Nat.le_of_ble_eq_true rfl) rfl (Nat.le_of_ble_eq_true rfl) ⟨Nat.le_of_ble_eq_true rfl, Nat.le_of_ble_eq_true rfl⟩ ⟨Nat.le_refl _, Nat.le_refl _⟩ (by decide +kernel) (fun q31 _ => ?_)
      refine es_goto (tgt := 383) (off := (134)) (by decide +kernel) (by decide) ?_
      refine ef_drop (L2 := [none, none, none, none, none, none]) [false, false, false, false, false, false] rfl rfl ?_
      exact Hj6 _
    refine es_ifc (fun h32 => ?_) (fun h32 => ?_)
    · refine es_tsw (off := (208)) (tgt := 252) hs12 39 h32 (by decide) ?_
      refine es_blk (pc' := 257) (L' := [some (.ref 125), some (.ref p0), some (.ref p1), some (.int x1), some (.int x2), some (.int a4)]) (st' := [.ref 125, .int x1, .ref p1, .ref 125, .ref p1]) [(.aload_n 2, 0), (.aload_n 0, 0), (.aload_n 2, 0), (.iload_n 3, 0), (.aload_n 0, 0)] (by decide +kernel) rfl rfl ?_
      refine ef_getP (k := 125) (j := 0) (q := 1) rfl eL_3_15 rfl rfl rfl (by decide +kernel) ?_
      refine ef_getP (k := 1) (j := 4) (q := 28) rfl eL_3_69 rfl rfl rfl (by decide +kernel) ?_
      refine es_blk (pc' := 264) (L' := [some (.ref 125), some (.ref p0), some (.ref p1), some (.int x1), some (.int x2), some (.int a4)]) (st' := [.ref p1, .ref 28, .int x1, .ref p1, .ref 125, .ref p1]) [(.aload_n 2, 0)] (by decide +kernel) rfl rfl ?_
      refine ef_getI (k := p1) (j := 3) (eh_F0sh hp1) eL_3_73 (by decide) (by decide +kernel) ?_
      refine ef_encs (by decide +kernel) (fun h33 => ?_)
      refine ef_getP (k := (eh_ep (s.1 p1 3))) (j := 1) (q := ((eh_ep (s.1 p1 3)) + 5)) (eh_E0sh h33) eL_3_77 rfl (eh_Ex h33 _).2.1 (eh_E5sh h33) (by decide +kernel) ?_
      refine ef_veI (d := 5) (k := 125) (As := [.ref p1, .int x1, .ref ((eh_ep (s.1 p1 3)) + 5)]) (st := [.ref p1]) eV_3_giveDigest eK_3_82 (eS_3_giveDigest g s p1 x1 ((eh_ep (s.1 p1 3)) + 5) 8 hp1 (eh_E5sh h33)) rfl rfl (Nat.le_of_ble_eq_true rfl) rfl (Nat.le_of_ble_eq_true rfl) ⟨Nat.le_of_ble_eq_true rfl, Nat.le_of_ble_eq_true rfl⟩ ⟨Nat.le_refl _, Nat.le_refl _⟩ (by decide +kernel) (fun q34 _ => ?_)
      refine ef_seV (d := 1) (As := [.ref p1, .int q34.1]) (st := []) eV_3_goOn eK_3_48 (eS_3_goOn g q34.2 p1 q34.1 hp1) rfl (Nat.le_of_ble_eq_true rfl) rfl (Nat.le_of_ble_eq_true rfl) ⟨Nat.le_of_ble_eq_true rfl, Nat.le_of_ble_eq_true rfl⟩ ⟨Nat.le_refl _, Nat.le_refl _⟩ (by decide +kernel) (fun q35 _ => ?_)
      refine es_goto (tgt := 383) (off := (106)) (by decide +kernel) (by decide) ?_
      refine ef_drop (L2 := [none, none, none, none, none, none]) [false, false, false, false, false, false] rfl rfl ?_
      exact Hj6 _
    refine es_ifc (fun h36 => ?_) (fun h36 => ?_)
    · refine es_tsw (off := (236)) (tgt := 280) hs12 40 h36 (by decide) ?_
      refine es_blk (pc' := 286) (L' := [some (.ref 125), some (.ref p0), some (.ref p1), some (.int x1), some (.int x2), some (.int a4)]) (st' := [.int x2, .int x1, .ref p1, .ref 125, .ref p1]) [(.aload_n 2, 0), (.aload_n 0, 0), (.aload_n 2, 0), (.iload_n 3, 0), (.iload 4, 0)] (by decide +kernel) rfl rfl ?_
      refine ef_veI (d := 5) (k := 125) (As := [.ref p1, .int x1, .int x2]) (st := [.ref p1]) eV_3_send eK_3_86 (eS_3_send g s p1 x1 x2 hp1) rfl rfl (Nat.le_of_ble_eq_true rfl) rfl (Nat.le_of_ble_eq_true rfl) ⟨Nat.le_of_ble_eq_true rfl, Nat.le_of_ble_eq_true rfl⟩ ⟨Nat.le_refl _, Nat.le_refl _⟩ (by decide +kernel) (fun q37 _ => ?_)
      refine ef_seV (d := 1) (As := [.ref p1, .int q37.1]) (st := []) eV_3_goOn eK_3_48 (eS_3_goOn g q37.2 p1 q37.1 hp1) rfl (Nat.le_of_ble_eq_true rfl) rfl (Nat.le_of_ble_eq_true rfl) ⟨Nat.le_of_ble_eq_true rfl, Nat.le_of_ble_eq_true rfl⟩ ⟨Nat.le_refl _, Nat.le_refl _⟩ (by decide +kernel) (fun q38 _ => ?_)
      refine es_goto (tgt := 383) (off := (91)) (by decide +kernel) (by decide) ?_
      refine ef_drop (L2 := [none, none, none, none, none, none]) [false, false, false, false, false, false] rfl rfl ?_
      exact Hj6 _
    refine es_ifc (fun h39 => ?_) (fun h39 => ?_)
    · refine es_tsw (off := (251)) (tgt := 295) hs12 41 h39 (by decide) ?_
      refine es_blk (pc' := 299) (L' := [some (.ref 125), some (.ref p0), some (.ref p1), some (.int x1), some (.int x2), some (.int a4)]) (st' := [.int x1, .ref p1, .ref 125, .ref p1]) [(.aload_n 2, 0), (.aload_n 0, 0), (.aload_n 2, 0), (.iload_n 3, 0)] (by decide +kernel) rfl rfl ?_
      refine ef_veI (d := 5) (k := 125) (As := [.ref p1, .int x1]) (st := [.ref p1]) eV_3_receive eK_3_89 (eS_3_receive g s p1 x1 hp1) rfl rfl (Nat.le_of_ble_eq_true rfl) rfl (Nat.le_of_ble_eq_true rfl) ⟨Nat.le_of_ble_eq_true rfl, Nat.le_of_ble_eq_true rfl⟩ ⟨Nat.le_refl _, Nat.le_refl _⟩ (by decide +kernel) (fun q40 _ => ?_)
      refine ef_seV (d := 1) (As := [.ref p1, .int q40.1]) (st := []) eV_3_goOn eK_3_48 (eS_3_goOn g q40.2 p1 q40.1 hp1) rfl (Nat.le_of_ble_eq_true rfl) rfl (Nat.le_of_ble_eq_true rfl) ⟨Nat.le_of_ble_eq_true rfl, Nat.le_of_ble_eq_true rfl⟩ ⟨Nat.le_refl _, Nat.le_refl _⟩ (by decide +kernel) (fun q41 _ => ?_)
      refine es_goto (tgt := 383) (off := (78)) (by decide +kernel) (by decide) ?_
      refine ef_drop (L2 := [none, none, none, none, none, none]) [false, false, false, false, false, false] rfl rfl ?_
      exact Hj6 _
    refine es_ifc (fun h42 => ?_) (fun h42 => ?_)
    · refine es_tsw (off := (264)) (tgt := 308) hs12 42 h42 (by decide) ?_
      refine es_blk (pc' := 311) (L' := [some (.ref 125), some (.ref p0), some (.ref p1), some (.int x1), some (.int x2), some (.int a4)]) (st' := [.ref p1, .ref 125, .ref p1]) [(.aload_n 2, 0), (.aload_n 0, 0), (.aload_n 2, 0)] (by decide +kernel) rfl rfl ?_
      refine ef_veI (d := 3) (k := 125) (As := [.ref p1]) (st := [.ref p1]) eV_3_countOne eK_3_92 (eS_3_countOne g s p1 hp1) rfl rfl (Nat.le_of_ble_eq_true rfl) rfl (Nat.le_of_ble_eq_true rfl) ⟨Nat.le_of_ble_eq_true rfl, Nat.le_of_ble_eq_true rfl⟩ ⟨Nat.le_refl _, Nat.le_refl _⟩ (by decide +kernel) (fun q43 _ => ?_)
      refine ef_seV (d := 1) (As := [.ref p1, .int q43.1]) (st := []) eV_3_goOn eK_3_48 (eS_3_goOn g q43.2 p1 q43.1 hp1) rfl (Nat.le_of_ble_eq_true rfl) rfl (Nat.le_of_ble_eq_true rfl) ⟨Nat.le_of_ble_eq_true rfl, Nat.le_of_ble_eq_true rfl⟩ ⟨Nat.le_refl _, Nat.le_refl _⟩ (by decide +kernel) (fun q44 _ => ?_)
      refine es_goto (tgt := 383) (off := (66)) (by decide +kernel) (by decide) ?_
      refine ef_drop (L2 := [none, none, none, none, none, none]) [false, false, false, false, false, false] rfl rfl ?_
      exact Hj6 _
    refine es_ifc (fun h45 => ?_) (fun h45 => ?_)
    · refine es_tsw (off := (276)) (tgt := 320) hs12 43 h45 (by decide) ?_
      refine es_blk (pc' := 324) (L' := [some (.ref 125), some (.ref p0), some (.ref p1), some (.int x1), some (.int x2), some (.int a4)]) (st' := [.int x1, .ref p1, .ref 125, .ref p1]) [(.aload_n 2, 0), (.aload_n 0, 0), (.aload_n 2, 0), (.iload_n 3, 0)] (by decide +kernel) rfl rfl ?_
      refine ef_veI (d := 1) (k := 125) (As := [.ref p1, .int x1]) (st := [.ref p1]) eV_3_setHandler eK_3_96 (eS_3_setHandler g s p1 x1 hp1) rfl rfl (Nat.le_of_ble_eq_true rfl) rfl (Nat.le_of_ble_eq_true rfl) ⟨Nat.le_of_ble_eq_true rfl, Nat.le_of_ble_eq_true rfl⟩ ⟨Nat.le_refl _, Nat.le_refl _⟩ (by decide +kernel) (fun q46 _ => ?_)
      refine ef_seV (d := 1) (As := [.ref p1, .int q46.1]) (st := []) eV_3_goOn eK_3_48 (eS_3_goOn g q46.2 p1 q46.1 hp1) rfl (Nat.le_of_ble_eq_true rfl) rfl (Nat.le_of_ble_eq_true rfl) ⟨Nat.le_of_ble_eq_true rfl, Nat.le_of_ble_eq_true rfl⟩ ⟨Nat.le_refl _, Nat.le_refl _⟩ (by decide +kernel) (fun q47 _ => ?_)
      refine es_goto (tgt := 383) (off := (53)) (by decide +kernel) (by decide) ?_
      refine ef_drop (L2 := [none, none, none, none, none, none]) [false, false, false, false, false, false] rfl rfl ?_
      exact Hj6 _
    refine es_ifc (fun h48 => ?_) (fun h48 => ?_)
    · refine es_tsw (off := (116)) (tgt := 160) hs12 44 h48 (by decide) ?_
      refine es_blk (pc' := 162) (L' := [some (.ref 125), some (.ref p0), some (.ref p1), some (.int x1), some (.int x2), some (.int a4)]) (st' := [.int a4]) [(.iload 5, 0)] (by decide +kernel) rfl rfl ?_
      refine es_eq (tgt := 173) (off := (11)) (by decide +kernel) (by decide) (fun h49 => ?_) (fun h49 => ?_)
      · refine es_blk (pc' := 175) (L' := [some (.ref 125), some (.ref p0), some (.ref p1), some (.int x1), some (.int x2), some (.int a4)]) (st' := [.int (-1), .ref p1]) [(.aload_n 2, 0), (.iconst (-1), (-1))] (by decide +kernel) rfl rfl ?_
        refine ef_seV (d := 1) (As := [.ref p1, .int (-1)]) (st := []) eV_3_goOn eK_3_48 (eS_3_goOn g s p1 (-1) hp1) rfl (Nat.le_of_ble_eq_true rfl) rfl (Nat.le_of_ble_eq_true rfl) ⟨Nat.le_of_ble_eq_true rfl, Nat.le_of_ble_eq_true rfl⟩ ⟨Nat.le_refl _, Nat.le_refl _⟩ (by decide +kernel) (fun q50 _ => ?_)
        refine es_goto (tgt := 383) (off := (205)) (by decide +kernel) (by decide) ?_
        refine ef_drop (L2 := [none, none, none, none, none, none]) [false, false, false, false, false, false] rfl rfl ?_
        exact Hj6 _
      refine es_blk (pc' := 167) (L' := [some (.ref 125), some (.ref p0), some (.ref p1), some (.int x1), some (.int x2), some (.int a4)]) (st' := [.int x1, .ref p1]) [(.aload_n 2, 0), (.iload_n 3, 0)] (by decide +kernel) rfl rfl ?_
      refine ef_veV (d := 1) (k := p1) (As := [.int x1]) (st := []) eV_2_goBack eK_3_44 (eS_2_goBack g s p1 x1 hp1) (eh_F0sh hp1) rfl (Nat.le_of_ble_eq_true rfl) rfl (Nat.le_of_ble_eq_true rfl) ⟨Nat.le_of_ble_eq_true rfl, Nat.le_of_ble_eq_true rfl⟩ ⟨Nat.le_refl _, Nat.le_refl _⟩ (by decide +kernel) (fun q51 _ => ?_)
      refine es_goto (tgt := 383) (off := (213)) (by decide +kernel) (by decide) ?_
      refine ef_drop (L2 := [none, none, none, none, none, none]) [false, false, false, false, false, false] rfl rfl ?_
      exact Hj6 _
    refine es_ifc (fun h52 => ?_) (fun h52 => ?_)
    · refine es_tsw (off := (289)) (tgt := 333) hs12 49 h52 (by decide) ?_
      refine es_blk (pc' := 337) (L' := [some (.ref 125), some (.ref p0), some (.ref p1), some (.int x1), some (.int x2), some (.int a4)]) (st' := [.int x1, .ref p1, .ref 125, .ref p1]) [(.aload_n 2, 0), (.aload_n 0, 0), (.aload_n 2, 0), (.iload_n 3, 0)] (by decide +kernel) rfl rfl ?_
      refine ef_veI (d := 5) (k := 125) (As := [.ref p1, .int x1]) (st := [.ref p1]) eV_3_extend eK_3_99 (eS_3_extend g s p1 x1 hp1) rfl rfl (Nat.le_of_ble_eq_true rfl) rfl (Nat.le_of_ble_eq_true rfl) ⟨Nat.le_of_ble_eq_true rfl, Nat.le_of_ble_eq_true rfl⟩ ⟨Nat.le_refl _, Nat.le_refl _⟩ (by decide +kernel) (fun q53 _ => ?_)
      refine ef_seV (d := 1) (As := [.ref p1, .int q53.1]) (st := []) eV_3_goOn eK_3_48 (eS_3_goOn g q53.2 p1 q53.1 hp1) rfl (Nat.le_of_ble_eq_true rfl) rfl (Nat.le_of_ble_eq_true rfl) ⟨Nat.le_of_ble_eq_true rfl, Nat.le_of_ble_eq_true rfl⟩ ⟨Nat.le_refl _, Nat.le_refl _⟩ (by decide +kernel) (fun q54 _ => ?_)
      refine es_goto (tgt := 383) (off := (40)) (by decide +kernel) (by decide) ?_
      refine ef_drop (L2 := [none, none, none, none, none, none]) [false, false, false, false, false, false] rfl rfl ?_
      exact Hj6 _
    refine es_ifc (fun h55 => ?_) (fun h55 => ?_)
    · refine es_tsw (off := (302)) (tgt := 346) hs12 50 h55 (by decide) ?_
      refine es_blk (pc' := 351) (L' := [some (.ref 125), some (.ref p0), some (.ref p1), some (.int x1), some (.int x2), some (.int a4)]) (st' := [.ref 125, .int x1, .ref p1, .ref 125, .ref p1]) [(.aload_n 2, 0), (.aload_n 0, 0), (.aload_n 2, 0), (.iload_n 3, 0), (.aload_n 0, 0)] (by decide +kernel) rfl rfl ?_
      refine ef_getP (k := 125) (j := 0) (q := 1) rfl eL_3_15 rfl rfl rfl (by decide +kernel) ?_
      refine ef_getP (k := 1) (j := 7) (q := 34) rfl eL_3_102 rfl rfl rfl (by decide +kernel) ?_
      refine ef_veI (d := 5) (k := 125) (As := [.ref p1, .int x1, .ref 34]) (st := [.ref p1]) eV_3_giveDigest eK_3_82 (eS_3_giveDigest g s p1 x1 34 8 hp1 rfl) rfl rfl (Nat.le_of_ble_eq_true rfl) rfl (Nat.le_of_ble_eq_true rfl) ⟨Nat.le_of_ble_eq_true rfl, Nat.le_of_ble_eq_true rfl⟩ ⟨Nat.le_refl _, Nat.le_refl _⟩ (by decide +kernel) (fun q56 _ => ?_)
      refine ef_seV (d := 1) (As := [.ref p1, .int q56.1]) (st := []) eV_3_goOn eK_3_48 (eS_3_goOn g q56.2 p1 q56.1 hp1) rfl (Nat.le_of_ble_eq_true rfl) rfl (Nat.le_of_ble_eq_true rfl) ⟨Nat.le_of_ble_eq_true rfl, Nat.le_of_ble_eq_true rfl⟩ ⟨Nat.le_refl _, Nat.le_refl _⟩ (by decide +kernel) (fun q57 _ => ?_)
      refine es_goto (tgt := 383) (off := (20)) (by decide +kernel) (by decide) ?_
      refine ef_drop (L2 := [none, none, none, none, none, none]) [false, false, false, false, false, false] rfl rfl ?_
      exact Hj6 _
    refine es_tswD (tgt := 366) hs12 [32, 33, 34, 35, 36, 37, 38, 39, 40, 41, 42, 43, 44, 49, 50] (List.forall_mem_cons.mpr ⟨eh_nei 32 32 (by decide) h13, (List.forall_mem_cons.mpr ⟨eh_nei 33 33 (by decide) h15, (List.forall_mem_cons.mpr ⟨eh_nei 34 34 (by decide) h17, (List.forall_mem_cons.mpr ⟨eh_nei 35 35 (by decide) h20, (List.forall_mem_cons.mpr ⟨eh_nei 36 36 (by decide) h23, (List.forall_mem_cons.mpr ⟨eh_nei 37 37 (by decide) h26, (List.forall_mem_cons.mpr ⟨eh_nei 38 38 (by decide) h29, (List.forall_mem_cons.mpr ⟨eh_nei 39 39 (by decide) h32, (List.forall_mem_cons.mpr ⟨eh_nei 40 40 (by decide) h36, (List.forall_mem_cons.mpr ⟨eh_nei 41 41 (by decide) h39, (List.forall_mem_cons.mpr ⟨eh_nei 42 42 (by decide) h42, (List.forall_mem_cons.mpr ⟨eh_nei 43 43 (by decide) h45, (List.forall_mem_cons.mpr ⟨eh_nei 44 44 (by decide) h48, (List.forall_mem_cons.mpr ⟨eh_nei 49 49 (by decide) h52, (List.forall_mem_cons.mpr ⟨eh_nei 50 50 (by decide) h55, (List.forall_mem_nil _)⟩)⟩)⟩)⟩)⟩)⟩)⟩)⟩)⟩)⟩)⟩)⟩)⟩)⟩)⟩) (by decide) (by decide) (by decide) ?_
    refine ef_drop (L2 := [some (.ref 125), none, some (.ref p1), some (.int x1), none, none]) [true, false, true, true, false, false] rfl rfl ?_
    exact Hj8 ()
  refine ef_J (X := fun j58 => ∀ (u59 : Unit), eh_Sim g eM_3_serve (eh_R 6 0 0) eh_eV 0 0 34 [some (.ref 125), some (.ref p0), some (.ref p1), some (.int x1), some (.int x2), none] [] (eh_FW s) ((j58 u59).bind some)) ?_ (fun j58 Hj58 => ?_)
  · intro u59
    refine es_blk (pc' := 35) (L' := [some (.ref 125), some (.ref p0), some (.ref p1), some (.int x1), some (.int x2), none]) (st' := [.int 0]) [(.iconst 0, 0)] (by decide +kernel) rfl rfl ?_
    exact Hj3 _
  refine es_eq (tgt := 34) (off := (13)) (by decide +kernel) (by decide) (fun h60 => ?_) (fun h60 => ?_)
  · exact Hj58 ()
  refine es_blk (pc' := 27) (L' := [some (.ref 125), some (.ref p0), some (.ref p1), some (.int x1), some (.int x2), none]) (st' := [.int (x1 &&& 3)]) [(.iload_n 3, 0), (.iconst 3, 3), (.iand, 0)] (by decide +kernel) rfl rfl ?_
  refine es_ne (tgt := 34) (off := (7)) (by decide +kernel) (by decide) (fun h61 => ?_) (fun h61 => ?_)
  · refine es_blk (pc' := 31) (L' := [some (.ref 125), some (.ref p0), some (.ref p1), some (.int x1), some (.int x2), none]) (st' := [.int 1]) [(.iconst 1, 1)] (by decide +kernel) rfl rfl ?_
    refine es_goto (tgt := 35) (off := (4)) (by decide +kernel) (by decide) ?_
    exact Hj3 _
  exact Hj58 ()
def eF_7_doOne (s : eh_F)  : Option (eh_F) := eh_J (fun (s2 : eh_F) => Option.bind (eF_7_locate s2 (s2.1 124 8) 1 4) (fun q3 => if q3.1 < 0 then (some q3.2) else (Option.bind (eF_6_wordAt q3.2 q3.1) (fun q5 => eh_V ((q5 &&& 127) : Int32) (fun x6 => eh_J (fun (s8 : eh_F) => some s8) (fun j7 => if x6 = 3 then (Option.bind (eF_7_load q3.2 q5) (fun q11 => j7 q11)) else if x6 = 15 then (Option.bind (eF_7_fence q3.2 q5) (fun q13 => j7 q13)) else if x6 = 19 then (Option.bind (eF_7_reckonWithNumber q3.2 q5) (fun q15 => j7 q15)) else if x6 = 23 then (Option.bind (eF_7_put q3.2 q5 ((q3.2.1 124 8) + (q5 &&& (-4096)))) (fun q17 => j7 q17)) else if x6 = 35 then (Option.bind (eF_7_store q3.2 q5) (fun q19 => j7 q19)) else if x6 = 47 then (Option.bind (eF_7_reckonInMemory q3.2 q5) (fun q21 => j7 q21)) else if x6 = 51 then (Option.bind (eF_7_reckonWithRegister q3.2 q5) (fun q23 => j7 q23)) else if x6 = 55 then (Option.bind (eF_7_put q3.2 q5 (q5 &&& (-4096))) (fun q25 => j7 q25)) else if x6 = 99 then (Option.bind (eF_7_branch q3.2 q5) (fun q27 => j7 q27)) else if x6 = 103 then (Option.bind (eF_7_jumpToRegister q3.2 q5) (fun q29 => j7 q29)) else if x6 = 111 then (Option.bind (eF_7_offsetJ q3.2 q5) (fun q31 => Option.bind (eF_7_jump q3.2 q5 ((q3.2.1 124 8) + q31)) (fun q32 => j7 q32))) else if x6 = 115 then (Option.bind (eF_7_special q3.2 q5) (fun q34 => j7 q34)) else (Option.bind (eF_7_fail q3.2 2 q5) (fun q35 => j7 q35)))))))) (fun j1 => if (s.1 124 6) = 0 then (j1 s) else (if eh_okH (s.2.2 4) then eh_V (eh_tI s (s.2.2 4) 8 ((s.1 (s.2.2 4) 8) + 1)) (fun s38 => j1 s38) else none))
set_option maxHeartbeats 4000000 in
set_option maxRecDepth 100000 in
theorem eS_7_doOne (g : eh_P) (s : eh_F)  : eh_Sim g eM_7_doOne (eh_R 6 0 0) eh_eV 0 0 0 (eh_en 3 [.ref 124]) [] (eh_FW s) (eF_7_doOne s) := by
  unfold eF_7_doOne
  refine ef_top (L := [some (.ref 124), none, none]) rfl ?_
  refine es_blk (pc' := 1) (L' := [some (.ref 124), none, none]) (st' := [.ref 124]) [(.aload_n 0, 0)] (by decide +kernel) rfl rfl ?_
  refine ef_getI (k := 124) (j := 6) rfl eL_7_94 (by decide) (by decide +kernel) ?_
  refine ef_J (X := fun j1 => ∀ (s2 : eh_F), eh_Sim g eM_7_doOne (eh_R 6 0 0) eh_eV 0 0 20 [some (.ref 124), none, none] [] (eh_FW s2) ((j1 s2).bind some)) ?_ (fun j1 Hj1 => ?_)
  · intro s2
    refine es_blk (pc' := 22) (L' := [some (.ref 124), none, none]) (st' := [.ref 124, .ref 124]) [(.aload_n 0, 0), (.aload_n 0, 0)] (by decide +kernel) rfl rfl ?_
    refine ef_getI (k := 124) (j := 8) rfl eL_7_122 (by decide) (by decide +kernel) ?_
    refine es_blk (pc' := 27) (L' := [some (.ref 124), none, none]) (st' := [.int 4, .int 1, .int (s2.1 124 8), .ref 124]) [(.iconst 1, 1), (.iconst 4, 4)] (by decide +kernel) rfl rfl ?_
    refine ef_veI (d := 4) (k := 124) (As := [.int (s2.1 124 8), .int 1, .int 4]) (st := []) eV_7_locate eK_7_155 (eS_7_locate g s2 (s2.1 124 8) 1 4) rfl rfl (Nat.le_of_ble_eq_true rfl) rfl (Nat.le_of_ble_eq_true rfl) ⟨Nat.le_of_ble_eq_true rfl, Nat.le_of_ble_eq_true rfl⟩ ⟨Nat.le_refl _, Nat.le_refl _⟩ (by decide +kernel) (fun q3 _ => ?_)
    refine es_blk (pc' := 32) (L' := [some (.ref 124), some (.int q3.1), none]) (st' := [.int q3.1]) [(.istore_n 1, 0), (.iload_n 1, 0)] (by decide +kernel) rfl rfl ?_
    refine es_ge (tgt := 36) (off := (4)) (by decide +kernel) (by decide) (fun h4 => ?_) (fun h4 => ?_)
    · exact es_ret rfl rfl rfl ⟨by decide +kernel, rfl⟩ (Nat.le_refl _) (Nat.le_refl _)
    refine es_blk (pc' := 37) (L' := [some (.ref 124), some (.int q3.1), none]) (st' := [.ref 124]) [(.aload_n 0, 0)] (by decide +kernel) rfl rfl ?_
    refine ef_getP (k := 124) (j := 1) (q := 2) rfl eL_7_21 rfl rfl rfl (by decide +kernel) ?_
    refine es_blk (pc' := 41) (L' := [some (.ref 124), some (.int q3.1), none]) (st' := [.int q3.1, .ref 2]) [(.iload_n 1, 0)] (by decide +kernel) rfl rfl ?_
    refine ef_vpI (d := 1) (k := 2) (As := [.int q3.1]) (st := []) eV_6_wordAt eK_7_159 (eS_6_wordAt g q3.2 q3.1) rfl rfl (Nat.le_of_ble_eq_true rfl) rfl (Nat.le_of_ble_eq_true rfl) ⟨Nat.le_of_ble_eq_true rfl, Nat.le_of_ble_eq_true rfl⟩ ⟨Nat.le_refl _, Nat.le_refl _⟩ (by decide +kernel) (fun q5 _ => ?_)
    refine es_blk (pc' := 49) (L' := [some (.ref 124), some (.int q3.1), some (.int q5)]) (st' := [.int (q5 &&& 127)]) [(.istore_n 2, 0), (.iload_n 2, 0), (.bipush 127, 127), (.iand, 0)] (by decide +kernel) rfl rfl ?_
    refine ef_V (fun _ => [some (.ref 124), some (.int q3.1), some (.int q5)]) (fun x6 => [.int x6]) (fun _ => eh_FW q3.2) (fun x6 => ?_)
    refine ef_J (X := fun j7 => ∀ (s8 : eh_F), eh_Sim g eM_7_doOne (eh_R 6 0 0) eh_eV 0 0 282 [none, none, none] [] (eh_FW s8) ((j7 s8).bind some)) ?_ (fun j7 Hj7 => ?_)
    · intro s8
      exact es_ret rfl rfl rfl ⟨by decide +kernel, rfl⟩ (Nat.le_refl _) (Nat.le_refl _)
    have hs9 : decode eM_7_doOne.2.1 49 = .ok (.lookupswitch (227) #[(3, 171), (15, 187), (19, 195), (23, 120), (35, 179), (47, 211), (51, 203), (55, 107), (99, 163), (103, 155), (111, 138), (115, 219)], 107) := by decide +kernel
    refine es_ifc (fun h10 => ?_) (fun h10 => ?_)
    · refine es_lsw (off := (171)) (tgt := 220) hs9 3 h10 (by decide) (by decide) (by decide) ?_
      refine es_blk (pc' := 222) (L' := [some (.ref 124), some (.int q3.1), some (.int q5)]) (st' := [.int q5, .ref 124]) [(.aload_n 0, 0), (.iload_n 2, 0)] (by decide +kernel) rfl rfl ?_
      refine ef_veV (d := 5) (k := 124) (As := [.int q5]) (st := []) eV_7_load eK_7_180 (eS_7_load g q3.2 q5) rfl rfl (Nat.le_of_ble_eq_true rfl) rfl (Nat.le_of_ble_eq_true rfl) ⟨Nat.le_of_ble_eq_true rfl, Nat.le_of_ble_eq_true rfl⟩ ⟨Nat.le_refl _, Nat.le_refl _⟩ (by decide +kernel) (fun q11 _ => ?_)
      refine es_goto (tgt := 282) (off := (57)) (by decide +kernel) (by decide) ?_
      refine ef_drop (L2 := [none, none, none]) [false, false, false] rfl rfl ?_
      exact Hj7 _
    refine es_ifc (fun h12 => ?_) (fun h12 => ?_)
    · refine es_lsw (off := (187)) (tgt := 236) hs9 15 h12 (by decide) (by decide) (by decide) ?_
      refine es_blk (pc' := 238) (L' := [some (.ref 124), some (.int q3.1), some (.int q5)]) (st' := [.int q5, .ref 124]) [(.aload_n 0, 0), (.iload_n 2, 0)] (by decide +kernel) rfl rfl ?_
      refine ef_veV (d := 2) (k := 124) (As := [.int q5]) (st := []) eV_7_fence eK_7_186 (eS_7_fence g q3.2 q5) rfl rfl (Nat.le_of_ble_eq_true rfl) rfl (Nat.le_of_ble_eq_true rfl) ⟨Nat.le_of_ble_eq_true rfl, Nat.le_of_ble_eq_true rfl⟩ ⟨Nat.le_refl _, Nat.le_refl _⟩ (by decide +kernel) (fun q13 _ => ?_)
      refine es_goto (tgt := 282) (off := (41)) (by decide +kernel) (by decide) ?_
      refine ef_drop (L2 := [none, none, none]) [false, false, false] rfl rfl ?_
      exact Hj7 _
    refine es_ifc (fun h14 => ?_) (fun h14 => ?_)
    · refine es_lsw (off := (195)) (tgt := 244) hs9 19 h14 (by decide) (by decide) (by decide) ?_
      refine es_blk (pc' := 246) (L' := [some (.ref 124), some (.int q3.1), some (.int q5)]) (st' := [.int q5, .ref 124]) [(.aload_n 0, 0), (.iload_n 2, 0)] (by decide +kernel) rfl rfl ?_
      refine ef_veV (d := 3) (k := 124) (As := [.int q5]) (st := []) eV_7_reckonWithNumber eK_7_189 (eS_7_reckonWithNumber g q3.2 q5) rfl rfl (Nat.le_of_ble_eq_true rfl) rfl (Nat.le_of_ble_eq_true rfl) ⟨Nat.le_of_ble_eq_true rfl, Nat.le_of_ble_eq_true rfl⟩ ⟨Nat.le_refl _, Nat.le_refl _⟩ (by decide +kernel) (fun q15 _ => ?_)
      refine es_goto (tgt := 282) (off := (33)) (by decide +kernel) (by decide) ?_
      refine ef_drop (L2 := [none, none, none]) [false, false, false] rfl rfl ?_
      exact Hj7 _
    refine es_ifc (fun h16 => ?_) (fun h16 => ?_)
    · refine es_lsw (off := (120)) (tgt := 169) hs9 23 h16 (by decide) (by decide) (by decide) ?_
      refine es_blk (pc' := 172) (L' := [some (.ref 124), some (.int q3.1), some (.int q5)]) (st' := [.ref 124, .int q5, .ref 124]) [(.aload_n 0, 0), (.iload_n 2, 0), (.aload_n 0, 0)] (by decide +kernel) rfl rfl ?_
      refine ef_getI (k := 124) (j := 8) rfl eL_7_122 (by decide) (by decide +kernel) ?_
      refine es_blk (pc' := 181) (L' := [some (.ref 124), some (.int q3.1), some (.int q5)]) (st' := [.int ((q3.2.1 124 8) + (q5 &&& (-4096))), .int q5, .ref 124]) [(.iload_n 2, 0), (.sipush (-4096), (-4096)), (.iand, 0), (.iadd, 0)] (by decide +kernel) rfl rfl ?_
      refine ef_veV (d := 1) (k := 124) (As := [.int q5, .int ((q3.2.1 124 8) + (q5 &&& (-4096)))]) (st := []) eV_7_put eK_7_165 (eS_7_put g q3.2 q5 ((q3.2.1 124 8) + (q5 &&& (-4096)))) rfl rfl (Nat.le_of_ble_eq_true rfl) rfl (Nat.le_of_ble_eq_true rfl) ⟨Nat.le_of_ble_eq_true rfl, Nat.le_of_ble_eq_true rfl⟩ ⟨Nat.le_refl _, Nat.le_refl _⟩ (by decide +kernel) (fun q17 _ => ?_)
      refine es_goto (tgt := 282) (off := (98)) (by decide +kernel) (by decide) ?_
      refine ef_drop (L2 := [none, none, none]) [false, false, false] rfl rfl ?_
      exact Hj7 _
    refine es_ifc (fun h18 => ?_) (fun h18 => ?_)
    · refine es_lsw (off := (179)) (tgt := 228) hs9 35 h18 (by decide) (by decide) (by decide) ?_
      refine es_blk (pc' := 230) (L' := [some (.ref 124), some (.int q3.1), some (.int q5)]) (st' := [.int q5, .ref 124]) [(.aload_n 0, 0), (.iload_n 2, 0)] (by decide +kernel) rfl rfl ?_
      refine ef_veV (d := 5) (k := 124) (As := [.int q5]) (st := []) eV_7_store eK_7_183 (eS_7_store g q3.2 q5) rfl rfl (Nat.le_of_ble_eq_true rfl) rfl (Nat.le_of_ble_eq_true rfl) ⟨Nat.le_of_ble_eq_true rfl, Nat.le_of_ble_eq_true rfl⟩ ⟨Nat.le_refl _, Nat.le_refl _⟩ (by decide +kernel) (fun q19 _ => ?_)
      refine es_goto (tgt := 282) (off := (49)) (by decide +kernel) (by decide) ?_
      refine ef_drop (L2 := [none, none, none]) [false, false, false] rfl rfl ?_
      exact Hj7 _
    refine es_ifc (fun h20 => ?_) (fun h20 => ?_)
    · refine es_lsw (off := (211)) (tgt := 260) hs9 47 h20 (by decide) (by decide) (by decide) ?_
      refine es_blk (pc' := 262) (L' := [some (.ref 124), some (.int q3.1), some (.int q5)]) (st' := [.int q5, .ref 124]) [(.aload_n 0, 0), (.iload_n 2, 0)] (by decide +kernel) rfl rfl ?_
      refine ef_veV (d := 5) (k := 124) (As := [.int q5]) (st := []) eV_7_reckonInMemory eK_7_195 (eS_7_reckonInMemory g q3.2 q5) rfl rfl (Nat.le_of_ble_eq_true rfl) rfl (Nat.le_of_ble_eq_true rfl) ⟨Nat.le_of_ble_eq_true rfl, Nat.le_of_ble_eq_true rfl⟩ ⟨Nat.le_refl _, Nat.le_refl _⟩ (by decide +kernel) (fun q21 _ => ?_)
      refine es_goto (tgt := 282) (off := (17)) (by decide +kernel) (by decide) ?_
      refine ef_drop (L2 := [none, none, none]) [false, false, false] rfl rfl ?_
      exact Hj7 _
    refine es_ifc (fun h22 => ?_) (fun h22 => ?_)
    · refine es_lsw (off := (203)) (tgt := 252) hs9 51 h22 (by decide) (by decide) (by decide) ?_
      refine es_blk (pc' := 254) (L' := [some (.ref 124), some (.int q3.1), some (.int q5)]) (st' := [.int q5, .ref 124]) [(.aload_n 0, 0), (.iload_n 2, 0)] (by decide +kernel) rfl rfl ?_
      refine ef_veV (d := 3) (k := 124) (As := [.int q5]) (st := []) eV_7_reckonWithRegister eK_7_192 (eS_7_reckonWithRegister g q3.2 q5) rfl rfl (Nat.le_of_ble_eq_true rfl) rfl (Nat.le_of_ble_eq_true rfl) ⟨Nat.le_of_ble_eq_true rfl, Nat.le_of_ble_eq_true rfl⟩ ⟨Nat.le_refl _, Nat.le_refl _⟩ (by decide +kernel) (fun q23 _ => ?_)
      refine es_goto (tgt := 282) (off := (25)) (by decide +kernel) (by decide) ?_
      refine ef_drop (L2 := [none, none, none]) [false, false, false] rfl rfl ?_
      exact Hj7 _
    refine es_ifc (fun h24 => ?_) (fun h24 => ?_)
    · refine es_lsw (off := (107)) (tgt := 156) hs9 55 h24 (by decide) (by decide) (by decide) ?_
      refine es_blk (pc' := 163) (L' := [some (.ref 124), some (.int q3.1), some (.int q5)]) (st' := [.int (q5 &&& (-4096)), .int q5, .ref 124]) [(.aload_n 0, 0), (.iload_n 2, 0), (.iload_n 2, 0), (.sipush (-4096), (-4096)), (.iand, 0)] (by decide +kernel) rfl rfl ?_
      refine ef_veV (d := 1) (k := 124) (As := [.int q5, .int (q5 &&& (-4096))]) (st := []) eV_7_put eK_7_165 (eS_7_put g q3.2 q5 (q5 &&& (-4096))) rfl rfl (Nat.le_of_ble_eq_true rfl) rfl (Nat.le_of_ble_eq_true rfl) ⟨Nat.le_of_ble_eq_true rfl, Nat.le_of_ble_eq_true rfl⟩ ⟨Nat.le_refl _, Nat.le_refl _⟩ (by decide +kernel) (fun q25 _ => ?_)
      refine es_goto (tgt := 282) (off := (116)) (by decide +kernel) (by decide) ?_
      refine ef_drop (L2 := [none, none, none]) [false, false, false] rfl rfl ?_
      exact Hj7 _
    refine es_ifc (fun h26 => ?_) (fun h26 => ?_)
    · refine es_lsw (off := (163)) (tgt := 212) hs9 99 h26 (by decide) (by decide) (by decide) ?_
      refine es_blk (pc' := 214) (L' := [some (.ref 124), some (.int q3.1), some (.int q5)]) (st' := [.int q5, .ref 124]) [(.aload_n 0, 0), (.iload_n 2, 0)] (by decide +kernel) rfl rfl ?_
      refine ef_veV (d := 3) (k := 124) (As := [.int q5]) (st := []) eV_7_branch eK_7_177 (eS_7_branch g q3.2 q5) rfl rfl (Nat.le_of_ble_eq_true rfl) rfl (Nat.le_of_ble_eq_true rfl) ⟨Nat.le_of_ble_eq_true rfl, Nat.le_of_ble_eq_true rfl⟩ ⟨Nat.le_refl _, Nat.le_refl _⟩ (by decide +kernel) (fun q27 _ => ?_)
      refine es_goto (tgt := 282) (off := (65)) (by decide +kernel) (by decide) ?_
      refine ef_drop (L2 := [none, none, none]) [false, false, false] rfl rfl ?_
      exact Hj7 _
    refine es_ifc (fun h28 => ?_) (fun h28 => ?_)
    · refine es_lsw (off := (155)) (tgt := 204) hs9 103 h28 (by decide) (by decide) (by decide) ?_
      refine es_blk (pc' := 206) (L' := [some (.ref 124), some (.int q3.1), some (.int q5)]) (st' := [.int q5, .ref 124]) [(.aload_n 0, 0), (.iload_n 2, 0)] (by decide +kernel) rfl rfl ?_
      refine ef_veV (d := 4) (k := 124) (As := [.int q5]) (st := []) eV_7_jumpToRegister eK_7_174 (eS_7_jumpToRegister g q3.2 q5) rfl rfl (Nat.le_of_ble_eq_true rfl) rfl (Nat.le_of_ble_eq_true rfl) ⟨Nat.le_of_ble_eq_true rfl, Nat.le_of_ble_eq_true rfl⟩ ⟨Nat.le_refl _, Nat.le_refl _⟩ (by decide +kernel) (fun q29 _ => ?_)
      refine es_goto (tgt := 282) (off := (73)) (by decide +kernel) (by decide) ?_
      refine ef_drop (L2 := [none, none, none]) [false, false, false] rfl rfl ?_
      exact Hj7 _
    refine es_ifc (fun h30 => ?_) (fun h30 => ?_)
    · refine es_lsw (off := (138)) (tgt := 187) hs9 111 h30 (by decide) (by decide) (by decide) ?_
      refine es_blk (pc' := 190) (L' := [some (.ref 124), some (.int q3.1), some (.int q5)]) (st' := [.ref 124, .int q5, .ref 124]) [(.aload_n 0, 0), (.iload_n 2, 0), (.aload_n 0, 0)] (by decide +kernel) rfl rfl ?_
      refine ef_getI (k := 124) (j := 8) rfl eL_7_122 (by decide) (by decide +kernel) ?_
      refine es_blk (pc' := 194) (L' := [some (.ref 124), some (.int q3.1), some (.int q5)]) (st' := [.int q5, .int (q3.2.1 124 8), .int q5, .ref 124]) [(.iload_n 2, 0)] (by decide +kernel) rfl rfl ?_
      refine ef_spI (d := 1) (As := [.int q5]) (st := [.int (q3.2.1 124 8), .int q5, .ref 124]) eV_7_offsetJ eK_7_168 (eS_7_offsetJ g q3.2 q5) rfl (Nat.le_of_ble_eq_true rfl) rfl (Nat.le_of_ble_eq_true rfl) ⟨Nat.le_of_ble_eq_true rfl, Nat.le_of_ble_eq_true rfl⟩ ⟨Nat.le_refl _, Nat.le_refl _⟩ (by decide +kernel) (fun q31 _ => ?_)
      refine es_blk (pc' := 198) (L' := [some (.ref 124), some (.int q3.1), some (.int q5)]) (st' := [.int ((q3.2.1 124 8) + q31), .int q5, .ref 124]) [(.iadd, 0)] (by decide +kernel) rfl rfl ?_
      refine ef_veV (d := 3) (k := 124) (As := [.int q5, .int ((q3.2.1 124 8) + q31)]) (st := []) eV_7_jump eK_7_171 (eS_7_jump g q3.2 q5 ((q3.2.1 124 8) + q31)) rfl rfl (Nat.le_of_ble_eq_true rfl) rfl (Nat.le_of_ble_eq_true rfl) ⟨Nat.le_of_ble_eq_true rfl, Nat.le_of_ble_eq_true rfl⟩ ⟨Nat.le_refl _, Nat.le_refl _⟩ (by decide +kernel) (fun q32 _ => ?_)
      refine es_goto (tgt := 282) (off := (81)) (by decide +kernel) (by decide) ?_
      refine ef_drop (L2 := [none, none, none]) [false, false, false] rfl rfl ?_
      exact Hj7 _
    refine es_ifc (fun h33 => ?_) (fun h33 => ?_)
    · refine es_lsw (off := (219)) (tgt := 268) hs9 115 h33 (by decide) (by decide) (by decide) ?_
      refine es_blk (pc' := 270) (L' := [some (.ref 124), some (.int q3.1), some (.int q5)]) (st' := [.int q5, .ref 124]) [(.aload_n 0, 0), (.iload_n 2, 0)] (by decide +kernel) rfl rfl ?_
      refine ef_veV (d := 5) (k := 124) (As := [.int q5]) (st := []) eV_7_special eK_7_198 (eS_7_special g q3.2 q5) rfl rfl (Nat.le_of_ble_eq_true rfl) rfl (Nat.le_of_ble_eq_true rfl) ⟨Nat.le_of_ble_eq_true rfl, Nat.le_of_ble_eq_true rfl⟩ ⟨Nat.le_refl _, Nat.le_refl _⟩ (by decide +kernel) (fun q34 _ => ?_)
      refine es_goto (tgt := 282) (off := (9)) (by decide +kernel) (by decide) ?_
      refine ef_drop (L2 := [none, none, none]) [false, false, false] rfl rfl ?_
      exact Hj7 _
    refine es_lswD (tgt := 276) hs9 [3, 15, 19, 23, 35, 47, 51, 55, 99, 103, 111, 115] (List.forall_mem_cons.mpr ⟨eh_nei 3 3 (by decide) h10, (List.forall_mem_cons.mpr ⟨eh_nei 15 15 (by decide) h12, (List.forall_mem_cons.mpr ⟨eh_nei 19 19 (by decide) h14, (List.forall_mem_cons.mpr ⟨eh_nei 23 23 (by decide) h16, (List.forall_mem_cons.mpr ⟨eh_nei 35 35 (by decide) h18, (List.forall_mem_cons.mpr ⟨eh_nei 47 47 (by decide) h20, (List.forall_mem_cons.mpr ⟨eh_nei 51 51 (by decide) h22, (List.forall_mem_cons.mpr ⟨eh_nei 55 55 (by decide) h24, (List.forall_mem_cons.mpr ⟨eh_nei 99 99 (by decide) h26, (List.forall_mem_cons.mpr ⟨eh_nei 103 103 (by decide) h28, (List.forall_mem_cons.mpr ⟨eh_nei 111 111 (by decide) h30, (List.forall_mem_cons.mpr ⟨eh_nei 115 115 (by decide) h33, (List.forall_mem_nil _)⟩)⟩)⟩)⟩)⟩)⟩)⟩)⟩)⟩)⟩)⟩)⟩) (by decide) (by decide) (by decide) ?_
    refine es_blk (pc' := 279) (L' := [some (.ref 124), some (.int q3.1), some (.int q5)]) (st' := [.int q5, .int 2, .ref 124]) [(.aload_n 0, 0), (.iconst 2, 2), (.iload_n 2, 0)] (by decide +kernel) rfl rfl ?_
    refine ef_veV (d := 1) (k := 124) (As := [.int 2, .int q5]) (st := []) eV_7_fail eK_7_201 (eS_7_fail g q3.2 2 q5) rfl rfl (Nat.le_of_ble_eq_true rfl) rfl (Nat.le_of_ble_eq_true rfl) ⟨Nat.le_of_ble_eq_true rfl, Nat.le_of_ble_eq_true rfl⟩ ⟨Nat.le_refl _, Nat.le_refl _⟩ (by decide +kernel) (fun q35 _ => ?_)
    refine ef_drop (L2 := [none, none, none]) [false, false, false] rfl rfl ?_
    exact Hj7 _
  refine es_eq (tgt := 20) (off := (16)) (by decide +kernel) (by decide) (fun h36 => ?_) (fun h36 => ?_)
  · exact Hj1 _
  refine es_blk (pc' := 8) (L' := [some (.ref 124), none, none]) (st' := [.ref 124]) [(.aload_n 0, 0)] (by decide +kernel) rfl rfl ?_
  refine ef_getQ (j := 4) (ok := eh_okH) (by decide) eL_7_39 rfl (fun q h => eh_sh_NU (eh_H0sh h)) (by decide +kernel) (fun h37 => ?_)
  refine es_blk (pc' := 12) (L' := [some (.ref 124), none, none]) (st' := [.ref (s.2.2 4), .ref (s.2.2 4)]) [(.dup, 0)] (by decide +kernel) rfl rfl ?_
  refine ef_getI (k := (s.2.2 4)) (j := 8) (eh_H0sh h37) eL_7_141 (by decide) (by decide +kernel) ?_
  refine es_blk (pc' := 17) (L' := [some (.ref 124), none, none]) (st' := [.int ((s.1 (s.2.2 4) 8) + 1), .ref (s.2.2 4)]) [(.iconst 1, 1), (.iadd, 0)] (by decide +kernel) rfl rfl ?_
  refine ef_putI (k := (s.2.2 4)) (j := 8) (eh_H0sh h37) eL_7_141 rfl rfl (by decide +kernel) ?_
  refine ef_V (fun _ => [some (.ref 124), none, none]) (fun _ => []) (fun s38 => eh_FW s38) (fun s38 => ?_)
  exact Hj1 _
