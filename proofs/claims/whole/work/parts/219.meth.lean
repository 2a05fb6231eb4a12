def eF_11_call (s : eh_F) (p0 : Int32) (p1 : Int32) (p2 : Int32) (p3 : Int32) (p4 : Int32) (p5 : Int32) : Option (Int32 × eh_F) := eh_J (fun (u2 : Unit) => some ((-1), s)) (fun j1 => if (s.1 1 10) = 0 then (Option.bind (eF_11_isHart s p0) (fun q4 => if q4 = 0 then (j1 ()) else (if eh_in p0 2 then if (s.1 (eh_hp p0) 5) = (-1) then (if eh_in p0 2 then Option.bind (eF_10_serve s (eh_hp p0) p1 p2 p3 p4 p5) (fun q9 => some (q9.1, q9.2)) else none) else (j1 ()) else none))) else (j1 ()))
set_option maxHeartbeats 4000000 in
set_option maxRecDepth 100000 in
theorem eS_11_call (g : eh_P) (s : eh_F) (p0 : Int32) (p1 : Int32) (p2 : Int32) (p3 : Int32) (p4 : Int32) (p5 : Int32) : eh_Sim g eM_11_call (eh_R 7 0 0) eh_eI 0 0 0 (eh_en 7 [.ref 0, .int p0, .int p1, .int p2, .int p3, .int p4, .int p5]) [] (eh_FW s) (eF_11_call s p0 p1 p2 p3 p4 p5) := by
  unfold eF_11_call
  refine ef_top (L := [some (.ref 0), some (.int p0), some (.int p1), some (.int p2), some (.int p3), some (.int p4), some (.int p5)]) rfl ?_
  refine es_blk (pc' := 1) (L' := [some (.ref 0), some (.int p0), some (.int p1), some (.int p2), some (.int p3), some (.int p4), some (.int p5)]) (st' := [.ref 0]) [(.aload_n 0, 0)] (by decide +kernel) rfl rfl ?_
  refine ef_getP (k := 0) (j := 0) (q := 1) rfl eL_11_12 rfl rfl rfl (by decide +kernel) ?_
  refine ef_getI (k := 1) (j := 10) rfl eL_11_136 (by decide) (by decide +kernel) ?_
  refine ef_J (X := fun j1 => ∀ (u2 : Unit), eh_Sim g eM_11_call (eh_R 7 0 0) eh_eI 0 0 33 [none, none, none, none, none, none, none] [] (eh_FW s) ((j1 u2).bind some)) ?_ (fun j1 Hj1 => ?_)
  · intro u2
    refine es_blk (pc' := 34) (L' := [none, none, none, none, none, none, none]) (st' := [.int (-1)]) [(.iconst (-1), (-1))] (by decide +kernel) rfl rfl ?_
    exact es_ret rfl rfl rfl ⟨by decide +kernel, _, rfl, rfl⟩ (Nat.le_refl _) (Nat.le_refl _)
  refine es_ne (tgt := 33) (off := (26)) (by decide +kernel) (by decide) (fun h3 => ?_) (fun h3 => ?_)
  · refine es_blk (pc' := 11) (L' := [some (.ref 0), some (.int p0), some (.int p1), some (.int p2), some (.int p3), some (.int p4), some (.int p5)]) (st' := [.int p0]) [(.iload_n 1, 0)] (by decide +kernel) rfl rfl ?_
    refine ef_spI (d := 1) (As := [.int p0]) (st := []) eV_11_isHart eK_11_85 (eS_11_isHart g s p0) rfl (Nat.le_of_ble_eq_true rfl) rfl (Nat.le_of_ble_eq_true rfl) ⟨Nat.le_of_ble_eq_true rfl, Nat.le_of_ble_eq_true rfl⟩ ⟨Nat.le_refl _, Nat.le_refl _⟩ (by decide +kernel) (fun q4 _ => ?_)
    refine es_eq (tgt := 33) (off := (19)) (by decide +kernel) (by decide) (fun h5 => ?_) (fun h5 => ?_)
    · refine ef_drop (L2 := [none, none, none, none, none, none, none]) [false, false, false, false, false, false, false] rfl rfl ?_
      exact Hj1 ()
    refine es_blk (pc' := 18) (L' := [some (.ref 0), some (.int p0), some (.int p1), some (.int p2), some (.int p3), some (.int p4), some (.int p5)]) (st' := [.ref 0]) [(.aload_n 0, 0)] (by decide +kernel) rfl rfl ?_
    refine ef_getP (k := 0) (j := 0) (q := 1) rfl eL_11_12 rfl rfl rfl (by decide +kernel) ?_
    refine ef_getP (k := 1) (j := 2) (q := 26) rfl eL_11_88 rfl rfl rfl (by decide +kernel) ?_
    refine es_blk (pc' := 25) (L' := [some (.ref 0), some (.int p0), some (.int p1), some (.int p2), some (.int p3), some (.int p4), some (.int p5)]) (st' := [.int p0, .ref 26]) [(.iload_n 1, 0)] (by decide +kernel) rfl rfl ?_
    refine ef_harts (by decide +kernel) (fun h6 => ?_)
    refine ef_getI (k := (eh_hp p0)) (j := 5) (eh_H0sh h6) eL_11_139 (by decide) (by decide +kernel) ?_
    refine es_blk (pc' := 30) (L' := [some (.ref 0), some (.int p0), some (.int p1), some (.int p2), some (.int p3), some (.int p4), some (.int p5)]) (st' := [.int (-1), .int (s.1 (eh_hp p0) 5)]) [(.iconst (-1), (-1))] (by decide +kernel) rfl rfl ?_
    refine es_ieq (tgt := 35) (off := (5)) (by decide +kernel) (by decide) (fun h7 => ?_) (fun h7 => ?_)
    · refine es_blk (pc' := 36) (L' := [some (.ref 0), some (.int p0), some (.int p1), some (.int p2), some (.int p3), some (.int p4), some (.int p5)]) (st' := [.ref 0]) [(.aload_n 0, 0)] (by decide +kernel) rfl rfl ?_
      refine ef_getP (k := 0) (j := 1) (q := 123) rfl eL_11_23 rfl rfl rfl (by decide +kernel) ?_
      refine es_blk (pc' := 40) (L' := [some (.ref 0), some (.int p0), some (.int p1), some (.int p2), some (.int p3), some (.int p4), some (.int p5)]) (st' := [.ref 0, .ref 123]) [(.aload_n 0, 0)] (by decide +kernel) rfl rfl ?_
      refine ef_getP (k := 0) (j := 0) (q := 1) rfl eL_11_12 rfl rfl rfl (by decide +kernel) ?_
      refine ef_getP (k := 1) (j := 2) (q := 26) rfl eL_11_88 rfl rfl rfl (by decide +kernel) ?_
      refine es_blk (pc' := 47) (L' := [some (.ref 0), some (.int p0), some (.int p1), some (.int p2), some (.int p3), some (.int p4), some (.int p5)]) (st' := [.int p0, .ref 26, .ref 123]) [(.iload_n 1, 0)] (by decide +kernel) rfl rfl ?_
      refine ef_harts (by decide +kernel) (fun h8 => ?_)
      refine es_blk (pc' := 56) (L' := [some (.ref 0), some (.int p0), some (.int p1), some (.int p2), some (.int p3), some (.int p4), some (.int p5)]) (st' := [.int p5, .int p4, .int p3, .int p2, .int p1, .ref (eh_hp p0), .ref 123]) [(.iload_n 2, 0), (.iload_n 3, 0), (.iload 4, 0), (.iload 5, 0), (.iload 6, 0)] (by decide +kernel) rfl rfl ?_
      refine ef_veI (d := 6) (k := 123) (As := [.ref (eh_hp p0), .int p1, .int p2, .int p3, .int p4, .int p5]) (st := []) eV_10_serve eK_11_142 (eS_10_serve g s (eh_hp p0) p1 p2 p3 p4 p5 h8) rfl rfl (Nat.le_of_ble_eq_true rfl) rfl (Nat.le_of_ble_eq_true rfl) ⟨Nat.le_of_ble_eq_true rfl, Nat.le_of_ble_eq_true rfl⟩ ⟨Nat.le_refl _, Nat.le_refl _⟩ (by decide +kernel) (fun q9 _ => ?_)
      exact es_ret rfl rfl rfl ⟨by decide +kernel, _, rfl, rfl⟩ (Nat.le_refl _) (Nat.le_refl _)
    refine ef_drop (L2 := [none, none, none, none, none, none, none]) [false, false, false, false, false, false, false] rfl rfl ?_
    exact Hj1 ()
  refine ef_drop (L2 := [none, none, none, none, none, none, none]) [false, false, false, false, false, false, false] rfl rfl ?_
  exact Hj1 ()
def eF_12_isReport (s : eh_F) (p0 np0 : Nat) : Option (Int32 × eh_F) := Option.bind (eF_12_mark s p0 np0) (fun q1 => Option.bind (eh_loop (fun (r6 : (Int32 × Int32) → Option (Int32)) (t2 : Int32 × Int32) => if t2.2 < 32 then (eh_J (fun (a9 : Int32) => eh_V ((t2.2 + 1) : Int32) (fun x10 => r6 (a9, x10))) (fun j8 => eh_J (fun (u12 : Unit) => j8 0) (fun j11 => if t2.1 = 0 then (j11 ()) else (if eh_in (96 + t2.2) np0 then if eh_in t2.2 32 then if (q1.1 p0 (eh_ix (96 + t2.2))) = (q1.1 194 (eh_ix t2.2)) then (j8 1) else (j11 ()) else none else none)))) else (some t2.1)) eh_FU (1, 0)) (fun (e3 : Int32) => if e3 = 0 ∨ e3 = 1 then some (e3, q1) else none))
set_option maxHeartbeats 4000000 in
set_option maxRecDepth 100000 in
theorem eS_12_isReport (g : eh_P) (s : eh_F) (p0 np0 : Nat) (hp0 : eh_SH[p0]? = some (101, np0)) : eh_Sim g eM_12_isReport (eh_R 7 0 0) eh_eI 0 0 0 (eh_en 4 [.ref 127, .ref p0]) [] (eh_FW s) (eF_12_isReport s p0 np0) := by
  unfold eF_12_isReport
  refine ef_top (L := [some (.ref 127), some (.ref p0), none, none]) rfl ?_
  refine es_blk (pc' := 2) (L' := [some (.ref 127), some (.ref p0), none, none]) (st' := [.ref p0, .ref 127]) [(.aload_n 0, 0), (.aload_n 1, 0)] (by decide +kernel) rfl rfl ?_
  refine ef_veV (d := 6) (k := 127) (As := [.ref p0]) (st := []) eV_12_mark eK_12_277 (eS_12_mark g s p0 np0 hp0) rfl rfl (Nat.le_of_ble_eq_true rfl) rfl (Nat.le_of_ble_eq_true rfl) ⟨Nat.le_of_ble_eq_true rfl, Nat.le_of_ble_eq_true rfl⟩ ⟨Nat.le_refl _, Nat.le_refl _⟩ (by decide +kernel) (fun q1 _ => ?_)
  refine es_blk (pc' := 9) (L' := [some (.ref 127), some (.ref p0), some (.int 1), some (.int 0)]) (st' := []) [(.iconst 1, 1), (.istore_n 2, 0), (.iconst 0, 0), (.istore_n 3, 0)] (by decide +kernel) rfl rfl ?_
  refine ef_loop1 (n := eh_FU) (i := (1, 0)) (px := 46) (fun (t2 : Int32 × Int32) => [some (.ref 127), some (.ref p0), some (.int t2.1), some (.int t2.2)]) (fun (t2 : Int32 × Int32) => []) (fun (t2 : Int32 × Int32) => eh_FW q1) (fun (e3 : Int32) => [none, none, some (.int e3), none]) (fun (e3 : Int32) => []) (fun (e3 : Int32) => eh_FW q1) (fun e3 => ?_) (fun K5 HxK5_0 r6 Hr6 t2 => ?_)
  · refine es_blk (pc' := 47) (L' := [none, none, some (.int e3), none]) (st' := [.int e3]) [(.iload_n 2, 0)] (by decide +kernel) rfl rfl ?_
    refine es_chk (fun h4 => ?_)
    exact es_ret rfl rfl rfl ⟨by decide +kernel, _, rfl, eh_narZ h4⟩ (Nat.le_refl _) (Nat.le_refl _)
  · refine es_blk (pc' := 12) (L' := [some (.ref 127), some (.ref p0), some (.int t2.1), some (.int t2.2)]) (st' := [.int 32, .int t2.2]) [(.iload_n 3, 0), (.bipush 32, 32)] (by decide +kernel) rfl rfl ?_
    refine es_ige (tgt := 46) (off := (34)) (by decide +kernel) (by decide) (fun h7 => ?_) (fun h7 => ?_)
    · refine es_blk (pc' := 16) (L' := [some (.ref 127), some (.ref p0), some (.int t2.1), some (.int t2.2)]) (st' := [.int t2.1]) [(.iload_n 2, 0)] (by decide +kernel) rfl rfl ?_
      refine ef_J (X := fun j8 => ∀ (a9 : Int32), eh_Sim g eM_12_isReport (eh_R 7 0 0) eh_eI 0 0 39 [some (.ref 127), some (.ref p0), none, some (.int t2.2)] [.int a9] (eh_FW q1) ((j8 a9).bind K5)) ?_ (fun j8 Hj8 => ?_)
      · intro a9
        refine es_blk (pc' := 43) (L' := [some (.ref 127), some (.ref p0), some (.int a9), some (.int (t2.2 + 1))]) (st' := []) [(.istore_n 2, 0), (.iinc 3 1, 1)] (by decide +kernel) rfl rfl ?_
        refine ef_V (fun x10 => [some (.ref 127), some (.ref p0), some (.int a9), some (.int x10)]) (fun _ => []) (fun _ => eh_FW q1) (fun x10 => ?_)
        refine es_goto (tgt := 9) (off := (-34)) (by decide +kernel) (by decide) ?_
        exact Hr6 (a9, x10)
      refine ef_J (X := fun j11 => ∀ (u12 : Unit), eh_Sim g eM_12_isReport (eh_R 7 0 0) eh_eI 0 0 38 [some (.ref 127), some (.ref p0), none, some (.int t2.2)] [] (eh_FW q1) ((j11 u12).bind K5)) ?_ (fun j11 Hj11 => ?_)
      · intro u12
        refine es_blk (pc' := 39) (L' := [some (.ref 127), some (.ref p0), none, some (.int t2.2)]) (st' := [.int 0]) [(.iconst 0, 0)] (by decide +kernel) rfl rfl ?_
        exact Hj8 _
      refine es_eq (tgt := 38) (off := (22)) (by decide +kernel) (by decide) (fun h13 => ?_) (fun h13 => ?_)
      · refine ef_drop (L2 := [some (.ref 127), some (.ref p0), none, some (.int t2.2)]) [true, true, false, true] rfl rfl ?_
        exact Hj11 ()
      refine es_blk (pc' := 24) (L' := [some (.ref 127), some (.ref p0), some (.int t2.1), some (.int t2.2)]) (st' := [.int (96 + t2.2), .ref p0]) [(.aload_n 1, 0), (.bipush 96, 96), (.iload_n 3, 0), (.iadd, 0)] (by decide +kernel) rfl rfl ?_
      refine ef_ald (k := p0) hp0 (Or.inr ⟨Or.inl rfl, rfl⟩) (by decide +kernel) (fun _ => ?_)
      refine es_blk (pc' := 26) (L' := [some (.ref 127), some (.ref p0), some (.int t2.1), some (.int t2.2)]) (st' := [.ref 127, .int (q1.1 p0 (eh_ix (96 + t2.2)))]) [(.aload_n 0, 0)] (by decide +kernel) rfl rfl ?_
      refine ef_getP (k := 127) (j := 81) (q := 194) rfl eL_12_212 rfl rfl rfl (by decide +kernel) ?_
      refine es_blk (pc' := 30) (L' := [some (.ref 127), some (.ref p0), some (.int t2.1), some (.int t2.2)]) (st' := [.int t2.2, .ref 194, .int (q1.1 p0 (eh_ix (96 + t2.2)))]) [(.iload_n 3, 0)] (by decide +kernel) rfl rfl ?_
      refine ef_ald (k := 194) rfl (Or.inr ⟨Or.inl rfl, rfl⟩) (by decide +kernel) (fun _ => ?_)
      refine es_ine (tgt := 38) (off := (7)) (by decide +kernel) (by decide) (fun h14 => ?_) (fun h14 => ?_)
      · refine es_blk (pc' := 35) (L' := [some (.ref 127), some (.ref p0), some (.int t2.1), some (.int t2.2)]) (st' := [.int 1]) [(.iconst 1, 1)] (by decide +kernel) rfl rfl ?_
        refine es_goto (tgt := 39) (off := (4)) (by decide +kernel) (by decide) ?_
        refine ef_drop (L2 := [some (.ref 127), some (.ref p0), none, some (.int t2.2)]) [true, true, false, true] rfl rfl ?_
        exact Hj8 _
      refine ef_drop (L2 := [some (.ref 127), some (.ref p0), none, some (.int t2.2)]) [true, true, false, true] rfl rfl ?_
      exact Hj11 ()
    refine ef_drop (L2 := [none, none, some (.int t2.1), none]) [false, false, true, false] rfl rfl ?_
    exact HxK5_0 t2.1
def eF_12_loads (s : eh_F) (p0 : Int32) (p1 : Int32) (p2 : Int32) (p3 : Int32) (p4 : Int32) : Option (eh_F) := eh_J (fun (u2 : Unit) => Option.bind (eF_12_except s 2 p1) (fun q3 => some q3)) (fun j1 => if p2 = 3 then (j1 ()) else (if 5 < p2 then (j1 ()) else (Option.bind (eF_12_load s p0 p4 (eh_shl 1 (p2 &&& 3)) 0) (fun q6 => eh_J (fun (s8 : eh_F) => some s8) (fun j7 => if (q6.2.1 127 83) = (-1) then (eh_J (fun (a11 : Int32) => Option.bind (eF_12_set q6.2 p0 p3 a11) (fun q12 => j7 q12)) (fun j10 => if p2 = 0 then (j10 (eh_nb q6.1)) else (if p2 = 1 then (j10 (q6.1.toInt16.toInt32)) else (j10 q6.1)))) else (j7 q6.2))))))
set_option maxHeartbeats 4000000 in
set_option maxRecDepth 100000 in
theorem eS_12_loads (g : eh_P) (s : eh_F) (p0 : Int32) (p1 : Int32) (p2 : Int32) (p3 : Int32) (p4 : Int32) : eh_Sim g eM_12_loads (eh_R 7 0 0) eh_eV 0 0 0 (eh_en 7 [.ref 127, .int p0, .int p1, .int p2, .int p3, .int p4]) [] (eh_FW s) (eF_12_loads s p0 p1 p2 p3 p4) := by
  unfold eF_12_loads
  refine ef_top (L := [some (.ref 127), some (.int p0), some (.int p1), some (.int p2), some (.int p3), some (.int p4), none]) rfl ?_
  refine es_blk (pc' := 2) (L' := [some (.ref 127), some (.int p0), some (.int p1), some (.int p2), some (.int p3), some (.int p4), none]) (st' := [.int 3, .int p2]) [(.iload_n 3, 0), (.iconst 3, 3)] (by decide +kernel) rfl rfl ?_
  refine ef_J (X := fun j1 => ∀ (u2 : Unit), eh_Sim g eM_12_loads (eh_R 7 0 0) eh_eV 0 0 10 [some (.ref 127), none, some (.int p1), none, none, none, none] [] (eh_FW s) ((j1 u2).bind some)) ?_ (fun j1 Hj1 => ?_)
  · intro u2
    refine es_blk (pc' := 13) (L' := [some (.ref 127), none, some (.int p1), none, none, none, none]) (st' := [.int p1, .int 2, .ref 127]) [(.aload_n 0, 0), (.iconst 2, 2), (.iload_n 2, 0)] (by decide +kernel) rfl rfl ?_
    refine ef_veV (d := 1) (k := 127) (As := [.int 2, .int p1]) (st := []) eV_12_except eK_12_359 (eS_12_except g s 2 p1) rfl rfl (Nat.le_of_ble_eq_true rfl) rfl (Nat.le_of_ble_eq_true rfl) ⟨Nat.le_of_ble_eq_true rfl, Nat.le_of_ble_eq_true rfl⟩ ⟨Nat.le_refl _, Nat.le_refl _⟩ (by decide +kernel) (fun q3 _ => ?_)
    exact es_ret rfl rfl rfl ⟨by decide +kernel, rfl⟩ (Nat.le_refl _) (Nat.le_refl _)
  refine es_ieq (tgt := 10) (off := (8)) (by decide +kernel) (by decide) (fun h4 => ?_) (fun h4 => ?_)
  · refine ef_drop (L2 := [some (.ref 127), none, some (.int p1), none, none, none, none]) [true, false, true, false, false, false, true] rfl rfl ?_
    exact Hj1 ()
  refine es_blk (pc' := 7) (L' := [some (.ref 127), some (.int p0), some (.int p1), some (.int p2), some (.int p3), some (.int p4), none]) (st' := [.int 5, .int p2]) [(.iload_n 3, 0), (.iconst 5, 5)] (by decide +kernel) rfl rfl ?_
  refine es_ile (tgt := 17) (off := (10)) (by decide +kernel) (by decide) (fun h5 => ?_) (fun h5 => ?_)
  · refine ef_drop (L2 := [some (.ref 127), none, some (.int p1), none, none, none, none]) [true, false, true, false, false, false, true] rfl rfl ?_
    exact Hj1 ()
  refine es_blk (pc' := 27) (L' := [some (.ref 127), some (.int p0), some (.int p1), some (.int p2), some (.int p3), some (.int p4), none]) (st' := [.int 0, .int (eh_shl 1 (p2 &&& 3)), .int p4, .int p0, .ref 127]) [(.aload_n 0, 0), (.iload_n 1, 0), (.iload 5, 0), (.iconst 1, 1), (.iload_n 3, 0), (.iconst 3, 3), (.iand, 0), (.ishl, 0), (.iconst 0, 0)] (by decide +kernel) rfl rfl ?_
  refine ef_veI (d := 6) (k := 127) (As := [.int p0, .int p4, .int (eh_shl 1 (p2 &&& 3)), .int 0]) (st := []) eV_12_load eK_12_461 (eS_12_load g s p0 p4 (eh_shl 1 (p2 &&& 3)) 0) rfl rfl (Nat.le_of_ble_eq_true rfl) rfl (Nat.le_of_ble_eq_true rfl) ⟨Nat.le_of_ble_eq_true rfl, Nat.le_of_ble_eq_true rfl⟩ ⟨Nat.le_refl _, Nat.le_refl _⟩ (by decide +kernel) (fun q6 _ => ?_)
  refine es_blk (pc' := 33) (L' := [some (.ref 127), some (.int p0), some (.int p1), some (.int p2), some (.int p3), some (.int p4), some (.int q6.1)]) (st' := [.ref 127]) [(.istore 6, 0), (.aload_n 0, 0)] (by decide +kernel) rfl rfl ?_
  refine ef_getI (k := 127) (j := 83) rfl eL_12_340 (by decide) (by decide +kernel) ?_
  refine es_blk (pc' := 37) (L' := [some (.ref 127), some (.int p0), some (.int p1), some (.int p2), some (.int p3), some (.int p4), some (.int q6.1)]) (st' := [.int (-1), .int (q6.2.1 127 83)]) [(.iconst (-1), (-1))] (by decide +kernel) rfl rfl ?_
  refine ef_J (X := fun j7 => ∀ (s8 : eh_F), eh_Sim g eM_12_loads (eh_R 7 0 0) eh_eV 0 0 70 [none, none, none, none, none, none, none] [] (eh_FW s8) ((j7 s8).bind some)) ?_ (fun j7 Hj7 => ?_)
  · intro s8
    exact es_ret rfl rfl rfl ⟨by decide +kernel, rfl⟩ (Nat.le_refl _) (Nat.le_refl _)
  refine es_ine (tgt := 70) (off := (33)) (by decide +kernel) (by decide) (fun h9 => ?_) (fun h9 => ?_)
  · refine es_blk (pc' := 45) (L' := [some (.ref 127), some (.int p0), some (.int p1), some (.int p2), some (.int p3), some (.int p4), some (.int q6.1)]) (st' := [.int p2, .int p3, .int p0, .ref 127]) [(.aload_n 0, 0), (.iload_n 1, 0), (.iload 4, 0), (.iload_n 3, 0)] (by decide +kernel) rfl rfl ?_
    refine ef_J (X := fun j10 => ∀ (a11 : Int32), eh_Sim g eM_12_loads (eh_R 7 0 0) eh_eV 0 0 67 [none, none, none, none, none, none, none] [.int a11, .int p3, .int p0, .ref 127] (eh_FW q6.2) ((j10 a11).bind some)) ?_ (fun j10 Hj10 => ?_)
    · intro a11
      refine ef_veV (d := 2) (k := 127) (As := [.int p0, .int p3, .int a11]) (st := []) eV_12_set eK_12_426 (eS_12_set g q6.2 p0 p3 a11) rfl rfl (Nat.le_of_ble_eq_true rfl) rfl (Nat.le_of_ble_eq_true rfl) ⟨Nat.le_of_ble_eq_true rfl, Nat.le_of_ble_eq_true rfl⟩ ⟨Nat.le_refl _, Nat.le_refl _⟩ (by decide +kernel) (fun q12 _ => ?_)
      exact Hj7 _
    refine es_ne (tgt := 54) (off := (9)) (by decide +kernel) (by decide) (fun h13 => ?_) (fun h13 => ?_)
    · refine es_blk (pc' := 51) (L' := [some (.ref 127), some (.int p0), some (.int p1), some (.int p2), some (.int p3), some (.int p4), some (.int q6.1)]) (st' := [.int (eh_nb q6.1), .int p3, .int p0, .ref 127]) [(.iload 6, 0), (.i2b, 0)] (by decide +kernel) rfl rfl ?_
      refine es_goto (tgt := 67) (off := (16)) (by decide +kernel) (by decide) ?_
      refine ef_drop (L2 := [none, none, none, none, none, none, none]) [false, false, false, false, false, false, false] rfl rfl ?_
      exact Hj10 _
    refine es_blk (pc' := 56) (L' := [some (.ref 127), some (.int p0), some (.int p1), some (.int p2), some (.int p3), some (.int p4), some (.int q6.1)]) (st' := [.int 1, .int p2, .int p3, .int p0, .ref 127]) [(.iload_n 3, 0), (.iconst 1, 1)] (by decide +kernel) rfl rfl ?_
    refine es_ine (tgt := 65) (off := (9)) (by decide +kernel) (by decide) (fun h14 => ?_) (fun h14 => ?_)
    · refine es_blk (pc' := 62) (L' := [some (.ref 127), some (.int p0), some (.int p1), some (.int p2), some (.int p3), some (.int p4), some (.int q6.1)]) (st' := [.int (q6.1.toInt16.toInt32), .int p3, .int p0, .ref 127]) [(.iload 6, 0), (.i2s, 0)] (by decide +kernel) rfl rfl ?_
      refine es_goto (tgt := 67) (off := (5)) (by decide +kernel) (by decide) ?_
      refine ef_drop (L2 := [none, none, none, none, none, none, none]) [false, false, false, false, false, false, false] rfl rfl ?_
      exact Hj10 _
    refine es_blk (pc' := 67) (L' := [some (.ref 127), some (.int p0), some (.int p1), some (.int p2), some (.int p3), some (.int p4), some (.int q6.1)]) (st' := [.int q6.1, .int p3, .int p0, .ref 127]) [(.iload 6, 0)] (by decide +kernel) rfl rfl ?_
    refine ef_drop (L2 := [none, none, none, none, none, none, none]) [false, false, false, false, false, false, false] rfl rfl ?_
    exact Hj10 _
  refine ef_drop (L2 := [none, none, none, none, none, none, none]) [false, false, false, false, false, false, false] rfl rfl ?_
  exact Hj7 _
def eF_12_atomic (s : eh_F) (p0 : Int32) (p1 : Int32) (p2 : Int32) (p3 : Int32) (p4 : Int32) (p5 : Int32) (p6 : Int32) (p7 : Int32) : Option (eh_F) := eh_J (fun (a2 : Int32) => eh_J (fun (u4 : Unit) => Option.bind (eF_12_except s 2 p1) (fun q5 => some q5)) (fun j3 => if p3 = 2 then (if a2 = 0 then (j3 ()) else (eh_J (fun (u9 : Unit) => eh_J (fun (a11 : Int32) => Option.bind (eF_12_load s p0 p6 4 a11) (fun q12 => if (q12.2.1 127 83) = (-1) then (eh_J (fun (a15 : Int32) => Option.bind (eF_12_locate q12.2 p0 p6 4 a15) (fun q16 => eh_J (fun (s18 : eh_F) => some s18) (fun j17 => if p5 = 2 then (if eh_in p0 2 then eh_V (eh_tI q16.2 147 (eh_ix p0) q16.1) (fun s20 => Option.bind (eF_12_set s20 p0 p2 q12.1) (fun q21 => j17 q21)) else none) else (if p5 = 3 then (if eh_in p0 2 then eh_J (fun (a24 : Int32) => eh_J (fun (s26 : eh_F) => if eh_in p0 2 then eh_V (eh_tI s26 147 (eh_ix p0) (-1)) (fun s27 => eh_J (fun (a29 : Int32) => Option.bind (eF_12_set s27 p0 p2 a29) (fun q30 => j17 q30)) (fun j28 => if a24 = 0 then (j28 1) else (j28 0))) else none) (fun j25 => if a24 = 0 then (j25 q16.2) else (Option.bind (eF_12_storeAt q16.2 p0 q16.1 4 p7) (fun q33 => j25 q33)))) (fun j23 => if (q16.2.1 147 (eh_ix p0)) = q16.1 then (j23 1) else (j23 0)) else none) else (Option.bind (eF_12_joined q16.2 p5 q12.1 p7) (fun q35 => Option.bind (eF_12_storeAt q16.2 p0 q16.1 4 q35) (fun q36 => Option.bind (eF_12_set q36 p0 p2 q12.1) (fun q37 => j17 q37)))))))) (fun j14 => if p5 = 2 then (j14 1) else (j14 2))) else (some q12.2))) (fun j10 => if p5 = 2 then (j10 0) else (j10 1))) (fun j8 => if p5 = 2 then (if p4 = 0 then (j8 ()) else (j3 ())) else (j8 ())))) else (j3 ()))) (fun j1 => eh_J (fun (u43 : Unit) => j1 1) (fun j42 => if p5 < 5 then (j42 ()) else (if p5 = 8 then (j42 ()) else (if p5 = 12 then (j42 ()) else (if p5 = 16 then (j42 ()) else (if p5 = 20 then (j42 ()) else (if p5 = 24 then (j42 ()) else (if p5 = 28 then (j42 ()) else (j1 0)))))))))
set_option maxHeartbeats 4000000 in
set_option maxRecDepth 100000 in
theorem eS_12_atomic (g : eh_P) (s : eh_F) (p0 : Int32) (p1 : Int32) (p2 : Int32) (p3 : Int32) (p4 : Int32) (p5 : Int32) (p6 : Int32) (p7 : Int32) : eh_Sim g eM_12_atomic (eh_R 7 0 0) eh_eV 0 0 0 (eh_en 13 [.ref 127, .int p0, .int p1, .int p2, .int p3, .int p4, .int p5, .int p6, .int p7]) [] (eh_FW s) (eF_12_atomic s p0 p1 p2 p3 p4 p5 p6 p7) := by
  unfold eF_12_atomic
  refine ef_top (L := [some (.ref 127), some (.int p0), some (.int p1), some (.int p2), some (.int p3), some (.int p4), some (.int p5), some (.int p6), some (.int p7), none, none, none, none]) rfl ?_
  refine es_blk (pc' := 3) (L' := [some (.ref 127), some (.int p0), some (.int p1), some (.int p2), some (.int p3), some (.int p4), some (.int p5), some (.int p6), some (.int p7), none, none, none, none]) (st' := [.int 5, .int p5]) [(.iload 6, 0), (.iconst 5, 5)] (by decide +kernel) rfl rfl ?_
  refine ef_J (X := fun j1 => ∀ (a2 : Int32), eh_Sim g eM_12_atomic (eh_R 7 0 0) eh_eV 0 0 53 [some (.ref 127), some (.int p0), some (.int p1), some (.int p2), some (.int p3), some (.int p4), some (.int p5), some (.int p6), some (.int p7), none, none, none, none] [.int a2] (eh_FW s) ((j1 a2).bind some)) ?_ (fun j1 Hj1 => ?_)
  · intro a2
    refine es_blk (pc' := 58) (L' := [some (.ref 127), some (.int p0), some (.int p1), some (.int p2), some (.int p3), some (.int p4), some (.int p5), some (.int p6), some (.int p7), some (.int a2), none, none, none]) (st' := [.int 2, .int p3]) [(.istore 9, 0), (.iload 4, 0), (.iconst 2, 2)] (by decide +kernel) rfl rfl ?_
    refine ef_J (X := fun j3 => ∀ (u4 : Unit), eh_Sim g eM_12_atomic (eh_R 7 0 0) eh_eV 0 0 77 [some (.ref 127), none, some (.int p1), none, none, none, none, none, none, none, none, none, none] [] (eh_FW s) ((j3 u4).bind some)) ?_ (fun j3 Hj3 => ?_)
    · intro u4
      refine es_blk (pc' := 80) (L' := [some (.ref 127), none, some (.int p1), none, none, none, none, none, none, none, none, none, none]) (st' := [.int p1, .int 2, .ref 127]) [(.aload_n 0, 0), (.iconst 2, 2), (.iload_n 2, 0)] (by decide +kernel) rfl rfl ?_
      refine ef_veV (d := 1) (k := 127) (As := [.int 2, .int p1]) (st := []) eV_12_except eK_12_359 (eS_12_except g s 2 p1) rfl rfl (Nat.le_of_ble_eq_true rfl) rfl (Nat.le_of_ble_eq_true rfl) ⟨Nat.le_of_ble_eq_true rfl, Nat.le_of_ble_eq_true rfl⟩ ⟨Nat.le_refl _, Nat.le_refl _⟩ (by decide +kernel) (fun q5 _ => ?_)
      exact es_ret rfl rfl rfl ⟨by decide +kernel, rfl⟩ (Nat.le_refl _) (Nat.le_refl _)
    refine es_ine (tgt := 77) (off := (19)) (by decide +kernel) (by decide) (fun h6 => ?_) (fun h6 => ?_)
    · refine es_blk (pc' := 63) (L' := [some (.ref 127), some (.int p0), some (.int p1), some (.int p2), some (.int p3), some (.int p4), some (.int p5), some (.int p6), some (.int p7), some (.int a2), none, none, none]) (st' := [.int a2]) [(.iload 9, 0)] (by decide +kernel) rfl rfl ?_
      refine es_eq (tgt := 77) (off := (14)) (by decide +kernel) (by decide) (fun h7 => ?_) (fun h7 => ?_)
      · refine ef_drop (L2 := [some (.ref 127), none, some (.int p1), none, none, none, none, none, none, none, none, none, none]) [true, false, true, false, false, false, false, false, false, false, true, true, true] rfl rfl ?_
        exact Hj3 ()
      refine es_blk (pc' := 69) (L' := [some (.ref 127), some (.int p0), some (.int p1), some (.int p2), some (.int p3), some (.int p4), some (.int p5), some (.int p6), some (.int p7), some (.int a2), none, none, none]) (st' := [.int 2, .int p5]) [(.iload 6, 0), (.iconst 2, 2)] (by decide +kernel) rfl rfl ?_
      refine ef_J (X := fun j8 => ∀ (u9 : Unit), eh_Sim g eM_12_atomic (eh_R 7 0 0) eh_eV 0 0 84 [some (.ref 127), some (.int p0), none, some (.int p2), none, none, some (.int p5), some (.int p6), some (.int p7), none, none, none, none] [] (eh_FW s) ((j8 u9).bind some)) ?_ (fun j8 Hj8 => ?_)
      · intro u9
        refine es_blk (pc' := 92) (L' := [some (.ref 127), some (.int p0), none, some (.int p2), none, none, some (.int p5), some (.int p6), some (.int p7), none, none, none, none]) (st' := [.int 2, .int p5, .int 4, .int p6, .int p0, .ref 127]) [(.aload_n 0, 0), (.iload_n 1, 0), (.iload 7, 0), (.iconst 4, 4), (.iload 6, 0), (.iconst 2, 2)] (by decide +kernel) rfl rfl ?_
        refine ef_J (X := fun j10 => ∀ (a11 : Int32), eh_Sim g eM_12_atomic (eh_R 7 0 0) eh_eV 0 0 100 [some (.ref 127), some (.int p0), none, some (.int p2), none, none, some (.int p5), some (.int p6), some (.int p7), none, none, none, none] [.int a11, .int 4, .int p6, .int p0, .ref 127] (eh_FW s) ((j10 a11).bind some)) ?_ (fun j10 Hj10 => ?_)
        · intro a11
          refine ef_veI (d := 6) (k := 127) (As := [.int p0, .int p6, .int 4, .int a11]) (st := []) eV_12_load eK_12_461 (eS_12_load g s p0 p6 4 a11) rfl rfl (Nat.le_of_ble_eq_true rfl) rfl (Nat.le_of_ble_eq_true rfl) ⟨Nat.le_of_ble_eq_true rfl, Nat.le_of_ble_eq_true rfl⟩ ⟨Nat.le_refl _, Nat.le_refl _⟩ (by decide +kernel) (fun q12 _ => ?_)
          refine es_blk (pc' := 106) (L' := [some (.ref 127), some (.int p0), none, some (.int p2), none, none, some (.int p5), some (.int p6), some (.int p7), none, some (.int q12.1), none, none]) (st' := [.ref 127]) [(.istore 10, 0), (.aload_n 0, 0)] (by decide +kernel) rfl rfl ?_
          refine ef_getI (k := 127) (j := 83) rfl eL_12_340 (by decide) (by decide +kernel) ?_
          refine es_blk (pc' := 110) (L' := [some (.ref 127), some (.int p0), none, some (.int p2), none, none, some (.int p5), some (.int p6), some (.int p7), none, some (.int q12.1), none, none]) (st' := [.int (-1), .int (q12.2.1 127 83)]) [(.iconst (-1), (-1))] (by decide +kernel) rfl rfl ?_
          refine es_ieq (tgt := 114) (off := (4)) (by decide +kernel) (by decide) (fun h13 => ?_) (fun h13 => ?_)
          · refine es_blk (pc' := 122) (L' := [some (.ref 127), some (.int p0), none, some (.int p2), none, none, some (.int p5), some (.int p6), some (.int p7), none, some (.int q12.1), none, none]) (st' := [.int 2, .int p5, .int 4, .int p6, .int p0, .ref 127]) [(.aload_n 0, 0), (.iload_n 1, 0), (.iload 7, 0), (.iconst 4, 4), (.iload 6, 0), (.iconst 2, 2)] (by decide +kernel) rfl rfl ?_
            refine ef_J (X := fun j14 => ∀ (a15 : Int32), eh_Sim g eM_12_atomic (eh_R 7 0 0) eh_eV 0 0 130 [some (.ref 127), some (.int p0), none, some (.int p2), none, none, some (.int p5), none, some (.int p7), none, some (.int q12.1), none, none] [.int a15, .int 4, .int p6, .int p0, .ref 127] (eh_FW q12.2) ((j14 a15).bind some)) ?_ (fun j14 Hj14 => ?_)
            · intro a15
              refine ef_veI (d := 5) (k := 127) (As := [.int p0, .int p6, .int 4, .int a15]) (st := []) eV_12_locate eK_12_382 (eS_12_locate g q12.2 p0 p6 4 a15) rfl rfl (Nat.le_of_ble_eq_true rfl) rfl (Nat.le_of_ble_eq_true rfl) ⟨Nat.le_of_ble_eq_true rfl, Nat.le_of_ble_eq_true rfl⟩ ⟨Nat.le_refl _, Nat.le_refl _⟩ (by decide +kernel) (fun q16 _ => ?_)
              refine es_blk (pc' := 138) (L' := [some (.ref 127), some (.int p0), none, some (.int p2), none, none, some (.int p5), none, some (.int p7), none, some (.int q12.1), some (.int q16.1), none]) (st' := [.int 2, .int p5]) [(.istore 11, 0), (.iload 6, 0), (.iconst 2, 2)] (by decide +kernel) rfl rfl ?_
              refine ef_J (X := fun j17 => ∀ (s18 : eh_F), eh_Sim g eM_12_atomic (eh_R 7 0 0) eh_eV 0 0 250 [none, none, none, none, none, none, none, none, none, none, none, none, none] [] (eh_FW s18) ((j17 s18).bind some)) ?_ (fun j17 Hj17 => ?_)
              · intro s18
                exact es_ret rfl rfl rfl ⟨by decide +kernel, rfl⟩ (Nat.le_refl _) (Nat.le_refl _)
              refine es_ine (tgt := 160) (off := (22)) (by decide +kernel) (by decide) (fun h19 => ?_) (fun h19 => ?_)
              · refine es_blk (pc' := 142) (L' := [some (.ref 127), some (.int p0), none, some (.int p2), none, none, some (.int p5), none, some (.int p7), none, some (.int q12.1), some (.int q16.1), none]) (st' := [.ref 127]) [(.aload_n 0, 0)] (by decide +kernel) rfl rfl ?_
                refine ef_getP (k := 127) (j := 19) (q := 147) rfl eL_12_70 rfl rfl rfl (by decide +kernel) ?_
                refine es_blk (pc' := 148) (L' := [some (.ref 127), some (.int p0), none, some (.int p2), none, none, some (.int p5), none, some (.int p7), none, some (.int q12.1), some (.int q16.1), none]) (st' := [.int q16.1, .int p0, .ref 147]) [(.iload_n 1, 0), (.iload 11, 0)] (by decide +kernel) rfl rfl ?_
                refine ef_ast (k := 147) rfl (by decide +kernel) (fun _ => ?_)
                refine ef_V (fun _ => [some (.ref 127), some (.int p0), none, some (.int p2), none, none, some (.int p5), none, some (.int p7), none, some (.int q12.1), some (.int q16.1), none]) (fun _ => []) (fun s20 => eh_FW s20) (fun s20 => ?_)
                refine es_blk (pc' := 154) (L' := [some (.ref 127), some (.int p0), none, some (.int p2), none, none, some (.int p5), none, some (.int p7), none, some (.int q12.1), some (.int q16.1), none]) (st' := [.int q12.1, .int p2, .int p0, .ref 127]) [(.aload_n 0, 0), (.iload_n 1, 0), (.iload_n 3, 0), (.iload 10, 0)] (by decide +kernel) rfl rfl ?_
                refine ef_veV (d := 2) (k := 127) (As := [.int p0, .int p2, .int q12.1]) (st := []) eV_12_set eK_12_426 (eS_12_set g s20 p0 p2 q12.1) rfl rfl (Nat.le_of_ble_eq_true rfl) rfl (Nat.le_of_ble_eq_true rfl) ⟨Nat.le_of_ble_eq_true rfl, Nat.le_of_ble_eq_true rfl⟩ ⟨Nat.le_refl _, Nat.le_refl _⟩ (by decide +kernel) (fun q21 _ => ?_)
                refine es_goto (tgt := 250) (off := (93)) (by decide +kernel) (by decide) ?_
                refine ef_drop (L2 := [none, none, none, none, none, none, none, none, none, none, none, none, none]) [false, false, true, false, true, true, false, true, false, true, false, false, true] rfl rfl ?_
                exact Hj17 _
              refine es_blk (pc' := 163) (L' := [some (.ref 127), some (.int p0), none, some (.int p2), none, none, some (.int p5), none, some (.int p7), none, some (.int q12.1), some (.int q16.1), none]) (st' := [.int 3, .int p5]) [(.iload 6, 0), (.iconst 3, 3)] (by decide +kernel) rfl rfl ?_
              refine es_ine (tgt := 225) (off := (62)) (by decide +kernel) (by decide) (fun h22 => ?_) (fun h22 => ?_)
              · refine es_blk (pc' := 167) (L' := [some (.ref 127), some (.int p0), none, some (.int p2), none, none, some (.int p5), none, some (.int p7), none, some (.int q12.1), some (.int q16.1), none]) (st' := [.ref 127]) [(.aload_n 0, 0)] (by decide +kernel) rfl rfl ?_
                refine ef_getP (k := 127) (j := 19) (q := 147) rfl eL_12_70 rfl rfl rfl (by decide +kernel) ?_
                refine es_blk (pc' := 171) (L' := [some (.ref 127), some (.int p0), none, some (.int p2), none, none, some (.int p5), none, some (.int p7), none, some (.int q12.1), some (.int q16.1), none]) (st' := [.int p0, .ref 147]) [(.iload_n 1, 0)] (by decide +kernel) rfl rfl ?_
                refine ef_ald (k := 147) rfl (Or.inl ⟨rfl, rfl⟩) (by decide +kernel) (fun _ => ?_)
                refine es_blk (pc' := 174) (L' := [some (.ref 127), some (.int p0), none, some (.int p2), none, none, some (.int p5), none, some (.int p7), none, some (.int q12.1), some (.int q16.1), none]) (st' := [.int q16.1, .int (q16.2.1 147 (eh_ix p0))]) [(.iload 11, 0)] (by decide +kernel) rfl rfl ?_
                refine ef_J (X := fun j23 => ∀ (a24 : Int32), eh_Sim g eM_12_atomic (eh_R 7 0 0) eh_eV 0 0 182 [some (.ref 127), some (.int p0), none, some (.int p2), none, none, none, none, some (.int p7), none, none, some (.int q16.1), none] [.int a24] (eh_FW q16.2) ((j23 a24).bind some)) ?_ (fun j23 Hj23 => ?_)
                · intro a24
                  refine es_blk (pc' := 186) (L' := [some (.ref 127), some (.int p0), none, some (.int p2), none, none, none, none, some (.int p7), none, none, some (.int q16.1), some (.int a24)]) (st' := [.int a24]) [(.istore 12, 0), (.iload 12, 0)] (by decide +kernel) rfl rfl ?_
                  refine ef_J (X := fun j25 => ∀ (s26 : eh_F), eh_Sim g eM_12_atomic (eh_R 7 0 0) eh_eV 0 0 199 [some (.ref 127), some (.int p0), none, some (.int p2), none, none, none, none, none, none, none, none, some (.int a24)] [] (eh_FW s26) ((j25 s26).bind some)) ?_ (fun j25 Hj25 => ?_)
                  · intro s26
                    refine es_blk (pc' := 200) (L' := [some (.ref 127), some (.int p0), none, some (.int p2), none, none, none, none, none, none, none, none, some (.int a24)]) (st' := [.ref 127]) [(.aload_n 0, 0)] (by decide +kernel) rfl rfl ?_
                    refine ef_getP (k := 127) (j := 19) (q := 147) rfl eL_12_70 rfl rfl rfl (by decide +kernel) ?_
                    refine es_blk (pc' := 205) (L' := [some (.ref 127), some (.int p0), none, some (.int p2), none, none, none, none, none, none, none, none, some (.int a24)]) (st' := [.int (-1), .int p0, .ref 147]) [(.iload_n 1, 0), (.iconst (-1), (-1))] (by decide +kernel) rfl rfl ?_
                    refine ef_ast (k := 147) rfl (by decide +kernel) (fun _ => ?_)
                    refine ef_V (fun _ => [some (.ref 127), some (.int p0), none, some (.int p2), none, none, none, none, none, none, none, none, some (.int a24)]) (fun _ => []) (fun s27 => eh_FW s27) (fun s27 => ?_)
                    refine es_blk (pc' := 211) (L' := [some (.ref 127), some (.int p0), none, some (.int p2), none, none, none, none, none, none, none, none, some (.int a24)]) (st' := [.int a24, .int p2, .int p0, .ref 127]) [(.aload_n 0, 0), (.iload_n 1, 0), (.iload_n 3, 0), (.iload 12, 0)] (by decide +kernel) rfl rfl ?_
                    refine ef_J (X := fun j28 => ∀ (a29 : Int32), eh_Sim g eM_12_atomic (eh_R 7 0 0) eh_eV 0 0 219 [none, none, none, none, none, none, none, none, none, none, none, none, none] [.int a29, .int p2, .int p0, .ref 127] (eh_FW s27) ((j28 a29).bind some)) ?_ (fun j28 Hj28 => ?_)
                    · intro a29
                      refine ef_veV (d := 2) (k := 127) (As := [.int p0, .int p2, .int a29]) (st := []) eV_12_set eK_12_426 (eS_12_set g s27 p0 p2 a29) rfl rfl (Nat.le_of_ble_eq_true rfl) rfl (Nat.le_of_ble_eq_true rfl) ⟨Nat.le_of_ble_eq_true rfl, Nat.le_of_ble_eq_true rfl⟩ ⟨Nat.le_refl _, Nat.le_refl _⟩ (by decide +kernel) (fun q30 _ => ?_)
                      refine es_goto (tgt := 250) (off := (28)) (by decide +kernel) (by decide) ?_
                      exact Hj17 _
                    refine es_eq (tgt := 218) (off := (7)) (by decide +kernel) (by decide) (fun h31 => ?_) (fun h31 => ?_)
                    · refine es_blk (pc' := 219) (L' := [some (.ref 127), some (.int p0), none, some (.int p2), none, none, none, none, none, none, none, none, some (.int a24)]) (st' := [.int 1, .int p2, .int p0, .ref 127]) [(.iconst 1, 1)] (by decide +kernel) rfl rfl ?_
                      refine ef_drop (L2 := [none, none, none, none, none, none, none, none, none, none, none, none, none]) [false, false, true, false, true, true, true, true, true, true, true, true, false] rfl rfl ?_
                      exact Hj28 _
                    refine es_blk (pc' := 215) (L' := [some (.ref 127), some (.int p0), none, some (.int p2), none, none, none, none, none, none, none, none, some (.int a24)]) (st' := [.int 0, .int p2, .int p0, .ref 127]) [(.iconst 0, 0)] (by decide +kernel) rfl rfl ?_
                    refine es_goto (tgt := 219) (off := (4)) (by decide +kernel) (by decide) ?_
                    refine ef_drop (L2 := [none, none, none, none, none, none, none, none, none, none, none, none, none]) [false, false, true, false, true, true, true, true, true, true, true, true, false] rfl rfl ?_
                    exact Hj28 _
                  refine es_eq (tgt := 199) (off := (13)) (by decide +kernel) (by decide) (fun h32 => ?_) (fun h32 => ?_)
                  · refine ef_drop (L2 := [some (.ref 127), some (.int p0), none, some (.int p2), none, none, none, none, none, none, none, none, some (.int a24)]) [true, true, true, true, true, true, true, true, false, true, true, false, true] rfl rfl ?_
                    exact Hj25 _
                  refine es_blk (pc' := 196) (L' := [some (.ref 127), some (.int p0), none, some (.int p2), none, none, none, none, some (.int p7), none, none, some (.int q16.1), some (.int a24)]) (st' := [.int p7, .int 4, .int q16.1, .int p0, .ref 127]) [(.aload_n 0, 0), (.iload_n 1, 0), (.iload 11, 0), (.iconst 4, 4), (.iload 8, 0)] (by decide +kernel) rfl rfl ?_
                  refine ef_veV (d := 2) (k := 127) (As := [.int p0, .int q16.1, .int 4, .int p7]) (st := []) eV_12_storeAt eK_12_386 (eS_12_storeAt g q16.2 p0 q16.1 4 p7) rfl rfl (Nat.le_of_ble_eq_true rfl) rfl (Nat.le_of_ble_eq_true rfl) ⟨Nat.le_of_ble_eq_true rfl, Nat.le_of_ble_eq_true rfl⟩ ⟨Nat.le_refl _, Nat.le_refl _⟩ (by decide +kernel) (fun q33 _ => ?_)
                  refine ef_drop (L2 := [some (.ref 127), some (.int p0), none, some (.int p2), none, none, none, none, none, none, none, none, some (.int a24)]) [true, true, true, true, true, true, true, true, false, true, true, false, true] rfl rfl ?_
                  exact Hj25 _
                refine es_ine (tgt := 181) (off := (7)) (by decide +kernel) (by decide) (fun h34 => ?_) (fun h34 => ?_)
                · refine es_blk (pc' := 178) (L' := [some (.ref 127), some (.int p0), none, some (.int p2), none, none, some (.int p5), none, some (.int p7), none, some (.int q12.1), some (.int q16.1), none]) (st' := [.int 1]) [(.iconst 1, 1)] (by decide +kernel) rfl rfl ?_
                  refine es_goto (tgt := 182) (off := (4)) (by decide +kernel) (by decide) ?_
                  refine ef_drop (L2 := [some (.ref 127), some (.int p0), none, some (.int p2), none, none, none, none, some (.int p7), none, none, some (.int q16.1), none]) [true, true, true, true, true, true, false, true, true, true, false, true, true] rfl rfl ?_
                  exact Hj23 _
                refine es_blk (pc' := 182) (L' := [some (.ref 127), some (.int p0), none, some (.int p2), none, none, some (.int p5), none, some (.int p7), none, some (.int q12.1), some (.int q16.1), none]) (st' := [.int 0]) [(.iconst 0, 0)] (by decide +kernel) rfl rfl ?_
                refine ef_drop (L2 := [some (.ref 127), some (.int p0), none, some (.int p2), none, none, none, none, some (.int p7), none, none, some (.int q16.1), none]) [true, true, true, true, true, true, false, true, true, true, false, true, true] rfl rfl ?_
                exact Hj23 _
              refine es_blk (pc' := 236) (L' := [some (.ref 127), some (.int p0), none, some (.int p2), none, none, some (.int p5), none, some (.int p7), none, some (.int q12.1), some (.int q16.1), none]) (st' := [.int p7, .int q12.1, .int p5, .int 4, .int q16.1, .int p0, .ref 127]) [(.aload_n 0, 0), (.iload_n 1, 0), (.iload 11, 0), (.iconst 4, 4), (.iload 6, 0), (.iload 10, 0), (.iload 8, 0)] (by decide +kernel) rfl rfl ?_
              refine ef_spI (d := 3) (As := [.int p5, .int q12.1, .int p7]) (st := [.int 4, .int q16.1, .int p0, .ref 127]) eV_12_joined eK_12_472 (eS_12_joined g q16.2 p5 q12.1 p7) rfl (Nat.le_of_ble_eq_true rfl) rfl (Nat.le_of_ble_eq_true rfl) ⟨Nat.le_of_ble_eq_true rfl, Nat.le_of_ble_eq_true rfl⟩ ⟨Nat.le_refl _, Nat.le_refl _⟩ (by decide +kernel) (fun q35 _ => ?_)
              refine ef_veV (d := 2) (k := 127) (As := [.int p0, .int q16.1, .int 4, .int q35]) (st := []) eV_12_storeAt eK_12_386 (eS_12_storeAt g q16.2 p0 q16.1 4 q35) rfl rfl (Nat.le_of_ble_eq_true rfl) rfl (Nat.le_of_ble_eq_true rfl) ⟨Nat.le_of_ble_eq_true rfl, Nat.le_of_ble_eq_true rfl⟩ ⟨Nat.le_refl _, Nat.le_refl _⟩ (by decide +kernel) (fun q36 _ => ?_)
              refine es_blk (pc' := 247) (L' := [some (.ref 127), some (.int p0), none, some (.int p2), none, none, some (.int p5), none, some (.int p7), none, some (.int q12.1), some (.int q16.1), none]) (st' := [.int q12.1, .int p2, .int p0, .ref 127]) [(.aload_n 0, 0), (.iload_n 1, 0), (.iload_n 3, 0), (.iload 10, 0)] (by decide +kernel) rfl rfl ?_
              refine ef_veV (d := 2) (k := 127) (As := [.int p0, .int p2, .int q12.1]) (st := []) eV_12_set eK_12_426 (eS_12_set g q36 p0 p2 q12.1) rfl rfl (Nat.le_of_ble_eq_true rfl) rfl (Nat.le_of_ble_eq_true rfl) ⟨Nat.le_of_ble_eq_true rfl, Nat.le_of_ble_eq_true rfl⟩ ⟨Nat.le_refl _, Nat.le_refl _⟩ (by decide +kernel) (fun q37 _ => ?_)
              refine ef_drop (L2 := [none, none, none, none, none, none, none, none, none, none, none, none, none]) [false, false, true, false, true, true, false, true, false, true, false, false, true] rfl rfl ?_
              exact Hj17 _
            refine es_ine (tgt := 129) (off := (7)) (by decide +kernel) (by decide) (fun h38 => ?_) (fun h38 => ?_)
            · refine es_blk (pc' := 126) (L' := [some (.ref 127), some (.int p0), none, some (.int p2), none, none, some (.int p5), some (.int p6), some (.int p7), none, some (.int q12.1), none, none]) (st' := [.int 1, .int 4, .int p6, .int p0, .ref 127]) [(.iconst 1, 1)] (by decide +kernel) rfl rfl ?_
              refine es_goto (tgt := 130) (off := (4)) (by decide +kernel) (by decide) ?_
              refine ef_drop (L2 := [some (.ref 127), some (.int p0), none, some (.int p2), none, none, some (.int p5), none, some (.int p7), none, some (.int q12.1), none, none]) [true, true, true, true, true, true, true, false, true, true, true, true, true] rfl rfl ?_
              exact Hj14 _
            refine es_blk (pc' := 130) (L' := [some (.ref 127), some (.int p0), none, some (.int p2), none, none, some (.int p5), some (.int p6), some (.int p7), none, some (.int q12.1), none, none]) (st' := [.int 2, .int 4, .int p6, .int p0, .ref 127]) [(.iconst 2, 2)] (by decide +kernel) rfl rfl ?_
            refine ef_drop (L2 := [some (.ref 127), some (.int p0), none, some (.int p2), none, none, some (.int p5), none, some (.int p7), none, some (.int q12.1), none, none]) [true, true, true, true, true, true, true, false, true, true, true, true, true] rfl rfl ?_
            exact Hj14 _
          exact es_ret rfl rfl rfl ⟨by decide +kernel, rfl⟩ (Nat.le_refl _) (Nat.le_refl _)
        refine es_ieq (tgt := 99) (off := (7)) (by decide +kernel) (by decide) (fun h39 => ?_) (fun h39 => ?_)
        · refine es_blk (pc' := 100) (L' := [some (.ref 127), some (.int p0), none, some (.int p2), none, none, some (.int p5), some (.int p6), some (.int p7), none, none, none, none]) (st' := [.int 0, .int 4, .int p6, .int p0, .ref 127]) [(.iconst 0, 0)] (by decide +kernel) rfl rfl ?_
          exact Hj10 _
        refine es_blk (pc' := 96) (L' := [some (.ref 127), some (.int p0), none, some (.int p2), none, none, some (.int p5), some (.int p6), some (.int p7), none, none, none, none]) (st' := [.int 1, .int 4, .int p6, .int p0, .ref 127]) [(.iconst 1, 1)] (by decide +kernel) rfl rfl ?_
        refine es_goto (tgt := 100) (off := (4)) (by decide +kernel) (by decide) ?_
        exact Hj10 _
      refine es_ine (tgt := 84) (off := (15)) (by decide +kernel) (by decide) (fun h40 => ?_) (fun h40 => ?_)
      · refine es_blk (pc' := 74) (L' := [some (.ref 127), some (.int p0), some (.int p1), some (.int p2), some (.int p3), some (.int p4), some (.int p5), some (.int p6), some (.int p7), some (.int a2), none, none, none]) (st' := [.int p4]) [(.iload 5, 0)] (by decide +kernel) rfl rfl ?_
        refine es_eq (tgt := 84) (off := (10)) (by decide +kernel) (by decide) (fun h41 => ?_) (fun h41 => ?_)
        · refine ef_drop (L2 := [some (.ref 127), some (.int p0), none, some (.int p2), none, none, some (.int p5), some (.int p6), some (.int p7), none, none, none, none]) [true, true, false, true, false, false, true, true, true, false, true, true, true] rfl rfl ?_
          exact Hj8 ()
        refine ef_drop (L2 := [some (.ref 127), none, some (.int p1), none, none, none, none, none, none, none, none, none, none]) [true, false, true, false, false, false, false, false, false, false, true, true, true] rfl rfl ?_
        exact Hj3 ()
      refine ef_drop (L2 := [some (.ref 127), some (.int p0), none, some (.int p2), none, none, some (.int p5), some (.int p6), some (.int p7), none, none, none, none]) [true, true, false, true, false, false, true, true, true, false, true, true, true] rfl rfl ?_
      exact Hj8 ()
    refine ef_drop (L2 := [some (.ref 127), none, some (.int p1), none, none, none, none, none, none, none, none, none, none]) [true, false, true, false, false, false, false, false, false, false, true, true, true] rfl rfl ?_
    exact Hj3 ()
  refine ef_J (X := fun j42 => ∀ (u43 : Unit), eh_Sim g eM_12_atomic (eh_R 7 0 0) eh_eV 0 0 48 [some (.ref 127), some (.int p0), some (.int p1), some (.int p2), some (.int p3), some (.int p4), some (.int p5), some (.int p6), some (.int p7), none, none, none, none] [] (eh_FW s) ((j42 u43).bind some)) ?_ (fun j42 Hj42 => ?_)
  · intro u43
    refine es_blk (pc' := 49) (L' := [some (.ref 127), some (.int p0), some (.int p1), some (.int p2), some (.int p3), some (.int p4), some (.int p5), some (.int p6), some (.int p7), none, none, none, none]) (st' := [.int 1]) [(.iconst 1, 1)] (by decide +kernel) rfl rfl ?_
    refine es_goto (tgt := 53) (off := (4)) (by decide +kernel) (by decide) ?_
    exact Hj1 _
  refine es_ilt (tgt := 48) (off := (45)) (by decide +kernel) (by decide) (fun h44 => ?_) (fun h44 => ?_)
  · exact Hj42 ()
  refine es_blk (pc' := 10) (L' := [some (.ref 127), some (.int p0), some (.int p1), some (.int p2), some (.int p3), some (.int p4), some (.int p5), some (.int p6), some (.int p7), none, none, none, none]) (st' := [.int 8, .int p5]) [(.iload 6, 0), (.bipush 8, 8)] (by decide +kernel) rfl rfl ?_
  refine es_ieq (tgt := 48) (off := (38)) (by decide +kernel) (by decide) (fun h45 => ?_) (fun h45 => ?_)
  · exact Hj42 ()
  refine es_blk (pc' := 17) (L' := [some (.ref 127), some (.int p0), some (.int p1), some (.int p2), some (.int p3), some (.int p4), some (.int p5), some (.int p6), some (.int p7), none, none, none, none]) (st' := [.int 12, .int p5]) [(.iload 6, 0), (.bipush 12, 12)] (by decide +kernel) rfl rfl ?_
  refine es_ieq (tgt := 48) (off := (31)) (by decide +kernel) (by decide) (fun h46 => ?_) (fun h46 => ?_)
  · exact Hj42 ()
  refine es_blk (pc' := 24) (L' := [some (.ref 127), some (.int p0), some (.int p1), some (.int p2), some (.int p3), some (.int p4), some (.int p5), some (.int p6), some (.int p7), none, none, none, none]) (st' := [.int 16, .int p5]) [(.iload 6, 0), (.bipush 16, 16)] (by decide +kernel) rfl rfl ?_
  refine es_ieq (tgt := 48) (off := (24)) (by decide +kernel) (by decide) (fun h47 => ?_) (fun h47 => ?_)
  · exact Hj42 ()
  refine es_blk (pc' := 31) (L' := [some (.ref 127), some (.int p0), some (.int p1), some (.int p2), some (.int p3), some (.int p4), some (.int p5), some (.int p6), some (.int p7), none, none, none, none]) (st' := [.int 20, .int p5]) [(.iload 6, 0), (.bipush 20, 20)] (by decide +kernel) rfl rfl ?_
  refine es_ieq (tgt := 48) (off := (17)) (by decide +kernel) (by decide) (fun h48 => ?_) (fun h48 => ?_)
  · exact Hj42 ()
  refine es_blk (pc' := 38) (L' := [some (.ref 127), some (.int p0), some (.int p1), some (.int p2), some (.int p3), some (.int p4), some (.int p5), some (.int p6), some (.int p7), none, none, none, none]) (st' := [.int 24, .int p5]) [(.iload 6, 0), (.bipush 24, 24)] (by decide +kernel) rfl rfl ?_
  refine es_ieq (tgt := 48) (off := (10)) (by decide +kernel) (by decide) (fun h49 => ?_) (fun h49 => ?_)
  · exact Hj42 ()
  refine es_blk (pc' := 45) (L' := [some (.ref 127), some (.int p0), some (.int p1), some (.int p2), some (.int p3), some (.int p4), some (.int p5), some (.int p6), some (.int p7), none, none, none, none]) (st' := [.int 28, .int p5]) [(.iload 6, 0), (.bipush 28, 28)] (by decide +kernel) rfl rfl ?_
  refine es_ine (tgt := 52) (off := (7)) (by decide +kernel) (by decide) (fun h50 => ?_) (fun h50 => ?_)
  · exact Hj42 ()
  refine es_blk (pc' := 53) (L' := [some (.ref 127), some (.int p0), some (.int p1), some (.int p2), some (.int p3), some (.int p4), some (.int p5), some (.int p6), some (.int p7), none, none, none, none]) (st' := [.int 0]) [(.iconst 0, 0)] (by decide +kernel) rfl rfl ?_
  exact Hj1 _
def eF_12_systemCall (s : eh_F) (p0 : Int32) (p1 : Int32) (p2 : Int32) (p3 : Int32) (p4 : Int32) (p5 : Int32) : Option (Int32 × eh_F) := eh_V (eh_tI s 127 86 0) (fun s1 => Option.bind (eF_12_asked s1 p0 p1 p2 p3 p4 p5) (fun q2 => eh_J (fun (s4 : eh_F) => some (q2.1, s4)) (fun j3 => if q2.1 < 0 then (j3 q2.2) else (eh_J (fun (u7 : Unit) => Option.bind (eF_12_begin q2.2 6) (fun q8 => Option.bind (eF_12_addBytes q8 6 187 32 0 32) (fun q9 => Option.bind (eF_12_addNumber q9 6 p1) (fun q10 => Option.bind (eF_12_addNumber q10 6 p2) (fun q11 => Option.bind (eF_12_addNumber q11 6 p3) (fun q12 => Option.bind (eF_12_addNumber q12 6 p4) (fun q13 => Option.bind (eF_12_addNumber q13 6 p5) (fun q14 => Option.bind (eF_12_finish q14 6 187 32 0) (fun q15 => j3 q15))))))))) (fun j6 => eh_J (fun (u17 : Unit) => if p1 = 19 then (j6 ()) else (if p1 = 20 then (j6 ()) else (j3 q2.2))) (fun j16 => if p1 < 1 then (j16 ()) else (if 11 < p1 then (j16 ()) else (j6 ()))))))))
set_option maxHeartbeats 4000000 in
set_option maxRecDepth 100000 in
theorem eS_12_systemCall (g : eh_P) (s : eh_F) (p0 : Int32) (p1 : Int32) (p2 : Int32) (p3 : Int32) (p4 : Int32) (p5 : Int32) : eh_Sim g eM_12_systemCall (eh_R 7 0 0) eh_eI 0 0 0 (eh_en 8 [.ref 127, .int p0, .int p1, .int p2, .int p3, .int p4, .int p5]) [] (eh_FW s) (eF_12_systemCall s p0 p1 p2 p3 p4 p5) := by
  unfold eF_12_systemCall
  refine ef_top (L := [some (.ref 127), some (.int p0), some (.int p1), some (.int p2), some (.int p3), some (.int p4), some (.int p5), none]) rfl ?_
  refine es_blk (pc' := 2) (L' := [some (.ref 127), some (.int p0), some (.int p1), some (.int p2), some (.int p3), some (.int p4), some (.int p5), none]) (st' := [.int 0, .ref 127]) [(.aload_n 0, 0), (.iconst 0, 0)] (by decide +kernel) rfl rfl ?_
  refine ef_putZc (k := 127) (j := 86) rfl eL_12_414 rfl rfl (by decide) (by decide +kernel) ?_
  refine ef_V (fun _ => [some (.ref 127), some (.int p0), some (.int p1), some (.int p2), some (.int p3), some (.int p4), some (.int p5), none]) (fun _ => []) (fun s1 => eh_FW s1) (fun s1 => ?_)
  refine es_blk (pc' := 15) (L' := [some (.ref 127), some (.int p0), some (.int p1), some (.int p2), some (.int p3), some (.int p4), some (.int p5), none]) (st' := [.int p5, .int p4, .int p3, .int p2, .int p1, .int p0, .ref 127]) [(.aload_n 0, 0), (.iload_n 1, 0), (.iload_n 2, 0), (.iload_n 3, 0), (.iload 4, 0), (.iload 5, 0), (.iload 6, 0)] (by decide +kernel) rfl rfl ?_
  refine ef_veI (d := 6) (k := 127) (As := [.int p0, .int p1, .int p2, .int p3, .int p4, .int p5]) (st := []) eV_12_asked eK_12_513 (eS_12_asked g s1 p0 p1 p2 p3 p4 p5) rfl rfl (Nat.le_of_ble_eq_true rfl) rfl (Nat.le_of_ble_eq_true rfl) ⟨Nat.le_of_ble_eq_true rfl, Nat.le_of_ble_eq_true rfl⟩ ⟨Nat.le_refl _, Nat.le_refl _⟩ (by decide +kernel) (fun q2 _ => ?_)
  refine es_blk (pc' := 22) (L' := [some (.ref 127), some (.int p0), some (.int p1), some (.int p2), some (.int p3), some (.int p4), some (.int p5), some (.int q2.1)]) (st' := [.int q2.1]) [(.istore 7, 0), (.iload 7, 0)] (by decide +kernel) rfl rfl ?_
  refine ef_J (X := fun j3 => ∀ (s4 : eh_F), eh_Sim g eM_12_systemCall (eh_R 7 0 0) eh_eI 0 0 116 [none, none, none, none, none, none, none, some (.int q2.1)] [] (eh_FW s4) ((j3 s4).bind some)) ?_ (fun j3 Hj3 => ?_)
  · intro s4
    refine es_blk (pc' := 118) (L' := [none, none, none, none, none, none, none, some (.int q2.1)]) (st' := [.int q2.1]) [(.iload 7, 0)] (by decide +kernel) rfl rfl ?_
    exact es_ret rfl rfl rfl ⟨by decide +kernel, _, rfl, rfl⟩ (Nat.le_refl _) (Nat.le_refl _)
  refine es_lt (tgt := 116) (off := (94)) (by decide +kernel) (by decide) (fun h5 => ?_) (fun h5 => ?_)
  · refine ef_drop (L2 := [none, none, none, none, none, none, none, some (.int q2.1)]) [false, false, false, false, false, false, false, true] rfl rfl ?_
    exact Hj3 _
  refine es_blk (pc' := 27) (L' := [some (.ref 127), some (.int p0), some (.int p1), some (.int p2), some (.int p3), some (.int p4), some (.int p5), some (.int q2.1)]) (st' := [.int 1, .int p1]) [(.iload_n 2, 0), (.iconst 1, 1)] (by decide +kernel) rfl rfl ?_
  refine ef_J (X := fun j6 => ∀ (u7 : Unit), eh_Sim g eM_12_systemCall (eh_R 7 0 0) eh_eI 0 0 48 [some (.ref 127), none, some (.int p1), some (.int p2), some (.int p3), some (.int p4), some (.int p5), some (.int q2.1)] [] (eh_FW q2.2) ((j6 u7).bind some)) ?_ (fun j6 Hj6 => ?_)
  · intro u7
    refine es_blk (pc' := 51) (L' := [some (.ref 127), none, some (.int p1), some (.int p2), some (.int p3), some (.int p4), some (.int p5), some (.int q2.1)]) (st' := [.int 6, .ref 127]) [(.aload_n 0, 0), (.bipush 6, 6)] (by decide +kernel) rfl rfl ?_
    refine ef_veV (d := 1) (k := 127) (As := [.int 6]) (st := []) eV_12_begin eK_12_218 (eS_12_begin g q2.2 6) rfl rfl (Nat.le_of_ble_eq_true rfl) rfl (Nat.le_of_ble_eq_true rfl) ⟨Nat.le_of_ble_eq_true rfl, Nat.le_of_ble_eq_true rfl⟩ ⟨Nat.le_refl _, Nat.le_refl _⟩ (by decide +kernel) (fun q8 _ => ?_)
    refine es_blk (pc' := 58) (L' := [some (.ref 127), none, some (.int p1), some (.int p2), some (.int p3), some (.int p4), some (.int p5), some (.int q2.1)]) (st' := [.ref 127, .int 6, .ref 127]) [(.aload_n 0, 0), (.bipush 6, 6), (.aload_n 0, 0)] (by decide +kernel) rfl rfl ?_
    refine ef_getP (k := 127) (j := 73) (q := 187) rfl eL_12_190 rfl rfl rfl (by decide +kernel) ?_
    refine es_blk (pc' := 64) (L' := [some (.ref 127), none, some (.int p1), some (.int p2), some (.int p3), some (.int p4), some (.int p5), some (.int q2.1)]) (st' := [.int 32, .int 0, .ref 187, .int 6, .ref 127]) [(.iconst 0, 0), (.bipush 32, 32)] (by decide +kernel) rfl rfl ?_
    refine ef_veV (d := 4) (k := 127) (As := [.int 6, .ref 187, .int 0, .int 32]) (st := []) eV_12_addBytes eK_12_262 (eS_12_addBytes g q8 6 187 32 0 32 rfl) rfl rfl (Nat.le_of_ble_eq_true rfl) rfl (Nat.le_of_ble_eq_true rfl) ⟨Nat.le_of_ble_eq_true rfl, Nat.le_of_ble_eq_true rfl⟩ ⟨Nat.le_refl _, Nat.le_refl _⟩ (by decide +kernel) (fun q9 _ => ?_)
    refine es_blk (pc' := 71) (L' := [some (.ref 127), none, some (.int p1), some (.int p2), some (.int p3), some (.int p4), some (.int p5), some (.int q2.1)]) (st' := [.int p1, .int 6, .ref 127]) [(.aload_n 0, 0), (.bipush 6, 6), (.iload_n 2, 0)] (by decide +kernel) rfl rfl ?_
    refine ef_veV (d := 4) (k := 127) (As := [.int 6, .int p1]) (st := []) eV_12_addNumber eK_12_222 (eS_12_addNumber g q9 6 p1) rfl rfl (Nat.le_of_ble_eq_true rfl) rfl (Nat.le_of_ble_eq_true rfl) ⟨Nat.le_of_ble_eq_true rfl, Nat.le_of_ble_eq_true rfl⟩ ⟨Nat.le_refl _, Nat.le_refl _⟩ (by decide +kernel) (fun q10 _ => ?_)
    refine es_blk (pc' := 78) (L' := [some (.ref 127), none, some (.int p1), some (.int p2), some (.int p3), some (.int p4), some (.int p5), some (.int q2.1)]) (st' := [.int p2, .int 6, .ref 127]) [(.aload_n 0, 0), (.bipush 6, 6), (.iload_n 3, 0)] (by decide +kernel) rfl rfl ?_
    refine ef_veV (d := 4) (k := 127) (As := [.int 6, .int p2]) (st := []) eV_12_addNumber eK_12_222 (eS_12_addNumber g q10 6 p2) rfl rfl (Nat.le_of_ble_eq_true rfl) rfl (Nat.le_of_ble_eq_true rfl) ⟨Nat.le_of_ble_eq_true rfl, Nat.le_of_ble_eq_true rfl⟩ ⟨Nat.le_refl _, Nat.le_refl _⟩ (by decide +kernel) (fun q11 _ => ?_)
    refine es_blk (pc' := 86) (L' := [some (.ref 127), none, some (.int p1), some (.int p2), some (.int p3), some (.int p4), some (.int p5), some (.int q2.1)]) (st' := [.int p3, .int 6, .ref 127]) [(.aload_n 0, 0), (.bipush 6, 6), (.iload 4, 0)] (by decide +kernel) rfl rfl ?_
    refine ef_veV (d := 4) (k := 127) (As := [.int 6, .int p3]) (st := []) eV_12_addNumber eK_12_222 (eS_12_addNumber g q11 6 p3) rfl rfl (Nat.le_of_ble_eq_true rfl) rfl (Nat.le_of_ble_eq_true rfl) ⟨Nat.le_of_ble_eq_true rfl, Nat.le_of_ble_eq_true rfl⟩ ⟨Nat.le_refl _, Nat.le_refl _⟩ (by decide +kernel) (fun q12 _ => ?_)
    refine es_blk (pc' := 94) (L' := [some (.ref 127), none, some (.int p1), some (.int p2), some (.int p3), some (.int p4), some (.int p5), some (.int q2.1)]) (st' := [.int p4, .int 6, .ref 127]) [(.aload_n 0, 0), (.bipush 6, 6), (.iload 5, 0)] (by decide +kernel) rfl rfl ?_
    refine ef_veV (d := 4) (k := 127) (As := [.int 6, .int p4]) (st := []) eV_12_addNumber eK_12_222 (eS_12_addNumber g q12 6 p4) rfl rfl (Nat.le_of_ble_eq_true rfl) rfl (Nat.le_of_ble_eq_true rfl) ⟨Nat.le_of_ble_eq_true rfl, Nat.le_of_ble_eq_true rfl⟩ ⟨Nat.le_refl _, Nat.le_refl _⟩ (by decide +kernel) (fun q13 _ => ?_)
    refine es_blk (pc' := 102) (L' := [some (.ref 127), none, some (.int p1), some (.int p2), some (.int p3), some (.int p4), some (.int p5), some (.int q2.1)]) (st' := [.int p5, .int 6, .ref 127]) [(.aload_n 0, 0), (.bipush 6, 6), (.iload 6, 0)] (by decide +kernel) rfl rfl ?_
    refine ef_veV (d := 4) (k := 127) (As := [.int 6, .int p5]) (st := []) eV_12_addNumber eK_12_222 (eS_12_addNumber g q13 6 p5) rfl rfl (Nat.le_of_ble_eq_true rfl) rfl (Nat.le_of_ble_eq_true rfl) ⟨Nat.le_of_ble_eq_true rfl, Nat.le_of_ble_eq_true rfl⟩ ⟨Nat.le_refl _, Nat.le_refl _⟩ (by decide +kernel) (fun q14 _ => ?_)
    refine es_blk (pc' := 109) (L' := [some (.ref 127), none, some (.int p1), some (.int p2), some (.int p3), some (.int p4), some (.int p5), some (.int q2.1)]) (st' := [.ref 127, .int 6, .ref 127]) [(.aload_n 0, 0), (.bipush 6, 6), (.aload_n 0, 0)] (by decide +kernel) rfl rfl ?_
    refine ef_getP (k := 127) (j := 73) (q := 187) rfl eL_12_190 rfl rfl rfl (by decide +kernel) ?_
    refine es_blk (pc' := 113) (L' := [some (.ref 127), none, some (.int p1), some (.int p2), some (.int p3), some (.int p4), some (.int p5), some (.int q2.1)]) (st' := [.int 0, .ref 187, .int 6, .ref 127]) [(.iconst 0, 0)] (by decide +kernel) rfl rfl ?_
    refine ef_veV (d := 4) (k := 127) (As := [.int 6, .ref 187, .int 0]) (st := []) eV_12_finish eK_12_226 (eS_12_finish g q14 6 187 32 0 rfl) rfl rfl (Nat.le_of_ble_eq_true rfl) rfl (Nat.le_of_ble_eq_true rfl) ⟨Nat.le_of_ble_eq_true rfl, Nat.le_of_ble_eq_true rfl⟩ ⟨Nat.le_refl _, Nat.le_refl _⟩ (by decide +kernel) (fun q15 _ => ?_)
    refine ef_drop (L2 := [none, none, none, none, none, none, none, some (.int q2.1)]) [false, true, false, false, false, false, false, true] rfl rfl ?_
    exact Hj3 _
  refine ef_J (X := fun j16 => ∀ (u17 : Unit), eh_Sim g eM_12_systemCall (eh_R 7 0 0) eh_eI 0 0 36 [some (.ref 127), none, some (.int p1), some (.int p2), some (.int p3), some (.int p4), some (.int p5), some (.int q2.1)] [] (eh_FW q2.2) ((j16 u17).bind some)) ?_ (fun j16 Hj16 => ?_)
  · intro u17
    refine es_blk (pc' := 39) (L' := [some (.ref 127), none, some (.int p1), some (.int p2), some (.int p3), some (.int p4), some (.int p5), some (.int q2.1)]) (st' := [.int 19, .int p1]) [(.iload_n 2, 0), (.bipush 19, 19)] (by decide +kernel) rfl rfl ?_
    refine es_ieq (tgt := 48) (off := (9)) (by decide +kernel) (by decide) (fun h18 => ?_) (fun h18 => ?_)
    · exact Hj6 ()
    refine es_blk (pc' := 45) (L' := [some (.ref 127), none, some (.int p1), some (.int p2), some (.int p3), some (.int p4), some (.int p5), some (.int q2.1)]) (st' := [.int 20, .int p1]) [(.iload_n 2, 0), (.bipush 20, 20)] (by decide +kernel) rfl rfl ?_
    refine es_ine (tgt := 116) (off := (71)) (by decide +kernel) (by decide) (fun h19 => ?_) (fun h19 => ?_)
    · exact Hj6 ()
    refine ef_drop (L2 := [none, none, none, none, none, none, none, some (.int q2.1)]) [false, true, false, false, false, false, false, true] rfl rfl ?_
    exact Hj3 _
  refine es_ilt (tgt := 36) (off := (9)) (by decide +kernel) (by decide) (fun h20 => ?_) (fun h20 => ?_)
  · refine ef_drop (L2 := [some (.ref 127), none, some (.int p1), some (.int p2), some (.int p3), some (.int p4), some (.int p5), some (.int q2.1)]) [true, false, true, true, true, true, true, true] rfl rfl ?_
    exact Hj16 ()
  refine es_blk (pc' := 33) (L' := [some (.ref 127), some (.int p0), some (.int p1), some (.int p2), some (.int p3), some (.int p4), some (.int p5), some (.int q2.1)]) (st' := [.int 11, .int p1]) [(.iload_n 2, 0), (.bipush 11, 11)] (by decide +kernel) rfl rfl ?_
  refine es_ile (tgt := 48) (off := (15)) (by decide +kernel) (by decide) (fun h21 => ?_) (fun h21 => ?_)
  · refine ef_drop (L2 := [some (.ref 127), none, some (.int p1), some (.int p2), some (.int p3), some (.int p4), some (.int p5), some (.int q2.1)]) [true, false, true, true, true, true, true, true] rfl rfl ?_
    exact Hj16 ()
  refine ef_drop (L2 := [some (.ref 127), none, some (.int p1), some (.int p2), some (.int p3), some (.int p4), some (.int p5), some (.int q2.1)]) [true, false, true, true, true, true, true, true] rfl rfl ?_
  exact Hj6 ()
def eF_12_attest (s : eh_F) (p0 : Int32) (p1 : Int32) (p2 : Int32) (p3 : Int32) : Option (Int32 × eh_F) := Option.bind (eF_12_canRead s p0 p2 32) (fun q1 => eh_J (fun (s3 : eh_F) => some ((-1), s3)) (fun j2 => if q1.1 = 0 then (j2 q1.2) else (Option.bind (eF_12_canWrite q1.2 p0 p3 128) (fun q5 => if q5.1 = 0 then (j2 q5.2) else (Option.bind (eh_loop (fun (r21 : (Int32 × eh_F) → Option (eh_F)) (t7 : Int32 × eh_F) => if t7.1 < 0 then (some t7.2) else (if eh_in t7.1 128 then if eh_in (64 + t7.1) 128 then eh_V (eh_tI t7.2 195 (eh_ix (64 + t7.1)) (eh_nb (t7.2.1 195 (eh_ix t7.1)))) (fun s23 => eh_V ((t7.1 + (-1)) : Int32) (fun x24 => r21 (x24, s23))) else none else none)) eh_FU (31, q5.2)) (fun (e8 : eh_F) => Option.bind (eh_loop (fun (r15 : (Int32 × eh_F) → Option (eh_F)) (t9 : Int32 × eh_F) => if t9.1 < 32 then (if eh_in ((32 * p1) + t9.1) 192 then if eh_in t9.1 128 then eh_V (eh_tI t9.2 195 (eh_ix t9.1) (eh_nb (t9.2.1 159 (eh_ix ((32 * p1) + t9.1))))) (fun s17 => if eh_in ((32 * p1) + t9.1) 192 then if eh_in (32 + t9.1) 128 then eh_V (eh_tI s17 195 (eh_ix (32 + t9.1)) (eh_nb (s17.1 160 (eh_ix ((32 * p1) + t9.1))))) (fun s18 => eh_V ((t9.1 + 1) : Int32) (fun x19 => r15 (x19, s18))) else none else none) else none else none) else (some t9.2)) eh_FU (0, e8)) (fun (e10 : eh_F) => Option.bind (eF_12_mark e10 195 128) (fun q11 => Option.bind (eF_12_writeTo q11 p0 p3 195 128 0 96) (fun q12 => Option.bind (eF_12_writeTo q12 p0 (p3 + 96) 194 32 0 32) (fun q13 => some (0, q13)))))))))))
set_option maxHeartbeats 4000000 in
set_option maxRecDepth 100000 in
theorem eS_12_attest (g : eh_P) (s : eh_F) (p0 : Int32) (p1 : Int32) (p2 : Int32) (p3 : Int32) : eh_Sim g eM_12_attest (eh_R 7 0 0) eh_eI 0 0 0 (eh_en 6 [.ref 127, .int p0, .int p1, .int p2, .int p3]) [] (eh_FW s) (eF_12_attest s p0 p1 p2 p3) := by
  unfold eF_12_attest
  refine ef_top (L := [some (.ref 127), some (.int p0), some (.int p1), some (.int p2), some (.int p3), none]) rfl ?_
  refine es_blk (pc' := 5) (L' := [some (.ref 127), some (.int p0), some (.int p1), some (.int p2), some (.int p3), none]) (st' := [.int 32, .int p2, .int p0, .ref 127]) [(.aload_n 0, 0), (.iload_n 1, 0), (.iload_n 3, 0), (.bipush 32, 32)] (by decide +kernel) rfl rfl ?_
  refine ef_veI (d := 4) (k := 127) (As := [.int p0, .int p2, .int 32]) (st := []) eV_12_canRead eK_12_595 (eS_12_canRead g s p0 p2 32) rfl rfl (Nat.le_of_ble_eq_true rfl) rfl (Nat.le_of_ble_eq_true rfl) ⟨Nat.le_of_ble_eq_true rfl, Nat.le_of_ble_eq_true rfl⟩ ⟨Nat.le_refl _, Nat.le_refl _⟩ (by decide +kernel) (fun q1 _ => ?_)
  refine ef_J (X := fun j2 => ∀ (s3 : eh_F), eh_Sim g eM_12_attest (eh_R 7 0 0) eh_eI 0 0 24 [none, none, none, none, none, none] [] (eh_FW s3) ((j2 s3).bind some)) ?_ (fun j2 Hj2 => ?_)
  · intro s3
    refine es_blk (pc' := 25) (L' := [none, none, none, none, none, none]) (st' := [.int (-1)]) [(.iconst (-1), (-1))] (by decide +kernel) rfl rfl ?_
    exact es_ret rfl rfl rfl ⟨by decide +kernel, _, rfl, rfl⟩ (Nat.le_refl _) (Nat.le_refl _)
  refine es_eq (tgt := 24) (off := (16)) (by decide +kernel) (by decide) (fun h4 => ?_) (fun h4 => ?_)
  · refine ef_drop (L2 := [none, none, none, none, none, none]) [false, false, false, false, false, true] rfl rfl ?_
    exact Hj2 _
  refine es_blk (pc' := 18) (L' := [some (.ref 127), some (.int p0), some (.int p1), some (.int p2), some (.int p3), none]) (st' := [.int 128, .int p3, .int p0, .ref 127]) [(.aload_n 0, 0), (.iload_n 1, 0), (.iload 4, 0), (.sipush 128, 128)] (by decide +kernel) rfl rfl ?_
  refine ef_veI (d := 4) (k := 127) (As := [.int p0, .int p3, .int 128]) (st := []) eV_12_canWrite eK_12_588 (eS_12_canWrite g q1.2 p0 p3 128) rfl rfl (Nat.le_of_ble_eq_true rfl) rfl (Nat.le_of_ble_eq_true rfl) ⟨Nat.le_of_ble_eq_true rfl, Nat.le_of_ble_eq_true rfl⟩ ⟨Nat.le_refl _, Nat.le_refl _⟩ (by decide +kernel) (fun q5 _ => ?_)
  refine es_ne (tgt := 26) (off := (5)) (by decide +kernel) (by decide) (fun h6 => ?_) (fun h6 => ?_)
  · refine ef_drop (L2 := [none, none, none, none, none, none]) [false, false, false, false, false, true] rfl rfl ?_
    exact Hj2 _
  refine es_blk (pc' := 30) (L' := [some (.ref 127), some (.int p0), some (.int p1), some (.int p2), some (.int p3), some (.int 31)]) (st' := []) [(.bipush 31, 31), (.istore 5, 0)] (by decide +kernel) rfl rfl ?_
  refine ef_drop (L2 := [some (.ref 127), some (.int p0), some (.int p1), none, some (.int p3), some (.int 31)]) [true, true, true, false, true, true] rfl rfl ?_
  refine ef_loop1 (n := eh_FU) (i := (31, q5.2)) (px := 58) (fun (t7 : Int32 × eh_F) => [some (.ref 127), some (.int p0), some (.int p1), none, some (.int p3), some (.int t7.1)]) (fun (t7 : Int32 × eh_F) => []) (fun (t7 : Int32 × eh_F) => eh_FW t7.2) (fun (e8 : eh_F) => [some (.ref 127), some (.int p0), some (.int p1), none, some (.int p3), none]) (fun (e8 : eh_F) => []) (fun (e8 : eh_F) => eh_FW e8) (fun e8 => ?_) (fun K20 HxK20_0 r21 Hr21 t7 => ?_)
  · refine es_blk (pc' := 61) (L' := [some (.ref 127), some (.int p0), some (.int p1), none, some (.int p3), some (.int 0)]) (st' := []) [(.iconst 0, 0), (.istore 5, 0)] (by decide +kernel) rfl rfl ?_
    refine ef_loop1 (n := eh_FU) (i := (0, e8)) (px := 115) (fun (t9 : Int32 × eh_F) => [some (.ref 127), some (.int p0), some (.int p1), none, some (.int p3), some (.int t9.1)]) (fun (t9 : Int32 × eh_F) => []) (fun (t9 : Int32 × eh_F) => eh_FW t9.2) (fun (e10 : eh_F) => [some (.ref 127), some (.int p0), none, none, some (.int p3), none]) (fun (e10 : eh_F) => []) (fun (e10 : eh_F) => eh_FW e10) (fun e10 => ?_) (fun K14 HxK14_0 r15 Hr15 t9 => ?_)
    · refine es_blk (pc' := 117) (L' := [some (.ref 127), some (.int p0), none, none, some (.int p3), none]) (st' := [.ref 127, .ref 127]) [(.aload_n 0, 0), (.aload_n 0, 0)] (by decide +kernel) rfl rfl ?_
      refine ef_getP (k := 127) (j := 82) (q := 195) rfl eL_12_215 rfl rfl rfl (by decide +kernel) ?_
      refine ef_veV (d := 6) (k := 127) (As := [.ref 195]) (st := []) eV_12_mark eK_12_277 (eS_12_mark g e10 195 128 rfl) rfl rfl (Nat.le_of_ble_eq_true rfl) rfl (Nat.le_of_ble_eq_true rfl) ⟨Nat.le_of_ble_eq_true rfl, Nat.le_of_ble_eq_true rfl⟩ ⟨Nat.le_refl _, Nat.le_refl _⟩ (by decide +kernel) (fun q11 _ => ?_)
      refine es_blk (pc' := 128) (L' := [some (.ref 127), some (.int p0), none, none, some (.int p3), none]) (st' := [.ref 127, .int p3, .int p0, .ref 127]) [(.aload_n 0, 0), (.iload_n 1, 0), (.iload 4, 0), (.aload_n 0, 0)] (by decide +kernel) rfl rfl ?_
      refine ef_getP (k := 127) (j := 82) (q := 195) rfl eL_12_215 rfl rfl rfl (by decide +kernel) ?_
      refine es_blk (pc' := 134) (L' := [some (.ref 127), some (.int p0), none, none, some (.int p3), none]) (st' := [.int 96, .int 0, .ref 195, .int p3, .int p0, .ref 127]) [(.iconst 0, 0), (.bipush 96, 96)] (by decide +kernel) rfl rfl ?_
      refine ef_veV (d := 3) (k := 127) (As := [.int p0, .int p3, .ref 195, .int 0, .int 96]) (st := []) eV_12_writeTo eK_12_591 (eS_12_writeTo g q11 p0 p3 195 128 0 96 rfl) rfl rfl (Nat.le_of_ble_eq_true rfl) rfl (Nat.le_of_ble_eq_true rfl) ⟨Nat.le_of_ble_eq_true rfl, Nat.le_of_ble_eq_true rfl⟩ ⟨Nat.le_refl _, Nat.le_refl _⟩ (by decide +kernel) (fun q12 _ => ?_)
      refine es_blk (pc' := 145) (L' := [some (.ref 127), some (.int p0), none, none, some (.int p3), none]) (st' := [.ref 127, .int (p3 + 96), .int p0, .ref 127]) [(.aload_n 0, 0), (.iload_n 1, 0), (.iload 4, 0), (.bipush 96, 96), (.iadd, 0), (.aload_n 0, 0)] (by decide +kernel) rfl rfl ?_
      refine ef_getP (k := 127) (j := 81) (q := 194) rfl eL_12_212 rfl rfl rfl (by decide +kernel) ?_
      refine es_blk (pc' := 151) (L' := [some (.ref 127), some (.int p0), none, none, some (.int p3), none]) (st' := [.int 32, .int 0, .ref 194, .int (p3 + 96), .int p0, .ref 127]) [(.iconst 0, 0), (.bipush 32, 32)] (by decide +kernel) rfl rfl ?_
      refine ef_veV (d := 3) (k := 127) (As := [.int p0, .int (p3 + 96), .ref 194, .int 0, .int 32]) (st := []) eV_12_writeTo eK_12_591 (eS_12_writeTo g q12 p0 (p3 + 96) 194 32 0 32 rfl) rfl rfl (Nat.le_of_ble_eq_true rfl) rfl (Nat.le_of_ble_eq_true rfl) ⟨Nat.le_of_ble_eq_true rfl, Nat.le_of_ble_eq_true rfl⟩ ⟨Nat.le_refl _, Nat.le_refl _⟩ (by decide +kernel) (fun q13 _ => ?_)
      refine es_blk (pc' := 155) (L' := [some (.ref 127), some (.int p0), none, none, some (.int p3), none]) (st' := [.int 0]) [(.iconst 0, 0)] (by decide +kernel) rfl rfl ?_
      exact es_ret rfl rfl rfl ⟨by decide +kernel, _, rfl, rfl⟩ (Nat.le_refl _) (Nat.le_refl _)
    · refine es_blk (pc' := 65) (L' := [some (.ref 127), some (.int p0), some (.int p1), none, some (.int p3), some (.int t9.1)]) (st' := [.int 32, .int t9.1]) [(.iload 5, 0), (.bipush 32, 32)] (by decide +kernel) rfl rfl ?_
      refine es_ige (tgt := 115) (off := (50)) (by decide +kernel) (by decide) (fun h16 => ?_) (fun h16 => ?_)
      · refine es_blk (pc' := 69) (L' := [some (.ref 127), some (.int p0), some (.int p1), none, some (.int p3), some (.int t9.1)]) (st' := [.ref 127]) [(.aload_n 0, 0)] (by decide +kernel) rfl rfl ?_
        refine ef_getP (k := 127) (j := 82) (q := 195) rfl eL_12_215 rfl rfl rfl (by decide +kernel) ?_
        refine es_blk (pc' := 75) (L' := [some (.ref 127), some (.int p0), some (.int p1), none, some (.int p3), some (.int t9.1)]) (st' := [.ref 127, .int t9.1, .ref 195]) [(.iload 5, 0), (.aload_n 0, 0)] (by decide +kernel) rfl rfl ?_
        refine ef_getP (k := 127) (j := 34) (q := 159) rfl eL_12_106 rfl rfl rfl (by decide +kernel) ?_
        refine es_blk (pc' := 85) (L' := [some (.ref 127), some (.int p0), some (.int p1), none, some (.int p3), some (.int t9.1)]) (st' := [.int ((32 * p1) + t9.1), .ref 159, .int t9.1, .ref 195]) [(.bipush 32, 32), (.iload_n 2, 0), (.imul, 0), (.iload 5, 0), (.iadd, 0)] (by decide +kernel) rfl rfl ?_
        refine ef_ald (k := 159) rfl (Or.inr ⟨Or.inl rfl, rfl⟩) (by decide +kernel) (fun _ => ?_)
        refine ef_astB (k := 195) rfl (by decide +kernel) (fun _ => ?_)
        refine ef_V (fun _ => [some (.ref 127), some (.int p0), some (.int p1), none, some (.int p3), some (.int t9.1)]) (fun _ => []) (fun s17 => eh_FW s17) (fun s17 => ?_)
        refine es_blk (pc' := 88) (L' := [some (.ref 127), some (.int p0), some (.int p1), none, some (.int p3), some (.int t9.1)]) (st' := [.ref 127]) [(.aload_n 0, 0)] (by decide +kernel) rfl rfl ?_
        refine ef_getP (k := 127) (j := 82) (q := 195) rfl eL_12_215 rfl rfl rfl (by decide +kernel) ?_
        refine es_blk (pc' := 97) (L' := [some (.ref 127), some (.int p0), some (.int p1), none, some (.int p3), some (.int t9.1)]) (st' := [.ref 127, .int (32 + t9.1), .ref 195]) [(.bipush 32, 32), (.iload 5, 0), (.iadd, 0), (.aload_n 0, 0)] (by decide +kernel) rfl rfl ?_
        refine ef_getP (k := 127) (j := 35) (q := 160) rfl eL_12_109 rfl rfl rfl (by decide +kernel) ?_
        refine es_blk (pc' := 107) (L' := [some (.ref 127), some (.int p0), some (.int p1), none, some (.int p3), some (.int t9.1)]) (st' := [.int ((32 * p1) + t9.1), .ref 160, .int (32 + t9.1), .ref 195]) [(.bipush 32, 32), (.iload_n 2, 0), (.imul, 0), (.iload 5, 0), (.iadd, 0)] (by decide +kernel) rfl rfl ?_
        refine ef_ald (k := 160) rfl (Or.inr ⟨Or.inl rfl, rfl⟩) (by decide +kernel) (fun _ => ?_)
        refine ef_astB (k := 195) rfl (by decide +kernel) (fun _ => ?_)
        refine ef_V (fun _ => [some (.ref 127), some (.int p0), some (.int p1), none, some (.int p3), some (.int t9.1)]) (fun _ => []) (fun s18 => eh_FW s18) (fun s18 => ?_)
        refine es_blk (pc' := 112) (L' := [some (.ref 127), some (.int p0), some (.int p1), none, some (.int p3), some (.int (t9.1 + 1))]) (st' := []) [(.iinc 5 1, 1)] (by decide +kernel) rfl rfl ?_
        refine ef_V (fun x19 => [some (.ref 127), some (.int p0), some (.int p1), none, some (.int p3), some (.int x19)]) (fun _ => []) (fun _ => eh_FW s18) (fun x19 => ?_)
        refine es_goto (tgt := 61) (off := (-51)) (by decide +kernel) (by decide) ?_
        exact Hr15 (x19, s18)
      refine ef_drop (L2 := [some (.ref 127), some (.int p0), none, none, some (.int p3), none]) [true, true, false, true, true, false] rfl rfl ?_
      exact HxK14_0 t9.2
  · refine es_blk (pc' := 32) (L' := [some (.ref 127), some (.int p0), some (.int p1), none, some (.int p3), some (.int t7.1)]) (st' := [.int t7.1]) [(.iload 5, 0)] (by decide +kernel) rfl rfl ?_
    refine es_lt (tgt := 58) (off := (26)) (by decide +kernel) (by decide) (fun h22 => ?_) (fun h22 => ?_)
    · refine ef_drop (L2 := [some (.ref 127), some (.int p0), some (.int p1), none, some (.int p3), none]) [true, true, true, true, true, false] rfl rfl ?_
      exact HxK20_0 t7.2
    refine es_blk (pc' := 36) (L' := [some (.ref 127), some (.int p0), some (.int p1), none, some (.int p3), some (.int t7.1)]) (st' := [.ref 127]) [(.aload_n 0, 0)] (by decide +kernel) rfl rfl ?_
    refine ef_getP (k := 127) (j := 82) (q := 195) rfl eL_12_215 rfl rfl rfl (by decide +kernel) ?_
    refine es_blk (pc' := 45) (L' := [some (.ref 127), some (.int p0), some (.int p1), none, some (.int p3), some (.int t7.1)]) (st' := [.ref 127, .int (64 + t7.1), .ref 195]) [(.bipush 64, 64), (.iload 5, 0), (.iadd, 0), (.aload_n 0, 0)] (by decide +kernel) rfl rfl ?_
    refine ef_getP (k := 127) (j := 82) (q := 195) rfl eL_12_215 rfl rfl rfl (by decide +kernel) ?_
    refine es_blk (pc' := 50) (L' := [some (.ref 127), some (.int p0), some (.int p1), none, some (.int p3), some (.int t7.1)]) (st' := [.int t7.1, .ref 195, .int (64 + t7.1), .ref 195]) [(.iload 5, 0)] (by decide +kernel) rfl rfl ?_
    refine ef_ald (k := 195) rfl (Or.inr ⟨Or.inl rfl, rfl⟩) (by decide +kernel) (fun _ => ?_)
    refine ef_astB (k := 195) rfl (by decide +kernel) (fun _ => ?_)
    refine ef_V (fun _ => [some (.ref 127), some (.int p0), some (.int p1), none, some (.int p3), some (.int t7.1)]) (fun _ => []) (fun s23 => eh_FW s23) (fun s23 => ?_)
    refine es_blk (pc' := 55) (L' := [some (.ref 127), some (.int p0), some (.int p1), none, some (.int p3), some (.int (t7.1 + (-1)))]) (st' := []) [(.iinc 5 (-1), (-1))] (by decide +kernel) rfl rfl ?_
    refine ef_V (fun x24 => [some (.ref 127), some (.int p0), some (.int p1), none, some (.int p3), some (.int x24)]) (fun _ => []) (fun _ => eh_FW s23) (fun x24 => ?_)
    refine es_goto (tgt := 30) (off := (-25)) (by decide +kernel) (by decide) ?_
    exact Hr21 (x24, s23)
def eF_11_run (s : eh_F) (p0 : Int32) : Option (Int32 × eh_F) := eh_J (fun (u2 : Unit) => some ((-1), s)) (fun j1 => if p0 < 0 then (j1 ()) else (if 2000 < p0 then (j1 ()) else (Option.bind (eh_loop (fun (r9 : (Int32 × eh_F) → Option ((eh_F) ⊕ (Int32 × eh_F))) (t5 : Int32 × eh_F) => if t5.1 < p0 then (if (t5.2.1 1 10) = 0 then (Option.bind (eh_loop (fun (r20 : (Int32 × eh_F) → Option (eh_F)) (t12 : Int32 × eh_F) => if t12.1 < 2 then (if (t12.2.1 1 10) = 0 then (Option.bind (eF_7_step t12.2 t12.1) (fun q23 => eh_V ((t12.1 + 1) : Int32) (fun x24 => r20 (x24, q23)))) else (some t12.2)) else (some t12.2)) eh_FU (0, t5.2)) (fun (e13 : eh_F) => eh_J (fun (s15 : eh_F) => eh_V ((t5.1 + 1) : Int32) (fun x16 => r9 (x16, s15))) (fun j14 => if (e13.1 1 10) = 0 then (Option.bind (eF_0_endRound e13) (fun q18 => j14 q18)) else (j14 e13)))) else (some (.inr (t5.1, t5.2)))) else (some (.inl t5.2))) eh_FU (0, s)) (Sum.elim (fun (e6 : eh_F) => some (p0, e6)) (fun (e7 : Int32 × eh_F) => some (e7.1, e7.2))))))
set_option maxHeartbeats 4000000 in
set_option maxRecDepth 100000 in
theorem eS_11_run (g : eh_P) (s : eh_F) (p0 : Int32) : eh_Sim g eM_11_run (eh_R 8 0 0) eh_eI 0 0 0 (eh_en 4 [.ref 0, .int p0]) [] (eh_FW s) (eF_11_run s p0) := by
  unfold eF_11_run
  refine ef_top (L := [some (.ref 0), some (.int p0), none, none]) rfl ?_
  refine es_blk (pc' := 1) (L' := [some (.ref 0), some (.int p0), none, none]) (st' := [.int p0]) [(.iload_n 1, 0)] (by decide +kernel) rfl rfl ?_
  refine ef_J (X := fun j1 => ∀ (u2 : Unit), eh_Sim g eM_11_run (eh_R 8 0 0) eh_eI 0 0 11 [none, none, none, none] [] (eh_FW s) ((j1 u2).bind some)) ?_ (fun j1 Hj1 => ?_)
  · intro u2
    refine es_blk (pc' := 12) (L' := [none, none, none, none]) (st' := [.int (-1)]) [(.iconst (-1), (-1))] (by decide +kernel) rfl rfl ?_
    exact es_ret rfl rfl rfl ⟨by decide +kernel, _, rfl, rfl⟩ (Nat.le_refl _) (Nat.le_refl _)
  refine es_lt (tgt := 11) (off := (10)) (by decide +kernel) (by decide) (fun h3 => ?_) (fun h3 => ?_)
  · refine ef_drop (L2 := [none, none, none, none]) [false, false, true, true] rfl rfl ?_
    exact Hj1 ()
  refine es_blk (pc' := 8) (L' := [some (.ref 0), some (.int p0), none, none]) (st' := [.int 2000, .int p0]) [(.iload_n 1, 0), (.sipush 2000, 2000)] (by decide +kernel) rfl rfl ?_
  refine es_ile (tgt := 13) (off := (5)) (by decide +kernel) (by decide) (fun h4 => ?_) (fun h4 => ?_)
  · refine ef_drop (L2 := [none, none, none, none]) [false, false, true, true] rfl rfl ?_
    exact Hj1 ()
  refine es_blk (pc' := 15) (L' := [some (.ref 0), some (.int p0), some (.int 0), none]) (st' := []) [(.iconst 0, 0), (.istore_n 2, 0)] (by decide +kernel) rfl rfl ?_
  refine ef_loop2 (n := eh_FU) (i := (0, s)) (px := 96) (px2 := 30) (fun (t5 : Int32 × eh_F) => [some (.ref 0), some (.int p0), some (.int t5.1), none]) (fun (t5 : Int32 × eh_F) => []) (fun (t5 : Int32 × eh_F) => eh_FW t5.2) (fun (e6 : eh_F) => [none, some (.int p0), none, none]) (fun (e6 : eh_F) => []) (fun (e6 : eh_F) => eh_FW e6) (fun (e7 : Int32 × eh_F) => [none, none, some (.int e7.1), none]) (fun (e7 : Int32 × eh_F) => []) (fun (e7 : Int32 × eh_F) => eh_FW e7.2) (fun e6 => ?_) (fun e7 => ?_) (fun K8 HxK8_0 HxK8_1 r9 Hr9 t5 => ?_)
  · refine es_blk (pc' := 97) (L' := [none, some (.int p0), none, none]) (st' := [.int p0]) [(.iload_n 1, 0)] (by decide +kernel) rfl rfl ?_
    exact es_ret rfl rfl rfl ⟨by decide +kernel, _, rfl, rfl⟩ (Nat.le_refl _) (Nat.le_refl _)
  · refine es_blk (pc' := 31) (L' := [none, none, some (.int e7.1), none]) (st' := [.int e7.1]) [(.iload_n 2, 0)] (by decide +kernel) rfl rfl ?_
    exact es_ret rfl rfl rfl ⟨by decide +kernel, _, rfl, rfl⟩ (Nat.le_refl _) (Nat.le_refl _)
  · refine es_blk (pc' := 17) (L' := [some (.ref 0), some (.int p0), some (.int t5.1), none]) (st' := [.int p0, .int t5.1]) [(.iload_n 2, 0), (.iload_n 1, 0)] (by decide +kernel) rfl rfl ?_
    refine es_ige (tgt := 96) (off := (79)) (by decide +kernel) (by decide) (fun h10 => ?_) (fun h10 => ?_)
    · refine es_blk (pc' := 21) (L' := [some (.ref 0), some (.int p0), some (.int t5.1), none]) (st' := [.ref 0]) [(.aload_n 0, 0)] (by decide +kernel) rfl rfl ?_
      refine ef_getP (k := 0) (j := 0) (q := 1) rfl eL_11_12 rfl rfl rfl (by decide +kernel) ?_
      refine ef_getI (k := 1) (j := 10) rfl eL_11_136 (by decide) (by decide +kernel) ?_
      refine es_eq (tgt := 32) (off := (5)) (by decide +kernel) (by decide) (fun h11 => ?_) (fun h11 => ?_)
      · refine es_blk (pc' := 34) (L' := [some (.ref 0), some (.int p0), some (.int t5.1), some (.int 0)]) (st' := []) [(.iconst 0, 0), (.istore_n 3, 0)] (by decide +kernel) rfl rfl ?_
        refine ef_loop1 (n := eh_FU) (i := (0, t5.2)) (px := 63) (fun (t12 : Int32 × eh_F) => [some (.ref 0), some (.int p0), some (.int t5.1), some (.int t12.1)]) (fun (t12 : Int32 × eh_F) => []) (fun (t12 : Int32 × eh_F) => eh_FW t12.2) (fun (e13 : eh_F) => [some (.ref 0), some (.int p0), some (.int t5.1), none]) (fun (e13 : eh_F) => []) (fun (e13 : eh_F) => eh_FW e13) (fun e13 => ?_) (fun K19 HxK19_0 r20 Hr20 t12 => ?_)
        · refine es_blk (pc' := 64) (L' := [some (.ref 0), some (.int p0), some (.int t5.1), none]) (st' := [.ref 0]) [(.aload_n 0, 0)] (by decide +kernel) rfl rfl ?_
          refine ef_getP (k := 0) (j := 0) (q := 1) rfl eL_11_12 rfl rfl rfl (by decide +kernel) ?_
          refine ef_getI (k := 1) (j := 10) rfl eL_11_136 (by decide) (by decide +kernel) ?_
          refine ef_J (X := fun j14 => ∀ (s15 : eh_F), eh_Sim g eM_11_run (eh_R 8 0 0) eh_eI 0 0 90 [some (.ref 0), some (.int p0), some (.int t5.1), none] [] (eh_FW s15) ((j14 s15).bind K8)) ?_ (fun j14 Hj14 => ?_)
          · intro s15
            refine es_blk (pc' := 93) (L' := [some (.ref 0), some (.int p0), some (.int (t5.1 + 1)), none]) (st' := []) [(.iinc 2 1, 1)] (by decide +kernel) rfl rfl ?_
            refine ef_V (fun x16 => [some (.ref 0), some (.int p0), some (.int x16), none]) (fun _ => []) (fun _ => eh_FW s15) (fun x16 => ?_)
            refine es_goto (tgt := 15) (off := (-78)) (by decide +kernel) (by decide) ?_
            exact Hr9 (x16, s15)
          refine es_ne (tgt := 90) (off := (20)) (by decide +kernel) (by decide) (fun h17 => ?_) (fun h17 => ?_)
          · refine es_blk (pc' := 74) (L' := [some (.ref 0), some (.int p0), some (.int t5.1), none]) (st' := [.ref 0]) [(.aload_n 0, 0)] (by decide +kernel) rfl rfl ?_
            refine ef_getP (k := 0) (j := 0) (q := 1) rfl eL_11_12 rfl rfl rfl (by decide +kernel) ?_
            refine ef_getP (k := 1) (j := 1) (q := 12) rfl eL_11_128 rfl rfl rfl (by decide +kernel) ?_
            refine es_blk (pc' := 81) (L' := [some (.ref 0), some (.int p0), some (.int t5.1), none]) (st' := [.ref 0, .ref 12]) [(.aload_n 0, 0)] (by decide +kernel) rfl rfl ?_
            refine ef_getP (k := 0) (j := 0) (q := 1) rfl eL_11_12 rfl rfl rfl (by decide +kernel) ?_
            refine ef_getP (k := 1) (j := 0) (q := 2) rfl eL_11_43 rfl rfl rfl (by decide +kernel) ?_
            refine ef_veV (d := 4) (k := 12) (As := [.ref 2]) (st := []) eV_0_endRound eK_11_149 (eS_0_endRound g e13) rfl rfl (Nat.le_of_ble_eq_true rfl) rfl (Nat.le_of_ble_eq_true rfl) ⟨Nat.le_of_ble_eq_true rfl, Nat.le_of_ble_eq_true rfl⟩ ⟨Nat.le_refl _, Nat.le_refl _⟩ (by decide +kernel) (fun q18 _ => ?_)
            exact Hj14 _
          exact Hj14 _
        · refine es_blk (pc' := 36) (L' := [some (.ref 0), some (.int p0), some (.int t5.1), some (.int t12.1)]) (st' := [.int 2, .int t12.1]) [(.iload_n 3, 0), (.iconst 2, 2)] (by decide +kernel) rfl rfl ?_
          refine es_ige (tgt := 63) (off := (27)) (by decide +kernel) (by decide) (fun h21 => ?_) (fun h21 => ?_)
          · refine es_blk (pc' := 40) (L' := [some (.ref 0), some (.int p0), some (.int t5.1), some (.int t12.1)]) (st' := [.ref 0]) [(.aload_n 0, 0)] (by decide +kernel) rfl rfl ?_
            refine ef_getP (k := 0) (j := 0) (q := 1) rfl eL_11_12 rfl rfl rfl (by decide +kernel) ?_
            refine ef_getI (k := 1) (j := 10) rfl eL_11_136 (by decide) (by decide +kernel) ?_
            refine es_ne (tgt := 63) (off := (17)) (by decide +kernel) (by decide) (fun h22 => ?_) (fun h22 => ?_)
            · refine es_blk (pc' := 50) (L' := [some (.ref 0), some (.int p0), some (.int t5.1), some (.int t12.1)]) (st' := [.ref 0]) [(.aload_n 0, 0)] (by decide +kernel) rfl rfl ?_
              refine ef_getP (k := 0) (j := 2) (q := 124) rfl eL_11_32 rfl rfl rfl (by decide +kernel) ?_
              refine es_blk (pc' := 54) (L' := [some (.ref 0), some (.int p0), some (.int t5.1), some (.int t12.1)]) (st' := [.int t12.1, .ref 124]) [(.iload_n 3, 0)] (by decide +kernel) rfl rfl ?_
              refine ef_veV (d := 7) (k := 124) (As := [.int t12.1]) (st := []) eV_7_step eK_11_146 (eS_7_step g t12.2 t12.1) rfl rfl (Nat.le_of_ble_eq_true rfl) rfl (Nat.le_of_ble_eq_true rfl) ⟨Nat.le_of_ble_eq_true rfl, Nat.le_of_ble_eq_true rfl⟩ ⟨Nat.le_refl _, Nat.le_refl _⟩ (by decide +kernel) (fun q23 _ => ?_)
              refine es_blk (pc' := 60) (L' := [some (.ref 0), some (.int p0), some (.int t5.1), some (.int (t12.1 + 1))]) (st' := []) [(.iinc 3 1, 1)] (by decide +kernel) rfl rfl ?_
              refine ef_V (fun x24 => [some (.ref 0), some (.int p0), some (.int t5.1), some (.int x24)]) (fun _ => []) (fun _ => eh_FW q23) (fun x24 => ?_)
              refine es_goto (tgt := 34) (off := (-26)) (by decide +kernel) (by decide) ?_
              exact Hr20 (x24, q23)
            refine ef_drop (L2 := [some (.ref 0), some (.int p0), some (.int t5.1), none]) [true, true, true, false] rfl rfl ?_
            exact HxK19_0 t12.2
          refine ef_drop (L2 := [some (.ref 0), some (.int p0), some (.int t5.1), none]) [true, true, true, false] rfl rfl ?_
          exact HxK19_0 t12.2
      refine ef_drop (L2 := [none, none, some (.int t5.1), none]) [false, false, true, true] rfl rfl ?_
      exact HxK8_1 (t5.1, t5.2)
    refine ef_drop (L2 := [none, some (.int p0), none, none]) [false, true, false, true] rfl rfl ?_
    exact HxK8_0 t5.2
def eF_12_answered (s : eh_F) (p0 : Int32) (p1 : Int32) (p2 : Int32) (p3 : Int32) (p4 : Int32) (p5 : Int32) : Option (Int32 × eh_F) := eh_J (fun (u2 : Unit) => some ((-1), s)) (fun j1 => eh_J (fun (u4 : Unit) => eh_J (fun (a6 : Int32) (s7 : eh_F) => some (a6, s7)) (fun j5 => if (s.1 127 67) = p2 then (Option.bind (eF_12_onPath s p0 p3 p4) (fun q9 => j5 q9.1 q9.2)) else (j5 (-2) s))) (fun j3 => if p3 = 34 then (Option.bind (eF_12_attest s p0 p2 p4 p5) (fun q12 => some (q12.1, q12.2))) else if p3 = 35 then (Option.bind (eF_12_canWrite s p0 p5 32) (fun q14 => if q14.1 = 0 then (some ((-1), q14.2)) else (eh_V (eh_tI q14.2 127 79 0) (fun s16 => Option.bind (eF_12_say s16 6) (fun q17 => Option.bind (eF_12_sayBytes q17 159 192 (32 * p2) 32) (fun q18 => Option.bind (eF_12_say q18 p4) (fun q19 => Option.bind (eF_12_keyed q19 186 32) (fun q20 => Option.bind (eF_12_writeTo q20 p0 p5 194 32 0 32) (fun q21 => some (0, q21)))))))))) else if p3 = 36 then (eh_J (fun (s24 : eh_F) => some ((-1), s24)) (fun j23 => if p5 < 1 then (j23 s) else (if 32 < p5 then (j23 s) else (Option.bind (eF_12_canWrite s p0 p4 p5) (fun q27 => if q27.1 = 0 then (j23 q27.2) else (eh_V (eh_tI q27.2 127 79 0) (fun s29 => Option.bind (eF_12_say s29 7) (fun q30 => Option.bind (eF_12_sayBytes q30 159 192 (32 * p2) 32) (fun q31 => if eh_in p2 6 then Option.bind (eF_12_say q31 (q31.1 158 (eh_ix p2))) (fun q32 => if eh_in p2 6 then Option.bind (eF_12_say q32 (q32.1 163 (eh_ix p2))) (fun q33 => Option.bind (eF_12_keyed q33 186 32) (fun q34 => if eh_in p2 6 then if eh_in p2 6 then eh_V (eh_tI q34 163 (eh_ix p2) ((q34.1 163 (eh_ix p2)) + 1)) (fun s35 => Option.bind (eF_12_writeTo s35 p0 p4 194 32 0 p5) (fun q36 => some (0, q36))) else none else none)) else none) else none))))))))) else if p3 = 37 then (Option.bind (eF_12_canRead s p0 p4 128) (fun q38 => eh_J (fun (a40 : Int32) (s41 : eh_F) => some (a40, s41)) (fun j39 => if q38.1 = 0 then (j39 (-1) q38.2) else (Option.bind (eF_12_isReport q38.2 195 128) (fun q43 => if q43.1 = 0 then (j39 0 q43.2) else (j39 1 q43.2)))))) else if p3 = 38 then (Option.bind (eF_12_accept s p0 p2 p4) (fun q46 => some (q46.1, q46.2))) else if p3 = 39 then (Option.bind (eF_12_canWrite s p0 p4 32) (fun q48 => if q48.1 = 0 then (some ((-1), q48.2)) else (Option.bind (eF_12_writeTo q48.2 p0 p4 159 192 (32 * p2) 32) (fun q50 => some (0, q50))))) else if p3 = 40 then (Option.bind (eF_12_send s p0 p2 p4 p5) (fun q52 => some (q52.1, q52.2))) else if p3 = 41 then (Option.bind (eF_12_receive s p0 p2 p4) (fun q54 => some (q54.1, q54.2))) else if p3 = 42 then (Option.bind (eF_12_count s p0 p2) (fun q56 => some (q56.1, q56.2))) else if p3 = 43 then (if (p4 &&& 3) = 0 then (if eh_in p1 12 then eh_V (eh_tI s 152 (eh_ix p1) p4) (fun s59 => some (0, s59)) else none) else (some ((-1), s))) else if p3 = 45 then (if (s.1 127 67) = (-1) then (Option.bind (eF_12_clearPath s p2) (fun q62 => Option.bind (eF_12_happens q62 9 p0 1 0 0) (fun q63 => some (0, q63)))) else (eh_J (fun (a65 : Int32) => some (a65, s)) (fun j64 => if (s.1 127 67) = p2 then (j64 (-2)) else (j64 (-3))))) else if p3 = 46 then (j3 ()) else if p3 = 47 then (j3 ()) else if p3 = 48 then (j3 ()) else if p3 = 49 then (Option.bind (eF_12_canRead s p0 p4 32) (fun q71 => if q71.1 = 0 then (some ((-1), q71.2)) else (Option.bind (eF_12_begin q71.2 6) (fun q73 => Option.bind (eF_12_addBytes q73 6 160 192 (32 * p2) 32) (fun q74 => Option.bind (eF_12_addBytes q74 6 195 128 0 32) (fun q75 => Option.bind (eF_12_finish q75 6 160 192 (32 * p2)) (fun q76 => some (0, q76)))))))) else if p3 = 50 then (Option.bind (eF_12_canWrite s p0 p4 32) (fun q78 => if q78.1 = 0 then (some ((-1), q78.2)) else (Option.bind (eF_12_writeTo q78.2 p0 p4 187 32 0 32) (fun q80 => some (0, q80))))) else (j1 ())))
set_option maxHeartbeats 4000000 in
set_option maxRecDepth 100000 in
theorem eS_12_answered (g : eh_P) (s : eh_F) (p0 : Int32) (p1 : Int32) (p2 : Int32) (p3 : Int32) (p4 : Int32) (p5 : Int32) : eh_Sim g eM_12_answered (eh_R 8 0 0) eh_eI 0 0 0 (eh_en 7 [.ref 127, .int p0, .int p1, .int p2, .int p3, .int p4, .int p5]) [] (eh_FW s) (eF_12_answered s p0 p1 p2 p3 p4 p5) := by
  unfold eF_12_answered
  refine ef_top (L := [some (.ref 127), some (.int p0), some (.int p1), some (.int p2), some (.int p3), some (.int p4), some (.int p5)]) rfl ?_
  refine es_blk (pc' := 2) (L' := [some (.ref 127), some (.int p0), some (.int p1), some (.int p2), some (.int p3), some (.int p4), some (.int p5)]) (st' := [.int p3]) [(.iload 4, 0)] (by decide +kernel) rfl rfl ?_
  refine ef_J (X := fun j1 => ∀ (u2 : Unit), eh_Sim g eM_12_answered (eh_R 8 0 0) eh_eI 0 0 551 [none, none, none, none, none, none, none] [] (eh_FW s) ((j1 u2).bind some)) ?_ (fun j1 Hj1 => ?_)
  · intro u2
    refine es_blk (pc' := 552) (L' := [none, none, none, none, none, none, none]) (st' := [.int (-1)]) [(.iconst (-1), (-1))] (by decide +kernel) rfl rfl ?_
    exact es_ret rfl rfl rfl ⟨by decide +kernel, _, rfl, rfl⟩ (Nat.le_refl _) (Nat.le_refl _)
  refine ef_J (X := fun j3 => ∀ (u4 : Unit), eh_Sim g eM_12_answered (eh_R 8 0 0) eh_eI 0 0 433 [some (.ref 127), some (.int p0), none, some (.int p2), some (.int p3), some (.int p4), none] [] (eh_FW s) ((j3 u4).bind some)) ?_ (fun j3 Hj3 => ?_)
  · intro u4
    refine es_blk (pc' := 434) (L' := [some (.ref 127), some (.int p0), none, some (.int p2), some (.int p3), some (.int p4), none]) (st' := [.ref 127]) [(.aload_n 0, 0)] (by decide +kernel) rfl rfl ?_
    refine ef_getI (k := 127) (j := 67) rfl eL_12_311 (by decide) (by decide +kernel) ?_
    refine es_blk (pc' := 438) (L' := [some (.ref 127), some (.int p0), none, some (.int p2), some (.int p3), some (.int p4), none]) (st' := [.int p2, .int (s.1 127 67)]) [(.iload_n 3, 0)] (by decide +kernel) rfl rfl ?_
    refine ef_J (X := fun j5 => ∀ (a6 : Int32) (s7 : eh_F), eh_Sim g eM_12_answered (eh_R 8 0 0) eh_eI 0 0 455 [none, none, none, none, none, none, none] [.int a6] (eh_FW s7) ((j5 a6 s7).bind some)) ?_ (fun j5 Hj5 => ?_)
    · intro a6 s7
      exact es_ret rfl rfl rfl ⟨by decide +kernel, _, rfl, rfl⟩ (Nat.le_refl _) (Nat.le_refl _)
    refine es_ieq (tgt := 446) (off := (8)) (by decide +kernel) (by decide) (fun h8 => ?_) (fun h8 => ?_)
    · refine es_blk (pc' := 452) (L' := [some (.ref 127), some (.int p0), none, some (.int p2), some (.int p3), some (.int p4), none]) (st' := [.int p4, .int p3, .int p0, .ref 127]) [(.aload_n 0, 0), (.iload_n 1, 0), (.iload 4, 0), (.iload 5, 0)] (by decide +kernel) rfl rfl ?_
      refine ef_veI (d := 2) (k := 127) (As := [.int p0, .int p3, .int p4]) (st := []) eV_12_onPath eK_12_614 (eS_12_onPath g s p0 p3 p4) rfl rfl (Nat.le_of_ble_eq_true rfl) rfl (Nat.le_of_ble_eq_true rfl) ⟨Nat.le_of_ble_eq_true rfl, Nat.le_of_ble_eq_true rfl⟩ ⟨Nat.le_refl _, Nat.le_refl _⟩ (by decide +kernel) (fun q9 _ => ?_)
      refine ef_drop (L2 := [none, none, none, none, none, none, none]) [false, false, true, false, false, false, true] rfl rfl ?_
      exact Hj5 _ _
    refine es_blk (pc' := 443) (L' := [some (.ref 127), some (.int p0), none, some (.int p2), some (.int p3), some (.int p4), none]) (st' := [.int (-2)]) [(.bipush (-2), (-2))] (by decide +kernel) rfl rfl ?_
    refine es_goto (tgt := 455) (off := (12)) (by decide +kernel) (by decide) ?_
    refine ef_drop (L2 := [none, none, none, none, none, none, none]) [false, false, true, false, false, false, true] rfl rfl ?_
    exact Hj5 _ _
  have hs10 : decode eM_12_answered.2.1 2 = .ok (.tableswitch (549) (34) (50) #[(82), (93), (162), (268), (302), (311), (344), (355), (364), (371), (549), (390), (431), (431), (431), (454), (519)], 82) := by decide +kernel
  refine es_ifc (fun h11 => ?_) (fun h11 => ?_)
  · refine es_tsw (off := (82)) (tgt := 84) hs10 34 h11 (by decide) ?_
    refine es_blk (pc' := 91) (L' := [some (.ref 127), some (.int p0), some (.int p1), some (.int p2), some (.int p3), some (.int p4), some (.int p5)]) (st' := [.int p5, .int p4, .int p2, .int p0, .ref 127]) [(.aload_n 0, 0), (.iload_n 1, 0), (.iload_n 3, 0), (.iload 5, 0), (.iload 6, 0)] (by decide +kernel) rfl rfl ?_
    refine ef_veI (d := 7) (k := 127) (As := [.int p0, .int p2, .int p4, .int p5]) (st := []) eV_12_attest eK_12_585 (eS_12_attest g s p0 p2 p4 p5) rfl rfl (Nat.le_of_ble_eq_true rfl) rfl (Nat.le_of_ble_eq_true rfl) ⟨Nat.le_of_ble_eq_true rfl, Nat.le_of_ble_eq_true rfl⟩ ⟨Nat.le_refl _, Nat.le_refl _⟩ (by decide +kernel) (fun q12 _ => ?_)
    exact es_ret rfl rfl rfl ⟨by decide +kernel, _, rfl, rfl⟩ (Nat.le_refl _) (Nat.le_refl _)
  refine es_ifc (fun h13 => ?_) (fun h13 => ?_)
  · refine es_tsw (off := (93)) (tgt := 95) hs10 35 h13 (by decide) ?_
    refine es_blk (pc' := 101) (L' := [some (.ref 127), some (.int p0), some (.int p1), some (.int p2), some (.int p3), some (.int p4), some (.int p5)]) (st' := [.int 32, .int p5, .int p0, .ref 127]) [(.aload_n 0, 0), (.iload_n 1, 0), (.iload 6, 0), (.bipush 32, 32)] (by decide +kernel) rfl rfl ?_
    refine ef_veI (d := 4) (k := 127) (As := [.int p0, .int p5, .int 32]) (st := []) eV_12_canWrite eK_12_588 (eS_12_canWrite g s p0 p5 32) rfl rfl (Nat.le_of_ble_eq_true rfl) rfl (Nat.le_of_ble_eq_true rfl) ⟨Nat.le_of_ble_eq_true rfl, Nat.le_of_ble_eq_true rfl⟩ ⟨Nat.le_refl _, Nat.le_refl _⟩ (by decide +kernel) (fun q14 _ => ?_)
    refine es_ne (tgt := 109) (off := (5)) (by decide +kernel) (by decide) (fun h15 => ?_) (fun h15 => ?_)
    · refine es_blk (pc' := 108) (L' := [some (.ref 127), some (.int p0), some (.int p1), some (.int p2), some (.int p3), some (.int p4), some (.int p5)]) (st' := [.int (-1)]) [(.iconst (-1), (-1))] (by decide +kernel) rfl rfl ?_
      exact es_ret rfl rfl rfl ⟨by decide +kernel, _, rfl, rfl⟩ (Nat.le_refl _) (Nat.le_refl _)
    refine es_blk (pc' := 111) (L' := [some (.ref 127), some (.int p0), some (.int p1), some (.int p2), some (.int p3), some (.int p4), some (.int p5)]) (st' := [.int 0, .ref 127]) [(.aload_n 0, 0), (.iconst 0, 0)] (by decide +kernel) rfl rfl ?_
    refine ef_putI (k := 127) (j := 79) rfl eL_12_258 rfl rfl (by decide +kernel) ?_
    refine ef_V (fun _ => [some (.ref 127), some (.int p0), some (.int p1), some (.int p2), some (.int p3), some (.int p4), some (.int p5)]) (fun _ => []) (fun s16 => eh_FW s16) (fun s16 => ?_)
    refine es_blk (pc' := 117) (L' := [some (.ref 127), some (.int p0), some (.int p1), some (.int p2), some (.int p3), some (.int p4), some (.int p5)]) (st' := [.int 6, .ref 127]) [(.aload_n 0, 0), (.bipush 6, 6)] (by decide +kernel) rfl rfl ?_
    refine ef_veV (d := 1) (k := 127) (As := [.int 6]) (st := []) eV_12_say eK_12_266 (eS_12_say g s16 6) rfl rfl (Nat.le_of_ble_eq_true rfl) rfl (Nat.le_of_ble_eq_true rfl) ⟨Nat.le_of_ble_eq_true rfl, Nat.le_of_ble_eq_true rfl⟩ ⟨Nat.le_refl _, Nat.le_refl _⟩ (by decide +kernel) (fun q17 _ => ?_)
    refine es_blk (pc' := 122) (L' := [some (.ref 127), some (.int p0), some (.int p1), some (.int p2), some (.int p3), some (.int p4), some (.int p5)]) (st' := [.ref 127, .ref 127]) [(.aload_n 0, 0), (.aload_n 0, 0)] (by decide +kernel) rfl rfl ?_
    refine ef_getP (k := 127) (j := 34) (q := 159) rfl eL_12_106 rfl rfl rfl (by decide +kernel) ?_
    refine es_blk (pc' := 131) (L' := [some (.ref 127), some (.int p0), some (.int p1), some (.int p2), some (.int p3), some (.int p4), some (.int p5)]) (st' := [.int 32, .int (32 * p2), .ref 159, .ref 127]) [(.bipush 32, 32), (.iload_n 3, 0), (.imul, 0), (.bipush 32, 32)] (by decide +kernel) rfl rfl ?_
    refine ef_veV (d := 1) (k := 127) (As := [.ref 159, .int (32 * p2), .int 32]) (st := []) eV_12_sayBytes eK_12_269 (eS_12_sayBytes g q17 159 192 (32 * p2) 32 rfl) rfl rfl (Nat.le_of_ble_eq_true rfl) rfl (Nat.le_of_ble_eq_true rfl) ⟨Nat.le_of_ble_eq_true rfl, Nat.le_of_ble_eq_true rfl⟩ ⟨Nat.le_refl _, Nat.le_refl _⟩ (by decide +kernel) (fun q18 _ => ?_)
    refine es_blk (pc' := 137) (L' := [some (.ref 127), some (.int p0), some (.int p1), some (.int p2), some (.int p3), some (.int p4), some (.int p5)]) (st' := [.int p4, .ref 127]) [(.aload_n 0, 0), (.iload 5, 0)] (by decide +kernel) rfl rfl ?_
    refine ef_veV (d := 1) (k := 127) (As := [.int p4]) (st := []) eV_12_say eK_12_266 (eS_12_say g q18 p4) rfl rfl (Nat.le_of_ble_eq_true rfl) rfl (Nat.le_of_ble_eq_true rfl) ⟨Nat.le_of_ble_eq_true rfl, Nat.le_of_ble_eq_true rfl⟩ ⟨Nat.le_refl _, Nat.le_refl _⟩ (by decide +kernel) (fun q19 _ => ?_)
    refine es_blk (pc' := 142) (L' := [some (.ref 127), some (.int p0), some (.int p1), some (.int p2), some (.int p3), some (.int p4), some (.int p5)]) (st' := [.ref 127, .ref 127]) [(.aload_n 0, 0), (.aload_n 0, 0)] (by decide +kernel) rfl rfl ?_
    refine ef_getP (k := 127) (j := 72) (q := 186) rfl eL_12_187 rfl rfl rfl (by decide +kernel) ?_
    refine ef_veV (d := 5) (k := 127) (As := [.ref 186]) (st := []) eV_12_keyed eK_12_273 (eS_12_keyed g q19 186 32 rfl) rfl rfl (Nat.le_of_ble_eq_true rfl) rfl (Nat.le_of_ble_eq_true rfl) ⟨Nat.le_of_ble_eq_true rfl, Nat.le_of_ble_eq_true rfl⟩ ⟨Nat.le_refl _, Nat.le_refl _⟩ (by decide +kernel) (fun q20 _ => ?_)
    refine es_blk (pc' := 153) (L' := [some (.ref 127), some (.int p0), some (.int p1), some (.int p2), some (.int p3), some (.int p4), some (.int p5)]) (st' := [.ref 127, .int p5, .int p0, .ref 127]) [(.aload_n 0, 0), (.iload_n 1, 0), (.iload 6, 0), (.aload_n 0, 0)] (by decide +kernel) rfl rfl ?_
    refine ef_getP (k := 127) (j := 81) (q := 194) rfl eL_12_212 rfl rfl rfl (by decide +kernel) ?_
    refine es_blk (pc' := 159) (L' := [some (.ref 127), some (.int p0), some (.int p1), some (.int p2), some (.int p3), some (.int p4), some (.int p5)]) (st' := [.int 32, .int 0, .ref 194, .int p5, .int p0, .ref 127]) [(.iconst 0, 0), (.bipush 32, 32)] (by decide +kernel) rfl rfl ?_
    refine ef_veV (d := 3) (k := 127) (As := [.int p0, .int p5, .ref 194, .int 0, .int 32]) (st := []) eV_12_writeTo eK_12_591 (eS_12_writeTo g q20 p0 p5 194 32 0 32 rfl) rfl rfl (Nat.le_of_ble_eq_true rfl) rfl (Nat.le_of_ble_eq_true rfl) ⟨Nat.le_of_ble_eq_true rfl, Nat.le_of_ble_eq_true rfl⟩ ⟨Nat.le_refl _, Nat.le_refl _⟩ (by decide +kernel) (fun q21 _ => ?_)
    refine es_blk (pc' := 163) (L' := [some (.ref 127), some (.int p0), some (.int p1), some (.int p2), some (.int p3), some (.int p4), some (.int p5)]) (st' := [.int 0]) [(.iconst 0, 0)] (by decide +kernel) rfl rfl ?_
    exact es_ret rfl rfl rfl ⟨by decide +kernel, _, rfl, rfl⟩ (Nat.le_refl _) (Nat.le_refl _)
  refine es_ifc (fun h22 => ?_) (fun h22 => ?_)
  · refine es_tsw (off := (162)) (tgt := 164) hs10 36 h22 (by decide) ?_
    refine es_blk (pc' := 167) (L' := [some (.ref 127), some (.int p0), some (.int p1), some (.int p2), some (.int p3), some (.int p4), some (.int p5)]) (st' := [.int 1, .int p5]) [(.iload 6, 0), (.iconst 1, 1)] (by decide +kernel) rfl rfl ?_
    refine ef_J (X := fun j23 => ∀ (s24 : eh_F), eh_Sim g eM_12_answered (eh_R 8 0 0) eh_eI 0 0 189 [none, none, none, none, none, none, none] [] (eh_FW s24) ((j23 s24).bind some)) ?_ (fun j23 Hj23 => ?_)
    · intro s24
      refine es_blk (pc' := 190) (L' := [none, none, none, none, none, none, none]) (st' := [.int (-1)]) [(.iconst (-1), (-1))] (by decide +kernel) rfl rfl ?_
      exact es_ret rfl rfl rfl ⟨by decide +kernel, _, rfl, rfl⟩ (Nat.le_refl _) (Nat.le_refl _)
    refine es_ilt (tgt := 189) (off := (22)) (by decide +kernel) (by decide) (fun h25 => ?_) (fun h25 => ?_)
    · refine ef_drop (L2 := [none, none, none, none, none, none, none]) [false, false, false, false, false, false, false] rfl rfl ?_
      exact Hj23 _
    refine es_blk (pc' := 174) (L' := [some (.ref 127), some (.int p0), some (.int p1), some (.int p2), some (.int p3), some (.int p4), some (.int p5)]) (st' := [.int 32, .int p5]) [(.iload 6, 0), (.bipush 32, 32)] (by decide +kernel) rfl rfl ?_
    refine es_igt (tgt := 189) (off := (15)) (by decide +kernel) (by decide) (fun h26 => ?_) (fun h26 => ?_)
    · refine ef_drop (L2 := [none, none, none, none, none, none, none]) [false, false, false, false, false, false, false] rfl rfl ?_
      exact Hj23 _
    refine es_blk (pc' := 183) (L' := [some (.ref 127), some (.int p0), some (.int p1), some (.int p2), some (.int p3), some (.int p4), some (.int p5)]) (st' := [.int p5, .int p4, .int p0, .ref 127]) [(.aload_n 0, 0), (.iload_n 1, 0), (.iload 5, 0), (.iload 6, 0)] (by decide +kernel) rfl rfl ?_
    refine ef_veI (d := 4) (k := 127) (As := [.int p0, .int p4, .int p5]) (st := []) eV_12_canWrite eK_12_588 (eS_12_canWrite g s p0 p4 p5) rfl rfl (Nat.le_of_ble_eq_true rfl) rfl (Nat.le_of_ble_eq_true rfl) ⟨Nat.le_of_ble_eq_true rfl, Nat.le_of_ble_eq_true rfl⟩ ⟨Nat.le_refl _, Nat.le_refl _⟩ (by decide +kernel) (fun q27 _ => ?_)
    refine es_ne (tgt := 191) (off := (5)) (by decide +kernel) (by decide) (fun h28 => ?_) (fun h28 => ?_)
    · refine ef_drop (L2 := [none, none, none, none, none, none, none]) [false, false, false, false, false, false, false] rfl rfl ?_
      exact Hj23 _
    refine es_blk (pc' := 193) (L' := [some (.ref 127), some (.int p0), some (.int p1), some (.int p2), some (.int p3), some (.int p4), some (.int p5)]) (st' := [.int 0, .ref 127]) [(.aload_n 0, 0), (.iconst 0, 0)] (by decide +kernel) rfl rfl ?_
    refine ef_putI (k := 127) (j := 79) rfl eL_12_258 rfl rfl (by decide +kernel) ?_
    refine ef_V (fun _ => [some (.ref 127), some (.int p0), some (.int p1), some (.int p2), some (.int p3), some (.int p4), some (.int p5)]) (fun _ => []) (fun s29 => eh_FW s29) (fun s29 => ?_)
    refine es_blk (pc' := 199) (L' := [some (.ref 127), some (.int p0), some (.int p1), some (.int p2), some (.int p3), some (.int p4), some (.int p5)]) (st' := [.int 7, .ref 127]) [(.aload_n 0, 0), (.bipush 7, 7)] (by decide +kernel) rfl rfl ?_
    refine ef_veV (d := 1) (k := 127) (As := [.int 7]) (st := []) eV_12_say eK_12_266 (eS_12_say g s29 7) rfl rfl (Nat.le_of_ble_eq_true rfl) rfl (Nat.le_of_ble_eq_true rfl) ⟨Nat.le_of_ble_eq_true rfl, Nat.le_of_ble_eq_true rfl⟩ ⟨Nat.le_refl _, Nat.le_refl _⟩ (by decide +kernel) (fun q30 _ => ?_)
    refine es_blk (pc' := 204) (L' := [some (.ref 127), some (.int p0), some (.int p1), some (.int p2), some (.int p3), some (.int p4), some (.int p5)]) (st' := [.ref 127, .ref 127]) [(.aload_n 0, 0), (.aload_n 0, 0)] (by decide +kernel) rfl rfl ?_
    refine ef_getP (k := 127) (j := 34) (q := 159) rfl eL_12_106 rfl rfl rfl (by decide +kernel) ?_
    refine es_blk (pc' := 213) (L' := [some (.ref 127), some (.int p0), some (.int p1), some (.int p2), some (.int p3), some (.int p4), some (.int p5)]) (st' := [.int 32, .int (32 * p2), .ref 159, .ref 127]) [(.bipush 32, 32), (.iload_n 3, 0), (.imul, 0), (.bipush 32, 32)] (by decide +kernel) rfl rfl ?_
    refine ef_veV (d := 1) (k := 127) (As := [.ref 159, .int (32 * p2), .int 32]) (st := []) eV_12_sayBytes eK_12_269 (eS_12_sayBytes g q30 159 192 (32 * p2) 32 rfl) rfl rfl (Nat.le_of_ble_eq_true rfl) rfl (Nat.le_of_ble_eq_true rfl) ⟨Nat.le_of_ble_eq_true rfl, Nat.le_of_ble_eq_true rfl⟩ ⟨Nat.le_refl _, Nat.le_refl _⟩ (by decide +kernel) (fun q31 _ => ?_)
    refine es_blk (pc' := 218) (L' := [some (.ref 127), some (.int p0), some (.int p1), some (.int p2), some (.int p3), some (.int p4), some (.int p5)]) (st' := [.ref 127, .ref 127]) [(.aload_n 0, 0), (.aload_n 0, 0)] (by decide +kernel) rfl rfl ?_
    refine ef_getP (k := 127) (j := 33) (q := 158) rfl eL_12_103 rfl rfl rfl (by decide +kernel) ?_
    refine es_blk (pc' := 222) (L' := [some (.ref 127), some (.int p0), some (.int p1), some (.int p2), some (.int p3), some (.int p4), some (.int p5)]) (st' := [.int p2, .ref 158, .ref 127]) [(.iload_n 3, 0)] (by decide +kernel) rfl rfl ?_
    refine ef_ald (k := 158) rfl (Or.inl ⟨rfl, rfl⟩) (by decide +kernel) (fun _ => ?_)
    refine ef_veV (d := 1) (k := 127) (As := [.int (q31.1 158 (eh_ix p2))]) (st := []) eV_12_say eK_12_266 (eS_12_say g q31 (q31.1 158 (eh_ix p2))) rfl rfl (Nat.le_of_ble_eq_true rfl) rfl (Nat.le_of_ble_eq_true rfl) ⟨Nat.le_of_ble_eq_true rfl, Nat.le_of_ble_eq_true rfl⟩ ⟨Nat.le_refl _, Nat.le_refl _⟩ (by decide +kernel) (fun q32 _ => ?_)
    refine es_blk (pc' := 228) (L' := [some (.ref 127), some (.int p0), some (.int p1), some (.int p2), some (.int p3), some (.int p4), some (.int p5)]) (st' := [.ref 127, .ref 127]) [(.aload_n 0, 0), (.aload_n 0, 0)] (by decide +kernel) rfl rfl ?_
    refine ef_getP (k := 127) (j := 38) (q := 163) rfl eL_12_118 rfl rfl rfl (by decide +kernel) ?_
    refine es_blk (pc' := 232) (L' := [some (.ref 127), some (.int p0), some (.int p1), some (.int p2), some (.int p3), some (.int p4), some (.int p5)]) (st' := [.int p2, .ref 163, .ref 127]) [(.iload_n 3, 0)] (by decide +kernel) rfl rfl ?_
    refine ef_ald (k := 163) rfl (Or.inl ⟨rfl, rfl⟩) (by decide +kernel) (fun _ => ?_)
    refine ef_veV (d := 1) (k := 127) (As := [.int (q32.1 163 (eh_ix p2))]) (st := []) eV_12_say eK_12_266 (eS_12_say g q32 (q32.1 163 (eh_ix p2))) rfl rfl (Nat.le_of_ble_eq_true rfl) rfl (Nat.le_of_ble_eq_true rfl) ⟨Nat.le_of_ble_eq_true rfl, Nat.le_of_ble_eq_true rfl⟩ ⟨Nat.le_refl _, Nat.le_refl _⟩ (by decide +kernel) (fun q33 _ => ?_)
    refine es_blk (pc' := 238) (L' := [some (.ref 127), some (.int p0), some (.int p1), some (.int p2), some (.int p3), some (.int p4), some (.int p5)]) (st' := [.ref 127, .ref 127]) [(.aload_n 0, 0), (.aload_n 0, 0)] (by decide +kernel) rfl rfl ?_
    refine ef_getP (k := 127) (j := 72) (q := 186) rfl eL_12_187 rfl rfl rfl (by decide +kernel) ?_
    refine ef_veV (d := 5) (k := 127) (As := [.ref 186]) (st := []) eV_12_keyed eK_12_273 (eS_12_keyed g q33 186 32 rfl) rfl rfl (Nat.le_of_ble_eq_true rfl) rfl (Nat.le_of_ble_eq_true rfl) ⟨Nat.le_of_ble_eq_true rfl, Nat.le_of_ble_eq_true rfl⟩ ⟨Nat.le_refl _, Nat.le_refl _⟩ (by decide +kernel) (fun q34 _ => ?_)
    refine es_blk (pc' := 245) (L' := [some (.ref 127), some (.int p0), some (.int p1), some (.int p2), some (.int p3), some (.int p4), some (.int p5)]) (st' := [.ref 127]) [(.aload_n 0, 0)] (by decide +kernel) rfl rfl ?_
    refine ef_getP (k := 127) (j := 38) (q := 163) rfl eL_12_118 rfl rfl rfl (by decide +kernel) ?_
    refine es_blk (pc' := 250) (L' := [some (.ref 127), some (.int p0), some (.int p1), some (.int p2), some (.int p3), some (.int p4), some (.int p5)]) (st' := [.int p2, .ref 163, .int p2, .ref 163]) [(.iload_n 3, 0), (.dup2, 0)] (by decide +kernel) rfl rfl ?_
    refine ef_ald (k := 163) rfl (Or.inl ⟨rfl, rfl⟩) (by decide +kernel) (fun _ => ?_)
    refine es_blk (pc' := 253) (L' := [some (.ref 127), some (.int p0), some (.int p1), some (.int p2), some (.int p3), some (.int p4), some (.int p5)]) (st' := [.int ((q34.1 163 (eh_ix p2)) + 1), .int p2, .ref 163]) [(.iconst 1, 1), (.iadd, 0)] (by decide +kernel) rfl rfl ?_
    refine ef_ast (k := 163) rfl (by decide +kernel) (fun _ => ?_)
    refine ef_V (fun _ => [some (.ref 127), some (.int p0), some (.int p1), some (.int p2), some (.int p3), some (.int p4), some (.int p5)]) (fun _ => []) (fun s35 => eh_FW s35) (fun s35 => ?_)
    refine es_blk (pc' := 259) (L' := [some (.ref 127), some (.int p0), some (.int p1), some (.int p2), some (.int p3), some (.int p4), some (.int p5)]) (st' := [.ref 127, .int p4, .int p0, .ref 127]) [(.aload_n 0, 0), (.iload_n 1, 0), (.iload 5, 0), (.aload_n 0, 0)] (by decide +kernel) rfl rfl ?_
    refine ef_getP (k := 127) (j := 81) (q := 194) rfl eL_12_212 rfl rfl rfl (by decide +kernel) ?_
    refine es_blk (pc' := 265) (L' := [some (.ref 127), some (.int p0), some (.int p1), some (.int p2), some (.int p3), some (.int p4), some (.int p5)]) (st' := [.int p5, .int 0, .ref 194, .int p4, .int p0, .ref 127]) [(.iconst 0, 0), (.iload 6, 0)] (by decide +kernel) rfl rfl ?_
    refine ef_veV (d := 3) (k := 127) (As := [.int p0, .int p4, .ref 194, .int 0, .int p5]) (st := []) eV_12_writeTo eK_12_591 (eS_12_writeTo g s35 p0 p4 194 32 0 p5 rfl) rfl rfl (Nat.le_of_ble_eq_true rfl) rfl (Nat.le_of_ble_eq_true rfl) ⟨Nat.le_of_ble_eq_true rfl, Nat.le_of_ble_eq_true rfl⟩ ⟨Nat.le_refl _, Nat.le_refl _⟩ (by decide +kernel) (fun q36 _ => ?_)
    refine es_blk (pc' := 269) (L' := [some (.ref 127), some (.int p0), some (.int p1), some (.int p2), some (.int p3), some (.int p4), some (.int p5)]) (st' := [.int 0]) [(.iconst 0, 0)] (by decide +kernel) rfl rfl ?_
    exact es_ret rfl rfl rfl ⟨by decide +kernel, _, rfl, rfl⟩ (Nat.le_refl _) (Nat.le_refl _)
  refine es_ifc (fun h37 => ?_) (fun h37 => ?_)
  · refine es_tsw (off := (268)) (tgt := 270) hs10 37 h37 (by decide) ?_
    refine es_blk (pc' := 277) (L' := [some (.ref 127), some (.int p0), some (.int p1), some (.int p2), some (.int p3), some (.int p4), some (.int p5)]) (st' := [.int 128, .int p4, .int p0, .ref 127]) [(.aload_n 0, 0), (.iload_n 1, 0), (.iload 5, 0), (.sipush 128, 128)] (by decide +kernel) rfl rfl ?_
    refine ef_veI (d := 4) (k := 127) (As := [.int p0, .int p4, .int 128]) (st := []) eV_12_canRead eK_12_595 (eS_12_canRead g s p0 p4 128) rfl rfl (Nat.le_of_ble_eq_true rfl) rfl (Nat.le_of_ble_eq_true rfl) ⟨Nat.le_of_ble_eq_true rfl, Nat.le_of_ble_eq_true rfl⟩ ⟨Nat.le_refl _, Nat.le_refl _⟩ (by decide +kernel) (fun q38 _ => ?_)
    refine ef_J (X := fun j39 => ∀ (a40 : Int32) (s41 : eh_F), eh_Sim g eM_12_answered (eh_R 8 0 0) eh_eI 0 0 303 [none, none, none, none, none, none, none] [.int a40] (eh_FW s41) ((j39 a40 s41).bind some)) ?_ (fun j39 Hj39 => ?_)
    · intro a40 s41
      exact es_ret rfl rfl rfl ⟨by decide +kernel, _, rfl, rfl⟩ (Nat.le_refl _) (Nat.le_refl _)
    refine es_ne (tgt := 287) (off := (7)) (by decide +kernel) (by decide) (fun h42 => ?_) (fun h42 => ?_)
    · refine es_blk (pc' := 284) (L' := [some (.ref 127), some (.int p0), some (.int p1), some (.int p2), some (.int p3), some (.int p4), some (.int p5)]) (st' := [.int (-1)]) [(.iconst (-1), (-1))] (by decide +kernel) rfl rfl ?_
      refine es_goto (tgt := 303) (off := (19)) (by decide +kernel) (by decide) ?_
      refine ef_drop (L2 := [none, none, none, none, none, none, none]) [false, false, false, false, false, false, false] rfl rfl ?_
      exact Hj39 _ _
    refine es_blk (pc' := 289) (L' := [some (.ref 127), some (.int p0), some (.int p1), some (.int p2), some (.int p3), some (.int p4), some (.int p5)]) (st' := [.ref 127, .ref 127]) [(.aload_n 0, 0), (.aload_n 0, 0)] (by decide +kernel) rfl rfl ?_
    refine ef_getP (k := 127) (j := 82) (q := 195) rfl eL_12_215 rfl rfl rfl (by decide +kernel) ?_
    refine ef_veI (d := 7) (k := 127) (As := [.ref 195]) (st := []) eV_12_isReport eK_12_598 (eS_12_isReport g q38.2 195 128 rfl) rfl rfl (Nat.le_of_ble_eq_true rfl) rfl (Nat.le_of_ble_eq_true rfl) ⟨Nat.le_of_ble_eq_true rfl, Nat.le_of_ble_eq_true rfl⟩ ⟨Nat.le_refl _, Nat.le_refl _⟩ (by decide +kernel) (fun q43 _ => ?_)
    refine es_eq (tgt := 302) (off := (7)) (by decide +kernel) (by decide) (fun h44 => ?_) (fun h44 => ?_)
    · refine es_blk (pc' := 303) (L' := [some (.ref 127), some (.int p0), some (.int p1), some (.int p2), some (.int p3), some (.int p4), some (.int p5)]) (st' := [.int 0]) [(.iconst 0, 0)] (by decide +kernel) rfl rfl ?_
      refine ef_drop (L2 := [none, none, none, none, none, none, none]) [false, false, false, false, false, false, false] rfl rfl ?_
      exact Hj39 _ _
    refine es_blk (pc' := 299) (L' := [some (.ref 127), some (.int p0), some (.int p1), some (.int p2), some (.int p3), some (.int p4), some (.int p5)]) (st' := [.int 1]) [(.iconst 1, 1)] (by decide +kernel) rfl rfl ?_
    refine es_goto (tgt := 303) (off := (4)) (by decide +kernel) (by decide) ?_
    refine ef_drop (L2 := [none, none, none, none, none, none, none]) [false, false, false, false, false, false, false] rfl rfl ?_
    exact Hj39 _ _
  refine es_ifc (fun h45 => ?_) (fun h45 => ?_)
  · refine es_tsw (off := (302)) (tgt := 304) hs10 38 h45 (by decide) ?_
    refine es_blk (pc' := 309) (L' := [some (.ref 127), some (.int p0), some (.int p1), some (.int p2), some (.int p3), some (.int p4), some (.int p5)]) (st' := [.int p4, .int p2, .int p0, .ref 127]) [(.aload_n 0, 0), (.iload_n 1, 0), (.iload_n 3, 0), (.iload 5, 0)] (by decide +kernel) rfl rfl ?_
    refine ef_veI (d := 2) (k := 127) (As := [.int p0, .int p2, .int p4]) (st := []) eV_12_accept eK_12_602 (eS_12_accept g s p0 p2 p4) rfl rfl (Nat.le_of_ble_eq_true rfl) rfl (Nat.le_of_ble_eq_true rfl) ⟨Nat.le_of_ble_eq_true rfl, Nat.le_of_ble_eq_true rfl⟩ ⟨Nat.le_refl _, Nat.le_refl _⟩ (by decide +kernel) (fun q46 _ => ?_)
    exact es_ret rfl rfl rfl ⟨by decide +kernel, _, rfl, rfl⟩ (Nat.le_refl _) (Nat.le_refl _)
  refine es_ifc (fun h47 => ?_) (fun h47 => ?_)
  · refine es_tsw (off := (311)) (tgt := 313) hs10 39 h47 (by decide) ?_
    refine es_blk (pc' := 319) (L' := [some (.ref 127), some (.int p0), some (.int p1), some (.int p2), some (.int p3), some (.int p4), some (.int p5)]) (st' := [.int 32, .int p4, .int p0, .ref 127]) [(.aload_n 0, 0), (.iload_n 1, 0), (.iload 5, 0), (.bipush 32, 32)] (by decide +kernel) rfl rfl ?_
    refine ef_veI (d := 4) (k := 127) (As := [.int p0, .int p4, .int 32]) (st := []) eV_12_canWrite eK_12_588 (eS_12_canWrite g s p0 p4 32) rfl rfl (Nat.le_of_ble_eq_true rfl) rfl (Nat.le_of_ble_eq_true rfl) ⟨Nat.le_of_ble_eq_true rfl, Nat.le_of_ble_eq_true rfl⟩ ⟨Nat.le_refl _, Nat.le_refl _⟩ (by decide +kernel) (fun q48 _ => ?_)
    refine es_ne (tgt := 327) (off := (5)) (by decide +kernel) (by decide) (fun h49 => ?_) (fun h49 => ?_)
    · refine es_blk (pc' := 326) (L' := [some (.ref 127), some (.int p0), some (.int p1), some (.int p2), some (.int p3), some (.int p4), some (.int p5)]) (st' := [.int (-1)]) [(.iconst (-1), (-1))] (by decide +kernel) rfl rfl ?_
      exact es_ret rfl rfl rfl ⟨by decide +kernel, _, rfl, rfl⟩ (Nat.le_refl _) (Nat.le_refl _)
    refine es_blk (pc' := 332) (L' := [some (.ref 127), some (.int p0), some (.int p1), some (.int p2), some (.int p3), some (.int p4), some (.int p5)]) (st' := [.ref 127, .int p4, .int p0, .ref 127]) [(.aload_n 0, 0), (.iload_n 1, 0), (.iload 5, 0), (.aload_n 0, 0)] (by decide +kernel) rfl rfl ?_
    refine ef_getP (k := 127) (j := 34) (q := 159) rfl eL_12_106 rfl rfl rfl (by decide +kernel) ?_
    refine es_blk (pc' := 341) (L' := [some (.ref 127), some (.int p0), some (.int p1), some (.int p2), some (.int p3), some (.int p4), some (.int p5)]) (st' := [.int 32, .int (32 * p2), .ref 159, .int p4, .int p0, .ref 127]) [(.bipush 32, 32), (.iload_n 3, 0), (.imul, 0), (.bipush 32, 32)] (by decide +kernel) rfl rfl ?_
    refine ef_veV (d := 3) (k := 127) (As := [.int p0, .int p4, .ref 159, .int (32 * p2), .int 32]) (st := []) eV_12_writeTo eK_12_591 (eS_12_writeTo g q48.2 p0 p4 159 192 (32 * p2) 32 rfl) rfl rfl (Nat.le_of_ble_eq_true rfl) rfl (Nat.le_of_ble_eq_true rfl) ⟨Nat.le_of_ble_eq_true rfl, Nat.le_of_ble_eq_true rfl⟩ ⟨Nat.le_refl _, Nat.le_refl _⟩ (by decide +kernel) (fun q50 _ => ?_)
    refine es_blk (pc' := 345) (L' := [some (.ref 127), some (.int p0), some (.int p1), some (.int p2), some (.int p3), some (.int p4), some (.int p5)]) (st' := [.int 0]) [(.iconst 0, 0)] (by decide +kernel) rfl rfl ?_
    exact es_ret rfl rfl rfl ⟨by decide +kernel, _, rfl, rfl⟩ (Nat.le_refl _) (Nat.le_refl _)
  refine es_ifc (fun h51 => ?_) (fun h51 => ?_)
  · refine es_tsw (off := (344)) (tgt := 346) hs10 40 h51 (by decide) ?_
    refine es_blk (pc' := 353) (L' := [some (.ref 127), some (.int p0), some (.int p1), some (.int p2), some (.int p3), some (.int p4), some (.int p5)]) (st' := [.int p5, .int p4, .int p2, .int p0, .ref 127]) [(.aload_n 0, 0), (.iload_n 1, 0), (.iload_n 3, 0), (.iload 5, 0), (.iload 6, 0)] (by decide +kernel) rfl rfl ?_
    refine ef_veI (d := 5) (k := 127) (As := [.int p0, .int p2, .int p4, .int p5]) (st := []) eV_12_send eK_12_605 (eS_12_send g s p0 p2 p4 p5) rfl rfl (Nat.le_of_ble_eq_true rfl) rfl (Nat.le_of_ble_eq_true rfl) ⟨Nat.le_of_ble_eq_true rfl, Nat.le_of_ble_eq_true rfl⟩ ⟨Nat.le_refl _, Nat.le_refl _⟩ (by decide +kernel) (fun q52 _ => ?_)
    exact es_ret rfl rfl rfl ⟨by decide +kernel, _, rfl, rfl⟩ (Nat.le_refl _) (Nat.le_refl _)
  refine es_ifc (fun h53 => ?_) (fun h53 => ?_)
  · refine es_tsw (off := (355)) (tgt := 357) hs10 41 h53 (by decide) ?_
    refine es_blk (pc' := 362) (L' := [some (.ref 127), some (.int p0), some (.int p1), some (.int p2), some (.int p3), some (.int p4), some (.int p5)]) (st' := [.int p4, .int p2, .int p0, .ref 127]) [(.aload_n 0, 0), (.iload_n 1, 0), (.iload_n 3, 0), (.iload 5, 0)] (by decide +kernel) rfl rfl ?_
    refine ef_veI (d := 5) (k := 127) (As := [.int p0, .int p2, .int p4]) (st := []) eV_12_receive eK_12_608 (eS_12_receive g s p0 p2 p4) rfl rfl (Nat.le_of_ble_eq_true rfl) rfl (Nat.le_of_ble_eq_true rfl) ⟨Nat.le_of_ble_eq_true rfl, Nat.le_of_ble_eq_true rfl⟩ ⟨Nat.le_refl _, Nat.le_refl _⟩ (by decide +kernel) (fun q54 _ => ?_)
    exact es_ret rfl rfl rfl ⟨by decide +kernel, _, rfl, rfl⟩ (Nat.le_refl _) (Nat.le_refl _)
  refine es_ifc (fun h55 => ?_) (fun h55 => ?_)
  · refine es_tsw (off := (364)) (tgt := 366) hs10 42 h55 (by decide) ?_
    refine es_blk (pc' := 369) (L' := [some (.ref 127), some (.int p0), some (.int p1), some (.int p2), some (.int p3), some (.int p4), some (.int p5)]) (st' := [.int p2, .int p0, .ref 127]) [(.aload_n 0, 0), (.iload_n 1, 0), (.iload_n 3, 0)] (by decide +kernel) rfl rfl ?_
    refine ef_veI (d := 2) (k := 127) (As := [.int p0, .int p2]) (st := []) eV_12_count eK_12_611 (eS_12_count g s p0 p2) rfl rfl (Nat.le_of_ble_eq_true rfl) rfl (Nat.le_of_ble_eq_true rfl) ⟨Nat.le_of_ble_eq_true rfl, Nat.le_of_ble_eq_true rfl⟩ ⟨Nat.le_refl _, Nat.le_refl _⟩ (by decide +kernel) (fun q56 _ => ?_)
    exact es_ret rfl rfl rfl ⟨by decide +kernel, _, rfl, rfl⟩ (Nat.le_refl _) (Nat.le_refl _)
  refine es_ifc (fun h57 => ?_) (fun h57 => ?_)
  · refine es_tsw (off := (371)) (tgt := 373) hs10 43 h57 (by decide) ?_
    refine es_blk (pc' := 377) (L' := [some (.ref 127), some (.int p0), some (.int p1), some (.int p2), some (.int p3), some (.int p4), some (.int p5)]) (st' := [.int (p4 &&& 3)]) [(.iload 5, 0), (.iconst 3, 3), (.iand, 0)] (by decide +kernel) rfl rfl ?_
    refine es_eq (tgt := 382) (off := (5)) (by decide +kernel) (by decide) (fun h58 => ?_) (fun h58 => ?_)
    · refine es_blk (pc' := 383) (L' := [some (.ref 127), some (.int p0), some (.int p1), some (.int p2), some (.int p3), some (.int p4), some (.int p5)]) (st' := [.ref 127]) [(.aload_n 0, 0)] (by decide +kernel) rfl rfl ?_
      refine ef_getP (k := 127) (j := 27) (q := 152) rfl eL_12_85 rfl rfl rfl (by decide +kernel) ?_
      refine es_blk (pc' := 389) (L' := [some (.ref 127), some (.int p0), some (.int p1), some (.int p2), some (.int p3), some (.int p4), some (.int p5)]) (st' := [.int p4, .int p1, .ref 152]) [(.iload_n 2, 0), (.iload 5, 0)] (by decide +kernel) rfl rfl ?_
      refine ef_ast (k := 152) rfl (by decide +kernel) (fun _ => ?_)
      refine ef_V (fun _ => [some (.ref 127), some (.int p0), some (.int p1), some (.int p2), some (.int p3), some (.int p4), some (.int p5)]) (fun _ => []) (fun s59 => eh_FW s59) (fun s59 => ?_)
      refine es_blk (pc' := 391) (L' := [some (.ref 127), some (.int p0), some (.int p1), some (.int p2), some (.int p3), some (.int p4), some (.int p5)]) (st' := [.int 0]) [(.iconst 0, 0)] (by decide +kernel) rfl rfl ?_
      exact es_ret rfl rfl rfl ⟨by decide +kernel, _, rfl, rfl⟩ (Nat.le_refl _) (Nat.le_refl _)
    refine es_blk (pc' := 381) (L' := [some (.ref 127), some (.int p0), some (.int p1), some (.int p2), some (.int p3), some (.int p4), some (.int p5)]) (st' := [.int (-1)]) [(.iconst (-1), (-1))] (by decide +kernel) rfl rfl ?_
    exact es_ret rfl rfl rfl ⟨by decide +kernel, _, rfl, rfl⟩ (Nat.le_refl _) (Nat.le_refl _)
  refine es_ifc (fun h60 => ?_) (fun h60 => ?_)
  · refine es_tsw (off := (390)) (tgt := 392) hs10 45 h60 (by decide) ?_
    refine es_blk (pc' := 393) (L' := [some (.ref 127), some (.int p0), some (.int p1), some (.int p2), some (.int p3), some (.int p4), some (.int p5)]) (st' := [.ref 127]) [(.aload_n 0, 0)] (by decide +kernel) rfl rfl ?_
    refine ef_getI (k := 127) (j := 67) rfl eL_12_311 (by decide) (by decide +kernel) ?_
    refine es_blk (pc' := 397) (L' := [some (.ref 127), some (.int p0), some (.int p1), some (.int p2), some (.int p3), some (.int p4), some (.int p5)]) (st' := [.int (-1), .int (s.1 127 67)]) [(.iconst (-1), (-1))] (by decide +kernel) rfl rfl ?_
    refine es_ieq (tgt := 416) (off := (19)) (by decide +kernel) (by decide) (fun h61 => ?_) (fun h61 => ?_)
    · refine es_blk (pc' := 418) (L' := [some (.ref 127), some (.int p0), some (.int p1), some (.int p2), some (.int p3), some (.int p4), some (.int p5)]) (st' := [.int p2, .ref 127]) [(.aload_n 0, 0), (.iload_n 3, 0)] (by decide +kernel) rfl rfl ?_
      refine ef_veV (d := 1) (k := 127) (As := [.int p2]) (st := []) eV_12_clearPath eK_12_308 (eS_12_clearPath g s p2) rfl rfl (Nat.le_of_ble_eq_true rfl) rfl (Nat.le_of_ble_eq_true rfl) ⟨Nat.le_of_ble_eq_true rfl, Nat.le_of_ble_eq_true rfl⟩ ⟨Nat.le_refl _, Nat.le_refl _⟩ (by decide +kernel) (fun q62 _ => ?_)
      refine es_blk (pc' := 428) (L' := [some (.ref 127), some (.int p0), some (.int p1), some (.int p2), some (.int p3), some (.int p4), some (.int p5)]) (st' := [.int 0, .int 0, .int 1, .int p0, .int 9, .ref 127]) [(.aload_n 0, 0), (.bipush 9, 9), (.iload_n 1, 0), (.iconst 1, 1), (.iconst 0, 0), (.iconst 0, 0)] (by decide +kernel) rfl rfl ?_
      refine ef_veV (d := 1) (k := 127) (As := [.int 9, .int p0, .int 1, .int 0, .int 0]) (st := []) eV_12_happens eK_12_394 (eS_12_happens g q62 9 p0 1 0 0) rfl rfl (Nat.le_of_ble_eq_true rfl) rfl (Nat.le_of_ble_eq_true rfl) ⟨Nat.le_of_ble_eq_true rfl, Nat.le_of_ble_eq_true rfl⟩ ⟨Nat.le_refl _, Nat.le_refl _⟩ (by decide +kernel) (fun q63 _ => ?_)
      refine es_blk (pc' := 432) (L' := [some (.ref 127), some (.int p0), some (.int p1), some (.int p2), some (.int p3), some (.int p4), some (.int p5)]) (st' := [.int 0]) [(.iconst 0, 0)] (by decide +kernel) rfl rfl ?_
      exact es_ret rfl rfl rfl ⟨by decide +kernel, _, rfl, rfl⟩ (Nat.le_refl _) (Nat.le_refl _)
    refine es_blk (pc' := 401) (L' := [some (.ref 127), some (.int p0), some (.int p1), some (.int p2), some (.int p3), some (.int p4), some (.int p5)]) (st' := [.ref 127]) [(.aload_n 0, 0)] (by decide +kernel) rfl rfl ?_
    refine ef_getI (k := 127) (j := 67) rfl eL_12_311 (by decide) (by decide +kernel) ?_
    refine es_blk (pc' := 405) (L' := [some (.ref 127), some (.int p0), some (.int p1), some (.int p2), some (.int p3), some (.int p4), some (.int p5)]) (st' := [.int p2, .int (s.1 127 67)]) [(.iload_n 3, 0)] (by decide +kernel) rfl rfl ?_
    refine ef_J (X := fun j64 => ∀ (a65 : Int32), eh_Sim g eM_12_answered (eh_R 8 0 0) eh_eI 0 0 415 [none, none, none, none, none, none, none] [.int a65] (eh_FW s) ((j64 a65).bind some)) ?_ (fun j64 Hj64 => ?_)
    · intro a65
      exact es_ret rfl rfl rfl ⟨by decide +kernel, _, rfl, rfl⟩ (Nat.le_refl _) (Nat.le_refl _)
    refine es_ine (tgt := 413) (off := (8)) (by decide +kernel) (by decide) (fun h66 => ?_) (fun h66 => ?_)
    · refine es_blk (pc' := 410) (L' := [some (.ref 127), some (.int p0), some (.int p1), some (.int p2), some (.int p3), some (.int p4), some (.int p5)]) (st' := [.int (-2)]) [(.bipush (-2), (-2))] (by decide +kernel) rfl rfl ?_
      refine es_goto (tgt := 415) (off := (5)) (by decide +kernel) (by decide) ?_
      refine ef_drop (L2 := [none, none, none, none, none, none, none]) [false, false, false, false, false, false, false] rfl rfl ?_
      exact Hj64 _
    refine es_blk (pc' := 415) (L' := [some (.ref 127), some (.int p0), some (.int p1), some (.int p2), some (.int p3), some (.int p4), some (.int p5)]) (st' := [.int (-3)]) [(.bipush (-3), (-3))] (by decide +kernel) rfl rfl ?_
    refine ef_drop (L2 := [none, none, none, none, none, none, none]) [false, false, false, false, false, false, false] rfl rfl ?_
    exact Hj64 _
  refine es_ifc (fun h67 => ?_) (fun h67 => ?_)
  · refine es_tsw (off := (431)) (tgt := 433) hs10 46 h67 (by decide) ?_
    refine ef_drop (L2 := [some (.ref 127), some (.int p0), none, some (.int p2), some (.int p3), some (.int p4), none]) [true, true, false, true, true, true, false] rfl rfl ?_
    exact Hj3 ()
  refine es_ifc (fun h68 => ?_) (fun h68 => ?_)
  · refine es_tsw (off := (431)) (tgt := 433) hs10 47 h68 (by decide) ?_
    refine ef_drop (L2 := [some (.ref 127), some (.int p0), none, some (.int p2), some (.int p3), some (.int p4), none]) [true, true, false, true, true, true, false] rfl rfl ?_
    exact Hj3 ()
  refine es_ifc (fun h69 => ?_) (fun h69 => ?_)
  · refine es_tsw (off := (431)) (tgt := 433) hs10 48 h69 (by decide) ?_
    refine ef_drop (L2 := [some (.ref 127), some (.int p0), none, some (.int p2), some (.int p3), some (.int p4), none]) [true, true, false, true, true, true, false] rfl rfl ?_
    exact Hj3 ()
  refine es_ifc (fun h70 => ?_) (fun h70 => ?_)
  · refine es_tsw (off := (454)) (tgt := 456) hs10 49 h70 (by decide) ?_
    refine es_blk (pc' := 462) (L' := [some (.ref 127), some (.int p0), some (.int p1), some (.int p2), some (.int p3), some (.int p4), some (.int p5)]) (st' := [.int 32, .int p4, .int p0, .ref 127]) [(.aload_n 0, 0), (.iload_n 1, 0), (.iload 5, 0), (.bipush 32, 32)] (by decide +kernel) rfl rfl ?_
    refine ef_veI (d := 4) (k := 127) (As := [.int p0, .int p4, .int 32]) (st := []) eV_12_canRead eK_12_595 (eS_12_canRead g s p0 p4 32) rfl rfl (Nat.le_of_ble_eq_true rfl) rfl (Nat.le_of_ble_eq_true rfl) ⟨Nat.le_of_ble_eq_true rfl, Nat.le_of_ble_eq_true rfl⟩ ⟨Nat.le_refl _, Nat.le_refl _⟩ (by decide +kernel) (fun q71 _ => ?_)
    refine es_ne (tgt := 470) (off := (5)) (by decide +kernel) (by decide) (fun h72 => ?_) (fun h72 => ?_)
    · refine es_blk (pc' := 469) (L' := [some (.ref 127), some (.int p0), some (.int p1), some (.int p2), some (.int p3), some (.int p4), some (.int p5)]) (st' := [.int (-1)]) [(.iconst (-1), (-1))] (by decide +kernel) rfl rfl ?_
      exact es_ret rfl rfl rfl ⟨by decide +kernel, _, rfl, rfl⟩ (Nat.le_refl _) (Nat.le_refl _)
    refine es_blk (pc' := 473) (L' := [some (.ref 127), some (.int p0), some (.int p1), some (.int p2), some (.int p3), some (.int p4), some (.int p5)]) (st' := [.int 6, .ref 127]) [(.aload_n 0, 0), (.bipush 6, 6)] (by decide +kernel) rfl rfl ?_
    refine ef_veV (d := 1) (k := 127) (As := [.int 6]) (st := []) eV_12_begin eK_12_218 (eS_12_begin g q71.2 6) rfl rfl (Nat.le_of_ble_eq_true rfl) rfl (Nat.le_of_ble_eq_true rfl) ⟨Nat.le_of_ble_eq_true rfl, Nat.le_of_ble_eq_true rfl⟩ ⟨Nat.le_refl _, Nat.le_refl _⟩ (by decide +kernel) (fun q73 _ => ?_)
    refine es_blk (pc' := 480) (L' := [some (.ref 127), some (.int p0), some (.int p1), some (.int p2), some (.int p3), some (.int p4), some (.int p5)]) (st' := [.ref 127, .int 6, .ref 127]) [(.aload_n 0, 0), (.bipush 6, 6), (.aload_n 0, 0)] (by decide +kernel) rfl rfl ?_
    refine ef_getP (k := 127) (j := 35) (q := 160) rfl eL_12_109 rfl rfl rfl (by decide +kernel) ?_
    refine es_blk (pc' := 489) (L' := [some (.ref 127), some (.int p0), some (.int p1), some (.int p2), some (.int p3), some (.int p4), some (.int p5)]) (st' := [.int 32, .int (32 * p2), .ref 160, .int 6, .ref 127]) [(.bipush 32, 32), (.iload_n 3, 0), (.imul, 0), (.bipush 32, 32)] (by decide +kernel) rfl rfl ?_
    refine ef_veV (d := 4) (k := 127) (As := [.int 6, .ref 160, .int (32 * p2), .int 32]) (st := []) eV_12_addBytes eK_12_262 (eS_12_addBytes g q73 6 160 192 (32 * p2) 32 rfl) rfl rfl (Nat.le_of_ble_eq_true rfl) rfl (Nat.le_of_ble_eq_true rfl) ⟨Nat.le_of_ble_eq_true rfl, Nat.le_of_ble_eq_true rfl⟩ ⟨Nat.le_refl _, Nat.le_refl _⟩ (by decide +kernel) (fun q74 _ => ?_)
    refine es_blk (pc' := 496) (L' := [some (.ref 127), some (.int p0), some (.int p1), some (.int p2), some (.int p3), some (.int p4), some (.int p5)]) (st' := [.ref 127, .int 6, .ref 127]) [(.aload_n 0, 0), (.bipush 6, 6), (.aload_n 0, 0)] (by decide +kernel) rfl rfl ?_
    refine ef_getP (k := 127) (j := 82) (q := 195) rfl eL_12_215 rfl rfl rfl (by decide +kernel) ?_
    refine es_blk (pc' := 502) (L' := [some (.ref 127), some (.int p0), some (.int p1), some (.int p2), some (.int p3), some (.int p4), some (.int p5)]) (st' := [.int 32, .int 0, .ref 195, .int 6, .ref 127]) [(.iconst 0, 0), (.bipush 32, 32)] (by decide +kernel) rfl rfl ?_
    refine ef_veV (d := 4) (k := 127) (As := [.int 6, .ref 195, .int 0, .int 32]) (st := []) eV_12_addBytes eK_12_262 (eS_12_addBytes g q74 6 195 128 0 32 rfl) rfl rfl (Nat.le_of_ble_eq_true rfl) rfl (Nat.le_of_ble_eq_true rfl) ⟨Nat.le_of_ble_eq_true rfl, Nat.le_of_ble_eq_true rfl⟩ ⟨Nat.le_refl _, Nat.le_refl _⟩ (by decide +kernel) (fun q75 _ => ?_)
    refine es_blk (pc' := 509) (L' := [some (.ref 127), some (.int p0), some (.int p1), some (.int p2), some (.int p3), some (.int p4), some (.int p5)]) (st' := [.ref 127, .int 6, .ref 127]) [(.aload_n 0, 0), (.bipush 6, 6), (.aload_n 0, 0)] (by decide +kernel) rfl rfl ?_
    refine ef_getP (k := 127) (j := 35) (q := 160) rfl eL_12_109 rfl rfl rfl (by decide +kernel) ?_
    refine es_blk (pc' := 516) (L' := [some (.ref 127), some (.int p0), some (.int p1), some (.int p2), some (.int p3), some (.int p4), some (.int p5)]) (st' := [.int (32 * p2), .ref 160, .int 6, .ref 127]) [(.bipush 32, 32), (.iload_n 3, 0), (.imul, 0)] (by decide +kernel) rfl rfl ?_
    refine ef_veV (d := 4) (k := 127) (As := [.int 6, .ref 160, .int (32 * p2)]) (st := []) eV_12_finish eK_12_226 (eS_12_finish g q75 6 160 192 (32 * p2) rfl) rfl rfl (Nat.le_of_ble_eq_true rfl) rfl (Nat.le_of_ble_eq_true rfl) ⟨Nat.le_of_ble_eq_true rfl, Nat.le_of_ble_eq_true rfl⟩ ⟨Nat.le_refl _, Nat.le_refl _⟩ (by decide +kernel) (fun q76 _ => ?_)
    refine es_blk (pc' := 520) (L' := [some (.ref 127), some (.int p0), some (.int p1), some (.int p2), some (.int p3), some (.int p4), some (.int p5)]) (st' := [.int 0]) [(.iconst 0, 0)] (by decide +kernel) rfl rfl ?_
    exact es_ret rfl rfl rfl ⟨by decide +kernel, _, rfl, rfl⟩ (Nat.le_refl _) (Nat.le_refl _)
  refine es_ifc (fun h77 => ?_) (fun h77 => ?_)
  · refine es_tsw (off := (519)) (tgt := 521) hs10 50 h77 (by decide) ?_
    refine es_blk (pc' := 527) (L' := [some (.ref 127), some (.int p0), some (.int p1), some (.int p2), some (.int p3), some (.int p4), some (.int p5)]) (st' := [.int 32, .int p4, .int p0, .ref 127]) [(.aload_n 0, 0), (.iload_n 1, 0), (.iload 5, 0), (.bipush 32, 32)] (by decide +kernel) rfl rfl ?_
    refine ef_veI (d := 4) (k := 127) (As := [.int p0, .int p4, .int 32]) (st := []) eV_12_canWrite eK_12_588 (eS_12_canWrite g s p0 p4 32) rfl rfl (Nat.le_of_ble_eq_true rfl) rfl (Nat.le_of_ble_eq_true rfl) ⟨Nat.le_of_ble_eq_true rfl, Nat.le_of_ble_eq_true rfl⟩ ⟨Nat.le_refl _, Nat.le_refl _⟩ (by decide +kernel) (fun q78 _ => ?_)
    refine es_ne (tgt := 535) (off := (5)) (by decide +kernel) (by decide) (fun h79 => ?_) (fun h79 => ?_)
    · refine es_blk (pc' := 534) (L' := [some (.ref 127), some (.int p0), some (.int p1), some (.int p2), some (.int p3), some (.int p4), some (.int p5)]) (st' := [.int (-1)]) [(.iconst (-1), (-1))] (by decide +kernel) rfl rfl ?_
      exact es_ret rfl rfl rfl ⟨by decide +kernel, _, rfl, rfl⟩ (Nat.le_refl _) (Nat.le_refl _)
    refine es_blk (pc' := 540) (L' := [some (.ref 127), some (.int p0), some (.int p1), some (.int p2), some (.int p3), some (.int p4), some (.int p5)]) (st' := [.ref 127, .int p4, .int p0, .ref 127]) [(.aload_n 0, 0), (.iload_n 1, 0), (.iload 5, 0), (.aload_n 0, 0)] (by decide +kernel) rfl rfl ?_
    refine ef_getP (k := 127) (j := 73) (q := 187) rfl eL_12_190 rfl rfl rfl (by decide +kernel) ?_
    refine es_blk (pc' := 546) (L' := [some (.ref 127), some (.int p0), some (.int p1), some (.int p2), some (.int p3), some (.int p4), some (.int p5)]) (st' := [.int 32, .int 0, .ref 187, .int p4, .int p0, .ref 127]) [(.iconst 0, 0), (.bipush 32, 32)] (by decide +kernel) rfl rfl ?_
    refine ef_veV (d := 3) (k := 127) (As := [.int p0, .int p4, .ref 187, .int 0, .int 32]) (st := []) eV_12_writeTo eK_12_591 (eS_12_writeTo g q78.2 p0 p4 187 32 0 32 rfl) rfl rfl (Nat.le_of_ble_eq_true rfl) rfl (Nat.le_of_ble_eq_true rfl) ⟨Nat.le_of_ble_eq_true rfl, Nat.le_of_ble_eq_true rfl⟩ ⟨Nat.le_refl _, Nat.le_refl _⟩ (by decide +kernel) (fun q80 _ => ?_)
    refine es_blk (pc' := 550) (L' := [some (.ref 127), some (.int p0), some (.int p1), some (.int p2), some (.int p3), some (.int p4), some (.int p5)]) (st' := [.int 0]) [(.iconst 0, 0)] (by decide +kernel) rfl rfl ?_
    exact es_ret rfl rfl rfl ⟨by decide +kernel, _, rfl, rfl⟩ (Nat.le_refl _) (Nat.le_refl _)
  refine es_tswD (tgt := 551) hs10 [34, 35, 36, 37, 38, 39, 40, 41, 42, 43, 45, 46, 47, 48, 49, 50] (List.forall_mem_cons.mpr ⟨eh_nei 34 34 (by decide) h11, (List.forall_mem_cons.mpr ⟨eh_nei 35 35 (by decide) h13, (List.forall_mem_cons.mpr ⟨eh_nei 36 36 (by decide) h22, (List.forall_mem_cons.mpr ⟨eh_nei 37 37 (by decide) h37, (List.forall_mem_cons.mpr ⟨eh_nei 38 38 (by decide) h45, (List.forall_mem_cons.mpr ⟨eh_nei 39 39 (by decide) h47, (List.forall_mem_cons.mpr ⟨eh_nei 40 40 (by decide) h51, (List.forall_mem_cons.mpr ⟨eh_nei 41 41 (by decide) h53, (List.forall_mem_cons.mpr ⟨eh_nei 42 42 (by decide) h55, (List.forall_mem_cons.mpr ⟨eh_nei 43 43 (by decide) h57, (List.forall_mem_cons.mpr ⟨eh_nei 45 45 (by decide) h60, (List.forall_mem_cons.mpr ⟨eh_nei 46 46 (by decide) h67, (List.forall_mem_cons.mpr ⟨eh_nei 47 47 (by decide) h68, (List.forall_mem_cons.mpr ⟨eh_nei 48 48 (by decide) h69, (List.forall_mem_cons.mpr ⟨eh_nei 49 49 (by decide) h70, (List.forall_mem_cons.mpr ⟨eh_nei 50 50 (by decide) h77, (List.forall_mem_nil _)⟩)⟩)⟩)⟩)⟩)⟩)⟩)⟩)⟩)⟩)⟩)⟩)⟩)⟩)⟩)⟩) (by decide) (by decide) (by decide) ?_
  refine ef_drop (L2 := [none, none, none, none, none, none, none]) [false, false, false, false, false, false, false] rfl rfl ?_
  exact Hj1 ()
def eF_12_call (s : eh_F) (p0 : Int32) (p1 : Int32) (p2 : Int32) (p3 : Int32) (p4 : Int32) (p5 : Int32) : Option (Int32 × eh_F) := Option.bind (eF_12_isHart s p0) (fun q1 => eh_J (fun (a3 : Int32) (s4 : eh_F) => some (a3, s4)) (fun j2 => eh_J (fun (u6 : Unit) => j2 (-1) s) (fun j5 => if q1 = 0 then (j5 ()) else (if eh_in p0 2 then if (s.1 144 (eh_ix p0)) = (-1) then (if (s.1 127 21) = 0 then (Option.bind (eF_12_systemCall s p0 p1 p2 p3 p4 p5) (fun q10 => j2 q10.1 q10.2)) else (j5 ())) else (j5 ()) else none))))
set_option maxHeartbeats 4000000 in
set_option maxRecDepth 100000 in
theorem eS_12_call (g : eh_P) (s : eh_F) (p0 : Int32) (p1 : Int32) (p2 : Int32) (p3 : Int32) (p4 : Int32) (p5 : Int32) : eh_Sim g eM_12_call (eh_R 8 0 0) eh_eI 0 0 0 (eh_en 7 [.ref 127, .int p0, .int p1, .int p2, .int p3, .int p4, .int p5]) [] (eh_FW s) (eF_12_call s p0 p1 p2 p3 p4 p5) := by
  unfold eF_12_call
  refine ef_top (L := [some (.ref 127), some (.int p0), some (.int p1), some (.int p2), some (.int p3), some (.int p4), some (.int p5)]) rfl ?_
  refine es_blk (pc' := 1) (L' := [some (.ref 127), some (.int p0), some (.int p1), some (.int p2), some (.int p3), some (.int p4), some (.int p5)]) (st' := [.int p0]) [(.iload_n 1, 0)] (by decide +kernel) rfl rfl ?_
  refine ef_spI (d := 1) (As := [.int p0]) (st := []) eV_12_isHart eK_12_632 (eS_12_isHart g s p0) rfl (Nat.le_of_ble_eq_true rfl) rfl (Nat.le_of_ble_eq_true rfl) ⟨Nat.le_of_ble_eq_true rfl, Nat.le_of_ble_eq_true rfl⟩ ⟨Nat.le_refl _, Nat.le_refl _⟩ (by decide +kernel) (fun q1 _ => ?_)
  refine ef_J (X := fun j2 => ∀ (a3 : Int32) (s4 : eh_F), eh_Sim g eM_12_call (eh_R 8 0 0) eh_eI 0 0 41 [none, none, none, none, none, none, none] [.int a3] (eh_FW s4) ((j2 a3 s4).bind some)) ?_ (fun j2 Hj2 => ?_)
  · intro a3 s4
    exact es_ret rfl rfl rfl ⟨by decide +kernel, _, rfl, rfl⟩ (Nat.le_refl _) (Nat.le_refl _)
  refine ef_J (X := fun j5 => ∀ (u6 : Unit), eh_Sim g eM_12_call (eh_R 8 0 0) eh_eI 0 0 24 [none, none, none, none, none, none, none] [] (eh_FW s) ((j5 u6).bind some)) ?_ (fun j5 Hj5 => ?_)
  · intro u6
    refine es_blk (pc' := 25) (L' := [none, none, none, none, none, none, none]) (st' := [.int (-1)]) [(.iconst (-1), (-1))] (by decide +kernel) rfl rfl ?_
    refine es_goto (tgt := 41) (off := (16)) (by decide +kernel) (by decide) ?_
    exact Hj2 _ _
  refine es_eq (tgt := 24) (off := (20)) (by decide +kernel) (by decide) (fun h7 => ?_) (fun h7 => ?_)
  · refine ef_drop (L2 := [none, none, none, none, none, none, none]) [false, false, false, false, false, false, false] rfl rfl ?_
    exact Hj5 ()
  refine es_blk (pc' := 8) (L' := [some (.ref 127), some (.int p0), some (.int p1), some (.int p2), some (.int p3), some (.int p4), some (.int p5)]) (st' := [.ref 127]) [(.aload_n 0, 0)] (by decide +kernel) rfl rfl ?_
  refine ef_getP (k := 127) (j := 16) (q := 144) rfl eL_12_61 rfl rfl rfl (by decide +kernel) ?_
  refine es_blk (pc' := 12) (L' := [some (.ref 127), some (.int p0), some (.int p1), some (.int p2), some (.int p3), some (.int p4), some (.int p5)]) (st' := [.int p0, .ref 144]) [(.iload_n 1, 0)] (by decide +kernel) rfl rfl ?_
  refine ef_ald (k := 144) rfl (Or.inl ⟨rfl, rfl⟩) (by decide +kernel) (fun _ => ?_)
  refine es_blk (pc' := 14) (L' := [some (.ref 127), some (.int p0), some (.int p1), some (.int p2), some (.int p3), some (.int p4), some (.int p5)]) (st' := [.int (-1), .int (s.1 144 (eh_ix p0))]) [(.iconst (-1), (-1))] (by decide +kernel) rfl rfl ?_
  refine es_ine (tgt := 24) (off := (10)) (by decide +kernel) (by decide) (fun h8 => ?_) (fun h8 => ?_)
  · refine es_blk (pc' := 18) (L' := [some (.ref 127), some (.int p0), some (.int p1), some (.int p2), some (.int p3), some (.int p4), some (.int p5)]) (st' := [.ref 127]) [(.aload_n 0, 0)] (by decide +kernel) rfl rfl ?_
    refine ef_getI (k := 127) (j := 21) rfl eL_12_283 (by decide) (by decide +kernel) ?_
    refine es_eq (tgt := 28) (off := (7)) (by decide +kernel) (by decide) (fun h9 => ?_) (fun h9 => ?_)
    · refine es_blk (pc' := 38) (L' := [some (.ref 127), some (.int p0), some (.int p1), some (.int p2), some (.int p3), some (.int p4), some (.int p5)]) (st' := [.int p5, .int p4, .int p3, .int p2, .int p1, .int p0, .ref 127]) [(.aload_n 0, 0), (.iload_n 1, 0), (.iload_n 2, 0), (.iload_n 3, 0), (.iload 4, 0), (.iload 5, 0), (.iload 6, 0)] (by decide +kernel) rfl rfl ?_
      refine ef_veI (d := 7) (k := 127) (As := [.int p0, .int p1, .int p2, .int p3, .int p4, .int p5]) (st := []) eV_12_systemCall eK_12_501 (eS_12_systemCall g s p0 p1 p2 p3 p4 p5) rfl rfl (Nat.le_of_ble_eq_true rfl) rfl (Nat.le_of_ble_eq_true rfl) ⟨Nat.le_of_ble_eq_true rfl, Nat.le_of_ble_eq_true rfl⟩ ⟨Nat.le_refl _, Nat.le_refl _⟩ (by decide +kernel) (fun q10 _ => ?_)
      refine ef_drop (L2 := [none, none, none, none, none, none, none]) [false, false, false, false, false, false, false] rfl rfl ?_
      exact Hj2 _ _
    refine ef_drop (L2 := [none, none, none, none, none, none, none]) [false, false, false, false, false, false, false] rfl rfl ?_
    exact Hj5 ()
  refine ef_drop (L2 := [none, none, none, none, none, none, none]) [false, false, false, false, false, false, false] rfl rfl ?_
  exact Hj5 ()
def eF_12_genuine (s : eh_F) (p0 : Int32) : Option (Int32 × eh_F) := eh_J (fun (u2 : Unit) => some (0, s)) (fun j1 => if p0 < 0 then (j1 ()) else (if 130944 < p0 then (j1 ()) else (Option.bind (eh_loop (fun (r10 : (Int32 × eh_F) → Option (eh_F)) (t5 : Int32 × eh_F) => if t5.1 < 128 then (Option.bind (eF_12_shown t5.2 (p0 + t5.1)) (fun q12 => if eh_in t5.1 128 then eh_V (eh_tI t5.2 195 (eh_ix t5.1) (eh_nb (eh_nb q12))) (fun s13 => eh_V ((t5.1 + 1) : Int32) (fun x14 => r10 (x14, s13))) else none)) else (some t5.2)) eh_FU (0, s)) (fun (e6 : eh_F) => Option.bind (eF_12_isReport e6 195 128) (fun q7 => if q7.1 = 0 ∨ q7.1 = 1 then some (q7.1, q7.2) else none)))))
set_option maxHeartbeats 4000000 in
set_option maxRecDepth 100000 in
theorem eS_12_genuine (g : eh_P) (s : eh_F) (p0 : Int32) : eh_Sim g eM_12_genuine (eh_R 8 0 0) eh_eI 0 0 0 (eh_en 3 [.ref 127, .int p0]) [] (eh_FW s) (eF_12_genuine s p0) := by
  unfold eF_12_genuine
  refine ef_top (L := [some (.ref 127), some (.int p0), none]) rfl ?_
  refine es_blk (pc' := 1) (L' := [some (.ref 127), some (.int p0), none]) (st' := [.int p0]) [(.iload_n 1, 0)] (by decide +kernel) rfl rfl ?_
  refine ef_J (X := fun j1 => ∀ (u2 : Unit), eh_Sim g eM_12_genuine (eh_R 8 0 0) eh_eI 0 0 11 [none, none, none] [] (eh_FW s) ((j1 u2).bind some)) ?_ (fun j1 Hj1 => ?_)
  · intro u2
    refine es_blk (pc' := 12) (L' := [none, none, none]) (st' := [.int 0]) [(.iconst 0, 0)] (by decide +kernel) rfl rfl ?_
    exact es_ret rfl rfl rfl ⟨by decide +kernel, _, rfl, eh_narZ (Or.inl rfl)⟩ (Nat.le_refl _) (Nat.le_refl _)
  refine es_lt (tgt := 11) (off := (10)) (by decide +kernel) (by decide) (fun h3 => ?_) (fun h3 => ?_)
  · refine ef_drop (L2 := [none, none, none]) [false, false, true] rfl rfl ?_
    exact Hj1 ()
  refine es_blk (pc' := 5) (L' := [some (.ref 127), some (.int p0), none]) (st' := [.int p0]) [(.iload_n 1, 0)] (by decide +kernel) rfl rfl ?_
  refine es_ldcw (v := 130944) eC_12_638 (by decide +kernel) ?_
  refine es_ile (tgt := 13) (off := (5)) (by decide +kernel) (by decide) (fun h4 => ?_) (fun h4 => ?_)
  · refine ef_drop (L2 := [none, none, none]) [false, false, true] rfl rfl ?_
    exact Hj1 ()
  refine es_blk (pc' := 15) (L' := [some (.ref 127), some (.int p0), some (.int 0)]) (st' := []) [(.iconst 0, 0), (.istore_n 2, 0)] (by decide +kernel) rfl rfl ?_
  refine ef_loop1 (n := eh_FU) (i := (0, s)) (px := 42) (fun (t5 : Int32 × eh_F) => [some (.ref 127), some (.int p0), some (.int t5.1)]) (fun (t5 : Int32 × eh_F) => []) (fun (t5 : Int32 × eh_F) => eh_FW t5.2) (fun (e6 : eh_F) => [some (.ref 127), none, none]) (fun (e6 : eh_F) => []) (fun (e6 : eh_F) => eh_FW e6) (fun e6 => ?_) (fun K9 HxK9_0 r10 Hr10 t5 => ?_)
  · refine es_blk (pc' := 44) (L' := [some (.ref 127), none, none]) (st' := [.ref 127, .ref 127]) [(.aload_n 0, 0), (.aload_n 0, 0)] (by decide +kernel) rfl rfl ?_
    refine ef_getP (k := 127) (j := 82) (q := 195) rfl eL_12_215 rfl rfl rfl (by decide +kernel) ?_
    refine ef_veI (d := 7) (k := 127) (As := [.ref 195]) (st := []) eV_12_isReport eK_12_598 (eS_12_isReport g e6 195 128 rfl) rfl rfl (Nat.le_of_ble_eq_true rfl) rfl (Nat.le_of_ble_eq_true rfl) ⟨Nat.le_of_ble_eq_true rfl, Nat.le_of_ble_eq_true rfl⟩ ⟨Nat.le_refl _, Nat.le_refl _⟩ (by decide +kernel) (fun q7 _ => ?_)
    refine es_chk (fun h8 => ?_)
    exact es_ret rfl rfl rfl ⟨by decide +kernel, _, rfl, eh_narZ h8⟩ (Nat.le_refl _) (Nat.le_refl _)
  · refine es_blk (pc' := 19) (L' := [some (.ref 127), some (.int p0), some (.int t5.1)]) (st' := [.int 128, .int t5.1]) [(.iload_n 2, 0), (.sipush 128, 128)] (by decide +kernel) rfl rfl ?_
    refine es_ige (tgt := 42) (off := (23)) (by decide +kernel) (by decide) (fun h11 => ?_) (fun h11 => ?_)
    · refine es_blk (pc' := 23) (L' := [some (.ref 127), some (.int p0), some (.int t5.1)]) (st' := [.ref 127]) [(.aload_n 0, 0)] (by decide +kernel) rfl rfl ?_
      refine ef_getP (k := 127) (j := 82) (q := 195) rfl eL_12_215 rfl rfl rfl (by decide +kernel) ?_
      refine es_blk (pc' := 31) (L' := [some (.ref 127), some (.int p0), some (.int t5.1)]) (st' := [.int (p0 + t5.1), .ref 127, .int t5.1, .ref 195]) [(.iload_n 2, 0), (.aload_n 0, 0), (.iload_n 1, 0), (.iload_n 2, 0), (.iadd, 0)] (by decide +kernel) rfl rfl ?_
      refine ef_vpI (d := 2) (k := 127) (As := [.int (p0 + t5.1)]) (st := [.int t5.1, .ref 195]) eV_12_shown eK_12_635 (eS_12_shown g t5.2 (p0 + t5.1)) rfl rfl (Nat.le_of_ble_eq_true rfl) rfl (Nat.le_of_ble_eq_true rfl) ⟨Nat.le_of_ble_eq_true rfl, Nat.le_of_ble_eq_true rfl⟩ ⟨Nat.le_refl _, Nat.le_refl _⟩ (by decide +kernel) (fun q12 _ => ?_)
      refine es_blk (pc' := 35) (L' := [some (.ref 127), some (.int p0), some (.int t5.1)]) (st' := [.int (eh_nb q12), .int t5.1, .ref 195]) [(.i2b, 0)] (by decide +kernel) rfl rfl ?_
      refine ef_astB (k := 195) rfl (by decide +kernel) (fun _ => ?_)
      refine ef_V (fun _ => [some (.ref 127), some (.int p0), some (.int t5.1)]) (fun _ => []) (fun s13 => eh_FW s13) (fun s13 => ?_)
      refine es_blk (pc' := 39) (L' := [some (.ref 127), some (.int p0), some (.int (t5.1 + 1))]) (st' := []) [(.iinc 2 1, 1)] (by decide +kernel) rfl rfl ?_
      refine ef_V (fun x14 => [some (.ref 127), some (.int p0), some (.int x14)]) (fun _ => []) (fun _ => eh_FW s13) (fun x14 => ?_)
      refine es_goto (tgt := 15) (off := (-24)) (by decide +kernel) (by decide) ?_
      exact Hr10 (x14, s13)
    refine ef_drop (L2 := [some (.ref 127), none, none]) [true, false, false] rfl rfl ?_
    exact HxK9_0 t5.2
