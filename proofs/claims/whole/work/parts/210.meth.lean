def eF_12_inside (s : eh_F) (p0 : Int32) (p1 : Int32) : Option (Int32) := Option.bind (eF_12_isThread s p0) (fun q1 => eh_J (fun (a3 : Int32) => some a3) (fun j2 => eh_J (fun (u5 : Unit) => j2 0) (fun j4 => if q1 = 0 then (j4 ()) else (if p1 < 0 then (j4 ()) else (if 32 < p1 then (j4 ()) else (if p1 = 32 then (if eh_in (2 + p0) 14 then j2 (s.1 130 (eh_ix (2 + p0))) else none) else (if eh_in ((32 * (2 + p0)) + p1) 448 then j2 (s.1 129 (eh_ix ((32 * (2 + p0)) + p1))) else none)))))))
set_option maxHeartbeats 4000000 in
set_option maxRecDepth 100000 in
theorem eS_12_inside (g : eh_P) (s : eh_F) (p0 : Int32) (p1 : Int32) : eh_Sim g eM_12_inside (eh_R 2 0 0) (eh_pI s) 0 0 0 (eh_en 3 [.ref 127, .int p0, .int p1]) [] (eh_FW s) (eF_12_inside s p0 p1) := by
  unfold eF_12_inside
  refine ef_top (L := [some (.ref 127), some (.int p0), some (.int p1)]) rfl ?_
  refine es_blk (pc' := 2) (L' := [some (.ref 127), some (.int p0), some (.int p1)]) (st' := [.int p0, .ref 127]) [(.aload_n 0, 0), (.iload_n 1, 0)] (by decide +kernel) rfl rfl ?_
  refine ef_vpI (d := 1) (k := 127) (As := [.int p0]) (st := []) eV_12_isThread eK_12_576 (eS_12_isThread g s p0) rfl rfl (Nat.le_of_ble_eq_true rfl) rfl (Nat.le_of_ble_eq_true rfl) ⟨Nat.le_of_ble_eq_true rfl, Nat.le_of_ble_eq_true rfl⟩ ⟨Nat.le_refl _, Nat.le_refl _⟩ (by decide +kernel) (fun q1 _ => ?_)
  refine ef_J (X := fun j2 => ∀ (a3 : Int32), eh_Sim g eM_12_inside (eh_R 2 0 0) (eh_pI s) 0 0 52 [none, none, none] [.int a3] (eh_FW s) ((j2 a3).bind some)) ?_ (fun j2 Hj2 => ?_)
  · intro a3
    exact es_ret rfl rfl rfl ⟨by decide +kernel, _, rfl, rfl⟩ (Nat.le_refl _) (Nat.le_refl _)
  refine ef_J (X := fun j4 => ∀ (u5 : Unit), eh_Sim g eM_12_inside (eh_R 2 0 0) (eh_pI s) 0 0 18 [none, none, none] [] (eh_FW s) ((j4 u5).bind some)) ?_ (fun j4 Hj4 => ?_)
  · intro u5
    refine es_blk (pc' := 19) (L' := [none, none, none]) (st' := [.int 0]) [(.iconst 0, 0)] (by decide +kernel) rfl rfl ?_
    refine es_goto (tgt := 52) (off := (33)) (by decide +kernel) (by decide) ?_
    exact Hj2 _
  refine es_eq (tgt := 18) (off := (13)) (by decide +kernel) (by decide) (fun h6 => ?_) (fun h6 => ?_)
  · refine ef_drop (L2 := [none, none, none]) [false, false, false] rfl rfl ?_
    exact Hj4 ()
  refine es_blk (pc' := 9) (L' := [some (.ref 127), some (.int p0), some (.int p1)]) (st' := [.int p1]) [(.iload_n 2, 0)] (by decide +kernel) rfl rfl ?_
  refine es_lt (tgt := 18) (off := (9)) (by decide +kernel) (by decide) (fun h7 => ?_) (fun h7 => ?_)
  · refine ef_drop (L2 := [none, none, none]) [false, false, false] rfl rfl ?_
    exact Hj4 ()
  refine es_blk (pc' := 15) (L' := [some (.ref 127), some (.int p0), some (.int p1)]) (st' := [.int 32, .int p1]) [(.iload_n 2, 0), (.bipush 32, 32)] (by decide +kernel) rfl rfl ?_
  refine es_ile (tgt := 22) (off := (7)) (by decide +kernel) (by decide) (fun h8 => ?_) (fun h8 => ?_)
  · refine ef_drop (L2 := [none, none, none]) [false, false, false] rfl rfl ?_
    exact Hj4 ()
  refine es_blk (pc' := 25) (L' := [some (.ref 127), some (.int p0), some (.int p1)]) (st' := [.int 32, .int p1]) [(.iload_n 2, 0), (.bipush 32, 32)] (by decide +kernel) rfl rfl ?_
  refine es_ine (tgt := 39) (off := (14)) (by decide +kernel) (by decide) (fun h9 => ?_) (fun h9 => ?_)
  · refine es_blk (pc' := 29) (L' := [some (.ref 127), some (.int p0), some (.int p1)]) (st' := [.ref 127]) [(.aload_n 0, 0)] (by decide +kernel) rfl rfl ?_
    refine ef_getP (k := 127) (j := 2) (q := 130) rfl eL_12_18 rfl rfl rfl (by decide +kernel) ?_
    refine es_blk (pc' := 35) (L' := [some (.ref 127), some (.int p0), some (.int p1)]) (st' := [.int (2 + p0), .ref 130]) [(.iconst 2, 2), (.iload_n 1, 0), (.iadd, 0)] (by decide +kernel) rfl rfl ?_
    refine ef_ald (k := 130) rfl (Or.inl ⟨rfl, rfl⟩) (by decide +kernel) (fun _ => ?_)
    refine es_goto (tgt := 52) (off := (16)) (by decide +kernel) (by decide) ?_
    refine ef_drop (L2 := [none, none, none]) [false, false, false] rfl rfl ?_
    exact Hj2 _
  refine es_blk (pc' := 40) (L' := [some (.ref 127), some (.int p0), some (.int p1)]) (st' := [.ref 127]) [(.aload_n 0, 0)] (by decide +kernel) rfl rfl ?_
  refine ef_getP (k := 127) (j := 1) (q := 129) rfl eL_12_14 rfl rfl rfl (by decide +kernel) ?_
  refine es_blk (pc' := 51) (L' := [some (.ref 127), some (.int p0), some (.int p1)]) (st' := [.int ((32 * (2 + p0)) + p1), .ref 129]) [(.bipush 32, 32), (.iconst 2, 2), (.iload_n 1, 0), (.iadd, 0), (.imul, 0), (.iload_n 2, 0), (.iadd, 0)] (by decide +kernel) rfl rfl ?_
  refine ef_ald (k := 129) rfl (Or.inl ⟨rfl, rfl⟩) (by decide +kernel) (fun _ => ?_)
  refine ef_drop (L2 := [none, none, none]) [false, false, false] rfl rfl ?_
  exact Hj2 _
def eF_12_place (s : eh_F) (p0 : Int32) (p1 : Int32) (p2 : Int32) : Option (Int32 × eh_F) := Option.bind (eF_12_isHart s p0) (fun q1 => eh_J (fun (u3 : Unit) => some ((-1), s)) (fun j2 => if q1 = 0 then (j2 ()) else (if (p1 &&& 3) = 0 then (eh_J (fun (u7 : Unit) => if eh_in p0 14 then eh_V (eh_tI s 130 (eh_ix p0) p1) (fun s8 => if eh_in p0 2 then eh_V (eh_tI s8 131 (eh_ix p0) p2) (fun s9 => if eh_in p0 2 then eh_V (eh_tI s9 132 (eh_ix p0) (eh_nz 0)) (fun s10 => some (0, s10)) else none) else none) else none) (fun j6 => if p2 = 0 then (j6 ()) else (if p2 = 1 then (j6 ()) else (j2 ())))) else (j2 ()))))
set_option maxHeartbeats 4000000 in
set_option maxRecDepth 100000 in
theorem eS_12_place (g : eh_P) (s : eh_F) (p0 : Int32) (p1 : Int32) (p2 : Int32) : eh_Sim g eM_12_place (eh_R 2 0 0) eh_eI 0 0 0 (eh_en 4 [.ref 127, .int p0, .int p1, .int p2]) [] (eh_FW s) (eF_12_place s p0 p1 p2) := by
  unfold eF_12_place
  refine ef_top (L := [some (.ref 127), some (.int p0), some (.int p1), some (.int p2)]) rfl ?_
  refine es_blk (pc' := 1) (L' := [some (.ref 127), some (.int p0), some (.int p1), some (.int p2)]) (st' := [.int p0]) [(.iload_n 1, 0)] (by decide +kernel) rfl rfl ?_
  refine ef_spI (d := 1) (As := [.int p0]) (st := []) eV_12_isHart eK_12_632 (eS_12_isHart g s p0) rfl (Nat.le_of_ble_eq_true rfl) rfl (Nat.le_of_ble_eq_true rfl) ⟨Nat.le_of_ble_eq_true rfl, Nat.le_of_ble_eq_true rfl⟩ ⟨Nat.le_refl _, Nat.le_refl _⟩ (by decide +kernel) (fun q1 _ => ?_)
  refine ef_J (X := fun j2 => ∀ (u3 : Unit), eh_Sim g eM_12_place (eh_R 2 0 0) eh_eI 0 0 22 [none, none, none, none] [] (eh_FW s) ((j2 u3).bind some)) ?_ (fun j2 Hj2 => ?_)
  · intro u3
    refine es_blk (pc' := 23) (L' := [none, none, none, none]) (st' := [.int (-1)]) [(.iconst (-1), (-1))] (by decide +kernel) rfl rfl ?_
    exact es_ret rfl rfl rfl ⟨by decide +kernel, _, rfl, rfl⟩ (Nat.le_refl _) (Nat.le_refl _)
  refine es_eq (tgt := 22) (off := (18)) (by decide +kernel) (by decide) (fun h4 => ?_) (fun h4 => ?_)
  · refine ef_drop (L2 := [none, none, none, none]) [false, false, false, false] rfl rfl ?_
    exact Hj2 ()
  refine es_blk (pc' := 10) (L' := [some (.ref 127), some (.int p0), some (.int p1), some (.int p2)]) (st' := [.int (p1 &&& 3)]) [(.iload_n 2, 0), (.iconst 3, 3), (.iand, 0)] (by decide +kernel) rfl rfl ?_
  refine es_ne (tgt := 22) (off := (12)) (by decide +kernel) (by decide) (fun h5 => ?_) (fun h5 => ?_)
  · refine es_blk (pc' := 14) (L' := [some (.ref 127), some (.int p0), some (.int p1), some (.int p2)]) (st' := [.int p2]) [(.iload_n 3, 0)] (by decide +kernel) rfl rfl ?_
    refine ef_J (X := fun j6 => ∀ (u7 : Unit), eh_Sim g eM_12_place (eh_R 2 0 0) eh_eI 0 0 24 [some (.ref 127), some (.int p0), some (.int p1), some (.int p2)] [] (eh_FW s) ((j6 u7).bind some)) ?_ (fun j6 Hj6 => ?_)
    · intro u7
      refine es_blk (pc' := 25) (L' := [some (.ref 127), some (.int p0), some (.int p1), some (.int p2)]) (st' := [.ref 127]) [(.aload_n 0, 0)] (by decide +kernel) rfl rfl ?_
      refine ef_getP (k := 127) (j := 2) (q := 130) rfl eL_12_18 rfl rfl rfl (by decide +kernel) ?_
      refine es_blk (pc' := 30) (L' := [some (.ref 127), some (.int p0), some (.int p1), some (.int p2)]) (st' := [.int p1, .int p0, .ref 130]) [(.iload_n 1, 0), (.iload_n 2, 0)] (by decide +kernel) rfl rfl ?_
      refine ef_ast (k := 130) rfl (by decide +kernel) (fun _ => ?_)
      refine ef_V (fun _ => [some (.ref 127), some (.int p0), some (.int p1), some (.int p2)]) (fun _ => []) (fun s8 => eh_FW s8) (fun s8 => ?_)
      refine es_blk (pc' := 32) (L' := [some (.ref 127), some (.int p0), some (.int p1), some (.int p2)]) (st' := [.ref 127]) [(.aload_n 0, 0)] (by decide +kernel) rfl rfl ?_
      refine ef_getP (k := 127) (j := 3) (q := 131) rfl eL_12_21 rfl rfl rfl (by decide +kernel) ?_
      refine es_blk (pc' := 37) (L' := [some (.ref 127), some (.int p0), some (.int p1), some (.int p2)]) (st' := [.int p2, .int p0, .ref 131]) [(.iload_n 1, 0), (.iload_n 3, 0)] (by decide +kernel) rfl rfl ?_
      refine ef_ast (k := 131) rfl (by decide +kernel) (fun _ => ?_)
      refine ef_V (fun _ => [some (.ref 127), some (.int p0), some (.int p1), some (.int p2)]) (fun _ => []) (fun s9 => eh_FW s9) (fun s9 => ?_)
      refine es_blk (pc' := 39) (L' := [some (.ref 127), some (.int p0), some (.int p1), some (.int p2)]) (st' := [.ref 127]) [(.aload_n 0, 0)] (by decide +kernel) rfl rfl ?_
      refine ef_getP (k := 127) (j := 4) (q := 132) rfl eL_12_24 rfl rfl rfl (by decide +kernel) ?_
      refine es_blk (pc' := 44) (L' := [some (.ref 127), some (.int p0), some (.int p1), some (.int p2)]) (st' := [.int 0, .int p0, .ref 132]) [(.iload_n 1, 0), (.iconst 0, 0)] (by decide +kernel) rfl rfl ?_
      refine ef_astZ (k := 132) rfl (by decide +kernel) (fun _ => ?_)
      refine ef_V (fun _ => [some (.ref 127), some (.int p0), some (.int p1), some (.int p2)]) (fun _ => []) (fun s10 => eh_FW s10) (fun s10 => ?_)
      refine es_blk (pc' := 46) (L' := [some (.ref 127), some (.int p0), some (.int p1), some (.int p2)]) (st' := [.int 0]) [(.iconst 0, 0)] (by decide +kernel) rfl rfl ?_
      exact es_ret rfl rfl rfl ⟨by decide +kernel, _, rfl, rfl⟩ (Nat.le_refl _) (Nat.le_refl _)
    refine es_eq (tgt := 24) (off := (10)) (by decide +kernel) (by decide) (fun h11 => ?_) (fun h11 => ?_)
    · exact Hj6 ()
    refine es_blk (pc' := 19) (L' := [some (.ref 127), some (.int p0), some (.int p1), some (.int p2)]) (st' := [.int 1, .int p2]) [(.iload_n 3, 0), (.iconst 1, 1)] (by decide +kernel) rfl rfl ?_
    refine es_ieq (tgt := 24) (off := (5)) (by decide +kernel) (by decide) (fun h12 => ?_) (fun h12 => ?_)
    · exact Hj6 ()
    refine ef_drop (L2 := [none, none, none, none]) [false, false, false, false] rfl rfl ?_
    exact Hj2 ()
  refine ef_drop (L2 := [none, none, none, none]) [false, false, false, false] rfl rfl ?_
  exact Hj2 ()
def eF_12_setControl (s : eh_F) (p0 : Int32) (p1 : Int32) (p2 : Int32) : Option (Int32 × eh_F) := Option.bind (eF_12_isHart s p0) (fun q1 => eh_J (fun (u3 : Unit) => some ((-1), s)) (fun j2 => if q1 = 0 then (j2 ()) else (Option.bind (eF_12_isRegister s p1) (fun q5 => if q5 = 0 then (j2 ()) else (if p1 = 3073 then (j2 ()) else (if p1 = 3860 then (j2 ()) else (Option.bind (eF_12_writeRegister s p0 p1 p2) (fun q9 => some (0, q9)))))))))
set_option maxHeartbeats 4000000 in
set_option maxRecDepth 100000 in
theorem eS_12_setControl (g : eh_P) (s : eh_F) (p0 : Int32) (p1 : Int32) (p2 : Int32) : eh_Sim g eM_12_setControl (eh_R 2 0 0) eh_eI 0 0 0 (eh_en 4 [.ref 127, .int p0, .int p1, .int p2]) [] (eh_FW s) (eF_12_setControl s p0 p1 p2) := by
  unfold eF_12_setControl
  refine ef_top (L := [some (.ref 127), some (.int p0), some (.int p1), some (.int p2)]) rfl ?_
  refine es_blk (pc' := 1) (L' := [some (.ref 127), some (.int p0), some (.int p1), some (.int p2)]) (st' := [.int p0]) [(.iload_n 1, 0)] (by decide +kernel) rfl rfl ?_
  refine ef_spI (d := 1) (As := [.int p0]) (st := []) eV_12_isHart eK_12_632 (eS_12_isHart g s p0) rfl (Nat.le_of_ble_eq_true rfl) rfl (Nat.le_of_ble_eq_true rfl) ⟨Nat.le_of_ble_eq_true rfl, Nat.le_of_ble_eq_true rfl⟩ ⟨Nat.le_refl _, Nat.le_refl _⟩ (by decide +kernel) (fun q1 _ => ?_)
  refine ef_J (X := fun j2 => ∀ (u3 : Unit), eh_Sim g eM_12_setControl (eh_R 2 0 0) eh_eI 0 0 28 [none, none, none, none] [] (eh_FW s) ((j2 u3).bind some)) ?_ (fun j2 Hj2 => ?_)
  · intro u3
    refine es_blk (pc' := 29) (L' := [none, none, none, none]) (st' := [.int (-1)]) [(.iconst (-1), (-1))] (by decide +kernel) rfl rfl ?_
    exact es_ret rfl rfl rfl ⟨by decide +kernel, _, rfl, rfl⟩ (Nat.le_refl _) (Nat.le_refl _)
  refine es_eq (tgt := 28) (off := (24)) (by decide +kernel) (by decide) (fun h4 => ?_) (fun h4 => ?_)
  · refine ef_drop (L2 := [none, none, none, none]) [false, false, false, false] rfl rfl ?_
    exact Hj2 ()
  refine es_blk (pc' := 8) (L' := [some (.ref 127), some (.int p0), some (.int p1), some (.int p2)]) (st' := [.int p1]) [(.iload_n 2, 0)] (by decide +kernel) rfl rfl ?_
  refine ef_spI (d := 1) (As := [.int p1]) (st := []) eV_12_isRegister eK_12_488 (eS_12_isRegister g s p1) rfl (Nat.le_of_ble_eq_true rfl) rfl (Nat.le_of_ble_eq_true rfl) ⟨Nat.le_of_ble_eq_true rfl, Nat.le_of_ble_eq_true rfl⟩ ⟨Nat.le_refl _, Nat.le_refl _⟩ (by decide +kernel) (fun q5 _ => ?_)
  refine es_eq (tgt := 28) (off := (17)) (by decide +kernel) (by decide) (fun h6 => ?_) (fun h6 => ?_)
  · refine ef_drop (L2 := [none, none, none, none]) [false, false, false, false] rfl rfl ?_
    exact Hj2 ()
  refine es_blk (pc' := 18) (L' := [some (.ref 127), some (.int p0), some (.int p1), some (.int p2)]) (st' := [.int 3073, .int p1]) [(.iload_n 2, 0), (.sipush 3073, 3073)] (by decide +kernel) rfl rfl ?_
  refine es_ieq (tgt := 28) (off := (10)) (by decide +kernel) (by decide) (fun h7 => ?_) (fun h7 => ?_)
  · refine ef_drop (L2 := [none, none, none, none]) [false, false, false, false] rfl rfl ?_
    exact Hj2 ()
  refine es_blk (pc' := 25) (L' := [some (.ref 127), some (.int p0), some (.int p1), some (.int p2)]) (st' := [.int 3860, .int p1]) [(.iload_n 2, 0), (.sipush 3860, 3860)] (by decide +kernel) rfl rfl ?_
  refine es_ine (tgt := 30) (off := (5)) (by decide +kernel) (by decide) (fun h8 => ?_) (fun h8 => ?_)
  · refine ef_drop (L2 := [none, none, none, none]) [false, false, false, false] rfl rfl ?_
    exact Hj2 ()
  refine es_blk (pc' := 34) (L' := [some (.ref 127), some (.int p0), some (.int p1), some (.int p2)]) (st' := [.int p2, .int p1, .int p0, .ref 127]) [(.aload_n 0, 0), (.iload_n 1, 0), (.iload_n 2, 0), (.iload_n 3, 0)] (by decide +kernel) rfl rfl ?_
  refine ef_veV (d := 1) (k := 127) (As := [.int p0, .int p1, .int p2]) (st := []) eV_12_writeRegister eK_12_495 (eS_12_writeRegister g s p0 p1 p2) rfl rfl (Nat.le_of_ble_eq_true rfl) rfl (Nat.le_of_ble_eq_true rfl) ⟨Nat.le_of_ble_eq_true rfl, Nat.le_of_ble_eq_true rfl⟩ ⟨Nat.le_refl _, Nat.le_refl _⟩ (by decide +kernel) (fun q9 _ => ?_)
  refine es_blk (pc' := 38) (L' := [some (.ref 127), some (.int p0), some (.int p1), some (.int p2)]) (st' := [.int 0]) [(.iconst 0, 0)] (by decide +kernel) rfl rfl ?_
  exact es_ret rfl rfl rfl ⟨by decide +kernel, _, rfl, rfl⟩ (Nat.le_refl _) (Nat.le_refl _)
def eF_12_enclave (s : eh_F) (p0 : Int32) (p1 : Int32) : Option (Int32) := eh_J (fun (u2 : Unit) => some (-1)) (fun j1 => if p0 < 0 then (j1 ()) else (if p0 < 6 then (eh_J (fun (u6 : Unit) => eh_J (fun (a8 : Int32) => some a8) (fun j7 => if p1 = 0 then (if eh_in p0 6 then j7 (s.1 155 (eh_ix p0)) else none) else (if eh_in p0 6 then j7 (s.1 158 (eh_ix p0)) else none))) (fun j5 => if p1 = 0 then (j5 ()) else (if p1 = 5 then (j5 ()) else (if eh_in p0 6 then if (s.1 155 (eh_ix p0)) = 0 then (some (-1)) else (eh_J (fun (u14 : Unit) => some (-1)) (fun j13 => if p1 = 1 then (if eh_in p0 6 then if eh_in (s.1 156 (eh_ix p0)) 12 then some (s.1 165 (eh_ix (s.1 156 (eh_ix p0)))) else none else none) else if p1 = 2 then (if eh_in p0 6 then if eh_in (s.1 156 (eh_ix p0)) 12 then some (s.1 166 (eh_ix (s.1 156 (eh_ix p0)))) else none else none) else if p1 = 3 then (if eh_in p0 6 then some (s.1 157 (eh_ix p0)) else none) else if p1 = 4 then (Option.bind (eF_12_threadsOf s p0) (fun q20 => some q20)) else if p1 = 6 then (if eh_in p0 6 then eh_J (fun (a23 : Int32) => some a23) (fun j22 => if (s.1 161 (eh_ix p0)) = 0 then (j22 0) else (j22 1)) else none) else if p1 = 7 then (if eh_in p0 6 then some (s.1 163 (eh_ix p0)) else none) else (j13 ()))) else none)))) else (j1 ())))
set_option maxHeartbeats 4000000 in
set_option maxRecDepth 100000 in
theorem eS_12_enclave (g : eh_P) (s : eh_F) (p0 : Int32) (p1 : Int32) : eh_Sim g eM_12_enclave (eh_R 2 0 0) (eh_pI s) 0 0 0 (eh_en 3 [.ref 127, .int p0, .int p1]) [] (eh_FW s) (eF_12_enclave s p0 p1) := by
  unfold eF_12_enclave
  refine ef_top (L := [some (.ref 127), some (.int p0), some (.int p1)]) rfl ?_
  refine es_blk (pc' := 1) (L' := [some (.ref 127), some (.int p0), some (.int p1)]) (st' := [.int p0]) [(.iload_n 1, 0)] (by decide +kernel) rfl rfl ?_
  refine ef_J (X := fun j1 => ∀ (u2 : Unit), eh_Sim g eM_12_enclave (eh_R 2 0 0) (eh_pI s) 0 0 10 [none, none, none] [] (eh_FW s) ((j1 u2).bind some)) ?_ (fun j1 Hj1 => ?_)
  · intro u2
    refine es_blk (pc' := 11) (L' := [none, none, none]) (st' := [.int (-1)]) [(.iconst (-1), (-1))] (by decide +kernel) rfl rfl ?_
    exact es_ret rfl rfl rfl ⟨by decide +kernel, _, rfl, rfl⟩ (Nat.le_refl _) (Nat.le_refl _)
  refine es_lt (tgt := 10) (off := (9)) (by decide +kernel) (by decide) (fun h3 => ?_) (fun h3 => ?_)
  · refine ef_drop (L2 := [none, none, none]) [false, false, false] rfl rfl ?_
    exact Hj1 ()
  refine es_blk (pc' := 7) (L' := [some (.ref 127), some (.int p0), some (.int p1)]) (st' := [.int 6, .int p0]) [(.iload_n 1, 0), (.bipush 6, 6)] (by decide +kernel) rfl rfl ?_
  refine es_ilt (tgt := 12) (off := (5)) (by decide +kernel) (by decide) (fun h4 => ?_) (fun h4 => ?_)
  · refine es_blk (pc' := 13) (L' := [some (.ref 127), some (.int p0), some (.int p1)]) (st' := [.int p1]) [(.iload_n 2, 0)] (by decide +kernel) rfl rfl ?_
    refine ef_J (X := fun j5 => ∀ (u6 : Unit), eh_Sim g eM_12_enclave (eh_R 2 0 0) (eh_pI s) 0 0 21 [some (.ref 127), some (.int p0), some (.int p1)] [] (eh_FW s) ((j5 u6).bind some)) ?_ (fun j5 Hj5 => ?_)
    · intro u6
      refine es_blk (pc' := 22) (L' := [some (.ref 127), some (.int p0), some (.int p1)]) (st' := [.int p1]) [(.iload_n 2, 0)] (by decide +kernel) rfl rfl ?_
      refine ef_J (X := fun j7 => ∀ (a8 : Int32), eh_Sim g eM_12_enclave (eh_R 2 0 0) (eh_pI s) 0 0 40 [none, none, none] [.int a8] (eh_FW s) ((j7 a8).bind some)) ?_ (fun j7 Hj7 => ?_)
      · intro a8
        exact es_ret rfl rfl rfl ⟨by decide +kernel, _, rfl, rfl⟩ (Nat.le_refl _) (Nat.le_refl _)
      refine es_ne (tgt := 34) (off := (12)) (by decide +kernel) (by decide) (fun h9 => ?_) (fun h9 => ?_)
      · refine es_blk (pc' := 26) (L' := [some (.ref 127), some (.int p0), some (.int p1)]) (st' := [.ref 127]) [(.aload_n 0, 0)] (by decide +kernel) rfl rfl ?_
        refine ef_getP (k := 127) (j := 30) (q := 155) rfl eL_12_94 rfl rfl rfl (by decide +kernel) ?_
        refine es_blk (pc' := 30) (L' := [some (.ref 127), some (.int p0), some (.int p1)]) (st' := [.int p0, .ref 155]) [(.iload_n 1, 0)] (by decide +kernel) rfl rfl ?_
        refine ef_ald (k := 155) rfl (Or.inl ⟨rfl, rfl⟩) (by decide +kernel) (fun _ => ?_)
        refine es_goto (tgt := 40) (off := (9)) (by decide +kernel) (by decide) ?_
        refine ef_drop (L2 := [none, none, none]) [false, false, false] rfl rfl ?_
        exact Hj7 _
      refine es_blk (pc' := 35) (L' := [some (.ref 127), some (.int p0), some (.int p1)]) (st' := [.ref 127]) [(.aload_n 0, 0)] (by decide +kernel) rfl rfl ?_
      refine ef_getP (k := 127) (j := 33) (q := 158) rfl eL_12_103 rfl rfl rfl (by decide +kernel) ?_
      refine es_blk (pc' := 39) (L' := [some (.ref 127), some (.int p0), some (.int p1)]) (st' := [.int p0, .ref 158]) [(.iload_n 1, 0)] (by decide +kernel) rfl rfl ?_
      refine ef_ald (k := 158) rfl (Or.inl ⟨rfl, rfl⟩) (by decide +kernel) (fun _ => ?_)
      refine ef_drop (L2 := [none, none, none]) [false, false, false] rfl rfl ?_
      exact Hj7 _
    refine es_eq (tgt := 21) (off := (8)) (by decide +kernel) (by decide) (fun h10 => ?_) (fun h10 => ?_)
    · exact Hj5 ()
    refine es_blk (pc' := 18) (L' := [some (.ref 127), some (.int p0), some (.int p1)]) (st' := [.int 5, .int p1]) [(.iload_n 2, 0), (.iconst 5, 5)] (by decide +kernel) rfl rfl ?_
    refine es_ine (tgt := 41) (off := (23)) (by decide +kernel) (by decide) (fun h11 => ?_) (fun h11 => ?_)
    · exact Hj5 ()
    refine es_blk (pc' := 42) (L' := [some (.ref 127), some (.int p0), some (.int p1)]) (st' := [.ref 127]) [(.aload_n 0, 0)] (by decide +kernel) rfl rfl ?_
    refine ef_getP (k := 127) (j := 30) (q := 155) rfl eL_12_94 rfl rfl rfl (by decide +kernel) ?_
    refine es_blk (pc' := 46) (L' := [some (.ref 127), some (.int p0), some (.int p1)]) (st' := [.int p0, .ref 155]) [(.iload_n 1, 0)] (by decide +kernel) rfl rfl ?_
    refine ef_ald (k := 155) rfl (Or.inl ⟨rfl, rfl⟩) (by decide +kernel) (fun _ => ?_)
    refine es_ne (tgt := 52) (off := (5)) (by decide +kernel) (by decide) (fun h12 => ?_) (fun h12 => ?_)
    · refine es_blk (pc' := 51) (L' := [some (.ref 127), some (.int p0), some (.int p1)]) (st' := [.int (-1)]) [(.iconst (-1), (-1))] (by decide +kernel) rfl rfl ?_
      exact es_ret rfl rfl rfl ⟨by decide +kernel, _, rfl, rfl⟩ (Nat.le_refl _) (Nat.le_refl _)
    refine es_blk (pc' := 53) (L' := [some (.ref 127), some (.int p0), some (.int p1)]) (st' := [.int p1]) [(.iload_n 2, 0)] (by decide +kernel) rfl rfl ?_
    refine ef_J (X := fun j13 => ∀ (u14 : Unit), eh_Sim g eM_12_enclave (eh_R 2 0 0) (eh_pI s) 0 0 155 [none, none, none] [] (eh_FW s) ((j13 u14).bind some)) ?_ (fun j13 Hj13 => ?_)
    · intro u14
      refine es_blk (pc' := 156) (L' := [none, none, none]) (st' := [.int (-1)]) [(.iconst (-1), (-1))] (by decide +kernel) rfl rfl ?_
      exact es_ret rfl rfl rfl ⟨by decide +kernel, _, rfl, rfl⟩ (Nat.le_refl _) (Nat.le_refl _)
    have hs15 : decode eM_12_enclave.2.1 53 = .ok (.tableswitch (102) (1) (7) #[(43), (55), (67), (74), (102), (80), (95)], 43) := by decide +kernel
    refine es_ifc (fun h16 => ?_) (fun h16 => ?_)
    · refine es_tsw (off := (43)) (tgt := 96) hs15 1 h16 (by decide) ?_
      refine es_blk (pc' := 97) (L' := [some (.ref 127), some (.int p0), some (.int p1)]) (st' := [.ref 127]) [(.aload_n 0, 0)] (by decide +kernel) rfl rfl ?_
      refine ef_getP (k := 127) (j := 40) (q := 165) rfl eL_12_124 rfl rfl rfl (by decide +kernel) ?_
      refine es_blk (pc' := 101) (L' := [some (.ref 127), some (.int p0), some (.int p1)]) (st' := [.ref 127, .ref 165]) [(.aload_n 0, 0)] (by decide +kernel) rfl rfl ?_
      refine ef_getP (k := 127) (j := 31) (q := 156) rfl eL_12_97 rfl rfl rfl (by decide +kernel) ?_
      refine es_blk (pc' := 105) (L' := [some (.ref 127), some (.int p0), some (.int p1)]) (st' := [.int p0, .ref 156, .ref 165]) [(.iload_n 1, 0)] (by decide +kernel) rfl rfl ?_
      refine ef_ald (k := 156) rfl (Or.inl ⟨rfl, rfl⟩) (by decide +kernel) (fun _ => ?_)
      refine ef_ald (k := 165) rfl (Or.inl ⟨rfl, rfl⟩) (by decide +kernel) (fun _ => ?_)
      exact es_ret rfl rfl rfl ⟨by decide +kernel, _, rfl, rfl⟩ (Nat.le_refl _) (Nat.le_refl _)
    refine es_ifc (fun h17 => ?_) (fun h17 => ?_)
    · refine es_tsw (off := (55)) (tgt := 108) hs15 2 h17 (by decide) ?_
      refine es_blk (pc' := 109) (L' := [some (.ref 127), some (.int p0), some (.int p1)]) (st' := [.ref 127]) [(.aload_n 0, 0)] (by decide +kernel) rfl rfl ?_
      refine ef_getP (k := 127) (j := 41) (q := 166) rfl eL_12_127 rfl rfl rfl (by decide +kernel) ?_
      refine es_blk (pc' := 113) (L' := [some (.ref 127), some (.int p0), some (.int p1)]) (st' := [.ref 127, .ref 166]) [(.aload_n 0, 0)] (by decide +kernel) rfl rfl ?_
      refine ef_getP (k := 127) (j := 31) (q := 156) rfl eL_12_97 rfl rfl rfl (by decide +kernel) ?_
      refine es_blk (pc' := 117) (L' := [some (.ref 127), some (.int p0), some (.int p1)]) (st' := [.int p0, .ref 156, .ref 166]) [(.iload_n 1, 0)] (by decide +kernel) rfl rfl ?_
      refine ef_ald (k := 156) rfl (Or.inl ⟨rfl, rfl⟩) (by decide +kernel) (fun _ => ?_)
      refine ef_ald (k := 166) rfl (Or.inl ⟨rfl, rfl⟩) (by decide +kernel) (fun _ => ?_)
      exact es_ret rfl rfl rfl ⟨by decide +kernel, _, rfl, rfl⟩ (Nat.le_refl _) (Nat.le_refl _)
    refine es_ifc (fun h18 => ?_) (fun h18 => ?_)
    · refine es_tsw (off := (67)) (tgt := 120) hs15 3 h18 (by decide) ?_
      refine es_blk (pc' := 121) (L' := [some (.ref 127), some (.int p0), some (.int p1)]) (st' := [.ref 127]) [(.aload_n 0, 0)] (by decide +kernel) rfl rfl ?_
      refine ef_getP (k := 127) (j := 32) (q := 157) rfl eL_12_100 rfl rfl rfl (by decide +kernel) ?_
      refine es_blk (pc' := 125) (L' := [some (.ref 127), some (.int p0), some (.int p1)]) (st' := [.int p0, .ref 157]) [(.iload_n 1, 0)] (by decide +kernel) rfl rfl ?_
      refine ef_ald (k := 157) rfl (Or.inl ⟨rfl, rfl⟩) (by decide +kernel) (fun _ => ?_)
      exact es_ret rfl rfl rfl ⟨by decide +kernel, _, rfl, rfl⟩ (Nat.le_refl _) (Nat.le_refl _)
    refine es_ifc (fun h19 => ?_) (fun h19 => ?_)
    · refine es_tsw (off := (74)) (tgt := 127) hs15 4 h19 (by decide) ?_
      refine es_blk (pc' := 129) (L' := [some (.ref 127), some (.int p0), some (.int p1)]) (st' := [.int p0, .ref 127]) [(.aload_n 0, 0), (.iload_n 1, 0)] (by decide +kernel) rfl rfl ?_
      refine ef_vpI (d := 1) (k := 127) (As := [.int p0]) (st := []) eV_12_threadsOf eK_12_573 (eS_12_threadsOf g s p0) rfl rfl (Nat.le_of_ble_eq_true rfl) rfl (Nat.le_of_ble_eq_true rfl) ⟨Nat.le_of_ble_eq_true rfl, Nat.le_of_ble_eq_true rfl⟩ ⟨Nat.le_refl _, Nat.le_refl _⟩ (by decide +kernel) (fun q20 _ => ?_)
      exact es_ret rfl rfl rfl ⟨by decide +kernel, _, rfl, rfl⟩ (Nat.le_refl _) (Nat.le_refl _)
    refine es_ifc (fun h21 => ?_) (fun h21 => ?_)
    · refine es_tsw (off := (80)) (tgt := 133) hs15 6 h21 (by decide) ?_
      refine es_blk (pc' := 134) (L' := [some (.ref 127), some (.int p0), some (.int p1)]) (st' := [.ref 127]) [(.aload_n 0, 0)] (by decide +kernel) rfl rfl ?_
      refine ef_getP (k := 127) (j := 36) (q := 161) rfl eL_12_112 rfl rfl rfl (by decide +kernel) ?_
      refine es_blk (pc' := 138) (L' := [some (.ref 127), some (.int p0), some (.int p1)]) (st' := [.int p0, .ref 161]) [(.iload_n 1, 0)] (by decide +kernel) rfl rfl ?_
      refine ef_ald (k := 161) rfl (Or.inr ⟨Or.inr rfl, rfl⟩) (by decide +kernel) (fun _ => ?_)
      refine ef_J (X := fun j22 => ∀ (a23 : Int32), eh_Sim g eM_12_enclave (eh_R 2 0 0) (eh_pI s) 0 0 147 [none, none, none] [.int a23] (eh_FW s) ((j22 a23).bind some)) ?_ (fun j22 Hj22 => ?_)
      · intro a23
        exact es_ret rfl rfl rfl ⟨by decide +kernel, _, rfl, rfl⟩ (Nat.le_refl _) (Nat.le_refl _)
      refine es_eq (tgt := 146) (off := (7)) (by decide +kernel) (by decide) (fun h24 => ?_) (fun h24 => ?_)
      · refine es_blk (pc' := 147) (L' := [some (.ref 127), some (.int p0), some (.int p1)]) (st' := [.int 0]) [(.iconst 0, 0)] (by decide +kernel) rfl rfl ?_
        refine ef_drop (L2 := [none, none, none]) [false, false, false] rfl rfl ?_
        exact Hj22 _
      refine es_blk (pc' := 143) (L' := [some (.ref 127), some (.int p0), some (.int p1)]) (st' := [.int 1]) [(.iconst 1, 1)] (by decide +kernel) rfl rfl ?_
      refine es_goto (tgt := 147) (off := (4)) (by decide +kernel) (by decide) ?_
      refine ef_drop (L2 := [none, none, none]) [false, false, false] rfl rfl ?_
      exact Hj22 _
    refine es_ifc (fun h25 => ?_) (fun h25 => ?_)
    · refine es_tsw (off := (95)) (tgt := 148) hs15 7 h25 (by decide) ?_
      refine es_blk (pc' := 149) (L' := [some (.ref 127), some (.int p0), some (.int p1)]) (st' := [.ref 127]) [(.aload_n 0, 0)] (by decide +kernel) rfl rfl ?_
      refine ef_getP (k := 127) (j := 38) (q := 163) rfl eL_12_118 rfl rfl rfl (by decide +kernel) ?_
      refine es_blk (pc' := 153) (L' := [some (.ref 127), some (.int p0), some (.int p1)]) (st' := [.int p0, .ref 163]) [(.iload_n 1, 0)] (by decide +kernel) rfl rfl ?_
      refine ef_ald (k := 163) rfl (Or.inl ⟨rfl, rfl⟩) (by decide +kernel) (fun _ => ?_)
      exact es_ret rfl rfl rfl ⟨by decide +kernel, _, rfl, rfl⟩ (Nat.le_refl _) (Nat.le_refl _)
    refine es_tswD (tgt := 155) hs15 [1, 2, 3, 4, 6, 7] (List.forall_mem_cons.mpr ⟨eh_nei 1 1 (by decide) h16, (List.forall_mem_cons.mpr ⟨eh_nei 2 2 (by decide) h17, (List.forall_mem_cons.mpr ⟨eh_nei 3 3 (by decide) h18, (List.forall_mem_cons.mpr ⟨eh_nei 4 4 (by decide) h19, (List.forall_mem_cons.mpr ⟨eh_nei 6 6 (by decide) h21, (List.forall_mem_cons.mpr ⟨eh_nei 7 7 (by decide) h25, (List.forall_mem_nil _)⟩)⟩)⟩)⟩)⟩)⟩) (by decide) (by decide) (by decide) ?_
    refine ef_drop (L2 := [none, none, none]) [false, false, false] rfl rfl ?_
    exact Hj13 ()
  refine ef_drop (L2 := [none, none, none]) [false, false, false] rfl rfl ?_
  exact Hj1 ()
def eF_12_event (s : eh_F) (p0 : Int32) (p1 : Int32) : Option (Int32) := eh_J (fun (a2 : Int32) => some a2) (fun j1 => eh_J (fun (u4 : Unit) => j1 0) (fun j3 => if p0 < 0 then (j3 ()) else (if p0 < (if 1000 < (s.1 127 50) then 1000 else (s.1 127 50)) then (if p1 < 0 then (j3 ()) else (if p1 < 8 then (if eh_in ((8 * p0) + p1) 8000 then j1 (s.1 173 (eh_ix ((8 * p0) + p1))) else none) else (j3 ()))) else (j3 ()))))
set_option maxHeartbeats 4000000 in
set_option maxRecDepth 100000 in
theorem eS_12_event (g : eh_P) (s : eh_F) (p0 : Int32) (p1 : Int32) : eh_Sim g eM_12_event (eh_R 2 0 0) (eh_pI s) 0 0 0 (eh_en 3 [.ref 127, .int p0, .int p1]) [] (eh_FW s) (eF_12_event s p0 p1) := by
  unfold eF_12_event
  refine ef_top (L := [some (.ref 127), some (.int p0), some (.int p1)]) rfl ?_
  refine es_blk (pc' := 1) (L' := [some (.ref 127), some (.int p0), some (.int p1)]) (st' := [.int p0]) [(.iload_n 1, 0)] (by decide +kernel) rfl rfl ?_
  refine ef_J (X := fun j1 => ∀ (a2 : Int32), eh_Sim g eM_12_event (eh_R 2 0 0) (eh_pI s) 0 0 43 [none, none, none] [.int a2] (eh_FW s) ((j1 a2).bind some)) ?_ (fun j1 Hj1 => ?_)
  · intro a2
    exact es_ret rfl rfl rfl ⟨by decide +kernel, _, rfl, rfl⟩ (Nat.le_refl _) (Nat.le_refl _)
  refine ef_J (X := fun j3 => ∀ (u4 : Unit), eh_Sim g eM_12_event (eh_R 2 0 0) (eh_pI s) 0 0 42 [none, none, none] [] (eh_FW s) ((j3 u4).bind some)) ?_ (fun j3 Hj3 => ?_)
  · intro u4
    refine es_blk (pc' := 43) (L' := [none, none, none]) (st' := [.int 0]) [(.iconst 0, 0)] (by decide +kernel) rfl rfl ?_
    exact Hj1 _
  refine es_lt (tgt := 42) (off := (41)) (by decide +kernel) (by decide) (fun h5 => ?_) (fun h5 => ?_)
  · refine ef_drop (L2 := [none, none, none]) [false, false, false] rfl rfl ?_
    exact Hj3 ()
  refine es_blk (pc' := 6) (L' := [some (.ref 127), some (.int p0), some (.int p1)]) (st' := [.ref 127, .int p0]) [(.iload_n 1, 0), (.aload_n 0, 0)] (by decide +kernel) rfl rfl ?_
  refine ef_getI (k := 127) (j := 50) rfl eL_12_290 (by decide) (by decide +kernel) ?_
  refine es_blk (pc' := 12) (L' := [some (.ref 127), some (.int p0), some (.int p1)]) (st' := [.int 1000, .int (s.1 127 50), .int p0]) [(.sipush 1000, 1000)] (by decide +kernel) rfl rfl ?_
  refine es_mmin (x := (s.1 127 50)) (y := 1000) eK_12_475 eh_mminS eh_mI eh_mminC ⟨Nat.le_of_ble_eq_true rfl, Nat.le_of_ble_eq_true rfl⟩ ⟨Nat.le_refl _, Nat.le_refl _⟩ (Nat.le_of_ble_eq_true rfl) (by decide +kernel) ?_
  refine es_ige (tgt := 42) (off := (27)) (by decide +kernel) (by decide) (fun h6 => ?_) (fun h6 => ?_)
  · refine es_blk (pc' := 19) (L' := [some (.ref 127), some (.int p0), some (.int p1)]) (st' := [.int p1]) [(.iload_n 2, 0)] (by decide +kernel) rfl rfl ?_
    refine es_lt (tgt := 42) (off := (23)) (by decide +kernel) (by decide) (fun h7 => ?_) (fun h7 => ?_)
    · refine ef_drop (L2 := [none, none, none]) [false, false, false] rfl rfl ?_
      exact Hj3 ()
    refine es_blk (pc' := 25) (L' := [some (.ref 127), some (.int p0), some (.int p1)]) (st' := [.int 8, .int p1]) [(.iload_n 2, 0), (.bipush 8, 8)] (by decide +kernel) rfl rfl ?_
    refine es_ige (tgt := 42) (off := (17)) (by decide +kernel) (by decide) (fun h8 => ?_) (fun h8 => ?_)
    · refine es_blk (pc' := 29) (L' := [some (.ref 127), some (.int p0), some (.int p1)]) (st' := [.ref 127]) [(.aload_n 0, 0)] (by decide +kernel) rfl rfl ?_
      refine ef_getP (k := 127) (j := 49) (q := 173) rfl eL_12_148 rfl rfl rfl (by decide +kernel) ?_
      refine es_blk (pc' := 38) (L' := [some (.ref 127), some (.int p0), some (.int p1)]) (st' := [.int ((8 * p0) + p1), .ref 173]) [(.bipush 8, 8), (.iload_n 1, 0), (.imul, 0), (.iload_n 2, 0), (.iadd, 0)] (by decide +kernel) rfl rfl ?_
      refine ef_ald (k := 173) rfl (Or.inl ⟨rfl, rfl⟩) (by decide +kernel) (fun _ => ?_)
      refine es_goto (tgt := 43) (off := (4)) (by decide +kernel) (by decide) ?_
      refine ef_drop (L2 := [none, none, none]) [false, false, false] rfl rfl ?_
      exact Hj1 _
    refine ef_drop (L2 := [none, none, none]) [false, false, false] rfl rfl ?_
    exact Hj3 ()
  refine ef_drop (L2 := [none, none, none]) [false, false, false] rfl rfl ?_
  exact Hj3 ()
def eF_12_shown (s : eh_F) (p0 : Int32) : Option (Int32) := Option.bind (eF_12_isOpen s p0) (fun q1 => eh_J (fun (a3 : Int32) => some a3) (fun j2 => if q1 = 0 then (j2 0) else (if eh_in p0 131072 then j2 (s.1 128 (eh_ix p0)) else none)))
set_option maxHeartbeats 4000000 in
set_option maxRecDepth 100000 in
theorem eS_12_shown (g : eh_P) (s : eh_F) (p0 : Int32) : eh_Sim g eM_12_shown (eh_R 2 0 0) (eh_pI s) 0 0 0 (eh_en 2 [.ref 127, .int p0]) [] (eh_FW s) (eF_12_shown s p0) := by
  unfold eF_12_shown
  refine ef_top (L := [some (.ref 127), some (.int p0)]) rfl ?_
  refine es_blk (pc' := 2) (L' := [some (.ref 127), some (.int p0)]) (st' := [.int p0, .ref 127]) [(.aload_n 0, 0), (.iload_n 1, 0)] (by decide +kernel) rfl rfl ?_
  refine ef_vpI (d := 1) (k := 127) (As := [.int p0]) (st := []) eV_12_isOpen eK_12_629 (eS_12_isOpen g s p0) rfl rfl (Nat.le_of_ble_eq_true rfl) rfl (Nat.le_of_ble_eq_true rfl) ⟨Nat.le_of_ble_eq_true rfl, Nat.le_of_ble_eq_true rfl⟩ ⟨Nat.le_refl _, Nat.le_refl _⟩ (by decide +kernel) (fun q1 _ => ?_)
  refine ef_J (X := fun j2 => ∀ (a3 : Int32), eh_Sim g eM_12_shown (eh_R 2 0 0) (eh_pI s) 0 0 18 [none, none] [.int a3] (eh_FW s) ((j2 a3).bind some)) ?_ (fun j2 Hj2 => ?_)
  · intro a3
    exact es_ret rfl rfl rfl ⟨by decide +kernel, _, rfl, rfl⟩ (Nat.le_refl _) (Nat.le_refl _)
  refine es_eq (tgt := 17) (off := (12)) (by decide +kernel) (by decide) (fun h4 => ?_) (fun h4 => ?_)
  · refine es_blk (pc' := 18) (L' := [some (.ref 127), some (.int p0)]) (st' := [.int 0]) [(.iconst 0, 0)] (by decide +kernel) rfl rfl ?_
    refine ef_drop (L2 := [none, none]) [false, false] rfl rfl ?_
    exact Hj2 _
  refine es_blk (pc' := 9) (L' := [some (.ref 127), some (.int p0)]) (st' := [.ref 127]) [(.aload_n 0, 0)] (by decide +kernel) rfl rfl ?_
  refine ef_getP (k := 127) (j := 0) (q := 128) rfl eL_12_10 rfl rfl rfl (by decide +kernel) ?_
  refine es_blk (pc' := 13) (L' := [some (.ref 127), some (.int p0)]) (st' := [.int p0, .ref 128]) [(.iload_n 1, 0)] (by decide +kernel) rfl rfl ?_
  refine ef_ald (k := 128) rfl (Or.inr ⟨Or.inl rfl, rfl⟩) (by decide +kernel) (fun _ => ?_)
  refine es_goto (tgt := 18) (off := (4)) (by decide +kernel) (by decide) ?_
  refine ef_drop (L2 := [none, none]) [false, false] rfl rfl ?_
  exact Hj2 _
def eF_12_count_2 (s : eh_F) (p0 : Int32) : Option (Int32) := if p0 = 0 then (some (s.1 127 20)) else if p0 = 1 then (eh_J (fun (a5 : Int32) => some a5) (fun j4 => if (s.1 127 21) = 0 then (j4 0) else (j4 1))) else if p0 = 2 then (Option.bind (eF_12_many s 155 6) (fun q8 => some q8)) else if p0 = 3 then (Option.bind (eF_12_many s 164 12) (fun q10 => some q10)) else if p0 = 4 then (Option.bind (eF_12_many s 148 12) (fun q12 => some q12)) else if p0 = 5 then (some (s.1 127 50)) else if p0 = 6 then (some (s.1 127 52)) else if p0 = 7 then (some (s.1 127 58)) else if p0 = 8 then (some (s.1 144 0)) else if p0 = 9 then (some (s.1 144 1)) else if p0 = 10 then (eh_J (fun (a20 : Int32) => some a20) (fun j19 => if (s.1 132 0) = 0 then (j19 0) else (j19 1))) else if p0 = 11 then (eh_J (fun (a24 : Int32) => some a24) (fun j23 => if (s.1 132 1) = 0 then (j23 0) else (j23 1))) else if p0 = 12 then (some (s.1 131 0)) else if p0 = 13 then (some (s.1 131 1)) else if p0 = 14 then (some (s.1 130 0)) else if p0 = 15 then (some (s.1 130 1)) else if p0 = 16 then (some (s.1 127 70)) else if p0 = 17 then (some (s.1 127 59)) else if p0 = 18 then (some (s.1 127 60)) else if p0 = 19 then (some (s.1 127 62)) else if p0 = 20 then (some (s.1 127 67)) else if p0 = 21 then (some (s.1 127 64)) else if p0 = 22 then (some (s.1 127 66)) else (some (-1))
set_option maxHeartbeats 4000000 in
set_option maxRecDepth 100000 in
theorem eS_12_count_2 (g : eh_P) (s : eh_F) (p0 : Int32) : eh_Sim g eM_12_count_2 (eh_R 2 0 0) (eh_pI s) 0 0 0 (eh_en 2 [.ref 127, .int p0]) [] (eh_FW s) (eF_12_count_2 s p0) := by
  unfold eF_12_count_2
  refine ef_top (L := [some (.ref 127), some (.int p0)]) rfl ?_
  refine es_blk (pc' := 1) (L' := [some (.ref 127), some (.int p0)]) (st' := [.int p0]) [(.iload_n 1, 0)] (by decide +kernel) rfl rfl ?_
  have hs1 : decode eM_12_count_2.2.1 1 = .ok (.tableswitch (271) (0) (22) #[(107), (112), (125), (133), (141), (149), (154), (159), (164), (171), (178), (193), (208), (215), (222), (229), (236), (241), (246), (251), (256), (261), (266)], 107) := by decide +kernel
  refine es_ifc (fun h2 => ?_) (fun h2 => ?_)
  · refine es_tsw (off := (107)) (tgt := 108) hs1 0 h2 (by decide) ?_
    refine es_blk (pc' := 109) (L' := [some (.ref 127), some (.int p0)]) (st' := [.ref 127]) [(.aload_n 0, 0)] (by decide +kernel) rfl rfl ?_
    refine ef_getI (k := 127) (j := 20) rfl eL_12_280 (by decide) (by decide +kernel) ?_
    exact es_ret rfl rfl rfl ⟨by decide +kernel, _, rfl, rfl⟩ (Nat.le_refl _) (Nat.le_refl _)
  refine es_ifc (fun h3 => ?_) (fun h3 => ?_)
  · refine es_tsw (off := (112)) (tgt := 113) hs1 1 h3 (by decide) ?_
    refine es_blk (pc' := 114) (L' := [some (.ref 127), some (.int p0)]) (st' := [.ref 127]) [(.aload_n 0, 0)] (by decide +kernel) rfl rfl ?_
    refine ef_getI (k := 127) (j := 21) rfl eL_12_283 (by decide) (by decide +kernel) ?_
    refine ef_J (X := fun j4 => ∀ (a5 : Int32), eh_Sim g eM_12_count_2 (eh_R 2 0 0) (eh_pI s) 0 0 125 [none, none] [.int a5] (eh_FW s) ((j4 a5).bind some)) ?_ (fun j4 Hj4 => ?_)
    · intro a5
      exact es_ret rfl rfl rfl ⟨by decide +kernel, _, rfl, rfl⟩ (Nat.le_refl _) (Nat.le_refl _)
    refine es_eq (tgt := 124) (off := (7)) (by decide +kernel) (by decide) (fun h6 => ?_) (fun h6 => ?_)
    · refine es_blk (pc' := 125) (L' := [some (.ref 127), some (.int p0)]) (st' := [.int 0]) [(.iconst 0, 0)] (by decide +kernel) rfl rfl ?_
      refine ef_drop (L2 := [none, none]) [false, false] rfl rfl ?_
      exact Hj4 _
    refine es_blk (pc' := 121) (L' := [some (.ref 127), some (.int p0)]) (st' := [.int 1]) [(.iconst 1, 1)] (by decide +kernel) rfl rfl ?_
    refine es_goto (tgt := 125) (off := (4)) (by decide +kernel) (by decide) ?_
    refine ef_drop (L2 := [none, none]) [false, false] rfl rfl ?_
    exact Hj4 _
  refine es_ifc (fun h7 => ?_) (fun h7 => ?_)
  · refine es_tsw (off := (125)) (tgt := 126) hs1 2 h7 (by decide) ?_
    refine es_blk (pc' := 127) (L' := [some (.ref 127), some (.int p0)]) (st' := [.ref 127]) [(.aload_n 0, 0)] (by decide +kernel) rfl rfl ?_
    refine ef_getP (k := 127) (j := 30) (q := 155) rfl eL_12_94 rfl rfl rfl (by decide +kernel) ?_
    refine ef_spI (d := 1) (As := [.ref 155]) (st := []) eV_12_many eK_12_648 (eS_12_many g s 155 6 rfl) rfl (Nat.le_of_ble_eq_true rfl) rfl (Nat.le_of_ble_eq_true rfl) ⟨Nat.le_of_ble_eq_true rfl, Nat.le_of_ble_eq_true rfl⟩ ⟨Nat.le_refl _, Nat.le_refl _⟩ (by decide +kernel) (fun q8 _ => ?_)
    exact es_ret rfl rfl rfl ⟨by decide +kernel, _, rfl, rfl⟩ (Nat.le_refl _) (Nat.le_refl _)
  refine es_ifc (fun h9 => ?_) (fun h9 => ?_)
  · refine es_tsw (off := (133)) (tgt := 134) hs1 3 h9 (by decide) ?_
    refine es_blk (pc' := 135) (L' := [some (.ref 127), some (.int p0)]) (st' := [.ref 127]) [(.aload_n 0, 0)] (by decide +kernel) rfl rfl ?_
    refine ef_getP (k := 127) (j := 39) (q := 164) rfl eL_12_121 rfl rfl rfl (by decide +kernel) ?_
    refine ef_spI (d := 1) (As := [.ref 164]) (st := []) eV_12_many eK_12_648 (eS_12_many g s 164 12 rfl) rfl (Nat.le_of_ble_eq_true rfl) rfl (Nat.le_of_ble_eq_true rfl) ⟨Nat.le_of_ble_eq_true rfl, Nat.le_of_ble_eq_true rfl⟩ ⟨Nat.le_refl _, Nat.le_refl _⟩ (by decide +kernel) (fun q10 _ => ?_)
    exact es_ret rfl rfl rfl ⟨by decide +kernel, _, rfl, rfl⟩ (Nat.le_refl _) (Nat.le_refl _)
  refine es_ifc (fun h11 => ?_) (fun h11 => ?_)
  · refine es_tsw (off := (141)) (tgt := 142) hs1 4 h11 (by decide) ?_
    refine es_blk (pc' := 143) (L' := [some (.ref 127), some (.int p0)]) (st' := [.ref 127]) [(.aload_n 0, 0)] (by decide +kernel) rfl rfl ?_
    refine ef_getP (k := 127) (j := 23) (q := 148) rfl eL_12_73 rfl rfl rfl (by decide +kernel) ?_
    refine ef_spI (d := 1) (As := [.ref 148]) (st := []) eV_12_many eK_12_648 (eS_12_many g s 148 12 rfl) rfl (Nat.le_of_ble_eq_true rfl) rfl (Nat.le_of_ble_eq_true rfl) ⟨Nat.le_of_ble_eq_true rfl, Nat.le_of_ble_eq_true rfl⟩ ⟨Nat.le_refl _, Nat.le_refl _⟩ (by decide +kernel) (fun q12 _ => ?_)
    exact es_ret rfl rfl rfl ⟨by decide +kernel, _, rfl, rfl⟩ (Nat.le_refl _) (Nat.le_refl _)
  refine es_ifc (fun h13 => ?_) (fun h13 => ?_)
  · refine es_tsw (off := (149)) (tgt := 150) hs1 5 h13 (by decide) ?_
    refine es_blk (pc' := 151) (L' := [some (.ref 127), some (.int p0)]) (st' := [.ref 127]) [(.aload_n 0, 0)] (by decide +kernel) rfl rfl ?_
    refine ef_getI (k := 127) (j := 50) rfl eL_12_290 (by decide) (by decide +kernel) ?_
    exact es_ret rfl rfl rfl ⟨by decide +kernel, _, rfl, rfl⟩ (Nat.le_refl _) (Nat.le_refl _)
  refine es_ifc (fun h14 => ?_) (fun h14 => ?_)
  · refine es_tsw (off := (154)) (tgt := 155) hs1 6 h14 (by decide) ?_
    refine es_blk (pc' := 156) (L' := [some (.ref 127), some (.int p0)]) (st' := [.ref 127]) [(.aload_n 0, 0)] (by decide +kernel) rfl rfl ?_
    refine ef_getI (k := 127) (j := 52) rfl eL_12_293 (by decide) (by decide +kernel) ?_
    exact es_ret rfl rfl rfl ⟨by decide +kernel, _, rfl, rfl⟩ (Nat.le_refl _) (Nat.le_refl _)
  refine es_ifc (fun h15 => ?_) (fun h15 => ?_)
  · refine es_tsw (off := (159)) (tgt := 160) hs1 7 h15 (by decide) ?_
    refine es_blk (pc' := 161) (L' := [some (.ref 127), some (.int p0)]) (st' := [.ref 127]) [(.aload_n 0, 0)] (by decide +kernel) rfl rfl ?_
    refine ef_getI (k := 127) (j := 58) rfl eL_12_296 (by decide) (by decide +kernel) ?_
    exact es_ret rfl rfl rfl ⟨by decide +kernel, _, rfl, rfl⟩ (Nat.le_refl _) (Nat.le_refl _)
  refine es_ifc (fun h16 => ?_) (fun h16 => ?_)
  · refine es_tsw (off := (164)) (tgt := 165) hs1 8 h16 (by decide) ?_
    refine es_blk (pc' := 166) (L' := [some (.ref 127), some (.int p0)]) (st' := [.ref 127]) [(.aload_n 0, 0)] (by decide +kernel) rfl rfl ?_
    refine ef_getP (k := 127) (j := 16) (q := 144) rfl eL_12_61 rfl rfl rfl (by decide +kernel) ?_
    refine es_blk (pc' := 170) (L' := [some (.ref 127), some (.int p0)]) (st' := [.int 0, .ref 144]) [(.iconst 0, 0)] (by decide +kernel) rfl rfl ?_
    refine ef_aldc (k := 144) (j := 0) rfl (Or.inl ⟨rfl, rfl⟩) (by decide) rfl (by decide +kernel) ?_
    exact es_ret rfl rfl rfl ⟨by decide +kernel, _, rfl, rfl⟩ (Nat.le_refl _) (Nat.le_refl _)
  refine es_ifc (fun h17 => ?_) (fun h17 => ?_)
  · refine es_tsw (off := (171)) (tgt := 172) hs1 9 h17 (by decide) ?_
    refine es_blk (pc' := 173) (L' := [some (.ref 127), some (.int p0)]) (st' := [.ref 127]) [(.aload_n 0, 0)] (by decide +kernel) rfl rfl ?_
    refine ef_getP (k := 127) (j := 16) (q := 144) rfl eL_12_61 rfl rfl rfl (by decide +kernel) ?_
    refine es_blk (pc' := 177) (L' := [some (.ref 127), some (.int p0)]) (st' := [.int 1, .ref 144]) [(.iconst 1, 1)] (by decide +kernel) rfl rfl ?_
    refine ef_aldc (k := 144) (j := 1) rfl (Or.inl ⟨rfl, rfl⟩) (by decide) rfl (by decide +kernel) ?_
    exact es_ret rfl rfl rfl ⟨by decide +kernel, _, rfl, rfl⟩ (Nat.le_refl _) (Nat.le_refl _)
  refine es_ifc (fun h18 => ?_) (fun h18 => ?_)
  · refine es_tsw (off := (178)) (tgt := 179) hs1 10 h18 (by decide) ?_
    refine es_blk (pc' := 180) (L' := [some (.ref 127), some (.int p0)]) (st' := [.ref 127]) [(.aload_n 0, 0)] (by decide +kernel) rfl rfl ?_
    refine ef_getP (k := 127) (j := 4) (q := 132) rfl eL_12_24 rfl rfl rfl (by decide +kernel) ?_
    refine es_blk (pc' := 184) (L' := [some (.ref 127), some (.int p0)]) (st' := [.int 0, .ref 132]) [(.iconst 0, 0)] (by decide +kernel) rfl rfl ?_
    refine ef_aldc (k := 132) (j := 0) rfl (Or.inr ⟨Or.inr rfl, rfl⟩) (by decide) rfl (by decide +kernel) ?_
    refine ef_J (X := fun j19 => ∀ (a20 : Int32), eh_Sim g eM_12_count_2 (eh_R 2 0 0) (eh_pI s) 0 0 193 [none, none] [.int a20] (eh_FW s) ((j19 a20).bind some)) ?_ (fun j19 Hj19 => ?_)
    · intro a20
      exact es_ret rfl rfl rfl ⟨by decide +kernel, _, rfl, rfl⟩ (Nat.le_refl _) (Nat.le_refl _)
    refine es_eq (tgt := 192) (off := (7)) (by decide +kernel) (by decide) (fun h21 => ?_) (fun h21 => ?_)
    · refine es_blk (pc' := 193) (L' := [some (.ref 127), some (.int p0)]) (st' := [.int 0]) [(.iconst 0, 0)] (by decide +kernel) rfl rfl ?_
      refine ef_drop (L2 := [none, none]) [false, false] rfl rfl ?_
      exact Hj19 _
    refine es_blk (pc' := 189) (L' := [some (.ref 127), some (.int p0)]) (st' := [.int 1]) [(.iconst 1, 1)] (by decide +kernel) rfl rfl ?_
    refine es_goto (tgt := 193) (off := (4)) (by decide +kernel) (by decide) ?_
    refine ef_drop (L2 := [none, none]) [false, false] rfl rfl ?_
    exact Hj19 _
  refine es_ifc (fun h22 => ?_) (fun h22 => ?_)
  · refine es_tsw (off := (193)) (tgt := 194) hs1 11 h22 (by decide) ?_
    refine es_blk (pc' := 195) (L' := [some (.ref 127), some (.int p0)]) (st' := [.ref 127]) [(.aload_n 0, 0)] (by decide +kernel) rfl rfl ?_
    refine ef_getP (k := 127) (j := 4) (q := 132) rfl eL_12_24 rfl rfl rfl (by decide +kernel) ?_
    refine es_blk (pc' := 199) (L' := [some (.ref 127), some (.int p0)]) (st' := [.int 1, .ref 132]) [(.iconst 1, 1)] (by decide +kernel) rfl rfl ?_
    refine ef_aldc (k := 132) (j := 1) rfl (Or.inr ⟨Or.inr rfl, rfl⟩) (by decide) rfl (by decide +kernel) ?_
    refine ef_J (X := fun j23 => ∀ (a24 : Int32), eh_Sim g eM_12_count_2 (eh_R 2 0 0) (eh_pI s) 0 0 208 [none, none] [.int a24] (eh_FW s) ((j23 a24).bind some)) ?_ (fun j23 Hj23 => ?_)
    · intro a24
      exact es_ret rfl rfl rfl ⟨by decide +kernel, _, rfl, rfl⟩ (Nat.le_refl _) (Nat.le_refl _)
    refine es_eq (tgt := 207) (off := (7)) (by decide +kernel) (by decide) (fun h25 => ?_) (fun h25 => ?_)
    · refine es_blk (pc' := 208) (L' := [some (.ref 127), some (.int p0)]) (st' := [.int 0]) [(.iconst 0, 0)] (by decide +kernel) rfl rfl ?_
      refine ef_drop (L2 := [none, none]) [false, false] rfl rfl ?_
      exact Hj23 _
    refine es_blk (pc' := 204) (L' := [some (.ref 127), some (.int p0)]) (st' := [.int 1]) [(.iconst 1, 1)] (by decide +kernel) rfl rfl ?_
    refine es_goto (tgt := 208) (off := (4)) (by decide +kernel) (by decide) ?_
    refine ef_drop (L2 := [none, none]) [false, false] rfl rfl ?_
    exact Hj23 _
  refine es_ifc (fun h26 => ?_) (fun h26 => ?_)
  · refine es_tsw (off := (208)) (tgt := 209) hs1 12 h26 (by decide) ?_
    refine es_blk (pc' := 210) (L' := [some (.ref 127), some (.int p0)]) (st' := [.ref 127]) [(.aload_n 0, 0)] (by decide +kernel) rfl rfl ?_
    refine ef_getP (k := 127) (j := 3) (q := 131) rfl eL_12_21 rfl rfl rfl (by decide +kernel) ?_
    refine es_blk (pc' := 214) (L' := [some (.ref 127), some (.int p0)]) (st' := [.int 0, .ref 131]) [(.iconst 0, 0)] (by decide +kernel) rfl rfl ?_
    refine ef_aldc (k := 131) (j := 0) rfl (Or.inl ⟨rfl, rfl⟩) (by decide) rfl (by decide +kernel) ?_
    exact es_ret rfl rfl rfl ⟨by decide +kernel, _, rfl, rfl⟩ (Nat.le_refl _) (Nat.le_refl _)
  refine es_ifc (fun h27 => ?_) (fun h27 => ?_)
  · refine es_tsw (off := (215)) (tgt := 216) hs1 13 h27 (by decide) ?_
    refine es_blk (pc' := 217) (L' := [some (.ref 127), some (.int p0)]) (st' := [.ref 127]) [(.aload_n 0, 0)] (by decide +kernel) rfl rfl ?_
    refine ef_getP (k := 127) (j := 3) (q := 131) rfl eL_12_21 rfl rfl rfl (by decide +kernel) ?_
    refine es_blk (pc' := 221) (L' := [some (.ref 127), some (.int p0)]) (st' := [.int 1, .ref 131]) [(.iconst 1, 1)] (by decide +kernel) rfl rfl ?_
    refine ef_aldc (k := 131) (j := 1) rfl (Or.inl ⟨rfl, rfl⟩) (by decide) rfl (by decide +kernel) ?_
    exact es_ret rfl rfl rfl ⟨by decide +kernel, _, rfl, rfl⟩ (Nat.le_refl _) (Nat.le_refl _)
  refine es_ifc (fun h28 => ?_) (fun h28 => ?_)
  · refine es_tsw (off := (222)) (tgt := 223) hs1 14 h28 (by decide) ?_
    refine es_blk (pc' := 224) (L' := [some (.ref 127), some (.int p0)]) (st' := [.ref 127]) [(.aload_n 0, 0)] (by decide +kernel) rfl rfl ?_
    refine ef_getP (k := 127) (j := 2) (q := 130) rfl eL_12_18 rfl rfl rfl (by decide +kernel) ?_
    refine es_blk (pc' := 228) (L' := [some (.ref 127), some (.int p0)]) (st' := [.int 0, .ref 130]) [(.iconst 0, 0)] (by decide +kernel) rfl rfl ?_
    refine ef_aldc (k := 130) (j := 0) rfl (Or.inl ⟨rfl, rfl⟩) (by decide) rfl (by decide +kernel) ?_
    exact es_ret rfl rfl rfl ⟨by decide +kernel, _, rfl, rfl⟩ (Nat.le_refl _) (Nat.le_refl _)
  refine es_ifc (fun h29 => ?_) (fun h29 => ?_)
  · refine es_tsw (off := (229)) (tgt := 230) hs1 15 h29 (by decide) ?_
    refine es_blk (pc' := 231) (L' := [some (.ref 127), some (.int p0)]) (st' := [.ref 127]) [(.aload_n 0, 0)] (by decide +kernel) rfl rfl ?_
    refine ef_getP (k := 127) (j := 2) (q := 130) rfl eL_12_18 rfl rfl rfl (by decide +kernel) ?_
    refine es_blk (pc' := 235) (L' := [some (.ref 127), some (.int p0)]) (st' := [.int 1, .ref 130]) [(.iconst 1, 1)] (by decide +kernel) rfl rfl ?_
    refine ef_aldc (k := 130) (j := 1) rfl (Or.inl ⟨rfl, rfl⟩) (by decide) rfl (by decide +kernel) ?_
    exact es_ret rfl rfl rfl ⟨by decide +kernel, _, rfl, rfl⟩ (Nat.le_refl _) (Nat.le_refl _)
  refine es_ifc (fun h30 => ?_) (fun h30 => ?_)
  · refine es_tsw (off := (236)) (tgt := 237) hs1 16 h30 (by decide) ?_
    refine es_blk (pc' := 238) (L' := [some (.ref 127), some (.int p0)]) (st' := [.ref 127]) [(.aload_n 0, 0)] (by decide +kernel) rfl rfl ?_
    refine ef_getI (k := 127) (j := 70) rfl eL_12_617 (by decide) (by decide +kernel) ?_
    exact es_ret rfl rfl rfl ⟨by decide +kernel, _, rfl, rfl⟩ (Nat.le_refl _) (Nat.le_refl _)
  refine es_ifc (fun h31 => ?_) (fun h31 => ?_)
  · refine es_tsw (off := (241)) (tgt := 242) hs1 17 h31 (by decide) ?_
    refine es_blk (pc' := 243) (L' := [some (.ref 127), some (.int p0)]) (st' := [.ref 127]) [(.aload_n 0, 0)] (by decide +kernel) rfl rfl ?_
    refine ef_getI (k := 127) (j := 59) rfl eL_12_299 (by decide) (by decide +kernel) ?_
    exact es_ret rfl rfl rfl ⟨by decide +kernel, _, rfl, rfl⟩ (Nat.le_refl _) (Nat.le_refl _)
  refine es_ifc (fun h32 => ?_) (fun h32 => ?_)
  · refine es_tsw (off := (246)) (tgt := 247) hs1 18 h32 (by decide) ?_
    refine es_blk (pc' := 248) (L' := [some (.ref 127), some (.int p0)]) (st' := [.ref 127]) [(.aload_n 0, 0)] (by decide +kernel) rfl rfl ?_
    refine ef_getI (k := 127) (j := 60) rfl eL_12_302 (by decide) (by decide +kernel) ?_
    exact es_ret rfl rfl rfl ⟨by decide +kernel, _, rfl, rfl⟩ (Nat.le_refl _) (Nat.le_refl _)
  refine es_ifc (fun h33 => ?_) (fun h33 => ?_)
  · refine es_tsw (off := (251)) (tgt := 252) hs1 19 h33 (by decide) ?_
    refine es_blk (pc' := 253) (L' := [some (.ref 127), some (.int p0)]) (st' := [.ref 127]) [(.aload_n 0, 0)] (by decide +kernel) rfl rfl ?_
    refine ef_getI (k := 127) (j := 62) rfl eL_12_305 (by decide) (by decide +kernel) ?_
    exact es_ret rfl rfl rfl ⟨by decide +kernel, _, rfl, rfl⟩ (Nat.le_refl _) (Nat.le_refl _)
  refine es_ifc (fun h34 => ?_) (fun h34 => ?_)
  · refine es_tsw (off := (256)) (tgt := 257) hs1 20 h34 (by decide) ?_
    refine es_blk (pc' := 258) (L' := [some (.ref 127), some (.int p0)]) (st' := [.ref 127]) [(.aload_n 0, 0)] (by decide +kernel) rfl rfl ?_
    refine ef_getI (k := 127) (j := 67) rfl eL_12_311 (by decide) (by decide +kernel) ?_
    exact es_ret rfl rfl rfl ⟨by decide +kernel, _, rfl, rfl⟩ (Nat.le_refl _) (Nat.le_refl _)
  refine es_ifc (fun h35 => ?_) (fun h35 => ?_)
  · refine es_tsw (off := (261)) (tgt := 262) hs1 21 h35 (by decide) ?_
    refine es_blk (pc' := 263) (L' := [some (.ref 127), some (.int p0)]) (st' := [.ref 127]) [(.aload_n 0, 0)] (by decide +kernel) rfl rfl ?_
    refine ef_getI (k := 127) (j := 64) rfl eL_12_314 (by decide) (by decide +kernel) ?_
    exact es_ret rfl rfl rfl ⟨by decide +kernel, _, rfl, rfl⟩ (Nat.le_refl _) (Nat.le_refl _)
  refine es_ifc (fun h36 => ?_) (fun h36 => ?_)
  · refine es_tsw (off := (266)) (tgt := 267) hs1 22 h36 (by decide) ?_
    refine es_blk (pc' := 268) (L' := [some (.ref 127), some (.int p0)]) (st' := [.ref 127]) [(.aload_n 0, 0)] (by decide +kernel) rfl rfl ?_
    refine ef_getI (k := 127) (j := 66) rfl eL_12_317 (by decide) (by decide +kernel) ?_
    exact es_ret rfl rfl rfl ⟨by decide +kernel, _, rfl, rfl⟩ (Nat.le_refl _) (Nat.le_refl _)
  refine es_tswD (tgt := 272) hs1 [0, 1, 2, 3, 4, 5, 6, 7, 8, 9, 10, 11, 12, 13, 14, 15, 16, 17, 18, 19, 20, 21, 22] (List.forall_mem_cons.mpr ⟨eh_nei 0 0 (by decide) h2, (List.forall_mem_cons.mpr ⟨eh_nei 1 1 (by decide) h3, (List.forall_mem_cons.mpr ⟨eh_nei 2 2 (by decide) h7, (List.forall_mem_cons.mpr ⟨eh_nei 3 3 (by decide) h9, (List.forall_mem_cons.mpr ⟨eh_nei 4 4 (by decide) h11, (List.forall_mem_cons.mpr ⟨eh_nei 5 5 (by decide) h13, (List.forall_mem_cons.mpr ⟨eh_nei 6 6 (by decide) h14, (List.forall_mem_cons.mpr ⟨eh_nei 7 7 (by decide) h15, (List.forall_mem_cons.mpr ⟨eh_nei 8 8 (by decide) h16, (List.forall_mem_cons.mpr ⟨eh_nei 9 9 (by decide) h17, (List.forall_mem_cons.mpr ⟨eh_nei 10 10 (by decide) h18, (List.forall_mem_cons.mpr ⟨eh_nei 11 11 (by decide) h22, (List.forall_mem_cons.mpr ⟨eh_nei 12 12 (by decide) h26, (List.forall_mem_cons.mpr ⟨eh_nei 13 13 (by decide) h27, (List.forall_mem_cons.mpr ⟨eh_nei 14 14 (by decide) h28, (List.forall_mem_cons.mpr ⟨eh_nei 15 15 (by decide) h29, (List.forall_mem_cons.mpr ⟨eh_nei 16 16 (by decide) h30, (List.forall_mem_cons.mpr ⟨eh_nei 17 17 (by decide) h31, (List.forall_mem_cons.mpr ⟨eh_nei 18 18 (by decide) h32, (List.forall_mem_cons.mpr ⟨eh_nei 19 19 (by decide) h33, (List.forall_mem_cons.mpr ⟨eh_nei 20 20 (by decide) h34, (List.forall_mem_cons.mpr ⟨eh_nei 21 21 (by decide) h35, (List.forall_mem_cons.mpr ⟨eh_nei 22 22 (by decide) h36, (List.forall_mem_nil _)⟩)⟩)⟩)⟩)⟩)⟩)⟩)⟩)⟩)⟩)⟩)⟩)⟩)⟩)⟩)⟩)⟩)⟩)⟩)⟩)⟩)⟩)⟩) (by decide) (by decide) (by decide) ?_
  refine es_blk (pc' := 273) (L' := [some (.ref 127), some (.int p0)]) (st' := [.int (-1)]) [(.iconst (-1), (-1))] (by decide +kernel) rfl rfl ?_
  exact es_ret rfl rfl rfl ⟨by decide +kernel, _, rfl, rfl⟩ (Nat.le_refl _) (Nat.le_refl _)
def eF_20_compareUnsigned (s : eh_F) (p0 : Int32) (p1 : Int32) : Option (Int32) := Option.bind (eF_20_compare s (p0 + (-2147483648)) (p1 + (-2147483648))) (fun q1 => some q1)
set_option maxHeartbeats 4000000 in
set_option maxRecDepth 100000 in
theorem eS_20_compareUnsigned (g : eh_P) (s : eh_F) (p0 : Int32) (p1 : Int32) : eh_Sim g eM_20_compareUnsigned (eh_R 2 0 0) (eh_pI s) 0 0 0 (eh_en 2 [.int p0, .int p1]) [] (eh_FW s) (eF_20_compareUnsigned s p0 p1) := by
  unfold eF_20_compareUnsigned
  refine ef_top (L := [some (.int p0), some (.int p1)]) rfl ?_
  refine es_blk (pc' := 1) (L' := [some (.int p0), some (.int p1)]) (st' := [.int p0]) [(.iload_n 0, 0)] (by decide +kernel) rfl rfl ?_
  refine es_ldc (v := (-2147483648)) eC_20_127 (by decide +kernel) ?_
  refine es_blk (pc' := 5) (L' := [some (.int p0), some (.int p1)]) (st' := [.int p1, .int (p0 + (-2147483648))]) [(.iadd, 0), (.iload_n 1, 0)] (by decide +kernel) rfl rfl ?_
  refine es_ldc (v := (-2147483648)) eC_20_127 (by decide +kernel) ?_
  refine es_blk (pc' := 8) (L' := [some (.int p0), some (.int p1)]) (st' := [.int (p1 + (-2147483648)), .int (p0 + (-2147483648))]) [(.iadd, 0)] (by decide +kernel) rfl rfl ?_
  refine ef_spI (d := 1) (As := [.int (p0 + (-2147483648)), .int (p1 + (-2147483648))]) (st := []) eV_20_compare eK_20_259 (eS_20_compare g s (p0 + (-2147483648)) (p1 + (-2147483648))) rfl (Nat.le_of_ble_eq_true rfl) rfl (Nat.le_of_ble_eq_true rfl) ⟨Nat.le_of_ble_eq_true rfl, Nat.le_of_ble_eq_true rfl⟩ ⟨Nat.le_refl _, Nat.le_refl _⟩ (by decide +kernel) (fun q1 _ => ?_)
  exact es_ret rfl rfl rfl ⟨by decide +kernel, _, rfl, rfl⟩ (Nat.le_refl _) (Nat.le_refl _)
def eF_0_restart (s : eh_F)  : Option (eh_F) := eh_V (eh_tI s 12 0 0) (fun s1 => eh_V (eh_tI s1 12 1 0) (fun s2 => eh_V (eh_tI s2 12 7 0) (fun s3 => eh_V (eh_tI s3 12 8 0) (fun s4 => eh_V (eh_tI s4 12 9 0) (fun s5 => Option.bind (eF_8_clear s5 18) (fun q6 => Option.bind (eF_8_clear q6 20) (fun q7 => Option.bind (eF_0_givePath q7 (-1)) (fun q8 => some q8))))))))
set_option maxHeartbeats 4000000 in
set_option maxRecDepth 100000 in
theorem eS_0_restart (g : eh_P) (s : eh_F)  : eh_Sim g eM_0_restart (eh_R 3 0 0) eh_eV 0 0 0 (eh_en 1 [.ref 12]) [] (eh_FW s) (eF_0_restart s) := by
  unfold eF_0_restart
  refine ef_top (L := [some (.ref 12)]) rfl ?_
  refine es_blk (pc' := 2) (L' := [some (.ref 12)]) (st' := [.int 0, .ref 12]) [(.aload_n 0, 0), (.iconst 0, 0)] (by decide +kernel) rfl rfl ?_
  refine ef_putI (k := 12) (j := 0) rfl eL_0_46 rfl rfl (by decide +kernel) ?_
  refine ef_V (fun _ => [some (.ref 12)]) (fun _ => []) (fun s1 => eh_FW s1) (fun s1 => ?_)
  refine es_blk (pc' := 7) (L' := [some (.ref 12)]) (st' := [.int 0, .ref 12]) [(.aload_n 0, 0), (.iconst 0, 0)] (by decide +kernel) rfl rfl ?_
  refine ef_putZc (k := 12) (j := 1) rfl eL_0_50 rfl rfl (by decide) (by decide +kernel) ?_
  refine ef_V (fun _ => [some (.ref 12)]) (fun _ => []) (fun s2 => eh_FW s2) (fun s2 => ?_)
  refine es_blk (pc' := 12) (L' := [some (.ref 12)]) (st' := [.int 0, .ref 12]) [(.aload_n 0, 0), (.iconst 0, 0)] (by decide +kernel) rfl rfl ?_
  refine ef_putI (k := 12) (j := 7) rfl eL_0_54 rfl rfl (by decide +kernel) ?_
  refine ef_V (fun _ => [some (.ref 12)]) (fun _ => []) (fun s3 => eh_FW s3) (fun s3 => ?_)
  refine es_blk (pc' := 17) (L' := [some (.ref 12)]) (st' := [.int 0, .ref 12]) [(.aload_n 0, 0), (.iconst 0, 0)] (by decide +kernel) rfl rfl ?_
  refine ef_putI (k := 12) (j := 8) rfl eL_0_57 rfl rfl (by decide +kernel) ?_
  refine ef_V (fun _ => [some (.ref 12)]) (fun _ => []) (fun s4 => eh_FW s4) (fun s4 => ?_)
  refine es_blk (pc' := 22) (L' := [some (.ref 12)]) (st' := [.int 0, .ref 12]) [(.aload_n 0, 0), (.iconst 0, 0)] (by decide +kernel) rfl rfl ?_
  refine ef_putI (k := 12) (j := 9) rfl eL_0_60 rfl rfl (by decide +kernel) ?_
  refine ef_V (fun _ => [some (.ref 12)]) (fun _ => []) (fun s5 => eh_FW s5) (fun s5 => ?_)
  refine es_blk (pc' := 26) (L' := [some (.ref 12)]) (st' := [.ref 12]) [(.aload_n 0, 0)] (by decide +kernel) rfl rfl ?_
  refine ef_getP (k := 12) (j := 10) (q := 18) rfl eL_0_33 rfl rfl rfl (by decide +kernel) ?_
  refine ef_veV (d := 1) (k := 18) (As := []) (st := []) eV_8_clear eK_0_63 (eS_8_clear g s5 18 rfl) rfl rfl (Nat.le_of_ble_eq_true rfl) rfl (Nat.le_of_ble_eq_true rfl) ⟨Nat.le_of_ble_eq_true rfl, Nat.le_of_ble_eq_true rfl⟩ ⟨Nat.le_refl _, Nat.le_refl _⟩ (by decide +kernel) (fun q6 _ => ?_)
  refine es_blk (pc' := 33) (L' := [some (.ref 12)]) (st' := [.ref 12]) [(.aload_n 0, 0)] (by decide +kernel) rfl rfl ?_
  refine ef_getP (k := 12) (j := 11) (q := 20) rfl eL_0_37 rfl rfl rfl (by decide +kernel) ?_
  refine ef_veV (d := 1) (k := 20) (As := []) (st := []) eV_8_clear eK_0_63 (eS_8_clear g q6 20 rfl) rfl rfl (Nat.le_of_ble_eq_true rfl) rfl (Nat.le_of_ble_eq_true rfl) ⟨Nat.le_of_ble_eq_true rfl, Nat.le_of_ble_eq_true rfl⟩ ⟨Nat.le_refl _, Nat.le_refl _⟩ (by decide +kernel) (fun q7 _ => ?_)
  refine es_blk (pc' := 41) (L' := [some (.ref 12)]) (st' := [.int (-1), .ref 12]) [(.aload_n 0, 0), (.iconst (-1), (-1))] (by decide +kernel) rfl rfl ?_
  refine ef_veV (d := 2) (k := 12) (As := [.int (-1)]) (st := []) eV_0_givePath eK_0_66 (eS_0_givePath g q7 (-1)) rfl rfl (Nat.le_of_ble_eq_true rfl) rfl (Nat.le_of_ble_eq_true rfl) ⟨Nat.le_of_ble_eq_true rfl, Nat.le_of_ble_eq_true rfl⟩ ⟨Nat.le_refl _, Nat.le_refl _⟩ (by decide +kernel) (fun q8 _ => ?_)
  exact es_ret rfl rfl rfl ⟨by decide +kernel, rfl⟩ (Nat.le_refl _) (Nat.le_refl _)
def eF_0_carryOutFirst (s : eh_F)  : Option (eh_F) := eh_V ((s.1 16 0) : Int32) (fun x1 => eh_V (((s.1 15 0) * 64) : Int32) (fun x2 => eh_V (eh_tI s 12 8 ((s.1 12 8) + 1)) (fun s3 => Option.bind (eF_6_areOpen s3 x1 256) (fun q4 => if q4 = 0 then (eh_V (eh_tI s3 12 9 ((s3.1 12 9) + 1)) (fun s6 => some s6)) else (Option.bind (eh_loop (fun (r10 : (Int32 × eh_F) → Option (eh_F)) (t7 : Int32 × eh_F) => if t7.1 < 64 then (if (x2 + t7.1) < (Int32.ofNat 2048) then (eh_J (fun (s14 : eh_F) => eh_V ((t7.1 + 1) : Int32) (fun x15 => r10 (x15, s14))) (fun j13 => if (t7.2.1 14 0) = 0 then (if eh_in (x2 + t7.1) 2048 then Option.bind (eF_6_store t7.2 (x1 + (4 * t7.1)) (t7.2.1 13 (eh_ix (x2 + t7.1))) 4) (fun q17 => j13 q17) else none) else (Option.bind (eF_6_wordAt t7.2 (x1 + (4 * t7.1))) (fun q18 => if eh_in (x2 + t7.1) 2048 then eh_V (eh_tI t7.2 13 (eh_ix (x2 + t7.1)) q18) (fun s19 => j13 s19) else none)))) else (some t7.2)) else (some t7.2)) eh_FU (0, s3)) (fun (e8 : eh_F) => some e8))))))
set_option maxHeartbeats 4000000 in
set_option maxRecDepth 100000 in
theorem eS_0_carryOutFirst (g : eh_P) (s : eh_F)  : eh_Sim g eM_0_carryOutFirst (eh_R 3 0 0) eh_eV 0 0 0 (eh_en 5 [.ref 12, .ref 2]) [] (eh_FW s) (eF_0_carryOutFirst s) := by
  unfold eF_0_carryOutFirst
  refine ef_top (L := [some (.ref 12), some (.ref 2), none, none, none]) rfl ?_
  refine es_blk (pc' := 1) (L' := [some (.ref 12), some (.ref 2), none, none, none]) (st' := [.ref 12]) [(.aload_n 0, 0)] (by decide +kernel) rfl rfl ?_
  refine ef_getP (k := 12) (j := 5) (q := 16) rfl eL_0_22 rfl rfl rfl (by decide +kernel) ?_
  refine es_blk (pc' := 5) (L' := [some (.ref 12), some (.ref 2), none, none, none]) (st' := [.int 0, .ref 16]) [(.iconst 0, 0)] (by decide +kernel) rfl rfl ?_
  refine ef_aldc (k := 16) (j := 0) rfl (Or.inl ⟨rfl, rfl⟩) (by decide) rfl (by decide +kernel) ?_
  refine es_blk (pc' := 7) (L' := [some (.ref 12), some (.ref 2), some (.int (s.1 16 0)), none, none]) (st' := []) [(.istore_n 2, 0)] (by decide +kernel) rfl rfl ?_
  refine ef_V (fun x1 => [some (.ref 12), some (.ref 2), some (.int x1), none, none]) (fun _ => []) (fun _ => eh_FW s) (fun x1 => ?_)
  refine es_blk (pc' := 8) (L' := [some (.ref 12), some (.ref 2), some (.int x1), none, none]) (st' := [.ref 12]) [(.aload_n 0, 0)] (by decide +kernel) rfl rfl ?_
  refine ef_getP (k := 12) (j := 4) (q := 15) rfl eL_0_19 rfl rfl rfl (by decide +kernel) ?_
  refine es_blk (pc' := 12) (L' := [some (.ref 12), some (.ref 2), some (.int x1), none, none]) (st' := [.int 0, .ref 15]) [(.iconst 0, 0)] (by decide +kernel) rfl rfl ?_
  refine ef_aldc (k := 15) (j := 0) rfl (Or.inl ⟨rfl, rfl⟩) (by decide) rfl (by decide +kernel) ?_
  refine es_blk (pc' := 17) (L' := [some (.ref 12), some (.ref 2), some (.int x1), some (.int ((s.1 15 0) * 64)), none]) (st' := []) [(.bipush 64, 64), (.imul, 0), (.istore_n 3, 0)] (by decide +kernel) rfl rfl ?_
  refine ef_V (fun x2 => [some (.ref 12), some (.ref 2), some (.int x1), some (.int x2), none]) (fun _ => []) (fun _ => eh_FW s) (fun x2 => ?_)
  refine es_blk (pc' := 19) (L' := [some (.ref 12), some (.ref 2), some (.int x1), some (.int x2), none]) (st' := [.ref 12, .ref 12]) [(.aload_n 0, 0), (.dup, 0)] (by decide +kernel) rfl rfl ?_
  refine ef_getI (k := 12) (j := 8) rfl eL_0_57 (by decide) (by decide +kernel) ?_
  refine es_blk (pc' := 24) (L' := [some (.ref 12), some (.ref 2), some (.int x1), some (.int x2), none]) (st' := [.int ((s.1 12 8) + 1), .ref 12]) [(.iconst 1, 1), (.iadd, 0)] (by decide +kernel) rfl rfl ?_
  refine ef_putI (k := 12) (j := 8) rfl eL_0_57 rfl rfl (by decide +kernel) ?_
  refine ef_V (fun _ => [some (.ref 12), some (.ref 2), some (.int x1), some (.int x2), none]) (fun _ => []) (fun s3 => eh_FW s3) (fun s3 => ?_)
  refine es_blk (pc' := 32) (L' := [some (.ref 12), some (.ref 2), some (.int x1), some (.int x2), none]) (st' := [.int 256, .int x1, .ref 2]) [(.aload_n 1, 0), (.iload_n 2, 0), (.sipush 256, 256)] (by decide +kernel) rfl rfl ?_
  refine ef_vpI (d := 2) (k := 2) (As := [.int x1, .int 256]) (st := []) eV_6_areOpen eK_0_82 (eS_6_areOpen g s3 x1 256) rfl rfl (Nat.le_of_ble_eq_true rfl) rfl (Nat.le_of_ble_eq_true rfl) ⟨Nat.le_of_ble_eq_true rfl, Nat.le_of_ble_eq_true rfl⟩ ⟨Nat.le_refl _, Nat.le_refl _⟩ (by decide +kernel) (fun q4 _ => ?_)
  refine es_ne (tgt := 49) (off := (14)) (by decide +kernel) (by decide) (fun h5 => ?_) (fun h5 => ?_)
  · refine es_blk (pc' := 40) (L' := [some (.ref 12), some (.ref 2), some (.int x1), some (.int x2), none]) (st' := [.ref 12, .ref 12]) [(.aload_n 0, 0), (.dup, 0)] (by decide +kernel) rfl rfl ?_
    refine ef_getI (k := 12) (j := 9) rfl eL_0_60 (by decide) (by decide +kernel) ?_
    refine es_blk (pc' := 45) (L' := [some (.ref 12), some (.ref 2), some (.int x1), some (.int x2), none]) (st' := [.int ((s3.1 12 9) + 1), .ref 12]) [(.iconst 1, 1), (.iadd, 0)] (by decide +kernel) rfl rfl ?_
    refine ef_putI (k := 12) (j := 9) rfl eL_0_60 rfl rfl (by decide +kernel) ?_
    refine ef_V (fun _ => [some (.ref 12), some (.ref 2), some (.int x1), some (.int x2), none]) (fun _ => []) (fun s6 => eh_FW s6) (fun s6 => ?_)
    exact es_ret rfl rfl rfl ⟨by decide +kernel, rfl⟩ (Nat.le_refl _) (Nat.le_refl _)
  refine es_blk (pc' := 52) (L' := [some (.ref 12), some (.ref 2), some (.int x1), some (.int x2), some (.int 0)]) (st' := []) [(.iconst 0, 0), (.istore 4, 0)] (by decide +kernel) rfl rfl ?_
  refine ef_loop1 (n := eh_FU) (i := (0, s3)) (px := 128) (fun (t7 : Int32 × eh_F) => [some (.ref 12), some (.ref 2), some (.int x1), some (.int x2), some (.int t7.1)]) (fun (t7 : Int32 × eh_F) => []) (fun (t7 : Int32 × eh_F) => eh_FW t7.2) (fun (e8 : eh_F) => [none, none, none, none, none]) (fun (e8 : eh_F) => []) (fun (e8 : eh_F) => eh_FW e8) (fun e8 => ?_) (fun K9 HxK9_0 r10 Hr10 t7 => ?_)
  · exact es_ret rfl rfl rfl ⟨by decide +kernel, rfl⟩ (Nat.le_refl _) (Nat.le_refl _)
  · refine es_blk (pc' := 56) (L' := [some (.ref 12), some (.ref 2), some (.int x1), some (.int x2), some (.int t7.1)]) (st' := [.int 64, .int t7.1]) [(.iload 4, 0), (.bipush 64, 64)] (by decide +kernel) rfl rfl ?_
    refine es_ige (tgt := 128) (off := (72)) (by decide +kernel) (by decide) (fun h11 => ?_) (fun h11 => ?_)
    · refine es_blk (pc' := 64) (L' := [some (.ref 12), some (.ref 2), some (.int x1), some (.int x2), some (.int t7.1)]) (st' := [.ref 12, .int (x2 + t7.1)]) [(.iload_n 3, 0), (.iload 4, 0), (.iadd, 0), (.aload_n 0, 0)] (by decide +kernel) rfl rfl ?_
      refine ef_getP (k := 12) (j := 2) (q := 13) rfl eL_0_11 rfl rfl rfl (by decide +kernel) ?_
      refine ef_alen (k := 13) rfl (by decide) (by decide +kernel) ?_
      refine es_ige (tgt := 128) (off := (60)) (by decide +kernel) (by decide) (fun h12 => ?_) (fun h12 => ?_)
      · refine es_blk (pc' := 72) (L' := [some (.ref 12), some (.ref 2), some (.int x1), some (.int x2), some (.int t7.1)]) (st' := [.ref 12]) [(.aload_n 0, 0)] (by decide +kernel) rfl rfl ?_
        refine ef_getP (k := 12) (j := 3) (q := 14) rfl eL_0_15 rfl rfl rfl (by decide +kernel) ?_
        refine es_blk (pc' := 76) (L' := [some (.ref 12), some (.ref 2), some (.int x1), some (.int x2), some (.int t7.1)]) (st' := [.int 0, .ref 14]) [(.iconst 0, 0)] (by decide +kernel) rfl rfl ?_
        refine ef_aldc (k := 14) (j := 0) rfl (Or.inr ⟨Or.inr rfl, rfl⟩) (by decide) rfl (by decide +kernel) ?_
        refine ef_J (X := fun j13 => ∀ (s14 : eh_F), eh_Sim g eM_0_carryOutFirst (eh_R 3 0 0) eh_eV 0 0 122 [some (.ref 12), some (.ref 2), some (.int x1), some (.int x2), some (.int t7.1)] [] (eh_FW s14) ((j13 s14).bind K9)) ?_ (fun j13 Hj13 => ?_)
        · intro s14
          refine es_blk (pc' := 125) (L' := [some (.ref 12), some (.ref 2), some (.int x1), some (.int x2), some (.int (t7.1 + 1))]) (st' := []) [(.iinc 4 1, 1)] (by decide +kernel) rfl rfl ?_
          refine ef_V (fun x15 => [some (.ref 12), some (.ref 2), some (.int x1), some (.int x2), some (.int x15)]) (fun _ => []) (fun _ => eh_FW s14) (fun x15 => ?_)
          refine es_goto (tgt := 52) (off := (-73)) (by decide +kernel) (by decide) ?_
          exact Hr10 (x15, s14)
        refine es_eq (tgt := 102) (off := (25)) (by decide +kernel) (by decide) (fun h16 => ?_) (fun h16 => ?_)
        · refine es_blk (pc' := 110) (L' := [some (.ref 12), some (.ref 2), some (.int x1), some (.int x2), some (.int t7.1)]) (st' := [.ref 12, .int (x1 + (4 * t7.1)), .ref 2]) [(.aload_n 1, 0), (.iload_n 2, 0), (.iconst 4, 4), (.iload 4, 0), (.imul, 0), (.iadd, 0), (.aload_n 0, 0)] (by decide +kernel) rfl rfl ?_
          refine ef_getP (k := 12) (j := 2) (q := 13) rfl eL_0_11 rfl rfl rfl (by decide +kernel) ?_
          refine es_blk (pc' := 117) (L' := [some (.ref 12), some (.ref 2), some (.int x1), some (.int x2), some (.int t7.1)]) (st' := [.int (x2 + t7.1), .ref 13, .int (x1 + (4 * t7.1)), .ref 2]) [(.iload_n 3, 0), (.iload 4, 0), (.iadd, 0)] (by decide +kernel) rfl rfl ?_
          refine ef_ald (k := 13) rfl (Or.inl ⟨rfl, rfl⟩) (by decide +kernel) (fun _ => ?_)
          refine es_blk (pc' := 119) (L' := [some (.ref 12), some (.ref 2), some (.int x1), some (.int x2), some (.int t7.1)]) (st' := [.int 4, .int (t7.2.1 13 (eh_ix (x2 + t7.1))), .int (x1 + (4 * t7.1)), .ref 2]) [(.iconst 4, 4)] (by decide +kernel) rfl rfl ?_
          refine ef_veV (d := 2) (k := 2) (As := [.int (x1 + (4 * t7.1)), .int (t7.2.1 13 (eh_ix (x2 + t7.1))), .int 4]) (st := []) eV_6_store eK_0_92 (eS_6_store g t7.2 (x1 + (4 * t7.1)) (t7.2.1 13 (eh_ix (x2 + t7.1))) 4) rfl rfl (Nat.le_of_ble_eq_true rfl) rfl (Nat.le_of_ble_eq_true rfl) ⟨Nat.le_of_ble_eq_true rfl, Nat.le_of_ble_eq_true rfl⟩ ⟨Nat.le_refl _, Nat.le_refl _⟩ (by decide +kernel) (fun q17 _ => ?_)
          exact Hj13 _
        refine es_blk (pc' := 81) (L' := [some (.ref 12), some (.ref 2), some (.int x1), some (.int x2), some (.int t7.1)]) (st' := [.ref 12]) [(.aload_n 0, 0)] (by decide +kernel) rfl rfl ?_
        refine ef_getP (k := 12) (j := 2) (q := 13) rfl eL_0_11 rfl rfl rfl (by decide +kernel) ?_
        refine es_blk (pc' := 95) (L' := [some (.ref 12), some (.ref 2), some (.int x1), some (.int x2), some (.int t7.1)]) (st' := [.int (x1 + (4 * t7.1)), .ref 2, .int (x2 + t7.1), .ref 13]) [(.iload_n 3, 0), (.iload 4, 0), (.iadd, 0), (.aload_n 1, 0), (.iload_n 2, 0), (.iconst 4, 4), (.iload 4, 0), (.imul, 0), (.iadd, 0)] (by decide +kernel) rfl rfl ?_
        refine ef_vpI (d := 1) (k := 2) (As := [.int (x1 + (4 * t7.1))]) (st := [.int (x2 + t7.1), .ref 13]) eV_6_wordAt eK_0_88 (eS_6_wordAt g t7.2 (x1 + (4 * t7.1))) rfl rfl (Nat.le_of_ble_eq_true rfl) rfl (Nat.le_of_ble_eq_true rfl) ⟨Nat.le_of_ble_eq_true rfl, Nat.le_of_ble_eq_true rfl⟩ ⟨Nat.le_refl _, Nat.le_refl _⟩ (by decide +kernel) (fun q18 _ => ?_)
        refine ef_ast (k := 13) rfl (by decide +kernel) (fun _ => ?_)
        refine ef_V (fun _ => [some (.ref 12), some (.ref 2), some (.int x1), some (.int x2), some (.int t7.1)]) (fun _ => []) (fun s19 => eh_FW s19) (fun s19 => ?_)
        refine es_goto (tgt := 122) (off := (23)) (by decide +kernel) (by decide) ?_
        exact Hj13 _
      refine ef_drop (L2 := [none, none, none, none, none]) [false, false, false, false, false] rfl rfl ?_
      exact HxK9_0 t7.2
    refine ef_drop (L2 := [none, none, none, none, none]) [false, false, false, false, false] rfl rfl ?_
    exact HxK9_0 t7.2
def eF_1_make (s : eh_F) (th : Nat) (p0 : Int32) (p1 : Int32) : Option (eh_F) := eh_V (eh_tI s th 5 1) (fun s1 => eh_V (eh_tI s1 th 6 p0) (fun s2 => eh_V (eh_tI s2 th 7 (-1)) (fun s3 => eh_V (eh_tI s3 th 8 ((s3.1 th 8) + 1)) (fun s4 => eh_V (eh_tI s4 th 9 0) (fun s5 => eh_V (eh_tI s5 th 10 0) (fun s6 => eh_V (eh_tI s6 th 11 0) (fun s7 => Option.bind (eF_9_begin s7 (th + 1)) (fun q8 => Option.bind (eF_9_feedNumber q8 (th + 1) 1) (fun q9 => Option.bind (eF_9_feedNumber q9 (th + 1) p1) (fun q10 => some q10))))))))))
set_option maxHeartbeats 4000000 in
set_option maxRecDepth 100000 in
theorem eS_1_make (g : eh_P) (s : eh_F) (th : Nat) (p0 : Int32) (p1 : Int32) (hth : eh_okE th = true) : eh_Sim g eM_1_make (eh_R 3 0 0) eh_eV 0 0 0 (eh_en 3 [.ref th, .int p0, .int p1]) [] (eh_FW s) (eF_1_make s th p0 p1) := by
  unfold eF_1_make
  refine ef_top (L := [some (.ref th), some (.int p0), some (.int p1)]) rfl ?_
  refine es_blk (pc' := 2) (L' := [some (.ref th), some (.int p0), some (.int p1)]) (st' := [.int 1, .ref th]) [(.aload_n 0, 0), (.iconst 1, 1)] (by decide +kernel) rfl rfl ?_
  refine ef_putI (k := th) (j := 5) (eh_E0sh hth) eL_1_31 rfl rfl (by decide +kernel) ?_
  refine ef_V (fun _ => [some (.ref th), some (.int p0), some (.int p1)]) (fun _ => []) (fun s1 => eh_FW s1) (fun s1 => ?_)
  refine es_blk (pc' := 7) (L' := [some (.ref th), some (.int p0), some (.int p1)]) (st' := [.int p0, .ref th]) [(.aload_n 0, 0), (.iload_n 1, 0)] (by decide +kernel) rfl rfl ?_
  refine ef_putI (k := th) (j := 6) (eh_E0sh hth) eL_1_35 rfl rfl (by decide +kernel) ?_
  refine ef_V (fun _ => [some (.ref th), some (.int p0), some (.int p1)]) (fun _ => []) (fun s2 => eh_FW s2) (fun s2 => ?_)
  refine es_blk (pc' := 12) (L' := [some (.ref th), some (.int p0), some (.int p1)]) (st' := [.int (-1), .ref th]) [(.aload_n 0, 0), (.iconst (-1), (-1))] (by decide +kernel) rfl rfl ?_
  refine ef_putI (k := th) (j := 7) (eh_E0sh hth) eL_1_38 rfl rfl (by decide +kernel) ?_
  refine ef_V (fun _ => [some (.ref th), some (.int p0), some (.int p1)]) (fun _ => []) (fun s3 => eh_FW s3) (fun s3 => ?_)
  refine es_blk (pc' := 17) (L' := [some (.ref th), some (.int p0), some (.int p1)]) (st' := [.ref th, .ref th]) [(.aload_n 0, 0), (.dup, 0)] (by decide +kernel) rfl rfl ?_
  refine ef_getI (k := th) (j := 8) (eh_E0sh hth) eL_1_41 (by decide) (by decide +kernel) ?_
  refine es_blk (pc' := 22) (L' := [some (.ref th), some (.int p0), some (.int p1)]) (st' := [.int ((s3.1 th 8) + 1), .ref th]) [(.iconst 1, 1), (.iadd, 0)] (by decide +kernel) rfl rfl ?_
  refine ef_putI (k := th) (j := 8) (eh_E0sh hth) eL_1_41 rfl rfl (by decide +kernel) ?_
  refine ef_V (fun _ => [some (.ref th), some (.int p0), some (.int p1)]) (fun _ => []) (fun s4 => eh_FW s4) (fun s4 => ?_)
  refine es_blk (pc' := 27) (L' := [some (.ref th), some (.int p0), some (.int p1)]) (st' := [.int 0, .ref th]) [(.aload_n 0, 0), (.iconst 0, 0)] (by decide +kernel) rfl rfl ?_
  refine ef_putI (k := th) (j := 9) (eh_E0sh hth) eL_1_44 rfl rfl (by decide +kernel) ?_
  refine ef_V (fun _ => [some (.ref th), some (.int p0), some (.int p1)]) (fun _ => []) (fun s5 => eh_FW s5) (fun s5 => ?_)
  refine es_blk (pc' := 32) (L' := [some (.ref th), some (.int p0), some (.int p1)]) (st' := [.int 0, .ref th]) [(.aload_n 0, 0), (.iconst 0, 0)] (by decide +kernel) rfl rfl ?_
  refine ef_putI (k := th) (j := 10) (eh_E0sh hth) eL_1_47 rfl rfl (by decide +kernel) ?_
  refine ef_V (fun _ => [some (.ref th), some (.int p0), some (.int p1)]) (fun _ => []) (fun s6 => eh_FW s6) (fun s6 => ?_)
  refine es_blk (pc' := 37) (L' := [some (.ref th), some (.int p0), some (.int p1)]) (st' := [.int 0, .ref th]) [(.aload_n 0, 0), (.iconst 0, 0)] (by decide +kernel) rfl rfl ?_
  refine ef_putZc (k := th) (j := 11) (eh_E0sh hth) eL_1_50 rfl rfl (by decide) (by decide +kernel) ?_
  refine ef_V (fun _ => [some (.ref th), some (.int p0), some (.int p1)]) (fun _ => []) (fun s7 => eh_FW s7) (fun s7 => ?_)
  refine es_blk (pc' := 41) (L' := [some (.ref th), some (.int p0), some (.int p1)]) (st' := [.ref th]) [(.aload_n 0, 0)] (by decide +kernel) rfl rfl ?_
  refine ef_getP (k := th) (j := 0) (q := (th + 1)) (eh_E0sh hth) eL_1_12 rfl (eh_Ex hth _).1 (eh_S0sh (eh_E1S hth)) (by decide +kernel) ?_
  refine ef_veV (d := 1) (k := (th + 1)) (As := []) (st := []) eV_9_begin eK_1_54 (eS_9_begin g s7 (th + 1) (eh_E1S hth)) (eh_S0sh (eh_E1S hth)) rfl (Nat.le_of_ble_eq_true rfl) rfl (Nat.le_of_ble_eq_true rfl) ⟨Nat.le_of_ble_eq_true rfl, Nat.le_of_ble_eq_true rfl⟩ ⟨Nat.le_refl _, Nat.le_refl _⟩ (by decide +kernel) (fun q8 _ => ?_)
  refine es_blk (pc' := 48) (L' := [some (.ref th), some (.int p0), some (.int p1)]) (st' := [.ref th]) [(.aload_n 0, 0)] (by decide +kernel) rfl rfl ?_
  refine ef_getP (k := th) (j := 0) (q := (th + 1)) (eh_E0sh hth) eL_1_12 rfl (eh_Ex hth _).1 (eh_S0sh (eh_E1S hth)) (by decide +kernel) ?_
  refine es_blk (pc' := 52) (L' := [some (.ref th), some (.int p0), some (.int p1)]) (st' := [.int 1, .ref (th + 1)]) [(.iconst 1, 1)] (by decide +kernel) rfl rfl ?_
  refine ef_veV (d := 2) (k := (th + 1)) (As := [.int 1]) (st := []) eV_9_feedNumber eK_1_57 (eS_9_feedNumber g q8 (th + 1) 1 (eh_E1S hth)) (eh_S0sh (eh_E1S hth)) rfl (Nat.le_of_ble_eq_true rfl) rfl (Nat.le_of_ble_eq_true rfl) ⟨Nat.le_of_ble_eq_true rfl, Nat.le_of_ble_eq_true rfl⟩ ⟨Nat.le_refl _, Nat.le_refl _⟩ (by decide +kernel) (fun q9 _ => ?_)
  refine es_blk (pc' := 56) (L' := [some (.ref th), some (.int p0), some (.int p1)]) (st' := [.ref th]) [(.aload_n 0, 0)] (by decide +kernel) rfl rfl ?_
  refine ef_getP (k := th) (j := 0) (q := (th + 1)) (eh_E0sh hth) eL_1_12 rfl (eh_Ex hth _).1 (eh_S0sh (eh_E1S hth)) (by decide +kernel) ?_
  refine es_blk (pc' := 60) (L' := [some (.ref th), some (.int p0), some (.int p1)]) (st' := [.int p1, .ref (th + 1)]) [(.iload_n 2, 0)] (by decide +kernel) rfl rfl ?_
  refine ef_veV (d := 2) (k := (th + 1)) (As := [.int p1]) (st := []) eV_9_feedNumber eK_1_57 (eS_9_feedNumber g q9 (th + 1) p1 (eh_E1S hth)) (eh_S0sh (eh_E1S hth)) rfl (Nat.le_of_ble_eq_true rfl) rfl (Nat.le_of_ble_eq_true rfl) ⟨Nat.le_of_ble_eq_true rfl, Nat.le_of_ble_eq_true rfl⟩ ⟨Nat.le_refl _, Nat.le_refl _⟩ (by decide +kernel) (fun q10 _ => ?_)
  exact es_ret rfl rfl rfl ⟨by decide +kernel, rfl⟩ (Nat.le_refl _) (Nat.le_refl _)
def eF_1_finish (s : eh_F) (th : Nat) (p0 : Int32) : Option (eh_F) := Option.bind (eF_9_feedNumber s (th + 1) 4) (fun q1 => Option.bind (eF_9_feedNumber q1 (th + 1) p0) (fun q2 => Option.bind (eF_9_end q2 (th + 1) (th + 5) 8) (fun q3 => Option.bind (eF_23_fill q3 (th + 6) 8 0) (fun q4 => eh_V (eh_tI q4 th 7 p0) (fun s5 => eh_V (eh_tI s5 th 5 2) (fun s6 => some s6))))))
set_option maxHeartbeats 4000000 in
set_option maxRecDepth 100000 in
theorem eS_1_finish (g : eh_P) (s : eh_F) (th : Nat) (p0 : Int32) (hth : eh_okE th = true) : eh_Sim g eM_1_finish (eh_R 3 0 0) eh_eV 0 0 0 (eh_en 2 [.ref th, .int p0]) [] (eh_FW s) (eF_1_finish s th p0) := by
  unfold eF_1_finish
  refine ef_top (L := [some (.ref th), some (.int p0)]) rfl ?_
  refine es_blk (pc' := 1) (L' := [some (.ref th), some (.int p0)]) (st' := [.ref th]) [(.aload_n 0, 0)] (by decide +kernel) rfl rfl ?_
  refine ef_getP (k := th) (j := 0) (q := (th + 1)) (eh_E0sh hth) eL_1_12 rfl (eh_Ex hth _).1 (eh_S0sh (eh_E1S hth)) (by decide +kernel) ?_
  refine es_blk (pc' := 5) (L' := [some (.ref th), some (.int p0)]) (st' := [.int 4, .ref (th + 1)]) [(.iconst 4, 4)] (by decide +kernel) rfl rfl ?_
  refine ef_veV (d := 2) (k := (th + 1)) (As := [.int 4]) (st := []) eV_9_feedNumber eK_1_57 (eS_9_feedNumber g s (th + 1) 4 (eh_E1S hth)) (eh_S0sh (eh_E1S hth)) rfl (Nat.le_of_ble_eq_true rfl) rfl (Nat.le_of_ble_eq_true rfl) ⟨Nat.le_of_ble_eq_true rfl, Nat.le_of_ble_eq_true rfl⟩ ⟨Nat.le_refl _, Nat.le_refl _⟩ (by decide +kernel) (fun q1 _ => ?_)
  refine es_blk (pc' := 9) (L' := [some (.ref th), some (.int p0)]) (st' := [.ref th]) [(.aload_n 0, 0)] (by decide +kernel) rfl rfl ?_
  refine ef_getP (k := th) (j := 0) (q := (th + 1)) (eh_E0sh hth) eL_1_12 rfl (eh_Ex hth _).1 (eh_S0sh (eh_E1S hth)) (by decide +kernel) ?_
  refine es_blk (pc' := 13) (L' := [some (.ref th), some (.int p0)]) (st' := [.int p0, .ref (th + 1)]) [(.iload_n 1, 0)] (by decide +kernel) rfl rfl ?_
  refine ef_veV (d := 2) (k := (th + 1)) (As := [.int p0]) (st := []) eV_9_feedNumber eK_1_57 (eS_9_feedNumber g q1 (th + 1) p0 (eh_E1S hth)) (eh_S0sh (eh_E1S hth)) rfl (Nat.le_of_ble_eq_true rfl) rfl (Nat.le_of_ble_eq_true rfl) ⟨Nat.le_of_ble_eq_true rfl, Nat.le_of_ble_eq_true rfl⟩ ⟨Nat.le_refl _, Nat.le_refl _⟩ (by decide +kernel) (fun q2 _ => ?_)
  refine es_blk (pc' := 17) (L' := [some (.ref th), some (.int p0)]) (st' := [.ref th]) [(.aload_n 0, 0)] (by decide +kernel) rfl rfl ?_
  refine ef_getP (k := th) (j := 0) (q := (th + 1)) (eh_E0sh hth) eL_1_12 rfl (eh_Ex hth _).1 (eh_S0sh (eh_E1S hth)) (by decide +kernel) ?_
  refine es_blk (pc' := 21) (L' := [some (.ref th), some (.int p0)]) (st' := [.ref th, .ref (th + 1)]) [(.aload_n 0, 0)] (by decide +kernel) rfl rfl ?_
  refine ef_getP (k := th) (j := 1) (q := (th + 5)) (eh_E0sh hth) eL_1_18 rfl (eh_Ex hth _).2.1 (eh_E5sh hth) (by decide +kernel) ?_
  refine ef_veV (d := 2) (k := (th + 1)) (As := [.ref (th + 5)]) (st := []) eV_9_end eK_1_61 (eS_9_end g q2 (th + 1) (th + 5) 8 (eh_E1S hth) (eh_E5sh hth)) (eh_S0sh (eh_E1S hth)) rfl (Nat.le_of_ble_eq_true rfl) rfl (Nat.le_of_ble_eq_true rfl) ⟨Nat.le_of_ble_eq_true rfl, Nat.le_of_ble_eq_true rfl⟩ ⟨Nat.le_refl _, Nat.le_refl _⟩ (by decide +kernel) (fun q3 _ => ?_)
  refine es_blk (pc' := 28) (L' := [some (.ref th), some (.int p0)]) (st' := [.ref th]) [(.aload_n 0, 0)] (by decide +kernel) rfl rfl ?_
  refine ef_getP (k := th) (j := 2) (q := (th + 6)) (eh_E0sh hth) eL_1_22 rfl (eh_Ex hth _).2.2.1 (eh_E6sh hth) (by decide +kernel) ?_
  refine es_blk (pc' := 32) (L' := [some (.ref th), some (.int p0)]) (st' := [.int 0, .ref (th + 6)]) [(.iconst 0, 0)] (by decide +kernel) rfl rfl ?_
  refine ef_seV (d := 1) (As := [.ref (th + 6), .int 0]) (st := []) eV_23_fill eK_1_65 (eS_23_fill g q3 (th + 6) 8 0 (eh_E6sh hth)) rfl (Nat.le_of_ble_eq_true rfl) rfl (Nat.le_of_ble_eq_true rfl) ⟨Nat.le_of_ble_eq_true rfl, Nat.le_of_ble_eq_true rfl⟩ ⟨Nat.le_refl _, Nat.le_refl _⟩ (by decide +kernel) (fun q4 _ => ?_)
  refine es_blk (pc' := 37) (L' := [some (.ref th), some (.int p0)]) (st' := [.int p0, .ref th]) [(.aload_n 0, 0), (.iload_n 1, 0)] (by decide +kernel) rfl rfl ?_
  refine ef_putI (k := th) (j := 7) (eh_E0sh hth) eL_1_38 rfl rfl (by decide +kernel) ?_
  refine ef_V (fun _ => [some (.ref th), some (.int p0)]) (fun _ => []) (fun s5 => eh_FW s5) (fun s5 => ?_)
  refine es_blk (pc' := 42) (L' := [some (.ref th), some (.int p0)]) (st' := [.int 2, .ref th]) [(.aload_n 0, 0), (.iconst 2, 2)] (by decide +kernel) rfl rfl ?_
  refine ef_putI (k := th) (j := 5) (eh_E0sh hth) eL_1_31 rfl rfl (by decide +kernel) ?_
  refine ef_V (fun _ => [some (.ref th), some (.int p0)]) (fun _ => []) (fun s6 => eh_FW s6) (fun s6 => ?_)
  exact es_ret rfl rfl rfl ⟨by decide +kernel, rfl⟩ (Nat.le_refl _) (Nat.le_refl _)
def eF_2_make (s : eh_F) (th : Nat) (p0 : Int32) (p1 : Int32) (p2 : Int32) : Option (eh_F) := eh_V (eh_tI s th 3 p0) (fun s1 => eh_V (eh_tI s1 th 4 p1) (fun s2 => eh_V (eh_tI s2 th 5 p2) (fun s3 => eh_V (eh_tI s3 th 6 1) (fun s4 => eh_V (eh_tI s4 th 7 (-1)) (fun s5 => Option.bind (eF_2_clear s5 th) (fun q6 => some q6))))))
set_option maxHeartbeats 4000000 in
set_option maxRecDepth 100000 in
theorem eS_2_make (g : eh_P) (s : eh_F) (th : Nat) (p0 : Int32) (p1 : Int32) (p2 : Int32) (hth : eh_okF th = true) : eh_Sim g eM_2_make (eh_R 3 0 0) eh_eV 0 0 0 (eh_en 4 [.ref th, .int p0, .int p1, .int p2]) [] (eh_FW s) (eF_2_make s th p0 p1 p2) := by
  unfold eF_2_make
  refine ef_top (L := [some (.ref th), some (.int p0), some (.int p1), some (.int p2)]) rfl ?_
  refine es_blk (pc' := 2) (L' := [some (.ref th), some (.int p0), some (.int p1), some (.int p2)]) (st' := [.int p0, .ref th]) [(.aload_n 0, 0), (.iload_n 1, 0)] (by decide +kernel) rfl rfl ?_
  refine ef_putI (k := th) (j := 3) (eh_F0sh hth) eL_2_19 rfl rfl (by decide +kernel) ?_
  refine ef_V (fun _ => [some (.ref th), some (.int p0), some (.int p1), some (.int p2)]) (fun _ => []) (fun s1 => eh_FW s1) (fun s1 => ?_)
  refine es_blk (pc' := 7) (L' := [some (.ref th), some (.int p0), some (.int p1), some (.int p2)]) (st' := [.int p1, .ref th]) [(.aload_n 0, 0), (.iload_n 2, 0)] (by decide +kernel) rfl rfl ?_
  refine ef_putI (k := th) (j := 4) (eh_F0sh hth) eL_2_22 rfl rfl (by decide +kernel) ?_
  refine ef_V (fun _ => [some (.ref th), some (.int p0), some (.int p1), some (.int p2)]) (fun _ => []) (fun s2 => eh_FW s2) (fun s2 => ?_)
  refine es_blk (pc' := 12) (L' := [some (.ref th), some (.int p0), some (.int p1), some (.int p2)]) (st' := [.int p2, .ref th]) [(.aload_n 0, 0), (.iload_n 3, 0)] (by decide +kernel) rfl rfl ?_
  refine ef_putI (k := th) (j := 5) (eh_F0sh hth) eL_2_25 rfl rfl (by decide +kernel) ?_
  refine ef_V (fun _ => [some (.ref th), some (.int p0), some (.int p1), some (.int p2)]) (fun _ => []) (fun s3 => eh_FW s3) (fun s3 => ?_)
  refine es_blk (pc' := 17) (L' := [some (.ref th), some (.int p0), some (.int p1), some (.int p2)]) (st' := [.int 1, .ref th]) [(.aload_n 0, 0), (.iconst 1, 1)] (by decide +kernel) rfl rfl ?_
  refine ef_putI (k := th) (j := 6) (eh_F0sh hth) eL_2_28 rfl rfl (by decide +kernel) ?_
  refine ef_V (fun _ => [some (.ref th), some (.int p0), some (.int p1), some (.int p2)]) (fun _ => []) (fun s4 => eh_FW s4) (fun s4 => ?_)
  refine es_blk (pc' := 22) (L' := [some (.ref th), some (.int p0), some (.int p1), some (.int p2)]) (st' := [.int (-1), .ref th]) [(.aload_n 0, 0), (.iconst (-1), (-1))] (by decide +kernel) rfl rfl ?_
  refine ef_putI (k := th) (j := 7) (eh_F0sh hth) eL_2_31 rfl rfl (by decide +kernel) ?_
  refine ef_V (fun _ => [some (.ref th), some (.int p0), some (.int p1), some (.int p2)]) (fun _ => []) (fun s5 => eh_FW s5) (fun s5 => ?_)
  refine es_blk (pc' := 26) (L' := [some (.ref th), some (.int p0), some (.int p1), some (.int p2)]) (st' := [.ref th]) [(.aload_n 0, 0)] (by decide +kernel) rfl rfl ?_
  refine ef_veV (d := 2) (k := th) (As := []) (st := []) eV_2_clear eK_2_34 (eS_2_clear g s5 th hth) (eh_F0sh hth) rfl (Nat.le_of_ble_eq_true rfl) rfl (Nat.le_of_ble_eq_true rfl) ⟨Nat.le_of_ble_eq_true rfl, Nat.le_of_ble_eq_true rfl⟩ ⟨Nat.le_refl _, Nat.le_refl _⟩ (by decide +kernel) (fun q6 _ => ?_)
  exact es_ret rfl rfl rfl ⟨by decide +kernel, rfl⟩ (Nat.le_refl _) (Nat.le_refl _)
def eF_2_enter (s : eh_F) (th : Nat) (p0 : Int32) (p1 : Int32) (p2 : Int32) : Option (eh_F) := Option.bind (eF_2_clear s th) (fun q1 => eh_V (eh_tI q1 (th + 1) 2 (p0 + (q1.1 th 5))) (fun s2 => eh_V (eh_tI s2 (th + 1) 10 p1) (fun s3 => eh_V (eh_tI s3 (th + 1) 11 p2) (fun s4 => eh_V (eh_tI s4 th 2 (p0 + (s4.1 th 4))) (fun s5 => some s5)))))
set_option maxHeartbeats 4000000 in
set_option maxRecDepth 100000 in
theorem eS_2_enter (g : eh_P) (s : eh_F) (th : Nat) (p0 : Int32) (p1 : Int32) (p2 : Int32) (hth : eh_okF th = true) : eh_Sim g eM_2_enter (eh_R 3 0 0) eh_eV 0 0 0 (eh_en 4 [.ref th, .int p0, .int p1, .int p2]) [] (eh_FW s) (eF_2_enter s th p0 p1 p2) := by
  unfold eF_2_enter
  refine ef_top (L := [some (.ref th), some (.int p0), some (.int p1), some (.int p2)]) rfl ?_
  refine es_blk (pc' := 1) (L' := [some (.ref th), some (.int p0), some (.int p1), some (.int p2)]) (st' := [.ref th]) [(.aload_n 0, 0)] (by decide +kernel) rfl rfl ?_
  refine ef_veV (d := 2) (k := th) (As := []) (st := []) eV_2_clear eK_2_34 (eS_2_clear g s th hth) (eh_F0sh hth) rfl (Nat.le_of_ble_eq_true rfl) rfl (Nat.le_of_ble_eq_true rfl) ⟨Nat.le_of_ble_eq_true rfl, Nat.le_of_ble_eq_true rfl⟩ ⟨Nat.le_refl _, Nat.le_refl _⟩ (by decide +kernel) (fun q1 _ => ?_)
  refine es_blk (pc' := 5) (L' := [some (.ref th), some (.int p0), some (.int p1), some (.int p2)]) (st' := [.ref th]) [(.aload_n 0, 0)] (by decide +kernel) rfl rfl ?_
  refine ef_getP (k := th) (j := 1) (q := (th + 1)) (eh_F0sh hth) eL_2_9 rfl (eh_Fx hth _) (eh_F1sh hth) (by decide +kernel) ?_
  refine es_blk (pc' := 11) (L' := [some (.ref th), some (.int p0), some (.int p1), some (.int p2)]) (st' := [.ref th, .int p0, .int 2, .ref (th + 1)]) [(.iconst 2, 2), (.iload_n 1, 0), (.aload_n 0, 0)] (by decide +kernel) rfl rfl ?_
  refine ef_getI (k := th) (j := 5) (eh_F0sh hth) eL_2_25 (by decide) (by decide +kernel) ?_
  refine es_blk (pc' := 15) (L' := [some (.ref th), some (.int p0), some (.int p1), some (.int p2)]) (st' := [.int (p0 + (q1.1 th 5)), .int 2, .ref (th + 1)]) [(.iadd, 0)] (by decide +kernel) rfl rfl ?_
  refine ef_astc (k := (th + 1)) (j := 2) (eh_F1sh hth) (by decide) rfl (by decide +kernel) ?_
  refine ef_V (fun _ => [some (.ref th), some (.int p0), some (.int p1), some (.int p2)]) (fun _ => []) (fun s2 => eh_FW s2) (fun s2 => ?_)
  refine es_blk (pc' := 17) (L' := [some (.ref th), some (.int p0), some (.int p1), some (.int p2)]) (st' := [.ref th]) [(.aload_n 0, 0)] (by decide +kernel) rfl rfl ?_
  refine ef_getP (k := th) (j := 1) (q := (th + 1)) (eh_F0sh hth) eL_2_9 rfl (eh_Fx hth _) (eh_F1sh hth) (by decide +kernel) ?_
  refine es_blk (pc' := 23) (L' := [some (.ref th), some (.int p0), some (.int p1), some (.int p2)]) (st' := [.int p1, .int 10, .ref (th + 1)]) [(.bipush 10, 10), (.iload_n 2, 0)] (by decide +kernel) rfl rfl ?_
  refine ef_astc (k := (th + 1)) (j := 10) (eh_F1sh hth) (by decide) rfl (by decide +kernel) ?_
  refine ef_V (fun _ => [some (.ref th), some (.int p0), some (.int p1), some (.int p2)]) (fun _ => []) (fun s3 => eh_FW s3) (fun s3 => ?_)
  refine es_blk (pc' := 25) (L' := [some (.ref th), some (.int p0), some (.int p1), some (.int p2)]) (st' := [.ref th]) [(.aload_n 0, 0)] (by decide +kernel) rfl rfl ?_
  refine ef_getP (k := th) (j := 1) (q := (th + 1)) (eh_F0sh hth) eL_2_9 rfl (eh_Fx hth _) (eh_F1sh hth) (by decide +kernel) ?_
  refine es_blk (pc' := 31) (L' := [some (.ref th), some (.int p0), some (.int p1), some (.int p2)]) (st' := [.int p2, .int 11, .ref (th + 1)]) [(.bipush 11, 11), (.iload_n 3, 0)] (by decide +kernel) rfl rfl ?_
  refine ef_astc (k := (th + 1)) (j := 11) (eh_F1sh hth) (by decide) rfl (by decide +kernel) ?_
  refine ef_V (fun _ => [some (.ref th), some (.int p0), some (.int p1), some (.int p2)]) (fun _ => []) (fun s4 => eh_FW s4) (fun s4 => ?_)
  refine es_blk (pc' := 35) (L' := [some (.ref th), some (.int p0), some (.int p1), some (.int p2)]) (st' := [.ref th, .int p0, .ref th]) [(.aload_n 0, 0), (.iload_n 1, 0), (.aload_n 0, 0)] (by decide +kernel) rfl rfl ?_
  refine ef_getI (k := th) (j := 4) (eh_F0sh hth) eL_2_22 (by decide) (by decide +kernel) ?_
  refine es_blk (pc' := 39) (L' := [some (.ref th), some (.int p0), some (.int p1), some (.int p2)]) (st' := [.int (p0 + (s4.1 th 4)), .ref th]) [(.iadd, 0)] (by decide +kernel) rfl rfl ?_
  refine ef_putI (k := th) (j := 2) (eh_F0sh hth) eL_2_37 rfl rfl (by decide +kernel) ?_
  refine ef_V (fun _ => [some (.ref th), some (.int p0), some (.int p1), some (.int p2)]) (fun _ => []) (fun s5 => eh_FW s5) (fun s5 => ?_)
  exact es_ret rfl rfl rfl ⟨by decide +kernel, rfl⟩ (Nat.le_refl _) (Nat.le_refl _)
def eF_3_leave (s : eh_F) (p0 : Nat) (p1 : Nat) (p2 : Int32) (p3 : Int32) (p4 : Int32) : Option (eh_F) := eh_V ((s.1 (p1 + 1) 10) : Int32) (fun x1 => Option.bind (eF_5_note s p2 p1 x1 0 0) (fun q2 => eh_V (eh_tI q2 p1 2 ((q2.1 p1 2) + 4)) (fun s3 => Option.bind (eF_5_cease s3 p0 p1 p3 p4 x1) (fun q4 => some q4))))
set_option maxHeartbeats 4000000 in
set_option maxRecDepth 100000 in
theorem eS_3_leave (g : eh_P) (s : eh_F) (p0 : Nat) (p1 : Nat) (p2 : Int32) (p3 : Int32) (p4 : Int32) (hp0 : eh_okH p0 = true) (hp1 : eh_okF p1 = true) : eh_Sim g eM_3_leave (eh_R 3 0 0) eh_eV 0 0 0 (eh_en 7 [.ref 125, .ref p0, .ref p1, .int p2, .int p3, .int p4]) [] (eh_FW s) (eF_3_leave s p0 p1 p2 p3 p4) := by
  unfold eF_3_leave
  refine ef_top (L := [some (.ref 125), some (.ref p0), some (.ref p1), some (.int p2), some (.int p3), some (.int p4), none]) rfl ?_
  refine es_blk (pc' := 1) (L' := [some (.ref 125), some (.ref p0), some (.ref p1), some (.int p2), some (.int p3), some (.int p4), none]) (st' := [.ref p1]) [(.aload_n 2, 0)] (by decide +kernel) rfl rfl ?_
  refine ef_getP (k := p1) (j := 1) (q := (p1 + 1)) (eh_F0sh hp1) eL_3_31 rfl (eh_Fx hp1 _) (eh_F1sh hp1) (by decide +kernel) ?_
  refine es_blk (pc' := 6) (L' := [some (.ref 125), some (.ref p0), some (.ref p1), some (.int p2), some (.int p3), some (.int p4), none]) (st' := [.int 10, .ref (p1 + 1)]) [(.bipush 10, 10)] (by decide +kernel) rfl rfl ?_
  refine ef_aldc (k := (p1 + 1)) (j := 10) (eh_F1sh hp1) (Or.inl ⟨rfl, rfl⟩) (by decide) rfl (by decide +kernel) ?_
  refine es_blk (pc' := 9) (L' := [some (.ref 125), some (.ref p0), some (.ref p1), some (.int p2), some (.int p3), some (.int p4), some (.int (s.1 (p1 + 1) 10))]) (st' := []) [(.istore 6, 0)] (by decide +kernel) rfl rfl ?_
  refine ef_V (fun x1 => [some (.ref 125), some (.ref p0), some (.ref p1), some (.int p2), some (.int p3), some (.int p4), some (.int x1)]) (fun _ => []) (fun _ => eh_FW s) (fun x1 => ?_)
  refine es_blk (pc' := 10) (L' := [some (.ref 125), some (.ref p0), some (.ref p1), some (.int p2), some (.int p3), some (.int p4), some (.int x1)]) (st' := [.ref 125]) [(.aload_n 0, 0)] (by decide +kernel) rfl rfl ?_
  refine ef_getP (k := 125) (j := 0) (q := 1) rfl eL_3_15 rfl rfl rfl (by decide +kernel) ?_
  refine es_blk (pc' := 19) (L' := [some (.ref 125), some (.ref p0), some (.ref p1), some (.int p2), some (.int p3), some (.int p4), some (.int x1)]) (st' := [.int 0, .int 0, .int x1, .ref p1, .int p2, .ref 1]) [(.iload_n 3, 0), (.aload_n 2, 0), (.iload 6, 0), (.iconst 0, 0), (.iconst 0, 0)] (by decide +kernel) rfl rfl ?_
  refine ef_veV (d := 1) (k := 1) (As := [.int p2, .ref p1, .int x1, .int 0, .int 0]) (st := []) eV_5_note eK_3_111 (eS_5_note g s p2 p1 x1 0 0 hp1) rfl rfl (Nat.le_of_ble_eq_true rfl) rfl (Nat.le_of_ble_eq_true rfl) ⟨Nat.le_of_ble_eq_true rfl, Nat.le_of_ble_eq_true rfl⟩ ⟨Nat.le_refl _, Nat.le_refl _⟩ (by decide +kernel) (fun q2 _ => ?_)
  refine es_blk (pc' := 24) (L' := [some (.ref 125), some (.ref p0), some (.ref p1), some (.int p2), some (.int p3), some (.int p4), some (.int x1)]) (st' := [.ref p1, .ref p1]) [(.aload_n 2, 0), (.dup, 0)] (by decide +kernel) rfl rfl ?_
  refine ef_getI (k := p1) (j := 2) (eh_F0sh hp1) eL_3_108 (by decide) (by decide +kernel) ?_
  refine es_blk (pc' := 29) (L' := [some (.ref 125), some (.ref p0), some (.ref p1), some (.int p2), some (.int p3), some (.int p4), some (.int x1)]) (st' := [.int ((q2.1 p1 2) + 4), .ref p1]) [(.iconst 4, 4), (.iadd, 0)] (by decide +kernel) rfl rfl ?_
  refine ef_putI (k := p1) (j := 2) (eh_F0sh hp1) eL_3_108 rfl rfl (by decide +kernel) ?_
  refine ef_V (fun _ => [some (.ref 125), some (.ref p0), some (.ref p1), some (.int p2), some (.int p3), some (.int p4), some (.int x1)]) (fun _ => []) (fun s3 => eh_FW s3) (fun s3 => ?_)
  refine es_blk (pc' := 33) (L' := [some (.ref 125), some (.ref p0), some (.ref p1), some (.int p2), some (.int p3), some (.int p4), some (.int x1)]) (st' := [.ref 125]) [(.aload_n 0, 0)] (by decide +kernel) rfl rfl ?_
  refine ef_getP (k := 125) (j := 0) (q := 1) rfl eL_3_15 rfl rfl rfl (by decide +kernel) ?_
  refine es_blk (pc' := 44) (L' := [some (.ref 125), some (.ref p0), some (.ref p1), some (.int p2), some (.int p3), some (.int p4), some (.int x1)]) (st' := [.int x1, .int p4, .int p3, .ref p1, .ref p0, .ref 1]) [(.aload_n 1, 0), (.aload_n 2, 0), (.iload 4, 0), (.iload 5, 0), (.iload 6, 0)] (by decide +kernel) rfl rfl ?_
  refine ef_veV (d := 2) (k := 1) (As := [.ref p0, .ref p1, .int p3, .int p4, .int x1]) (st := []) eV_5_cease eK_3_115 (eS_5_cease g s3 p0 p1 p3 p4 x1 hp0 hp1) rfl rfl (Nat.le_of_ble_eq_true rfl) rfl (Nat.le_of_ble_eq_true rfl) ⟨Nat.le_of_ble_eq_true rfl, Nat.le_of_ble_eq_true rfl⟩ ⟨Nat.le_refl _, Nat.le_refl _⟩ (by decide +kernel) (fun q4 _ => ?_)
  exact es_ret rfl rfl rfl ⟨by decide +kernel, rfl⟩ (Nat.le_refl _) (Nat.le_refl _)
def eF_3_read (s : eh_F) (p0 : Int32) (p1 : Int32) (p2 np2 : Nat) (p3 : Int32) : Option (eh_F) := Option.bind (eh_loop (fun (r4 : (Int32 × eh_F) → Option (eh_F)) (t1 : Int32 × eh_F) => if t1.1 < p1 then (if (p3 + (t1.1 / 4)) < (Int32.ofNat np2) then (eh_V ((p3 + (t1.1 / 4)) : Int32) (fun x7 => if eh_in x7 np2 then Option.bind (eF_6_byteAt t1.2 (p0 + t1.1)) (fun q8 => if eh_in x7 np2 then eh_V (eh_tI t1.2 p2 (eh_ix x7) ((eh_shl (t1.2.1 p2 (eh_ix x7)) 8) ||| q8)) (fun s9 => eh_V ((t1.1 + 1) : Int32) (fun x10 => r4 (x10, s9))) else none) else none)) else (some t1.2)) else (some t1.2)) eh_FU (0, s)) (fun (e2 : eh_F) => some e2)
set_option maxHeartbeats 4000000 in
set_option maxRecDepth 100000 in
theorem eS_3_read (g : eh_P) (s : eh_F) (p0 : Int32) (p1 : Int32) (p2 np2 : Nat) (p3 : Int32) (hp2 : eh_SH[p2]? = some (100, np2)) : eh_Sim g eM_3_read (eh_R 3 0 0) eh_eV 0 0 0 (eh_en 7 [.ref 125, .int p0, .int p1, .ref p2, .int p3]) [] (eh_FW s) (eF_3_read s p0 p1 p2 np2 p3) := by
  unfold eF_3_read
  refine ef_top (L := [some (.ref 125), some (.int p0), some (.int p1), some (.ref p2), some (.int p3), none, none]) rfl ?_
  refine es_blk (pc' := 3) (L' := [some (.ref 125), some (.int p0), some (.int p1), some (.ref p2), some (.int p3), some (.int 0), none]) (st' := []) [(.iconst 0, 0), (.istore 5, 0)] (by decide +kernel) rfl rfl ?_
  refine ef_loop1 (n := eh_FU) (i := (0, s)) (px := 59) (fun (t1 : Int32 × eh_F) => [some (.ref 125), some (.int p0), some (.int p1), some (.ref p2), some (.int p3), some (.int t1.1), none]) (fun (t1 : Int32 × eh_F) => []) (fun (t1 : Int32 × eh_F) => eh_FW t1.2) (fun (e2 : eh_F) => [none, none, none, none, none, none, none]) (fun (e2 : eh_F) => []) (fun (e2 : eh_F) => eh_FW e2) (fun e2 => ?_) (fun K3 HxK3_0 r4 Hr4 t1 => ?_)
  · exact es_ret rfl rfl rfl ⟨by decide +kernel, rfl⟩ (Nat.le_refl _) (Nat.le_refl _)
  · refine es_blk (pc' := 6) (L' := [some (.ref 125), some (.int p0), some (.int p1), some (.ref p2), some (.int p3), some (.int t1.1), none]) (st' := [.int p1, .int t1.1]) [(.iload 5, 0), (.iload_n 2, 0)] (by decide +kernel) rfl rfl ?_
    refine es_ige (tgt := 59) (off := (53)) (by decide +kernel) (by decide) (fun h5 => ?_) (fun h5 => ?_)
    · refine es_blk (pc' := 14) (L' := [some (.ref 125), some (.int p0), some (.int p1), some (.ref p2), some (.int p3), some (.int t1.1), none]) (st' := [.int 4, .int t1.1, .int p3]) [(.iload 4, 0), (.iload 5, 0), (.iconst 4, 4)] (by decide +kernel) rfl rfl ?_
      refine es_idiv (by decide +kernel) (by decide) ?_
      refine es_blk (pc' := 17) (L' := [some (.ref 125), some (.int p0), some (.int p1), some (.ref p2), some (.int p3), some (.int t1.1), none]) (st' := [.ref p2, .int (p3 + (t1.1 / 4))]) [(.iadd, 0), (.aload_n 3, 0)] (by decide +kernel) rfl rfl ?_
      refine ef_alen (k := p2) hp2 (by decide) (by decide +kernel) ?_
      refine es_ige (tgt := 59) (off := (41)) (by decide +kernel) (by decide) (fun h6 => ?_) (fun h6 => ?_)
      · refine es_blk (pc' := 26) (L' := [some (.ref 125), some (.int p0), some (.int p1), some (.ref p2), some (.int p3), some (.int t1.1), none]) (st' := [.int 4, .int t1.1, .int p3]) [(.iload 4, 0), (.iload 5, 0), (.iconst 4, 4)] (by decide +kernel) rfl rfl ?_
        refine es_idiv (by decide +kernel) (by decide) ?_
        refine es_blk (pc' := 30) (L' := [some (.ref 125), some (.int p0), some (.int p1), some (.ref p2), some (.int p3), some (.int t1.1), some (.int (p3 + (t1.1 / 4)))]) (st' := []) [(.iadd, 0), (.istore 6, 0)] (by decide +kernel) rfl rfl ?_
        refine ef_V (fun x7 => [some (.ref 125), some (.int p0), some (.int p1), some (.ref p2), some (.int p3), some (.int t1.1), some (.int x7)]) (fun _ => []) (fun _ => eh_FW t1.2) (fun x7 => ?_)
        refine es_blk (pc' := 36) (L' := [some (.ref 125), some (.int p0), some (.int p1), some (.ref p2), some (.int p3), some (.int t1.1), some (.int x7)]) (st' := [.int x7, .ref p2, .int x7, .ref p2]) [(.aload_n 3, 0), (.iload 6, 0), (.aload_n 3, 0), (.iload 6, 0)] (by decide +kernel) rfl rfl ?_
        refine ef_ald (k := p2) hp2 (Or.inl ⟨rfl, rfl⟩) (by decide +kernel) (fun _ => ?_)
        refine es_blk (pc' := 41) (L' := [some (.ref 125), some (.int p0), some (.int p1), some (.ref p2), some (.int p3), some (.int t1.1), some (.int x7)]) (st' := [.ref 125, .int (eh_shl (t1.2.1 p2 (eh_ix x7)) 8), .int x7, .ref p2]) [(.bipush 8, 8), (.ishl, 0), (.aload_n 0, 0)] (by decide +kernel) rfl rfl ?_
        refine ef_getP (k := 125) (j := 1) (q := 2) rfl eL_3_25 rfl rfl rfl (by decide +kernel) ?_
        refine es_blk (pc' := 48) (L' := [some (.ref 125), some (.int p0), some (.int p1), some (.ref p2), some (.int p3), some (.int t1.1), some (.int x7)]) (st' := [.int (p0 + t1.1), .ref 2, .int (eh_shl (t1.2.1 p2 (eh_ix x7)) 8), .int x7, .ref p2]) [(.iload_n 1, 0), (.iload 5, 0), (.iadd, 0)] (by decide +kernel) rfl rfl ?_
        refine ef_vpI (d := 2) (k := 2) (As := [.int (p0 + t1.1)]) (st := [.int (eh_shl (t1.2.1 p2 (eh_ix x7)) 8), .int x7, .ref p2]) eV_6_byteAt eK_3_126 (eS_6_byteAt g t1.2 (p0 + t1.1)) rfl rfl (Nat.le_of_ble_eq_true rfl) rfl (Nat.le_of_ble_eq_true rfl) ⟨Nat.le_of_ble_eq_true rfl, Nat.le_of_ble_eq_true rfl⟩ ⟨Nat.le_refl _, Nat.le_refl _⟩ (by decide +kernel) (fun q8 _ => ?_)
        refine es_blk (pc' := 52) (L' := [some (.ref 125), some (.int p0), some (.int p1), some (.ref p2), some (.int p3), some (.int t1.1), some (.int x7)]) (st' := [.int ((eh_shl (t1.2.1 p2 (eh_ix x7)) 8) ||| q8), .int x7, .ref p2]) [(.ior, 0)] (by decide +kernel) rfl rfl ?_
        refine ef_ast (k := p2) hp2 (by decide +kernel) (fun _ => ?_)
        refine ef_V (fun _ => [some (.ref 125), some (.int p0), some (.int p1), some (.ref p2), some (.int p3), some (.int t1.1), some (.int x7)]) (fun _ => []) (fun s9 => eh_FW s9) (fun s9 => ?_)
        refine es_blk (pc' := 56) (L' := [some (.ref 125), some (.int p0), some (.int p1), some (.ref p2), some (.int p3), some (.int (t1.1 + 1)), some (.int x7)]) (st' := []) [(.iinc 5 1, 1)] (by decide +kernel) rfl rfl ?_
        refine ef_V (fun x10 => [some (.ref 125), some (.int p0), some (.int p1), some (.ref p2), some (.int p3), some (.int x10), some (.int x7)]) (fun _ => []) (fun _ => eh_FW s9) (fun x10 => ?_)
        refine es_goto (tgt := 3) (off := (-53)) (by decide +kernel) (by decide) ?_
        refine ef_drop (L2 := [some (.ref 125), some (.int p0), some (.int p1), some (.ref p2), some (.int p3), some (.int x10), none]) [true, true, true, true, true, true, false] rfl rfl ?_
        exact Hr4 (x10, s9)
      refine ef_drop (L2 := [none, none, none, none, none, none, none]) [false, false, false, false, false, false, true] rfl rfl ?_
      exact HxK3_0 t1.2
    refine ef_drop (L2 := [none, none, none, none, none, none, none]) [false, false, false, false, false, false, true] rfl rfl ?_
    exact HxK3_0 t1.2
def eF_3_countOne (s : eh_F) (p0 : Nat) : Option (Int32 × eh_F) := if eh_in (s.1 p0 3) 6 then Option.bind (eF_5_countUp s ((eh_ep (s.1 p0 3)) + 5) 8) (fun q2 => eh_J (fun (s4 : eh_F) => some (q2.1, s4)) (fun j3 => if q2.1 = (-5) then (j3 q2.2) else (Option.bind (eF_5_note q2.2 8 p0 q2.1 0 0) (fun q6 => j3 q6)))) else none
set_option maxHeartbeats 4000000 in
set_option maxRecDepth 100000 in
theorem eS_3_countOne (g : eh_P) (s : eh_F) (p0 : Nat) (hp0 : eh_okF p0 = true) : eh_Sim g eM_3_countOne (eh_R 3 0 0) eh_eI 0 0 0 (eh_en 3 [.ref 125, .ref p0]) [] (eh_FW s) (eF_3_countOne s p0) := by
  unfold eF_3_countOne
  refine ef_top (L := [some (.ref 125), some (.ref p0), none]) rfl ?_
  refine es_blk (pc' := 1) (L' := [some (.ref 125), some (.ref p0), none]) (st' := [.ref 125]) [(.aload_n 0, 0)] (by decide +kernel) rfl rfl ?_
  refine ef_getP (k := 125) (j := 0) (q := 1) rfl eL_3_15 rfl rfl rfl (by decide +kernel) ?_
  refine es_blk (pc' := 5) (L' := [some (.ref 125), some (.ref p0), none]) (st' := [.ref 125, .ref 1]) [(.aload_n 0, 0)] (by decide +kernel) rfl rfl ?_
  refine ef_getP (k := 125) (j := 0) (q := 1) rfl eL_3_15 rfl rfl rfl (by decide +kernel) ?_
  refine ef_getP (k := 1) (j := 4) (q := 28) rfl eL_3_69 rfl rfl rfl (by decide +kernel) ?_
  refine es_blk (pc' := 12) (L' := [some (.ref 125), some (.ref p0), none]) (st' := [.ref p0, .ref 28, .ref 1]) [(.aload_n 1, 0)] (by decide +kernel) rfl rfl ?_
  refine ef_getI (k := p0) (j := 3) (eh_F0sh hp0) eL_3_73 (by decide) (by decide +kernel) ?_
  refine ef_encs (by decide +kernel) (fun h1 => ?_)
  refine ef_getP (k := (eh_ep (s.1 p0 3))) (j := 1) (q := ((eh_ep (s.1 p0 3)) + 5)) (eh_E0sh h1) eL_3_77 rfl (eh_Ex h1 _).2.1 (eh_E5sh h1) (by decide +kernel) ?_
  refine ef_veI (d := 2) (k := 1) (As := [.ref ((eh_ep (s.1 p0 3)) + 5)]) (st := []) eV_5_countUp eK_3_230 (eS_5_countUp g s ((eh_ep (s.1 p0 3)) + 5) 8 (eh_E5sh h1)) rfl rfl (Nat.le_of_ble_eq_true rfl) rfl (Nat.le_of_ble_eq_true rfl) ⟨Nat.le_of_ble_eq_true rfl, Nat.le_of_ble_eq_true rfl⟩ ⟨Nat.le_refl _, Nat.le_refl _⟩ (by decide +kernel) (fun q2 _ => ?_)
  refine es_blk (pc' := 26) (L' := [some (.ref 125), some (.ref p0), some (.int q2.1)]) (st' := [.int (-5), .int q2.1]) [(.istore_n 2, 0), (.iload_n 2, 0), (.bipush (-5), (-5))] (by decide +kernel) rfl rfl ?_
  refine ef_J (X := fun j3 => ∀ (s4 : eh_F), eh_Sim g eM_3_countOne (eh_R 3 0 0) eh_eI 0 0 42 [none, none, some (.int q2.1)] [] (eh_FW s4) ((j3 s4).bind some)) ?_ (fun j3 Hj3 => ?_)
  · intro s4
    refine es_blk (pc' := 43) (L' := [none, none, some (.int q2.1)]) (st' := [.int q2.1]) [(.iload_n 2, 0)] (by decide +kernel) rfl rfl ?_
    exact es_ret rfl rfl rfl ⟨by decide +kernel, _, rfl, rfl⟩ (Nat.le_refl _) (Nat.le_refl _)
  refine es_ieq (tgt := 42) (off := (16)) (by decide +kernel) (by decide) (fun h5 => ?_) (fun h5 => ?_)
  · refine ef_drop (L2 := [none, none, some (.int q2.1)]) [false, false, true] rfl rfl ?_
    exact Hj3 _
  refine es_blk (pc' := 30) (L' := [some (.ref 125), some (.ref p0), some (.int q2.1)]) (st' := [.ref 125]) [(.aload_n 0, 0)] (by decide +kernel) rfl rfl ?_
  refine ef_getP (k := 125) (j := 0) (q := 1) rfl eL_3_15 rfl rfl rfl (by decide +kernel) ?_
  refine es_blk (pc' := 39) (L' := [some (.ref 125), some (.ref p0), some (.int q2.1)]) (st' := [.int 0, .int 0, .int q2.1, .ref p0, .int 8, .ref 1]) [(.bipush 8, 8), (.aload_n 1, 0), (.iload_n 2, 0), (.iconst 0, 0), (.iconst 0, 0)] (by decide +kernel) rfl rfl ?_
  refine ef_veV (d := 1) (k := 1) (As := [.int 8, .ref p0, .int q2.1, .int 0, .int 0]) (st := []) eV_5_note eK_3_111 (eS_5_note g q2.2 8 p0 q2.1 0 0 hp0) rfl rfl (Nat.le_of_ble_eq_true rfl) rfl (Nat.le_of_ble_eq_true rfl) ⟨Nat.le_of_ble_eq_true rfl, Nat.le_of_ble_eq_true rfl⟩ ⟨Nat.le_refl _, Nat.le_refl _⟩ (by decide +kernel) (fun q6 _ => ?_)
  refine ef_drop (L2 := [none, none, some (.int q2.1)]) [false, false, true] rfl rfl ?_
  exact Hj3 _
def eF_3_claim (s : eh_F) (p0 : Nat) (p1 : Int32) : Option (Int32 × eh_F) := if p1 = 0 then (if (s.1 12 14) = (-1) then (Option.bind (eF_0_givePath s (s.1 p0 3)) (fun q3 => Option.bind (eF_5_note q3 9 p0 1 0 0) (fun q4 => some (0, q4)))) else (some ((-3), s))) else (some ((-2), s))
set_option maxHeartbeats 4000000 in
set_option maxRecDepth 100000 in
theorem eS_3_claim (g : eh_P) (s : eh_F) (p0 : Nat) (p1 : Int32) (hp0 : eh_okF p0 = true) : eh_Sim g eM_3_claim (eh_R 3 0 0) eh_eI 0 0 0 (eh_en 3 [.ref 125, .ref p0, .int p1]) [] (eh_FW s) (eF_3_claim s p0 p1) := by
  unfold eF_3_claim
  refine ef_top (L := [some (.ref 125), some (.ref p0), some (.int p1)]) rfl ?_
  refine es_blk (pc' := 1) (L' := [some (.ref 125), some (.ref p0), some (.int p1)]) (st' := [.int p1]) [(.iload_n 2, 0)] (by decide +kernel) rfl rfl ?_
  refine es_eq (tgt := 7) (off := (6)) (by decide +kernel) (by decide) (fun h1 => ?_) (fun h1 => ?_)
  · refine es_blk (pc' := 8) (L' := [some (.ref 125), some (.ref p0), some (.int p1)]) (st' := [.ref 125]) [(.aload_n 0, 0)] (by decide +kernel) rfl rfl ?_
    refine ef_getP (k := 125) (j := 2) (q := 12) rfl eL_3_30 rfl rfl rfl (by decide +kernel) ?_
    refine ef_getI (k := 12) (j := 14) rfl eL_3_243 (by decide) (by decide +kernel) ?_
    refine es_blk (pc' := 15) (L' := [some (.ref 125), some (.ref p0), some (.int p1)]) (st' := [.int (-1), .int (s.1 12 14)]) [(.iconst (-1), (-1))] (by decide +kernel) rfl rfl ?_
    refine es_ieq (tgt := 21) (off := (6)) (by decide +kernel) (by decide) (fun h2 => ?_) (fun h2 => ?_)
    · refine es_blk (pc' := 22) (L' := [some (.ref 125), some (.ref p0), some (.int p1)]) (st' := [.ref 125]) [(.aload_n 0, 0)] (by decide +kernel) rfl rfl ?_
      refine ef_getP (k := 125) (j := 2) (q := 12) rfl eL_3_30 rfl rfl rfl (by decide +kernel) ?_
      refine es_blk (pc' := 26) (L' := [some (.ref 125), some (.ref p0), some (.int p1)]) (st' := [.ref p0, .ref 12]) [(.aload_n 1, 0)] (by decide +kernel) rfl rfl ?_
      refine ef_getI (k := p0) (j := 3) (eh_F0sh hp0) eL_3_73 (by decide) (by decide +kernel) ?_
      refine ef_veV (d := 2) (k := 12) (As := [.int (s.1 p0 3)]) (st := []) eV_0_givePath eK_3_252 (eS_0_givePath g s (s.1 p0 3)) rfl rfl (Nat.le_of_ble_eq_true rfl) rfl (Nat.le_of_ble_eq_true rfl) ⟨Nat.le_of_ble_eq_true rfl, Nat.le_of_ble_eq_true rfl⟩ ⟨Nat.le_refl _, Nat.le_refl _⟩ (by decide +kernel) (fun q3 _ => ?_)
      refine es_blk (pc' := 33) (L' := [some (.ref 125), some (.ref p0), some (.int p1)]) (st' := [.ref 125]) [(.aload_n 0, 0)] (by decide +kernel) rfl rfl ?_
      refine ef_getP (k := 125) (j := 0) (q := 1) rfl eL_3_15 rfl rfl rfl (by decide +kernel) ?_
      refine es_blk (pc' := 42) (L' := [some (.ref 125), some (.ref p0), some (.int p1)]) (st' := [.int 0, .int 0, .int 1, .ref p0, .int 9, .ref 1]) [(.bipush 9, 9), (.aload_n 1, 0), (.iconst 1, 1), (.iconst 0, 0), (.iconst 0, 0)] (by decide +kernel) rfl rfl ?_
      refine ef_veV (d := 1) (k := 1) (As := [.int 9, .ref p0, .int 1, .int 0, .int 0]) (st := []) eV_5_note eK_3_111 (eS_5_note g q3 9 p0 1 0 0 hp0) rfl rfl (Nat.le_of_ble_eq_true rfl) rfl (Nat.le_of_ble_eq_true rfl) ⟨Nat.le_of_ble_eq_true rfl, Nat.le_of_ble_eq_true rfl⟩ ⟨Nat.le_refl _, Nat.le_refl _⟩ (by decide +kernel) (fun q4 _ => ?_)
      refine es_blk (pc' := 46) (L' := [some (.ref 125), some (.ref p0), some (.int p1)]) (st' := [.int 0]) [(.iconst 0, 0)] (by decide +kernel) rfl rfl ?_
      exact es_ret rfl rfl rfl ⟨by decide +kernel, _, rfl, rfl⟩ (Nat.le_refl _) (Nat.le_refl _)
    refine es_blk (pc' := 20) (L' := [some (.ref 125), some (.ref p0), some (.int p1)]) (st' := [.int (-3)]) [(.bipush (-3), (-3))] (by decide +kernel) rfl rfl ?_
    exact es_ret rfl rfl rfl ⟨by decide +kernel, _, rfl, rfl⟩ (Nat.le_refl _) (Nat.le_refl _)
  refine es_blk (pc' := 6) (L' := [some (.ref 125), some (.ref p0), some (.int p1)]) (st' := [.int (-2)]) [(.bipush (-2), (-2))] (by decide +kernel) rfl rfl ?_
  exact es_ret rfl rfl rfl ⟨by decide +kernel, _, rfl, rfl⟩ (Nat.le_refl _) (Nat.le_refl _)
def eF_4_dueInterrupt (s : eh_F) (th : Nat) : Option (Int32) := eh_J (fun (u2 : Unit) => Option.bind (eF_4_pending s th) (fun q3 => eh_V ((q3 &&& (s.1 th 10)) : Int32) (fun x4 => if (x4 &&& 512) = 0 then (if (x4 &&& 2) = 0 then (eh_J (fun (a8 : Int32) => some a8) (fun j7 => if (x4 &&& 32) = 0 then (j7 (-1)) else (j7 5))) else (some 1)) else (some 9)))) (fun j1 => if (s.1 th 5) = (-1) then (if (s.1 th 3) = 1 then (if ((s.1 th 9) &&& 2) = 0 then (some (-1)) else (j1 ())) else (j1 ())) else (j1 ()))
set_option maxHeartbeats 4000000 in
set_option maxRecDepth 100000 in
theorem eS_4_dueInterrupt (g : eh_P) (s : eh_F) (th : Nat) (hth : eh_okH th = true) : eh_Sim g eM_4_dueInterrupt (eh_R 3 0 0) (eh_pI s) 0 0 0 (eh_en 3 [.ref th, .ref 12]) [] (eh_FW s) (eF_4_dueInterrupt s th) := by
  unfold eF_4_dueInterrupt
  refine ef_top (L := [some (.ref th), some (.ref 12), none]) rfl ?_
  refine es_blk (pc' := 1) (L' := [some (.ref th), some (.ref 12), none]) (st' := [.ref th]) [(.aload_n 0, 0)] (by decide +kernel) rfl rfl ?_
  refine ef_getI (k := th) (j := 5) (eh_H0sh hth) eL_4_35 (by decide) (by decide +kernel) ?_
  refine es_blk (pc' := 5) (L' := [some (.ref th), some (.ref 12), none]) (st' := [.int (-1), .int (s.1 th 5)]) [(.iconst (-1), (-1))] (by decide +kernel) rfl rfl ?_
  refine ef_J (X := fun j1 => ∀ (u2 : Unit), eh_Sim g eM_4_dueInterrupt (eh_R 3 0 0) (eh_pI s) 0 0 27 [some (.ref th), some (.ref 12), none] [] (eh_FW s) ((j1 u2).bind some)) ?_ (fun j1 Hj1 => ?_)
  · intro u2
    refine es_blk (pc' := 29) (L' := [some (.ref th), some (.ref 12), none]) (st' := [.ref 12, .ref th]) [(.aload_n 0, 0), (.aload_n 1, 0)] (by decide +kernel) rfl rfl ?_
    refine ef_vpI (d := 2) (k := th) (As := [.ref 12]) (st := []) eV_4_pending eK_4_90 (eS_4_pending g s th hth) (eh_H0sh hth) rfl (Nat.le_of_ble_eq_true rfl) rfl (Nat.le_of_ble_eq_true rfl) ⟨Nat.le_of_ble_eq_true rfl, Nat.le_of_ble_eq_true rfl⟩ ⟨Nat.le_refl _, Nat.le_refl _⟩ (by decide +kernel) (fun q3 _ => ?_)
    refine es_blk (pc' := 33) (L' := [some (.ref th), some (.ref 12), none]) (st' := [.ref th, .int q3]) [(.aload_n 0, 0)] (by decide +kernel) rfl rfl ?_
    refine ef_getI (k := th) (j := 10) (eh_H0sh hth) eL_4_50 (by decide) (by decide +kernel) ?_
    refine es_blk (pc' := 38) (L' := [some (.ref th), some (.ref 12), some (.int (q3 &&& (s.1 th 10)))]) (st' := []) [(.iand, 0), (.istore_n 2, 0)] (by decide +kernel) rfl rfl ?_
    refine ef_V (fun x4 => [some (.ref th), some (.ref 12), some (.int x4)]) (fun _ => []) (fun _ => eh_FW s) (fun x4 => ?_)
    refine es_blk (pc' := 43) (L' := [some (.ref th), some (.ref 12), some (.int x4)]) (st' := [.int (x4 &&& 512)]) [(.iload_n 2, 0), (.sipush 512, 512), (.iand, 0)] (by decide +kernel) rfl rfl ?_
    refine es_eq (tgt := 49) (off := (6)) (by decide +kernel) (by decide) (fun h5 => ?_) (fun h5 => ?_)
    · refine es_blk (pc' := 52) (L' := [some (.ref th), some (.ref 12), some (.int x4)]) (st' := [.int (x4 &&& 2)]) [(.iload_n 2, 0), (.iconst 2, 2), (.iand, 0)] (by decide +kernel) rfl rfl ?_
      refine es_eq (tgt := 57) (off := (5)) (by decide +kernel) (by decide) (fun h6 => ?_) (fun h6 => ?_)
      · refine es_blk (pc' := 61) (L' := [some (.ref th), some (.ref 12), some (.int x4)]) (st' := [.int (x4 &&& 32)]) [(.iload_n 2, 0), (.bipush 32, 32), (.iand, 0)] (by decide +kernel) rfl rfl ?_
        refine ef_J (X := fun j7 => ∀ (a8 : Int32), eh_Sim g eM_4_dueInterrupt (eh_R 3 0 0) (eh_pI s) 0 0 69 [none, none, none] [.int a8] (eh_FW s) ((j7 a8).bind some)) ?_ (fun j7 Hj7 => ?_)
        · intro a8
          exact es_ret rfl rfl rfl ⟨by decide +kernel, _, rfl, rfl⟩ (Nat.le_refl _) (Nat.le_refl _)
        refine es_eq (tgt := 68) (off := (7)) (by decide +kernel) (by decide) (fun h9 => ?_) (fun h9 => ?_)
        · refine es_blk (pc' := 69) (L' := [some (.ref th), some (.ref 12), some (.int x4)]) (st' := [.int (-1)]) [(.iconst (-1), (-1))] (by decide +kernel) rfl rfl ?_
          refine ef_drop (L2 := [none, none, none]) [false, false, false] rfl rfl ?_
          exact Hj7 _
        refine es_blk (pc' := 65) (L' := [some (.ref th), some (.ref 12), some (.int x4)]) (st' := [.int 5]) [(.iconst 5, 5)] (by decide +kernel) rfl rfl ?_
        refine es_goto (tgt := 69) (off := (4)) (by decide +kernel) (by decide) ?_
        refine ef_drop (L2 := [none, none, none]) [false, false, false] rfl rfl ?_
        exact Hj7 _
      refine es_blk (pc' := 56) (L' := [some (.ref th), some (.ref 12), some (.int x4)]) (st' := [.int 1]) [(.iconst 1, 1)] (by decide +kernel) rfl rfl ?_
      exact es_ret rfl rfl rfl ⟨by decide +kernel, _, rfl, rfl⟩ (Nat.le_refl _) (Nat.le_refl _)
    refine es_blk (pc' := 48) (L' := [some (.ref th), some (.ref 12), some (.int x4)]) (st' := [.int 9]) [(.bipush 9, 9)] (by decide +kernel) rfl rfl ?_
    exact es_ret rfl rfl rfl ⟨by decide +kernel, _, rfl, rfl⟩ (Nat.le_refl _) (Nat.le_refl _)
  refine es_ine (tgt := 27) (off := (22)) (by decide +kernel) (by decide) (fun h10 => ?_) (fun h10 => ?_)
  · refine es_blk (pc' := 9) (L' := [some (.ref th), some (.ref 12), none]) (st' := [.ref th]) [(.aload_n 0, 0)] (by decide +kernel) rfl rfl ?_
    refine ef_getI (k := th) (j := 3) (eh_H0sh hth) eL_4_28 (by decide) (by decide +kernel) ?_
    refine es_blk (pc' := 13) (L' := [some (.ref th), some (.ref 12), none]) (st' := [.int 1, .int (s.1 th 3)]) [(.iconst 1, 1)] (by decide +kernel) rfl rfl ?_
    refine es_ine (tgt := 27) (off := (14)) (by decide +kernel) (by decide) (fun h11 => ?_) (fun h11 => ?_)
    · refine es_blk (pc' := 17) (L' := [some (.ref th), some (.ref 12), none]) (st' := [.ref th]) [(.aload_n 0, 0)] (by decide +kernel) rfl rfl ?_
      refine ef_getI (k := th) (j := 9) (eh_H0sh hth) eL_4_47 (by decide) (by decide +kernel) ?_
      refine es_blk (pc' := 22) (L' := [some (.ref th), some (.ref 12), none]) (st' := [.int ((s.1 th 9) &&& 2)]) [(.iconst 2, 2), (.iand, 0)] (by decide +kernel) rfl rfl ?_
      refine es_ne (tgt := 27) (off := (5)) (by decide +kernel) (by decide) (fun h12 => ?_) (fun h12 => ?_)
      · refine es_blk (pc' := 26) (L' := [some (.ref th), some (.ref 12), none]) (st' := [.int (-1)]) [(.iconst (-1), (-1))] (by decide +kernel) rfl rfl ?_
        exact es_ret rfl rfl rfl ⟨by decide +kernel, _, rfl, rfl⟩ (Nat.le_refl _) (Nat.le_refl _)
      exact Hj1 ()
    exact Hj1 ()
  exact Hj1 ()
