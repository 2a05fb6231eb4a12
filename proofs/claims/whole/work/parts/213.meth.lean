def eF_12_makeRegion (s : eh_F) (p0 : Int32) (p1 : Int32) (p2 : Int32) (p3 : Int32) (p4 : Int32) : Option (Int32 × eh_F) := Option.bind (eF_12_free s 164 12) (fun q1 => if eh_in q1 12 then eh_V (eh_tI s 164 (eh_ix q1) p0) (fun s2 => if eh_in q1 12 then eh_V (eh_tI s2 165 (eh_ix q1) p1) (fun s3 => if eh_in q1 12 then eh_V (eh_tI s3 166 (eh_ix q1) p2) (fun s4 => if eh_in q1 12 then eh_V (eh_tI s4 167 (eh_ix q1) p3) (fun s5 => if eh_in q1 12 then eh_V (eh_tI s5 168 (eh_ix q1) p4) (fun s6 => if eh_in q1 12 then eh_V (eh_tI s6 169 (eh_ix q1) 0) (fun s7 => eh_J (fun (s9 : eh_F) => some (q1, s9)) (fun j8 => if p0 = 2 then (j8 s7) else (Option.bind (eF_12_clear s7 p1 p2) (fun q11 => j8 q11)))) else none) else none) else none) else none) else none) else none)
set_option maxHeartbeats 4000000 in
set_option maxRecDepth 100000 in
theorem eS_12_makeRegion (g : eh_P) (s : eh_F) (p0 : Int32) (p1 : Int32) (p2 : Int32) (p3 : Int32) (p4 : Int32) : eh_Sim g eM_12_makeRegion (eh_R 3 0 0) eh_eI 0 0 0 (eh_en 7 [.ref 127, .int p0, .int p1, .int p2, .int p3, .int p4]) [] (eh_FW s) (eF_12_makeRegion s p0 p1 p2 p3 p4) := by
  unfold eF_12_makeRegion
  refine ef_top (L := [some (.ref 127), some (.int p0), some (.int p1), some (.int p2), some (.int p3), some (.int p4), none]) rfl ?_
  refine es_blk (pc' := 1) (L' := [some (.ref 127), some (.int p0), some (.int p1), some (.int p2), some (.int p3), some (.int p4), none]) (st' := [.ref 127]) [(.aload_n 0, 0)] (by decide +kernel) rfl rfl ?_
  refine ef_getP (k := 127) (j := 39) (q := 164) rfl eL_12_121 rfl rfl rfl (by decide +kernel) ?_
  refine ef_spI (d := 1) (As := [.ref 164]) (st := []) eV_12_free eK_12_506 (eS_12_free g s 164 12 rfl) rfl (Nat.le_of_ble_eq_true rfl) rfl (Nat.le_of_ble_eq_true rfl) ⟨Nat.le_of_ble_eq_true rfl, Nat.le_of_ble_eq_true rfl⟩ ⟨Nat.le_refl _, Nat.le_refl _⟩ (by decide +kernel) (fun q1 _ => ?_)
  refine es_blk (pc' := 10) (L' := [some (.ref 127), some (.int p0), some (.int p1), some (.int p2), some (.int p3), some (.int p4), some (.int q1)]) (st' := [.ref 127]) [(.istore 6, 0), (.aload_n 0, 0)] (by decide +kernel) rfl rfl ?_
  refine ef_getP (k := 127) (j := 39) (q := 164) rfl eL_12_121 rfl rfl rfl (by decide +kernel) ?_
  refine es_blk (pc' := 16) (L' := [some (.ref 127), some (.int p0), some (.int p1), some (.int p2), some (.int p3), some (.int p4), some (.int q1)]) (st' := [.int p0, .int q1, .ref 164]) [(.iload 6, 0), (.iload_n 1, 0)] (by decide +kernel) rfl rfl ?_
  refine ef_ast (k := 164) rfl (by decide +kernel) (fun _ => ?_)
  refine ef_V (fun _ => [some (.ref 127), some (.int p0), some (.int p1), some (.int p2), some (.int p3), some (.int p4), some (.int q1)]) (fun _ => []) (fun s2 => eh_FW s2) (fun s2 => ?_)
  refine es_blk (pc' := 18) (L' := [some (.ref 127), some (.int p0), some (.int p1), some (.int p2), some (.int p3), some (.int p4), some (.int q1)]) (st' := [.ref 127]) [(.aload_n 0, 0)] (by decide +kernel) rfl rfl ?_
  refine ef_getP (k := 127) (j := 40) (q := 165) rfl eL_12_124 rfl rfl rfl (by decide +kernel) ?_
  refine es_blk (pc' := 24) (L' := [some (.ref 127), some (.int p0), some (.int p1), some (.int p2), some (.int p3), some (.int p4), some (.int q1)]) (st' := [.int p1, .int q1, .ref 165]) [(.iload 6, 0), (.iload_n 2, 0)] (by decide +kernel) rfl rfl ?_
  refine ef_ast (k := 165) rfl (by decide +kernel) (fun _ => ?_)
  refine ef_V (fun _ => [some (.ref 127), some (.int p0), some (.int p1), some (.int p2), some (.int p3), some (.int p4), some (.int q1)]) (fun _ => []) (fun s3 => eh_FW s3) (fun s3 => ?_)
  refine es_blk (pc' := 26) (L' := [some (.ref 127), some (.int p0), some (.int p1), some (.int p2), some (.int p3), some (.int p4), some (.int q1)]) (st' := [.ref 127]) [(.aload_n 0, 0)] (by decide +kernel) rfl rfl ?_
  refine ef_getP (k := 127) (j := 41) (q := 166) rfl eL_12_127 rfl rfl rfl (by decide +kernel) ?_
  refine es_blk (pc' := 32) (L' := [some (.ref 127), some (.int p0), some (.int p1), some (.int p2), some (.int p3), some (.int p4), some (.int q1)]) (st' := [.int p2, .int q1, .ref 166]) [(.iload 6, 0), (.iload_n 3, 0)] (by decide +kernel) rfl rfl ?_
  refine ef_ast (k := 166) rfl (by decide +kernel) (fun _ => ?_)
  refine ef_V (fun _ => [some (.ref 127), some (.int p0), some (.int p1), some (.int p2), some (.int p3), some (.int p4), some (.int q1)]) (fun _ => []) (fun s4 => eh_FW s4) (fun s4 => ?_)
  refine es_blk (pc' := 34) (L' := [some (.ref 127), some (.int p0), some (.int p1), some (.int p2), some (.int p3), some (.int p4), some (.int q1)]) (st' := [.ref 127]) [(.aload_n 0, 0)] (by decide +kernel) rfl rfl ?_
  refine ef_getP (k := 127) (j := 42) (q := 167) rfl eL_12_130 rfl rfl rfl (by decide +kernel) ?_
  refine es_blk (pc' := 41) (L' := [some (.ref 127), some (.int p0), some (.int p1), some (.int p2), some (.int p3), some (.int p4), some (.int q1)]) (st' := [.int p3, .int q1, .ref 167]) [(.iload 6, 0), (.iload 4, 0)] (by decide +kernel) rfl rfl ?_
  refine ef_ast (k := 167) rfl (by decide +kernel) (fun _ => ?_)
  refine ef_V (fun _ => [some (.ref 127), some (.int p0), some (.int p1), some (.int p2), some (.int p3), some (.int p4), some (.int q1)]) (fun _ => []) (fun s5 => eh_FW s5) (fun s5 => ?_)
  refine es_blk (pc' := 43) (L' := [some (.ref 127), some (.int p0), some (.int p1), some (.int p2), some (.int p3), some (.int p4), some (.int q1)]) (st' := [.ref 127]) [(.aload_n 0, 0)] (by decide +kernel) rfl rfl ?_
  refine ef_getP (k := 127) (j := 43) (q := 168) rfl eL_12_133 rfl rfl rfl (by decide +kernel) ?_
  refine es_blk (pc' := 50) (L' := [some (.ref 127), some (.int p0), some (.int p1), some (.int p2), some (.int p3), some (.int p4), some (.int q1)]) (st' := [.int p4, .int q1, .ref 168]) [(.iload 6, 0), (.iload 5, 0)] (by decide +kernel) rfl rfl ?_
  refine ef_ast (k := 168) rfl (by decide +kernel) (fun _ => ?_)
  refine ef_V (fun _ => [some (.ref 127), some (.int p0), some (.int p1), some (.int p2), some (.int p3), some (.int p4), some (.int q1)]) (fun _ => []) (fun s6 => eh_FW s6) (fun s6 => ?_)
  refine es_blk (pc' := 52) (L' := [some (.ref 127), some (.int p0), some (.int p1), some (.int p2), some (.int p3), some (.int p4), some (.int q1)]) (st' := [.ref 127]) [(.aload_n 0, 0)] (by decide +kernel) rfl rfl ?_
  refine ef_getP (k := 127) (j := 44) (q := 169) rfl eL_12_136 rfl rfl rfl (by decide +kernel) ?_
  refine es_blk (pc' := 58) (L' := [some (.ref 127), some (.int p0), some (.int p1), some (.int p2), some (.int p3), some (.int p4), some (.int q1)]) (st' := [.int 0, .int q1, .ref 169]) [(.iload 6, 0), (.iconst 0, 0)] (by decide +kernel) rfl rfl ?_
  refine ef_ast (k := 169) rfl (by decide +kernel) (fun _ => ?_)
  refine ef_V (fun _ => [some (.ref 127), some (.int p0), some (.int p1), some (.int p2), some (.int p3), some (.int p4), some (.int q1)]) (fun _ => []) (fun s7 => eh_FW s7) (fun s7 => ?_)
  refine es_blk (pc' := 61) (L' := [some (.ref 127), some (.int p0), some (.int p1), some (.int p2), some (.int p3), some (.int p4), some (.int q1)]) (st' := [.int 2, .int p0]) [(.iload_n 1, 0), (.iconst 2, 2)] (by decide +kernel) rfl rfl ?_
  refine ef_J (X := fun j8 => ∀ (s9 : eh_F), eh_Sim g eM_12_makeRegion (eh_R 3 0 0) eh_eI 0 0 70 [none, none, none, none, none, none, some (.int q1)] [] (eh_FW s9) ((j8 s9).bind some)) ?_ (fun j8 Hj8 => ?_)
  · intro s9
    refine es_blk (pc' := 72) (L' := [none, none, none, none, none, none, some (.int q1)]) (st' := [.int q1]) [(.iload 6, 0)] (by decide +kernel) rfl rfl ?_
    exact es_ret rfl rfl rfl ⟨by decide +kernel, _, rfl, rfl⟩ (Nat.le_refl _) (Nat.le_refl _)
  refine es_ieq (tgt := 70) (off := (9)) (by decide +kernel) (by decide) (fun h10 => ?_) (fun h10 => ?_)
  · refine ef_drop (L2 := [none, none, none, none, none, none, some (.int q1)]) [false, false, false, false, false, false, true] rfl rfl ?_
    exact Hj8 _
  refine es_blk (pc' := 67) (L' := [some (.ref 127), some (.int p0), some (.int p1), some (.int p2), some (.int p3), some (.int p4), some (.int q1)]) (st' := [.int p2, .int p1, .ref 127]) [(.aload_n 0, 0), (.iload_n 2, 0), (.iload_n 3, 0)] (by decide +kernel) rfl rfl ?_
  refine ef_veV (d := 2) (k := 127) (As := [.int p1, .int p2]) (st := []) eV_12_clear eK_12_510 (eS_12_clear g s7 p1 p2) rfl rfl (Nat.le_of_ble_eq_true rfl) rfl (Nat.le_of_ble_eq_true rfl) ⟨Nat.le_of_ble_eq_true rfl, Nat.le_of_ble_eq_true rfl⟩ ⟨Nat.le_refl _, Nat.le_refl _⟩ (by decide +kernel) (fun q11 _ => ?_)
  refine ef_drop (L2 := [none, none, none, none, none, none, some (.int q1)]) [false, false, false, false, false, false, true] rfl rfl ?_
  exact Hj8 _
def eF_12_drop (s : eh_F) (p0 : Int32) : Option (eh_F) := if eh_in p0 12 then eh_J (fun (s2 : eh_F) => if eh_in p0 12 then eh_V (eh_tI s2 164 (eh_ix p0) 0) (fun s3 => some s3) else none) (fun j1 => if (s.1 164 (eh_ix p0)) = 2 then (j1 s) else (if eh_in p0 12 then if eh_in p0 12 then Option.bind (eF_12_clear s (s.1 165 (eh_ix p0)) (s.1 166 (eh_ix p0))) (fun q5 => j1 q5) else none else none)) else none
set_option maxHeartbeats 4000000 in
set_option maxRecDepth 100000 in
theorem eS_12_drop (g : eh_P) (s : eh_F) (p0 : Int32) : eh_Sim g eM_12_drop (eh_R 3 0 0) eh_eV 0 0 0 (eh_en 2 [.ref 127, .int p0]) [] (eh_FW s) (eF_12_drop s p0) := by
  unfold eF_12_drop
  refine ef_top (L := [some (.ref 127), some (.int p0)]) rfl ?_
  refine es_blk (pc' := 1) (L' := [some (.ref 127), some (.int p0)]) (st' := [.ref 127]) [(.aload_n 0, 0)] (by decide +kernel) rfl rfl ?_
  refine ef_getP (k := 127) (j := 39) (q := 164) rfl eL_12_121 rfl rfl rfl (by decide +kernel) ?_
  refine es_blk (pc' := 5) (L' := [some (.ref 127), some (.int p0)]) (st' := [.int p0, .ref 164]) [(.iload_n 1, 0)] (by decide +kernel) rfl rfl ?_
  refine ef_ald (k := 164) rfl (Or.inl ⟨rfl, rfl⟩) (by decide +kernel) (fun _ => ?_)
  refine es_blk (pc' := 7) (L' := [some (.ref 127), some (.int p0)]) (st' := [.int 2, .int (s.1 164 (eh_ix p0))]) [(.iconst 2, 2)] (by decide +kernel) rfl rfl ?_
  refine ef_J (X := fun j1 => ∀ (s2 : eh_F), eh_Sim g eM_12_drop (eh_R 3 0 0) eh_eV 0 0 26 [some (.ref 127), some (.int p0)] [] (eh_FW s2) ((j1 s2).bind some)) ?_ (fun j1 Hj1 => ?_)
  · intro s2
    refine es_blk (pc' := 27) (L' := [some (.ref 127), some (.int p0)]) (st' := [.ref 127]) [(.aload_n 0, 0)] (by decide +kernel) rfl rfl ?_
    refine ef_getP (k := 127) (j := 39) (q := 164) rfl eL_12_121 rfl rfl rfl (by decide +kernel) ?_
    refine es_blk (pc' := 32) (L' := [some (.ref 127), some (.int p0)]) (st' := [.int 0, .int p0, .ref 164]) [(.iload_n 1, 0), (.iconst 0, 0)] (by decide +kernel) rfl rfl ?_
    refine ef_ast (k := 164) rfl (by decide +kernel) (fun _ => ?_)
    refine ef_V (fun _ => [some (.ref 127), some (.int p0)]) (fun _ => []) (fun s3 => eh_FW s3) (fun s3 => ?_)
    exact es_ret rfl rfl rfl ⟨by decide +kernel, rfl⟩ (Nat.le_refl _) (Nat.le_refl _)
  refine es_ieq (tgt := 26) (off := (19)) (by decide +kernel) (by decide) (fun h4 => ?_) (fun h4 => ?_)
  · exact Hj1 _
  refine es_blk (pc' := 12) (L' := [some (.ref 127), some (.int p0)]) (st' := [.ref 127, .ref 127]) [(.aload_n 0, 0), (.aload_n 0, 0)] (by decide +kernel) rfl rfl ?_
  refine ef_getP (k := 127) (j := 40) (q := 165) rfl eL_12_124 rfl rfl rfl (by decide +kernel) ?_
  refine es_blk (pc' := 16) (L' := [some (.ref 127), some (.int p0)]) (st' := [.int p0, .ref 165, .ref 127]) [(.iload_n 1, 0)] (by decide +kernel) rfl rfl ?_
  refine ef_ald (k := 165) rfl (Or.inl ⟨rfl, rfl⟩) (by decide +kernel) (fun _ => ?_)
  refine es_blk (pc' := 18) (L' := [some (.ref 127), some (.int p0)]) (st' := [.ref 127, .int (s.1 165 (eh_ix p0)), .ref 127]) [(.aload_n 0, 0)] (by decide +kernel) rfl rfl ?_
  refine ef_getP (k := 127) (j := 41) (q := 166) rfl eL_12_127 rfl rfl rfl (by decide +kernel) ?_
  refine es_blk (pc' := 22) (L' := [some (.ref 127), some (.int p0)]) (st' := [.int p0, .ref 166, .int (s.1 165 (eh_ix p0)), .ref 127]) [(.iload_n 1, 0)] (by decide +kernel) rfl rfl ?_
  refine ef_ald (k := 166) rfl (Or.inl ⟨rfl, rfl⟩) (by decide +kernel) (fun _ => ?_)
  refine ef_veV (d := 2) (k := 127) (As := [.int (s.1 165 (eh_ix p0)), .int (s.1 166 (eh_ix p0))]) (st := []) eV_12_clear eK_12_510 (eS_12_clear g s (s.1 165 (eh_ix p0)) (s.1 166 (eh_ix p0))) rfl rfl (Nat.le_of_ble_eq_true rfl) rfl (Nat.le_of_ble_eq_true rfl) ⟨Nat.le_of_ble_eq_true rfl, Nat.le_of_ble_eq_true rfl⟩ ⟨Nat.le_refl _, Nat.le_refl _⟩ (by decide +kernel) (fun q5 _ => ?_)
  exact Hj1 _
def eF_12_writeTo (s : eh_F) (p0 : Int32) (p1 : Int32) (p2 np2 : Nat) (p3 : Int32) (p4 : Int32) : Option (eh_F) := Option.bind (eh_loop (fun (r4 : (Int32 × eh_F) → Option (eh_F)) (t1 : Int32 × eh_F) => if t1.1 < p4 then (if eh_in (p3 + t1.1) np2 then Option.bind (eF_12_storeAt t1.2 p0 (p1 + t1.1) 1 (t1.2.1 p2 (eh_ix (p3 + t1.1)))) (fun q6 => eh_V ((t1.1 + 1) : Int32) (fun x7 => r4 (x7, q6))) else none) else (some t1.2)) eh_FU (0, s)) (fun (e2 : eh_F) => some e2)
set_option maxHeartbeats 4000000 in
set_option maxRecDepth 100000 in
theorem eS_12_writeTo (g : eh_P) (s : eh_F) (p0 : Int32) (p1 : Int32) (p2 np2 : Nat) (p3 : Int32) (p4 : Int32) (hp2 : eh_SH[p2]? = some (101, np2)) : eh_Sim g eM_12_writeTo (eh_R 3 0 0) eh_eV 0 0 0 (eh_en 7 [.ref 127, .int p0, .int p1, .ref p2, .int p3, .int p4]) [] (eh_FW s) (eF_12_writeTo s p0 p1 p2 np2 p3 p4) := by
  unfold eF_12_writeTo
  refine ef_top (L := [some (.ref 127), some (.int p0), some (.int p1), some (.ref p2), some (.int p3), some (.int p4), none]) rfl ?_
  refine es_blk (pc' := 3) (L' := [some (.ref 127), some (.int p0), some (.int p1), some (.ref p2), some (.int p3), some (.int p4), some (.int 0)]) (st' := []) [(.iconst 0, 0), (.istore 6, 0)] (by decide +kernel) rfl rfl ?_
  refine ef_loop1 (n := eh_FU) (i := (0, s)) (px := 33) (fun (t1 : Int32 × eh_F) => [some (.ref 127), some (.int p0), some (.int p1), some (.ref p2), some (.int p3), some (.int p4), some (.int t1.1)]) (fun (t1 : Int32 × eh_F) => []) (fun (t1 : Int32 × eh_F) => eh_FW t1.2) (fun (e2 : eh_F) => [none, none, none, none, none, none, none]) (fun (e2 : eh_F) => []) (fun (e2 : eh_F) => eh_FW e2) (fun e2 => ?_) (fun K3 HxK3_0 r4 Hr4 t1 => ?_)
  · exact es_ret rfl rfl rfl ⟨by decide +kernel, rfl⟩ (Nat.le_refl _) (Nat.le_refl _)
  · refine es_blk (pc' := 7) (L' := [some (.ref 127), some (.int p0), some (.int p1), some (.ref p2), some (.int p3), some (.int p4), some (.int t1.1)]) (st' := [.int p4, .int t1.1]) [(.iload 6, 0), (.iload 5, 0)] (by decide +kernel) rfl rfl ?_
    refine es_ige (tgt := 33) (off := (26)) (by decide +kernel) (by decide) (fun h5 => ?_) (fun h5 => ?_)
    · refine es_blk (pc' := 23) (L' := [some (.ref 127), some (.int p0), some (.int p1), some (.ref p2), some (.int p3), some (.int p4), some (.int t1.1)]) (st' := [.int (p3 + t1.1), .ref p2, .int 1, .int (p1 + t1.1), .int p0, .ref 127]) [(.aload_n 0, 0), (.iload_n 1, 0), (.iload_n 2, 0), (.iload 6, 0), (.iadd, 0), (.iconst 1, 1), (.aload_n 3, 0), (.iload 4, 0), (.iload 6, 0), (.iadd, 0)] (by decide +kernel) rfl rfl ?_
      refine ef_ald (k := p2) hp2 (Or.inr ⟨Or.inl rfl, rfl⟩) (by decide +kernel) (fun _ => ?_)
      refine ef_veV (d := 2) (k := 127) (As := [.int p0, .int (p1 + t1.1), .int 1, .int (t1.2.1 p2 (eh_ix (p3 + t1.1)))]) (st := []) eV_12_storeAt eK_12_386 (eS_12_storeAt g t1.2 p0 (p1 + t1.1) 1 (t1.2.1 p2 (eh_ix (p3 + t1.1)))) rfl rfl (Nat.le_of_ble_eq_true rfl) rfl (Nat.le_of_ble_eq_true rfl) ⟨Nat.le_of_ble_eq_true rfl, Nat.le_of_ble_eq_true rfl⟩ ⟨Nat.le_refl _, Nat.le_refl _⟩ (by decide +kernel) (fun q6 _ => ?_)
      refine es_blk (pc' := 30) (L' := [some (.ref 127), some (.int p0), some (.int p1), some (.ref p2), some (.int p3), some (.int p4), some (.int (t1.1 + 1))]) (st' := []) [(.iinc 6 1, 1)] (by decide +kernel) rfl rfl ?_
      refine ef_V (fun x7 => [some (.ref 127), some (.int p0), some (.int p1), some (.ref p2), some (.int p3), some (.int p4), some (.int x7)]) (fun _ => []) (fun _ => eh_FW q6) (fun x7 => ?_)
      refine es_goto (tgt := 3) (off := (-27)) (by decide +kernel) (by decide) ?_
      exact Hr4 (x7, q6)
    refine ef_drop (L2 := [none, none, none, none, none, none, none]) [false, false, false, false, false, false, false] rfl rfl ?_
    exact HxK3_0 t1.2
def eF_12_entry (s : eh_F) (p0 : Int32) (p1 : Int32) (p2 : Int32) : Option (Int32 × eh_F) := Option.bind (eF_12_isHart s p0) (fun q1 => if q1 = 0 then (some ((-1), s)) else (Option.bind (eF_12_gather s p0) (fun q3 => eh_J (fun (u5 : Unit) => some ((-1), q3)) (fun j4 => if p1 < 0 then (j4 ()) else (if p1 < (q3.1 127 48) then (eh_J (fun (a9 : Int32) => some (a9, q3)) (fun j8 => if p2 = 0 then (if eh_in p1 13 then j8 (q3.1 170 (eh_ix p1)) else none) else (if p2 = 1 then (if eh_in p1 13 then j8 (q3.1 171 (eh_ix p1)) else none) else (if p2 = 2 then (if eh_in p1 13 then j8 (q3.1 172 (eh_ix p1)) else none) else (j8 (-1)))))) else (j4 ()))))))
set_option maxHeartbeats 4000000 in
set_option maxRecDepth 100000 in
theorem eS_12_entry (g : eh_P) (s : eh_F) (p0 : Int32) (p1 : Int32) (p2 : Int32) : eh_Sim g eM_12_entry (eh_R 3 0 0) eh_eI 0 0 0 (eh_en 4 [.ref 127, .int p0, .int p1, .int p2]) [] (eh_FW s) (eF_12_entry s p0 p1 p2) := by
  unfold eF_12_entry
  refine ef_top (L := [some (.ref 127), some (.int p0), some (.int p1), some (.int p2)]) rfl ?_
  refine es_blk (pc' := 1) (L' := [some (.ref 127), some (.int p0), some (.int p1), some (.int p2)]) (st' := [.int p0]) [(.iload_n 1, 0)] (by decide +kernel) rfl rfl ?_
  refine ef_spI (d := 1) (As := [.int p0]) (st := []) eV_12_isHart eK_12_632 (eS_12_isHart g s p0) rfl (Nat.le_of_ble_eq_true rfl) rfl (Nat.le_of_ble_eq_true rfl) ⟨Nat.le_of_ble_eq_true rfl, Nat.le_of_ble_eq_true rfl⟩ ⟨Nat.le_refl _, Nat.le_refl _⟩ (by decide +kernel) (fun q1 _ => ?_)
  refine es_ne (tgt := 9) (off := (5)) (by decide +kernel) (by decide) (fun h2 => ?_) (fun h2 => ?_)
  · refine es_blk (pc' := 8) (L' := [some (.ref 127), some (.int p0), some (.int p1), some (.int p2)]) (st' := [.int (-1)]) [(.iconst (-1), (-1))] (by decide +kernel) rfl rfl ?_
    exact es_ret rfl rfl rfl ⟨by decide +kernel, _, rfl, rfl⟩ (Nat.le_refl _) (Nat.le_refl _)
  refine es_blk (pc' := 11) (L' := [some (.ref 127), some (.int p0), some (.int p1), some (.int p2)]) (st' := [.int p0, .ref 127]) [(.aload_n 0, 0), (.iload_n 1, 0)] (by decide +kernel) rfl rfl ?_
  refine ef_veV (d := 2) (k := 127) (As := [.int p0]) (st := []) eV_12_gather eK_12_337 (eS_12_gather g s p0) rfl rfl (Nat.le_of_ble_eq_true rfl) rfl (Nat.le_of_ble_eq_true rfl) ⟨Nat.le_of_ble_eq_true rfl, Nat.le_of_ble_eq_true rfl⟩ ⟨Nat.le_refl _, Nat.le_refl _⟩ (by decide +kernel) (fun q3 _ => ?_)
  refine es_blk (pc' := 15) (L' := [some (.ref 127), some (.int p0), some (.int p1), some (.int p2)]) (st' := [.int p1]) [(.iload_n 2, 0)] (by decide +kernel) rfl rfl ?_
  refine ef_J (X := fun j4 => ∀ (u5 : Unit), eh_Sim g eM_12_entry (eh_R 3 0 0) eh_eI 0 0 26 [none, none, none, none] [] (eh_FW q3) ((j4 u5).bind some)) ?_ (fun j4 Hj4 => ?_)
  · intro u5
    refine es_blk (pc' := 27) (L' := [none, none, none, none]) (st' := [.int (-1)]) [(.iconst (-1), (-1))] (by decide +kernel) rfl rfl ?_
    exact es_ret rfl rfl rfl ⟨by decide +kernel, _, rfl, rfl⟩ (Nat.le_refl _) (Nat.le_refl _)
  refine es_lt (tgt := 26) (off := (11)) (by decide +kernel) (by decide) (fun h6 => ?_) (fun h6 => ?_)
  · refine ef_drop (L2 := [none, none, none, none]) [false, false, false, false] rfl rfl ?_
    exact Hj4 ()
  refine es_blk (pc' := 20) (L' := [some (.ref 127), some (.int p0), some (.int p1), some (.int p2)]) (st' := [.ref 127, .int p1]) [(.iload_n 2, 0), (.aload_n 0, 0)] (by decide +kernel) rfl rfl ?_
  refine ef_getI (k := 127) (j := 48) rfl eL_12_323 (by decide) (by decide +kernel) ?_
  refine es_ilt (tgt := 28) (off := (5)) (by decide +kernel) (by decide) (fun h7 => ?_) (fun h7 => ?_)
  · refine es_blk (pc' := 29) (L' := [some (.ref 127), some (.int p0), some (.int p1), some (.int p2)]) (st' := [.int p2]) [(.iload_n 3, 0)] (by decide +kernel) rfl rfl ?_
    refine ef_J (X := fun j8 => ∀ (a9 : Int32), eh_Sim g eM_12_entry (eh_R 3 0 0) eh_eI 0 0 70 [none, none, none, none] [.int a9] (eh_FW q3) ((j8 a9).bind some)) ?_ (fun j8 Hj8 => ?_)
    · intro a9
      exact es_ret rfl rfl rfl ⟨by decide +kernel, _, rfl, rfl⟩ (Nat.le_refl _) (Nat.le_refl _)
    refine es_ne (tgt := 41) (off := (12)) (by decide +kernel) (by decide) (fun h10 => ?_) (fun h10 => ?_)
    · refine es_blk (pc' := 33) (L' := [some (.ref 127), some (.int p0), some (.int p1), some (.int p2)]) (st' := [.ref 127]) [(.aload_n 0, 0)] (by decide +kernel) rfl rfl ?_
      refine ef_getP (k := 127) (j := 45) (q := 170) rfl eL_12_139 rfl rfl rfl (by decide +kernel) ?_
      refine es_blk (pc' := 37) (L' := [some (.ref 127), some (.int p0), some (.int p1), some (.int p2)]) (st' := [.int p1, .ref 170]) [(.iload_n 2, 0)] (by decide +kernel) rfl rfl ?_
      refine ef_ald (k := 170) rfl (Or.inl ⟨rfl, rfl⟩) (by decide +kernel) (fun _ => ?_)
      refine es_goto (tgt := 70) (off := (32)) (by decide +kernel) (by decide) ?_
      refine ef_drop (L2 := [none, none, none, none]) [false, false, false, false] rfl rfl ?_
      exact Hj8 _
    refine es_blk (pc' := 43) (L' := [some (.ref 127), some (.int p0), some (.int p1), some (.int p2)]) (st' := [.int 1, .int p2]) [(.iload_n 3, 0), (.iconst 1, 1)] (by decide +kernel) rfl rfl ?_
    refine es_ine (tgt := 55) (off := (12)) (by decide +kernel) (by decide) (fun h11 => ?_) (fun h11 => ?_)
    · refine es_blk (pc' := 47) (L' := [some (.ref 127), some (.int p0), some (.int p1), some (.int p2)]) (st' := [.ref 127]) [(.aload_n 0, 0)] (by decide +kernel) rfl rfl ?_
      refine ef_getP (k := 127) (j := 46) (q := 171) rfl eL_12_142 rfl rfl rfl (by decide +kernel) ?_
      refine es_blk (pc' := 51) (L' := [some (.ref 127), some (.int p0), some (.int p1), some (.int p2)]) (st' := [.int p1, .ref 171]) [(.iload_n 2, 0)] (by decide +kernel) rfl rfl ?_
      refine ef_ald (k := 171) rfl (Or.inl ⟨rfl, rfl⟩) (by decide +kernel) (fun _ => ?_)
      refine es_goto (tgt := 70) (off := (18)) (by decide +kernel) (by decide) ?_
      refine ef_drop (L2 := [none, none, none, none]) [false, false, false, false] rfl rfl ?_
      exact Hj8 _
    refine es_blk (pc' := 57) (L' := [some (.ref 127), some (.int p0), some (.int p1), some (.int p2)]) (st' := [.int 2, .int p2]) [(.iload_n 3, 0), (.iconst 2, 2)] (by decide +kernel) rfl rfl ?_
    refine es_ine (tgt := 69) (off := (12)) (by decide +kernel) (by decide) (fun h12 => ?_) (fun h12 => ?_)
    · refine es_blk (pc' := 61) (L' := [some (.ref 127), some (.int p0), some (.int p1), some (.int p2)]) (st' := [.ref 127]) [(.aload_n 0, 0)] (by decide +kernel) rfl rfl ?_
      refine ef_getP (k := 127) (j := 47) (q := 172) rfl eL_12_145 rfl rfl rfl (by decide +kernel) ?_
      refine es_blk (pc' := 65) (L' := [some (.ref 127), some (.int p0), some (.int p1), some (.int p2)]) (st' := [.int p1, .ref 172]) [(.iload_n 2, 0)] (by decide +kernel) rfl rfl ?_
      refine ef_ald (k := 172) rfl (Or.inl ⟨rfl, rfl⟩) (by decide +kernel) (fun _ => ?_)
      refine es_goto (tgt := 70) (off := (4)) (by decide +kernel) (by decide) ?_
      refine ef_drop (L2 := [none, none, none, none]) [false, false, false, false] rfl rfl ?_
      exact Hj8 _
    refine es_blk (pc' := 70) (L' := [some (.ref 127), some (.int p0), some (.int p1), some (.int p2)]) (st' := [.int (-1)]) [(.iconst (-1), (-1))] (by decide +kernel) rfl rfl ?_
    refine ef_drop (L2 := [none, none, none, none]) [false, false, false, false] rfl rfl ?_
    exact Hj8 _
  refine ef_drop (L2 := [none, none, none, none]) [false, false, false, false] rfl rfl ?_
  exact Hj4 ()
def eF_12_outside (s : eh_F)  : Option (Int64) := Option.bind (eh_loop (fun (r95 : (Int64 × Int32) → Option (Int64)) (t1 : Int64 × Int32) => if t1.2 < 131072 then (eh_J (fun (a98 : Int32) => Option.bind (eF_12_on s t1.1 a98) (fun q99 => eh_V ((t1.2 + 4) : Int32) (fun x100 => r95 (q99, x100)))) (fun j97 => eh_J (fun (u102 : Unit) => Option.bind (eF_12_word s t1.2) (fun q103 => j97 q103)) (fun j101 => if (eh_rem t1.2 256) = 0 then (Option.bind (eF_12_isOpen s t1.2) (fun q105 => if q105 = 0 then (j97 0) else (j101 ()))) else (j101 ())))) else (some t1.1)) eh_FU (1, 0)) (fun (e2 : Int64) => Option.bind (eh_loop (fun (r66 : (Int64 × Int32) → Option (Int64)) (t3 : Int64 × Int32) => if t3.2 < 2 then (Option.bind (eh_loop (fun (r90 : (Int64 × Int32) → Option (Int64)) (t68 : Int64 × Int32) => if t68.2 < 32 then (if eh_in ((32 * t3.2) + t68.2) 448 then Option.bind (eF_12_on s t68.1 (s.1 129 (eh_ix ((32 * t3.2) + t68.2)))) (fun q92 => eh_V ((t68.2 + 1) : Int32) (fun x93 => r90 (q92, x93))) else none) else (some t68.1)) eh_FU (t3.1, 1)) (fun (e69 : Int64) => if eh_in t3.2 14 then Option.bind (eF_12_on s e69 (s.1 130 (eh_ix t3.2))) (fun q70 => if eh_in t3.2 2 then Option.bind (eF_12_on s q70 (s.1 131 (eh_ix t3.2))) (fun q71 => if eh_in t3.2 2 then eh_J (fun (a73 : Int32) => Option.bind (eF_12_on s q71 a73) (fun q74 => if eh_in t3.2 2 then Option.bind (eF_12_on s q74 (s.1 144 (eh_ix t3.2))) (fun q75 => if eh_in t3.2 2 then Option.bind (eF_12_on s q75 (s.1 133 (eh_ix t3.2))) (fun q76 => if eh_in t3.2 2 then Option.bind (eF_12_on s q76 (s.1 134 (eh_ix t3.2))) (fun q77 => if eh_in t3.2 2 then Option.bind (eF_12_on s q77 (s.1 135 (eh_ix t3.2))) (fun q78 => if eh_in t3.2 2 then Option.bind (eF_12_on s q78 (s.1 136 (eh_ix t3.2))) (fun q79 => if eh_in t3.2 2 then Option.bind (eF_12_on s q79 (s.1 137 (eh_ix t3.2))) (fun q80 => if eh_in t3.2 2 then Option.bind (eF_12_on s q80 (s.1 138 (eh_ix t3.2))) (fun q81 => if eh_in t3.2 2 then Option.bind (eF_12_on s q81 (s.1 139 (eh_ix t3.2))) (fun q82 => if eh_in t3.2 2 then Option.bind (eF_12_on s q82 (eh_shr (s.1 140 (eh_ix t3.2)) 1)) (fun q83 => if eh_in t3.2 2 then Option.bind (eF_12_on s q83 (s.1 141 (eh_ix t3.2))) (fun q84 => if eh_in t3.2 2 then Option.bind (eF_12_on s q84 (s.1 142 (eh_ix t3.2))) (fun q85 => if eh_in t3.2 2 then Option.bind (eF_12_on s q85 (s.1 143 (eh_ix t3.2))) (fun q86 => eh_V ((t3.2 + 1) : Int32) (fun x87 => r66 (q86, x87))) else none) else none) else none) else none) else none) else none) else none) else none) else none) else none) else none) else none)) (fun j72 => if (s.1 132 (eh_ix t3.2)) = 0 then (j72 0) else (j72 1)) else none) else none) else none)) else (some t3.1)) eh_FU (e2, 0)) (fun (e4 : Int64) => Option.bind (eF_12_on s e4 (s.1 127 20)) (fun q5 => Option.bind (eh_loop (fun (r56 : (Int64 × Int32) → Option (Int64)) (t6 : Int64 × Int32) => if t6.2 < 12 then (if eh_in t6.2 12 then Option.bind (eF_12_on s t6.1 (s.1 164 (eh_ix t6.2))) (fun q58 => if eh_in t6.2 12 then eh_J (fun (a60 : Int64) => eh_V ((t6.2 + 1) : Int32) (fun x61 => r56 (a60, x61))) (fun j59 => if (s.1 164 (eh_ix t6.2)) = 0 then (j59 q58) else (if eh_in t6.2 12 then Option.bind (eF_12_on s q58 (s.1 165 (eh_ix t6.2))) (fun q63 => if eh_in t6.2 12 then Option.bind (eF_12_on s q63 (s.1 166 (eh_ix t6.2))) (fun q64 => j59 q64) else none) else none)) else none) else none) else (some t6.1)) eh_FU (q5, 0)) (fun (e7 : Int64) => Option.bind (eh_loop (fun (r50 : (Int64 × Int32) → Option (Int64)) (t8 : Int64 × Int32) => if t8.2 < 6 then (if eh_in t8.2 6 then Option.bind (eF_12_on s t8.1 (s.1 155 (eh_ix t8.2))) (fun q52 => if eh_in t8.2 6 then Option.bind (eF_12_on s q52 (s.1 158 (eh_ix t8.2))) (fun q53 => eh_V ((t8.2 + 1) : Int32) (fun x54 => r50 (q53, x54))) else none) else none) else (some t8.1)) eh_FU (e7, 0)) (fun (e9 : Int64) => Option.bind (eh_loop (fun (r45 : (Int64 × Int32) → Option (Int64)) (t10 : Int64 × Int32) => if t10.2 < 12 then (if eh_in t10.2 12 then Option.bind (eF_12_on s t10.1 (s.1 148 (eh_ix t10.2))) (fun q47 => eh_V ((t10.2 + 1) : Int32) (fun x48 => r45 (q47, x48))) else none) else (some t10.1)) eh_FU (e9, 0)) (fun (e11 : Int64) => Option.bind (eF_12_on s e11 (s.1 127 52)) (fun q12 => Option.bind (eh_loop (fun (r40 : (Int64 × Int32) → Option (Int64)) (t13 : Int64 × Int32) => if t13.2 < (s.1 127 52) then (if eh_in t13.2 1024 then Option.bind (eF_12_on s t13.1 ((s.1 174 (eh_ix t13.2)) &&& 255)) (fun q42 => eh_V ((t13.2 + 1) : Int32) (fun x43 => r40 (q42, x43))) else none) else (some t13.1)) eh_FU (q12, 0)) (fun (e14 : Int64) => Option.bind (eh_loop (fun (r34 : (Int64 × Int32) → Option (Int64)) (t15 : Int64 × Int32) => if t15.2 < 2048 then (Option.bind (eF_12_littleWord s 175 8192 (4 * t15.2)) (fun q36 => Option.bind (eF_12_on s t15.1 q36) (fun q37 => eh_V ((t15.2 + 1) : Int32) (fun x38 => r34 (q37, x38))))) else (some t15.1)) eh_FU (e14, 0)) (fun (e16 : Int64) => Option.bind (eF_12_on s e16 (s.1 127 58)) (fun q17 => Option.bind (eF_12_on s q17 (s.1 127 59)) (fun q18 => Option.bind (eF_12_on s q18 (s.1 127 60)) (fun q19 => Option.bind (eF_12_on s q19 (s.1 127 67)) (fun q20 => Option.bind (eF_12_on s q20 (s.1 127 62)) (fun q21 => Option.bind (eh_loop (fun (r29 : (Int64 × Int32) → Option (Int64)) (t22 : Int64 × Int32) => if t22.2 < (s.1 127 62) then (if eh_in t22.2 16 then Option.bind (eF_12_on s t22.1 (s.1 180 (eh_ix t22.2))) (fun q31 => eh_V ((t22.2 + 1) : Int32) (fun x32 => r29 (q31, x32))) else none) else (some t22.1)) eh_FU (q21, 0)) (fun (e23 : Int64) => eh_J (fun (a25 : Int32) => Option.bind (eF_12_on s e23 a25) (fun q26 => some q26)) (fun j24 => if (s.1 127 21) = 0 then (j24 0) else (j24 1)))))))))))))))))
set_option maxHeartbeats 4000000 in
set_option maxRecDepth 100000 in
theorem eS_12_outside (g : eh_P) (s : eh_F)  : eh_Sim g eM_12_outside (eh_R 3 0 0) (eh_pL s) 0 0 0 (eh_en 5 [.ref 127]) [] (eh_FW s) (eF_12_outside s) := by
  unfold eF_12_outside
  refine ef_top (L := [some (.ref 127), none, none, none, none]) rfl ?_
  refine es_blk (pc' := 4) (L' := [some (.ref 127), some (.long 1), none, some (.int 0), none]) (st' := []) [(.lconst 1, 0), (.lstore_n 1, 0), (.iconst 0, 0), (.istore_n 3, 0)] (by decide +kernel) rfl rfl ?_
  refine ef_loop1 (n := eh_FU) (i := (1, 0)) (px := 46) (fun (t1 : Int64 × Int32) => [some (.ref 127), some (.long t1.1), none, some (.int t1.2), none]) (fun (t1 : Int64 × Int32) => []) (fun (t1 : Int64 × Int32) => eh_FW s) (fun (e2 : Int64) => [some (.ref 127), some (.long e2), none, none, none]) (fun (e2 : Int64) => []) (fun (e2 : Int64) => eh_FW s) (fun e2 => ?_) (fun K94 HxK94_0 r95 Hr95 t1 => ?_)
  · refine es_blk (pc' := 48) (L' := [some (.ref 127), some (.long e2), none, some (.int 0), none]) (st' := []) [(.iconst 0, 0), (.istore_n 3, 0)] (by decide +kernel) rfl rfl ?_
    refine ef_loop1 (n := eh_FU) (i := (e2, 0)) (px := 247) (fun (t3 : Int64 × Int32) => [some (.ref 127), some (.long t3.1), none, some (.int t3.2), none]) (fun (t3 : Int64 × Int32) => []) (fun (t3 : Int64 × Int32) => eh_FW s) (fun (e4 : Int64) => [some (.ref 127), some (.long e4), none, none, none]) (fun (e4 : Int64) => []) (fun (e4 : Int64) => eh_FW s) (fun e4 => ?_) (fun K65 HxK65_0 r66 Hr66 t3 => ?_)
    · refine es_blk (pc' := 249) (L' := [some (.ref 127), some (.long e4), none, none, none]) (st' := [.ref 127, .long e4]) [(.lload_n 1, 0), (.aload_n 0, 0)] (by decide +kernel) rfl rfl ?_
      refine ef_getI (k := 127) (j := 20) rfl eL_12_280 (by decide) (by decide +kernel) ?_
      refine ef_spL (d := 1) (As := [.long e4, .int (s.1 127 20)]) (st := []) eV_12_on eK_12_644 (eS_12_on g s e4 (s.1 127 20)) rfl (Nat.le_of_ble_eq_true rfl) rfl (Nat.le_of_ble_eq_true rfl) ⟨Nat.le_of_ble_eq_true rfl, Nat.le_of_ble_eq_true rfl⟩ ⟨Nat.le_refl _, Nat.le_refl _⟩ (by decide +kernel) (fun q5 _ => ?_)
      refine es_blk (pc' := 258) (L' := [some (.ref 127), some (.long q5), none, some (.int 0), none]) (st' := []) [(.lstore_n 1, 0), (.iconst 0, 0), (.istore_n 3, 0)] (by decide +kernel) rfl rfl ?_
      refine ef_loop1 (n := eh_FU) (i := (q5, 0)) (px := 314) (fun (t6 : Int64 × Int32) => [some (.ref 127), some (.long t6.1), none, some (.int t6.2), none]) (fun (t6 : Int64 × Int32) => []) (fun (t6 : Int64 × Int32) => eh_FW s) (fun (e7 : Int64) => [some (.ref 127), some (.long e7), none, none, none]) (fun (e7 : Int64) => []) (fun (e7 : Int64) => eh_FW s) (fun e7 => ?_) (fun K55 HxK55_0 r56 Hr56 t6 => ?_)
      · refine es_blk (pc' := 316) (L' := [some (.ref 127), some (.long e7), none, some (.int 0), none]) (st' := []) [(.iconst 0, 0), (.istore_n 3, 0)] (by decide +kernel) rfl rfl ?_
        refine ef_loop1 (n := eh_FU) (i := (e7, 0)) (px := 348) (fun (t8 : Int64 × Int32) => [some (.ref 127), some (.long t8.1), none, some (.int t8.2), none]) (fun (t8 : Int64 × Int32) => []) (fun (t8 : Int64 × Int32) => eh_FW s) (fun (e9 : Int64) => [some (.ref 127), some (.long e9), none, none, none]) (fun (e9 : Int64) => []) (fun (e9 : Int64) => eh_FW s) (fun e9 => ?_) (fun K49 HxK49_0 r50 Hr50 t8 => ?_)
        · refine es_blk (pc' := 350) (L' := [some (.ref 127), some (.long e9), none, some (.int 0), none]) (st' := []) [(.iconst 0, 0), (.istore_n 3, 0)] (by decide +kernel) rfl rfl ?_
          refine ef_loop1 (n := eh_FU) (i := (e9, 0)) (px := 373) (fun (t10 : Int64 × Int32) => [some (.ref 127), some (.long t10.1), none, some (.int t10.2), none]) (fun (t10 : Int64 × Int32) => []) (fun (t10 : Int64 × Int32) => eh_FW s) (fun (e11 : Int64) => [some (.ref 127), some (.long e11), none, none, none]) (fun (e11 : Int64) => []) (fun (e11 : Int64) => eh_FW s) (fun e11 => ?_) (fun K44 HxK44_0 r45 Hr45 t10 => ?_)
          · refine es_blk (pc' := 375) (L' := [some (.ref 127), some (.long e11), none, none, none]) (st' := [.ref 127, .long e11]) [(.lload_n 1, 0), (.aload_n 0, 0)] (by decide +kernel) rfl rfl ?_
            refine ef_getI (k := 127) (j := 52) rfl eL_12_293 (by decide) (by decide +kernel) ?_
            refine ef_spL (d := 1) (As := [.long e11, .int (s.1 127 52)]) (st := []) eV_12_on eK_12_644 (eS_12_on g s e11 (s.1 127 52)) rfl (Nat.le_of_ble_eq_true rfl) rfl (Nat.le_of_ble_eq_true rfl) ⟨Nat.le_of_ble_eq_true rfl, Nat.le_of_ble_eq_true rfl⟩ ⟨Nat.le_refl _, Nat.le_refl _⟩ (by decide +kernel) (fun q12 _ => ?_)
            refine es_blk (pc' := 384) (L' := [some (.ref 127), some (.long q12), none, some (.int 0), none]) (st' := []) [(.lstore_n 1, 0), (.iconst 0, 0), (.istore_n 3, 0)] (by decide +kernel) rfl rfl ?_
            refine ef_loop1 (n := eh_FU) (i := (q12, 0)) (px := 413) (fun (t13 : Int64 × Int32) => [some (.ref 127), some (.long t13.1), none, some (.int t13.2), none]) (fun (t13 : Int64 × Int32) => []) (fun (t13 : Int64 × Int32) => eh_FW s) (fun (e14 : Int64) => [some (.ref 127), some (.long e14), none, none, none]) (fun (e14 : Int64) => []) (fun (e14 : Int64) => eh_FW s) (fun e14 => ?_) (fun K39 HxK39_0 r40 Hr40 t13 => ?_)
            · refine es_blk (pc' := 415) (L' := [some (.ref 127), some (.long e14), none, some (.int 0), none]) (st' := []) [(.iconst 0, 0), (.istore_n 3, 0)] (by decide +kernel) rfl rfl ?_
              refine ef_loop1 (n := eh_FU) (i := (e14, 0)) (px := 443) (fun (t15 : Int64 × Int32) => [some (.ref 127), some (.long t15.1), none, some (.int t15.2), none]) (fun (t15 : Int64 × Int32) => []) (fun (t15 : Int64 × Int32) => eh_FW s) (fun (e16 : Int64) => [some (.ref 127), some (.long e16), none, none, none]) (fun (e16 : Int64) => []) (fun (e16 : Int64) => eh_FW s) (fun e16 => ?_) (fun K33 HxK33_0 r34 Hr34 t15 => ?_)
              · refine es_blk (pc' := 445) (L' := [some (.ref 127), some (.long e16), none, none, none]) (st' := [.ref 127, .long e16]) [(.lload_n 1, 0), (.aload_n 0, 0)] (by decide +kernel) rfl rfl ?_
                refine ef_getI (k := 127) (j := 58) rfl eL_12_296 (by decide) (by decide +kernel) ?_
                refine ef_spL (d := 1) (As := [.long e16, .int (s.1 127 58)]) (st := []) eV_12_on eK_12_644 (eS_12_on g s e16 (s.1 127 58)) rfl (Nat.le_of_ble_eq_true rfl) rfl (Nat.le_of_ble_eq_true rfl) ⟨Nat.le_of_ble_eq_true rfl, Nat.le_of_ble_eq_true rfl⟩ ⟨Nat.le_refl _, Nat.le_refl _⟩ (by decide +kernel) (fun q17 _ => ?_)
                refine es_blk (pc' := 452) (L' := [some (.ref 127), some (.long e16), none, none, none]) (st' := [.ref 127, .long q17]) [(.aload_n 0, 0)] (by decide +kernel) rfl rfl ?_
                refine ef_getI (k := 127) (j := 59) rfl eL_12_299 (by decide) (by decide +kernel) ?_
                refine ef_spL (d := 1) (As := [.long q17, .int (s.1 127 59)]) (st := []) eV_12_on eK_12_644 (eS_12_on g s q17 (s.1 127 59)) rfl (Nat.le_of_ble_eq_true rfl) rfl (Nat.le_of_ble_eq_true rfl) ⟨Nat.le_of_ble_eq_true rfl, Nat.le_of_ble_eq_true rfl⟩ ⟨Nat.le_refl _, Nat.le_refl _⟩ (by decide +kernel) (fun q18 _ => ?_)
                refine es_blk (pc' := 459) (L' := [some (.ref 127), some (.long e16), none, none, none]) (st' := [.ref 127, .long q18]) [(.aload_n 0, 0)] (by decide +kernel) rfl rfl ?_
                refine ef_getI (k := 127) (j := 60) rfl eL_12_302 (by decide) (by decide +kernel) ?_
                refine ef_spL (d := 1) (As := [.long q18, .int (s.1 127 60)]) (st := []) eV_12_on eK_12_644 (eS_12_on g s q18 (s.1 127 60)) rfl (Nat.le_of_ble_eq_true rfl) rfl (Nat.le_of_ble_eq_true rfl) ⟨Nat.le_of_ble_eq_true rfl, Nat.le_of_ble_eq_true rfl⟩ ⟨Nat.le_refl _, Nat.le_refl _⟩ (by decide +kernel) (fun q19 _ => ?_)
                refine es_blk (pc' := 466) (L' := [some (.ref 127), some (.long e16), none, none, none]) (st' := [.ref 127, .long q19]) [(.aload_n 0, 0)] (by decide +kernel) rfl rfl ?_
                refine ef_getI (k := 127) (j := 67) rfl eL_12_311 (by decide) (by decide +kernel) ?_
                refine ef_spL (d := 1) (As := [.long q19, .int (s.1 127 67)]) (st := []) eV_12_on eK_12_644 (eS_12_on g s q19 (s.1 127 67)) rfl (Nat.le_of_ble_eq_true rfl) rfl (Nat.le_of_ble_eq_true rfl) ⟨Nat.le_of_ble_eq_true rfl, Nat.le_of_ble_eq_true rfl⟩ ⟨Nat.le_refl _, Nat.le_refl _⟩ (by decide +kernel) (fun q20 _ => ?_)
                refine es_blk (pc' := 475) (L' := [some (.ref 127), some (.long q20), none, none, none]) (st' := [.ref 127, .long q20]) [(.lstore_n 1, 0), (.lload_n 1, 0), (.aload_n 0, 0)] (by decide +kernel) rfl rfl ?_
                refine ef_getI (k := 127) (j := 62) rfl eL_12_305 (by decide) (by decide +kernel) ?_
                refine ef_spL (d := 1) (As := [.long q20, .int (s.1 127 62)]) (st := []) eV_12_on eK_12_644 (eS_12_on g s q20 (s.1 127 62)) rfl (Nat.le_of_ble_eq_true rfl) rfl (Nat.le_of_ble_eq_true rfl) ⟨Nat.le_of_ble_eq_true rfl, Nat.le_of_ble_eq_true rfl⟩ ⟨Nat.le_refl _, Nat.le_refl _⟩ (by decide +kernel) (fun q21 _ => ?_)
                refine es_blk (pc' := 484) (L' := [some (.ref 127), some (.long q21), none, some (.int 0), none]) (st' := []) [(.lstore_n 1, 0), (.iconst 0, 0), (.istore_n 3, 0)] (by decide +kernel) rfl rfl ?_
                refine ef_loop1 (n := eh_FU) (i := (q21, 0)) (px := 509) (fun (t22 : Int64 × Int32) => [some (.ref 127), some (.long t22.1), none, some (.int t22.2), none]) (fun (t22 : Int64 × Int32) => []) (fun (t22 : Int64 × Int32) => eh_FW s) (fun (e23 : Int64) => [some (.ref 127), some (.long e23), none, none, none]) (fun (e23 : Int64) => []) (fun (e23 : Int64) => eh_FW s) (fun e23 => ?_) (fun K28 HxK28_0 r29 Hr29 t22 => ?_)
                · refine es_blk (pc' := 511) (L' := [some (.ref 127), some (.long e23), none, none, none]) (st' := [.ref 127, .long e23]) [(.lload_n 1, 0), (.aload_n 0, 0)] (by decide +kernel) rfl rfl ?_
                  refine ef_getI (k := 127) (j := 21) rfl eL_12_283 (by decide) (by decide +kernel) ?_
                  refine ef_J (X := fun j24 => ∀ (a25 : Int32), eh_Sim g eM_12_outside (eh_R 3 0 0) (eh_pL s) 0 0 522 [none, none, none, none, none] [.int a25, .long e23] (eh_FW s) ((j24 a25).bind some)) ?_ (fun j24 Hj24 => ?_)
                  · intro a25
                    refine ef_spL (d := 1) (As := [.long e23, .int a25]) (st := []) eV_12_on eK_12_644 (eS_12_on g s e23 a25) rfl (Nat.le_of_ble_eq_true rfl) rfl (Nat.le_of_ble_eq_true rfl) ⟨Nat.le_of_ble_eq_true rfl, Nat.le_of_ble_eq_true rfl⟩ ⟨Nat.le_refl _, Nat.le_refl _⟩ (by decide +kernel) (fun q26 _ => ?_)
                    exact es_ret rfl rfl rfl ⟨by decide +kernel, rfl⟩ (Nat.le_refl _) (Nat.le_refl _)
                  refine es_eq (tgt := 521) (off := (7)) (by decide +kernel) (by decide) (fun h27 => ?_) (fun h27 => ?_)
                  · refine es_blk (pc' := 522) (L' := [some (.ref 127), some (.long e23), none, none, none]) (st' := [.int 0, .long e23]) [(.iconst 0, 0)] (by decide +kernel) rfl rfl ?_
                    refine ef_drop (L2 := [none, none, none, none, none]) [false, false, true, true, true] rfl rfl ?_
                    exact Hj24 _
                  refine es_blk (pc' := 518) (L' := [some (.ref 127), some (.long e23), none, none, none]) (st' := [.int 1, .long e23]) [(.iconst 1, 1)] (by decide +kernel) rfl rfl ?_
                  refine es_goto (tgt := 522) (off := (4)) (by decide +kernel) (by decide) ?_
                  refine ef_drop (L2 := [none, none, none, none, none]) [false, false, true, true, true] rfl rfl ?_
                  exact Hj24 _
                · refine es_blk (pc' := 486) (L' := [some (.ref 127), some (.long t22.1), none, some (.int t22.2), none]) (st' := [.ref 127, .int t22.2]) [(.iload_n 3, 0), (.aload_n 0, 0)] (by decide +kernel) rfl rfl ?_
                  refine ef_getI (k := 127) (j := 62) rfl eL_12_305 (by decide) (by decide +kernel) ?_
                  refine es_ige (tgt := 509) (off := (20)) (by decide +kernel) (by decide) (fun h30 => ?_) (fun h30 => ?_)
                  · refine es_blk (pc' := 494) (L' := [some (.ref 127), some (.long t22.1), none, some (.int t22.2), none]) (st' := [.ref 127, .long t22.1]) [(.lload_n 1, 0), (.aload_n 0, 0)] (by decide +kernel) rfl rfl ?_
                    refine ef_getP (k := 127) (j := 61) (q := 180) rfl eL_12_169 rfl rfl rfl (by decide +kernel) ?_
                    refine es_blk (pc' := 498) (L' := [some (.ref 127), some (.long t22.1), none, some (.int t22.2), none]) (st' := [.int t22.2, .ref 180, .long t22.1]) [(.iload_n 3, 0)] (by decide +kernel) rfl rfl ?_
                    refine ef_ald (k := 180) rfl (Or.inl ⟨rfl, rfl⟩) (by decide +kernel) (fun _ => ?_)
                    refine ef_spL (d := 1) (As := [.long t22.1, .int (s.1 180 (eh_ix t22.2))]) (st := []) eV_12_on eK_12_644 (eS_12_on g s t22.1 (s.1 180 (eh_ix t22.2))) rfl (Nat.le_of_ble_eq_true rfl) rfl (Nat.le_of_ble_eq_true rfl) ⟨Nat.le_of_ble_eq_true rfl, Nat.le_of_ble_eq_true rfl⟩ ⟨Nat.le_refl _, Nat.le_refl _⟩ (by decide +kernel) (fun q31 _ => ?_)
                    refine es_blk (pc' := 506) (L' := [some (.ref 127), some (.long q31), none, some (.int (t22.2 + 1)), none]) (st' := []) [(.lstore_n 1, 0), (.iinc 3 1, 1)] (by decide +kernel) rfl rfl ?_
                    refine ef_V (fun x32 => [some (.ref 127), some (.long q31), none, some (.int x32), none]) (fun _ => []) (fun _ => eh_FW s) (fun x32 => ?_)
                    refine es_goto (tgt := 484) (off := (-22)) (by decide +kernel) (by decide) ?_
                    exact Hr29 (q31, x32)
                  refine ef_drop (L2 := [some (.ref 127), some (.long t22.1), none, none, none]) [true, true, true, false, true] rfl rfl ?_
                  exact HxK28_0 t22.1
              · refine es_blk (pc' := 419) (L' := [some (.ref 127), some (.long t15.1), none, some (.int t15.2), none]) (st' := [.int 2048, .int t15.2]) [(.iload_n 3, 0), (.sipush 2048, 2048)] (by decide +kernel) rfl rfl ?_
                refine es_ige (tgt := 443) (off := (24)) (by decide +kernel) (by decide) (fun h35 => ?_) (fun h35 => ?_)
                · refine es_blk (pc' := 424) (L' := [some (.ref 127), some (.long t15.1), none, some (.int t15.2), none]) (st' := [.ref 127, .long t15.1]) [(.lload_n 1, 0), (.aload_n 0, 0)] (by decide +kernel) rfl rfl ?_
                  refine ef_getP (k := 127) (j := 53) (q := 175) rfl eL_12_154 rfl rfl rfl (by decide +kernel) ?_
                  refine es_blk (pc' := 430) (L' := [some (.ref 127), some (.long t15.1), none, some (.int t15.2), none]) (st' := [.int (4 * t15.2), .ref 175, .long t15.1]) [(.iconst 4, 4), (.iload_n 3, 0), (.imul, 0)] (by decide +kernel) rfl rfl ?_
                  refine ef_spI (d := 1) (As := [.ref 175, .int (4 * t15.2)]) (st := [.long t15.1]) eV_12_littleWord eK_12_368 (eS_12_littleWord g s 175 8192 (4 * t15.2) rfl) rfl (Nat.le_of_ble_eq_true rfl) rfl (Nat.le_of_ble_eq_true rfl) ⟨Nat.le_of_ble_eq_true rfl, Nat.le_of_ble_eq_true rfl⟩ ⟨Nat.le_refl _, Nat.le_refl _⟩ (by decide +kernel) (fun q36 _ => ?_)
                  refine ef_spL (d := 1) (As := [.long t15.1, .int q36]) (st := []) eV_12_on eK_12_644 (eS_12_on g s t15.1 q36) rfl (Nat.le_of_ble_eq_true rfl) rfl (Nat.le_of_ble_eq_true rfl) ⟨Nat.le_of_ble_eq_true rfl, Nat.le_of_ble_eq_true rfl⟩ ⟨Nat.le_refl _, Nat.le_refl _⟩ (by decide +kernel) (fun q37 _ => ?_)
                  refine es_blk (pc' := 440) (L' := [some (.ref 127), some (.long q37), none, some (.int (t15.2 + 1)), none]) (st' := []) [(.lstore_n 1, 0), (.iinc 3 1, 1)] (by decide +kernel) rfl rfl ?_
                  refine ef_V (fun x38 => [some (.ref 127), some (.long q37), none, some (.int x38), none]) (fun _ => []) (fun _ => eh_FW s) (fun x38 => ?_)
                  refine es_goto (tgt := 415) (off := (-25)) (by decide +kernel) (by decide) ?_
                  exact Hr34 (q37, x38)
                refine ef_drop (L2 := [some (.ref 127), some (.long t15.1), none, none, none]) [true, true, true, false, true] rfl rfl ?_
                exact HxK33_0 t15.1
            · refine es_blk (pc' := 386) (L' := [some (.ref 127), some (.long t13.1), none, some (.int t13.2), none]) (st' := [.ref 127, .int t13.2]) [(.iload_n 3, 0), (.aload_n 0, 0)] (by decide +kernel) rfl rfl ?_
              refine ef_getI (k := 127) (j := 52) rfl eL_12_293 (by decide) (by decide +kernel) ?_
              refine es_ige (tgt := 413) (off := (24)) (by decide +kernel) (by decide) (fun h41 => ?_) (fun h41 => ?_)
              · refine es_blk (pc' := 394) (L' := [some (.ref 127), some (.long t13.1), none, some (.int t13.2), none]) (st' := [.ref 127, .long t13.1]) [(.lload_n 1, 0), (.aload_n 0, 0)] (by decide +kernel) rfl rfl ?_
                refine ef_getP (k := 127) (j := 51) (q := 174) rfl eL_12_151 rfl rfl rfl (by decide +kernel) ?_
                refine es_blk (pc' := 398) (L' := [some (.ref 127), some (.long t13.1), none, some (.int t13.2), none]) (st' := [.int t13.2, .ref 174, .long t13.1]) [(.iload_n 3, 0)] (by decide +kernel) rfl rfl ?_
                refine ef_ald (k := 174) rfl (Or.inr ⟨Or.inl rfl, rfl⟩) (by decide +kernel) (fun _ => ?_)
                refine es_blk (pc' := 403) (L' := [some (.ref 127), some (.long t13.1), none, some (.int t13.2), none]) (st' := [.int ((s.1 174 (eh_ix t13.2)) &&& 255), .long t13.1]) [(.sipush 255, 255), (.iand, 0)] (by decide +kernel) rfl rfl ?_
                refine ef_spL (d := 1) (As := [.long t13.1, .int ((s.1 174 (eh_ix t13.2)) &&& 255)]) (st := []) eV_12_on eK_12_644 (eS_12_on g s t13.1 ((s.1 174 (eh_ix t13.2)) &&& 255)) rfl (Nat.le_of_ble_eq_true rfl) rfl (Nat.le_of_ble_eq_true rfl) ⟨Nat.le_of_ble_eq_true rfl, Nat.le_of_ble_eq_true rfl⟩ ⟨Nat.le_refl _, Nat.le_refl _⟩ (by decide +kernel) (fun q42 _ => ?_)
                refine es_blk (pc' := 410) (L' := [some (.ref 127), some (.long q42), none, some (.int (t13.2 + 1)), none]) (st' := []) [(.lstore_n 1, 0), (.iinc 3 1, 1)] (by decide +kernel) rfl rfl ?_
                refine ef_V (fun x43 => [some (.ref 127), some (.long q42), none, some (.int x43), none]) (fun _ => []) (fun _ => eh_FW s) (fun x43 => ?_)
                refine es_goto (tgt := 384) (off := (-26)) (by decide +kernel) (by decide) ?_
                exact Hr40 (q42, x43)
              refine ef_drop (L2 := [some (.ref 127), some (.long t13.1), none, none, none]) [true, true, true, false, true] rfl rfl ?_
              exact HxK39_0 t13.1
          · refine es_blk (pc' := 353) (L' := [some (.ref 127), some (.long t10.1), none, some (.int t10.2), none]) (st' := [.int 12, .int t10.2]) [(.iload_n 3, 0), (.bipush 12, 12)] (by decide +kernel) rfl rfl ?_
            refine es_ige (tgt := 373) (off := (20)) (by decide +kernel) (by decide) (fun h46 => ?_) (fun h46 => ?_)
            · refine es_blk (pc' := 358) (L' := [some (.ref 127), some (.long t10.1), none, some (.int t10.2), none]) (st' := [.ref 127, .long t10.1]) [(.lload_n 1, 0), (.aload_n 0, 0)] (by decide +kernel) rfl rfl ?_
              refine ef_getP (k := 127) (j := 23) (q := 148) rfl eL_12_73 rfl rfl rfl (by decide +kernel) ?_
              refine es_blk (pc' := 362) (L' := [some (.ref 127), some (.long t10.1), none, some (.int t10.2), none]) (st' := [.int t10.2, .ref 148, .long t10.1]) [(.iload_n 3, 0)] (by decide +kernel) rfl rfl ?_
              refine ef_ald (k := 148) rfl (Or.inl ⟨rfl, rfl⟩) (by decide +kernel) (fun _ => ?_)
              refine ef_spL (d := 1) (As := [.long t10.1, .int (s.1 148 (eh_ix t10.2))]) (st := []) eV_12_on eK_12_644 (eS_12_on g s t10.1 (s.1 148 (eh_ix t10.2))) rfl (Nat.le_of_ble_eq_true rfl) rfl (Nat.le_of_ble_eq_true rfl) ⟨Nat.le_of_ble_eq_true rfl, Nat.le_of_ble_eq_true rfl⟩ ⟨Nat.le_refl _, Nat.le_refl _⟩ (by decide +kernel) (fun q47 _ => ?_)
              refine es_blk (pc' := 370) (L' := [some (.ref 127), some (.long q47), none, some (.int (t10.2 + 1)), none]) (st' := []) [(.lstore_n 1, 0), (.iinc 3 1, 1)] (by decide +kernel) rfl rfl ?_
              refine ef_V (fun x48 => [some (.ref 127), some (.long q47), none, some (.int x48), none]) (fun _ => []) (fun _ => eh_FW s) (fun x48 => ?_)
              refine es_goto (tgt := 350) (off := (-20)) (by decide +kernel) (by decide) ?_
              exact Hr45 (q47, x48)
            refine ef_drop (L2 := [some (.ref 127), some (.long t10.1), none, none, none]) [true, true, true, false, true] rfl rfl ?_
            exact HxK44_0 t10.1
        · refine es_blk (pc' := 319) (L' := [some (.ref 127), some (.long t8.1), none, some (.int t8.2), none]) (st' := [.int 6, .int t8.2]) [(.iload_n 3, 0), (.bipush 6, 6)] (by decide +kernel) rfl rfl ?_
          refine es_ige (tgt := 348) (off := (29)) (by decide +kernel) (by decide) (fun h51 => ?_) (fun h51 => ?_)
          · refine es_blk (pc' := 324) (L' := [some (.ref 127), some (.long t8.1), none, some (.int t8.2), none]) (st' := [.ref 127, .long t8.1]) [(.lload_n 1, 0), (.aload_n 0, 0)] (by decide +kernel) rfl rfl ?_
            refine ef_getP (k := 127) (j := 30) (q := 155) rfl eL_12_94 rfl rfl rfl (by decide +kernel) ?_
            refine es_blk (pc' := 328) (L' := [some (.ref 127), some (.long t8.1), none, some (.int t8.2), none]) (st' := [.int t8.2, .ref 155, .long t8.1]) [(.iload_n 3, 0)] (by decide +kernel) rfl rfl ?_
            refine ef_ald (k := 155) rfl (Or.inl ⟨rfl, rfl⟩) (by decide +kernel) (fun _ => ?_)
            refine ef_spL (d := 1) (As := [.long t8.1, .int (s.1 155 (eh_ix t8.2))]) (st := []) eV_12_on eK_12_644 (eS_12_on g s t8.1 (s.1 155 (eh_ix t8.2))) rfl (Nat.le_of_ble_eq_true rfl) rfl (Nat.le_of_ble_eq_true rfl) ⟨Nat.le_of_ble_eq_true rfl, Nat.le_of_ble_eq_true rfl⟩ ⟨Nat.le_refl _, Nat.le_refl _⟩ (by decide +kernel) (fun q52 _ => ?_)
            refine es_blk (pc' := 333) (L' := [some (.ref 127), some (.long t8.1), none, some (.int t8.2), none]) (st' := [.ref 127, .long q52]) [(.aload_n 0, 0)] (by decide +kernel) rfl rfl ?_
            refine ef_getP (k := 127) (j := 33) (q := 158) rfl eL_12_103 rfl rfl rfl (by decide +kernel) ?_
            refine es_blk (pc' := 337) (L' := [some (.ref 127), some (.long t8.1), none, some (.int t8.2), none]) (st' := [.int t8.2, .ref 158, .long q52]) [(.iload_n 3, 0)] (by decide +kernel) rfl rfl ?_
            refine ef_ald (k := 158) rfl (Or.inl ⟨rfl, rfl⟩) (by decide +kernel) (fun _ => ?_)
            refine ef_spL (d := 1) (As := [.long q52, .int (s.1 158 (eh_ix t8.2))]) (st := []) eV_12_on eK_12_644 (eS_12_on g s q52 (s.1 158 (eh_ix t8.2))) rfl (Nat.le_of_ble_eq_true rfl) rfl (Nat.le_of_ble_eq_true rfl) ⟨Nat.le_of_ble_eq_true rfl, Nat.le_of_ble_eq_true rfl⟩ ⟨Nat.le_refl _, Nat.le_refl _⟩ (by decide +kernel) (fun q53 _ => ?_)
            refine es_blk (pc' := 345) (L' := [some (.ref 127), some (.long q53), none, some (.int (t8.2 + 1)), none]) (st' := []) [(.lstore_n 1, 0), (.iinc 3 1, 1)] (by decide +kernel) rfl rfl ?_
            refine ef_V (fun x54 => [some (.ref 127), some (.long q53), none, some (.int x54), none]) (fun _ => []) (fun _ => eh_FW s) (fun x54 => ?_)
            refine es_goto (tgt := 316) (off := (-29)) (by decide +kernel) (by decide) ?_
            exact Hr50 (q53, x54)
          refine ef_drop (L2 := [some (.ref 127), some (.long t8.1), none, none, none]) [true, true, true, false, true] rfl rfl ?_
          exact HxK49_0 t8.1
      · refine es_blk (pc' := 261) (L' := [some (.ref 127), some (.long t6.1), none, some (.int t6.2), none]) (st' := [.int 12, .int t6.2]) [(.iload_n 3, 0), (.bipush 12, 12)] (by decide +kernel) rfl rfl ?_
        refine es_ige (tgt := 314) (off := (53)) (by decide +kernel) (by decide) (fun h57 => ?_) (fun h57 => ?_)
        · refine es_blk (pc' := 266) (L' := [some (.ref 127), some (.long t6.1), none, some (.int t6.2), none]) (st' := [.ref 127, .long t6.1]) [(.lload_n 1, 0), (.aload_n 0, 0)] (by decide +kernel) rfl rfl ?_
          refine ef_getP (k := 127) (j := 39) (q := 164) rfl eL_12_121 rfl rfl rfl (by decide +kernel) ?_
          refine es_blk (pc' := 270) (L' := [some (.ref 127), some (.long t6.1), none, some (.int t6.2), none]) (st' := [.int t6.2, .ref 164, .long t6.1]) [(.iload_n 3, 0)] (by decide +kernel) rfl rfl ?_
          refine ef_ald (k := 164) rfl (Or.inl ⟨rfl, rfl⟩) (by decide +kernel) (fun _ => ?_)
          refine ef_spL (d := 1) (As := [.long t6.1, .int (s.1 164 (eh_ix t6.2))]) (st := []) eV_12_on eK_12_644 (eS_12_on g s t6.1 (s.1 164 (eh_ix t6.2))) rfl (Nat.le_of_ble_eq_true rfl) rfl (Nat.le_of_ble_eq_true rfl) ⟨Nat.le_of_ble_eq_true rfl, Nat.le_of_ble_eq_true rfl⟩ ⟨Nat.le_refl _, Nat.le_refl _⟩ (by decide +kernel) (fun q58 _ => ?_)
          refine es_blk (pc' := 276) (L' := [some (.ref 127), some (.long q58), none, some (.int t6.2), none]) (st' := [.ref 127]) [(.lstore_n 1, 0), (.aload_n 0, 0)] (by decide +kernel) rfl rfl ?_
          refine ef_getP (k := 127) (j := 39) (q := 164) rfl eL_12_121 rfl rfl rfl (by decide +kernel) ?_
          refine es_blk (pc' := 280) (L' := [some (.ref 127), some (.long q58), none, some (.int t6.2), none]) (st' := [.int t6.2, .ref 164]) [(.iload_n 3, 0)] (by decide +kernel) rfl rfl ?_
          refine ef_ald (k := 164) rfl (Or.inl ⟨rfl, rfl⟩) (by decide +kernel) (fun _ => ?_)
          refine ef_J (X := fun j59 => ∀ (a60 : Int64), eh_Sim g eM_12_outside (eh_R 3 0 0) (eh_pL s) 0 0 307 [some (.ref 127), none, none, some (.int t6.2), none] [.long a60] (eh_FW s) ((j59 a60).bind K55)) ?_ (fun j59 Hj59 => ?_)
          · intro a60
            refine es_blk (pc' := 311) (L' := [some (.ref 127), some (.long a60), none, some (.int (t6.2 + 1)), none]) (st' := []) [(.lstore_n 1, 0), (.iinc 3 1, 1)] (by decide +kernel) rfl rfl ?_
            refine ef_V (fun x61 => [some (.ref 127), some (.long a60), none, some (.int x61), none]) (fun _ => []) (fun _ => eh_FW s) (fun x61 => ?_)
            refine es_goto (tgt := 258) (off := (-53)) (by decide +kernel) (by decide) ?_
            exact Hr56 (a60, x61)
          refine es_ne (tgt := 288) (off := (7)) (by decide +kernel) (by decide) (fun h62 => ?_) (fun h62 => ?_)
          · refine es_blk (pc' := 285) (L' := [some (.ref 127), some (.long q58), none, some (.int t6.2), none]) (st' := [.long q58]) [(.lload_n 1, 0)] (by decide +kernel) rfl rfl ?_
            refine es_goto (tgt := 307) (off := (22)) (by decide +kernel) (by decide) ?_
            refine ef_drop (L2 := [some (.ref 127), none, none, some (.int t6.2), none]) [true, false, true, true, true] rfl rfl ?_
            exact Hj59 _
          refine es_blk (pc' := 290) (L' := [some (.ref 127), some (.long q58), none, some (.int t6.2), none]) (st' := [.ref 127, .long q58]) [(.lload_n 1, 0), (.aload_n 0, 0)] (by decide +kernel) rfl rfl ?_
          refine ef_getP (k := 127) (j := 40) (q := 165) rfl eL_12_124 rfl rfl rfl (by decide +kernel) ?_
          refine es_blk (pc' := 294) (L' := [some (.ref 127), some (.long q58), none, some (.int t6.2), none]) (st' := [.int t6.2, .ref 165, .long q58]) [(.iload_n 3, 0)] (by decide +kernel) rfl rfl ?_
          refine ef_ald (k := 165) rfl (Or.inl ⟨rfl, rfl⟩) (by decide +kernel) (fun _ => ?_)
          refine ef_spL (d := 1) (As := [.long q58, .int (s.1 165 (eh_ix t6.2))]) (st := []) eV_12_on eK_12_644 (eS_12_on g s q58 (s.1 165 (eh_ix t6.2))) rfl (Nat.le_of_ble_eq_true rfl) rfl (Nat.le_of_ble_eq_true rfl) ⟨Nat.le_of_ble_eq_true rfl, Nat.le_of_ble_eq_true rfl⟩ ⟨Nat.le_refl _, Nat.le_refl _⟩ (by decide +kernel) (fun q63 _ => ?_)
          refine es_blk (pc' := 299) (L' := [some (.ref 127), some (.long q58), none, some (.int t6.2), none]) (st' := [.ref 127, .long q63]) [(.aload_n 0, 0)] (by decide +kernel) rfl rfl ?_
          refine ef_getP (k := 127) (j := 41) (q := 166) rfl eL_12_127 rfl rfl rfl (by decide +kernel) ?_
          refine es_blk (pc' := 303) (L' := [some (.ref 127), some (.long q58), none, some (.int t6.2), none]) (st' := [.int t6.2, .ref 166, .long q63]) [(.iload_n 3, 0)] (by decide +kernel) rfl rfl ?_
          refine ef_ald (k := 166) rfl (Or.inl ⟨rfl, rfl⟩) (by decide +kernel) (fun _ => ?_)
          refine ef_spL (d := 1) (As := [.long q63, .int (s.1 166 (eh_ix t6.2))]) (st := []) eV_12_on eK_12_644 (eS_12_on g s q63 (s.1 166 (eh_ix t6.2))) rfl (Nat.le_of_ble_eq_true rfl) rfl (Nat.le_of_ble_eq_true rfl) ⟨Nat.le_of_ble_eq_true rfl, Nat.le_of_ble_eq_true rfl⟩ ⟨Nat.le_refl _, Nat.le_refl _⟩ (by decide +kernel) (fun q64 _ => ?_)
          refine ef_drop (L2 := [some (.ref 127), none, none, some (.int t6.2), none]) [true, false, true, true, true] rfl rfl ?_
          exact Hj59 _
        refine ef_drop (L2 := [some (.ref 127), some (.long t6.1), none, none, none]) [true, true, true, false, true] rfl rfl ?_
        exact HxK55_0 t6.1
    · refine es_blk (pc' := 50) (L' := [some (.ref 127), some (.long t3.1), none, some (.int t3.2), none]) (st' := [.int 2, .int t3.2]) [(.iload_n 3, 0), (.iconst 2, 2)] (by decide +kernel) rfl rfl ?_
      refine es_ige (tgt := 247) (off := (197)) (by decide +kernel) (by decide) (fun h67 => ?_) (fun h67 => ?_)
      · refine es_blk (pc' := 56) (L' := [some (.ref 127), some (.long t3.1), none, some (.int t3.2), some (.int 1)]) (st' := []) [(.iconst 1, 1), (.istore 4, 0)] (by decide +kernel) rfl rfl ?_
        refine ef_loop1 (n := eh_FU) (i := (t3.1, 1)) (px := 86) (fun (t68 : Int64 × Int32) => [some (.ref 127), some (.long t68.1), none, some (.int t3.2), some (.int t68.2)]) (fun (t68 : Int64 × Int32) => []) (fun (t68 : Int64 × Int32) => eh_FW s) (fun (e69 : Int64) => [some (.ref 127), some (.long e69), none, some (.int t3.2), none]) (fun (e69 : Int64) => []) (fun (e69 : Int64) => eh_FW s) (fun e69 => ?_) (fun K89 HxK89_0 r90 Hr90 t68 => ?_)
        · refine es_blk (pc' := 88) (L' := [some (.ref 127), some (.long e69), none, some (.int t3.2), none]) (st' := [.ref 127, .long e69]) [(.lload_n 1, 0), (.aload_n 0, 0)] (by decide +kernel) rfl rfl ?_
          refine ef_getP (k := 127) (j := 2) (q := 130) rfl eL_12_18 rfl rfl rfl (by decide +kernel) ?_
          refine es_blk (pc' := 92) (L' := [some (.ref 127), some (.long e69), none, some (.int t3.2), none]) (st' := [.int t3.2, .ref 130, .long e69]) [(.iload_n 3, 0)] (by decide +kernel) rfl rfl ?_
          refine ef_ald (k := 130) rfl (Or.inl ⟨rfl, rfl⟩) (by decide +kernel) (fun _ => ?_)
          refine ef_spL (d := 1) (As := [.long e69, .int (s.1 130 (eh_ix t3.2))]) (st := []) eV_12_on eK_12_644 (eS_12_on g s e69 (s.1 130 (eh_ix t3.2))) rfl (Nat.le_of_ble_eq_true rfl) rfl (Nat.le_of_ble_eq_true rfl) ⟨Nat.le_of_ble_eq_true rfl, Nat.le_of_ble_eq_true rfl⟩ ⟨Nat.le_refl _, Nat.le_refl _⟩ (by decide +kernel) (fun q70 _ => ?_)
          refine es_blk (pc' := 97) (L' := [some (.ref 127), some (.long e69), none, some (.int t3.2), none]) (st' := [.ref 127, .long q70]) [(.aload_n 0, 0)] (by decide +kernel) rfl rfl ?_
          refine ef_getP (k := 127) (j := 3) (q := 131) rfl eL_12_21 rfl rfl rfl (by decide +kernel) ?_
          refine es_blk (pc' := 101) (L' := [some (.ref 127), some (.long e69), none, some (.int t3.2), none]) (st' := [.int t3.2, .ref 131, .long q70]) [(.iload_n 3, 0)] (by decide +kernel) rfl rfl ?_
          refine ef_ald (k := 131) rfl (Or.inl ⟨rfl, rfl⟩) (by decide +kernel) (fun _ => ?_)
          refine ef_spL (d := 1) (As := [.long q70, .int (s.1 131 (eh_ix t3.2))]) (st := []) eV_12_on eK_12_644 (eS_12_on g s q70 (s.1 131 (eh_ix t3.2))) rfl (Nat.le_of_ble_eq_true rfl) rfl (Nat.le_of_ble_eq_true rfl) ⟨Nat.le_of_ble_eq_true rfl, Nat.le_of_ble_eq_true rfl⟩ ⟨Nat.le_refl _, Nat.le_refl _⟩ (by decide +kernel) (fun q71 _ => ?_)
          refine es_blk (pc' := 106) (L' := [some (.ref 127), some (.long e69), none, some (.int t3.2), none]) (st' := [.ref 127, .long q71]) [(.aload_n 0, 0)] (by decide +kernel) rfl rfl ?_
          refine ef_getP (k := 127) (j := 4) (q := 132) rfl eL_12_24 rfl rfl rfl (by decide +kernel) ?_
          refine es_blk (pc' := 110) (L' := [some (.ref 127), some (.long e69), none, some (.int t3.2), none]) (st' := [.int t3.2, .ref 132, .long q71]) [(.iload_n 3, 0)] (by decide +kernel) rfl rfl ?_
          refine ef_ald (k := 132) rfl (Or.inr ⟨Or.inr rfl, rfl⟩) (by decide +kernel) (fun _ => ?_)
          refine ef_J (X := fun j72 => ∀ (a73 : Int32), eh_Sim g eM_12_outside (eh_R 3 0 0) (eh_pL s) 0 0 119 [some (.ref 127), none, none, some (.int t3.2), none] [.int a73, .long q71] (eh_FW s) ((j72 a73).bind K65)) ?_ (fun j72 Hj72 => ?_)
          · intro a73
            refine ef_spL (d := 1) (As := [.long q71, .int a73]) (st := []) eV_12_on eK_12_644 (eS_12_on g s q71 a73) rfl (Nat.le_of_ble_eq_true rfl) rfl (Nat.le_of_ble_eq_true rfl) ⟨Nat.le_of_ble_eq_true rfl, Nat.le_of_ble_eq_true rfl⟩ ⟨Nat.le_refl _, Nat.le_refl _⟩ (by decide +kernel) (fun q74 _ => ?_)
            refine es_blk (pc' := 125) (L' := [some (.ref 127), some (.long q74), none, some (.int t3.2), none]) (st' := [.ref 127, .long q74]) [(.lstore_n 1, 0), (.lload_n 1, 0), (.aload_n 0, 0)] (by decide +kernel) rfl rfl ?_
            refine ef_getP (k := 127) (j := 16) (q := 144) rfl eL_12_61 rfl rfl rfl (by decide +kernel) ?_
            refine es_blk (pc' := 129) (L' := [some (.ref 127), some (.long q74), none, some (.int t3.2), none]) (st' := [.int t3.2, .ref 144, .long q74]) [(.iload_n 3, 0)] (by decide +kernel) rfl rfl ?_
            refine ef_ald (k := 144) rfl (Or.inl ⟨rfl, rfl⟩) (by decide +kernel) (fun _ => ?_)
            refine ef_spL (d := 1) (As := [.long q74, .int (s.1 144 (eh_ix t3.2))]) (st := []) eV_12_on eK_12_644 (eS_12_on g s q74 (s.1 144 (eh_ix t3.2))) rfl (Nat.le_of_ble_eq_true rfl) rfl (Nat.le_of_ble_eq_true rfl) ⟨Nat.le_of_ble_eq_true rfl, Nat.le_of_ble_eq_true rfl⟩ ⟨Nat.le_refl _, Nat.le_refl _⟩ (by decide +kernel) (fun q75 _ => ?_)
            refine es_blk (pc' := 134) (L' := [some (.ref 127), some (.long q74), none, some (.int t3.2), none]) (st' := [.ref 127, .long q75]) [(.aload_n 0, 0)] (by decide +kernel) rfl rfl ?_
            refine ef_getP (k := 127) (j := 5) (q := 133) rfl eL_12_28 rfl rfl rfl (by decide +kernel) ?_
            refine es_blk (pc' := 138) (L' := [some (.ref 127), some (.long q74), none, some (.int t3.2), none]) (st' := [.int t3.2, .ref 133, .long q75]) [(.iload_n 3, 0)] (by decide +kernel) rfl rfl ?_
            refine ef_ald (k := 133) rfl (Or.inl ⟨rfl, rfl⟩) (by decide +kernel) (fun _ => ?_)
            refine ef_spL (d := 1) (As := [.long q75, .int (s.1 133 (eh_ix t3.2))]) (st := []) eV_12_on eK_12_644 (eS_12_on g s q75 (s.1 133 (eh_ix t3.2))) rfl (Nat.le_of_ble_eq_true rfl) rfl (Nat.le_of_ble_eq_true rfl) ⟨Nat.le_of_ble_eq_true rfl, Nat.le_of_ble_eq_true rfl⟩ ⟨Nat.le_refl _, Nat.le_refl _⟩ (by decide +kernel) (fun q76 _ => ?_)
            refine es_blk (pc' := 143) (L' := [some (.ref 127), some (.long q74), none, some (.int t3.2), none]) (st' := [.ref 127, .long q76]) [(.aload_n 0, 0)] (by decide +kernel) rfl rfl ?_
            refine ef_getP (k := 127) (j := 6) (q := 134) rfl eL_12_31 rfl rfl rfl (by decide +kernel) ?_
            refine es_blk (pc' := 147) (L' := [some (.ref 127), some (.long q74), none, some (.int t3.2), none]) (st' := [.int t3.2, .ref 134, .long q76]) [(.iload_n 3, 0)] (by decide +kernel) rfl rfl ?_
            refine ef_ald (k := 134) rfl (Or.inl ⟨rfl, rfl⟩) (by decide +kernel) (fun _ => ?_)
            refine ef_spL (d := 1) (As := [.long q76, .int (s.1 134 (eh_ix t3.2))]) (st := []) eV_12_on eK_12_644 (eS_12_on g s q76 (s.1 134 (eh_ix t3.2))) rfl (Nat.le_of_ble_eq_true rfl) rfl (Nat.le_of_ble_eq_true rfl) ⟨Nat.le_of_ble_eq_true rfl, Nat.le_of_ble_eq_true rfl⟩ ⟨Nat.le_refl _, Nat.le_refl _⟩ (by decide +kernel) (fun q77 _ => ?_)
            refine es_blk (pc' := 154) (L' := [some (.ref 127), some (.long q77), none, some (.int t3.2), none]) (st' := [.ref 127, .long q77]) [(.lstore_n 1, 0), (.lload_n 1, 0), (.aload_n 0, 0)] (by decide +kernel) rfl rfl ?_
            refine ef_getP (k := 127) (j := 7) (q := 135) rfl eL_12_34 rfl rfl rfl (by decide +kernel) ?_
            refine es_blk (pc' := 158) (L' := [some (.ref 127), some (.long q77), none, some (.int t3.2), none]) (st' := [.int t3.2, .ref 135, .long q77]) [(.iload_n 3, 0)] (by decide +kernel) rfl rfl ?_
            refine ef_ald (k := 135) rfl (Or.inl ⟨rfl, rfl⟩) (by decide +kernel) (fun _ => ?_)
            refine ef_spL (d := 1) (As := [.long q77, .int (s.1 135 (eh_ix t3.2))]) (st := []) eV_12_on eK_12_644 (eS_12_on g s q77 (s.1 135 (eh_ix t3.2))) rfl (Nat.le_of_ble_eq_true rfl) rfl (Nat.le_of_ble_eq_true rfl) ⟨Nat.le_of_ble_eq_true rfl, Nat.le_of_ble_eq_true rfl⟩ ⟨Nat.le_refl _, Nat.le_refl _⟩ (by decide +kernel) (fun q78 _ => ?_)
            refine es_blk (pc' := 163) (L' := [some (.ref 127), some (.long q77), none, some (.int t3.2), none]) (st' := [.ref 127, .long q78]) [(.aload_n 0, 0)] (by decide +kernel) rfl rfl ?_
            refine ef_getP (k := 127) (j := 8) (q := 136) rfl eL_12_37 rfl rfl rfl (by decide +kernel) ?_
            refine es_blk (pc' := 167) (L' := [some (.ref 127), some (.long q77), none, some (.int t3.2), none]) (st' := [.int t3.2, .ref 136, .long q78]) [(.iload_n 3, 0)] (by decide +kernel) rfl rfl ?_
            refine ef_ald (k := 136) rfl (Or.inl ⟨rfl, rfl⟩) (by decide +kernel) (fun _ => ?_)
            refine ef_spL (d := 1) (As := [.long q78, .int (s.1 136 (eh_ix t3.2))]) (st := []) eV_12_on eK_12_644 (eS_12_on g s q78 (s.1 136 (eh_ix t3.2))) rfl (Nat.le_of_ble_eq_true rfl) rfl (Nat.le_of_ble_eq_true rfl) ⟨Nat.le_of_ble_eq_true rfl, Nat.le_of_ble_eq_true rfl⟩ ⟨Nat.le_refl _, Nat.le_refl _⟩ (by decide +kernel) (fun q79 _ => ?_)
            refine es_blk (pc' := 172) (L' := [some (.ref 127), some (.long q77), none, some (.int t3.2), none]) (st' := [.ref 127, .long q79]) [(.aload_n 0, 0)] (by decide +kernel) rfl rfl ?_
            refine ef_getP (k := 127) (j := 9) (q := 137) rfl eL_12_40 rfl rfl rfl (by decide +kernel) ?_
            refine es_blk (pc' := 176) (L' := [some (.ref 127), some (.long q77), none, some (.int t3.2), none]) (st' := [.int t3.2, .ref 137, .long q79]) [(.iload_n 3, 0)] (by decide +kernel) rfl rfl ?_
            refine ef_ald (k := 137) rfl (Or.inl ⟨rfl, rfl⟩) (by decide +kernel) (fun _ => ?_)
            refine ef_spL (d := 1) (As := [.long q79, .int (s.1 137 (eh_ix t3.2))]) (st := []) eV_12_on eK_12_644 (eS_12_on g s q79 (s.1 137 (eh_ix t3.2))) rfl (Nat.le_of_ble_eq_true rfl) rfl (Nat.le_of_ble_eq_true rfl) ⟨Nat.le_of_ble_eq_true rfl, Nat.le_of_ble_eq_true rfl⟩ ⟨Nat.le_refl _, Nat.le_refl _⟩ (by decide +kernel) (fun q80 _ => ?_)
            refine es_blk (pc' := 183) (L' := [some (.ref 127), some (.long q80), none, some (.int t3.2), none]) (st' := [.ref 127, .long q80]) [(.lstore_n 1, 0), (.lload_n 1, 0), (.aload_n 0, 0)] (by decide +kernel) rfl rfl ?_
            refine ef_getP (k := 127) (j := 10) (q := 138) rfl eL_12_43 rfl rfl rfl (by decide +kernel) ?_
            refine es_blk (pc' := 187) (L' := [some (.ref 127), some (.long q80), none, some (.int t3.2), none]) (st' := [.int t3.2, .ref 138, .long q80]) [(.iload_n 3, 0)] (by decide +kernel) rfl rfl ?_
            refine ef_ald (k := 138) rfl (Or.inl ⟨rfl, rfl⟩) (by decide +kernel) (fun _ => ?_)
            refine ef_spL (d := 1) (As := [.long q80, .int (s.1 138 (eh_ix t3.2))]) (st := []) eV_12_on eK_12_644 (eS_12_on g s q80 (s.1 138 (eh_ix t3.2))) rfl (Nat.le_of_ble_eq_true rfl) rfl (Nat.le_of_ble_eq_true rfl) ⟨Nat.le_of_ble_eq_true rfl, Nat.le_of_ble_eq_true rfl⟩ ⟨Nat.le_refl _, Nat.le_refl _⟩ (by decide +kernel) (fun q81 _ => ?_)
            refine es_blk (pc' := 192) (L' := [some (.ref 127), some (.long q80), none, some (.int t3.2), none]) (st' := [.ref 127, .long q81]) [(.aload_n 0, 0)] (by decide +kernel) rfl rfl ?_
            refine ef_getP (k := 127) (j := 11) (q := 139) rfl eL_12_46 rfl rfl rfl (by decide +kernel) ?_
            refine es_blk (pc' := 196) (L' := [some (.ref 127), some (.long q80), none, some (.int t3.2), none]) (st' := [.int t3.2, .ref 139, .long q81]) [(.iload_n 3, 0)] (by decide +kernel) rfl rfl ?_
            refine ef_ald (k := 139) rfl (Or.inl ⟨rfl, rfl⟩) (by decide +kernel) (fun _ => ?_)
            refine ef_spL (d := 1) (As := [.long q81, .int (s.1 139 (eh_ix t3.2))]) (st := []) eV_12_on eK_12_644 (eS_12_on g s q81 (s.1 139 (eh_ix t3.2))) rfl (Nat.le_of_ble_eq_true rfl) rfl (Nat.le_of_ble_eq_true rfl) ⟨Nat.le_of_ble_eq_true rfl, Nat.le_of_ble_eq_true rfl⟩ ⟨Nat.le_refl _, Nat.le_refl _⟩ (by decide +kernel) (fun q82 _ => ?_)
            refine es_blk (pc' := 201) (L' := [some (.ref 127), some (.long q80), none, some (.int t3.2), none]) (st' := [.ref 127, .long q82]) [(.aload_n 0, 0)] (by decide +kernel) rfl rfl ?_
            refine ef_getP (k := 127) (j := 12) (q := 140) rfl eL_12_49 rfl rfl rfl (by decide +kernel) ?_
            refine es_blk (pc' := 205) (L' := [some (.ref 127), some (.long q80), none, some (.int t3.2), none]) (st' := [.int t3.2, .ref 140, .long q82]) [(.iload_n 3, 0)] (by decide +kernel) rfl rfl ?_
            refine ef_ald (k := 140) rfl (Or.inl ⟨rfl, rfl⟩) (by decide +kernel) (fun _ => ?_)
            refine es_blk (pc' := 208) (L' := [some (.ref 127), some (.long q80), none, some (.int t3.2), none]) (st' := [.int (eh_shr (s.1 140 (eh_ix t3.2)) 1), .long q82]) [(.iconst 1, 1), (.ishr, 0)] (by decide +kernel) rfl rfl ?_
            refine ef_spL (d := 1) (As := [.long q82, .int (eh_shr (s.1 140 (eh_ix t3.2)) 1)]) (st := []) eV_12_on eK_12_644 (eS_12_on g s q82 (eh_shr (s.1 140 (eh_ix t3.2)) 1)) rfl (Nat.le_of_ble_eq_true rfl) rfl (Nat.le_of_ble_eq_true rfl) ⟨Nat.le_of_ble_eq_true rfl, Nat.le_of_ble_eq_true rfl⟩ ⟨Nat.le_refl _, Nat.le_refl _⟩ (by decide +kernel) (fun q83 _ => ?_)
            refine es_blk (pc' := 214) (L' := [some (.ref 127), some (.long q83), none, some (.int t3.2), none]) (st' := [.ref 127, .long q83]) [(.lstore_n 1, 0), (.lload_n 1, 0), (.aload_n 0, 0)] (by decide +kernel) rfl rfl ?_
            refine ef_getP (k := 127) (j := 13) (q := 141) rfl eL_12_52 rfl rfl rfl (by decide +kernel) ?_
            refine es_blk (pc' := 218) (L' := [some (.ref 127), some (.long q83), none, some (.int t3.2), none]) (st' := [.int t3.2, .ref 141, .long q83]) [(.iload_n 3, 0)] (by decide +kernel) rfl rfl ?_
            refine ef_ald (k := 141) rfl (Or.inl ⟨rfl, rfl⟩) (by decide +kernel) (fun _ => ?_)
            refine ef_spL (d := 1) (As := [.long q83, .int (s.1 141 (eh_ix t3.2))]) (st := []) eV_12_on eK_12_644 (eS_12_on g s q83 (s.1 141 (eh_ix t3.2))) rfl (Nat.le_of_ble_eq_true rfl) rfl (Nat.le_of_ble_eq_true rfl) ⟨Nat.le_of_ble_eq_true rfl, Nat.le_of_ble_eq_true rfl⟩ ⟨Nat.le_refl _, Nat.le_refl _⟩ (by decide +kernel) (fun q84 _ => ?_)
            refine es_blk (pc' := 223) (L' := [some (.ref 127), some (.long q83), none, some (.int t3.2), none]) (st' := [.ref 127, .long q84]) [(.aload_n 0, 0)] (by decide +kernel) rfl rfl ?_
            refine ef_getP (k := 127) (j := 14) (q := 142) rfl eL_12_55 rfl rfl rfl (by decide +kernel) ?_
            refine es_blk (pc' := 227) (L' := [some (.ref 127), some (.long q83), none, some (.int t3.2), none]) (st' := [.int t3.2, .ref 142, .long q84]) [(.iload_n 3, 0)] (by decide +kernel) rfl rfl ?_
            refine ef_ald (k := 142) rfl (Or.inl ⟨rfl, rfl⟩) (by decide +kernel) (fun _ => ?_)
            refine ef_spL (d := 1) (As := [.long q84, .int (s.1 142 (eh_ix t3.2))]) (st := []) eV_12_on eK_12_644 (eS_12_on g s q84 (s.1 142 (eh_ix t3.2))) rfl (Nat.le_of_ble_eq_true rfl) rfl (Nat.le_of_ble_eq_true rfl) ⟨Nat.le_of_ble_eq_true rfl, Nat.le_of_ble_eq_true rfl⟩ ⟨Nat.le_refl _, Nat.le_refl _⟩ (by decide +kernel) (fun q85 _ => ?_)
            refine es_blk (pc' := 232) (L' := [some (.ref 127), some (.long q83), none, some (.int t3.2), none]) (st' := [.ref 127, .long q85]) [(.aload_n 0, 0)] (by decide +kernel) rfl rfl ?_
            refine ef_getP (k := 127) (j := 15) (q := 143) rfl eL_12_58 rfl rfl rfl (by decide +kernel) ?_
            refine es_blk (pc' := 236) (L' := [some (.ref 127), some (.long q83), none, some (.int t3.2), none]) (st' := [.int t3.2, .ref 143, .long q85]) [(.iload_n 3, 0)] (by decide +kernel) rfl rfl ?_
            refine ef_ald (k := 143) rfl (Or.inl ⟨rfl, rfl⟩) (by decide +kernel) (fun _ => ?_)
            refine ef_spL (d := 1) (As := [.long q85, .int (s.1 143 (eh_ix t3.2))]) (st := []) eV_12_on eK_12_644 (eS_12_on g s q85 (s.1 143 (eh_ix t3.2))) rfl (Nat.le_of_ble_eq_true rfl) rfl (Nat.le_of_ble_eq_true rfl) ⟨Nat.le_of_ble_eq_true rfl, Nat.le_of_ble_eq_true rfl⟩ ⟨Nat.le_refl _, Nat.le_refl _⟩ (by decide +kernel) (fun q86 _ => ?_)
            refine es_blk (pc' := 244) (L' := [some (.ref 127), some (.long q86), none, some (.int (t3.2 + 1)), none]) (st' := []) [(.lstore_n 1, 0), (.iinc 3 1, 1)] (by decide +kernel) rfl rfl ?_
            refine ef_V (fun x87 => [some (.ref 127), some (.long q86), none, some (.int x87), none]) (fun _ => []) (fun _ => eh_FW s) (fun x87 => ?_)
            refine es_goto (tgt := 48) (off := (-196)) (by decide +kernel) (by decide) ?_
            exact Hr66 (q86, x87)
          refine es_eq (tgt := 118) (off := (7)) (by decide +kernel) (by decide) (fun h88 => ?_) (fun h88 => ?_)
          · refine es_blk (pc' := 119) (L' := [some (.ref 127), some (.long e69), none, some (.int t3.2), none]) (st' := [.int 0, .long q71]) [(.iconst 0, 0)] (by decide +kernel) rfl rfl ?_
            refine ef_drop (L2 := [some (.ref 127), none, none, some (.int t3.2), none]) [true, false, true, true, true] rfl rfl ?_
            exact Hj72 _
          refine es_blk (pc' := 115) (L' := [some (.ref 127), some (.long e69), none, some (.int t3.2), none]) (st' := [.int 1, .long q71]) [(.iconst 1, 1)] (by decide +kernel) rfl rfl ?_
          refine es_goto (tgt := 119) (off := (4)) (by decide +kernel) (by decide) ?_
          refine ef_drop (L2 := [some (.ref 127), none, none, some (.int t3.2), none]) [true, false, true, true, true] rfl rfl ?_
          exact Hj72 _
        · refine es_blk (pc' := 60) (L' := [some (.ref 127), some (.long t68.1), none, some (.int t3.2), some (.int t68.2)]) (st' := [.int 32, .int t68.2]) [(.iload 4, 0), (.bipush 32, 32)] (by decide +kernel) rfl rfl ?_
          refine es_ige (tgt := 86) (off := (26)) (by decide +kernel) (by decide) (fun h91 => ?_) (fun h91 => ?_)
          · refine es_blk (pc' := 65) (L' := [some (.ref 127), some (.long t68.1), none, some (.int t3.2), some (.int t68.2)]) (st' := [.ref 127, .long t68.1]) [(.lload_n 1, 0), (.aload_n 0, 0)] (by decide +kernel) rfl rfl ?_
            refine ef_getP (k := 127) (j := 1) (q := 129) rfl eL_12_14 rfl rfl rfl (by decide +kernel) ?_
            refine es_blk (pc' := 75) (L' := [some (.ref 127), some (.long t68.1), none, some (.int t3.2), some (.int t68.2)]) (st' := [.int ((32 * t3.2) + t68.2), .ref 129, .long t68.1]) [(.bipush 32, 32), (.iload_n 3, 0), (.imul, 0), (.iload 4, 0), (.iadd, 0)] (by decide +kernel) rfl rfl ?_
            refine ef_ald (k := 129) rfl (Or.inl ⟨rfl, rfl⟩) (by decide +kernel) (fun _ => ?_)
            refine ef_spL (d := 1) (As := [.long t68.1, .int (s.1 129 (eh_ix ((32 * t3.2) + t68.2)))]) (st := []) eV_12_on eK_12_644 (eS_12_on g s t68.1 (s.1 129 (eh_ix ((32 * t3.2) + t68.2)))) rfl (Nat.le_of_ble_eq_true rfl) rfl (Nat.le_of_ble_eq_true rfl) ⟨Nat.le_of_ble_eq_true rfl, Nat.le_of_ble_eq_true rfl⟩ ⟨Nat.le_refl _, Nat.le_refl _⟩ (by decide +kernel) (fun q92 _ => ?_)
            refine es_blk (pc' := 83) (L' := [some (.ref 127), some (.long q92), none, some (.int t3.2), some (.int (t68.2 + 1))]) (st' := []) [(.lstore_n 1, 0), (.iinc 4 1, 1)] (by decide +kernel) rfl rfl ?_
            refine ef_V (fun x93 => [some (.ref 127), some (.long q92), none, some (.int t3.2), some (.int x93)]) (fun _ => []) (fun _ => eh_FW s) (fun x93 => ?_)
            refine es_goto (tgt := 56) (off := (-27)) (by decide +kernel) (by decide) ?_
            exact Hr90 (q92, x93)
          refine ef_drop (L2 := [some (.ref 127), some (.long t68.1), none, some (.int t3.2), none]) [true, true, true, true, false] rfl rfl ?_
          exact HxK89_0 t68.1
      refine ef_drop (L2 := [some (.ref 127), some (.long t3.1), none, none, none]) [true, true, true, false, true] rfl rfl ?_
      exact HxK65_0 t3.1
  · refine es_blk (pc' := 5) (L' := [some (.ref 127), some (.long t1.1), none, some (.int t1.2), none]) (st' := [.int t1.2]) [(.iload_n 3, 0)] (by decide +kernel) rfl rfl ?_
    refine es_ldc (v := 131072) eC_12_9 (by decide +kernel) ?_
    refine es_ige (tgt := 46) (off := (39)) (by decide +kernel) (by decide) (fun h96 => ?_) (fun h96 => ?_)
    · refine es_blk (pc' := 15) (L' := [some (.ref 127), some (.long t1.1), none, some (.int t1.2), none]) (st' := [.int 256, .int t1.2, .long t1.1]) [(.lload_n 1, 0), (.iload_n 3, 0), (.sipush 256, 256)] (by decide +kernel) rfl rfl ?_
      refine es_irem (by decide +kernel) (by decide) ?_
      refine ef_J (X := fun j97 => ∀ (a98 : Int32), eh_Sim g eM_12_outside (eh_R 3 0 0) (eh_pL s) 0 0 36 [some (.ref 127), none, none, some (.int t1.2), none] [.int a98, .long t1.1] (eh_FW s) ((j97 a98).bind K94)) ?_ (fun j97 Hj97 => ?_)
      · intro a98
        refine ef_spL (d := 1) (As := [.long t1.1, .int a98]) (st := []) eV_12_on eK_12_644 (eS_12_on g s t1.1 a98) rfl (Nat.le_of_ble_eq_true rfl) rfl (Nat.le_of_ble_eq_true rfl) ⟨Nat.le_of_ble_eq_true rfl, Nat.le_of_ble_eq_true rfl⟩ ⟨Nat.le_refl _, Nat.le_refl _⟩ (by decide +kernel) (fun q99 _ => ?_)
        refine es_blk (pc' := 43) (L' := [some (.ref 127), some (.long q99), none, some (.int (t1.2 + 4)), none]) (st' := []) [(.lstore_n 1, 0), (.iinc 3 4, 4)] (by decide +kernel) rfl rfl ?_
        refine ef_V (fun x100 => [some (.ref 127), some (.long q99), none, some (.int x100), none]) (fun _ => []) (fun _ => eh_FW s) (fun x100 => ?_)
        refine es_goto (tgt := 4) (off := (-39)) (by decide +kernel) (by decide) ?_
        exact Hr95 (q99, x100)
      refine ef_J (X := fun j101 => ∀ (u102 : Unit), eh_Sim g eM_12_outside (eh_R 3 0 0) (eh_pL s) 0 0 31 [some (.ref 127), none, none, some (.int t1.2), none] [.long t1.1] (eh_FW s) ((j101 u102).bind K94)) ?_ (fun j101 Hj101 => ?_)
      · intro u102
        refine es_blk (pc' := 33) (L' := [some (.ref 127), none, none, some (.int t1.2), none]) (st' := [.int t1.2, .ref 127, .long t1.1]) [(.aload_n 0, 0), (.iload_n 3, 0)] (by decide +kernel) rfl rfl ?_
        refine ef_vpI (d := 2) (k := 127) (As := [.int t1.2]) (st := [.long t1.1]) eV_12_word eK_12_641 (eS_12_word g s t1.2) rfl rfl (Nat.le_of_ble_eq_true rfl) rfl (Nat.le_of_ble_eq_true rfl) ⟨Nat.le_of_ble_eq_true rfl, Nat.le_of_ble_eq_true rfl⟩ ⟨Nat.le_refl _, Nat.le_refl _⟩ (by decide +kernel) (fun q103 _ => ?_)
        exact Hj97 _
      refine es_ne (tgt := 31) (off := (15)) (by decide +kernel) (by decide) (fun h104 => ?_) (fun h104 => ?_)
      · refine es_blk (pc' := 21) (L' := [some (.ref 127), some (.long t1.1), none, some (.int t1.2), none]) (st' := [.int t1.2, .ref 127, .long t1.1]) [(.aload_n 0, 0), (.iload_n 3, 0)] (by decide +kernel) rfl rfl ?_
        refine ef_vpI (d := 1) (k := 127) (As := [.int t1.2]) (st := [.long t1.1]) eV_12_isOpen eK_12_629 (eS_12_isOpen g s t1.2) rfl rfl (Nat.le_of_ble_eq_true rfl) rfl (Nat.le_of_ble_eq_true rfl) ⟨Nat.le_of_ble_eq_true rfl, Nat.le_of_ble_eq_true rfl⟩ ⟨Nat.le_refl _, Nat.le_refl _⟩ (by decide +kernel) (fun q105 _ => ?_)
        refine es_ne (tgt := 31) (off := (7)) (by decide +kernel) (by decide) (fun h106 => ?_) (fun h106 => ?_)
        · refine es_blk (pc' := 28) (L' := [some (.ref 127), some (.long t1.1), none, some (.int t1.2), none]) (st' := [.int 0, .long t1.1]) [(.iconst 0, 0)] (by decide +kernel) rfl rfl ?_
          refine es_goto (tgt := 36) (off := (8)) (by decide +kernel) (by decide) ?_
          refine ef_drop (L2 := [some (.ref 127), none, none, some (.int t1.2), none]) [true, false, true, true, true] rfl rfl ?_
          exact Hj97 _
        refine ef_drop (L2 := [some (.ref 127), none, none, some (.int t1.2), none]) [true, false, true, true, true] rfl rfl ?_
        exact Hj101 ()
      refine ef_drop (L2 := [some (.ref 127), none, none, some (.int t1.2), none]) [true, false, true, true, true] rfl rfl ?_
      exact Hj101 ()
    refine ef_drop (L2 := [some (.ref 127), some (.long t1.1), none, none, none]) [true, true, true, false, true] rfl rfl ?_
    exact HxK94_0 t1.1
def eF_0_endRound (s : eh_F)  : Option (eh_F) := Option.bind (eh_loop (fun (r11 : (Int32 × eh_F) → Option (eh_F)) (t1 : Int32 × eh_F) => if t1.1 < (t1.2.1 12 7) then (if t1.1 < 4 then (if eh_in t1.1 4 then if eh_in t1.1 4 then eh_V (eh_tI t1.2 17 (eh_ix t1.1) ((t1.2.1 17 (eh_ix t1.1)) + 1)) (fun s14 => eh_V ((t1.1 + 1) : Int32) (fun x15 => r11 (x15, s14))) else none else none) else (some t1.2)) else (some t1.2)) eh_FU (0, s)) (fun (e2 : eh_F) => eh_J (fun (s4 : eh_F) => eh_V (eh_tI s4 12 0 ((s4.1 12 0) + 1)) (fun s5 => some s5)) (fun j3 => if 0 < (e2.1 12 7) then (if (e2.1 17 0) < 5 then (j3 e2) else (Option.bind (eF_0_carryOutFirst e2) (fun q8 => Option.bind (eF_0_dropFirst q8) (fun q9 => j3 q9)))) else (j3 e2)))
set_option maxHeartbeats 4000000 in
set_option maxRecDepth 100000 in
theorem eS_0_endRound (g : eh_P) (s : eh_F)  : eh_Sim g eM_0_endRound (eh_R 4 0 0) eh_eV 0 0 0 (eh_en 3 [.ref 12, .ref 2]) [] (eh_FW s) (eF_0_endRound s) := by
  unfold eF_0_endRound
  refine ef_top (L := [some (.ref 12), some (.ref 2), none]) rfl ?_
  refine es_blk (pc' := 2) (L' := [some (.ref 12), some (.ref 2), some (.int 0)]) (st' := []) [(.iconst 0, 0), (.istore_n 2, 0)] (by decide +kernel) rfl rfl ?_
  refine ef_loop1 (n := eh_FU) (i := (0, s)) (px := 31) (fun (t1 : Int32 × eh_F) => [some (.ref 12), some (.ref 2), some (.int t1.1)]) (fun (t1 : Int32 × eh_F) => []) (fun (t1 : Int32 × eh_F) => eh_FW t1.2) (fun (e2 : eh_F) => [some (.ref 12), some (.ref 2), none]) (fun (e2 : eh_F) => []) (fun (e2 : eh_F) => eh_FW e2) (fun e2 => ?_) (fun K10 HxK10_0 r11 Hr11 t1 => ?_)
  · refine es_blk (pc' := 32) (L' := [some (.ref 12), some (.ref 2), none]) (st' := [.ref 12]) [(.aload_n 0, 0)] (by decide +kernel) rfl rfl ?_
    refine ef_getI (k := 12) (j := 7) rfl eL_0_54 (by decide) (by decide +kernel) ?_
    refine ef_J (X := fun j3 => ∀ (s4 : eh_F), eh_Sim g eM_0_endRound (eh_R 4 0 0) eh_eV 0 0 57 [some (.ref 12), none, none] [] (eh_FW s4) ((j3 s4).bind some)) ?_ (fun j3 Hj3 => ?_)
    · intro s4
      refine es_blk (pc' := 59) (L' := [some (.ref 12), none, none]) (st' := [.ref 12, .ref 12]) [(.aload_n 0, 0), (.dup, 0)] (by decide +kernel) rfl rfl ?_
      refine ef_getI (k := 12) (j := 0) rfl eL_0_46 (by decide) (by decide +kernel) ?_
      refine es_blk (pc' := 64) (L' := [some (.ref 12), none, none]) (st' := [.int ((s4.1 12 0) + 1), .ref 12]) [(.iconst 1, 1), (.iadd, 0)] (by decide +kernel) rfl rfl ?_
      refine ef_putI (k := 12) (j := 0) rfl eL_0_46 rfl rfl (by decide +kernel) ?_
      refine ef_V (fun _ => [some (.ref 12), none, none]) (fun _ => []) (fun s5 => eh_FW s5) (fun s5 => ?_)
      exact es_ret rfl rfl rfl ⟨by decide +kernel, rfl⟩ (Nat.le_refl _) (Nat.le_refl _)
    refine es_le (tgt := 57) (off := (22)) (by decide +kernel) (by decide) (fun h6 => ?_) (fun h6 => ?_)
    · refine es_blk (pc' := 39) (L' := [some (.ref 12), some (.ref 2), none]) (st' := [.ref 12]) [(.aload_n 0, 0)] (by decide +kernel) rfl rfl ?_
      refine ef_getP (k := 12) (j := 6) (q := 17) rfl eL_0_25 rfl rfl rfl (by decide +kernel) ?_
      refine es_blk (pc' := 43) (L' := [some (.ref 12), some (.ref 2), none]) (st' := [.int 0, .ref 17]) [(.iconst 0, 0)] (by decide +kernel) rfl rfl ?_
      refine ef_aldc (k := 17) (j := 0) rfl (Or.inl ⟨rfl, rfl⟩) (by decide) rfl (by decide +kernel) ?_
      refine es_blk (pc' := 45) (L' := [some (.ref 12), some (.ref 2), none]) (st' := [.int 5, .int (e2.1 17 0)]) [(.iconst 5, 5)] (by decide +kernel) rfl rfl ?_
      refine es_ilt (tgt := 57) (off := (12)) (by decide +kernel) (by decide) (fun h7 => ?_) (fun h7 => ?_)
      · refine ef_drop (L2 := [some (.ref 12), none, none]) [true, false, true] rfl rfl ?_
        exact Hj3 _
      refine es_blk (pc' := 50) (L' := [some (.ref 12), some (.ref 2), none]) (st' := [.ref 2, .ref 12]) [(.aload_n 0, 0), (.aload_n 1, 0)] (by decide +kernel) rfl rfl ?_
      refine ef_veV (d := 3) (k := 12) (As := [.ref 2]) (st := []) eV_0_carryOutFirst eK_0_75 (eS_0_carryOutFirst g e2) rfl rfl (Nat.le_of_ble_eq_true rfl) rfl (Nat.le_of_ble_eq_true rfl) ⟨Nat.le_of_ble_eq_true rfl, Nat.le_of_ble_eq_true rfl⟩ ⟨Nat.le_refl _, Nat.le_refl _⟩ (by decide +kernel) (fun q8 _ => ?_)
      refine es_blk (pc' := 54) (L' := [some (.ref 12), some (.ref 2), none]) (st' := [.ref 12]) [(.aload_n 0, 0)] (by decide +kernel) rfl rfl ?_
      refine ef_veV (d := 1) (k := 12) (As := []) (st := []) eV_0_dropFirst eK_0_79 (eS_0_dropFirst g q8) rfl rfl (Nat.le_of_ble_eq_true rfl) rfl (Nat.le_of_ble_eq_true rfl) ⟨Nat.le_of_ble_eq_true rfl, Nat.le_of_ble_eq_true rfl⟩ ⟨Nat.le_refl _, Nat.le_refl _⟩ (by decide +kernel) (fun q9 _ => ?_)
      refine ef_drop (L2 := [some (.ref 12), none, none]) [true, false, true] rfl rfl ?_
      exact Hj3 _
    refine ef_drop (L2 := [some (.ref 12), none, none]) [true, false, true] rfl rfl ?_
    exact Hj3 _
  · refine es_blk (pc' := 4) (L' := [some (.ref 12), some (.ref 2), some (.int t1.1)]) (st' := [.ref 12, .int t1.1]) [(.iload_n 2, 0), (.aload_n 0, 0)] (by decide +kernel) rfl rfl ?_
    refine ef_getI (k := 12) (j := 7) rfl eL_0_54 (by decide) (by decide +kernel) ?_
    refine es_ige (tgt := 31) (off := (24)) (by decide +kernel) (by decide) (fun h12 => ?_) (fun h12 => ?_)
    · refine es_blk (pc' := 12) (L' := [some (.ref 12), some (.ref 2), some (.int t1.1)]) (st' := [.int 4, .int t1.1]) [(.iload_n 2, 0), (.iconst 4, 4)] (by decide +kernel) rfl rfl ?_
      refine es_ige (tgt := 31) (off := (19)) (by decide +kernel) (by decide) (fun h13 => ?_) (fun h13 => ?_)
      · refine es_blk (pc' := 16) (L' := [some (.ref 12), some (.ref 2), some (.int t1.1)]) (st' := [.ref 12]) [(.aload_n 0, 0)] (by decide +kernel) rfl rfl ?_
        refine ef_getP (k := 12) (j := 6) (q := 17) rfl eL_0_25 rfl rfl rfl (by decide +kernel) ?_
        refine es_blk (pc' := 21) (L' := [some (.ref 12), some (.ref 2), some (.int t1.1)]) (st' := [.int t1.1, .ref 17, .int t1.1, .ref 17]) [(.iload_n 2, 0), (.dup2, 0)] (by decide +kernel) rfl rfl ?_
        refine ef_ald (k := 17) rfl (Or.inl ⟨rfl, rfl⟩) (by decide +kernel) (fun _ => ?_)
        refine es_blk (pc' := 24) (L' := [some (.ref 12), some (.ref 2), some (.int t1.1)]) (st' := [.int ((t1.2.1 17 (eh_ix t1.1)) + 1), .int t1.1, .ref 17]) [(.iconst 1, 1), (.iadd, 0)] (by decide +kernel) rfl rfl ?_
        refine ef_ast (k := 17) rfl (by decide +kernel) (fun _ => ?_)
        refine ef_V (fun _ => [some (.ref 12), some (.ref 2), some (.int t1.1)]) (fun _ => []) (fun s14 => eh_FW s14) (fun s14 => ?_)
        refine es_blk (pc' := 28) (L' := [some (.ref 12), some (.ref 2), some (.int (t1.1 + 1))]) (st' := []) [(.iinc 2 1, 1)] (by decide +kernel) rfl rfl ?_
        refine ef_V (fun x15 => [some (.ref 12), some (.ref 2), some (.int x15)]) (fun _ => []) (fun _ => eh_FW s14) (fun x15 => ?_)
        refine es_goto (tgt := 2) (off := (-26)) (by decide +kernel) (by decide) ?_
        exact Hr11 (x15, s14)
      refine ef_drop (L2 := [some (.ref 12), some (.ref 2), none]) [true, true, false] rfl rfl ?_
      exact HxK10_0 t1.2
    refine ef_drop (L2 := [some (.ref 12), some (.ref 2), none]) [true, true, false] rfl rfl ?_
    exact HxK10_0 t1.2
def eF_3_reaches (s : eh_F) (p0 : Nat) (p1 : Int32) (p2 : Int32) (p3 : Int32) : Option (Int32) := Option.bind (eh_loop (fun (r5 : (Int32) → Option ((Unit) ⊕ (Unit))) (t1 : Int32) => if t1 < p2 then (Option.bind (eF_6_rightsAt s (((p1.toInt64) &&& 4294967295) + (t1.toInt64)) (s.1 p0 3)) (fun q7 => if (q7 &&& p3) = 0 then (some (.inr ())) else (eh_V ((t1 + 1) : Int32) (fun x9 => r5 x9)))) else (some (.inl ()))) eh_FU 0) (Sum.elim (fun (e2 : Unit) => some 1) (fun (e3 : Unit) => some 0))
set_option maxHeartbeats 4000000 in
set_option maxRecDepth 100000 in
theorem eS_3_reaches (g : eh_P) (s : eh_F) (p0 : Nat) (p1 : Int32) (p2 : Int32) (p3 : Int32) (hp0 : eh_okF p0 = true) : eh_Sim g eM_3_reaches (eh_R 4 0 0) (eh_pI s) 0 0 0 (eh_en 6 [.ref 125, .ref p0, .int p1, .int p2, .int p3]) [] (eh_FW s) (eF_3_reaches s p0 p1 p2 p3) := by
  unfold eF_3_reaches
  refine ef_top (L := [some (.ref 125), some (.ref p0), some (.int p1), some (.int p2), some (.int p3), none]) rfl ?_
  refine es_blk (pc' := 3) (L' := [some (.ref 125), some (.ref p0), some (.int p1), some (.int p2), some (.int p3), some (.int 0)]) (st' := []) [(.iconst 0, 0), (.istore 5, 0)] (by decide +kernel) rfl rfl ?_
  refine ef_loop2 (n := eh_FU) (i := 0) (px := 44) (px2 := 36) (fun (t1 : Int32) => [some (.ref 125), some (.ref p0), some (.int p1), some (.int p2), some (.int p3), some (.int t1)]) (fun (t1 : Int32) => []) (fun (t1 : Int32) => eh_FW s) (fun (e2 : Unit) => [none, none, none, none, none, none]) (fun (e2 : Unit) => []) (fun (e2 : Unit) => eh_FW s) (fun (e3 : Unit) => [none, none, none, none, none, none]) (fun (e3 : Unit) => []) (fun (e3 : Unit) => eh_FW s) (fun e2 => ?_) (fun e3 => ?_) (fun K4 HxK4_0 HxK4_1 r5 Hr5 t1 => ?_)
  · refine es_blk (pc' := 45) (L' := [none, none, none, none, none, none]) (st' := [.int 1]) [(.iconst 1, 1)] (by decide +kernel) rfl rfl ?_
    exact es_ret rfl rfl rfl ⟨by decide +kernel, _, rfl, eh_narZ (Or.inr rfl)⟩ (Nat.le_refl _) (Nat.le_refl _)
  · refine es_blk (pc' := 37) (L' := [none, none, none, none, none, none]) (st' := [.int 0]) [(.iconst 0, 0)] (by decide +kernel) rfl rfl ?_
    exact es_ret rfl rfl rfl ⟨by decide +kernel, _, rfl, eh_narZ (Or.inl rfl)⟩ (Nat.le_refl _) (Nat.le_refl _)
  · refine es_blk (pc' := 6) (L' := [some (.ref 125), some (.ref p0), some (.int p1), some (.int p2), some (.int p3), some (.int t1)]) (st' := [.int p2, .int t1]) [(.iload 5, 0), (.iload_n 3, 0)] (by decide +kernel) rfl rfl ?_
    refine es_ige (tgt := 44) (off := (38)) (by decide +kernel) (by decide) (fun h6 => ?_) (fun h6 => ?_)
    · refine es_blk (pc' := 10) (L' := [some (.ref 125), some (.ref p0), some (.int p1), some (.int p2), some (.int p3), some (.int t1)]) (st' := [.ref 125]) [(.aload_n 0, 0)] (by decide +kernel) rfl rfl ?_
      refine ef_getP (k := 125) (j := 1) (q := 2) rfl eL_3_25 rfl rfl rfl (by decide +kernel) ?_
      refine es_blk (pc' := 15) (L' := [some (.ref 125), some (.ref p0), some (.int p1), some (.int p2), some (.int p3), some (.int t1)]) (st' := [.long (p1.toInt64), .ref 2]) [(.iload_n 2, 0), (.i2l, 0)] (by decide +kernel) rfl rfl ?_
      refine es_ldc2 (v := 4294967295) eC_3_118 (by decide +kernel) ?_
      refine es_blk (pc' := 24) (L' := [some (.ref 125), some (.ref p0), some (.int p1), some (.int p2), some (.int p3), some (.int t1)]) (st' := [.ref p0, .long (((p1.toInt64) &&& 4294967295) + (t1.toInt64)), .ref 2]) [(.land, 0), (.iload 5, 0), (.i2l, 0), (.ladd, 0), (.aload_n 1, 0)] (by decide +kernel) rfl rfl ?_
      refine ef_getI (k := p0) (j := 3) (eh_F0sh hp0) eL_3_73 (by decide) (by decide +kernel) ?_
      refine ef_vpI (d := 3) (k := 2) (As := [.long (((p1.toInt64) &&& 4294967295) + (t1.toInt64)), .int (s.1 p0 3)]) (st := []) eV_6_rightsAt eK_3_120 (eS_6_rightsAt g s (((p1.toInt64) &&& 4294967295) + (t1.toInt64)) (s.1 p0 3)) rfl rfl (Nat.le_of_ble_eq_true rfl) rfl (Nat.le_of_ble_eq_true rfl) ⟨Nat.le_of_ble_eq_true rfl, Nat.le_of_ble_eq_true rfl⟩ ⟨Nat.le_refl _, Nat.le_refl _⟩ (by decide +kernel) (fun q7 _ => ?_)
      refine es_blk (pc' := 33) (L' := [some (.ref 125), some (.ref p0), some (.int p1), some (.int p2), some (.int p3), some (.int t1)]) (st' := [.int (q7 &&& p3)]) [(.iload 4, 0), (.iand, 0)] (by decide +kernel) rfl rfl ?_
      refine es_ne (tgt := 38) (off := (5)) (by decide +kernel) (by decide) (fun h8 => ?_) (fun h8 => ?_)
      · refine ef_drop (L2 := [none, none, none, none, none, none]) [false, false, false, false, false, false] rfl rfl ?_
        exact HxK4_1 ()
      refine es_blk (pc' := 41) (L' := [some (.ref 125), some (.ref p0), some (.int p1), some (.int p2), some (.int p3), some (.int (t1 + 1))]) (st' := []) [(.iinc 5 1, 1)] (by decide +kernel) rfl rfl ?_
      refine ef_V (fun x9 => [some (.ref 125), some (.ref p0), some (.int p1), some (.int p2), some (.int p3), some (.int x9)]) (fun _ => []) (fun _ => eh_FW s) (fun x9 => ?_)
      refine es_goto (tgt := 3) (off := (-38)) (by decide +kernel) (by decide) ?_
      exact Hr5 x9
    refine ef_drop (L2 := [none, none, none, none, none, none]) [false, false, false, false, false, false] rfl rfl ?_
    exact HxK4_0 ()
def eF_3_write (s : eh_F) (p0 : Nat) (p1 : Int32) (p2 np2 : Nat) (p3 : Int32) : Option (eh_F) := Option.bind (eh_loop (fun (r4 : (Int32 × eh_F) → Option (eh_F)) (t1 : Int32 × eh_F) => if t1.1 < p3 then (if (t1.1 / 4) < (Int32.ofNat np2) then (if eh_in (t1.1 / 4) np2 then Option.bind (eF_5_storeFor t1.2 p0 (p1 + t1.1) ((eh_ushr (t1.2.1 p2 (eh_ix (t1.1 / 4))) (24 - (8 * (t1.1 &&& 3)))) &&& 255) 1) (fun q7 => eh_V ((t1.1 + 1) : Int32) (fun x8 => r4 (x8, q7))) else none) else (some t1.2)) else (some t1.2)) eh_FU (0, s)) (fun (e2 : eh_F) => some e2)
set_option maxHeartbeats 4000000 in
set_option maxRecDepth 100000 in
theorem eS_3_write (g : eh_P) (s : eh_F) (p0 : Nat) (p1 : Int32) (p2 np2 : Nat) (p3 : Int32) (hp0 : eh_okF p0 = true) (hp2 : eh_SH[p2]? = some (100, np2)) : eh_Sim g eM_3_write (eh_R 4 0 0) eh_eV 0 0 0 (eh_en 6 [.ref 125, .ref p0, .int p1, .ref p2, .int p3]) [] (eh_FW s) (eF_3_write s p0 p1 p2 np2 p3) := by
  unfold eF_3_write
  refine ef_top (L := [some (.ref 125), some (.ref p0), some (.int p1), some (.ref p2), some (.int p3), none]) rfl ?_
  refine es_blk (pc' := 3) (L' := [some (.ref 125), some (.ref p0), some (.int p1), some (.ref p2), some (.int p3), some (.int 0)]) (st' := []) [(.iconst 0, 0), (.istore 5, 0)] (by decide +kernel) rfl rfl ?_
  refine ef_loop1 (n := eh_FU) (i := (0, s)) (px := 59) (fun (t1 : Int32 × eh_F) => [some (.ref 125), some (.ref p0), some (.int p1), some (.ref p2), some (.int p3), some (.int t1.1)]) (fun (t1 : Int32 × eh_F) => []) (fun (t1 : Int32 × eh_F) => eh_FW t1.2) (fun (e2 : eh_F) => [none, none, none, none, none, none]) (fun (e2 : eh_F) => []) (fun (e2 : eh_F) => eh_FW e2) (fun e2 => ?_) (fun K3 HxK3_0 r4 Hr4 t1 => ?_)
  · exact es_ret rfl rfl rfl ⟨by decide +kernel, rfl⟩ (Nat.le_refl _) (Nat.le_refl _)
  · refine es_blk (pc' := 7) (L' := [some (.ref 125), some (.ref p0), some (.int p1), some (.ref p2), some (.int p3), some (.int t1.1)]) (st' := [.int p3, .int t1.1]) [(.iload 5, 0), (.iload 4, 0)] (by decide +kernel) rfl rfl ?_
    refine es_ige (tgt := 59) (off := (52)) (by decide +kernel) (by decide) (fun h5 => ?_) (fun h5 => ?_)
    · refine es_blk (pc' := 13) (L' := [some (.ref 125), some (.ref p0), some (.int p1), some (.ref p2), some (.int p3), some (.int t1.1)]) (st' := [.int 4, .int t1.1]) [(.iload 5, 0), (.iconst 4, 4)] (by decide +kernel) rfl rfl ?_
      refine es_idiv (by decide +kernel) (by decide) ?_
      refine es_blk (pc' := 15) (L' := [some (.ref 125), some (.ref p0), some (.int p1), some (.ref p2), some (.int p3), some (.int t1.1)]) (st' := [.ref p2, .int (t1.1 / 4)]) [(.aload_n 3, 0)] (by decide +kernel) rfl rfl ?_
      refine ef_alen (k := p2) hp2 (by decide) (by decide +kernel) ?_
      refine es_ige (tgt := 59) (off := (43)) (by decide +kernel) (by decide) (fun h6 => ?_) (fun h6 => ?_)
      · refine es_blk (pc' := 20) (L' := [some (.ref 125), some (.ref p0), some (.int p1), some (.ref p2), some (.int p3), some (.int t1.1)]) (st' := [.ref 125]) [(.aload_n 0, 0)] (by decide +kernel) rfl rfl ?_
        refine ef_getP (k := 125) (j := 0) (q := 1) rfl eL_3_15 rfl rfl rfl (by decide +kernel) ?_
        refine es_blk (pc' := 32) (L' := [some (.ref 125), some (.ref p0), some (.int p1), some (.ref p2), some (.int p3), some (.int t1.1)]) (st' := [.int 4, .int t1.1, .ref p2, .int (p1 + t1.1), .ref p0, .ref 1]) [(.aload_n 1, 0), (.iload_n 2, 0), (.iload 5, 0), (.iadd, 0), (.aload_n 3, 0), (.iload 5, 0), (.iconst 4, 4)] (by decide +kernel) rfl rfl ?_
        refine es_idiv (by decide +kernel) (by decide) ?_
        refine ef_ald (k := p2) hp2 (Or.inl ⟨rfl, rfl⟩) (by decide +kernel) (fun _ => ?_)
        refine es_blk (pc' := 50) (L' := [some (.ref 125), some (.ref p0), some (.int p1), some (.ref p2), some (.int p3), some (.int t1.1)]) (st' := [.int 1, .int ((eh_ushr (t1.2.1 p2 (eh_ix (t1.1 / 4))) (24 - (8 * (t1.1 &&& 3)))) &&& 255), .int (p1 + t1.1), .ref p0, .ref 1]) [(.bipush 24, 24), (.bipush 8, 8), (.iload 5, 0), (.iconst 3, 3), (.iand, 0), (.imul, 0), (.isub, 0), (.iushr, 0), (.sipush 255, 255), (.iand, 0), (.iconst 1, 1)] (by decide +kernel) rfl rfl ?_
        refine ef_veV (d := 3) (k := 1) (As := [.ref p0, .int (p1 + t1.1), .int ((eh_ushr (t1.2.1 p2 (eh_ix (t1.1 / 4))) (24 - (8 * (t1.1 &&& 3)))) &&& 255), .int 1]) (st := []) eV_5_storeFor eK_3_130 (eS_5_storeFor g t1.2 p0 (p1 + t1.1) ((eh_ushr (t1.2.1 p2 (eh_ix (t1.1 / 4))) (24 - (8 * (t1.1 &&& 3)))) &&& 255) 1 hp0) rfl rfl (Nat.le_of_ble_eq_true rfl) rfl (Nat.le_of_ble_eq_true rfl) ⟨Nat.le_of_ble_eq_true rfl, Nat.le_of_ble_eq_true rfl⟩ ⟨Nat.le_refl _, Nat.le_refl _⟩ (by decide +kernel) (fun q7 _ => ?_)
        refine es_blk (pc' := 56) (L' := [some (.ref 125), some (.ref p0), some (.int p1), some (.ref p2), some (.int p3), some (.int (t1.1 + 1))]) (st' := []) [(.iinc 5 1, 1)] (by decide +kernel) rfl rfl ?_
        refine ef_V (fun x8 => [some (.ref 125), some (.ref p0), some (.int p1), some (.ref p2), some (.int p3), some (.int x8)]) (fun _ => []) (fun _ => eh_FW q7) (fun x8 => ?_)
        refine es_goto (tgt := 3) (off := (-53)) (by decide +kernel) (by decide) ?_
        exact Hr4 (x8, q7)
      refine ef_drop (L2 := [none, none, none, none, none, none]) [false, false, false, false, false, false] rfl rfl ?_
      exact HxK3_0 t1.2
    refine ef_drop (L2 := [none, none, none, none, none, none]) [false, false, false, false, false, false] rfl rfl ?_
    exact HxK3_0 t1.2
def eF_3_answerOfPath (s : eh_F) (p0 : Nat) (p1 : Int32) (p2 : Int32) : Option (Int32 × eh_F) := eh_J (fun (a2 : Int32) => eh_J (fun (u4 : Unit) => some ((-1), s)) (fun j3 => if p1 < 45 then (j3 ()) else (if 48 < p1 then (j3 ()) else (if p1 = 45 then (Option.bind (eF_3_claim s p0 a2) (fun q8 => some (q8.1, q8.2))) else (if a2 = 0 then (some ((-2), s)) else (if p1 = 46 then (Option.bind (eF_0_givePath s (-1)) (fun q11 => Option.bind (eF_5_note q11 9 p0 0 0 0) (fun q12 => some (0, q12)))) else (if p1 = 47 then (Option.bind (eF_8_add s 24 (p2 &&& 255)) (fun q14 => eh_J (fun (a16 : Int32) => some (a16, q14.2)) (fun j15 => if q14.1 = 0 then (j15 (-5)) else (j15 (q14.2.1 24 1))))) else (Option.bind (eF_8_takeFirst s 22 256) (fun q18 => some (q18.1, q18.2)))))))))) (fun j1 => if (s.1 12 14) = (s.1 p0 3) then (j1 1) else (j1 0))
set_option maxHeartbeats 4000000 in
set_option maxRecDepth 100000 in
theorem eS_3_answerOfPath (g : eh_P) (s : eh_F) (p0 : Nat) (p1 : Int32) (p2 : Int32) (hp0 : eh_okF p0 = true) : eh_Sim g eM_3_answerOfPath (eh_R 4 0 0) eh_eI 0 0 0 (eh_en 5 [.ref 125, .ref p0, .int p1, .int p2]) [] (eh_FW s) (eF_3_answerOfPath s p0 p1 p2) := by
  unfold eF_3_answerOfPath
  refine ef_top (L := [some (.ref 125), some (.ref p0), some (.int p1), some (.int p2), none]) rfl ?_
  refine es_blk (pc' := 1) (L' := [some (.ref 125), some (.ref p0), some (.int p1), some (.int p2), none]) (st' := [.ref 125]) [(.aload_n 0, 0)] (by decide +kernel) rfl rfl ?_
  refine ef_getP (k := 125) (j := 2) (q := 12) rfl eL_3_30 rfl rfl rfl (by decide +kernel) ?_
  refine ef_getI (k := 12) (j := 14) rfl eL_3_243 (by decide) (by decide +kernel) ?_
  refine es_blk (pc' := 8) (L' := [some (.ref 125), some (.ref p0), some (.int p1), some (.int p2), none]) (st' := [.ref p0, .int (s.1 12 14)]) [(.aload_n 1, 0)] (by decide +kernel) rfl rfl ?_
  refine ef_getI (k := p0) (j := 3) (eh_F0sh hp0) eL_3_73 (by decide) (by decide +kernel) ?_
  refine ef_J (X := fun j1 => ∀ (a2 : Int32), eh_Sim g eM_3_answerOfPath (eh_R 4 0 0) eh_eI 0 0 19 [some (.ref 125), some (.ref p0), some (.int p1), some (.int p2), none] [.int a2] (eh_FW s) ((j1 a2).bind some)) ?_ (fun j1 Hj1 => ?_)
  · intro a2
    refine es_blk (pc' := 24) (L' := [some (.ref 125), some (.ref p0), some (.int p1), some (.int p2), some (.int a2)]) (st' := [.int 45, .int p1]) [(.istore 4, 0), (.iload_n 2, 0), (.bipush 45, 45)] (by decide +kernel) rfl rfl ?_
    refine ef_J (X := fun j3 => ∀ (u4 : Unit), eh_Sim g eM_3_answerOfPath (eh_R 4 0 0) eh_eI 0 0 33 [none, none, none, none, none] [] (eh_FW s) ((j3 u4).bind some)) ?_ (fun j3 Hj3 => ?_)
    · intro u4
      refine es_blk (pc' := 34) (L' := [none, none, none, none, none]) (st' := [.int (-1)]) [(.iconst (-1), (-1))] (by decide +kernel) rfl rfl ?_
      exact es_ret rfl rfl rfl ⟨by decide +kernel, _, rfl, rfl⟩ (Nat.le_refl _) (Nat.le_refl _)
    refine es_ilt (tgt := 33) (off := (9)) (by decide +kernel) (by decide) (fun h5 => ?_) (fun h5 => ?_)
    · refine ef_drop (L2 := [none, none, none, none, none]) [false, false, false, false, false] rfl rfl ?_
      exact Hj3 ()
    refine es_blk (pc' := 30) (L' := [some (.ref 125), some (.ref p0), some (.int p1), some (.int p2), some (.int a2)]) (st' := [.int 48, .int p1]) [(.iload_n 2, 0), (.bipush 48, 48)] (by decide +kernel) rfl rfl ?_
    refine es_ile (tgt := 35) (off := (5)) (by decide +kernel) (by decide) (fun h6 => ?_) (fun h6 => ?_)
    · refine ef_drop (L2 := [none, none, none, none, none]) [false, false, false, false, false] rfl rfl ?_
      exact Hj3 ()
    refine es_blk (pc' := 38) (L' := [some (.ref 125), some (.ref p0), some (.int p1), some (.int p2), some (.int a2)]) (st' := [.int 45, .int p1]) [(.iload_n 2, 0), (.bipush 45, 45)] (by decide +kernel) rfl rfl ?_
    refine es_ine (tgt := 49) (off := (11)) (by decide +kernel) (by decide) (fun h7 => ?_) (fun h7 => ?_)
    · refine es_blk (pc' := 45) (L' := [some (.ref 125), some (.ref p0), some (.int p1), some (.int p2), some (.int a2)]) (st' := [.int a2, .ref p0, .ref 125]) [(.aload_n 0, 0), (.aload_n 1, 0), (.iload 4, 0)] (by decide +kernel) rfl rfl ?_
      refine ef_veI (d := 3) (k := 125) (As := [.ref p0, .int a2]) (st := []) eV_3_claim eK_3_248 (eS_3_claim g s p0 a2 hp0) rfl rfl (Nat.le_of_ble_eq_true rfl) rfl (Nat.le_of_ble_eq_true rfl) ⟨Nat.le_of_ble_eq_true rfl, Nat.le_of_ble_eq_true rfl⟩ ⟨Nat.le_refl _, Nat.le_refl _⟩ (by decide +kernel) (fun q8 _ => ?_)
      exact es_ret rfl rfl rfl ⟨by decide +kernel, _, rfl, rfl⟩ (Nat.le_refl _) (Nat.le_refl _)
    refine es_blk (pc' := 51) (L' := [some (.ref 125), some (.ref p0), some (.int p1), some (.int p2), some (.int a2)]) (st' := [.int a2]) [(.iload 4, 0)] (by decide +kernel) rfl rfl ?_
    refine es_ne (tgt := 57) (off := (6)) (by decide +kernel) (by decide) (fun h9 => ?_) (fun h9 => ?_)
    · refine es_blk (pc' := 56) (L' := [some (.ref 125), some (.ref p0), some (.int p1), some (.int p2), some (.int a2)]) (st' := [.int (-2)]) [(.bipush (-2), (-2))] (by decide +kernel) rfl rfl ?_
      exact es_ret rfl rfl rfl ⟨by decide +kernel, _, rfl, rfl⟩ (Nat.le_refl _) (Nat.le_refl _)
    refine es_blk (pc' := 60) (L' := [some (.ref 125), some (.ref p0), some (.int p1), some (.int p2), some (.int a2)]) (st' := [.int 46, .int p1]) [(.iload_n 2, 0), (.bipush 46, 46)] (by decide +kernel) rfl rfl ?_
    refine es_ine (tgt := 86) (off := (26)) (by decide +kernel) (by decide) (fun h10 => ?_) (fun h10 => ?_)
    · refine es_blk (pc' := 64) (L' := [some (.ref 125), some (.ref p0), some (.int p1), some (.int p2), some (.int a2)]) (st' := [.ref 125]) [(.aload_n 0, 0)] (by decide +kernel) rfl rfl ?_
      refine ef_getP (k := 125) (j := 2) (q := 12) rfl eL_3_30 rfl rfl rfl (by decide +kernel) ?_
      refine es_blk (pc' := 68) (L' := [some (.ref 125), some (.ref p0), some (.int p1), some (.int p2), some (.int a2)]) (st' := [.int (-1), .ref 12]) [(.iconst (-1), (-1))] (by decide +kernel) rfl rfl ?_
      refine ef_veV (d := 2) (k := 12) (As := [.int (-1)]) (st := []) eV_0_givePath eK_3_252 (eS_0_givePath g s (-1)) rfl rfl (Nat.le_of_ble_eq_true rfl) rfl (Nat.le_of_ble_eq_true rfl) ⟨Nat.le_of_ble_eq_true rfl, Nat.le_of_ble_eq_true rfl⟩ ⟨Nat.le_refl _, Nat.le_refl _⟩ (by decide +kernel) (fun q11 _ => ?_)
      refine es_blk (pc' := 72) (L' := [some (.ref 125), some (.ref p0), some (.int p1), some (.int p2), some (.int a2)]) (st' := [.ref 125]) [(.aload_n 0, 0)] (by decide +kernel) rfl rfl ?_
      refine ef_getP (k := 125) (j := 0) (q := 1) rfl eL_3_15 rfl rfl rfl (by decide +kernel) ?_
      refine es_blk (pc' := 81) (L' := [some (.ref 125), some (.ref p0), some (.int p1), some (.int p2), some (.int a2)]) (st' := [.int 0, .int 0, .int 0, .ref p0, .int 9, .ref 1]) [(.bipush 9, 9), (.aload_n 1, 0), (.iconst 0, 0), (.iconst 0, 0), (.iconst 0, 0)] (by decide +kernel) rfl rfl ?_
      refine ef_veV (d := 1) (k := 1) (As := [.int 9, .ref p0, .int 0, .int 0, .int 0]) (st := []) eV_5_note eK_3_111 (eS_5_note g q11 9 p0 0 0 0 hp0) rfl rfl (Nat.le_of_ble_eq_true rfl) rfl (Nat.le_of_ble_eq_true rfl) ⟨Nat.le_of_ble_eq_true rfl, Nat.le_of_ble_eq_true rfl⟩ ⟨Nat.le_refl _, Nat.le_refl _⟩ (by decide +kernel) (fun q12 _ => ?_)
      refine es_blk (pc' := 85) (L' := [some (.ref 125), some (.ref p0), some (.int p1), some (.int p2), some (.int a2)]) (st' := [.int 0]) [(.iconst 0, 0)] (by decide +kernel) rfl rfl ?_
      exact es_ret rfl rfl rfl ⟨by decide +kernel, _, rfl, rfl⟩ (Nat.le_refl _) (Nat.le_refl _)
    refine es_blk (pc' := 89) (L' := [some (.ref 125), some (.ref p0), some (.int p1), some (.int p2), some (.int a2)]) (st' := [.int 47, .int p1]) [(.iload_n 2, 0), (.bipush 47, 47)] (by decide +kernel) rfl rfl ?_
    refine es_ine (tgt := 126) (off := (37)) (by decide +kernel) (by decide) (fun h13 => ?_) (fun h13 => ?_)
    · refine es_blk (pc' := 93) (L' := [some (.ref 125), some (.ref p0), some (.int p1), some (.int p2), some (.int a2)]) (st' := [.ref 125]) [(.aload_n 0, 0)] (by decide +kernel) rfl rfl ?_
      refine ef_getP (k := 125) (j := 2) (q := 12) rfl eL_3_30 rfl rfl rfl (by decide +kernel) ?_
      refine ef_getP (k := 12) (j := 13) (q := 24) rfl eL_3_255 rfl rfl rfl (by decide +kernel) ?_
      refine es_blk (pc' := 104) (L' := [some (.ref 125), some (.ref p0), some (.int p1), some (.int p2), some (.int a2)]) (st' := [.int (p2 &&& 255), .ref 24]) [(.iload_n 3, 0), (.sipush 255, 255), (.iand, 0)] (by decide +kernel) rfl rfl ?_
      refine ef_veI (d := 1) (k := 24) (As := [.int (p2 &&& 255)]) (st := []) eV_8_add eK_3_259 (eS_8_add g s 24 (p2 &&& 255) rfl) rfl rfl (Nat.le_of_ble_eq_true rfl) rfl (Nat.le_of_ble_eq_true rfl) ⟨Nat.le_of_ble_eq_true rfl, Nat.le_of_ble_eq_true rfl⟩ ⟨Nat.le_refl _, Nat.le_refl _⟩ (by decide +kernel) (fun q14 _ => ?_)
      refine ef_J (X := fun j15 => ∀ (a16 : Int32), eh_Sim g eM_3_answerOfPath (eh_R 4 0 0) eh_eI 0 0 125 [none, none, none, none, none] [.int a16] (eh_FW q14.2) ((j15 a16).bind some)) ?_ (fun j15 Hj15 => ?_)
      · intro a16
        exact es_ret rfl rfl rfl ⟨by decide +kernel, _, rfl, rfl⟩ (Nat.le_refl _) (Nat.le_refl _)
      refine es_eq (tgt := 123) (off := (16)) (by decide +kernel) (by decide) (fun h17 => ?_) (fun h17 => ?_)
      · refine es_blk (pc' := 125) (L' := [some (.ref 125), some (.ref p0), some (.int p1), some (.int p2), some (.int a2)]) (st' := [.int (-5)]) [(.bipush (-5), (-5))] (by decide +kernel) rfl rfl ?_
        refine ef_drop (L2 := [none, none, none, none, none]) [false, false, false, false, false] rfl rfl ?_
        exact Hj15 _
      refine es_blk (pc' := 111) (L' := [some (.ref 125), some (.ref p0), some (.int p1), some (.int p2), some (.int a2)]) (st' := [.ref 125]) [(.aload_n 0, 0)] (by decide +kernel) rfl rfl ?_
      refine ef_getP (k := 125) (j := 2) (q := 12) rfl eL_3_30 rfl rfl rfl (by decide +kernel) ?_
      refine ef_getP (k := 12) (j := 13) (q := 24) rfl eL_3_255 rfl rfl rfl (by decide +kernel) ?_
      refine ef_getI (k := 24) (j := 1) rfl eL_3_264 (by decide) (by decide +kernel) ?_
      refine es_goto (tgt := 125) (off := (5)) (by decide +kernel) (by decide) ?_
      refine ef_drop (L2 := [none, none, none, none, none]) [false, false, false, false, false] rfl rfl ?_
      exact Hj15 _
    refine es_blk (pc' := 127) (L' := [some (.ref 125), some (.ref p0), some (.int p1), some (.int p2), some (.int a2)]) (st' := [.ref 125]) [(.aload_n 0, 0)] (by decide +kernel) rfl rfl ?_
    refine ef_getP (k := 125) (j := 2) (q := 12) rfl eL_3_30 rfl rfl rfl (by decide +kernel) ?_
    refine ef_getP (k := 12) (j := 12) (q := 22) rfl eL_3_267 rfl rfl rfl (by decide +kernel) ?_
    refine es_blk (pc' := 136) (L' := [some (.ref 125), some (.ref p0), some (.int p1), some (.int p2), some (.int a2)]) (st' := [.int 256, .ref 22]) [(.sipush 256, 256)] (by decide +kernel) rfl rfl ?_
    refine ef_veI (d := 1) (k := 22) (As := [.int 256]) (st := []) eV_8_takeFirst eK_3_270 (eS_8_takeFirst g s 22 256 rfl) rfl rfl (Nat.le_of_ble_eq_true rfl) rfl (Nat.le_of_ble_eq_true rfl) ⟨Nat.le_of_ble_eq_true rfl, Nat.le_of_ble_eq_true rfl⟩ ⟨Nat.le_refl _, Nat.le_refl _⟩ (by decide +kernel) (fun q18 _ => ?_)
    exact es_ret rfl rfl rfl ⟨by decide +kernel, _, rfl, rfl⟩ (Nat.le_refl _) (Nat.le_refl _)
  refine es_ine (tgt := 18) (off := (7)) (by decide +kernel) (by decide) (fun h19 => ?_) (fun h19 => ?_)
  · refine es_blk (pc' := 15) (L' := [some (.ref 125), some (.ref p0), some (.int p1), some (.int p2), none]) (st' := [.int 1]) [(.iconst 1, 1)] (by decide +kernel) rfl rfl ?_
    refine es_goto (tgt := 19) (off := (4)) (by decide +kernel) (by decide) ?_
    exact Hj1 _
  refine es_blk (pc' := 19) (L' := [some (.ref 125), some (.ref p0), some (.int p1), some (.int p2), none]) (st' := [.int 0]) [(.iconst 0, 0)] (by decide +kernel) rfl rfl ?_
  exact Hj1 _
def eF_5_restart (s : eh_F) (p0 : Int32) : Option (eh_F) := Option.bind (eF_6_clear s) (fun q1 => Option.bind (eF_0_restart q1) (fun q2 => Option.bind (eh_loop (fun (r30 : (Int32 × eh_F) → Option (eh_F)) (t3 : Int32 × eh_F) => if t3.1 < 2 then (if eh_in t3.1 2 then Option.bind (eF_4_restart t3.2 (eh_hp t3.1)) (fun q33 => eh_V ((t3.1 + 1) : Int32) (fun x34 => r30 (x34, q33))) else none) else (some t3.2)) eh_FU (0, q2)) (fun (e4 : eh_F) => Option.bind (eh_loop (fun (r24 : (Int32 × eh_F) → Option (eh_F)) (t5 : Int32 × eh_F) => if t5.1 < 12 then (if eh_in t5.1 12 then eh_V (eh_tI t5.2 (eh_fp t5.1) 6 0) (fun s27 => eh_V ((t5.1 + 1) : Int32) (fun x28 => r24 (x28, s27))) else none) else (some t5.2)) eh_FU (0, e4)) (fun (e6 : eh_F) => Option.bind (eh_loop (fun (r16 : (Int32 × eh_F) → Option (eh_F)) (t7 : Int32 × eh_F) => if t7.1 < 6 then (if eh_in t7.1 6 then eh_V (eh_tI t7.2 (eh_ep t7.1) 5 0) (fun s19 => if eh_in t7.1 6 then eh_V (eh_tI s19 (eh_ep t7.1) 8 0) (fun s21 => eh_V ((t7.1 + 1) : Int32) (fun x22 => r16 (x22, s21))) else none) else none) else (some t7.2)) eh_FU (0, e6)) (fun (e8 : eh_F) => Option.bind (eF_23_fill e8 34 8 0) (fun q9 => eh_V (eh_tI q9 1 10 0) (fun s10 => eh_V (eh_tI s10 1 11 0) (fun s11 => Option.bind (eF_9_beginKeyed s11 29 37 8) (fun q12 => Option.bind (eF_9_feedNumber q12 29 p0) (fun q13 => Option.bind (eF_9_endKeyed q13 29 37 8 33 8) (fun q14 => some q14)))))))))))
set_option maxHeartbeats 4000000 in
set_option maxRecDepth 100000 in
theorem eS_5_restart (g : eh_P) (s : eh_F) (p0 : Int32) : eh_Sim g eM_5_restart (eh_R 4 0 0) eh_eV 0 0 0 (eh_en 3 [.ref 1, .int p0]) [] (eh_FW s) (eF_5_restart s p0) := by
  unfold eF_5_restart
  refine ef_top (L := [some (.ref 1), some (.int p0), none]) rfl ?_
  refine es_blk (pc' := 1) (L' := [some (.ref 1), some (.int p0), none]) (st' := [.ref 1]) [(.aload_n 0, 0)] (by decide +kernel) rfl rfl ?_
  refine ef_getP (k := 1) (j := 0) (q := 2) rfl eL_5_12 rfl rfl rfl (by decide +kernel) ?_
  refine ef_veV (d := 2) (k := 2) (As := []) (st := []) eV_6_clear eK_5_93 (eS_6_clear g s) rfl rfl (Nat.le_of_ble_eq_true rfl) rfl (Nat.le_of_ble_eq_true rfl) ⟨Nat.le_of_ble_eq_true rfl, Nat.le_of_ble_eq_true rfl⟩ ⟨Nat.le_refl _, Nat.le_refl _⟩ (by decide +kernel) (fun q1 _ => ?_)
  refine es_blk (pc' := 8) (L' := [some (.ref 1), some (.int p0), none]) (st' := [.ref 1]) [(.aload_n 0, 0)] (by decide +kernel) rfl rfl ?_
  refine ef_getP (k := 1) (j := 1) (q := 12) rfl eL_5_21 rfl rfl rfl (by decide +kernel) ?_
  refine ef_veV (d := 3) (k := 12) (As := []) (st := []) eV_0_restart eK_5_96 (eS_0_restart g q1) rfl rfl (Nat.le_of_ble_eq_true rfl) rfl (Nat.le_of_ble_eq_true rfl) ⟨Nat.le_of_ble_eq_true rfl, Nat.le_of_ble_eq_true rfl⟩ ⟨Nat.le_refl _, Nat.le_refl _⟩ (by decide +kernel) (fun q2 _ => ?_)
  refine es_blk (pc' := 16) (L' := [some (.ref 1), some (.int p0), some (.int 0)]) (st' := []) [(.iconst 0, 0), (.istore_n 2, 0)] (by decide +kernel) rfl rfl ?_
  refine ef_loop1 (n := eh_FU) (i := (0, q2)) (px := 36) (fun (t3 : Int32 × eh_F) => [some (.ref 1), some (.int p0), some (.int t3.1)]) (fun (t3 : Int32 × eh_F) => []) (fun (t3 : Int32 × eh_F) => eh_FW t3.2) (fun (e4 : eh_F) => [some (.ref 1), some (.int p0), none]) (fun (e4 : eh_F) => []) (fun (e4 : eh_F) => eh_FW e4) (fun e4 => ?_) (fun K29 HxK29_0 r30 Hr30 t3 => ?_)
  · refine es_blk (pc' := 38) (L' := [some (.ref 1), some (.int p0), some (.int 0)]) (st' := []) [(.iconst 0, 0), (.istore_n 2, 0)] (by decide +kernel) rfl rfl ?_
    refine ef_loop1 (n := eh_FU) (i := (0, e4)) (px := 60) (fun (t5 : Int32 × eh_F) => [some (.ref 1), some (.int p0), some (.int t5.1)]) (fun (t5 : Int32 × eh_F) => []) (fun (t5 : Int32 × eh_F) => eh_FW t5.2) (fun (e6 : eh_F) => [some (.ref 1), some (.int p0), none]) (fun (e6 : eh_F) => []) (fun (e6 : eh_F) => eh_FW e6) (fun e6 => ?_) (fun K23 HxK23_0 r24 Hr24 t5 => ?_)
    · refine es_blk (pc' := 62) (L' := [some (.ref 1), some (.int p0), some (.int 0)]) (st' := []) [(.iconst 0, 0), (.istore_n 2, 0)] (by decide +kernel) rfl rfl ?_
      refine ef_loop1 (n := eh_FU) (i := (0, e6)) (px := 94) (fun (t7 : Int32 × eh_F) => [some (.ref 1), some (.int p0), some (.int t7.1)]) (fun (t7 : Int32 × eh_F) => []) (fun (t7 : Int32 × eh_F) => eh_FW t7.2) (fun (e8 : eh_F) => [some (.ref 1), some (.int p0), none]) (fun (e8 : eh_F) => []) (fun (e8 : eh_F) => eh_FW e8) (fun e8 => ?_) (fun K15 HxK15_0 r16 Hr16 t7 => ?_)
      · refine es_blk (pc' := 95) (L' := [some (.ref 1), some (.int p0), none]) (st' := [.ref 1]) [(.aload_n 0, 0)] (by decide +kernel) rfl rfl ?_
        refine ef_getP (k := 1) (j := 7) (q := 34) rfl eL_5_54 rfl rfl rfl (by decide +kernel) ?_
        refine es_blk (pc' := 99) (L' := [some (.ref 1), some (.int p0), none]) (st' := [.int 0, .ref 34]) [(.iconst 0, 0)] (by decide +kernel) rfl rfl ?_
        refine ef_seV (d := 1) (As := [.ref 34, .int 0]) (st := []) eV_23_fill eK_5_107 (eS_23_fill g e8 34 8 0 rfl) rfl (Nat.le_of_ble_eq_true rfl) rfl (Nat.le_of_ble_eq_true rfl) ⟨Nat.le_of_ble_eq_true rfl, Nat.le_of_ble_eq_true rfl⟩ ⟨Nat.le_refl _, Nat.le_refl _⟩ (by decide +kernel) (fun q9 _ => ?_)
        refine es_blk (pc' := 104) (L' := [some (.ref 1), some (.int p0), none]) (st' := [.int 0, .ref 1]) [(.aload_n 0, 0), (.iconst 0, 0)] (by decide +kernel) rfl rfl ?_
        refine ef_putZc (k := 1) (j := 10) rfl eL_5_113 rfl rfl (by decide) (by decide +kernel) ?_
        refine ef_V (fun _ => [some (.ref 1), some (.int p0), none]) (fun _ => []) (fun s10 => eh_FW s10) (fun s10 => ?_)
        refine es_blk (pc' := 109) (L' := [some (.ref 1), some (.int p0), none]) (st' := [.int 0, .ref 1]) [(.aload_n 0, 0), (.iconst 0, 0)] (by decide +kernel) rfl rfl ?_
        refine ef_putI (k := 1) (j := 11) rfl eL_5_117 rfl rfl (by decide +kernel) ?_
        refine ef_V (fun _ => [some (.ref 1), some (.int p0), none]) (fun _ => []) (fun s11 => eh_FW s11) (fun s11 => ?_)
        refine es_blk (pc' := 113) (L' := [some (.ref 1), some (.int p0), none]) (st' := [.ref 1]) [(.aload_n 0, 0)] (by decide +kernel) rfl rfl ?_
        refine ef_getP (k := 1) (j := 5) (q := 29) rfl eL_5_46 rfl rfl rfl (by decide +kernel) ?_
        refine es_blk (pc' := 117) (L' := [some (.ref 1), some (.int p0), none]) (st' := [.ref 1, .ref 29]) [(.aload_n 0, 0)] (by decide +kernel) rfl rfl ?_
        refine ef_getP (k := 1) (j := 13) (q := 37) rfl eL_5_63 rfl rfl rfl (by decide +kernel) ?_
        refine ef_veV (d := 3) (k := 29) (As := [.ref 37]) (st := []) eV_9_beginKeyed eK_5_120 (eS_9_beginKeyed g s11 29 37 8 rfl rfl) rfl rfl (Nat.le_of_ble_eq_true rfl) rfl (Nat.le_of_ble_eq_true rfl) ⟨Nat.le_of_ble_eq_true rfl, Nat.le_of_ble_eq_true rfl⟩ ⟨Nat.le_refl _, Nat.le_refl _⟩ (by decide +kernel) (fun q12 _ => ?_)
        refine es_blk (pc' := 124) (L' := [some (.ref 1), some (.int p0), none]) (st' := [.ref 1]) [(.aload_n 0, 0)] (by decide +kernel) rfl rfl ?_
        refine ef_getP (k := 1) (j := 5) (q := 29) rfl eL_5_46 rfl rfl rfl (by decide +kernel) ?_
        refine es_blk (pc' := 128) (L' := [some (.ref 1), some (.int p0), none]) (st' := [.int p0, .ref 29]) [(.iload_n 1, 0)] (by decide +kernel) rfl rfl ?_
        refine ef_veV (d := 2) (k := 29) (As := [.int p0]) (st := []) eV_9_feedNumber eK_5_83 (eS_9_feedNumber g q12 29 p0 rfl) rfl rfl (Nat.le_of_ble_eq_true rfl) rfl (Nat.le_of_ble_eq_true rfl) ⟨Nat.le_of_ble_eq_true rfl, Nat.le_of_ble_eq_true rfl⟩ ⟨Nat.le_refl _, Nat.le_refl _⟩ (by decide +kernel) (fun q13 _ => ?_)
        refine es_blk (pc' := 132) (L' := [some (.ref 1), some (.int p0), none]) (st' := [.ref 1]) [(.aload_n 0, 0)] (by decide +kernel) rfl rfl ?_
        refine ef_getP (k := 1) (j := 5) (q := 29) rfl eL_5_46 rfl rfl rfl (by decide +kernel) ?_
        refine es_blk (pc' := 136) (L' := [some (.ref 1), some (.int p0), none]) (st' := [.ref 1, .ref 29]) [(.aload_n 0, 0)] (by decide +kernel) rfl rfl ?_
        refine ef_getP (k := 1) (j := 13) (q := 37) rfl eL_5_63 rfl rfl rfl (by decide +kernel) ?_
        refine es_blk (pc' := 140) (L' := [some (.ref 1), some (.int p0), none]) (st' := [.ref 1, .ref 37, .ref 29]) [(.aload_n 0, 0)] (by decide +kernel) rfl rfl ?_
        refine ef_getP (k := 1) (j := 6) (q := 33) rfl eL_5_50 rfl rfl rfl (by decide +kernel) ?_
        refine ef_veV (d := 3) (k := 29) (As := [.ref 37, .ref 33]) (st := []) eV_9_endKeyed eK_5_123 (eS_9_endKeyed g q13 29 37 8 33 8 rfl rfl rfl) rfl rfl (Nat.le_of_ble_eq_true rfl) rfl (Nat.le_of_ble_eq_true rfl) ⟨Nat.le_of_ble_eq_true rfl, Nat.le_of_ble_eq_true rfl⟩ ⟨Nat.le_refl _, Nat.le_refl _⟩ (by decide +kernel) (fun q14 _ => ?_)
        exact es_ret rfl rfl rfl ⟨by decide +kernel, rfl⟩ (Nat.le_refl _) (Nat.le_refl _)
      · refine es_blk (pc' := 65) (L' := [some (.ref 1), some (.int p0), some (.int t7.1)]) (st' := [.int 6, .int t7.1]) [(.iload_n 2, 0), (.bipush 6, 6)] (by decide +kernel) rfl rfl ?_
        refine es_ige (tgt := 94) (off := (29)) (by decide +kernel) (by decide) (fun h17 => ?_) (fun h17 => ?_)
        · refine es_blk (pc' := 69) (L' := [some (.ref 1), some (.int p0), some (.int t7.1)]) (st' := [.ref 1]) [(.aload_n 0, 0)] (by decide +kernel) rfl rfl ?_
          refine ef_getP (k := 1) (j := 4) (q := 28) rfl eL_5_39 rfl rfl rfl (by decide +kernel) ?_
          refine es_blk (pc' := 73) (L' := [some (.ref 1), some (.int p0), some (.int t7.1)]) (st' := [.int t7.1, .ref 28]) [(.iload_n 2, 0)] (by decide +kernel) rfl rfl ?_
          refine ef_encs (by decide +kernel) (fun h18 => ?_)
          refine es_blk (pc' := 75) (L' := [some (.ref 1), some (.int p0), some (.int t7.1)]) (st' := [.int 0, .ref (eh_ep t7.1)]) [(.iconst 0, 0)] (by decide +kernel) rfl rfl ?_
          refine ef_putI (k := (eh_ep t7.1)) (j := 5) (eh_E0sh h18) eL_5_103 rfl rfl (by decide +kernel) ?_
          refine ef_V (fun _ => [some (.ref 1), some (.int p0), some (.int t7.1)]) (fun _ => []) (fun s19 => eh_FW s19) (fun s19 => ?_)
          refine es_blk (pc' := 79) (L' := [some (.ref 1), some (.int p0), some (.int t7.1)]) (st' := [.ref 1]) [(.aload_n 0, 0)] (by decide +kernel) rfl rfl ?_
          refine ef_getP (k := 1) (j := 4) (q := 28) rfl eL_5_39 rfl rfl rfl (by decide +kernel) ?_
          refine es_blk (pc' := 83) (L' := [some (.ref 1), some (.int p0), some (.int t7.1)]) (st' := [.int t7.1, .ref 28]) [(.iload_n 2, 0)] (by decide +kernel) rfl rfl ?_
          refine ef_encs (by decide +kernel) (fun h20 => ?_)
          refine es_blk (pc' := 85) (L' := [some (.ref 1), some (.int p0), some (.int t7.1)]) (st' := [.int 0, .ref (eh_ep t7.1)]) [(.iconst 0, 0)] (by decide +kernel) rfl rfl ?_
          refine ef_putI (k := (eh_ep t7.1)) (j := 8) (eh_E0sh h20) eL_5_104 rfl rfl (by decide +kernel) ?_
          refine ef_V (fun _ => [some (.ref 1), some (.int p0), some (.int t7.1)]) (fun _ => []) (fun s21 => eh_FW s21) (fun s21 => ?_)
          refine es_blk (pc' := 91) (L' := [some (.ref 1), some (.int p0), some (.int (t7.1 + 1))]) (st' := []) [(.iinc 2 1, 1)] (by decide +kernel) rfl rfl ?_
          refine ef_V (fun x22 => [some (.ref 1), some (.int p0), some (.int x22)]) (fun _ => []) (fun _ => eh_FW s21) (fun x22 => ?_)
          refine es_goto (tgt := 62) (off := (-29)) (by decide +kernel) (by decide) ?_
          exact Hr16 (x22, s21)
        refine ef_drop (L2 := [some (.ref 1), some (.int p0), none]) [true, true, false] rfl rfl ?_
        exact HxK15_0 t7.2
    · refine es_blk (pc' := 41) (L' := [some (.ref 1), some (.int p0), some (.int t5.1)]) (st' := [.int 12, .int t5.1]) [(.iload_n 2, 0), (.bipush 12, 12)] (by decide +kernel) rfl rfl ?_
      refine es_ige (tgt := 60) (off := (19)) (by decide +kernel) (by decide) (fun h25 => ?_) (fun h25 => ?_)
      · refine es_blk (pc' := 45) (L' := [some (.ref 1), some (.int p0), some (.int t5.1)]) (st' := [.ref 1]) [(.aload_n 0, 0)] (by decide +kernel) rfl rfl ?_
        refine ef_getP (k := 1) (j := 3) (q := 27) rfl eL_5_33 rfl rfl rfl (by decide +kernel) ?_
        refine es_blk (pc' := 49) (L' := [some (.ref 1), some (.int p0), some (.int t5.1)]) (st' := [.int t5.1, .ref 27]) [(.iload_n 2, 0)] (by decide +kernel) rfl rfl ?_
        refine ef_fibres (by decide +kernel) (fun h26 => ?_)
        refine es_blk (pc' := 51) (L' := [some (.ref 1), some (.int p0), some (.int t5.1)]) (st' := [.int 0, .ref (eh_fp t5.1)]) [(.iconst 0, 0)] (by decide +kernel) rfl rfl ?_
        refine ef_putI (k := (eh_fp t5.1)) (j := 6) (eh_F0sh h26) eL_5_99 rfl rfl (by decide +kernel) ?_
        refine ef_V (fun _ => [some (.ref 1), some (.int p0), some (.int t5.1)]) (fun _ => []) (fun s27 => eh_FW s27) (fun s27 => ?_)
        refine es_blk (pc' := 57) (L' := [some (.ref 1), some (.int p0), some (.int (t5.1 + 1))]) (st' := []) [(.iinc 2 1, 1)] (by decide +kernel) rfl rfl ?_
        refine ef_V (fun x28 => [some (.ref 1), some (.int p0), some (.int x28)]) (fun _ => []) (fun _ => eh_FW s27) (fun x28 => ?_)
        refine es_goto (tgt := 38) (off := (-19)) (by decide +kernel) (by decide) ?_
        exact Hr24 (x28, s27)
      refine ef_drop (L2 := [some (.ref 1), some (.int p0), none]) [true, true, false] rfl rfl ?_
      exact HxK23_0 t5.2
  · refine es_blk (pc' := 18) (L' := [some (.ref 1), some (.int p0), some (.int t3.1)]) (st' := [.int 2, .int t3.1]) [(.iload_n 2, 0), (.iconst 2, 2)] (by decide +kernel) rfl rfl ?_
    refine es_ige (tgt := 36) (off := (18)) (by decide +kernel) (by decide) (fun h31 => ?_) (fun h31 => ?_)
    · refine es_blk (pc' := 22) (L' := [some (.ref 1), some (.int p0), some (.int t3.1)]) (st' := [.ref 1]) [(.aload_n 0, 0)] (by decide +kernel) rfl rfl ?_
      refine ef_getP (k := 1) (j := 2) (q := 26) rfl eL_5_27 rfl rfl rfl (by decide +kernel) ?_
      refine es_blk (pc' := 26) (L' := [some (.ref 1), some (.int p0), some (.int t3.1)]) (st' := [.int t3.1, .ref 26]) [(.iload_n 2, 0)] (by decide +kernel) rfl rfl ?_
      refine ef_harts (by decide +kernel) (fun h32 => ?_)
      refine ef_veV (d := 2) (k := (eh_hp t3.1)) (As := []) (st := []) eV_4_restart eK_5_98 (eS_4_restart g t3.2 (eh_hp t3.1) h32) (eh_H0sh h32) rfl (Nat.le_of_ble_eq_true rfl) rfl (Nat.le_of_ble_eq_true rfl) ⟨Nat.le_of_ble_eq_true rfl, Nat.le_of_ble_eq_true rfl⟩ ⟨Nat.le_refl _, Nat.le_refl _⟩ (by decide +kernel) (fun q33 _ => ?_)
      refine es_blk (pc' := 33) (L' := [some (.ref 1), some (.int p0), some (.int (t3.1 + 1))]) (st' := []) [(.iinc 2 1, 1)] (by decide +kernel) rfl rfl ?_
      refine ef_V (fun x34 => [some (.ref 1), some (.int p0), some (.int x34)]) (fun _ => []) (fun _ => eh_FW q33) (fun x34 => ?_)
      refine es_goto (tgt := 16) (off := (-17)) (by decide +kernel) (by decide) ?_
      exact Hr30 (x34, q33)
    refine ef_drop (L2 := [some (.ref 1), some (.int p0), none]) [true, true, false] rfl rfl ?_
    exact HxK29_0 t3.2
def eF_5_sealReport (s : eh_F) (p0 np0 : Nat) : Option (eh_F) := Option.bind (eF_9_beginKeyed s 29 33 8) (fun q1 => Option.bind (eF_9_feedNumber q1 29 5) (fun q2 => Option.bind (eF_9_feedWords q2 29 36 32 24) (fun q3 => Option.bind (eF_9_endKeyed q3 29 33 8 p0 np0) (fun q4 => some q4))))
set_option maxHeartbeats 4000000 in
set_option maxRecDepth 100000 in
theorem eS_5_sealReport (g : eh_P) (s : eh_F) (p0 np0 : Nat) (hp0 : eh_SH[p0]? = some (100, np0)) : eh_Sim g eM_5_sealReport (eh_R 4 0 0) eh_eV 0 0 0 (eh_en 2 [.ref 1, .ref p0]) [] (eh_FW s) (eF_5_sealReport s p0 np0) := by
  unfold eF_5_sealReport
  refine ef_top (L := [some (.ref 1), some (.ref p0)]) rfl ?_
  refine es_blk (pc' := 1) (L' := [some (.ref 1), some (.ref p0)]) (st' := [.ref 1]) [(.aload_n 0, 0)] (by decide +kernel) rfl rfl ?_
  refine ef_getP (k := 1) (j := 5) (q := 29) rfl eL_5_46 rfl rfl rfl (by decide +kernel) ?_
  refine es_blk (pc' := 5) (L' := [some (.ref 1), some (.ref p0)]) (st' := [.ref 1, .ref 29]) [(.aload_n 0, 0)] (by decide +kernel) rfl rfl ?_
  refine ef_getP (k := 1) (j := 6) (q := 33) rfl eL_5_50 rfl rfl rfl (by decide +kernel) ?_
  refine ef_veV (d := 3) (k := 29) (As := [.ref 33]) (st := []) eV_9_beginKeyed eK_5_120 (eS_9_beginKeyed g s 29 33 8 rfl rfl) rfl rfl (Nat.le_of_ble_eq_true rfl) rfl (Nat.le_of_ble_eq_true rfl) ⟨Nat.le_of_ble_eq_true rfl, Nat.le_of_ble_eq_true rfl⟩ ⟨Nat.le_refl _, Nat.le_refl _⟩ (by decide +kernel) (fun q1 _ => ?_)
  refine es_blk (pc' := 12) (L' := [some (.ref 1), some (.ref p0)]) (st' := [.ref 1]) [(.aload_n 0, 0)] (by decide +kernel) rfl rfl ?_
  refine ef_getP (k := 1) (j := 5) (q := 29) rfl eL_5_46 rfl rfl rfl (by decide +kernel) ?_
  refine es_blk (pc' := 16) (L' := [some (.ref 1), some (.ref p0)]) (st' := [.int 5, .ref 29]) [(.iconst 5, 5)] (by decide +kernel) rfl rfl ?_
  refine ef_veV (d := 2) (k := 29) (As := [.int 5]) (st := []) eV_9_feedNumber eK_5_83 (eS_9_feedNumber g q1 29 5 rfl) rfl rfl (Nat.le_of_ble_eq_true rfl) rfl (Nat.le_of_ble_eq_true rfl) ⟨Nat.le_of_ble_eq_true rfl, Nat.le_of_ble_eq_true rfl⟩ ⟨Nat.le_refl _, Nat.le_refl _⟩ (by decide +kernel) (fun q2 _ => ?_)
  refine es_blk (pc' := 20) (L' := [some (.ref 1), some (.ref p0)]) (st' := [.ref 1]) [(.aload_n 0, 0)] (by decide +kernel) rfl rfl ?_
  refine ef_getP (k := 1) (j := 5) (q := 29) rfl eL_5_46 rfl rfl rfl (by decide +kernel) ?_
  refine es_blk (pc' := 24) (L' := [some (.ref 1), some (.ref p0)]) (st' := [.ref 1, .ref 29]) [(.aload_n 0, 0)] (by decide +kernel) rfl rfl ?_
  refine ef_getP (k := 1) (j := 9) (q := 36) rfl eL_5_60 rfl rfl rfl (by decide +kernel) ?_
  refine es_blk (pc' := 29) (L' := [some (.ref 1), some (.ref p0)]) (st' := [.int 24, .ref 36, .ref 29]) [(.bipush 24, 24)] (by decide +kernel) rfl rfl ?_
  refine ef_veV (d := 3) (k := 29) (As := [.ref 36, .int 24]) (st := []) eV_9_feedWords eK_5_186 (eS_9_feedWords g q2 29 36 32 24 rfl rfl) rfl rfl (Nat.le_of_ble_eq_true rfl) rfl (Nat.le_of_ble_eq_true rfl) ⟨Nat.le_of_ble_eq_true rfl, Nat.le_of_ble_eq_true rfl⟩ ⟨Nat.le_refl _, Nat.le_refl _⟩ (by decide +kernel) (fun q3 _ => ?_)
  refine es_blk (pc' := 33) (L' := [some (.ref 1), some (.ref p0)]) (st' := [.ref 1]) [(.aload_n 0, 0)] (by decide +kernel) rfl rfl ?_
  refine ef_getP (k := 1) (j := 5) (q := 29) rfl eL_5_46 rfl rfl rfl (by decide +kernel) ?_
  refine es_blk (pc' := 37) (L' := [some (.ref 1), some (.ref p0)]) (st' := [.ref 1, .ref 29]) [(.aload_n 0, 0)] (by decide +kernel) rfl rfl ?_
  refine ef_getP (k := 1) (j := 6) (q := 33) rfl eL_5_50 rfl rfl rfl (by decide +kernel) ?_
  refine es_blk (pc' := 41) (L' := [some (.ref 1), some (.ref p0)]) (st' := [.ref p0, .ref 33, .ref 29]) [(.aload_n 1, 0)] (by decide +kernel) rfl rfl ?_
  refine ef_veV (d := 3) (k := 29) (As := [.ref 33, .ref p0]) (st := []) eV_9_endKeyed eK_5_123 (eS_9_endKeyed g q3 29 33 8 p0 np0 rfl rfl hp0) rfl rfl (Nat.le_of_ble_eq_true rfl) rfl (Nat.le_of_ble_eq_true rfl) ⟨Nat.le_of_ble_eq_true rfl, Nat.le_of_ble_eq_true rfl⟩ ⟨Nat.le_refl _, Nat.le_refl _⟩ (by decide +kernel) (fun q4 _ => ?_)
  exact es_ret rfl rfl rfl ⟨by decide +kernel, rfl⟩ (Nat.le_refl _) (Nat.le_refl _)
def eF_5_chain (s : eh_F) (p0 : Int32) (p1 : Int32) (p2 : Int32) (p3 : Int32) (p4 : Int32) : Option (eh_F) := Option.bind (eF_9_begin s 29) (fun q1 => Option.bind (eF_9_feedWords q1 29 34 8 8) (fun q2 => Option.bind (eF_9_feedNumber q2 29 p0) (fun q3 => Option.bind (eF_9_feedNumber q3 29 p1) (fun q4 => Option.bind (eF_9_feedNumber q4 29 p2) (fun q5 => Option.bind (eF_9_feedNumber q5 29 p3) (fun q6 => Option.bind (eF_9_feedNumber q6 29 p4) (fun q7 => Option.bind (eF_9_end q7 29 34 8) (fun q8 => some q8))))))))
set_option maxHeartbeats 4000000 in
set_option maxRecDepth 100000 in
theorem eS_5_chain (g : eh_P) (s : eh_F) (p0 : Int32) (p1 : Int32) (p2 : Int32) (p3 : Int32) (p4 : Int32) : eh_Sim g eM_5_chain (eh_R 4 0 0) eh_eV 0 0 0 (eh_en 6 [.ref 1, .int p0, .int p1, .int p2, .int p3, .int p4]) [] (eh_FW s) (eF_5_chain s p0 p1 p2 p3 p4) := by
  unfold eF_5_chain
  refine ef_top (L := [some (.ref 1), some (.int p0), some (.int p1), some (.int p2), some (.int p3), some (.int p4)]) rfl ?_
  refine es_blk (pc' := 1) (L' := [some (.ref 1), some (.int p0), some (.int p1), some (.int p2), some (.int p3), some (.int p4)]) (st' := [.ref 1]) [(.aload_n 0, 0)] (by decide +kernel) rfl rfl ?_
  refine ef_getP (k := 1) (j := 5) (q := 29) rfl eL_5_46 rfl rfl rfl (by decide +kernel) ?_
  refine ef_veV (d := 1) (k := 29) (As := []) (st := []) eV_9_begin eK_5_80 (eS_9_begin g s 29 rfl) rfl rfl (Nat.le_of_ble_eq_true rfl) rfl (Nat.le_of_ble_eq_true rfl) ⟨Nat.le_of_ble_eq_true rfl, Nat.le_of_ble_eq_true rfl⟩ ⟨Nat.le_refl _, Nat.le_refl _⟩ (by decide +kernel) (fun q1 _ => ?_)
  refine es_blk (pc' := 8) (L' := [some (.ref 1), some (.int p0), some (.int p1), some (.int p2), some (.int p3), some (.int p4)]) (st' := [.ref 1]) [(.aload_n 0, 0)] (by decide +kernel) rfl rfl ?_
  refine ef_getP (k := 1) (j := 5) (q := 29) rfl eL_5_46 rfl rfl rfl (by decide +kernel) ?_
  refine es_blk (pc' := 12) (L' := [some (.ref 1), some (.int p0), some (.int p1), some (.int p2), some (.int p3), some (.int p4)]) (st' := [.ref 1, .ref 29]) [(.aload_n 0, 0)] (by decide +kernel) rfl rfl ?_
  refine ef_getP (k := 1) (j := 7) (q := 34) rfl eL_5_54 rfl rfl rfl (by decide +kernel) ?_
  refine es_blk (pc' := 17) (L' := [some (.ref 1), some (.int p0), some (.int p1), some (.int p2), some (.int p3), some (.int p4)]) (st' := [.int 8, .ref 34, .ref 29]) [(.bipush 8, 8)] (by decide +kernel) rfl rfl ?_
  refine ef_veV (d := 3) (k := 29) (As := [.ref 34, .int 8]) (st := []) eV_9_feedWords eK_5_186 (eS_9_feedWords g q1 29 34 8 8 rfl rfl) rfl rfl (Nat.le_of_ble_eq_true rfl) rfl (Nat.le_of_ble_eq_true rfl) ⟨Nat.le_of_ble_eq_true rfl, Nat.le_of_ble_eq_true rfl⟩ ⟨Nat.le_refl _, Nat.le_refl _⟩ (by decide +kernel) (fun q2 _ => ?_)
  refine es_blk (pc' := 21) (L' := [some (.ref 1), some (.int p0), some (.int p1), some (.int p2), some (.int p3), some (.int p4)]) (st' := [.ref 1]) [(.aload_n 0, 0)] (by decide +kernel) rfl rfl ?_
  refine ef_getP (k := 1) (j := 5) (q := 29) rfl eL_5_46 rfl rfl rfl (by decide +kernel) ?_
  refine es_blk (pc' := 25) (L' := [some (.ref 1), some (.int p0), some (.int p1), some (.int p2), some (.int p3), some (.int p4)]) (st' := [.int p0, .ref 29]) [(.iload_n 1, 0)] (by decide +kernel) rfl rfl ?_
  refine ef_veV (d := 2) (k := 29) (As := [.int p0]) (st := []) eV_9_feedNumber eK_5_83 (eS_9_feedNumber g q2 29 p0 rfl) rfl rfl (Nat.le_of_ble_eq_true rfl) rfl (Nat.le_of_ble_eq_true rfl) ⟨Nat.le_of_ble_eq_true rfl, Nat.le_of_ble_eq_true rfl⟩ ⟨Nat.le_refl _, Nat.le_refl _⟩ (by decide +kernel) (fun q3 _ => ?_)
  refine es_blk (pc' := 29) (L' := [some (.ref 1), some (.int p0), some (.int p1), some (.int p2), some (.int p3), some (.int p4)]) (st' := [.ref 1]) [(.aload_n 0, 0)] (by decide +kernel) rfl rfl ?_
  refine ef_getP (k := 1) (j := 5) (q := 29) rfl eL_5_46 rfl rfl rfl (by decide +kernel) ?_
  refine es_blk (pc' := 33) (L' := [some (.ref 1), some (.int p0), some (.int p1), some (.int p2), some (.int p3), some (.int p4)]) (st' := [.int p1, .ref 29]) [(.iload_n 2, 0)] (by decide +kernel) rfl rfl ?_
  refine ef_veV (d := 2) (k := 29) (As := [.int p1]) (st := []) eV_9_feedNumber eK_5_83 (eS_9_feedNumber g q3 29 p1 rfl) rfl rfl (Nat.le_of_ble_eq_true rfl) rfl (Nat.le_of_ble_eq_true rfl) ⟨Nat.le_of_ble_eq_true rfl, Nat.le_of_ble_eq_true rfl⟩ ⟨Nat.le_refl _, Nat.le_refl _⟩ (by decide +kernel) (fun q4 _ => ?_)
  refine es_blk (pc' := 37) (L' := [some (.ref 1), some (.int p0), some (.int p1), some (.int p2), some (.int p3), some (.int p4)]) (st' := [.ref 1]) [(.aload_n 0, 0)] (by decide +kernel) rfl rfl ?_
  refine ef_getP (k := 1) (j := 5) (q := 29) rfl eL_5_46 rfl rfl rfl (by decide +kernel) ?_
  refine es_blk (pc' := 41) (L' := [some (.ref 1), some (.int p0), some (.int p1), some (.int p2), some (.int p3), some (.int p4)]) (st' := [.int p2, .ref 29]) [(.iload_n 3, 0)] (by decide +kernel) rfl rfl ?_
  refine ef_veV (d := 2) (k := 29) (As := [.int p2]) (st := []) eV_9_feedNumber eK_5_83 (eS_9_feedNumber g q4 29 p2 rfl) rfl rfl (Nat.le_of_ble_eq_true rfl) rfl (Nat.le_of_ble_eq_true rfl) ⟨Nat.le_of_ble_eq_true rfl, Nat.le_of_ble_eq_true rfl⟩ ⟨Nat.le_refl _, Nat.le_refl _⟩ (by decide +kernel) (fun q5 _ => ?_)
  refine es_blk (pc' := 45) (L' := [some (.ref 1), some (.int p0), some (.int p1), some (.int p2), some (.int p3), some (.int p4)]) (st' := [.ref 1]) [(.aload_n 0, 0)] (by decide +kernel) rfl rfl ?_
  refine ef_getP (k := 1) (j := 5) (q := 29) rfl eL_5_46 rfl rfl rfl (by decide +kernel) ?_
  refine es_blk (pc' := 50) (L' := [some (.ref 1), some (.int p0), some (.int p1), some (.int p2), some (.int p3), some (.int p4)]) (st' := [.int p3, .ref 29]) [(.iload 4, 0)] (by decide +kernel) rfl rfl ?_
  refine ef_veV (d := 2) (k := 29) (As := [.int p3]) (st := []) eV_9_feedNumber eK_5_83 (eS_9_feedNumber g q5 29 p3 rfl) rfl rfl (Nat.le_of_ble_eq_true rfl) rfl (Nat.le_of_ble_eq_true rfl) ⟨Nat.le_of_ble_eq_true rfl, Nat.le_of_ble_eq_true rfl⟩ ⟨Nat.le_refl _, Nat.le_refl _⟩ (by decide +kernel) (fun q6 _ => ?_)
  refine es_blk (pc' := 54) (L' := [some (.ref 1), some (.int p0), some (.int p1), some (.int p2), some (.int p3), some (.int p4)]) (st' := [.ref 1]) [(.aload_n 0, 0)] (by decide +kernel) rfl rfl ?_
  refine ef_getP (k := 1) (j := 5) (q := 29) rfl eL_5_46 rfl rfl rfl (by decide +kernel) ?_
  refine es_blk (pc' := 59) (L' := [some (.ref 1), some (.int p0), some (.int p1), some (.int p2), some (.int p3), some (.int p4)]) (st' := [.int p4, .ref 29]) [(.iload 5, 0)] (by decide +kernel) rfl rfl ?_
  refine ef_veV (d := 2) (k := 29) (As := [.int p4]) (st := []) eV_9_feedNumber eK_5_83 (eS_9_feedNumber g q6 29 p4 rfl) rfl rfl (Nat.le_of_ble_eq_true rfl) rfl (Nat.le_of_ble_eq_true rfl) ⟨Nat.le_of_ble_eq_true rfl, Nat.le_of_ble_eq_true rfl⟩ ⟨Nat.le_refl _, Nat.le_refl _⟩ (by decide +kernel) (fun q7 _ => ?_)
  refine es_blk (pc' := 63) (L' := [some (.ref 1), some (.int p0), some (.int p1), some (.int p2), some (.int p3), some (.int p4)]) (st' := [.ref 1]) [(.aload_n 0, 0)] (by decide +kernel) rfl rfl ?_
  refine ef_getP (k := 1) (j := 5) (q := 29) rfl eL_5_46 rfl rfl rfl (by decide +kernel) ?_
  refine es_blk (pc' := 67) (L' := [some (.ref 1), some (.int p0), some (.int p1), some (.int p2), some (.int p3), some (.int p4)]) (st' := [.ref 1, .ref 29]) [(.aload_n 0, 0)] (by decide +kernel) rfl rfl ?_
  refine ef_getP (k := 1) (j := 7) (q := 34) rfl eL_5_54 rfl rfl rfl (by decide +kernel) ?_
  refine ef_veV (d := 2) (k := 29) (As := [.ref 34]) (st := []) eV_9_end eK_5_86 (eS_9_end g q7 29 34 8 rfl rfl) rfl rfl (Nat.le_of_ble_eq_true rfl) rfl (Nat.le_of_ble_eq_true rfl) ⟨Nat.le_of_ble_eq_true rfl, Nat.le_of_ble_eq_true rfl⟩ ⟨Nat.le_refl _, Nat.le_refl _⟩ (by decide +kernel) (fun q8 _ => ?_)
  exact es_ret rfl rfl rfl ⟨by decide +kernel, rfl⟩ (Nat.le_refl _) (Nat.le_refl _)
def eF_7_isInterrupted (s : eh_F)  : Option (Int32 × eh_F) := if eh_okH (s.2.2 4) then Option.bind (eF_4_dueInterrupt s (s.2.2 4)) (fun q2 => eh_J (fun (u4 : Unit) => if q2 = (-1) then (eh_J (fun (u7 : Unit) => some (0, s)) (fun j6 => if (s.1 124 6) = 0 then (j6 ()) else (if eh_okH (s.2.2 4) then if 0 < (s.1 (s.2.2 4) 7) then (if eh_okH (s.2.2 4) then if eh_okH (s.2.2 4) then if (s.1 (s.2.2 4) 8) < (s.1 (s.2.2 4) 7) then (j6 ()) else (if eh_okH (s.2.2 4) then if eh_okF (s.2.2 5) then Option.bind (eF_5_cease s (s.2.2 4) (s.2.2 5) 3 4 0) (fun q16 => some (1, q16)) else none else none) else none else none) else (j6 ()) else none))) else (if eh_okH (s.2.2 4) then Option.bind (eF_4_trap s (s.2.2 4) ((-2147483648) ||| q2) 0) (fun q18 => some (1, q18)) else none)) (fun j3 => if q2 = (-1) then (j3 ()) else (if (s.1 124 6) = 0 then (j3 ()) else (if eh_okH (s.2.2 4) then if eh_okF (s.2.2 5) then Option.bind (eF_5_cease s (s.2.2 4) (s.2.2 5) 3 2 0) (fun q23 => some (1, q23)) else none else none)))) else none
set_option maxHeartbeats 4000000 in
set_option maxRecDepth 100000 in
theorem eS_7_isInterrupted (g : eh_P) (s : eh_F)  : eh_Sim g eM_7_isInterrupted (eh_R 4 0 0) eh_eI 0 0 0 (eh_en 2 [.ref 124]) [] (eh_FW s) (eF_7_isInterrupted s) := by
  unfold eF_7_isInterrupted
  refine ef_top (L := [some (.ref 124), none]) rfl ?_
  refine es_blk (pc' := 1) (L' := [some (.ref 124), none]) (st' := [.ref 124]) [(.aload_n 0, 0)] (by decide +kernel) rfl rfl ?_
  refine ef_getQ (j := 4) (ok := eh_okH) (by decide) eL_7_39 rfl (fun q h => eh_sh_NU (eh_H0sh h)) (by decide +kernel) (fun h1 => ?_)
  refine es_blk (pc' := 5) (L' := [some (.ref 124), none]) (st' := [.ref 124, .ref (s.2.2 4)]) [(.aload_n 0, 0)] (by decide +kernel) rfl rfl ?_
  refine ef_getP (k := 124) (j := 0) (q := 1) rfl eL_7_9 rfl rfl rfl (by decide +kernel) ?_
  refine ef_getP (k := 1) (j := 1) (q := 12) rfl eL_7_66 rfl rfl rfl (by decide +kernel) ?_
  refine ef_vpI (d := 3) (k := (s.2.2 4)) (As := [.ref 12]) (st := []) eV_4_dueInterrupt eK_7_126 (eS_4_dueInterrupt g s (s.2.2 4) h1) (eh_H0sh h1) rfl (Nat.le_of_ble_eq_true rfl) rfl (Nat.le_of_ble_eq_true rfl) ⟨Nat.le_of_ble_eq_true rfl, Nat.le_of_ble_eq_true rfl⟩ ⟨Nat.le_refl _, Nat.le_refl _⟩ (by decide +kernel) (fun q2 _ => ?_)
  refine es_blk (pc' := 17) (L' := [some (.ref 124), some (.int q2)]) (st' := [.int (-1), .int q2]) [(.istore_n 1, 0), (.iload_n 1, 0), (.iconst (-1), (-1))] (by decide +kernel) rfl rfl ?_
  refine ef_J (X := fun j3 => ∀ (u4 : Unit), eh_Sim g eM_7_isInterrupted (eh_R 4 0 0) eh_eI 0 0 47 [some (.ref 124), some (.int q2)] [] (eh_FW s) ((j3 u4).bind some)) ?_ (fun j3 Hj3 => ?_)
  · intro u4
    refine es_blk (pc' := 49) (L' := [some (.ref 124), some (.int q2)]) (st' := [.int (-1), .int q2]) [(.iload_n 1, 0), (.iconst (-1), (-1))] (by decide +kernel) rfl rfl ?_
    refine es_ieq (tgt := 66) (off := (17)) (by decide +kernel) (by decide) (fun h5 => ?_) (fun h5 => ?_)
    · refine es_blk (pc' := 67) (L' := [some (.ref 124), some (.int q2)]) (st' := [.ref 124]) [(.aload_n 0, 0)] (by decide +kernel) rfl rfl ?_
      refine ef_getI (k := 124) (j := 6) rfl eL_7_94 (by decide) (by decide +kernel) ?_
      refine ef_J (X := fun j6 => ∀ (u7 : Unit), eh_Sim g eM_7_isInterrupted (eh_R 4 0 0) eh_eI 0 0 120 [none, none] [] (eh_FW s) ((j6 u7).bind some)) ?_ (fun j6 Hj6 => ?_)
      · intro u7
        refine es_blk (pc' := 121) (L' := [none, none]) (st' := [.int 0]) [(.iconst 0, 0)] (by decide +kernel) rfl rfl ?_
        exact es_ret rfl rfl rfl ⟨by decide +kernel, _, rfl, eh_narZ (Or.inl rfl)⟩ (Nat.le_refl _) (Nat.le_refl _)
      refine es_eq (tgt := 120) (off := (50)) (by decide +kernel) (by decide) (fun h8 => ?_) (fun h8 => ?_)
      · refine ef_drop (L2 := [none, none]) [false, false] rfl rfl ?_
        exact Hj6 ()
      refine es_blk (pc' := 74) (L' := [some (.ref 124), some (.int q2)]) (st' := [.ref 124]) [(.aload_n 0, 0)] (by decide +kernel) rfl rfl ?_
      refine ef_getQ (j := 4) (ok := eh_okH) (by decide) eL_7_39 rfl (fun q h => eh_sh_NU (eh_H0sh h)) (by decide +kernel) (fun h9 => ?_)
      refine ef_getI (k := (s.2.2 4)) (j := 7) (eh_H0sh h9) eL_7_138 (by decide) (by decide +kernel) ?_
      refine es_le (tgt := 120) (off := (40)) (by decide +kernel) (by decide) (fun h10 => ?_) (fun h10 => ?_)
      · refine es_blk (pc' := 84) (L' := [some (.ref 124), some (.int q2)]) (st' := [.ref 124]) [(.aload_n 0, 0)] (by decide +kernel) rfl rfl ?_
        refine ef_getQ (j := 4) (ok := eh_okH) (by decide) eL_7_39 rfl (fun q h => eh_sh_NU (eh_H0sh h)) (by decide +kernel) (fun h11 => ?_)
        refine ef_getI (k := (s.2.2 4)) (j := 8) (eh_H0sh h11) eL_7_141 (by decide) (by decide +kernel) ?_
        refine es_blk (pc' := 91) (L' := [some (.ref 124), some (.int q2)]) (st' := [.ref 124, .int (s.1 (s.2.2 4) 8)]) [(.aload_n 0, 0)] (by decide +kernel) rfl rfl ?_
        refine ef_getQ (j := 4) (ok := eh_okH) (by decide) eL_7_39 rfl (fun q h => eh_sh_NU (eh_H0sh h)) (by decide +kernel) (fun h12 => ?_)
        refine ef_getI (k := (s.2.2 4)) (j := 7) (eh_H0sh h12) eL_7_138 (by decide) (by decide +kernel) ?_
        refine es_ilt (tgt := 120) (off := (23)) (by decide +kernel) (by decide) (fun h13 => ?_) (fun h13 => ?_)
        · refine ef_drop (L2 := [none, none]) [false, false] rfl rfl ?_
          exact Hj6 ()
        refine es_blk (pc' := 101) (L' := [some (.ref 124), some (.int q2)]) (st' := [.ref 124]) [(.aload_n 0, 0)] (by decide +kernel) rfl rfl ?_
        refine ef_getP (k := 124) (j := 0) (q := 1) rfl eL_7_9 rfl rfl rfl (by decide +kernel) ?_
        refine es_blk (pc' := 105) (L' := [some (.ref 124), some (.int q2)]) (st' := [.ref 124, .ref 1]) [(.aload_n 0, 0)] (by decide +kernel) rfl rfl ?_
        refine ef_getQ (j := 4) (ok := eh_okH) (by decide) eL_7_39 rfl (fun q h => eh_sh_NU (eh_H0sh h)) (by decide +kernel) (fun h14 => ?_)
        refine es_blk (pc' := 109) (L' := [some (.ref 124), some (.int q2)]) (st' := [.ref 124, .ref (s.2.2 4), .ref 1]) [(.aload_n 0, 0)] (by decide +kernel) rfl rfl ?_
        refine ef_getQ (j := 5) (ok := eh_okF) (by decide) eL_7_47 rfl (fun q h => eh_sh_NU (eh_F0sh h)) (by decide +kernel) (fun h15 => ?_)
        refine es_blk (pc' := 115) (L' := [some (.ref 124), some (.int q2)]) (st' := [.int 0, .int 4, .int 3, .ref (s.2.2 5), .ref (s.2.2 4), .ref 1]) [(.iconst 3, 3), (.iconst 4, 4), (.iconst 0, 0)] (by decide +kernel) rfl rfl ?_
        refine ef_veV (d := 2) (k := 1) (As := [.ref (s.2.2 4), .ref (s.2.2 5), .int 3, .int 4, .int 0]) (st := []) eV_5_cease eK_7_129 (eS_5_cease g s (s.2.2 4) (s.2.2 5) 3 4 0 h14 h15) rfl rfl (Nat.le_of_ble_eq_true rfl) rfl (Nat.le_of_ble_eq_true rfl) ⟨Nat.le_of_ble_eq_true rfl, Nat.le_of_ble_eq_true rfl⟩ ⟨Nat.le_refl _, Nat.le_refl _⟩ (by decide +kernel) (fun q16 _ => ?_)
        refine es_blk (pc' := 119) (L' := [some (.ref 124), some (.int q2)]) (st' := [.int 1]) [(.iconst 1, 1)] (by decide +kernel) rfl rfl ?_
        exact es_ret rfl rfl rfl ⟨by decide +kernel, _, rfl, eh_narZ (Or.inr rfl)⟩ (Nat.le_refl _) (Nat.le_refl _)
      refine ef_drop (L2 := [none, none]) [false, false] rfl rfl ?_
      exact Hj6 ()
    refine es_blk (pc' := 53) (L' := [some (.ref 124), some (.int q2)]) (st' := [.ref 124]) [(.aload_n 0, 0)] (by decide +kernel) rfl rfl ?_
    refine ef_getQ (j := 4) (ok := eh_okH) (by decide) eL_7_39 rfl (fun q h => eh_sh_NU (eh_H0sh h)) (by decide +kernel) (fun h17 => ?_)
    refine es_ldc (v := (-2147483648)) eC_7_133 (by decide +kernel) ?_
    refine es_blk (pc' := 61) (L' := [some (.ref 124), some (.int q2)]) (st' := [.int 0, .int ((-2147483648) ||| q2), .ref (s.2.2 4)]) [(.iload_n 1, 0), (.ior, 0), (.iconst 0, 0)] (by decide +kernel) rfl rfl ?_
    refine ef_veV (d := 1) (k := (s.2.2 4)) (As := [.int ((-2147483648) ||| q2), .int 0]) (st := []) eV_4_trap eK_7_134 (eS_4_trap g s (s.2.2 4) ((-2147483648) ||| q2) 0 h17) (eh_H0sh h17) rfl (Nat.le_of_ble_eq_true rfl) rfl (Nat.le_of_ble_eq_true rfl) ⟨Nat.le_of_ble_eq_true rfl, Nat.le_of_ble_eq_true rfl⟩ ⟨Nat.le_refl _, Nat.le_refl _⟩ (by decide +kernel) (fun q18 _ => ?_)
    refine es_blk (pc' := 65) (L' := [some (.ref 124), some (.int q2)]) (st' := [.int 1]) [(.iconst 1, 1)] (by decide +kernel) rfl rfl ?_
    exact es_ret rfl rfl rfl ⟨by decide +kernel, _, rfl, eh_narZ (Or.inr rfl)⟩ (Nat.le_refl _) (Nat.le_refl _)
  refine es_ieq (tgt := 47) (off := (30)) (by decide +kernel) (by decide) (fun h19 => ?_) (fun h19 => ?_)
  · exact Hj3 ()
  refine es_blk (pc' := 21) (L' := [some (.ref 124), some (.int q2)]) (st' := [.ref 124]) [(.aload_n 0, 0)] (by decide +kernel) rfl rfl ?_
  refine ef_getI (k := 124) (j := 6) rfl eL_7_94 (by decide) (by decide +kernel) ?_
  refine es_eq (tgt := 47) (off := (23)) (by decide +kernel) (by decide) (fun h20 => ?_) (fun h20 => ?_)
  · exact Hj3 ()
  refine es_blk (pc' := 28) (L' := [some (.ref 124), some (.int q2)]) (st' := [.ref 124]) [(.aload_n 0, 0)] (by decide +kernel) rfl rfl ?_
  refine ef_getP (k := 124) (j := 0) (q := 1) rfl eL_7_9 rfl rfl rfl (by decide +kernel) ?_
  refine es_blk (pc' := 32) (L' := [some (.ref 124), some (.int q2)]) (st' := [.ref 124, .ref 1]) [(.aload_n 0, 0)] (by decide +kernel) rfl rfl ?_
  refine ef_getQ (j := 4) (ok := eh_okH) (by decide) eL_7_39 rfl (fun q h => eh_sh_NU (eh_H0sh h)) (by decide +kernel) (fun h21 => ?_)
  refine es_blk (pc' := 36) (L' := [some (.ref 124), some (.int q2)]) (st' := [.ref 124, .ref (s.2.2 4), .ref 1]) [(.aload_n 0, 0)] (by decide +kernel) rfl rfl ?_
  refine ef_getQ (j := 5) (ok := eh_okF) (by decide) eL_7_47 rfl (fun q h => eh_sh_NU (eh_F0sh h)) (by decide +kernel) (fun h22 => ?_)
  refine es_blk (pc' := 42) (L' := [some (.ref 124), some (.int q2)]) (st' := [.int 0, .int 2, .int 3, .ref (s.2.2 5), .ref (s.2.2 4), .ref 1]) [(.iconst 3, 3), (.iconst 2, 2), (.iconst 0, 0)] (by decide +kernel) rfl rfl ?_
  refine ef_veV (d := 2) (k := 1) (As := [.ref (s.2.2 4), .ref (s.2.2 5), .int 3, .int 2, .int 0]) (st := []) eV_5_cease eK_7_129 (eS_5_cease g s (s.2.2 4) (s.2.2 5) 3 2 0 h21 h22) rfl rfl (Nat.le_of_ble_eq_true rfl) rfl (Nat.le_of_ble_eq_true rfl) ⟨Nat.le_of_ble_eq_true rfl, Nat.le_of_ble_eq_true rfl⟩ ⟨Nat.le_refl _, Nat.le_refl _⟩ (by decide +kernel) (fun q23 _ => ?_)
  refine es_blk (pc' := 46) (L' := [some (.ref 124), some (.int q2)]) (st' := [.int 1]) [(.iconst 1, 1)] (by decide +kernel) rfl rfl ?_
  exact es_ret rfl rfl rfl ⟨by decide +kernel, _, rfl, eh_narZ (Or.inr rfl)⟩ (Nat.le_refl _) (Nat.le_refl _)
