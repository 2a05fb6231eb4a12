/-! the law begins -/
theorem eh_stat0 {args : Array Value} {s : State} {A : Nat → Prop} (hts : ∀ w ∈ lw_tbl, w.before args s = true) (hgv : (Jvm.Cond.and given_1 narrow_1).before args s = true) (hA : ∀ a : Nat, a < s.heap.size → ¬ A a) : ∃ a : Nat, va_Z (eh_sc 0) (eh_sn 0) "[I" (.ref a) A s s.heap ∧ va_T .int a (eh_tn 0) (fun j => .int (eh_tt 0 j)) A s s.heap := by
  have hs := flat_of_before _ hgv
  have h1 : (Cond.arrayOf (Term.static "EnclaveHouse$Sha" "FIRST_STATE" "[I") .int).before args s = true := hs _ (List.mem_of_getElem? (i := 5) (by decide +kernel))
  have h2 : (Cond.eq (.length (Term.static "EnclaveHouse$Sha" "FIRST_STATE" "[I")) (.int (Int32.ofNat 8))).before args s = true := hs _ (List.mem_of_getElem? (i := 6) (by decide +kernel))
  obtain ⟨a, h3, h4⟩ := va_Tof (tm := (Term.static "EnclaveHouse$Sha" "FIRST_STATE" "[I")) (ty := .int) (N := 8) (f := fun j => .int (eh_tt 0 j)) (A := A) (by decide) h1 (va_eqt h2) (fun j hj => va_eqt (hs _ (va_run (L := flatC (Jvm.Cond.and given_1 narrow_1)) (N := 8) (p := 7) (f := fun j => Cond.eq (.elem (Term.static "EnclaveHouse$Sha" "FIRST_STATE" "[I") (.int (Int32.ofNat j))) (.int (eh_tt 0 j))) (by decide +kernel) j hj))) hA
  exact ⟨a, va_Zref (hts (.laysStatic "EnclaveHouse$Sha" "FIRST_STATE" "[I") (eh_n2 189 rfl)) (hts (.initialized "EnclaveHouse$Sha") (eh_n1 6 rfl)) h3 hA, h4⟩
theorem eh_stat1 {args : Array Value} {s : State} {A : Nat → Prop} (hts : ∀ w ∈ lw_tbl, w.before args s = true) (hgv : (Jvm.Cond.and given_1 narrow_1).before args s = true) (hA : ∀ a : Nat, a < s.heap.size → ¬ A a) : ∃ a : Nat, va_Z (eh_sc 1) (eh_sn 1) "[I" (.ref a) A s s.heap ∧ va_T .int a (eh_tn 1) (fun j => .int (eh_tt 1 j)) A s s.heap := by
  have hs := flat_of_before _ hgv
  have h1 : (Cond.arrayOf (Term.static "EnclaveHouse$Sha" "ROUND_WORDS" "[I") .int).before args s = true := hs _ (List.mem_of_getElem? (i := 16) (by decide +kernel))
  have h2 : (Cond.eq (.length (Term.static "EnclaveHouse$Sha" "ROUND_WORDS" "[I")) (.int (Int32.ofNat 64))).before args s = true := hs _ (List.mem_of_getElem? (i := 17) (by decide +kernel))
  obtain ⟨a, h3, h4⟩ := va_Tof (tm := (Term.static "EnclaveHouse$Sha" "ROUND_WORDS" "[I")) (ty := .int) (N := 64) (f := fun j => .int (eh_tt 1 j)) (A := A) (by decide) h1 (va_eqt h2) (fun j hj => va_eqt (hs _ (va_run (L := flatC (Jvm.Cond.and given_1 narrow_1)) (N := 64) (p := 18) (f := fun j => Cond.eq (.elem (Term.static "EnclaveHouse$Sha" "ROUND_WORDS" "[I") (.int (Int32.ofNat j))) (.int (eh_tt 1 j))) (by decide +kernel) j hj))) hA
  exact ⟨a, va_Zref (hts (.laysStatic "EnclaveHouse$Sha" "ROUND_WORDS" "[I") (eh_n2 206 rfl)) (hts (.initialized "EnclaveHouse$Sha") (eh_n1 6 rfl)) h3 hA, h4⟩
theorem eh_stat2 {args : Array Value} {s : State} {A : Nat → Prop} (hts : ∀ w ∈ lw_tbl, w.before args s = true) (hgv : (Jvm.Cond.and given_1 narrow_1).before args s = true) (hA : ∀ a : Nat, a < s.heap.size → ¬ A a) : ∃ a : Nat, va_Z (eh_sc 2) (eh_sn 2) "[I" (.ref a) A s s.heap ∧ va_T .int a (eh_tn 2) (fun j => .int (eh_tt 2 j)) A s s.heap := by
  have hs := flat_of_before _ hgv
  have h1 : (Cond.arrayOf (Term.static "EnclaveHouseModel" "FIRST" "[I") .int).before args s = true := hs _ (List.mem_of_getElem? (i := 83) (by decide +kernel))
  have h2 : (Cond.eq (.length (Term.static "EnclaveHouseModel" "FIRST" "[I")) (.int (Int32.ofNat 8))).before args s = true := hs _ (List.mem_of_getElem? (i := 84) (by decide +kernel))
  obtain ⟨a, h3, h4⟩ := va_Tof (tm := (Term.static "EnclaveHouseModel" "FIRST" "[I")) (ty := .int) (N := 8) (f := fun j => .int (eh_tt 2 j)) (A := A) (by decide) h1 (va_eqt h2) (fun j hj => va_eqt (hs _ (va_run (L := flatC (Jvm.Cond.and given_1 narrow_1)) (N := 8) (p := 85) (f := fun j => Cond.eq (.elem (Term.static "EnclaveHouseModel" "FIRST" "[I") (.int (Int32.ofNat j))) (.int (eh_tt 2 j))) (by decide +kernel) j hj))) hA
  exact ⟨a, va_Zref (hts (.laysStatic "EnclaveHouseModel" "FIRST" "[I") (eh_n7 66 rfl)) (hts (.initialized "EnclaveHouseModel") (eh_n1 15 rfl)) h3 hA, h4⟩
theorem eh_stat3 {args : Array Value} {s : State} {A : Nat → Prop} (hts : ∀ w ∈ lw_tbl, w.before args s = true) (hgv : (Jvm.Cond.and given_1 narrow_1).before args s = true) (hA : ∀ a : Nat, a < s.heap.size → ¬ A a) : ∃ a : Nat, va_Z (eh_sc 3) (eh_sn 3) "[I" (.ref a) A s s.heap ∧ va_T .int a (eh_tn 3) (fun j => .int (eh_tt 3 j)) A s s.heap := by
  have hs := flat_of_before _ hgv
  have h1 : (Cond.arrayOf (Term.static "EnclaveHouseModel" "ROUNDS" "[I") .int).before args s = true := hs _ (List.mem_of_getElem? (i := 94) (by decide +kernel))
  have h2 : (Cond.eq (.length (Term.static "EnclaveHouseModel" "ROUNDS" "[I")) (.int (Int32.ofNat 64))).before args s = true := hs _ (List.mem_of_getElem? (i := 95) (by decide +kernel))
  obtain ⟨a, h3, h4⟩ := va_Tof (tm := (Term.static "EnclaveHouseModel" "ROUNDS" "[I")) (ty := .int) (N := 64) (f := fun j => .int (eh_tt 3 j)) (A := A) (by decide) h1 (va_eqt h2) (fun j hj => va_eqt (hs _ (va_run (L := flatC (Jvm.Cond.and given_1 narrow_1)) (N := 64) (p := 96) (f := fun j => Cond.eq (.elem (Term.static "EnclaveHouseModel" "ROUNDS" "[I") (.int (Int32.ofNat j))) (.int (eh_tt 3 j))) (by decide +kernel) j hj))) hA
  exact ⟨a, va_Zref (hts (.laysStatic "EnclaveHouseModel" "ROUNDS" "[I") (eh_n7 84 rfl)) (hts (.initialized "EnclaveHouseModel") (eh_n1 15 rfl)) h3 hA, h4⟩
theorem eh_aoH : Cond.arrayOver (.object "EnclaveHouse$Hart") ∈ lw_tbl := eh_n1 175 rfl
theorem eh_aoF : Cond.arrayOver (.object "EnclaveHouse$Fibre") ∈ lw_tbl := eh_n1 177 rfl
theorem eh_aoE : Cond.arrayOver (.object "EnclaveHouse$Enclave") ∈ lw_tbl := eh_n1 179 rfl
theorem eh_arr1 {args : Array Value} {s : State} {ty : FieldType} (hp : refKind ty = false) (h : (Cond.arrayClass ty).before args s = true) : ∃ cA : ClassId, ArrOfT s cA ty ∧ va_RA s cA ty := by
  obtain ⟨c, k, comp, h1, h2, h3⟩ := Cond.arrayClass_spec h
  refine ⟨c, fun n z => ⟨fun q h => (by cases h), k, h2, comp, h3⟩, ?_⟩
  cases ty <;> first | exact h1 | (simp [refKind] at hp; done)
theorem eh_arr2 {args : Array Value} {s : State} {C : String} (h : (Cond.arrayOver (.object C)).before args s = true) : ∃ cA : ClassId, ArrOfT s cA (.object C) ∧ va_RA s cA (.object C) := by
  obtain ⟨comp, c, k, h1, h2, h3, h4, h5⟩ := Cond.arrayOver_spec h
  exact ⟨c, fun n z => ⟨fun q h => (by cases h), k, h3, comp, h4⟩, k, comp, h3, h4, h1, h5⟩
theorem eh_arrs {args : Array Value} {s : State} (hts : ∀ w ∈ lw_tbl, w.before args s = true) : ∃ cT : Nat → ClassId, ∀ t, ArrOfT s (cT t) (eh_ty t) ∧ va_RA s (cT t) (eh_ty t) := by
  refine Classical.axiomOfChoice (r := fun t cA => ArrOfT s cA (eh_ty t) ∧ va_RA s cA (eh_ty t)) (fun t => ?_)
  unfold eh_ty
  split
  · exact eh_arr1 rfl (hts _ (eh_tb_lw eA_100))
  · exact eh_arr1 rfl (hts _ (eh_tb_lw eA_101))
  · exact eh_arr1 rfl (hts _ (eh_tb_lw eA_102))
  · exact eh_arr1 rfl (hts _ (eh_tb_lw eA_103))
  · exact eh_arr2 (hts _ eh_aoH)
  · exact eh_arr2 (hts _ eh_aoF)
  · exact eh_arr2 (hts _ eh_aoE)
theorem eh_insts {ci N : Nat} {C : String} {T : u_T} (h : eh_cl[ci]? = some (C, T, N)) : ∃ n, Cond.instantiable C n ∈ eh_tb := by
  match ci, h with
  | 0, h => cases h; exact ⟨_, eI_0⟩
  | 1, h => cases h; exact ⟨_, eI_1⟩
  | 2, h => cases h; exact ⟨_, eI_2⟩
  | 3, h => cases h; exact ⟨_, eI_3⟩
  | 4, h => cases h; exact ⟨_, eI_4⟩
  | 5, h => cases h; exact ⟨_, eI_5⟩
  | 6, h => cases h; exact ⟨_, eI_6⟩
  | 7, h => cases h; exact ⟨_, eI_7⟩
  | 8, h => cases h; exact ⟨_, eI_8⟩
  | 9, h => cases h; exact ⟨_, eI_9⟩
  | 10, h => cases h; exact ⟨_, eI_10⟩
  | 11, h => cases h; exact ⟨_, eI_11⟩
  | 12, h => cases h; exact ⟨_, eI_12⟩
  | n + 13, h => cases h
theorem eh_clss {args : Array Value} {s : State} (hts : ∀ w ∈ lw_tbl, w.before args s = true) : ∃ D : Nat → ClassId × (Nat → Nat), ∀ (c : Nat) (q : vw_C), eh_cl[c]? = some q → u_Kn s q.1 q.2.1 q.2.2 (D c).1 (D c).2 := by
  refine Classical.axiomOfChoice (r := fun c (D : ClassId × (Nat → Nat)) => ∀ q : vw_C, eh_cl[c]? = some q → u_Kn s q.1 q.2.1 q.2.2 D.1 D.2) (fun c => ?_)
  cases h : eh_cl[c]? with
  | none => exact ⟨(0, fun _ => 0), fun q hq => by cases hq⟩
  | some r =>
    obtain ⟨C, T, N⟩ := r
    obtain ⟨n, hn⟩ := eh_insts h
    obtain ⟨cC, iS, hK⟩ := u_known (C := C) (T := T) (N := N) hts (fun w hw => eh_tb_lw (eh_cf_in h w hw)) (hts _ (eh_tb_lw hn))
    exact ⟨(cC, iS), fun q hq => by cases hq; exact hK⟩
theorem whole_start_of {p : Program} {e : Env} {s : State} {m : MethodId} {below : List Frame} {meth : Method} {c : Code} (l : Launch) {b L : Nat} {xs : Nat → Int32} (C0 : lw_At p s m meth c b L xs) (hpure : ∀ g : eh_P, eh_n g = L → eh_x g = xs → ∃ s', eb_law g = some (1, s')) : W p l e room_1 s m #[Value.ref b] below meth c s.heap [] 0 0 (lw_Z below #[Value.ref b] s) (entryFrame m ([Value.ref b] : List Value).toArray 4) := by
  obtain ⟨hx, hb, hr, hml, hown, hts, hX, hbl, hlocks, hgv⟩ := C0
  obtain ⟨cT, hcT⟩ := eh_arrs hts
  obtain ⟨D, hD⟩ := eh_clss hts
  have hA : ∀ a : Nat, a < s.heap.size → ¬ (fun q : Nat => s.heap.size ≤ q) a := fun a h => Nat.not_le.mpr h
  obtain ⟨a0, z0, t0⟩ := eh_stat0 hts hgv hA
  obtain ⟨a1, z1, t1⟩ := eh_stat1 hts hgv hA
  obtain ⟨a2, z2, t2⟩ := eh_stat2 hts hgv hA
  obtain ⟨a3, z3, t3⟩ := eh_stat3 hts hgv hA
  let g : eh_P := (l, s.heap.size, (fun i => if i = 0 then a0 else if i = 1 then a1 else if i = 2 then a2 else if i = 3 then a3 else b), xs, L, cT, (fun k => (D k).1, fun k => (D k).2))
  have hZ : eh_Z g s s.heap := by
    refine ⟨fun i hi => ?_, ?_⟩
    · match i, hi with
      | 0, _ => exact ⟨z0, t0⟩
      | 1, _ => exact ⟨z1, t1⟩
      | 2, _ => exact ⟨z2, t2⟩
      | 3, _ => exact ⟨z3, t3⟩
      | n + 4, hi => omega
    · obtain ⟨scr, h1, h2, h3, h4, h5⟩ := hX
      exact ⟨scr, h1, h2, h3, Nat.le_of_eq h4.symm, by rw [h4], h5, hA b hbl⟩
  have hN : eh_N s := by
    refine ⟨fun w hw hn => va_Nw.of (by cases w <;> (first | rfl | cases hn)) (hts w hw), fun t => ?_⟩
    split
    · exact va_AO.of (hts _ eh_aoH)
    · exact va_AO.of (hts _ eh_aoF)
    · exact va_AO.of (hts _ eh_aoE)
  have hC : eh_Cx g eM_13_law p s m #[Value.ref b] meth c := ⟨hx, hb, hml, hown, fun w hw => hts w (eh_tb_lw hw), hlocks, hr, (fun h => by cases h), ⟨fun c q hq => hD c q hq, hcT⟩, hZ, Nat.le_refl _, hN⟩
  obtain ⟨s', hs'⟩ := hpure g rfl rfl
  have hrun := eB_law g _ hs'
  have hl := lv_entry ([Value.ref b]) (n := 4) (Nat.le_of_ble_eq_true rfl)
  rw [lg_entry_eq]
  generalize (lg_sl ([Value.ref b]) ++ List.replicate (4 - (lg_sl ([Value.ref b])).length) Slot.unset).toArray = ls at hl ⊢
  have hcv : eh_cv g (.ref (eh_SB + 4)) = .ref b := by
    simp only [eh_cv]; rw [if_neg (Nat.not_lt.mpr (Nat.le_add_right _ _)), Nat.add_sub_cancel_left]; rfl
  have hLv : eh_Lv g ls 4 (eh_en 4 [.ref (eh_SB + 4)]) := eh_en_Lv (Nat.le_of_ble_eq_true rfl) (by rw [List.map_cons, hcv]; exact hl)
  refine hrun p e s m _ below meth c s.heap [] ls (lw_Z below #[Value.ref b] s) hC ⟨⟨rfl, fun k sh hk => by cases hk⟩, va_S.rf⟩ hLv (fun H' locs' ls' pc' S' hri => ?_)
  refine va_forget (fun q hq => S'.2.2.2 q hq) ?_
  exact lw_ret hx hb hr hlocks hri.1
