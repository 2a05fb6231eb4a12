/-! the law, a call at a time -/
def er_SW (g : eh_P) (p : Int32) (s : eh_F) (x6 : Int32) (j7 : eh_F → Option ((Int32 × eh_F) ⊕ (eh_F))) : Option ((Int32 × eh_F) ⊕ (eh_F)) := if x6 = 0 then (if eh_in (p + 1) (eh_n g) then Option.bind (eF_11_boot s (eh_x g (eh_ix (p + 1)))) (fun q12 => if eh_in (p + 1) (eh_n g) then Option.bind (eF_12_boot q12.2 (eh_x g (eh_ix (p + 1)))) (fun q13 => if q12.1 = q13.1 then (j7 q13.2) else (some (.inl (0, q13.2)))) else none) else none) else if x6 = 1 then (if eh_in (p + 1) (eh_n g) then if eh_in (p + 2) (eh_n g) then if eh_in (p + 3) (eh_n g) then if eh_in (p + 4) (eh_n g) then if eh_in (p + 5) (eh_n g) then if eh_in (p + 6) (eh_n g) then Option.bind (eF_11_poke s (eh_x g (eh_ix (p + 1))) (eh_x g (eh_ix (p + 2))) (eh_x g (eh_ix (p + 3))) (eh_x g (eh_ix (p + 4))) (eh_x g (eh_ix (p + 5))) (eh_x g (eh_ix (p + 6)))) (fun q16 => if eh_in (p + 1) (eh_n g) then if eh_in (p + 2) (eh_n g) then if eh_in (p + 3) (eh_n g) then if eh_in (p + 4) (eh_n g) then if eh_in (p + 5) (eh_n g) then if eh_in (p + 6) (eh_n g) then Option.bind (eF_12_poke q16.2 (eh_x g (eh_ix (p + 1))) (eh_x g (eh_ix (p + 2))) (eh_x g (eh_ix (p + 3))) (eh_x g (eh_ix (p + 4))) (eh_x g (eh_ix (p + 5))) (eh_x g (eh_ix (p + 6)))) (fun q17 => if q16.1 = q17.1 then (j7 q17.2) else (some (.inl (0, q17.2)))) else none else none else none else none else none else none) else none else none else none else none else none else none) else if x6 = 2 then (if eh_in (p + 1) (eh_n g) then Option.bind (eF_11_word s (eh_x g (eh_ix (p + 1)))) (fun q20 => if eh_in (p + 1) (eh_n g) then Option.bind (eF_12_word s (eh_x g (eh_ix (p + 1)))) (fun q21 => if q20 = q21 then (j7 s) else (some (.inl (0, s)))) else none) else none) else if x6 = 3 then (if eh_in (p + 1) (eh_n g) then Option.bind (eF_11_inner s (eh_x g (eh_ix (p + 1)))) (fun q24 => if eh_in (p + 1) (eh_n g) then Option.bind (eF_12_inner s (eh_x g (eh_ix (p + 1)))) (fun q25 => if q24 = q25 then (j7 s) else (some (.inl (0, s)))) else none) else none) else if x6 = 4 then (if eh_in (p + 1) (eh_n g) then if eh_in (p + 2) (eh_n g) then if eh_in (p + 3) (eh_n g) then Option.bind (eF_11_secret s (eh_x g (eh_ix (p + 1))) (eh_x g (eh_ix (p + 2))) (eh_x g (eh_ix (p + 3)))) (fun q28 => if eh_in (p + 1) (eh_n g) then if eh_in (p + 2) (eh_n g) then if eh_in (p + 3) (eh_n g) then Option.bind (eF_12_secret q28.2 (eh_x g (eh_ix (p + 1))) (eh_x g (eh_ix (p + 2))) (eh_x g (eh_ix (p + 3)))) (fun q29 => if q28.1 = q29.1 then (j7 q29.2) else (some (.inl (0, q29.2)))) else none else none else none) else none else none else none) else if x6 = 5 then (if eh_in (p + 1) (eh_n g) then if eh_in (p + 2) (eh_n g) then if eh_in (p + 3) (eh_n g) then Option.bind (eF_11_setRegister s (eh_x g (eh_ix (p + 1))) (eh_x g (eh_ix (p + 2))) (eh_x g (eh_ix (p + 3)))) (fun q32 => if eh_in (p + 1) (eh_n g) then if eh_in (p + 2) (eh_n g) then if eh_in (p + 3) (eh_n g) then Option.bind (eF_12_setRegister q32.2 (eh_x g (eh_ix (p + 1))) (eh_x g (eh_ix (p + 2))) (eh_x g (eh_ix (p + 3)))) (fun q33 => if q32.1 = q33.1 then (j7 q33.2) else (some (.inl (0, q33.2)))) else none else none else none) else none else none else none) else if x6 = 6 then (if eh_in (p + 1) (eh_n g) then if eh_in (p + 2) (eh_n g) then Option.bind (eF_11_register s (eh_x g (eh_ix (p + 1))) (eh_x g (eh_ix (p + 2)))) (fun q36 => if eh_in (p + 1) (eh_n g) then if eh_in (p + 2) (eh_n g) then Option.bind (eF_12_register s (eh_x g (eh_ix (p + 1))) (eh_x g (eh_ix (p + 2)))) (fun q37 => if q36 = q37 then (j7 s) else (some (.inl (0, s)))) else none else none) else none else none) else if x6 = 7 then (if eh_in (p + 1) (eh_n g) then if eh_in (p + 2) (eh_n g) then Option.bind (eF_11_inside s (eh_x g (eh_ix (p + 1))) (eh_x g (eh_ix (p + 2)))) (fun q40 => if eh_in (p + 1) (eh_n g) then if eh_in (p + 2) (eh_n g) then Option.bind (eF_12_inside s (eh_x g (eh_ix (p + 1))) (eh_x g (eh_ix (p + 2)))) (fun q41 => if q40 = q41 then (j7 s) else (some (.inl (0, s)))) else none else none) else none else none) else if x6 = 8 then (if eh_in (p + 1) (eh_n g) then if eh_in (p + 2) (eh_n g) then if eh_in (p + 3) (eh_n g) then Option.bind (eF_11_place s (eh_x g (eh_ix (p + 1))) (eh_x g (eh_ix (p + 2))) (eh_x g (eh_ix (p + 3)))) (fun q44 => if eh_in (p + 1) (eh_n g) then if eh_in (p + 2) (eh_n g) then if eh_in (p + 3) (eh_n g) then Option.bind (eF_12_place q44.2 (eh_x g (eh_ix (p + 1))) (eh_x g (eh_ix (p + 2))) (eh_x g (eh_ix (p + 3)))) (fun q45 => if q44.1 = q45.1 then (j7 q45.2) else (some (.inl (0, q45.2)))) else none else none else none) else none else none else none) else if x6 = 9 then (if eh_in (p + 1) (eh_n g) then if eh_in (p + 2) (eh_n g) then if eh_in (p + 3) (eh_n g) then Option.bind (eF_11_setControl s (eh_x g (eh_ix (p + 1))) (eh_x g (eh_ix (p + 2))) (eh_x g (eh_ix (p + 3)))) (fun q48 => if eh_in (p + 1) (eh_n g) then if eh_in (p + 2) (eh_n g) then if eh_in (p + 3) (eh_n g) then Option.bind (eF_12_setControl q48.2 (eh_x g (eh_ix (p + 1))) (eh_x g (eh_ix (p + 2))) (eh_x g (eh_ix (p + 3)))) (fun q49 => if q48.1 = q49.1 then (j7 q49.2) else (some (.inl (0, q49.2)))) else none else none else none) else none else none else none) else if x6 = 10 then (if eh_in (p + 1) (eh_n g) then if eh_in (p + 2) (eh_n g) then Option.bind (eF_11_control s (eh_x g (eh_ix (p + 1))) (eh_x g (eh_ix (p + 2)))) (fun q52 => if eh_in (p + 1) (eh_n g) then if eh_in (p + 2) (eh_n g) then Option.bind (eF_12_control_2 s (eh_x g (eh_ix (p + 1))) (eh_x g (eh_ix (p + 2)))) (fun q53 => if q52 = q53 then (j7 s) else (some (.inl (0, s)))) else none else none) else none else none) else if x6 = 11 then (if eh_in (p + 1) (eh_n g) then if eh_in (p + 2) (eh_n g) then if eh_in (p + 3) (eh_n g) then if eh_in (p + 4) (eh_n g) then if eh_in (p + 5) (eh_n g) then if eh_in (p + 6) (eh_n g) then Option.bind (eF_11_call s (eh_x g (eh_ix (p + 1))) (eh_x g (eh_ix (p + 2))) (eh_x g (eh_ix (p + 3))) (eh_x g (eh_ix (p + 4))) (eh_x g (eh_ix (p + 5))) (eh_x g (eh_ix (p + 6)))) (fun q56 => if eh_in (p + 1) (eh_n g) then if eh_in (p + 2) (eh_n g) then if eh_in (p + 3) (eh_n g) then if eh_in (p + 4) (eh_n g) then if eh_in (p + 5) (eh_n g) then if eh_in (p + 6) (eh_n g) then Option.bind (eF_12_call q56.2 (eh_x g (eh_ix (p + 1))) (eh_x g (eh_ix (p + 2))) (eh_x g (eh_ix (p + 3))) (eh_x g (eh_ix (p + 4))) (eh_x g (eh_ix (p + 5))) (eh_x g (eh_ix (p + 6)))) (fun q57 => if q56.1 = q57.1 then (j7 q57.2) else (some (.inl (0, q57.2)))) else none else none else none else none else none else none) else none else none else none else none else none else none) else if x6 = 12 then (if eh_in (p + 1) (eh_n g) then Option.bind (eF_11_run s (eh_x g (eh_ix (p + 1)))) (fun q60 => if eh_in (p + 1) (eh_n g) then Option.bind (eF_12_run_2 q60.2 (eh_x g (eh_ix (p + 1)))) (fun q61 => if q60.1 = q61.1 then (j7 q61.2) else (some (.inl (0, q61.2)))) else none) else none) else if x6 = 13 then (if eh_in (p + 1) (eh_n g) then Option.bind (eF_11_type s (eh_x g (eh_ix (p + 1)))) (fun q64 => if eh_in (p + 1) (eh_n g) then Option.bind (eF_12_type q64.2 (eh_x g (eh_ix (p + 1)))) (fun q65 => if q64.1 = q65.1 then (j7 q65.2) else (some (.inl (0, q65.2)))) else none) else none) else if x6 = 14 then (if eh_in (p + 1) (eh_n g) then Option.bind (eF_11_panel s (eh_x g (eh_ix (p + 1)))) (fun q68 => if eh_in (p + 1) (eh_n g) then Option.bind (eF_12_panel s (eh_x g (eh_ix (p + 1)))) (fun q69 => if q68 = q69 then (j7 s) else (some (.inl (0, s)))) else none) else none) else if x6 = 15 then (if eh_in (p + 1) (eh_n g) then eh_J (fun (a73 : Int32) => Option.bind (eF_11_line s a73) (fun q74 => if eh_in (p + 1) (eh_n g) then eh_J (fun (a76 : Int32) => Option.bind (eF_12_line q74.2 a76) (fun q77 => if q74.1 = q77.1 then (j7 q77.2) else (some (.inl (0, q77.2))))) (fun j75 => if (eh_x g (eh_ix (p + 1))) = 0 then (j75 0) else (j75 1)) else none)) (fun j72 => if (eh_x g (eh_ix (p + 1))) = 0 then (j72 0) else (j72 1)) else none) else if x6 = 16 then (if eh_in (p + 1) (eh_n g) then if eh_in (p + 2) (eh_n g) then Option.bind (eF_11_enclave s (eh_x g (eh_ix (p + 1))) (eh_x g (eh_ix (p + 2)))) (fun q82 => if eh_in (p + 1) (eh_n g) then if eh_in (p + 2) (eh_n g) then Option.bind (eF_12_enclave s (eh_x g (eh_ix (p + 1))) (eh_x g (eh_ix (p + 2)))) (fun q83 => if q82 = q83 then (j7 s) else (some (.inl (0, s)))) else none else none) else none else none) else if x6 = 17 then (if eh_in (p + 1) (eh_n g) then if eh_in (p + 2) (eh_n g) then Option.bind (eF_11_thread s (eh_x g (eh_ix (p + 1))) (eh_x g (eh_ix (p + 2)))) (fun q86 => if eh_in (p + 1) (eh_n g) then if eh_in (p + 2) (eh_n g) then Option.bind (eF_12_thread s (eh_x g (eh_ix (p + 1))) (eh_x g (eh_ix (p + 2)))) (fun q87 => if q86 = q87 then (j7 s) else (some (.inl (0, s)))) else none else none) else none else none) else if x6 = 18 then (if eh_in (p + 1) (eh_n g) then if eh_in (p + 2) (eh_n g) then Option.bind (eF_11_region s (eh_x g (eh_ix (p + 1))) (eh_x g (eh_ix (p + 2)))) (fun q90 => if eh_in (p + 1) (eh_n g) then if eh_in (p + 2) (eh_n g) then Option.bind (eF_12_region s (eh_x g (eh_ix (p + 1))) (eh_x g (eh_ix (p + 2)))) (fun q91 => if q90 = q91 then (j7 s) else (some (.inl (0, s)))) else none else none) else none else none) else if x6 = 19 then (if eh_in (p + 1) (eh_n g) then if eh_in (p + 2) (eh_n g) then if eh_in (p + 3) (eh_n g) then Option.bind (eF_11_entry s (eh_x g (eh_ix (p + 1))) (eh_x g (eh_ix (p + 2))) (eh_x g (eh_ix (p + 3)))) (fun q94 => if eh_in (p + 1) (eh_n g) then if eh_in (p + 2) (eh_n g) then if eh_in (p + 3) (eh_n g) then Option.bind (eF_12_entry s (eh_x g (eh_ix (p + 1))) (eh_x g (eh_ix (p + 2))) (eh_x g (eh_ix (p + 3)))) (fun q95 => if q94 = q95.1 then (j7 q95.2) else (some (.inl (0, q95.2)))) else none else none else none) else none else none else none) else if x6 = 20 then (if eh_in (p + 1) (eh_n g) then if eh_in (p + 2) (eh_n g) then Option.bind (eF_11_event s (eh_x g (eh_ix (p + 1))) (eh_x g (eh_ix (p + 2)))) (fun q98 => if eh_in (p + 1) (eh_n g) then if eh_in (p + 2) (eh_n g) then Option.bind (eF_12_event s (eh_x g (eh_ix (p + 1))) (eh_x g (eh_ix (p + 2)))) (fun q99 => if q98 = q99 then (j7 s) else (some (.inl (0, s)))) else none else none) else none else none) else if x6 = 21 then (if eh_in (p + 1) (eh_n g) then Option.bind (eF_11_console s (eh_x g (eh_ix (p + 1)))) (fun q102 => if eh_in (p + 1) (eh_n g) then Option.bind (eF_12_console s (eh_x g (eh_ix (p + 1)))) (fun q103 => if q102 = q103 then (j7 s) else (some (.inl (0, s)))) else none) else none) else if x6 = 22 then (if eh_in (p + 1) (eh_n g) then if eh_in (p + 2) (eh_n g) then if eh_in (p + 3) (eh_n g) then Option.bind (eF_11_disk s (eh_x g (eh_ix (p + 1))) (eh_x g (eh_ix (p + 2))) (eh_x g (eh_ix (p + 3)))) (fun q106 => if eh_in (p + 1) (eh_n g) then if eh_in (p + 2) (eh_n g) then if eh_in (p + 3) (eh_n g) then Option.bind (eF_12_disk q106.2 (eh_x g (eh_ix (p + 1))) (eh_x g (eh_ix (p + 2))) (eh_x g (eh_ix (p + 3)))) (fun q107 => if q106.1 = q107.1 then (j7 q107.2) else (some (.inl (0, q107.2)))) else none else none else none) else none else none else none) else if x6 = 23 then (if eh_in (p + 1) (eh_n g) then if eh_in (p + 2) (eh_n g) then if eh_in (p + 3) (eh_n g) then Option.bind (eF_11_digest s (eh_x g (eh_ix (p + 1))) (eh_x g (eh_ix (p + 2))) (eh_x g (eh_ix (p + 3)))) (fun q110 => if eh_in (p + 1) (eh_n g) then if eh_in (p + 2) (eh_n g) then if eh_in (p + 3) (eh_n g) then Option.bind (eF_12_digest q110.2 (eh_x g (eh_ix (p + 1))) (eh_x g (eh_ix (p + 2))) (eh_x g (eh_ix (p + 3)))) (fun q111 => if q110.1 = q111.1 then (j7 q111.2) else (some (.inl (0, q111.2)))) else none else none else none) else none else none else none) else if x6 = 24 then (if eh_in (p + 1) (eh_n g) then Option.bind (eF_11_genuine s (eh_x g (eh_ix (p + 1)))) (fun q114 => if eh_in (p + 1) (eh_n g) then Option.bind (eF_12_genuine q114.2 (eh_x g (eh_ix (p + 1)))) (fun q115 => if q114.1 = q115.1 then (j7 q115.2) else (some (.inl (0, q115.2)))) else none) else none) else if x6 = 25 then (Option.bind (eF_11_outside s) (fun q118 => Option.bind (eF_12_outside s) (fun q119 => if (lg_cmp q118 q119) = 0 then (j7 s) else (some (.inl (0, s)))))) else if x6 = 26 then (if eh_in (p + 1) (eh_n g) then Option.bind (eF_11_count s (eh_x g (eh_ix (p + 1)))) (fun q122 => if eh_in (p + 1) (eh_n g) then Option.bind (eF_12_count_2 s (eh_x g (eh_ix (p + 1)))) (fun q123 => if q122 = q123 then (j7 s) else (some (.inl (0, s)))) else none) else none) else (j7 s)
set_option maxHeartbeats 8000000 in
theorem er_sw (g : eh_P) {i N : Nat} {c : ep_C} {m : ep_M} (hR : ep_R N c m) (hN : N + 1400000 < 2 ^ 28) (i1 : eh_in (nI i + 1) (eh_n g) = true) (i2 : eh_in (nI i + 2) (eh_n g) = true) (i3 : eh_in (nI i + 3) (eh_n g) = true) (i4 : eh_in (nI i + 4) (eh_n g) = true) (i5 : eh_in (nI i + 5) (eh_n g) = true) (i6 : eh_in (nI i + 6) (eh_n g) = true) (x6 : Int32) (J : eh_F → Option ((Int32 × eh_F) ⊕ (eh_F))) : ∃ c' m', ep_R (N + 1300000) c' m' ∧ er_SW g (nI i) (ep_mk c m) x6 J = J (ep_mk c' m') := by
  unfold er_SW
  by_cases h0 : x6 = 0
  · rw [if_pos h0]
    obtain ⟨r, c', m', a, b, R'⟩ := er_boot N (eh_x g (eh_ix (nI i + 1))) c m hR
    refine ⟨c', m', ep_R_mono R' (by omega), ?_⟩
    rw [if_pos i1]
    refine ep_bnd (a m) ?_
    try dsimp only
    rw [if_pos i1]
    refine ep_bnd (b c') ?_
    try dsimp only
    rw [if_pos rfl]
  rw [if_neg h0]
  by_cases h1 : x6 = 1
  · rw [if_pos h1]
    obtain ⟨r, c', m', a, b, R'⟩ := er_poke N (eh_x g (eh_ix (nI i + 1))) (eh_x g (eh_ix (nI i + 2))) (eh_x g (eh_ix (nI i + 3))) (eh_x g (eh_ix (nI i + 4))) (eh_x g (eh_ix (nI i + 5))) (eh_x g (eh_ix (nI i + 6))) c m hR
    refine ⟨c', m', ep_R_mono R' (by omega), ?_⟩
    rw [if_pos i1, if_pos i2, if_pos i3, if_pos i4, if_pos i5, if_pos i6]
    refine ep_bnd (a m) ?_
    try dsimp only
    rw [if_pos i1, if_pos i2, if_pos i3, if_pos i4, if_pos i5, if_pos i6]
    refine ep_bnd (b c') ?_
    try dsimp only
    rw [if_pos rfl]
  rw [if_neg h1]
  by_cases h2 : x6 = 2
  · rw [if_pos h2]
    obtain ⟨r, a, b⟩ := er_word hR (eh_x g (eh_ix (nI i + 1)))
    refine ⟨c, m, ep_R_mono hR (by omega), ?_⟩
    rw [if_pos i1]
    refine ep_bnd (a m) ?_
    try dsimp only
    rw [if_pos i1]
    refine ep_bnd (b c) ?_
    try dsimp only
    rw [if_pos rfl]
  rw [if_neg h2]
  by_cases h3 : x6 = 3
  · rw [if_pos h3]
    obtain ⟨r, a, b⟩ := er_inner hR (eh_x g (eh_ix (nI i + 1)))
    refine ⟨c, m, ep_R_mono hR (by omega), ?_⟩
    rw [if_pos i1]
    refine ep_bnd (a m) ?_
    try dsimp only
    rw [if_pos i1]
    refine ep_bnd (b c) ?_
    try dsimp only
    rw [if_pos rfl]
  rw [if_neg h3]
  by_cases h4 : x6 = 4
  · rw [if_pos h4]
    obtain ⟨r, c', m', a, b, R'⟩ := er_secret N (eh_x g (eh_ix (nI i + 1))) (eh_x g (eh_ix (nI i + 2))) (eh_x g (eh_ix (nI i + 3))) c m hR
    refine ⟨c', m', ep_R_mono R' (by omega), ?_⟩
    rw [if_pos i1, if_pos i2, if_pos i3]
    refine ep_bnd (a m) ?_
    try dsimp only
    rw [if_pos i1, if_pos i2, if_pos i3]
    refine ep_bnd (b c') ?_
    try dsimp only
    rw [if_pos rfl]
  rw [if_neg h4]
  by_cases h5 : x6 = 5
  · rw [if_pos h5]
    obtain ⟨r, c', m', a, b, R'⟩ := er_setRegister N (eh_x g (eh_ix (nI i + 1))) (eh_x g (eh_ix (nI i + 2))) (eh_x g (eh_ix (nI i + 3))) c m hR
    refine ⟨c', m', ep_R_mono R' (by omega), ?_⟩
    rw [if_pos i1, if_pos i2, if_pos i3]
    refine ep_bnd (a m) ?_
    try dsimp only
    rw [if_pos i1, if_pos i2, if_pos i3]
    refine ep_bnd (b c') ?_
    try dsimp only
    rw [if_pos rfl]
  rw [if_neg h5]
  by_cases h6 : x6 = 6
  · rw [if_pos h6]
    obtain ⟨r, a, b⟩ := er_register hR (eh_x g (eh_ix (nI i + 1))) (eh_x g (eh_ix (nI i + 2)))
    refine ⟨c, m, ep_R_mono hR (by omega), ?_⟩
    rw [if_pos i1, if_pos i2]
    refine ep_bnd (a m) ?_
    try dsimp only
    rw [if_pos i1, if_pos i2]
    refine ep_bnd (b c) ?_
    try dsimp only
    rw [if_pos rfl]
  rw [if_neg h6]
  by_cases h7 : x6 = 7
  · rw [if_pos h7]
    obtain ⟨r, a, b⟩ := er_inside hR (eh_x g (eh_ix (nI i + 1))) (eh_x g (eh_ix (nI i + 2)))
    refine ⟨c, m, ep_R_mono hR (by omega), ?_⟩
    rw [if_pos i1, if_pos i2]
    refine ep_bnd (a m) ?_
    try dsimp only
    rw [if_pos i1, if_pos i2]
    refine ep_bnd (b c) ?_
    try dsimp only
    rw [if_pos rfl]
  rw [if_neg h7]
  by_cases h8 : x6 = 8
  · rw [if_pos h8]
    obtain ⟨r, c', m', a, b, R'⟩ := er_place N (eh_x g (eh_ix (nI i + 1))) (eh_x g (eh_ix (nI i + 2))) (eh_x g (eh_ix (nI i + 3))) c m hR
    refine ⟨c', m', ep_R_mono R' (by omega), ?_⟩
    rw [if_pos i1, if_pos i2, if_pos i3]
    refine ep_bnd (a m) ?_
    try dsimp only
    rw [if_pos i1, if_pos i2, if_pos i3]
    refine ep_bnd (b c') ?_
    try dsimp only
    rw [if_pos rfl]
  rw [if_neg h8]
  by_cases h9 : x6 = 9
  · rw [if_pos h9]
    obtain ⟨r, c', m', a, b, R'⟩ := er_setControl N (eh_x g (eh_ix (nI i + 1))) (eh_x g (eh_ix (nI i + 2))) (eh_x g (eh_ix (nI i + 3))) c m hR
    refine ⟨c', m', ep_R_mono R' (by omega), ?_⟩
    rw [if_pos i1, if_pos i2, if_pos i3]
    refine ep_bnd (a m) ?_
    try dsimp only
    rw [if_pos i1, if_pos i2, if_pos i3]
    refine ep_bnd (b c') ?_
    try dsimp only
    rw [if_pos rfl]
  rw [if_neg h9]
  by_cases h10 : x6 = 10
  · rw [if_pos h10]
    obtain ⟨r, a, b⟩ := er_control hR (eh_x g (eh_ix (nI i + 1))) (eh_x g (eh_ix (nI i + 2)))
    refine ⟨c, m, ep_R_mono hR (by omega), ?_⟩
    rw [if_pos i1, if_pos i2]
    refine ep_bnd (a m) ?_
    try dsimp only
    rw [if_pos i1, if_pos i2]
    refine ep_bnd (b c) ?_
    try dsimp only
    rw [if_pos rfl]
  rw [if_neg h10]
  by_cases h11 : x6 = 11
  · rw [if_pos h11]
    obtain ⟨r, c', m', a, b, R'⟩ := er_call N (by omega) (eh_x g (eh_ix (nI i + 1))) (eh_x g (eh_ix (nI i + 2))) (eh_x g (eh_ix (nI i + 3))) (eh_x g (eh_ix (nI i + 4))) (eh_x g (eh_ix (nI i + 5))) (eh_x g (eh_ix (nI i + 6))) c m hR
    refine ⟨c', m', ep_R_mono R' (by omega), ?_⟩
    rw [if_pos i1, if_pos i2, if_pos i3, if_pos i4, if_pos i5, if_pos i6]
    refine ep_bnd (a m) ?_
    try dsimp only
    rw [if_pos i1, if_pos i2, if_pos i3, if_pos i4, if_pos i5, if_pos i6]
    refine ep_bnd (b c') ?_
    try dsimp only
    rw [if_pos rfl]
  rw [if_neg h11]
  by_cases h12 : x6 = 12
  · rw [if_pos h12]
    obtain ⟨r, c', m', a, b, R'⟩ := er_run N (by omega) (eh_x g (eh_ix (nI i + 1))) c m hR
    refine ⟨c', m', ep_R_mono R' (by omega), ?_⟩
    rw [if_pos i1]
    refine ep_bnd (a m) ?_
    try dsimp only
    rw [if_pos i1]
    refine ep_bnd (b c') ?_
    try dsimp only
    rw [if_pos rfl]
  rw [if_neg h12]
  by_cases h13 : x6 = 13
  · rw [if_pos h13]
    obtain ⟨r, c', m', a, b, R'⟩ := er_type N (eh_x g (eh_ix (nI i + 1))) c m hR
    refine ⟨c', m', ep_R_mono R' (by omega), ?_⟩
    rw [if_pos i1]
    refine ep_bnd (a m) ?_
    try dsimp only
    rw [if_pos i1]
    refine ep_bnd (b c') ?_
    try dsimp only
    rw [if_pos rfl]
  rw [if_neg h13]
  by_cases h14 : x6 = 14
  · rw [if_pos h14]
    obtain ⟨r, a, b⟩ := er_panel hR (eh_x g (eh_ix (nI i + 1)))
    refine ⟨c, m, ep_R_mono hR (by omega), ?_⟩
    rw [if_pos i1]
    refine ep_bnd (a m) ?_
    try dsimp only
    rw [if_pos i1]
    refine ep_bnd (b c) ?_
    try dsimp only
    rw [if_pos rfl]
  rw [if_neg h14]
  by_cases h15 : x6 = 15
  · rw [if_pos h15]
    by_cases z : eh_x g (eh_ix (nI i + 1)) = 0
    · obtain ⟨r, c', m', a, b, R'⟩ := er_line N (p := 0) (Or.inl rfl) c m hR
      refine ⟨c', m', ep_R_mono R' (by omega), ?_⟩
      rw [if_pos i1, ep_J, if_pos z]
      refine ep_bnd (a m) ?_
      try dsimp only
      rw [if_pos i1, ep_J, if_pos z]
      refine ep_bnd (b c') ?_
      try dsimp only
      rw [if_pos rfl]
    · obtain ⟨r, c', m', a, b, R'⟩ := er_line N (p := 1) (Or.inr rfl) c m hR
      refine ⟨c', m', ep_R_mono R' (by omega), ?_⟩
      rw [if_pos i1, ep_J, if_neg z]
      refine ep_bnd (a m) ?_
      try dsimp only
      rw [if_pos i1, ep_J, if_neg z]
      refine ep_bnd (b c') ?_
      try dsimp only
      rw [if_pos rfl]
  rw [if_neg h15]
  by_cases h16 : x6 = 16
  · rw [if_pos h16]
    obtain ⟨r, a, b⟩ := er_enclave hR (eh_x g (eh_ix (nI i + 1))) (eh_x g (eh_ix (nI i + 2)))
    refine ⟨c, m, ep_R_mono hR (by omega), ?_⟩
    rw [if_pos i1, if_pos i2]
    refine ep_bnd (a m) ?_
    try dsimp only
    rw [if_pos i1, if_pos i2]
    refine ep_bnd (b c) ?_
    try dsimp only
    rw [if_pos rfl]
  rw [if_neg h16]
  by_cases h17 : x6 = 17
  · rw [if_pos h17]
    obtain ⟨r, a, b⟩ := er_thread hR (eh_x g (eh_ix (nI i + 1))) (eh_x g (eh_ix (nI i + 2)))
    refine ⟨c, m, ep_R_mono hR (by omega), ?_⟩
    rw [if_pos i1, if_pos i2]
    refine ep_bnd (a m) ?_
    try dsimp only
    rw [if_pos i1, if_pos i2]
    refine ep_bnd (b c) ?_
    try dsimp only
    rw [if_pos rfl]
  rw [if_neg h17]
  by_cases h18 : x6 = 18
  · rw [if_pos h18]
    obtain ⟨r, a, b⟩ := er_region hR (eh_x g (eh_ix (nI i + 1))) (eh_x g (eh_ix (nI i + 2)))
    refine ⟨c, m, ep_R_mono hR (by omega), ?_⟩
    rw [if_pos i1, if_pos i2]
    refine ep_bnd (a m) ?_
    try dsimp only
    rw [if_pos i1, if_pos i2]
    refine ep_bnd (b c) ?_
    try dsimp only
    rw [if_pos rfl]
  rw [if_neg h18]
  by_cases h19 : x6 = 19
  · rw [if_pos h19]
    obtain ⟨r, m', a, b, R'⟩ := er_entry hR (eh_x g (eh_ix (nI i + 1))) (eh_x g (eh_ix (nI i + 2))) (eh_x g (eh_ix (nI i + 3)))
    refine ⟨c, m', ep_R_mono R' (by omega), ?_⟩
    rw [if_pos i1, if_pos i2, if_pos i3]
    refine ep_bnd (a m) ?_
    try dsimp only
    rw [if_pos i1, if_pos i2, if_pos i3]
    refine ep_bnd (b c) ?_
    try dsimp only
    rw [if_pos rfl]
  rw [if_neg h19]
  by_cases h20 : x6 = 20
  · rw [if_pos h20]
    obtain ⟨r, a, b⟩ := er_event hR (by omega) (eh_x g (eh_ix (nI i + 1))) (eh_x g (eh_ix (nI i + 2)))
    refine ⟨c, m, ep_R_mono hR (by omega), ?_⟩
    rw [if_pos i1, if_pos i2]
    refine ep_bnd (a m) ?_
    try dsimp only
    rw [if_pos i1, if_pos i2]
    refine ep_bnd (b c) ?_
    try dsimp only
    rw [if_pos rfl]
  rw [if_neg h20]
  by_cases h21 : x6 = 21
  · rw [if_pos h21]
    obtain ⟨r, a, b⟩ := er_console hR (eh_x g (eh_ix (nI i + 1)))
    refine ⟨c, m, ep_R_mono hR (by omega), ?_⟩
    rw [if_pos i1]
    refine ep_bnd (a m) ?_
    try dsimp only
    rw [if_pos i1]
    refine ep_bnd (b c) ?_
    try dsimp only
    rw [if_pos rfl]
  rw [if_neg h21]
  by_cases h22 : x6 = 22
  · rw [if_pos h22]
    obtain ⟨r, c', m', a, b, R'⟩ := er_disk N (eh_x g (eh_ix (nI i + 1))) (eh_x g (eh_ix (nI i + 2))) (eh_x g (eh_ix (nI i + 3))) c m hR
    refine ⟨c', m', ep_R_mono R' (by omega), ?_⟩
    rw [if_pos i1, if_pos i2, if_pos i3]
    refine ep_bnd (a m) ?_
    try dsimp only
    rw [if_pos i1, if_pos i2, if_pos i3]
    refine ep_bnd (b c') ?_
    try dsimp only
    rw [if_pos rfl]
  rw [if_neg h22]
  by_cases h23 : x6 = 23
  · rw [if_pos h23]
    obtain ⟨r, c', m', a, b, R'⟩ := er_digest N (eh_x g (eh_ix (nI i + 1))) (eh_x g (eh_ix (nI i + 2))) (eh_x g (eh_ix (nI i + 3))) c m hR
    refine ⟨c', m', ep_R_mono R' (by omega), ?_⟩
    rw [if_pos i1, if_pos i2, if_pos i3]
    refine ep_bnd (a m) ?_
    try dsimp only
    rw [if_pos i1, if_pos i2, if_pos i3]
    refine ep_bnd (b c') ?_
    try dsimp only
    rw [if_pos rfl]
  rw [if_neg h23]
  by_cases h24 : x6 = 24
  · rw [if_pos h24]
    obtain ⟨r, c', m', a, b, R'⟩ := er_genuine N (eh_x g (eh_ix (nI i + 1))) c m hR
    refine ⟨c', m', ep_R_mono R' (by omega), ?_⟩
    rw [if_pos i1]
    refine ep_bnd (a m) ?_
    try dsimp only
    rw [if_pos i1]
    refine ep_bnd (b c') ?_
    try dsimp only
    rw [if_pos rfl]
  rw [if_neg h24]
  by_cases h25 : x6 = 25
  · rw [if_pos h25]
    obtain ⟨r, a, b⟩ := er_outside hR
    refine ⟨c, m, ep_R_mono hR (by omega), ?_⟩
    refine ep_bnd (a m) ?_
    refine ep_bnd (b c) ?_
    rw [if_pos (er_cmp r)]
  rw [if_neg h25]
  by_cases h26 : x6 = 26
  · rw [if_pos h26]
    obtain ⟨r, a, b⟩ := er_count hR (eh_x g (eh_ix (nI i + 1)))
    refine ⟨c, m, ep_R_mono hR (by omega), ?_⟩
    rw [if_pos i1]
    refine ep_bnd (a m) ?_
    try dsimp only
    rw [if_pos i1]
    refine ep_bnd (b c) ?_
    try dsimp only
    rw [if_pos rfl]
  rw [if_neg h26]
  exact ⟨c, m, ep_R_mono hR (by omega), rfl⟩
abbrev er_LB (g : eh_P) : ((Int32 × eh_F) → Option ((Int32 × eh_F) ⊕ (eh_F))) → (Int32 × eh_F) → Option ((Int32 × eh_F) ⊕ (eh_F)) := fun r4 t1 => if ((Int32.ofNat (eh_n g)) - 7) < t1.1 then (some (.inr t1.2)) else (if eh_in t1.1 (eh_n g) then eh_V (((eh_x g (eh_ix t1.1)) &&& 31) : Int32) (fun x6 => eh_J (fun (s8 : eh_F) => eh_V ((t1.1 + 7) : Int32) (fun x9 => r4 (x9, s8))) (fun j7 => er_SW g t1.1 t1.2 x6 j7)) else none)
theorem er_loop_eq (g : eh_P) (s : eh_F) : eb_loop g s = Option.bind (eh_loop (er_LB g) eh_FU (1, s)) (Sum.elim some (fun (e2 : eh_F) => some (1, e2))) := rfl
theorem er_lim {n i : Nat} (hn : n ≤ 449) (hi : i < 1000) : (Int32.ofNat n - 7 < nI i) ↔ n < i + 7 := by
  rw [show (Int32.ofNat n - 7 : Int32) = nI n - nI 7 from rfl, Int32.lt_iff_toInt_lt, pk_sub_toInt (by omega) (by decide), nI_toInt (by omega)]
  omega
theorem er_lawL (g : eh_P) (hn : eh_n g ≤ 449) : ∀ (r f i N : Nat) (c : ep_C) (m : ep_M), eh_n g < i + 7 * r + 7 → r < f → i < 900 → ep_R N c m → N + 1300000 * r + 1400000 < 2 ^ 28 → i + 7 * r < 900 → ∃ s', Option.bind (eh_loop (er_LB g) f (nI i, ep_mk c m)) (Sum.elim some (fun (e2 : eh_F) => some (1, e2))) = some (1, s')
  | 0, f + 1, i, N, c, m, h1, h2, h3, hR, hN, h4 => by
    refine ⟨ep_mk c m, ?_⟩
    rw [ep_loopS]
    show Option.bind (if Int32.ofNat (eh_n g) - 7 < nI i then _ else _) _ = _
    rw [if_pos ((er_lim hn (by omega)).mpr (by omega)), ep_sb]
    rfl
  | r + 1, f + 1, i, N, c, m, h1, h2, h3, hR, hN, h4 => by
    by_cases y : eh_n g < i + 7
    · refine ⟨ep_mk c m, ?_⟩
      rw [ep_loopS]
      show Option.bind (if Int32.ofNat (eh_n g) - 7 < nI i then _ else _) _ = _
      rw [if_pos ((er_lim hn (by omega)).mpr y), ep_sb]
      rfl
    · have hin : ∀ j : Nat, j < 7 → eh_in (nI i + nI j) (eh_n g) = true := fun j hj => by
        rw [nI_add]
        exact ep_in (by omega) (by omega)
      obtain ⟨c', m', hR', hs⟩ := er_sw g (i := i) hR (by omega) (hin 1 (by decide)) (hin 2 (by decide)) (hin 3 (by decide)) (hin 4 (by decide)) (hin 5 (by decide)) (hin 6 (by decide)) (eh_x g (eh_ix (nI i)) &&& 31) (fun (s8 : eh_F) => eh_V ((nI i + 7) : Int32) (fun x9 => eh_loop (er_LB g) f (x9, s8)))
      obtain ⟨s', h⟩ := er_lawL g hn r f (i + 7) (N + 1300000) c' m' (by omega) (by omega) (by omega) hR' (by omega) (by omega)
      refine ⟨s', ?_⟩
      rw [ep_loopS]
      show Option.bind (if Int32.ofNat (eh_n g) - 7 < nI i then _ else _) _ = _
      rw [if_neg (fun z => y ((er_lim hn (by omega)).mp z)), if_pos (ep_in (by omega) (by omega)), ep_V, ep_J]
      refine (congrArg (fun o => Option.bind o (Sum.elim some (fun (e2 : eh_F) => some (1, e2)))) hs).trans ?_
      show Option.bind (eh_V ((nI i + 7) : Int32) (fun x9 => eh_loop (er_LB g) f (x9, ep_mk c' m'))) _ = _
      rw [ep_V, show (nI i + 7 : Int32) = nI (i + 7) from by rw [show (7 : Int32) = nI 7 from rfl, nI_add]]
      exact h
