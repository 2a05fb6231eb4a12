/-! the end of the common stream, and the chain of calls -/
theorem ep_ssend {c : ep_C} {m : ep_M} {st : ep_St} (hS : ep_SS c m st) (hk : ep_ok st) (hn : st.2.2 + 100 < 2 ^ 28) (out pm npm off : Nat) (ho : out ≠ 29 ∧ out ≠ 30 ∧ out ≠ 31) (hpm : 127 ≤ pm ∧ pm ≠ 188 ∧ pm ≠ 189 ∧ pm ≠ 191) (hin : off + 32 ≤ npm) (hnpm : npm < 1000000) : ∃ c1 m1, (∀ m0, eF_9_end (ep_mk c m0) 29 out 8 = some (eh_tF (ep_mk c1 m0) out (ep_w8 ((ep_mk c m0).1 out) (ep_fin st) 8))) ∧ (∀ c0, eF_12_finish (ep_mk c0 m) 6 pm npm (nI off) = some (ep_mk c0 (ep_mL m1 pm (ep_wr (m.1 pm) off (ep_fin st) 32)))) ∧ ep_K c c1 ∧ ep_L m m1 := by
  obtain ⟨h', w', a⟩ := ep_cend hS.1 hk
  obtain ⟨H, B, W, L, p, q⟩ := ep_mfinish (e := 6) (by decide) hS.2 hk hn pm npm off hpm.1 hpm.2.1 hpm.2.2.1 hpm.2.2.2 hin hnpm
  refine ⟨ep_s29 c (c.1 29 3) h' w', ep_mS m H B W L, fun m0 => ?_, p, ep_K_29 _ _ _ _, ep_L_mS (by decide) q⟩
  rw [a _ 29 out ho.1 ho.2.1 ho.2.2 (ep_r29 c m0).1 (ep_r29 c m0).2.1 (ep_r29 c m0).2.2, ep_t3_29]
theorem ep_numlen (v : Int32) : ((List.range 4).map fun i => eh_shr v (nI (8 * i))).length = 4 := ep_range_len 4 _
theorem ep_w8_lt (f : Nat → Int32) (t : ep_T8) (j : Nat) (hj : j < 8) : ep_w8 f t 8 j = ep_t8 t j := by unfold ep_w8; rw [if_pos hj]
theorem ep_Gd1_w {f b : Nat → Int32} {t : ep_T8} : ep_Gd1 (ep_w8 f t 8) (ep_wr b 0 t 32) := by
  intro j hj
  rw [ep_w8_lt _ _ _ hj]
  have := ep_bw_wr b 0 t j hj
  rw [Nat.zero_add] at this
  exact this.symm
/-- numbers fed one after another -/
def ep_nums : List Int32 → List Int32
  | [] => []
  | v :: l => ((List.range 4).map fun i => eh_shr v (nI (8 * i))) ++ ep_nums l
theorem ep_nums_len : ∀ l, (ep_nums l).length = 4 * l.length
  | [] => rfl
  | v :: l => by show (_ ++ ep_nums l).length = _; rw [List.length_append, ep_numlen, ep_nums_len l, List.length_cons]; omega
def ep_cnums (s : Option eh_F) : List Int32 → Option eh_F
  | [] => s
  | v :: l => ep_cnums (Option.bind s fun q => eF_9_feedNumber q 29 v) l
def ep_mnums (s : Option eh_F) : List Int32 → Option eh_F
  | [] => s
  | v :: l => ep_mnums (Option.bind s fun q => eF_12_addNumber q 6 v) l
theorem ep_ssnums : ∀ (l : List Int32) {c : ep_C} {m : ep_M} {st : ep_St}, ep_SS c m st → ep_ok st → st.2.2 % 4 = 0 → st.2.2 + 4 * l.length + 4 < 2 ^ 28 → ∃ c' m', (∀ m0, ep_cnums (some (ep_mk c m0)) l = some (ep_mk c' m0)) ∧ (∀ c0, ep_mnums (some (ep_mk c0 m)) l = some (ep_mk c0 m')) ∧ ep_K c c' ∧ ep_L m m' ∧ ep_SS c' m' (ep_puts st (ep_nums l))
  | [], c, m, st, hS, _, _, _ => ⟨c, m, fun _ => rfl, fun _ => rfl, ep_K_rf c, ep_L_rf m, hS⟩
  | v :: l, c, m, st, hS, hk, hal, hn => by
    rw [List.length_cons] at hn
    obtain ⟨c1, m1, a1, a2, a3, a4, a5⟩ := ep_ssnum hS hk hal (by omega) v
    have hk1 := ep_puts_ok ((List.range 4).map fun i => eh_shr v (nI (8 * i))) hk (by rw [ep_numlen]; omega)
    have hl1 := ep_puts_len ((List.range 4).map fun i => eh_shr v (nI (8 * i))) st
    rw [ep_numlen] at hl1
    obtain ⟨c2, m2, b1, b2, b3, b4, b5⟩ := ep_ssnums l a5 hk1 (by omega) (by omega)
    refine ⟨c2, m2, fun m0 => ?_, fun c0 => ?_, ep_K_tr a3 b3, ep_L_tr a4 b4, ?_⟩
    · show ep_cnums (Option.bind (some (ep_mk c m0)) fun q => eF_9_feedNumber q 29 v) l = _
      rw [ep_sb, a1 m0]; exact b1 m0
    · show ep_mnums (Option.bind (some (ep_mk c0 m)) fun q => eF_12_addNumber q 6 v) l = _
      rw [ep_sb, a2 c0]; exact b2 c0
    · show ep_SS c2 m2 (ep_puts st (_ ++ ep_nums l))
      rw [ep_puts_ap]; exact b5
/-- what a call leaves alone: the step's own words -/
def ep_Fr (c : ep_C) (m : ep_M) (c' : ep_C) (m' : ep_M) : Prop := c'.2.2 = c.2.2 ∧ c'.1 124 = c.1 124 ∧ (∀ j, j = 83 ∨ j = 85 ∨ j = 86 → m'.1 127 j = m.1 127 j) ∧ m'.1 144 = m.1 144
theorem ep_Fr_rf (c : ep_C) (m : ep_M) : ep_Fr c m c m := ⟨rfl, rfl, fun _ _ => rfl, rfl⟩
theorem ep_Fr_tr {c c1 c2 : ep_C} {m m1 m2 : ep_M} (h1 : ep_Fr c m c1 m1) (h2 : ep_Fr c1 m1 c2 m2) : ep_Fr c m c2 m2 := ⟨h2.1.trans h1.1, h2.2.1.trans h1.2.1, fun j hj => (h2.2.2.1 j hj).trans (h1.2.2.1 j hj), h2.2.2.2.trans h1.2.2.2⟩
theorem ep_Fr_KL {c c' : ep_C} {m m' : ep_M} (h1 : ep_K c c') (h2 : ep_L m m') : ep_Fr c m c' m' := ⟨by rw [h1.1], h1.2 124 (by decide) (by decide) (by decide) (by decide) (by decide) (by decide) (by decide), fun j hj => h2.2.1 j (by omega) (by omega), h2.1 144 (by decide) (by decide) (by decide) (by decide) (by decide) (by decide) (by decide) (by decide) (by decide) (by decide) (by decide)⟩
theorem ep_chain {N : Nat} {c : ep_C} {m : ep_M} (hR : ep_R N c m) (f p q r s : Int32) : ∃ c' m', (∀ m0, eF_5_chain (ep_mk c m0) f p q r s = some (ep_mk c' m0)) ∧ (∀ c0, Option.bind (eF_12_begin (ep_mk c0 m) 6) (fun q8 => Option.bind (eF_12_addBytes q8 6 187 32 0 32) (fun q9 => Option.bind (eF_12_addNumber q9 6 f) (fun q10 => Option.bind (eF_12_addNumber q10 6 p) (fun q11 => Option.bind (eF_12_addNumber q11 6 q) (fun q12 => Option.bind (eF_12_addNumber q12 6 r) (fun q13 => Option.bind (eF_12_addNumber q13 6 s) (fun q14 => eF_12_finish q14 6 187 32 0))))))) = some (ep_mk c0 m')) ∧ ep_R N c' m' ∧ ep_Fr c m c' m' := by
  obtain ⟨c1, m1, a1, a2, a3, a4, a5⟩ := ep_ssbegin c m
  have hlog : c1.1 34 = c.1 34 := a3.2 34 (by decide) (by decide) (by decide) (by decide) (by decide) (by decide) (by decide)
  have hlogm : m1.1 187 = m.1 187 := a4.1 187 (by decide) (by decide) (by decide) (by decide) (by decide) (by decide) (by decide) (by decide) (by decide) (by decide) (by decide)
  obtain ⟨c2, m2, b1, b2, b3, b4, b5⟩ := ep_sswords a5 ep_st0_ok (by decide) 8 (by decide) (by decide) 34 8 187 32 0 (c.1 34) ⟨by decide, by decide, by decide⟩ (fun m0 => by rw [ep_rC1 _ _ _ (by decide), hlog]) ⟨by decide, by decide⟩ ⟨by decide, by decide, by decide, by decide⟩ (by decide) (by decide) (fun j hj => by rw [hlogm, Nat.zero_add]; exact hR.2.2.2.2.2.2.2.2.2.2.2.2.2.2.2.2.2.2.2.2.2.2.2.2.2.2.1 j hj)
  have hl2 : (ep_puts ep_st0 (ep_wds (c.1 34) 8)).2.2 = 32 := by rw [ep_puts_len, ep_wds_len]; rfl
  have hk2 := ep_puts_ok (ep_wds (c.1 34) 8) ep_st0_ok (by rw [ep_wds_len]; decide)
  obtain ⟨c3, m3, d1, d2, d3, d4, d5⟩ := ep_ssnums [f, p, q, r, s] b5 hk2 (by omega) (by rw [hl2]; show 32 + 4 * 5 + 4 < 2 ^ 28; decide)
  have hk3 := ep_puts_ok (ep_nums [f, p, q, r, s]) hk2 (by rw [ep_nums_len, hl2]; show 32 + 4 * 5 < 2 ^ 28; decide)
  have hl3 : (ep_puts (ep_puts ep_st0 (ep_wds (c.1 34) 8)) (ep_nums [f, p, q, r, s])).2.2 = 52 := by rw [ep_puts_len, ep_nums_len, hl2]; rfl
  obtain ⟨c4, m4, e1, e2, e3, e4⟩ := ep_ssend d5 hk3 (by rw [hl3]; decide) 34 187 32 0 ⟨by decide, by decide, by decide⟩ ⟨by decide, by decide, by decide, by decide⟩ (by decide) (by decide)
  generalize ep_fin (ep_puts (ep_puts ep_st0 (ep_wds (c.1 34) 8)) (ep_nums [f, p, q, r, s])) = T at e1 e2
  have hK := ep_K_tr (ep_K_tr (ep_K_tr a3 b3) d3) e3
  have hL := ep_L_tr (ep_L_tr (ep_L_tr a4 b4) d4) e4
  have hR4 := ep_R_K (ep_R_L hR hL) hK
  refine ⟨ep_cL c4 34 (ep_w8 (c3.1 34) T 8), ep_mL m4 187 (ep_wr (m3.1 187) 0 T 32), fun m0 => ?_, fun c0 => ?_, ⟨hR4.1, hR4.2.1, hR4.2.2.1, hR4.2.2.2.1, hR4.2.2.2.2.1, hR4.2.2.2.2.2.1, hR4.2.2.2.2.2.2.1, hR4.2.2.2.2.2.2.2.1, hR4.2.2.2.2.2.2.2.2.1, hR4.2.2.2.2.2.2.2.2.2.1, hR4.2.2.2.2.2.2.2.2.2.2.1, hR4.2.2.2.2.2.2.2.2.2.2.2.1, hR4.2.2.2.2.2.2.2.2.2.2.2.2.1, hR4.2.2.2.2.2.2.2.2.2.2.2.2.2.1, hR4.2.2.2.2.2.2.2.2.2.2.2.2.2.2.1, hR4.2.2.2.2.2.2.2.2.2.2.2.2.2.2.2.1, hR4.2.2.2.2.2.2.2.2.2.2.2.2.2.2.2.2.1, hR4.2.2.2.2.2.2.2.2.2.2.2.2.2.2.2.2.2.1, hR4.2.2.2.2.2.2.2.2.2.2.2.2.2.2.2.2.2.2.1, hR4.2.2.2.2.2.2.2.2.2.2.2.2.2.2.2.2.2.2.2.1, hR4.2.2.2.2.2.2.2.2.2.2.2.2.2.2.2.2.2.2.2.2.1, hR4.2.2.2.2.2.2.2.2.2.2.2.2.2.2.2.2.2.2.2.2.2.1, hR4.2.2.2.2.2.2.2.2.2.2.2.2.2.2.2.2.2.2.2.2.2.2.1, hR4.2.2.2.2.2.2.2.2.2.2.2.2.2.2.2.2.2.2.2.2.2.2.2.1, hR4.2.2.2.2.2.2.2.2.2.2.2.2.2.2.2.2.2.2.2.2.2.2.2.2.1, hR4.2.2.2.2.2.2.2.2.2.2.2.2.2.2.2.2.2.2.2.2.2.2.2.2.2.1, ep_Gd1_w, hR4.2.2.2.2.2.2.2.2.2.2.2.2.2.2.2.2.2.2.2.2.2.2.2.2.2.2.2.1, hR4.2.2.2.2.2.2.2.2.2.2.2.2.2.2.2.2.2.2.2.2.2.2.2.2.2.2.2.2.1, hR4.2.2.2.2.2.2.2.2.2.2.2.2.2.2.2.2.2.2.2.2.2.2.2.2.2.2.2.2.2.1, hR4.2.2.2.2.2.2.2.2.2.2.2.2.2.2.2.2.2.2.2.2.2.2.2.2.2.2.2.2.2.2.1, hR4.2.2.2.2.2.2.2.2.2.2.2.2.2.2.2.2.2.2.2.2.2.2.2.2.2.2.2.2.2.2.2.1, hR4.2.2.2.2.2.2.2.2.2.2.2.2.2.2.2.2.2.2.2.2.2.2.2.2.2.2.2.2.2.2.2.2.1, hR4.2.2.2.2.2.2.2.2.2.2.2.2.2.2.2.2.2.2.2.2.2.2.2.2.2.2.2.2.2.2.2.2.2⟩, ?_⟩
  · unfold eF_5_chain
    refine ep_bnd (a1 m0) ?_
    refine ep_bnd (b1 m0) ?_
    have D := d1 m0
    simp only [ep_cnums, ep_sb] at D
    have E := e1 m0
    rw [ep_rC1 _ _ _ (by decide), ep_wC1 _ _ _ _ (by decide)] at E
    cases x1 : eF_9_feedNumber (ep_mk c2 m0) 29 f with
    | none => rw [x1] at D; exact absurd D (by simp)
    | some v1 =>
      rw [x1, ep_sb] at D
      rw [ep_sb]
      cases x2 : eF_9_feedNumber v1 29 p with
      | none => rw [x2] at D; exact absurd D (by simp)
      | some v2 =>
        rw [x2, ep_sb] at D
        rw [ep_sb]
        cases x3 : eF_9_feedNumber v2 29 q with
        | none => rw [x3] at D; exact absurd D (by simp)
        | some v3 =>
          rw [x3, ep_sb] at D
          rw [ep_sb]
          cases x4 : eF_9_feedNumber v3 29 r with
          | none => rw [x4] at D; exact absurd D (by simp)
          | some v4 =>
            rw [x4, ep_sb] at D
            rw [ep_sb, D, ep_sb, E, ep_sb]
  · refine ep_bnd (a2 c0) ?_
    refine ep_bnd (b2 c0) ?_
    have D := d2 c0
    simp only [ep_mnums, ep_sb] at D
    have E := e2 c0
    cases x1 : eF_12_addNumber (ep_mk c0 m2) 6 f with
    | none => rw [x1] at D; exact absurd D (by simp)
    | some v1 =>
      rw [x1, ep_sb] at D
      rw [ep_sb]
      cases x2 : eF_12_addNumber v1 6 p with
      | none => rw [x2] at D; exact absurd D (by simp)
      | some v2 =>
        rw [x2, ep_sb] at D
        rw [ep_sb]
        cases x3 : eF_12_addNumber v2 6 q with
        | none => rw [x3] at D; exact absurd D (by simp)
        | some v3 =>
          rw [x3, ep_sb] at D
          rw [ep_sb]
          cases x4 : eF_12_addNumber v3 6 r with
          | none => rw [x4] at D; exact absurd D (by simp)
          | some v4 =>
            rw [x4, ep_sb] at D
            rw [ep_sb, D, ep_sb]
            exact E
  · have h1 := ep_Fr_KL hK hL
    exact ⟨h1.1, h1.2.1, h1.2.2.1, h1.2.2.2⟩
