/-! an enclave is created -/
theorem ep_nt_0 {a o : Nat → Int32} {e : Nat} : ∀ n, (∀ t, t < n → ¬ (a t ≠ 0 ∧ o t = nI e)) → ep_nt a o e n = 0
  | 0, _ => rfl
  | n + 1, h => by
    unfold ep_nt
    rw [ep_nt_0 n (fun t ht => h t (by omega)), if_neg (h n (by omega))]
theorem ep_R_new {N : Nat} {c : ep_C} {m : ep_M} (hR : ep_R N c m) {k b n e : Nat} (hk : k < 12) (h0 : m.1 164 k = 0) (hn : 0 < n) (hb : b + n ≤ 512) (hf : ep_fr (c.1 10) b n = true) (he : e < 6) (hE : m.1 155 e = 0) {G f g H B W : Nat → Int32} {L : Nat → Int64} {nn : Int32} (hG : G 5 = 1 ∧ G 6 = nI k ∧ G 7 = -1 ∧ G 8 = m.1 158 e + 1 ∧ G 9 = 0 ∧ G 10 = 0 ∧ G 11 = 0) (hc : ep_Rc f g nn ep_st0) (hm : ep_Rm e H B L ep_st0) (hO : ep_Oth e m H B L) : ep_R N (ep_cse (ep_cG (ep_cwp (ep_cgv c k 1 b n (nI e) (-1)) b n) 4 e G) e nn f g) (ep_mS (ep_mI (ep_mI (ep_mI (ep_mI (ep_mI (ep_mI (ep_mwp (ep_mgv m k 1 b n (nI e) (-1)) b n) 156 e (nI k)) 155 e 1) 157 e (-1)) 158 e (m.1 158 e + 1)) 161 e (eh_nz 0)) 163 e 0) H B W L) := by
  have nz : eh_nz 0 = 0 := by decide
  have hg := ep_Gr_give hR.2.2.2.1 (E' := upd (m.1 155) e 1) (W' := upd (m.1 156) e (nI k)) (s := 1) (t := -1) hk h0 hn hb (ep_fr_t hf) (fun e' h1 h2 => by
    have y : e' ≠ e := fun z => h2 (by rw [z]; exact hE)
    rw [ep_upd_ne y, ep_upd_ne y]; exact ⟨h2, rfl⟩) (Or.inl rfl) he ⟨by rw [ep_upd_eq]; decide, fun _ => by rw [ep_upd_eq]⟩ ⟨fun z => absurd z (by decide), fun _ => rfl⟩ (fun e' h1 h2 => by
    by_cases y : e' = e
    · subst y; exact Or.inr ⟨by rw [ep_upd_eq], rfl, rfl⟩
    · rw [ep_upd_ne y] at h2; exact Or.inl h2)
  have dn : ∀ e', m.1 155 e' ≠ 0 → upd (m.1 155) e 1 e' ≠ 0 := fun e' h => by
    have y : e' ≠ e := fun z => h (by rw [z]; exact hE)
    rw [ep_upd_ne y]; exact h
  have c4 : ∀ e', (ep_cse (ep_cG (ep_cwp (ep_cgv c k 1 b n (nI e) (-1)) b n) 4 e G) e nn f g).2.1 4 e' = if e' = e then G else c.2.1 4 e' := by
    intro e'
    rw [ep_cse_f _ _ _ _ _ _ ⟨by decide, by decide, by decide⟩, ep_cGe]
    rfl
  have co : ∀ i e', e' ≠ e → (ep_cse (ep_cG (ep_cwp (ep_cgv c k 1 b n (nI e) (-1)) b n) 4 e G) e nn f g).2.1 i e' = c.2.1 i e' := by
    intro i e' y
    rw [ep_cse_o _ _ _ _ _ _ _ (Or.inr y)]
    by_cases z : i = 4
    · subst z; rw [ep_cGh _ _ _ _ _ y]; rfl
    · rw [ep_cGi _ _ _ _ _ _ z]; rfl
  refine ⟨ep_Gm_z hR.1 b n, hR.2.1, ep_reg_gv hR k 1 b n (nI e) (-1), hg, ep_Gres_z hR.2.2.2.2.1 hb, hR.2.2.2.2.2.1, hR.2.2.2.2.2.2.1, hR.2.2.2.2.2.2.2.1, hR.2.2.2.2.2.2.2.2.1, hR.2.2.2.2.2.2.2.2.2.1, hR.2.2.2.2.2.2.2.2.2.2.1, hR.2.2.2.2.2.2.2.2.2.2.2.1, hR.2.2.2.2.2.2.2.2.2.2.2.2.1, hR.2.2.2.2.2.2.2.2.2.2.2.2.2.1, ?_, ?_, ?_, ?_, hR.2.2.2.2.2.2.2.2.2.2.2.2.2.2.2.2.2.2.1, hR.2.2.2.2.2.2.2.2.2.2.2.2.2.2.2.2.2.2.2.1, hR.2.2.2.2.2.2.2.2.2.2.2.2.2.2.2.2.2.2.2.2.1, hR.2.2.2.2.2.2.2.2.2.2.2.2.2.2.2.2.2.2.2.2.2.1, ?_, hR.2.2.2.2.2.2.2.2.2.2.2.2.2.2.2.2.2.2.2.2.2.2.2.1, hR.2.2.2.2.2.2.2.2.2.2.2.2.2.2.2.2.2.2.2.2.2.2.2.2.1, hR.2.2.2.2.2.2.2.2.2.2.2.2.2.2.2.2.2.2.2.2.2.2.2.2.2.1, hR.2.2.2.2.2.2.2.2.2.2.2.2.2.2.2.2.2.2.2.2.2.2.2.2.2.2.1, hR.2.2.2.2.2.2.2.2.2.2.2.2.2.2.2.2.2.2.2.2.2.2.2.2.2.2.2.1, hR.2.2.2.2.2.2.2.2.2.2.2.2.2.2.2.2.2.2.2.2.2.2.2.2.2.2.2.2.1, hR.2.2.2.2.2.2.2.2.2.2.2.2.2.2.2.2.2.2.2.2.2.2.2.2.2.2.2.2.2.1, hR.2.2.2.2.2.2.2.2.2.2.2.2.2.2.2.2.2.2.2.2.2.2.2.2.2.2.2.2.2.2.1, hR.2.2.2.2.2.2.2.2.2.2.2.2.2.2.2.2.2.2.2.2.2.2.2.2.2.2.2.2.2.2.2.1, hR.2.2.2.2.2.2.2.2.2.2.2.2.2.2.2.2.2.2.2.2.2.2.2.2.2.2.2.2.2.2.2.2.1, hR.2.2.2.2.2.2.2.2.2.2.2.2.2.2.2.2.2.2.2.2.2.2.2.2.2.2.2.2.2.2.2.2.2⟩
  · intro h' hh'
    rcases hR.2.2.2.2.2.2.2.2.2.2.2.2.2.2.1 h' hh' with y | ⟨t', e', y1, y2, y3, y4, y5, y6⟩
    · exact Or.inl y
    · refine Or.inr ⟨t', e', y1, y2, y3, y4, y5, ?_⟩
      show upd (m.1 155) e 1 e' = 2
      have y : e' ≠ e := fun z => by rw [z, hE] at y6; exact absurd y6 (by decide)
      rw [ep_upd_ne y]; exact y6
  · intro t ht hs
    obtain ⟨a, e', b1, b2, b3⟩ := hR.2.2.2.2.2.2.2.2.2.2.2.2.2.2.2.1 t ht hs
    exact ⟨a, e', b1, b2, dn e' b3⟩
  · intro e' he'
    rw [c4]
    obtain ⟨a5, a6, a7, a8, a9, a11, a12, a13, a14⟩ := hR.2.2.2.2.2.2.2.2.2.2.2.2.2.2.2.2.1 e' he'
    by_cases y : e' = e
    · subst y
      obtain ⟨g5, g6, g7, g8, g9, g10, g11⟩ := hG
      rw [if_pos rfl, g5, g6, g7, g8, g9, g11]
      show 1 = upd (m.1 155) e' 1 e' ∧ _ = upd (m.1 156) e' (nI k) e' ∧ _ = upd (m.1 157) e' (-1) e' ∧ _ = upd (m.1 158) e' (m.1 158 e' + 1) e' ∧ _ = upd (m.1 163) e' 0 e' ∧ _ = upd (m.1 161) e' (eh_nz 0) e' ∧ ep_bo (upd (m.1 161) e' (eh_nz 0) e') ∧ (upd (m.1 155) e' 1 e' = 0 ∨ upd (m.1 155) e' 1 e' = 1 ∨ upd (m.1 155) e' 1 e' = 2 ∨ upd (m.1 155) e' 1 e' = 3) ∧ (_ → upd (m.1 157) e' (-1) e' = -1)
      simp [ep_upd_eq, nz, ep_bo]
    · rw [if_neg y]
      show _ = upd (m.1 155) e 1 e' ∧ _ = upd (m.1 156) e (nI k) e' ∧ _ = upd (m.1 157) e (-1) e' ∧ _ = upd (m.1 158) e (m.1 158 e + 1) e' ∧ _ = upd (m.1 163) e 0 e' ∧ _ = upd (m.1 161) e (eh_nz 0) e' ∧ ep_bo (upd (m.1 161) e (eh_nz 0) e') ∧ (upd (m.1 155) e 1 e' = 0 ∨ upd (m.1 155) e 1 e' = 1 ∨ upd (m.1 155) e 1 e' = 2 ∨ upd (m.1 155) e 1 e' = 3) ∧ (upd (m.1 155) e 1 e' = 1 → upd (m.1 157) e (-1) e' = -1)
      simp only [ep_upd_ne y]
      exact ⟨a5, a6, a7, a8, a9, a11, a12, a13, a14⟩
  · intro e' he' hE'
    have hE2 : upd (m.1 155) e 1 e' ≠ 0 := hE'
    rw [c4]
    by_cases y : e' = e
    · subst y
      have z : ep_nt (m.1 148) (m.1 149) e' 12 = 0 := ep_nt_0 12 fun t ht z => by
        obtain ⟨a, e2, b1, b2, b3⟩ := hR.2.2.2.2.2.2.2.2.2.2.2.2.2.2.2.1 t ht z.1
        rw [z.2] at b2
        have := (nI_eq (by omega) (by omega)).mp b2
        rw [← this] at b3
        exact b3 hE
      rw [if_pos rfl]
      show G 10 = nI (ep_nt (m.1 148) (m.1 149) e' 12) ∧ ep_nt (m.1 148) (m.1 149) e' 12 ≤ 3
      rw [z, hG.2.2.2.2.2.1]
      exact ⟨rfl, by omega⟩
    · rw [ep_upd_ne y] at hE2
      rw [if_neg y]
      exact hR.2.2.2.2.2.2.2.2.2.2.2.2.2.2.2.2.2.1 e' he' hE2
  · intro e' he' hE'
    have hE2 : upd (m.1 155) e 1 e' = 1 := hE'
    by_cases y : e' = e
    · subst y
      refine ⟨ep_st0, ep_st0_ok, rfl, Nat.zero_le _, ?_, hm⟩
      rw [(ep_cse_5 _ _ _ _ _).1, (ep_cse_5 _ _ _ _ _).2.1, (ep_cse_5 _ _ _ _ _).2.2]
      exact hc
    · rw [ep_upd_ne y] at hE2
      obtain ⟨st, s1, s2, s3, s4, s5⟩ := hR.2.2.2.2.2.2.2.2.2.2.2.2.2.2.2.2.2.2.2.2.2.2.1 e' he' hE2
      refine ⟨st, s1, s2, s3, ?_, hO e' st y s1 s5⟩
      rw [co _ _ y, co _ _ y, co _ _ y]
      exact s4
theorem ep_create_ {N : Nat} {c : ep_C} {m : ep_M} (hR : ep_R N c m) (hN : N + 300 < 2 ^ 28) (p q : Int32) : ep_Cp (N + 8) c m (fun s => eF_10_create s p q) (fun s => eF_12_create s p q) := by
  have hRm := ep_R_mono hR (show N ≤ N + 8 by omega)
  cases hs : ep_spb p q with
  | false =>
    refine ep_Cp_id hRm (-1) (fun m0 => ?_) (fun c0 => ?_)
    · show eF_10_create (ep_mk c m0) p q = _
      unfold eF_10_create
      rw [ep_cspan, ep_sb, hs, if_pos ep_bf]
    · show eF_12_create (ep_mk c0 m) p q = _
      unfold eF_12_create
      rw [ep_mspan, ep_sb, hs, if_pos ep_bf]
  | true =>
    obtain ⟨b, n, n0, -, bn, rfl, rfl⟩ := ep_spb_of hs
    cases hf : ep_fr (c.1 10) b n with
    | false =>
      refine ep_Cp_id hRm (-4) (fun m0 => ?_) (fun c0 => ?_)
      · show eF_10_create (ep_mk c m0) _ _ = _
        unfold eF_10_create
        rw [ep_cspan, ep_sb, hs, if_neg ep_bt, ep_cover _ _ bn, ep_sb, hf, if_neg (by decide)]
      · show eF_12_create (ep_mk c0 m) _ _ = _
        unfold eF_12_create
        rw [ep_mspan, ep_sb, hs, if_neg ep_bt, ep_mover hR n0 bn, ep_sb, hf, if_neg (by decide)]
    | true =>
      by_cases hl : ep_lf (m.1 155) 0 6 = -1 ∨ ep_lf (m.1 164) 0 12 = -1
      · refine ep_Cp_id hRm (-5) (fun m0 => ?_) (fun c0 => ?_)
        · show eF_10_create (ep_mk c m0) _ _ = _
          unfold eF_10_create
          rw [ep_cspan, ep_sb, hs, if_neg ep_bt, ep_cover _ _ bn, ep_sb, hf, if_pos (by decide), ep_cfreeE hR, ep_sb, ep_cfreeR hR, ep_sb, ep_J]
          by_cases y : ep_lf (m.1 155) 0 6 = -1
          · rw [if_pos y]
          · rw [if_neg y, if_pos (hl.resolve_left y)]
        · show eF_12_create (ep_mk c0 m) _ _ = _
          unfold eF_12_create
          rw [ep_mspan, ep_sb, hs, if_neg ep_bt, ep_mover hR n0 bn, ep_sb, hf, if_pos (by decide), ep_mfree _ _ _ (by decide) (by decide), ep_sb, ep_J]
          by_cases y : ep_lf (m.1 155) 0 6 = -1
          · rw [if_pos y]
          · rw [if_neg y, ep_mfree _ _ _ (by decide) (by decide), ep_sb, if_pos (hl.resolve_left y)]
      · have l1 : ¬ ep_lf (m.1 155) 0 6 = -1 := fun z => hl (Or.inl z)
        have l2 : ¬ ep_lf (m.1 164) 0 12 = -1 := fun z => hl (Or.inr z)
        obtain ⟨e, -, he, he1, hE⟩ := (ep_lf_of (m.1 155) 6 0).resolve_left l1
        obtain ⟨k, -, hk, hk1, hS⟩ := (ep_lf_of (m.1 164) 12 0).resolve_left l2
        rw [Nat.zero_add] at he hk
        have i6 : eh_in (nI e) 6 = true := ep_in he (by decide)
        have x6 : eh_ix (nI e) = e := ep_ix (by omega)
        obtain ⟨F, F1, F2⟩ := ep_cbegin
        obtain ⟨m1, hm1⟩ : ∃ m1, m1 = ep_mI (ep_mI (ep_mI (ep_mI (ep_mI (ep_mI (ep_mwp (ep_mgv m k 1 b n (nI e) (-1)) b n) 156 e (nI k)) 155 e 1) 157 e (-1)) 158 e (m.1 158 e + 1)) 161 e (eh_nz 0)) 163 e 0 := ⟨_, rfl⟩
        obtain ⟨H, B, W, L, b1, b2, b3⟩ := ep_mbegin (m := m1) (e := e) (by omega)
        obtain ⟨G, hG⟩ : ∃ G : Nat → Int32, G = upd (upd (upd (upd (upd (upd (upd (c.2.1 4 e) 5 1) 6 (nI k)) 7 (-1)) 8 (c.2.1 4 e 8 + 1)) 9 0) 10 0) 11 0 := ⟨_, rfl⟩
        have g8 : c.2.1 4 e 8 = m.1 158 e := (hR.2.2.2.2.2.2.2.2.2.2.2.2.2.2.2.2.1 e he).2.2.2.1
        obtain ⟨c1, hc1⟩ : ∃ c1, c1 = ep_cG (ep_cwp (ep_cgv c k 1 b n (nI e) (-1)) b n) 4 e G := ⟨_, rfl⟩
        have R1 : ep_R N (ep_cse c1 e 0 (F (c1.2.1 6 e)) (c1.2.1 7 e)) (ep_mS m1 H B W L) := by
          rw [hc1, hm1]
          exact ep_R_new hR hk hS n0 bn hf he hE (by subst hG; exact ⟨rfl, rfl, rfl, by show c.2.1 4 e 8 + 1 = _; rw [g8], rfl, rfl, rfl⟩) (F1 _ _) b2 (by rw [hm1] at b3; exact b3)
        have hS0 : ep_SE (ep_cse c1 e 0 (F (c1.2.1 6 e)) (c1.2.1 7 e)) (ep_mS m1 H B W L) e ep_st0 := by
          refine ⟨?_, b2⟩
          rw [(ep_cse_5 _ _ _ _ _).1, (ep_cse_5 _ _ _ _ _).2.1, (ep_cse_5 _ _ _ _ _).2.2]
          exact F1 _ _
        obtain ⟨c2, m2, a1, a2, a3, a4, ⟨n5, f5, g5, a5⟩, ⟨H6, B6, W6, L6, a6⟩⟩ := ep_senums he [1, nI (256 * n)] R1 hS0 ep_st0_ok rfl (Nat.zero_le _) (by show N + 4 * 2 + 4 < 2 ^ 28; omega)
        refine ⟨nI e, c2, m2, fun m0 => ?_, fun c0 => ?_, a3, ?_⟩
        · show eF_10_create (ep_mk c m0) _ _ = _
          unfold eF_10_create
          rw [ep_cspan, ep_sb, hs, if_neg ep_bt, ep_cover _ _ bn, ep_sb, hf, if_pos (by decide), ep_cfreeE hR, ep_sb, ep_cfreeR hR, ep_sb, ep_J, if_neg l1, if_neg l2, he1, hk1, ep_cgive _ _ hk bn, ep_sb, if_neg (show ¬ (1 : Int32) = 2 by decide), if_pos i6]
          have hmk : eF_1_make (ep_mk (ep_cwp (ep_cgv c k 1 b n (nI e) (-1)) b n) m0) (eh_ep (nI e)) (nI k) (nI (256 * n)) = some (ep_mk c2 m0) := by
            unfold eF_1_make
            rw [ep_V, ep_iE0 _ _ _ _ he, ep_V, ep_iE0 _ _ _ _ he, ep_V, ep_iE0 _ _ _ _ he, ep_V, ep_rE0 _ _ he, ep_iE0 _ _ _ _ he, ep_V, ep_iE0 _ _ _ _ he, ep_V, ep_iE0 _ _ _ _ he, ep_V, ep_iE0 _ _ _ _ he]
            have hcc : ep_cH (ep_cH (ep_cH (ep_cH (ep_cH (ep_cH (ep_cH (ep_cwp (ep_cgv c k 1 b n (nI e) (-1)) b n) 4 e 5 1) 4 e 6 (nI k)) 4 e 7 (-1)) 4 e 8 ((ep_cH (ep_cH (ep_cH (ep_cwp (ep_cgv c k 1 b n (nI e) (-1)) b n) 4 e 5 1) 4 e 6 (nI k)) 4 e 7 (-1)).2.1 4 e 8 + 1)) 4 e 9 0) 4 e 10 0) 4 e 11 0 = c1 := by
              rw [ep_cHs, ep_cHs, ep_cHs, ep_upd_ne (by decide), ep_upd_ne (by decide), ep_upd_ne (by decide)]
              rw [show ∀ v, ep_cH (ep_cwp (ep_cgv c k 1 b n (nI e) (-1)) b n) 4 e 5 v = ep_cG (ep_cwp (ep_cgv c k 1 b n (nI e) (-1)) b n) 4 e (upd (c.2.1 4 e) 5 v) from fun _ => rfl, ep_cGH, ep_cGH, ep_cGH, ep_cGH, ep_cGH, ep_cGH, hc1, hG]
              rfl
            rw [hcc, F2, ep_sb, ep_t3_b, ep_t3_e _ _ he, (ep_re _ _ he).1, (ep_re _ _ he).2.1]
            have z := a1 m0
            rw [ep_nums2, ep_sb] at z
            cases hz : eF_9_feedNumber (ep_mk (ep_cse c1 e 0 (F (c1.2.1 6 e)) (c1.2.1 7 e)) m0) (eh_ep (nI e) + 1) 1 with
            | none => rw [hz] at z; exact absurd z (by simp)
            | some s1 =>
              rw [hz, ep_sb] at z
              rw [ep_sb, z, ep_sb]
          rw [hmk, ep_sb]
        · show eF_12_create (ep_mk c0 m) _ _ = _
          unfold eF_12_create
          rw [ep_mspan, ep_sb, hs, if_neg ep_bt, ep_mover hR n0 bn, ep_sb, hf, if_pos (by decide), ep_mfree _ _ _ (by decide) (by decide), ep_sb, ep_J, if_neg l1, ep_mfree _ _ _ (by decide) (by decide), ep_sb, if_neg l2, he1, ep_mmake _ _ hk hk1 bn, ep_sb, if_neg (show ¬ (1 : Int32) = 2 by decide), if_pos i6, x6, ep_V, ep_iM _ _ _ _ _ (by decide), if_pos i6, ep_V, ep_iM _ _ _ _ _ (by decide), if_pos i6, ep_V, ep_iM _ _ _ _ _ (by decide), if_pos i6, if_pos i6, ep_V, ep_rM _ _ 158 (by decide), ep_iM _ _ _ _ _ (by decide), if_pos i6, ep_V, ep_iM _ _ _ _ _ (by decide), if_pos i6, ep_V, ep_iM _ _ _ _ _ (by decide)]
          have hz : ep_mI (ep_mI (ep_mI (ep_mI (ep_mI (ep_mI (ep_mwp (ep_mgv m k 1 b n (nI e) (-1)) b n) 156 e (nI k)) 155 e 1) 157 e (-1)) 158 e ((ep_mI (ep_mI (ep_mI (ep_mwp (ep_mgv m k 1 b n (nI e) (-1)) b n) 156 e (nI k)) 155 e 1) 157 e (-1)).1 158 e + 1)) 161 e (eh_nz 0)) 163 e 0 = m1 := by rw [hm1]; rfl
          rw [hz, b1 c0, ep_sb]
          have z := a2 c0
          rw [ep_mnums2, ep_sb] at z
          cases hz : eF_12_addNumber (ep_mk c0 (ep_mS m1 H B W L)) (nI e) 1 with
          | none => rw [hz] at z; exact absurd z (by simp)
          | some s1 =>
            rw [hz, ep_sb] at z
            rw [ep_sb, z, ep_sb]
        · rw [a5, a6, hc1, hm1]
          exact ⟨rfl, rfl, fun _ _ => rfl, rfl⟩
