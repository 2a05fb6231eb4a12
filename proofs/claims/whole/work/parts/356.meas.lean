/-! an enclave's own stream -/
def ep_cse (c : ep_C) (e : Nat) (n : Int32) (f g : Nat → Int32) : ep_C := ep_cG (ep_cG (ep_cH c 5 e 3 n) 6 e f) 7 e g
theorem ep_t3_e (c : ep_C) (m0 : ep_M) {e : Nat} (he : e < 6) (n : Int32) (f g : Nat → Int32) : ep_t3 (ep_mk c m0) (eh_ep (nI e) + 1) n f g = ep_mk (ep_cse c e n f g) m0 := by
  unfold ep_t3 ep_cse
  rw [ep_iE _ _ 1 _ _ he (by decide), show eh_ep (nI e) + 1 + 1 = eh_ep (nI e) + 2 from rfl, ep_wE _ _ 2 _ he (by decide), show eh_ep (nI e) + 1 + 2 = eh_ep (nI e) + 3 from rfl, ep_wE _ _ 3 _ he (by decide)]
theorem ep_re (c : ep_C) (m0 : ep_M) {e : Nat} (he : e < 6) : (ep_mk c m0).1 (eh_ep (nI e) + 1 + 1) = c.2.1 6 e ∧ (ep_mk c m0).1 (eh_ep (nI e) + 1 + 2) = c.2.1 7 e ∧ (ep_mk c m0).1 (eh_ep (nI e) + 1) 3 = c.2.1 5 e 3 :=
  ⟨ep_rE c m0 2 he (by decide), ep_rE c m0 3 he (by decide), by rw [ep_rE c m0 1 he (by decide)]⟩
/-- the stream of e, in both -/
def ep_SE (c : ep_C) (m : ep_M) (e : Nat) (st : ep_St) : Prop := ep_Rc (c.2.1 6 e) (c.2.1 7 e) (c.2.1 5 e 3) st ∧ ep_Rm e (m.1 188) (m.1 189) m.2 st
theorem ep_cse_5 (c : ep_C) (e : Nat) (n : Int32) (f g : Nat → Int32) : (ep_cse c e n f g).2.1 5 e 3 = n ∧ (ep_cse c e n f g).2.1 6 e = f ∧ (ep_cse c e n f g).2.1 7 e = g := by
  unfold ep_cse
  refine ⟨?_, ?_, ?_⟩
  · rw [ep_cGi _ _ _ _ _ _ (by decide), ep_cGi _ _ _ _ _ _ (by decide), ep_cHs, ep_upd_eq]
  · rw [ep_cGi _ _ _ _ _ _ (by decide), ep_cGs]
  · rw [ep_cGs]
theorem ep_cse_o (c : ep_C) (e : Nat) (n : Int32) (f g : Nat → Int32) (i e' : Nat) (h : (i ≠ 5 ∧ i ≠ 6 ∧ i ≠ 7) ∨ e' ≠ e) : (ep_cse c e n f g).2.1 i e' = c.2.1 i e' := by
  unfold ep_cse
  rcases h with h | h
  · rw [ep_cGi _ _ _ _ _ _ h.2.2, ep_cGi _ _ _ _ _ _ h.2.1, ep_cHi _ _ _ _ _ _ _ h.1]
  · by_cases h7 : i = 7
    · subst h7; rw [ep_cGh _ _ _ _ _ h, ep_cGi _ _ _ _ _ _ (by decide), ep_cHi _ _ _ _ _ _ _ (by decide)]
    · rw [ep_cGi _ _ _ _ _ _ h7]
      by_cases h6 : i = 6
      · subst h6; rw [ep_cGh _ _ _ _ _ h, ep_cHi _ _ _ _ _ _ _ (by decide)]
      · rw [ep_cGi _ _ _ _ _ _ h6]
        by_cases h5 : i = 5
        · subst h5; rw [ep_cHh _ _ _ _ _ _ h]
        · rw [ep_cHi _ _ _ _ _ _ _ h5]
theorem ep_cse_f (c : ep_C) (e : Nat) (n : Int32) (f g : Nat → Int32) (i : Nat) (h : i ≠ 5 ∧ i ≠ 6 ∧ i ≠ 7) : (ep_cse c e n f g).2.1 i = c.2.1 i := funext fun e' => ep_cse_o c e n f g i e' (Or.inl h)
theorem ep_R_cse {N N' : Nat} {c : ep_C} {m : ep_M} (hR : ep_R N c m) {e : Nat} (he : e < 6) {n : Int32} {f g H B W : Nat → Int32} {L : Nat → Int64} (hN : N ≤ N') {st : ep_St} (hok : ep_ok st) (hal : st.2.2 % 4 = 0) (hl : st.2.2 ≤ N') (hc : ep_Rc f g n st) (hm : ep_Rm e H B L st) (hO : ep_Oth e m H B L) : ep_R N' (ep_cse c e n f g) (ep_mS m H B W L) := by
  have hR' := ep_R_mono hR hN
  have e0 := ep_cse_f c e n f g 0 ⟨by decide, by decide, by decide⟩
  have e1 := ep_cse_f c e n f g 1 ⟨by decide, by decide, by decide⟩
  have e2 := ep_cse_f c e n f g 2 ⟨by decide, by decide, by decide⟩
  have e3 := ep_cse_f c e n f g 3 ⟨by decide, by decide, by decide⟩
  have e4 := ep_cse_f c e n f g 4 ⟨by decide, by decide, by decide⟩
  have e9 := ep_cse_f c e n f g 9 ⟨by decide, by decide, by decide⟩
  have e10 := ep_cse_f c e n f g 10 ⟨by decide, by decide, by decide⟩
  have e11 := ep_cse_f c e n f g 11 ⟨by decide, by decide, by decide⟩
  have e12 := ep_cse_f c e n f g 12 ⟨by decide, by decide, by decide⟩
  have hst : ep_Gs N' ((ep_cse c e n f g).2.1 5) ((ep_cse c e n f g).2.1 6) ((ep_cse c e n f g).2.1 7) (m.1 155) H B L := by
    intro e' he' hE'
    by_cases y : e' = e
    · subst y
      refine ⟨st, hok, hal, hl, ?_, hm⟩
      rw [(ep_cse_5 c e' n f g).1, (ep_cse_5 c e' n f g).2.1, (ep_cse_5 c e' n f g).2.2]; exact hc
    · obtain ⟨st', a, b, d, x, z⟩ := (hR').2.2.2.2.2.2.2.2.2.2.2.2.2.2.2.2.2.2.2.2.2.2.1 e' he' hE'
      refine ⟨st', a, b, d, ?_, hO e' st' y a z⟩
      rw [ep_cse_o _ _ _ _ _ _ _ (Or.inr y), ep_cse_o _ _ _ _ _ _ _ (Or.inr y), ep_cse_o _ _ _ _ _ _ _ (Or.inr y)]; exact x
  unfold ep_R
  rw [e0, e1, e2, e3, e4, e9, e10, e11, e12]
  exact ⟨(hR').1, (hR').2.1, (hR').2.2.1, (hR').2.2.2.1, (hR').2.2.2.2.1, (hR').2.2.2.2.2.1, (hR').2.2.2.2.2.2.1, (hR').2.2.2.2.2.2.2.1, (hR').2.2.2.2.2.2.2.2.1, (hR').2.2.2.2.2.2.2.2.2.1, (hR').2.2.2.2.2.2.2.2.2.2.1, (hR').2.2.2.2.2.2.2.2.2.2.2.1, (hR').2.2.2.2.2.2.2.2.2.2.2.2.1, (hR').2.2.2.2.2.2.2.2.2.2.2.2.2.1, (hR').2.2.2.2.2.2.2.2.2.2.2.2.2.2.1, (hR').2.2.2.2.2.2.2.2.2.2.2.2.2.2.2.1, (hR').2.2.2.2.2.2.2.2.2.2.2.2.2.2.2.2.1, (hR').2.2.2.2.2.2.2.2.2.2.2.2.2.2.2.2.2.1, (hR').2.2.2.2.2.2.2.2.2.2.2.2.2.2.2.2.2.2.1, (hR').2.2.2.2.2.2.2.2.2.2.2.2.2.2.2.2.2.2.2.1, (hR').2.2.2.2.2.2.2.2.2.2.2.2.2.2.2.2.2.2.2.2.1, (hR').2.2.2.2.2.2.2.2.2.2.2.2.2.2.2.2.2.2.2.2.2.1, hst, (hR').2.2.2.2.2.2.2.2.2.2.2.2.2.2.2.2.2.2.2.2.2.2.2.1, (hR').2.2.2.2.2.2.2.2.2.2.2.2.2.2.2.2.2.2.2.2.2.2.2.2.1, (hR').2.2.2.2.2.2.2.2.2.2.2.2.2.2.2.2.2.2.2.2.2.2.2.2.2.1, (hR').2.2.2.2.2.2.2.2.2.2.2.2.2.2.2.2.2.2.2.2.2.2.2.2.2.2.1, (hR').2.2.2.2.2.2.2.2.2.2.2.2.2.2.2.2.2.2.2.2.2.2.2.2.2.2.2.1, (hR').2.2.2.2.2.2.2.2.2.2.2.2.2.2.2.2.2.2.2.2.2.2.2.2.2.2.2.2.1, (hR').2.2.2.2.2.2.2.2.2.2.2.2.2.2.2.2.2.2.2.2.2.2.2.2.2.2.2.2.2.1, (hR').2.2.2.2.2.2.2.2.2.2.2.2.2.2.2.2.2.2.2.2.2.2.2.2.2.2.2.2.2.2.1, (hR').2.2.2.2.2.2.2.2.2.2.2.2.2.2.2.2.2.2.2.2.2.2.2.2.2.2.2.2.2.2.2.1, (hR').2.2.2.2.2.2.2.2.2.2.2.2.2.2.2.2.2.2.2.2.2.2.2.2.2.2.2.2.2.2.2.2.1, (hR').2.2.2.2.2.2.2.2.2.2.2.2.2.2.2.2.2.2.2.2.2.2.2.2.2.2.2.2.2.2.2.2.2⟩
theorem ep_Fr_cse (c : ep_C) (m : ep_M) (e : Nat) (n : Int32) (f g H B W : Nat → Int32) (L : Nat → Int64) : ep_Fr c m (ep_cse c e n f g) (ep_mS m H B W L) := ⟨rfl, rfl, fun j _ => rfl, rfl⟩
/-- numbers fed to it -/
def ep_cnumE (s : Option eh_F) (th : Nat) : List Int32 → Option eh_F
  | [] => s
  | v :: l => ep_cnumE (Option.bind s fun q => eF_9_feedNumber q th v) th l
def ep_mnumE (s : Option eh_F) (e : Int32) : List Int32 → Option eh_F
  | [] => s
  | v :: l => ep_mnumE (Option.bind s fun q => eF_12_addNumber q e v) e l
theorem ep_senums {e : Nat} (he : e < 6) : ∀ (l : List Int32) {N : Nat} {c : ep_C} {m : ep_M} {st : ep_St}, ep_R N c m → ep_SE c m e st → ep_ok st → st.2.2 % 4 = 0 → st.2.2 ≤ N → N + 4 * l.length + 4 < 2 ^ 28 → ∃ c' m', (∀ m0, ep_cnumE (some (ep_mk c m0)) (eh_ep (nI e) + 1) l = some (ep_mk c' m0)) ∧ (∀ c0, ep_mnumE (some (ep_mk c0 m)) (nI e) l = some (ep_mk c0 m')) ∧ ep_R (N + 4 * l.length) c' m' ∧ ep_SE c' m' e (ep_puts st (ep_nums l)) ∧ (∃ n f g, c' = ep_cse c e n f g) ∧ (∃ H B W L, m' = ep_mS m H B W L)
  | [], N, c, m, st, hR, hS, _, _, _, _ => ⟨c, m, fun _ => rfl, fun _ => rfl, hR, hS, ⟨c.2.1 5 e 3, c.2.1 6 e, c.2.1 7 e, by
      unfold ep_cse ep_cH
      rw [ep_upd_id, ep_cGid, ep_cGid, ep_cGid]⟩, ⟨_, _, _, _, (ep_mSid m).symm⟩⟩
  | v :: l, N, c, m, st, hR, hS, hk, hal, hl, hn => by
    rw [List.length_cons] at hn
    obtain ⟨h', w', n', a, b⟩ := ep_cfeedNumber hS.1 hk hal (by omega) v
    obtain ⟨H, B, W, L, p, q, r⟩ := ep_maddNumber (e := e) (by omega) hS.2 hk (by omega) v
    have hk1 := ep_puts_ok ((List.range 4).map fun i => eh_shr v (nI (8 * i))) hk (by rw [ep_numlen]; omega)
    have hl1 := ep_puts_len ((List.range 4).map fun i => eh_shr v (nI (8 * i))) st
    rw [ep_numlen] at hl1
    have R1 := ep_R_cse (N' := N + 4) (W := W) hR he (by omega) hk1 (by omega) (by omega) a q r
    have S1 : ep_SE (ep_cse c e n' h' w') (ep_mS m H B W L) e (ep_puts st ((List.range 4).map fun i => eh_shr v (nI (8 * i)))) := by
      refine ⟨?_, q⟩
      rw [(ep_cse_5 c e n' h' w').1, (ep_cse_5 c e n' h' w').2.1, (ep_cse_5 c e n' h' w').2.2]; exact a
    obtain ⟨c2, m2, b1, b2, b3, b4, ⟨n2, f2, g2, b5⟩, ⟨H2, B2, W2, L2, b6⟩⟩ := ep_senums he l R1 S1 hk1 (by omega) (by omega) (by omega)
    refine ⟨c2, m2, fun m0 => ?_, fun c0 => ?_, ?_, ?_, ⟨n2, f2, g2, ?_⟩, ⟨H2, B2, W2, L2, by rw [b6, ep_mSS]⟩⟩
    · show ep_cnumE (Option.bind (some (ep_mk c m0)) fun q => eF_9_feedNumber q (eh_ep (nI e) + 1) v) _ l = _
      rw [ep_sb, b _ _ (ep_re c m0 he).1 (ep_re c m0 he).2.1 (ep_re c m0 he).2.2, ep_t3_e _ _ he]; exact b1 m0
    · show ep_mnumE (Option.bind (some (ep_mk c0 m)) fun q => eF_12_addNumber q (nI e) v) _ l = _
      rw [ep_sb, p c0]; exact b2 c0
    · rw [List.length_cons, show N + 4 * (l.length + 1) = N + 4 + 4 * l.length by omega]; exact b3
    · show ep_SE c2 m2 e (ep_puts st (_ ++ ep_nums l))
      rw [ep_puts_ap]; exact b4
    · rw [b5]
      refine Prod.ext rfl (Prod.ext ?_ rfl)
      funext i j
      simp only [ep_cse, ep_cH, ep_cG, ep_ug]
      by_cases h1 : i = 7
      · subst h1; by_cases h2 : j = e <;> simp [h2]
      · by_cases h3 : i = 6
        · subst h3; by_cases h2 : j = e <;> simp [h2]
        · by_cases h4 : i = 5
          · subst h4
            by_cases h2 : j = e
            · subst h2; simp [ep_upd_upd]
            · simp [h2]
          · simp [h1, h3, h4]
