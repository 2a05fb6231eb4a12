/-! feeding the class's streams -/
theorem ep_pend {st : ep_St} (hk : ep_ok st) (hal : st.2.2 % 4 = 0) : st.2.1.length % 4 = 0 ∧ st.2.1.length ≤ 60 := by
  have := hk.1
  omega
theorem ep_blk {w : Nat → Int32} {st : ep_St} (hR : ∀ k, k < 16 → 4 * k < st.2.1.length → w k = ep_be st.2.1 (4 * k)) {l : List Int32} (hal : st.2.1.length % 4 = 0) {v : Int32} (hv : ep_be l 0 = v) (hl : l.length = 4) : ∀ k, k < 16 → 4 * k < (st.2.1 ++ l).length → upd w (st.2.1.length / 4) v k = ep_be (st.2.1 ++ l) (4 * k) := by
  intro k hk hk2
  rw [List.length_append, hl] at hk2
  by_cases h : k = st.2.1.length / 4
  · subst h
    rw [ep_upd_eq, show 4 * (st.2.1.length / 4) = st.2.1.length + 0 by omega, ep_be_right, hv]
  · rw [ep_upd_ne h, ep_be_left _ _ _ (by omega)]
    exact hR k hk (by omega)
theorem ep_cfeedWord {h w : Nat → Int32} {n : Int32} {st : ep_St} (hR : ep_Rc h w n st) (hk : ep_ok st) (hal : st.2.2 % 4 = 0) (hn : st.2.2 + 4 < 2 ^ 28) (v : Int32) : ∃ h' w' n', ep_Rc h' w' n' (ep_puts st (ep_w4 v)) ∧ ∀ s th, s.1 (th + 1) = h → s.1 (th + 2) = w → s.1 th 3 = n → eF_9_feedWord s th v = some (ep_t3 s th n' h' w') := by
  obtain ⟨h1, h2, h3⟩ := hR
  have hp := ep_pend hk hal
  have hl4 : ((ep_w4 v).map (· &&& 255)).length = 4 := rfl
  have hidx : eh_shr (nI st.2.2) 2 &&& 15 = nI (st.2.1.length / 4) := by
    rw [show (2 : Int32) = nI 2 from rfl, ep_shrn (by omega) (by decide), ep_and15 (by omega), hk.1]
    congr 1
    omega
  have hin : eh_in (nI (st.2.1.length / 4)) 64 = true := ep_in (by omega) (by decide)
  have hix : eh_ix (nI (st.2.1.length / 4)) = st.2.1.length / 4 := ep_ix (by omega)
  have hw := ep_blk h2 hp.1 (ep_be_w4 v) hl4
  have hnx : nI st.2.2 + 4 = nI (st.2.2 + 4) := ep_addn _ 4
  by_cases hlt : st.2.1.length + 4 < 64
  · refine ⟨h, upd w (st.2.1.length / 4) v, nI (st.2.2 + 4), ?_, ?_⟩
    · rw [ep_puts_lt _ _ hlt]
      exact ⟨h1, hw, rfl⟩
    · intro s th g1 g2 g3
      unfold eF_9_feedWord
      have hc : ¬ (nI (st.2.2 + 4) &&& 63) = 0 := by
        rw [ep_and63 (by omega), show (0 : Int32) = nI 0 from rfl, nI_eq (by omega) (by decide)]
        have := hk.1
        omega
      rw [g3, h3, hidx]
      simp only [hin, if_true, hix, ep_V, ep_J, ep_tIn _ _ _ _ _ (show th ≠ th + 2 by omega), g3, h3, hnx, ep_tI, ep_upd_eq, hc, if_false]
      rw [ep_t3_w s th _ _ _ h w g2 g1]
  · have heq : st.2.1.length + 4 = 64 := by omega
    obtain ⟨h', w', c1, c2⟩ := ep_ccmp (W := upd w (st.2.1.length / 4) v) h1 (blk := st.2.1 ++ (ep_w4 v).map (· &&& 255)) (fun k hk => hw k hk (by rw [List.length_append, hl4]; omega))
    refine ⟨h', w', nI (st.2.2 + 4), ?_, ?_⟩
    · rw [ep_puts_eq _ _ heq (by show 0 < 4; decide)]
      exact ⟨c1, fun k _ hk => absurd hk (by simp), rfl⟩
    · intro s th g1 g2 g3
      unfold eF_9_feedWord
      have hc : (nI (st.2.2 + 4) &&& 63) = 0 := by
        rw [ep_and63 (by omega), show (0 : Int32) = nI 0 from rfl, nI_eq (by omega) (by decide)]
        have := hk.1
        omega
      rw [g3, h3, hidx]
      simp only [hin, if_true, hix, ep_V, ep_J, ep_tIn _ _ _ _ _ (show th ≠ th + 2 by omega), g3, h3, hnx, ep_tI, ep_upd_eq, hc]
      rw [ep_t3_w s th _ _ _ h w g2 g1, c2 _ th (ep_t3_1 _ _ _ _ _) (ep_t3_2 _ _ _ _ _), ep_sb, ep_t3_c]
theorem ep_cfeedNumber {h w : Nat → Int32} {n : Int32} {st : ep_St} (hR : ep_Rc h w n st) (hk : ep_ok st) (hal : st.2.2 % 4 = 0) (hn : st.2.2 + 4 < 2 ^ 28) (v : Int32) : ∃ h' w' n', ep_Rc h' w' n' (ep_puts st ((List.range 4).map fun i => eh_shr v (nI (8 * i)))) ∧ ∀ s th, s.1 (th + 1) = h → s.1 (th + 2) = w → s.1 th 3 = n → eF_9_feedNumber s th v = some (ep_t3 s th n' h' w') := by
  obtain ⟨h', w', n', a, b⟩ := ep_cfeedWord hR hk hal hn (ep_flip v)
  refine ⟨h', w', n', ?_, fun s th g1 g2 g3 => ?_⟩
  · rw [ep_puts_cong st (ep_w4_flip v)]; exact a
  · rw [← b s th g1 g2 g3]; rfl
/-- be of a row that is one byte longer -/
theorem ep_be_snoc (p : List Int32) (b : Int32) : ep_be (p ++ [b]) (4 * (p.length / 4)) = ep_be p (4 * (p.length / 4)) ||| eh_shl b (nI (24 - 8 * (p.length % 4))) := by
  have hr : p.length % 4 = 0 ∨ p.length % 4 = 1 ∨ p.length % 4 = 2 ∨ p.length % 4 = 3 := by omega
  have z0 : ∀ x : Int32, eh_shl x (nI 0) = x := by
    intro x; apply ep_ext; intro i hi; rw [ep_bit_shl _ (by decide) _ hi]; simp
  have e24 : eh_shl (0 : Int32) 24 = 0 := by decide
  have e16 : eh_shl (0 : Int32) 16 = 0 := by decide
  have e8 : eh_shl (0 : Int32) 8 = 0 := by decide
  unfold ep_be
  rcases hr with h | h | h | h
  · rw [ep_getD_r _ _ _ (by omega), ep_getD_r _ _ _ (by omega), ep_getD_r _ _ _ (by omega), ep_getD_r _ _ _ (by omega), ep_getD_o p _ (by omega), ep_getD_o p _ (by omega), ep_getD_o p _ (by omega), ep_getD_o p _ (by omega), h]
    rw [show 4 * (p.length / 4) - p.length = 0 by omega, show 4 * (p.length / 4) + 1 - p.length = 1 by omega, show 4 * (p.length / 4) + 2 - p.length = 2 by omega, show 4 * (p.length / 4) + 3 - p.length = 3 by omega]
    simp [e24, e16, e8]; rfl
  · rw [ep_getD_l _ _ _ (by omega), ep_getD_r _ _ _ (by omega), ep_getD_r _ _ _ (by omega), ep_getD_r _ _ _ (by omega), ep_getD_o p (_ + 1) (by omega), ep_getD_o p (_ + 2) (by omega), ep_getD_o p (_ + 3) (by omega), h]
    rw [show 4 * (p.length / 4) + 1 - p.length = 0 by omega, show 4 * (p.length / 4) + 2 - p.length = 1 by omega, show 4 * (p.length / 4) + 3 - p.length = 2 by omega]
    simp [e24, e16, e8]; rfl
  · rw [ep_getD_l _ _ _ (by omega), ep_getD_l _ _ _ (by omega), ep_getD_r _ _ _ (by omega), ep_getD_r _ _ _ (by omega), ep_getD_o p (_ + 2) (by omega), ep_getD_o p (_ + 3) (by omega), h]
    rw [show 4 * (p.length / 4) + 2 - p.length = 0 by omega, show 4 * (p.length / 4) + 3 - p.length = 1 by omega]
    simp [e24, e16, e8]; rfl
  · rw [ep_getD_l _ _ _ (by omega), ep_getD_l _ _ _ (by omega), ep_getD_l _ _ _ (by omega), ep_getD_r _ _ _ (by omega), ep_getD_o p (_ + 3) (by omega), h]
    rw [show 4 * (p.length / 4) + 3 - p.length = 0 by omega]
    simp [e24, e16, e8, z0]
theorem ep_be_0 (p : List Int32) (k : Nat) (h : p.length ≤ k) : ep_be p k = 0 := by
  unfold ep_be
  rw [ep_getD_o p _ (by omega), ep_getD_o p _ (by omega), ep_getD_o p _ (by omega), ep_getD_o p _ (by omega)]
  decide
/-- the word that a byte comes to, before and after -/
theorem ep_cword {w : Nat → Int32} {st : ep_St} (hR : ∀ k, k < 16 → 4 * k < st.2.1.length → w k = ep_be st.2.1 (4 * k)) (hk : ep_ok st) (b : Int32) :
    (if st.2.1.length % 4 = 0 then 0 else w (st.2.1.length / 4)) = ep_be st.2.1 (4 * (st.2.1.length / 4)) ∧ ∀ k, k < 16 → 4 * k < (st.2.1 ++ [b]).length → upd w (st.2.1.length / 4) (ep_be st.2.1 (4 * (st.2.1.length / 4)) ||| eh_shl b (nI (24 - 8 * (st.2.1.length % 4)))) k = ep_be (st.2.1 ++ [b]) (4 * k) := by
  have hlen := hk.1
  refine ⟨?_, fun k hk1 hk2 => ?_⟩
  · by_cases h : st.2.1.length % 4 = 0
    · rw [if_pos h, ep_be_0 _ _ (by omega)]
    · rw [if_neg h]; exact hR _ (by omega) (by omega)
  · rw [List.length_append, List.length_singleton] at hk2
    by_cases h : k = st.2.1.length / 4
    · subst h; rw [ep_upd_eq, ep_be_snoc]
    · rw [ep_upd_ne h, ep_be_left _ _ _ (by omega)]
      exact hR k hk1 (by omega)
theorem ep_cfeedByte {h w : Nat → Int32} {n : Int32} {st : ep_St} (hR : ep_Rc h w n st) (hk : ep_ok st) (hn : st.2.2 + 1 < 2 ^ 28) (b : Int32) : ∃ h' w' n', ep_Rc h' w' n' (ep_put st b) ∧ ∀ s th, s.1 (th + 1) = h → s.1 (th + 2) = w → s.1 th 3 = n → eF_9_feedByte s th b = some (ep_t3 s th n' h' w') := by
  obtain ⟨h1, h2, h3⟩ := hR
  have hlen := hk.1
  have hx1 : nI st.2.2 &&& 63 = nI st.2.1.length := by rw [ep_and63 (by omega), hlen]
  have hx2 : eh_shr (nI st.2.1.length) 2 = nI (st.2.1.length / 4) := by
    rw [show (2 : Int32) = nI 2 from rfl, ep_shrn (by omega) (by decide)]
  have hx3 : nI st.2.1.length &&& 3 = nI (st.2.1.length % 4) := ep_and3 (by omega)
  have hin : eh_in (nI (st.2.1.length / 4)) 64 = true := ep_in (by omega) (by decide)
  have hix : eh_ix (nI (st.2.1.length / 4)) = st.2.1.length / 4 := ep_ix (by omega)
  have hsh : (24 : Int32) - 8 * nI (st.2.1.length % 4) = nI (24 - 8 * (st.2.1.length % 4)) := by
    rw [show (8 : Int32) * nI (st.2.1.length % 4) = nI (8 * (st.2.1.length % 4)) from ep_mul (b := 8) rfl rfl, show (24 : Int32) = nI 24 from rfl, pk_sub (by omega)]
  have hnx : nI st.2.2 + 1 = nI (st.2.2 + 1) := nI_1 _
  have h0 : (nI (st.2.1.length % 4) = 0) ↔ st.2.1.length % 4 = 0 := by
    rw [show (0 : Int32) = nI 0 from rfl, nI_eq (by omega) (by decide)]
  obtain ⟨hb, hw⟩ := ep_cword h2 hk (b &&& 255)
  have step : ∀ s th, s.1 (th + 1) = h → s.1 (th + 2) = w → s.1 th 3 = n → eF_9_feedByte s th b = (fun s6 : eh_F => if (nI (st.2.2 + 1) &&& 63) = 0 then (Option.bind (eF_9_compress s6 th) (fun q10 => some q10)) else some s6) (ep_t3 s th (nI (st.2.2 + 1)) h (upd w (st.2.1.length / 4) (ep_be st.2.1 (4 * (st.2.1.length / 4)) ||| eh_shl (b &&& 255) (nI (24 - 8 * (st.2.1.length % 4)))))) := by
    intro s th g1 g2 g3
    unfold eF_9_feedByte
    simp only [ep_V, ep_J, g3, h3, hx1, hx2, hx3, h0, hin, if_true, hix, g2]
    have : (if st.2.1.length % 4 = 0 then (0 : Int32) else w (st.2.1.length / 4)) = ep_be st.2.1 (4 * (st.2.1.length / 4)) := hb
    by_cases hz : st.2.1.length % 4 = 0
    · rw [if_pos hz] at this
      simp only [hz, if_true, this, ep_tIn _ _ _ _ _ (show th ≠ th + 2 by omega), g3, h3, hnx, ep_tI, ep_upd_eq]
      rw [hz] at hsh
      rw [hsh, ep_t3_w s th _ _ _ h w g2 g1]
    · rw [if_neg hz] at this
      simp only [hz, if_false, this, ep_tIn _ _ _ _ _ (show th ≠ th + 2 by omega), g3, h3, hnx, ep_tI, ep_upd_eq, hsh]
      rw [ep_t3_w s th _ _ _ h w g2 g1]
  by_cases h63 : st.2.1.length = 63
  · obtain ⟨h', w', c1, c2⟩ := ep_ccmp h1 (blk := st.2.1 ++ [b &&& 255]) (fun k hk => hw k hk (by rw [List.length_append, List.length_singleton]; omega))
    refine ⟨h', w', nI (st.2.2 + 1), ?_, ?_⟩
    · unfold ep_put; rw [if_pos h63]
      exact ⟨c1, fun k _ hk => absurd hk (by simp), rfl⟩
    · intro s th g1 g2 g3
      have hc : (nI (st.2.2 + 1) &&& 63) = 0 := by
        rw [ep_and63 (by omega), show (0 : Int32) = nI 0 from rfl, nI_eq (by omega) (by decide)]
        omega
      rw [step s th g1 g2 g3]
      simp only [hc, if_true]
      rw [c2 _ th (ep_t3_1 _ _ _ _ _) (ep_t3_2 _ _ _ _ _), ep_sb, ep_t3_c]
  · refine ⟨h, upd w (st.2.1.length / 4) (ep_be st.2.1 (4 * (st.2.1.length / 4)) ||| eh_shl (b &&& 255) (nI (24 - 8 * (st.2.1.length % 4)))), nI (st.2.2 + 1), ?_, ?_⟩
    · unfold ep_put; rw [if_neg h63]
      exact ⟨h1, hw, rfl⟩
    · intro s th g1 g2 g3
      have hc : ¬ (nI (st.2.2 + 1) &&& 63) = 0 := by
        rw [ep_and63 (by omega), show (0 : Int32) = nI 0 from rfl, nI_eq (by omega) (by decide)]
        omega
      rw [step s th g1 g2 g3]
      simp only [hc, if_false]
