/-! an enclave is finished -/
theorem ep_nums2 (s : Option eh_F) (th : Nat) (a b : Int32) : ep_cnumE s th [a, b] = Option.bind (Option.bind s fun q => eF_9_feedNumber q th a) (fun q => eF_9_feedNumber q th b) := rfl
theorem ep_finalise_ {N : Nat} {c : ep_C} {m : ep_M} (hR : ep_R N c m) (hN : N + 300 < 2 ^ 28) (p q : Int32) : ep_Cp (N + 8) c m (fun s => eF_10_finalise s p q) (fun s => eF_12_finalise s p q) := by
  have hRm := ep_R_mono hR (show N ≤ N + 8 by omega)
  cases hb : ep_inb p 6 (m.1 155) with
  | false =>
    refine ep_Cp_id hRm (-1) (fun m0 => ?_) (fun c0 => ?_)
    · show eF_10_finalise (ep_mk c m0) p q = _
      unfold eF_10_finalise
      rw [ep_chasE hR, ep_sb, hb, ep_J, if_pos (by decide)]
    · show eF_12_finalise (ep_mk c0 m) p q = _
      unfold eF_12_finalise
      rw [ep_misE, ep_sb, hb, ep_J, if_pos (by decide)]
  | true =>
    obtain ⟨e, he, rfl, hE⟩ := ep_inb_t (by decide) hb
    have i6 : eh_in (nI e) 6 = true := ep_in he (by decide)
    have x6 : eh_ix (nI e) = e := ep_ix (by omega)
    have ge := (hR.2.2.2.2.2.2.2.2.2.2.2.2.2.2.2.2.1 e he).1
    by_cases hq : ¬ (q = 0 ∨ q = 1)
    · have p0 : ¬ q = 0 := fun z => hq (Or.inl z)
      have p1 : ¬ q = 1 := fun z => hq (Or.inr z)
      have hlt : q < 0 ∨ 1 < q := by
        by_cases y : q < 0
        · exact Or.inl y
        · by_cases y2 : 1 < q
          · exact Or.inr y2
          · obtain ⟨k, hk, e⟩ := ep_le_of (n := 1) (by decide) y y2
            have : k = 0 ∨ k = 1 := by omega
            rcases this with rfl | rfl
            · exact absurd e p0
            · exact absurd e p1
      refine ep_Cp_id hRm (-1) (fun m0 => ?_) (fun c0 => ?_)
      · show eF_10_finalise (ep_mk c m0) (nI e) q = _
        unfold eF_10_finalise
        rw [ep_chasE hR, ep_sb, hb, ep_J, if_neg (by decide)]
        by_cases y : q < 0
        · rw [if_pos y]
        · rw [if_neg y, if_pos (hlt.resolve_left y)]
      · show eF_12_finalise (ep_mk c0 m) (nI e) q = _
        unfold eF_12_finalise
        rw [ep_misE, ep_sb, hb, ep_J, if_neg (by decide), ep_J, if_neg p0, if_neg p1]
    have hq : q = 0 ∨ q = 1 := Decidable.not_not.mp hq
    have q0 : ¬ q < 0 := by rcases hq with rfl | rfl <;> decide
    have q1 : ¬ 1 < q := by rcases hq with rfl | rfl <;> decide
    have mq : ∀ {α : Type} (A B : α), (if q = 0 then A else (if q = 1 then A else B)) = A := by
      intro α A B
      rcases hq with rfl | rfl
      · rfl
      · rfl
    by_cases hl : m.1 155 e = 1
    · obtain ⟨st, s1, s2, s3, s4, s5⟩ := hR.2.2.2.2.2.2.2.2.2.2.2.2.2.2.2.2.2.2.2.2.2.2.1 e he hl
      obtain ⟨c1, m1, a1, a2, a3, a4, ⟨n5, f5, g5, a5⟩, ⟨H6, B6, W6, L6, a6⟩⟩ := ep_senums he [4, q] hR ⟨s4, s5⟩ s1 s2 s3 (by show N + 4 * 2 + 4 < 2 ^ 28; omega)
      have hk1 := ep_puts_ok (ep_nums [4, q]) s1 (by rw [ep_nums_len]; show st.2.2 + 4 * 2 < 2 ^ 28; omega)
      have hl1 : (ep_puts st (ep_nums [4, q])).2.2 = st.2.2 + 8 := by rw [ep_puts_len, ep_nums_len]; rfl
      obtain ⟨h', w', ce⟩ := ep_cend a4.1 hk1
      obtain ⟨H, B, W, L, me, mO⟩ := ep_mfinish (e := e) (by omega) a4.2 hk1 (by omega) 159 192 (32 * e) (by decide) (by decide) (by decide) (by decide) (by omega) (by decide)
      generalize ep_fin (ep_puts st (ep_nums [4, q])) = T at ce me
      -- the class's and the reference's last states
      obtain ⟨cF, hcF⟩ : ∃ cF, cF = ep_cH (ep_cH (ep_cG (ep_cG (ep_cse c1 e (c1.2.1 5 e 3) h' w') 9 e (ep_w8 (c1.2.1 9 e) T 8)) 10 e (fun j => if j < 8 then 0 else c1.2.1 10 e j)) 4 e 7 q) 4 e 5 2 := ⟨_, rfl⟩
      obtain ⟨mF, hmF⟩ : ∃ mF, mF = ep_mI (ep_mI (ep_mL (ep_mL (ep_mS m1 H B W L) 159 (ep_wr (m1.1 159) (32 * e) T 32)) 160 (ep_in_ (m1.1 160) (32 * e) 32 fun _ => eh_nb 0)) 157 e q) 155 e 2 := ⟨_, rfl⟩
      have c1f : ∀ i, i ≠ 5 ∧ i ≠ 6 ∧ i ≠ 7 → c1.2.1 i = c.2.1 i := fun i hi => by rw [a5]; exact ep_cse_f c e n5 f5 g5 i hi
      have c11 : c1.1 = c.1 := by rw [a5]; rfl
      have c12 : c1.2.2 = c.2.2 := by rw [a5]; rfl
      have m11 : ∀ k, k ≠ 188 → k ≠ 189 → k ≠ 191 → m1.1 k = m.1 k := fun k x y z => by rw [a6]; exact ep_mSn m H6 B6 W6 L6 k x y z
      have RF : ep_R (N + 8) cF mF := by
        have ff : ∀ i, i ≠ 4 → i ≠ 5 → i ≠ 6 → i ≠ 7 → i ≠ 9 → i ≠ 10 → cF.2.1 i = c1.2.1 i := by
          intro i x4 x5 x6' x7 x9 x10
          funext e'
          rw [hcF, ep_cHi _ _ _ _ _ _ _ x4, ep_cHi _ _ _ _ _ _ _ x4, ep_cGi _ _ _ _ _ _ x10, ep_cGi _ _ _ _ _ _ x9, ep_cse_f _ _ _ _ _ _ ⟨x5, x6', x7⟩]
        have f4 : ∀ e', cF.2.1 4 e' = if e' = e then upd (upd (c1.2.1 4 e) 7 q) 5 2 else c1.2.1 4 e' := by
          intro e'
          rw [hcF]
          by_cases y : e' = e
          · subst y
            rw [if_pos rfl, ep_cHs, ep_cHs, ep_cGi _ _ _ _ _ _ (by decide), ep_cGi _ _ _ _ _ _ (by decide), ep_cse_f _ _ _ _ _ _ ⟨by decide, by decide, by decide⟩]
          · rw [if_neg y, ep_cHh _ _ _ _ _ _ y, ep_cHh _ _ _ _ _ _ y, ep_cGi _ _ _ _ _ _ (by decide), ep_cGi _ _ _ _ _ _ (by decide), ep_cse_f _ _ _ _ _ _ ⟨by decide, by decide, by decide⟩]
        have f9 : ∀ e', cF.2.1 9 e' = if e' = e then ep_w8 (c1.2.1 9 e) T 8 else c1.2.1 9 e' := by
          intro e'
          rw [hcF, ep_cHi _ _ _ _ _ _ _ (by decide), ep_cHi _ _ _ _ _ _ _ (by decide), ep_cGi _ _ _ _ _ _ (by decide), ep_cGe, ep_cse_f _ _ _ _ _ _ ⟨by decide, by decide, by decide⟩]
        have f10 : ∀ e', cF.2.1 10 e' = if e' = e then (fun j => if j < 8 then 0 else c1.2.1 10 e j) else c1.2.1 10 e' := by
          intro e'
          rw [hcF, ep_cHi _ _ _ _ _ _ _ (by decide), ep_cHi _ _ _ _ _ _ _ (by decide), ep_cGe, ep_cGi _ _ _ _ _ _ (by decide), ep_cse_f _ _ _ _ _ _ ⟨by decide, by decide, by decide⟩]
        have f567 : ∀ i e', (i = 5 ∨ i = 6 ∨ i = 7) → e' ≠ e → cF.2.1 i e' = c1.2.1 i e' := by
          intro i e' hi y
          rw [hcF, ep_cHi _ _ _ _ _ _ _ (by omega), ep_cHi _ _ _ _ _ _ _ (by omega), ep_cGi _ _ _ _ _ _ (by omega), ep_cGi _ _ _ _ _ _ (by omega), ep_cse_o _ _ _ _ _ _ _ (Or.inr y)]
        have cF1 : cF.1 = c1.1 := by rw [hcF]; rfl
        have g155 : mF.1 155 = upd (m1.1 155) e 2 := by rw [hmF]; rfl
        have g157 : mF.1 157 = upd (m1.1 157) e q := by rw [hmF]; rfl
        have g159 : mF.1 159 = ep_wr (m1.1 159) (32 * e) T 32 := by rw [hmF]; rfl
        have g160 : mF.1 160 = ep_in_ (m1.1 160) (32 * e) 32 fun _ => eh_nb 0 := by rw [hmF]; rfl
        have go : ∀ k, k ≠ 155 → k ≠ 157 → k ≠ 159 → k ≠ 160 → k ≠ 188 → k ≠ 189 → k ≠ 191 → mF.1 k = m1.1 k := by
          intro k k1 k2 k3 k4 k5 k6 k7
          rw [hmF, ep_mIn _ _ _ _ _ k1, ep_mIn _ _ _ _ _ k2, ep_mLn _ _ _ _ k4, ep_mLn _ _ _ _ k3, ep_mSn _ _ _ _ _ _ k5 k6 k7]
        have hE1 : m1.1 155 e = 1 := by rw [m11 155 (by decide) (by decide) (by decide)]; exact hl
        have R2 := ep_R_E (c := c1) (m := m1) a3 he (by rw [hE1]; decide) (v := 2) (Or.inl rfl) (fun z => absurd z (by decide))
        -- R2 speaks of cH c1 4 e 5 2 and mI m1 155 e 2
        have hlen : N + 4 * [4, q].length = N + 8 := rfl
        rw [hlen] at R2
        have k4 : ∀ e', (ep_cH c1 4 e 5 2).2.1 4 e' = if e' = e then upd (c1.2.1 4 e) 5 2 else c1.2.1 4 e' := fun e' => ep_cHe _ _ _ _ _ _
        refine ⟨?_, ?_, ?_, ?_, ?_, ?_, ?_, ?_, ?_, ?_, ?_, ?_, ?_, ?_, ?_, ?_, ?_, ?_, ?_, ?_, ?_, ?_, ?_, ?_, ?_, ?_, ?_, ?_, ?_, ?_, ?_, ?_, ?_, ?_⟩
        all_goals sorry
      sorry
    · refine ep_Cp_id hRm (-2) (fun m0 => ?_) (fun c0 => ?_)
      · show eF_10_finalise (ep_mk c m0) (nI e) q = _
        unfold eF_10_finalise
        rw [ep_chasE hR, ep_sb, hb, ep_J, if_neg (by decide), if_neg q0, if_neg q1, if_pos i6, ep_rE0 _ _ he, ge, if_neg hl]
      · show eF_12_finalise (ep_mk c0 m) (nI e) q = _
        unfold eF_12_finalise
        rw [ep_misE, ep_sb, hb, ep_J, if_neg (by decide), ep_J, mq, if_pos i6, x6, ep_rM _ _ 155 (by decide), if_neg hl]
