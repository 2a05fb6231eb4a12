/-! the reference's stream -/
def ep_mS (m : ep_M) (H B W : Nat → Int32) (L : Nat → Int64) : ep_M := (ep_uf (ep_uf (ep_uf m.1 188 H) 189 B) 191 W, L)
def ep_Oth (e : Nat) (m : ep_M) (H B : Nat → Int32) (L : Nat → Int64) : Prop := ∀ e' st, e' ≠ e → ep_ok st → ep_Rm e' (m.1 188) (m.1 189) m.2 st → ep_Rm e' H B L st
theorem ep_mSS (m : ep_M) (H B W H' B' W' : Nat → Int32) (L L' : Nat → Int64) : ep_mS (ep_mS m H B W L) H' B' W' L' = ep_mS m H' B' W' L' := by
  refine Prod.ext ?_ rfl
  funext a
  simp only [ep_mS, ep_uf]
  by_cases h1 : a = 188 <;> by_cases h2 : a = 189 <;> by_cases h3 : a = 191 <;> simp [h1, h2, h3]
theorem ep_mSid (m : ep_M) : ep_mS m (m.1 188) (m.1 189) (m.1 191) m.2 = m := by
  refine Prod.ext ?_ rfl
  funext a
  simp only [ep_mS, ep_uf]
  by_cases h1 : a = 188 <;> by_cases h2 : a = 189 <;> by_cases h3 : a = 191 <;> simp [h1, h2, h3]
theorem ep_mS188 (m : ep_M) (H B W : Nat → Int32) (L : Nat → Int64) : (ep_mS m H B W L).1 188 = H := rfl
theorem ep_mS189 (m : ep_M) (H B W : Nat → Int32) (L : Nat → Int64) : (ep_mS m H B W L).1 189 = B := rfl
theorem ep_mS191 (m : ep_M) (H B W : Nat → Int32) (L : Nat → Int64) : (ep_mS m H B W L).1 191 = W := rfl
theorem ep_mS2 (m : ep_M) (H B W : Nat → Int32) (L : Nat → Int64) : (ep_mS m H B W L).2 = L := rfl
theorem ep_mSn (m : ep_M) (H B W : Nat → Int32) (L : Nat → Int64) (k : Nat) (h1 : k ≠ 188) (h2 : k ≠ 189) (h3 : k ≠ 191) : (ep_mS m H B W L).1 k = m.1 k := by
  simp only [ep_mS, ep_uf, h1, h2, h3, if_false]
theorem ep_be_bw {b : Nat → Int32} {p : List Int32} {o q : Nat} (h : ∀ j, j < 4 → b (o + j) &&& 255 = p.getD (q + j) 0) : ep_bw b o = ep_be p q := by
  have h0 := h 0 (by decide)
  have h1 := h 1 (by decide)
  have h2 := h 2 (by decide)
  have h3 := h 3 (by decide)
  simp only [Nat.add_zero] at h0
  unfold ep_bw ep_be
  rw [h0, h1, h2, h3]
theorem ep_h8_add8 (f : Nat → Int32) (o : Nat) (t : ep_T8) : ep_h8 (ep_add8 f o t) o = ep_plus (ep_h8 f o) t := by
  simp [ep_h8, ep_add8, ep_plus, upd]
theorem ep_h8_other {f : Nat → Int32} {o o' : Nat} {t : ep_T8} (h : o + 8 ≤ o' ∨ o' + 8 ≤ o) : ep_h8 (ep_add8 f o t) o' = ep_h8 f o' := by
  have key : ∀ j, j < 8 → ep_add8 f o t (o' + j) = f (o' + j) := by
    intro j hj
    unfold ep_add8
    rw [ep_upd_ne (by omega), ep_upd_ne (by omega), ep_upd_ne (by omega), ep_upd_ne (by omega), ep_upd_ne (by omega), ep_upd_ne (by omega), ep_upd_ne (by omega), ep_upd_ne (by omega)]
  unfold ep_h8
  rw [key 1 (by decide), key 2 (by decide), key 3 (by decide), key 4 (by decide), key 5 (by decide), key 6 (by decide), key 7 (by decide), show ep_add8 f o t o' = f o' from key 0 (by decide)]
theorem ep_nbnb (x : Int32) : eh_nb (eh_nb x) &&& 255 = x &&& 255 := by rw [ep_nb255, ep_nb255]
set_option maxHeartbeats 4000000 in
theorem ep_madd {m : ep_M} {e : Nat} {st : ep_St} (he : e < 8) (hR : ep_Rm e (m.1 188) (m.1 189) m.2 st) (hk : ep_ok st) (hn : st.2.2 + 1 < 2 ^ 28) (b : Int32) : ∃ H B W L, (∀ c, eF_12_add (ep_mk c m) (nI e) b = some (ep_mk c (ep_mS m H B W L))) ∧ ep_Rm e H B L (ep_put st b) ∧ ep_Oth e m H B L := by
  obtain ⟨h1, h2, h3⟩ := hR
  obtain ⟨k1, k2, k3⟩ := hk
  have q1 : eh_in (nI e) 8 = true := ep_in he (by decide)
  have q2 : eh_ix (nI e) = e := ep_ix (by omega)
  have q3 : (lN st.2.2 &&& 63).toInt32 = nI (st.2.2 % 64) := by rw [ep_land63 (by omega), lN_i]
  have q4 : (64 : Int32) * nI e = nI (64 * e) := ep_mul (b := 64) rfl rfl
  have q5 : eh_in (nI (64 * e + st.2.2 % 64)) 512 = true := ep_in (by omega) (by decide)
  have q6 : eh_ix (nI (64 * e + st.2.2 % 64)) = 64 * e + st.2.2 % 64 := ep_ix (by omega)
  have q7 : lN (st.2.2 + 1) &&& 63 = lN ((st.2.2 + 1) % 64) := ep_land63 (by omega)
  have q8 : (lg_cmp (lN ((st.2.2 + 1) % 64)) 0 = 0) ↔ st.2.1.length = 63 := by
    rw [lg_cmp_eq, show (0 : Int64) = lN 0 from rfl, lN_eq (by omega) (by decide)]
    omega
  have hB : ∀ e' (st' : ep_St), e' ≠ e → ep_ok st' → (∀ j, j < st'.2.1.length → m.1 189 (64 * e' + j) &&& 255 = st'.2.1.getD j 0) → ∀ j, j < st'.2.1.length → upd (m.1 189) (64 * e + st.2.2 % 64) (eh_nb (eh_nb b)) (64 * e' + j) &&& 255 = st'.2.1.getD j 0 := by
    intro e' st' hne hok h j hj
    have := hok.1
    rw [ep_upd_ne (by omega)]
    exact h j hj
  have hL : ∀ e', e' ≠ e → vp_updL m.2 e (lN (st.2.2 + 1)) e' = m.2 e' := fun e' hne => by simp [vp_updL, hne]
  have hnew : ∀ j, j < st.2.1.length + 1 → upd (m.1 189) (64 * e + st.2.2 % 64) (eh_nb (eh_nb b)) (64 * e + j) &&& 255 = (st.2.1 ++ [b &&& 255]).getD j 0 := by
    intro j hj
    by_cases hj2 : j < st.2.1.length
    · rw [ep_upd_ne (by omega), h2 j hj2]
      simp only [List.getD_eq_getElem?_getD]
      rw [List.getElem?_append_left hj2]
    · have : j = st.2.1.length := by omega
      subst this
      rw [k1, ep_upd_eq, ep_nbnb, ← k1]
      simp only [List.getD_eq_getElem?_getD]
      rw [List.getElem?_append_right (Nat.le_refl _)]
      simp
  by_cases h63 : st.2.1.length = 63
  · obtain ⟨W, hW⟩ : ∃ W, W = ep_exp 48 (ep_ld (upd (m.1 189) (64 * e + st.2.2 % 64) (eh_nb (eh_nb b))) (m.1 191) e 16) := ⟨_, rfl⟩
    obtain ⟨T, hT⟩ : ∃ T, T = ep_rds 64 W (ep_h8 (m.1 188) (8 * e)) := ⟨_, rfl⟩
    have hc : T = ep_rds 64 (ep_exp 48 (fun w => ep_be (st.2.1 ++ [b &&& 255]) (4 * w))) (ep_h8 (m.1 188) (8 * e)) := by
      rw [hT, hW]
      apply ep_rds_congr
      intro k hk
      apply ep_exp_congr _ 48 k (by omega)
      intro w hw
      unfold ep_ld
      rw [if_pos hw]
      apply ep_be_bw
      intro j hj
      rw [Nat.add_assoc]
      exact hnew _ (by omega)
    refine ⟨ep_add8 (m.1 188) (8 * e) T, upd (m.1 189) (64 * e + st.2.2 % 64) (eh_nb (eh_nb b)), W, vp_updL m.2 e (lN (st.2.2 + 1)), ?_, ?_, ?_⟩
    · intro c
      unfold eF_12_add
      simp (disch := first | assumption | decide) only [ep_V, ep_J, ep_sb, ep_rC1, ep_rC2, ep_rM, ep_rJ, ep_rQ, ep_wC1, ep_wC2, ep_wM, ep_iC1, ep_iC2, ep_iM, ep_wJ, ep_wQ, ep_cI1, ep_cIn, ep_cI2, ep_cL1, ep_cLn, ep_cL2, ep_cG1, ep_cGq, ep_cQ1, ep_cQ2, ep_cQq, ep_cQn, ep_mI1, ep_mIn, ep_mI2, ep_mL1, ep_mLn, ep_mL2, ep_mJ1, ep_mJ2, q1, q2, h3, q3, q4, nI_add, q5, q6, if_true, pk_uLs, lN_1, q7, q8, h63, ep_block _ e he, ← hW, ← hT]
      congr 2
      refine Prod.ext ?_ rfl
      funext a
      simp only [ep_mS, ep_mL, ep_mI, ep_mJ, ep_uf]
      by_cases g1 : a = 188 <;> by_cases g2 : a = 189 <;> by_cases g3 : a = 191 <;> simp [g1, g2, g3]
    · unfold ep_put
      rw [if_pos h63]
      refine ⟨?_, fun j hj => absurd hj (by simp), by simp [vp_updL]⟩
      show ep_h8 _ _ = ep_cmp st.1 (st.2.1 ++ [b &&& 255])
      rw [ep_h8_add8]
      rw [h1] at hc ⊢
      rw [hc]
      rfl
    · intro e' st' hne hok hR'
      exact ⟨by rw [ep_h8_other (by omega)]; exact hR'.1, hB e' st' hne hok hR'.2.1, by rw [hL e' hne]; exact hR'.2.2⟩
  · refine ⟨m.1 188, upd (m.1 189) (64 * e + st.2.2 % 64) (eh_nb (eh_nb b)), m.1 191, vp_updL m.2 e (lN (st.2.2 + 1)), ?_, ?_, ?_⟩
    · intro c
      unfold eF_12_add
      simp (disch := first | assumption | decide) only [ep_V, ep_J, ep_sb, ep_rC1, ep_rC2, ep_rM, ep_rJ, ep_rQ, ep_wC1, ep_wC2, ep_wM, ep_iC1, ep_iC2, ep_iM, ep_wJ, ep_wQ, ep_cI1, ep_cIn, ep_cI2, ep_cL1, ep_cLn, ep_cL2, ep_cG1, ep_cGq, ep_cQ1, ep_cQ2, ep_cQq, ep_cQn, ep_mI1, ep_mIn, ep_mI2, ep_mL1, ep_mLn, ep_mL2, ep_mJ1, ep_mJ2, q1, q2, h3, q3, q4, nI_add, q5, q6, if_true, pk_uLs, lN_1, q7, q8, h63, if_false]
      congr 2
      refine Prod.ext ?_ rfl
      funext a
      simp only [ep_mS, ep_mL, ep_mI, ep_mJ, ep_uf]
      by_cases g1 : a = 188 <;> by_cases g2 : a = 189 <;> by_cases g3 : a = 191 <;> simp [g1, g2, g3]
    · unfold ep_put
      rw [if_neg h63]
      refine ⟨h1, fun j hj => ?_, by simp [vp_updL]⟩
      exact hnew j (by rw [List.length_append] at hj; exact hj)
    · intro e' st' hne hok hR'
      exact ⟨hR'.1, hB e' st' hne hok hR'.2.1, by rw [hL e' hne]; exact hR'.2.2⟩
