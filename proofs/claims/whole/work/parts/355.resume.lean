theorem ep_R_fx {N : Nat} {c : ep_C} {m : ep_M} (hR : ep_R N c m) {t j : Nat} (ht : t < 12) (hj : j < 32) (v : Int32) : ep_R N (ep_cH c 3 t j v) (ep_mI m 129 (32 * (2 + t) + j) v) := by
  refine ⟨hR.1, hR.2.1, hR.2.2.1, hR.2.2.2.1, hR.2.2.2.2.1, ?_, ?_, hR.2.2.2.2.2.2.2.1, hR.2.2.2.2.2.2.2.2.1, hR.2.2.2.2.2.2.2.2.2.1, hR.2.2.2.2.2.2.2.2.2.2.1, hR.2.2.2.2.2.2.2.2.2.2.2.1, ?_, hR.2.2.2.2.2.2.2.2.2.2.2.2.2.1, hR.2.2.2.2.2.2.2.2.2.2.2.2.2.2.1, hR.2.2.2.2.2.2.2.2.2.2.2.2.2.2.2.1, hR.2.2.2.2.2.2.2.2.2.2.2.2.2.2.2.2.1, hR.2.2.2.2.2.2.2.2.2.2.2.2.2.2.2.2.2.1, hR.2.2.2.2.2.2.2.2.2.2.2.2.2.2.2.2.2.2.1, hR.2.2.2.2.2.2.2.2.2.2.2.2.2.2.2.2.2.2.2.1, hR.2.2.2.2.2.2.2.2.2.2.2.2.2.2.2.2.2.2.2.2.1, hR.2.2.2.2.2.2.2.2.2.2.2.2.2.2.2.2.2.2.2.2.2.1, hR.2.2.2.2.2.2.2.2.2.2.2.2.2.2.2.2.2.2.2.2.2.2.1, hR.2.2.2.2.2.2.2.2.2.2.2.2.2.2.2.2.2.2.2.2.2.2.2.1, hR.2.2.2.2.2.2.2.2.2.2.2.2.2.2.2.2.2.2.2.2.2.2.2.2.1, hR.2.2.2.2.2.2.2.2.2.2.2.2.2.2.2.2.2.2.2.2.2.2.2.2.2.1, hR.2.2.2.2.2.2.2.2.2.2.2.2.2.2.2.2.2.2.2.2.2.2.2.2.2.2.1, hR.2.2.2.2.2.2.2.2.2.2.2.2.2.2.2.2.2.2.2.2.2.2.2.2.2.2.2.1, hR.2.2.2.2.2.2.2.2.2.2.2.2.2.2.2.2.2.2.2.2.2.2.2.2.2.2.2.2.1, hR.2.2.2.2.2.2.2.2.2.2.2.2.2.2.2.2.2.2.2.2.2.2.2.2.2.2.2.2.2.1, hR.2.2.2.2.2.2.2.2.2.2.2.2.2.2.2.2.2.2.2.2.2.2.2.2.2.2.2.2.2.2.1, hR.2.2.2.2.2.2.2.2.2.2.2.2.2.2.2.2.2.2.2.2.2.2.2.2.2.2.2.2.2.2.2.1, hR.2.2.2.2.2.2.2.2.2.2.2.2.2.2.2.2.2.2.2.2.2.2.2.2.2.2.2.2.2.2.2.2.1, hR.2.2.2.2.2.2.2.2.2.2.2.2.2.2.2.2.2.2.2.2.2.2.2.2.2.2.2.2.2.2.2.2.2⟩
  · intro h' hh' j' hj'
    show c.2.1 1 h' j' = upd (m.1 129) (32 * (2 + t) + j) v (32 * h' + j')
    rw [ep_upd_ne (by omega)]
    exact hR.2.2.2.2.2.1 h' hh' j' hj'
  · intro h' hh'
    show upd (m.1 129) (32 * (2 + t) + j) v (32 * h') = 0
    rw [ep_upd_ne (by omega)]
    exact hR.2.2.2.2.2.2.1 h' hh'
  · intro t' ht' hs' j' hj'
    show (if t' = t then upd (c.2.1 3 t) j v else c.2.1 3 t') j' = upd (m.1 129) (32 * (2 + t) + j) v (32 * (2 + t') + j')
    have g := hR.2.2.2.2.2.2.2.2.2.2.2.2.1 t' ht' hs' j' hj'
    by_cases e1 : t' = t
    · subst e1
      rw [if_pos rfl]
      unfold upd
      by_cases e2 : j' = j
      · rw [if_pos e2, if_pos (by omega)]
      · rw [if_neg e2, if_neg (by omega)]; exact g
    · rw [if_neg e1, ep_upd_ne (by omega)]; exact g
theorem ep_resume_ {N : Nat} {c : ep_C} {m : ep_M} (hR : ep_R N c m) {h : Nat} (hh : h < 2) (hr : m.1 144 h = -1) (p q r : Int32) : ep_Sc N h c m (fun s => eF_10_resume s (eh_hp (nI h)) p q) (fun s => eF_12_run s (nI h) 6 p q r) := by
  cases hb : ep_inb p 12 (m.1 148) with
  | false =>
    refine ep_Sc_Cp (ep_Cp_id hR (-1) (fun m0 => ?_) (fun c0 => ?_))
    · show eF_10_resume (ep_mk c m0) _ p q = _
      unfold eF_10_resume
      rw [ep_chasF hR, ep_sb, hb, if_pos (by decide)]
    · show eF_12_run (ep_mk c0 m) _ 6 p q r = _
      unfold eF_12_run
      rw [ep_misT, ep_sb, hb, if_pos (by decide)]
  | true =>
    obtain ⟨t, ht, rfl, hst⟩ := ep_inb_t (by decide) hb
    obtain ⟨hal, e, he, hto, hE0⟩ := hR.2.2.2.2.2.2.2.2.2.2.2.2.2.2.2.1 t ht hst
    have gf := hR.2.2.2.2.2.2.2.2.2.2.1 t ht
    have ge := (hR.2.2.2.2.2.2.2.2.2.2.2.2.2.2.2.2.1 e he).1
    have i12 : eh_in (nI t) 12 = true := ep_in ht (by decide)
    have x12 : eh_ix (nI t) = t := ep_ix (by omega)
    have i6 : eh_in (nI e) 6 = true := ep_in he (by decide)
    have x6 : eh_ix (nI e) = e := ep_ix (by omega)
    have f3 : ∀ m0, (ep_mk c m0).1 (eh_fp (nI t)) 3 = nI e := fun m0 => by rw [ep_rF0 _ _ ht, gf.2.2.1, hto]
    have f6 : ∀ m0, (ep_mk c m0).1 (eh_fp (nI t)) 6 = m.1 148 t := fun m0 => by rw [ep_rF0 _ _ ht, gf.2.2.2.2.2.1]
    have q32 : (32 : Int32) * (2 + nI t) = nI (32 * (2 + t)) := by rw [show (2 : Int32) = nI 2 from rfl, nI_add]; exact ep_mul (b := 32) rfl rfl
    have p10 : nI (32 * (2 + t)) + 10 = nI (32 * (2 + t) + 10) := ep_addn _ 10
    have k10 : eh_in (nI (32 * (2 + t) + 10)) 448 = true := ep_in (by omega) (by decide)
    have y10 : eh_ix (nI (32 * (2 + t) + 10)) = 32 * (2 + t) + 10 := ep_ix (by omega)
    by_cases hok : m.1 155 e = 2 ∧ (m.1 148 t = 3 ∨ m.1 148 t = 4)
    · have hst2 : m.1 148 t ≠ 2 := by rcases hok.2 with z | z <;> rw [z] <;> decide
      by_cases h4 : m.1 148 t = 4
      · have n3 : ¬ m.1 148 t = 3 := by rw [h4]; decide
        have R1 := ep_R_fx hR ht (j := 10) (by decide) q
        obtain ⟨B1, B2, B3⟩ := ep_begin_ R1 (h := h) (t := t) (e := e) hh ht he hr hst hst2 hto hok.1
        refine ⟨nI t, _, _, fun m0 => ?_, fun c0 => ?_, B3, rfl, rfl, fun j hj => by rcases hj with rfl | rfl <;> rfl, Or.inr ⟨rfl, ?_⟩⟩
        · show eF_10_resume (ep_mk c m0) _ (nI t) q = _
          unfold eF_10_resume
          rw [ep_chasF hR, ep_sb, hb, if_neg (by decide), if_pos i12, ep_J, ep_J, f6, if_neg n3, if_pos h4]
          dsimp only
          rw [f3, if_pos i6, ep_J, ep_rE0 _ _ he, ge, if_pos hok.1, if_neg (by decide), ep_J, if_pos h4, ep_V, ep_iF1 _ _ _ _ ht]
          exact ep_bnd (B1 m0) rfl
        · show eF_12_run (ep_mk c0 m) _ 6 (nI t) q r = _
          unfold eF_12_run
          rw [ep_misT, ep_sb, hb, if_neg (by decide), if_pos i12, ep_V, x12, ep_rM _ _ 149 (by decide), hto, ep_J, if_neg (show ¬ (6 : Int32) = 5 by decide), if_pos i12, ep_J, ep_rM _ _ 148 (by decide), if_neg n3, if_pos i12, if_pos h4]
          dsimp only
          rw [if_pos i6, ep_J, x6, ep_rM _ _ 155 (by decide), if_pos hok.1, if_neg (by decide), ep_V, q32, ep_J, if_neg (show ¬ (6 : Int32) = 5 by decide), if_pos i12, if_pos h4, p10, if_pos k10, y10, ep_V, ep_iM _ _ _ _ _ (by decide)]
          exact ep_bnd (B2 c0) rfl
        · show upd (m.1 144) h (nI t) h ≠ -1
          rw [ep_upd_eq]; exact ep_nI_ne_m1 (by omega)
      · have h3 : m.1 148 t = 3 := hok.2.resolve_right h4
        obtain ⟨B1, B2, B3⟩ := ep_begin_ hR (h := h) (t := t) (e := e) hh ht he hr hst hst2 hto hok.1
        refine ⟨nI t, _, _, fun m0 => ?_, fun c0 => ?_, B3, rfl, rfl, fun j hj => by rcases hj with rfl | rfl <;> rfl, Or.inr ⟨rfl, ?_⟩⟩
        · show eF_10_resume (ep_mk c m0) _ (nI t) q = _
          unfold eF_10_resume
          rw [ep_chasF hR, ep_sb, hb, if_neg (by decide), if_pos i12, ep_J, ep_J, f6, if_pos h3]
          dsimp only
          rw [f3, if_pos i6, ep_J, ep_rE0 _ _ he, ge, if_pos hok.1, if_neg (by decide), ep_J, if_neg h4]
          exact ep_bnd (B1 m0) rfl
        · show eF_12_run (ep_mk c0 m) _ 6 (nI t) q r = _
          unfold eF_12_run
          rw [ep_misT, ep_sb, hb, if_neg (by decide), if_pos i12, ep_V, x12, ep_rM _ _ 149 (by decide), hto, ep_J, if_neg (show ¬ (6 : Int32) = 5 by decide), if_pos i12, ep_J, ep_rM _ _ 148 (by decide), if_pos h3]
          dsimp only
          rw [if_pos i6, ep_J, x6, ep_rM _ _ 155 (by decide), if_pos hok.1, if_neg (by decide), ep_V, q32, ep_J, if_neg (show ¬ (6 : Int32) = 5 by decide), if_pos i12, if_neg h4]
          exact ep_bnd (B2 c0) rfl
        · show upd (m.1 144) h (nI t) h ≠ -1
          rw [ep_upd_eq]; exact ep_nI_ne_m1 (by omega)
    · refine ep_Sc_Cp (ep_Cp_id hR (-2) (fun m0 => ?_) (fun c0 => ?_))
      · show eF_10_resume (ep_mk c m0) _ (nI t) q = _
        unfold eF_10_resume
        rw [ep_chasF hR, ep_sb, hb, if_neg (by decide), if_pos i12, ep_J, ep_J, f6]
        simp only [f3, if_pos i6]
        rw [ep_rE0 _ _ he, ge]
        simp only [↓ep_J]
        by_cases y1 : m.1 155 e = 2
        · have n3 : ¬ m.1 148 t = 3 := fun z => hok ⟨y1, Or.inl z⟩
          have n4 : ¬ m.1 148 t = 4 := fun z => hok ⟨y1, Or.inr z⟩
          simp [y1, n3, n4]
        · by_cases z1 : m.1 148 t = 3
          · simp [y1, z1, i6]
          · by_cases z2 : m.1 148 t = 4
            · simp [y1, z2, i6]
            · simp [y1, z1, z2, i6]
      · show eF_12_run (ep_mk c0 m) _ 6 (nI t) q r = _
        unfold eF_12_run
        rw [ep_misT, ep_sb, hb, if_neg (by decide), if_pos i12, ep_V, x12, ep_rM _ _ 149 (by decide), hto, ep_J, if_neg (show ¬ (6 : Int32) = 5 by decide), if_pos i12, ep_J, ep_rM _ _ 148 (by decide), if_pos i12]
        by_cases z1 : m.1 148 t = 3
        · rw [if_pos z1]
          dsimp only
          rw [if_pos i6, ep_J, x6, ep_rM _ _ 155 (by decide), if_neg (fun z => hok ⟨z, Or.inl z1⟩)]
        · rw [if_neg z1]
          by_cases z2 : m.1 148 t = 4
          · rw [if_pos z2]
            dsimp only
            rw [if_pos i6, ep_J, x6, ep_rM _ _ 155 (by decide), if_neg (fun z => hok ⟨z, Or.inr z2⟩)]
          · rw [if_neg z2]
            dsimp only
            rw [if_pos i6, ep_J, x6, ep_rM _ _ 155 (by decide), if_pos rfl, ite_self]
