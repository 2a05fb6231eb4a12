/-! a step begins: who runs; interrupts -/
theorem ep_look2 {N : Nat} {c : ep_C} {m : ep_M} (hR : ep_R N c m) {h : Nat} (hh : h < 2) : ∃ c1 w, (∀ m0, eF_7_look (ep_mk c m0) (eh_hp (nI h)) = some (ep_mk c1 m0)) ∧ ep_R N c1 m ∧ ep_Pr c1 m h ∧ c1.1 124 8 = m.1 130 w ∧ c1.1 124 9 = m.1 130 w + 4 ∧ c1.1 124 10 = -1 ∧ c1.1 124 12 = 0 ∧ (∀ c0, eF_12_who (ep_mk c0 m) (nI h) = some (nI w)) ∧ w < 14 ∧ ep_al (m.1 130 w) ∧ ((m.1 144 h = -1 ∧ w = h) ∨ ∃ t e, ep_On m h t e ∧ w = 2 + t) := by
  have gh := hR.2.2.2.2.2.2.2.1 h hh
  have g5 : c.2.1 0 h 5 = m.1 144 h := gh.2.2.2.2.1
  have i2 : eh_in (nI h) 2 = true := ep_in hh (by decide)
  have x2 : eh_ix (nI h) = h := ep_ix (by omega)
  obtain ⟨H, hH⟩ : ∃ H, H = eh_hp (nI h) := ⟨_, rfl⟩
  have R0 : ep_R N (ep_cQ c 4 H) m := ⟨hR.1, hR.2.1, hR.2.2.1, hR.2.2.2.1, hR.2.2.2.2.1, hR.2.2.2.2.2.1, hR.2.2.2.2.2.2.1, hR.2.2.2.2.2.2.2.1, hR.2.2.2.2.2.2.2.2.1, hR.2.2.2.2.2.2.2.2.2.1, hR.2.2.2.2.2.2.2.2.2.2.1, hR.2.2.2.2.2.2.2.2.2.2.2.1, hR.2.2.2.2.2.2.2.2.2.2.2.2.1, hR.2.2.2.2.2.2.2.2.2.2.2.2.2.1, hR.2.2.2.2.2.2.2.2.2.2.2.2.2.2.1, hR.2.2.2.2.2.2.2.2.2.2.2.2.2.2.2.1, hR.2.2.2.2.2.2.2.2.2.2.2.2.2.2.2.2.1, hR.2.2.2.2.2.2.2.2.2.2.2.2.2.2.2.2.2.1, hR.2.2.2.2.2.2.2.2.2.2.2.2.2.2.2.2.2.2.1, hR.2.2.2.2.2.2.2.2.2.2.2.2.2.2.2.2.2.2.2.1, hR.2.2.2.2.2.2.2.2.2.2.2.2.2.2.2.2.2.2.2.2.1, hR.2.2.2.2.2.2.2.2.2.2.2.2.2.2.2.2.2.2.2.2.2.1, hR.2.2.2.2.2.2.2.2.2.2.2.2.2.2.2.2.2.2.2.2.2.2.1, hR.2.2.2.2.2.2.2.2.2.2.2.2.2.2.2.2.2.2.2.2.2.2.2.1, hR.2.2.2.2.2.2.2.2.2.2.2.2.2.2.2.2.2.2.2.2.2.2.2.2.1, hR.2.2.2.2.2.2.2.2.2.2.2.2.2.2.2.2.2.2.2.2.2.2.2.2.2.1, hR.2.2.2.2.2.2.2.2.2.2.2.2.2.2.2.2.2.2.2.2.2.2.2.2.2.2.1, hR.2.2.2.2.2.2.2.2.2.2.2.2.2.2.2.2.2.2.2.2.2.2.2.2.2.2.2.1, hR.2.2.2.2.2.2.2.2.2.2.2.2.2.2.2.2.2.2.2.2.2.2.2.2.2.2.2.2.1, hR.2.2.2.2.2.2.2.2.2.2.2.2.2.2.2.2.2.2.2.2.2.2.2.2.2.2.2.2.2.1, hR.2.2.2.2.2.2.2.2.2.2.2.2.2.2.2.2.2.2.2.2.2.2.2.2.2.2.2.2.2.2.1, hR.2.2.2.2.2.2.2.2.2.2.2.2.2.2.2.2.2.2.2.2.2.2.2.2.2.2.2.2.2.2.2.1, hR.2.2.2.2.2.2.2.2.2.2.2.2.2.2.2.2.2.2.2.2.2.2.2.2.2.2.2.2.2.2.2.2.1, hR.2.2.2.2.2.2.2.2.2.2.2.2.2.2.2.2.2.2.2.2.2.2.2.2.2.2.2.2.2.2.2.2.2⟩
  have okH : eh_okH H = true := by rw [hH]; exact ep_okH hh
  have rH : ∀ (c' : ep_C) (m0 : ep_M), (ep_mk c' m0).1 H = c'.2.1 0 h := fun c' m0 => by rw [hH]; exact ep_rH0 c' m0 hh
  by_cases hr : m.1 144 h = -1
  · have hF : ∀ m0, eF_5_hasFibre (ep_mk (ep_cQ c 4 H) m0) (-1) = some 0 := fun m0 => by
      rw [ep_chasF R0]; rfl
    obtain ⟨cA, hcA⟩ : ∃ cA, cA = ep_cI (ep_cQ c 4 H) 124 6 0 := ⟨_, rfl⟩
    obtain ⟨cB, hcB⟩ : ∃ cB, cB = ep_cQ cA 7 (H + 1) := ⟨_, rfl⟩
    have a6 : ∀ m0, (ep_mk cA m0).1 124 6 = 0 := fun m0 => by rw [ep_rC2 _ _ _ (by decide) (by decide), hcA, ep_cI1, ep_upd_eq]
    have a4 : ∀ m0, (ep_mk cA m0).2.2 4 = H := fun m0 => by rw [ep_rQ, hcA, ep_cI2, ep_cQq]
    have b6 : ∀ m0, (ep_mk cB m0).1 124 6 = 0 := fun m0 => by rw [ep_rC2 _ _ _ (by decide) (by decide), hcB, ep_cQ1, hcA, ep_cI1, ep_upd_eq]
    have b4 : ∀ m0, (ep_mk cB m0).2.2 4 = H := fun m0 => by rw [ep_rQ, hcB, ep_cQn _ _ _ _ (by decide), hcA, ep_cI2, ep_cQq]
    have b2 : ∀ m0, (ep_mk cB m0).1 H 2 = m.1 130 h := fun m0 => by rw [rH, hcB, hcA]; exact gh.2.1
    obtain ⟨c1, hc1⟩ : ∃ c1, c1 = ep_cI (ep_cI (ep_cI (ep_cI (ep_cI cB 124 8 (m.1 130 h)) 124 9 (m.1 130 h + 4)) 124 10 (-1)) 124 11 0) 124 12 0 := ⟨_, rfl⟩
    refine ⟨c1, h, fun m0 => ?_, ?_, ?_, ?_, ?_, ?_, ?_, fun c0 => ?_, by omega, (hR.2.2.2.2.2.2.2.2.1 h hh).1, Or.inl ⟨hr, rfl⟩⟩
    · rw [← hH]
      unfold eF_7_look
      rw [ep_V, ep_wQ, ep_rQ, ep_cQq, if_pos okH, rH, show (ep_cQ c 4 H).2.1 0 h 5 = -1 from g5.trans hr, hF, ep_sb, if_pos (Or.inl rfl), ep_V, ep_iC2 _ _ _ _ _ (by decide) (by decide), ← hcA, ep_J, a6, if_pos rfl]
      dsimp only
      rw [ep_J, a6, if_pos rfl, a4, if_pos okH]
      dsimp only
      rw [ep_V, ep_wQ, ← hcB, ep_J, b6, if_pos rfl, b4, if_pos okH, b2]
      dsimp only
      rw [ep_V, ep_iC2 _ _ _ _ _ (by decide) (by decide), ep_V, ep_rC2 _ _ _ (by decide) (by decide), ep_cI1, ep_upd_eq, ep_iC2 _ _ _ _ _ (by decide) (by decide), ep_V, ep_iC2 _ _ _ _ _ (by decide) (by decide), ep_V, ep_iC2 _ _ _ _ _ (by decide) (by decide), ep_V, ep_iC2 _ _ _ _ _ (by decide) (by decide), hc1]
    · rw [hc1, hcB, hcA]; exact ⟨hR.1, hR.2.1, hR.2.2.1, hR.2.2.2.1, hR.2.2.2.2.1, hR.2.2.2.2.2.1, hR.2.2.2.2.2.2.1, hR.2.2.2.2.2.2.2.1, hR.2.2.2.2.2.2.2.2.1, hR.2.2.2.2.2.2.2.2.2.1, hR.2.2.2.2.2.2.2.2.2.2.1, hR.2.2.2.2.2.2.2.2.2.2.2.1, hR.2.2.2.2.2.2.2.2.2.2.2.2.1, hR.2.2.2.2.2.2.2.2.2.2.2.2.2.1, hR.2.2.2.2.2.2.2.2.2.2.2.2.2.2.1, hR.2.2.2.2.2.2.2.2.2.2.2.2.2.2.2.1, hR.2.2.2.2.2.2.2.2.2.2.2.2.2.2.2.2.1, hR.2.2.2.2.2.2.2.2.2.2.2.2.2.2.2.2.2.1, hR.2.2.2.2.2.2.2.2.2.2.2.2.2.2.2.2.2.2.1, hR.2.2.2.2.2.2.2.2.2.2.2.2.2.2.2.2.2.2.2.1, hR.2.2.2.2.2.2.2.2.2.2.2.2.2.2.2.2.2.2.2.2.1, hR.2.2.2.2.2.2.2.2.2.2.2.2.2.2.2.2.2.2.2.2.2.1, hR.2.2.2.2.2.2.2.2.2.2.2.2.2.2.2.2.2.2.2.2.2.2.1, hR.2.2.2.2.2.2.2.2.2.2.2.2.2.2.2.2.2.2.2.2.2.2.2.1, hR.2.2.2.2.2.2.2.2.2.2.2.2.2.2.2.2.2.2.2.2.2.2.2.2.1, hR.2.2.2.2.2.2.2.2.2.2.2.2.2.2.2.2.2.2.2.2.2.2.2.2.2.1, hR.2.2.2.2.2.2.2.2.2.2.2.2.2.2.2.2.2.2.2.2.2.2.2.2.2.2.1, hR.2.2.2.2.2.2.2.2.2.2.2.2.2.2.2.2.2.2.2.2.2.2.2.2.2.2.2.1, hR.2.2.2.2.2.2.2.2.2.2.2.2.2.2.2.2.2.2.2.2.2.2.2.2.2.2.2.2.1, hR.2.2.2.2.2.2.2.2.2.2.2.2.2.2.2.2.2.2.2.2.2.2.2.2.2.2.2.2.2.1, hR.2.2.2.2.2.2.2.2.2.2.2.2.2.2.2.2.2.2.2.2.2.2.2.2.2.2.2.2.2.2.1, hR.2.2.2.2.2.2.2.2.2.2.2.2.2.2.2.2.2.2.2.2.2.2.2.2.2.2.2.2.2.2.2.1, hR.2.2.2.2.2.2.2.2.2.2.2.2.2.2.2.2.2.2.2.2.2.2.2.2.2.2.2.2.2.2.2.2.1, hR.2.2.2.2.2.2.2.2.2.2.2.2.2.2.2.2.2.2.2.2.2.2.2.2.2.2.2.2.2.2.2.2.2⟩
    · refine ⟨hh, ?_, Or.inl ⟨hr, ?_, ?_⟩⟩
      · rw [hc1, hcB, hcA, ← hH]; rfl
      · rw [hc1, hcB, hcA]; rfl
      · rw [hc1, hcB, hcA, ← hH]; rfl
    · rw [hc1]; rfl
    · rw [hc1]; rfl
    · rw [hc1]; rfl
    · rw [hc1]; rfl
    · unfold eF_12_who
      rw [if_pos i2, ep_J, x2, ep_rM _ _ 144 (by decide), hr, if_pos rfl]
  · obtain ⟨t, e, ho⟩ := ep_On_of hR hh hr
    have ht := ho.2.1
    have hru := ho.2.2.2.1
    have gf := hR.2.2.2.2.2.2.2.2.2.2.1 t ht
    have tm1 : ¬ nI t = -1 := ep_nI_ne_m1 (by omega)
    have hF : ∀ m0, eF_5_hasFibre (ep_mk (ep_cQ c 4 H) m0) (nI t) = some 1 := fun m0 => by
      rw [ep_chasF R0, ep_inb_nI ht (by decide), ho.2.2.2.2.2.2]; rfl
    obtain ⟨P, hP⟩ : ∃ P, P = eh_fp (nI t) := ⟨_, rfl⟩
    have okF : eh_okF P = true := by rw [hP]; exact ep_okF ht
    have rF : ∀ (c' : ep_C) (m0 : ep_M), (ep_mk c' m0).1 P = c'.2.1 2 t := fun c' m0 => by rw [hP]; exact ep_rF0 c' m0 ht
    obtain ⟨cA, hcA⟩ : ∃ cA, cA = ep_cI (ep_cQ c 4 H) 124 6 1 := ⟨_, rfl⟩
    obtain ⟨cD, hcD⟩ : ∃ cD, cD = ep_cQ cA 5 P := ⟨_, rfl⟩
    obtain ⟨cB, hcB⟩ : ∃ cB, cB = ep_cQ cD 7 (P + 1) := ⟨_, rfl⟩
    have a6 : ∀ m0, (ep_mk cA m0).1 124 6 = 1 := fun m0 => by rw [ep_rC2 _ _ _ (by decide) (by decide), hcA, ep_cI1, ep_upd_eq]
    have a4 : ∀ m0, (ep_mk cA m0).2.2 4 = H := fun m0 => by rw [ep_rQ, hcA, ep_cI2, ep_cQq]
    have a5 : ∀ m0, (ep_mk cA m0).1 H 5 = nI t := fun m0 => by rw [rH, hcA]; exact g5.trans hru
    have d6 : ∀ m0, (ep_mk cD m0).1 124 6 = 1 := fun m0 => by rw [ep_rC2 _ _ _ (by decide) (by decide), hcD, ep_cQ1, hcA, ep_cI1, ep_upd_eq]
    have d5 : ∀ m0, (ep_mk cD m0).2.2 5 = P := fun m0 => by rw [ep_rQ, hcD, ep_cQq]
    have b6 : ∀ m0, (ep_mk cB m0).1 124 6 = 1 := fun m0 => by rw [ep_rC2 _ _ _ (by decide) (by decide), hcB, ep_cQ1, hcD, ep_cQ1, hcA, ep_cI1, ep_upd_eq]
    have b5 : ∀ m0, (ep_mk cB m0).2.2 5 = P := fun m0 => by rw [ep_rQ, hcB, ep_cQn _ _ _ _ (by decide), hcD, ep_cQq]
    have b2 : ∀ m0, (ep_mk cB m0).1 P 2 = m.1 130 (2 + t) := fun m0 => by rw [rF, hcB, hcD, hcA]; exact gf.2.1
    obtain ⟨c1, hc1⟩ : ∃ c1, c1 = ep_cI (ep_cI (ep_cI (ep_cI (ep_cI cB 124 8 (m.1 130 (2 + t))) 124 9 (m.1 130 (2 + t) + 4)) 124 10 (-1)) 124 11 0) 124 12 0 := ⟨_, rfl⟩
    have n10 : ¬ (1 : Int32) = 0 := by decide
    refine ⟨c1, 2 + t, fun m0 => ?_, ?_, ?_, ?_, ?_, ?_, ?_, fun c0 => ?_, by omega, (hR.2.2.2.2.2.2.2.2.2.2.2.1 t ht).1, Or.inr ⟨t, e, ho, rfl⟩⟩
    · rw [← hH]
      unfold eF_7_look
      rw [ep_V, ep_wQ, ep_rQ, ep_cQq, if_pos okH, rH, show (ep_cQ c 4 H).2.1 0 h 5 = nI t from g5.trans hru, hF, ep_sb, if_pos (Or.inr rfl), ep_V, ep_iC2 _ _ _ _ _ (by decide) (by decide), ← hcA, ep_J, a6, if_neg n10, a4, if_pos okH, a5, if_pos (ep_in ht (by decide)), ep_V, ← hP, ep_wQ, ← hcD]
      dsimp only
      rw [ep_J, d6, if_neg n10, d5, if_pos okF]
      dsimp only
      rw [ep_V, ep_wQ, ← hcB, ep_J, b6, if_neg n10, b5, if_pos okF, b2]
      dsimp only
      rw [ep_V, ep_iC2 _ _ _ _ _ (by decide) (by decide), ep_V, ep_rC2 _ _ _ (by decide) (by decide), ep_cI1, ep_upd_eq, ep_iC2 _ _ _ _ _ (by decide) (by decide), ep_V, ep_iC2 _ _ _ _ _ (by decide) (by decide), ep_V, ep_iC2 _ _ _ _ _ (by decide) (by decide), ep_V, ep_iC2 _ _ _ _ _ (by decide) (by decide), hc1]
    · rw [hc1, hcB, hcD, hcA]; exact ⟨hR.1, hR.2.1, hR.2.2.1, hR.2.2.2.1, hR.2.2.2.2.1, hR.2.2.2.2.2.1, hR.2.2.2.2.2.2.1, hR.2.2.2.2.2.2.2.1, hR.2.2.2.2.2.2.2.2.1, hR.2.2.2.2.2.2.2.2.2.1, hR.2.2.2.2.2.2.2.2.2.2.1, hR.2.2.2.2.2.2.2.2.2.2.2.1, hR.2.2.2.2.2.2.2.2.2.2.2.2.1, hR.2.2.2.2.2.2.2.2.2.2.2.2.2.1, hR.2.2.2.2.2.2.2.2.2.2.2.2.2.2.1, hR.2.2.2.2.2.2.2.2.2.2.2.2.2.2.2.1, hR.2.2.2.2.2.2.2.2.2.2.2.2.2.2.2.2.1, hR.2.2.2.2.2.2.2.2.2.2.2.2.2.2.2.2.2.1, hR.2.2.2.2.2.2.2.2.2.2.2.2.2.2.2.2.2.2.1, hR.2.2.2.2.2.2.2.2.2.2.2.2.2.2.2.2.2.2.2.1, hR.2.2.2.2.2.2.2.2.2.2.2.2.2.2.2.2.2.2.2.2.1, hR.2.2.2.2.2.2.2.2.2.2.2.2.2.2.2.2.2.2.2.2.2.1, hR.2.2.2.2.2.2.2.2.2.2.2.2.2.2.2.2.2.2.2.2.2.2.1, hR.2.2.2.2.2.2.2.2.2.2.2.2.2.2.2.2.2.2.2.2.2.2.2.1, hR.2.2.2.2.2.2.2.2.2.2.2.2.2.2.2.2.2.2.2.2.2.2.2.2.1, hR.2.2.2.2.2.2.2.2.2.2.2.2.2.2.2.2.2.2.2.2.2.2.2.2.2.1, hR.2.2.2.2.2.2.2.2.2.2.2.2.2.2.2.2.2.2.2.2.2.2.2.2.2.2.1, hR.2.2.2.2.2.2.2.2.2.2.2.2.2.2.2.2.2.2.2.2.2.2.2.2.2.2.2.1, hR.2.2.2.2.2.2.2.2.2.2.2.2.2.2.2.2.2.2.2.2.2.2.2.2.2.2.2.2.1, hR.2.2.2.2.2.2.2.2.2.2.2.2.2.2.2.2.2.2.2.2.2.2.2.2.2.2.2.2.2.1, hR.2.2.2.2.2.2.2.2.2.2.2.2.2.2.2.2.2.2.2.2.2.2.2.2.2.2.2.2.2.2.1, hR.2.2.2.2.2.2.2.2.2.2.2.2.2.2.2.2.2.2.2.2.2.2.2.2.2.2.2.2.2.2.2.1, hR.2.2.2.2.2.2.2.2.2.2.2.2.2.2.2.2.2.2.2.2.2.2.2.2.2.2.2.2.2.2.2.2.1, hR.2.2.2.2.2.2.2.2.2.2.2.2.2.2.2.2.2.2.2.2.2.2.2.2.2.2.2.2.2.2.2.2.2⟩
    · refine ⟨hh, ?_, Or.inr ⟨t, e, ho, ?_, ?_, ?_⟩⟩
      · rw [hc1, hcB, hcD, hcA, ← hH]; rfl
      · rw [hc1, hcB, hcD, hcA]; rfl
      · rw [hc1, hcB, hcD, hcA, ← hP]; rfl
      · rw [hc1, hcB, hcD, hcA, ← hP]; rfl
    · rw [hc1]; rfl
    · rw [hc1]; rfl
    · rw [hc1]; rfl
    · rw [hc1]; rfl
    · unfold eF_12_who
      rw [if_pos i2, ep_J, x2, ep_rM _ _ 144 (by decide), hru, if_neg tm1, if_pos i2]
      show some ((2 : Int32) + nI t) = _
      rw [show (2 : Int32) = nI 2 from rfl, nI_add]
/-- the reference's interrupts, and then the rest -/
def ep_MI (s4 : eh_F) (p0 x2 : Int32) (rest : Option eh_F) : Option eh_F := eh_V ((s4.1 144 (eh_ix p0)) : Int32) (fun x5 => eh_J (fun (u7 : Unit) => eh_J (fun (u9 : Unit) => rest) (fun j8 => if x5 = (-1) then (j8 ()) else (if eh_in p0 2 then if 0 < (s4.1 145 (eh_ix p0)) then (if eh_in p0 2 then if eh_in p0 2 then if (s4.1 146 (eh_ix p0)) < (s4.1 145 (eh_ix p0)) then (j8 ()) else (Option.bind (eF_12_leave s4 p0 3 4 0) (fun q42 => some q42)) else none else none) else (j8 ()) else none))) (fun j6 => if x2 = 0 then (j6 ()) else (eh_J (fun (u45 : Unit) => eh_J (fun (s47 : eh_F) => some s47) (fun j46 => if x5 = (-1) then (eh_J (fun (a50 : Int32) => Option.bind (eF_12_trap s4 p0 (a50 ||| (-2147483648)) 0) (fun q51 => j46 q51)) (fun j49 => if (x2 &&& 512) = 0 then (if (x2 &&& 2) = 0 then (j49 5) else (j49 1)) else (j49 9))) else (Option.bind (eF_12_leave s4 p0 3 2 0) (fun q54 => j46 q54)))) (fun j44 => if x5 = (-1) then (if eh_in p0 2 then if (s4.1 131 (eh_ix p0)) = 0 then (j44 ()) else (if eh_in p0 2 then if ((s4.1 133 (eh_ix p0)) &&& 2) = 0 then (j6 ()) else (j44 ()) else none) else none) else (j44 ())))))
theorem ep_intr {N : Nat} {c : ep_C} {m : ep_M} (hR : ep_R N c m) {h : Nat} (hP : ep_Pr c m h) {P d : Int32} (hP546 : P &&& 546 = P) (hpc : ∀ m0, eF_4_pending (ep_mk c m0) (eh_hp (nI h)) = some P) (hd : d = P &&& m.1 134 h) : (∃ c' m', (∀ m0, eF_7_isInterrupted (ep_mk c m0) = some (1, ep_mk c' m0)) ∧ (∀ c0 rest, ep_MI (ep_mk c0 m) (nI h) d rest = some (ep_mk c0 m')) ∧ ep_R N c' m') ∨ ((∀ m0, eF_7_isInterrupted (ep_mk c m0) = some (0, ep_mk c m0)) ∧ (∀ c0 rest, ep_MI (ep_mk c0 m) (nI h) d rest = rest)) := by
  have hh := hP.1
  have q4 : ∀ m0, (ep_mk c m0).2.2 4 = eh_hp (nI h) := fun m0 => hP.2.1
  have okH := ep_okH hh
  have gh := hR.2.2.2.2.2.2.2.1 h hh
  have g3 : c.2.1 0 h 3 = m.1 131 h := gh.2.2.1
  have g5 : c.2.1 0 h 5 = m.1 144 h := gh.2.2.2.2.1
  have g9 : c.2.1 0 h 9 = m.1 133 h := gh.2.2.2.2.2.2.1
  have g10 : c.2.1 0 h 10 = m.1 134 h := gh.2.2.2.2.2.2.2.1
  have hmode := (hR.2.2.2.2.2.2.2.2.1 h hh).2.1
  have i2 : eh_in (nI h) 2 = true := ep_in hh (by decide)
  have x2 : eh_ix (nI h) = h := ep_ix (by omega)
  have hd546 : d &&& 546 = d := by
    rw [hd, Int32.and_assoc, Int32.and_comm (m.1 134 h) 546, ← Int32.and_assoc, hP546]
  have hd0 := ep_due0 hd546
  obtain ⟨code, hcode⟩ : ∃ code : Int32, code = (if d &&& 512 = 0 then (if d &&& 2 = 0 then (if d &&& 32 = 0 then -1 else 5) else 1) else 9) := ⟨_, rfl⟩
  have hc1 : code = -1 ↔ d = 0 := by
    rw [hd0, hcode]
    by_cases y1 : d &&& 512 = 0
    · by_cases y2 : d &&& 2 = 0
      · by_cases y3 : d &&& 32 = 0
        · simp [y1, y2, y3]
        · simp [y1, y2, y3]
      · simp [y1, y2]
    · simp [y1]
  -- the class's due interrupt
  have due : ∀ m0, eF_4_dueInterrupt (ep_mk c m0) (eh_hp (nI h)) = some (if m.1 144 h = -1 ∧ m.1 131 h = 1 ∧ m.1 133 h &&& 2 = 0 then -1 else code) := by
    intro m0
    have big : (Option.bind (eF_4_pending (ep_mk c m0) (eh_hp (nI h))) (fun q3 => eh_V ((q3 &&& ((ep_mk c m0).1 (eh_hp (nI h)) 10)) : Int32) (fun x4 => if (x4 &&& 512) = 0 then (if (x4 &&& 2) = 0 then (eh_J (fun (a8 : Int32) => some a8) (fun j7 => if (x4 &&& 32) = 0 then (j7 (-1)) else (j7 5))) else (some 1)) else (some 9)))) = some code := by
      rw [hpc, ep_sb, ep_V, ep_rH0 _ _ hh, g10, ← hd, hcode]
      by_cases y1 : d &&& 512 = 0
      · rw [if_pos y1, if_pos y1]
        by_cases y2 : d &&& 2 = 0
        · rw [if_pos y2, if_pos y2, ep_J]
          by_cases y3 : d &&& 32 = 0
          · rw [if_pos y3, if_pos y3]
          · rw [if_neg y3, if_neg y3]
        · rw [if_neg y2, if_neg y2]
      · rw [if_neg y1, if_neg y1]
    unfold eF_4_dueInterrupt
    rw [ep_J, ep_rH0 _ _ hh, g5, g3, g9]
    by_cases y1 : m.1 144 h = -1
    · rw [if_pos y1]
      by_cases y2 : m.1 131 h = 1
      · rw [if_pos y2]
        by_cases y3 : m.1 133 h &&& 2 = 0
        · rw [if_pos y3, if_pos ⟨y1, y2, y3⟩]
        · rw [if_neg y3, if_neg (fun z => y3 z.2.2)]
          rw [ep_rH0 _ _ hh] at big
          exact big
      · rw [if_neg y2, if_neg (fun z => y2 z.2.1)]
        rw [ep_rH0 _ _ hh] at big
        exact big
    · rw [if_neg y1, if_neg (fun z => y1 z.1)]
      rw [ep_rH0 _ _ hh] at big
      exact big
  obtain ⟨D, hD⟩ : ∃ D : Int32, D = (if m.1 144 h = -1 ∧ m.1 131 h = 1 ∧ m.1 133 h &&& 2 = 0 then -1 else code) := ⟨_, rfl⟩
  rw [← hD] at due
  -- the reference's way
  have go : ∀ c0 rest, D = -1 → ep_MI (ep_mk c0 m) (nI h) d rest = (if m.1 144 h = -1 then rest else (if 0 < m.1 145 h then (if m.1 146 h < m.1 145 h then rest else (Option.bind (eF_12_leave (ep_mk c0 m) (nI h) 3 4 0) (fun q42 => some q42))) else rest)) := by
    intro c0 rest hD1
    have tail : (if m.1 144 h = -1 then rest else (if eh_in (nI h) 2 = true then if 0 < m.1 145 h then (if eh_in (nI h) 2 = true then if eh_in (nI h) 2 = true then if m.1 146 h < m.1 145 h then rest else (Option.bind (eF_12_leave (ep_mk c0 m) (nI h) 3 4 0) (fun q42 => some q42)) else none else none) else rest else none)) = (if m.1 144 h = -1 then rest else (if 0 < m.1 145 h then (if m.1 146 h < m.1 145 h then rest else (Option.bind (eF_12_leave (ep_mk c0 m) (nI h) 3 4 0) (fun q42 => some q42))) else rest)) := by
      simp only [i2, if_true]
    unfold ep_MI
    rw [ep_V, x2, ep_rM _ _ 144 (by decide), ep_rM _ _ 145 (by decide), ep_rM _ _ 146 (by decide), ep_rM _ _ 131 (by decide), ep_rM _ _ 133 (by decide), ep_J, ep_J]
    by_cases y : d = 0
    · rw [if_pos y]
      exact tail
    · have hcn : ¬ code = -1 := fun z => y (hc1.mp z)
      have hbl : m.1 144 h = -1 ∧ m.1 131 h = 1 ∧ m.1 133 h &&& 2 = 0 := Decidable.byContradiction fun z => by
        rw [hD, if_neg z] at hD1
        exact hcn hD1
      rw [if_neg y, ep_J, if_pos hbl.1, if_pos i2, if_neg (show ¬ m.1 131 h = 0 by rw [hbl.2.1]; decide), if_pos i2, if_pos hbl.2.2]
      exact tail
  have mD : ¬ D = -1 → ¬ d = 0 ∧ ¬ (m.1 144 h = -1 ∧ m.1 131 h = 1 ∧ m.1 133 h &&& 2 = 0) ∧ D = code := by
    intro z
    by_cases y : m.1 144 h = -1 ∧ m.1 131 h = 1 ∧ m.1 133 h &&& 2 = 0
    · rw [hD, if_pos y] at z; exact absurd rfl z
    · rw [if_neg y] at hD
      exact ⟨fun w => z (by rw [hD]; exact hc1.mpr w), y, hD⟩
  have mI : ¬ D = -1 → ∀ c0 rest, ep_MI (ep_mk c0 m) (nI h) d rest = (if m.1 144 h = -1 then (Option.bind (eF_12_trap (ep_mk c0 m) (nI h) (code ||| (-2147483648)) 0) (fun q51 => some q51)) else (Option.bind (eF_12_leave (ep_mk c0 m) (nI h) 3 2 0) (fun q54 => some q54))) := by
    intro z c0 rest
    obtain ⟨y1, y2, y3⟩ := mD z
    have tail : eh_J (fun (s47 : eh_F) => some s47) (fun j46 => if m.1 144 h = (-1) then (eh_J (fun (a50 : Int32) => Option.bind (eF_12_trap (ep_mk c0 m) (nI h) (a50 ||| (-2147483648)) 0) (fun q51 => j46 q51)) (fun j49 => if (d &&& 512) = 0 then (if (d &&& 2) = 0 then (j49 5) else (j49 1)) else (j49 9))) else (Option.bind (eF_12_leave (ep_mk c0 m) (nI h) 3 2 0) (fun q54 => j46 q54))) = (if m.1 144 h = -1 then (Option.bind (eF_12_trap (ep_mk c0 m) (nI h) (code ||| (-2147483648)) 0) (fun q51 => some q51)) else (Option.bind (eF_12_leave (ep_mk c0 m) (nI h) 3 2 0) (fun q54 => some q54))) := by
      rw [ep_J, ep_J]
      by_cases w : m.1 144 h = -1
      · rw [if_pos w, if_pos w, hcode]
        by_cases z1 : d &&& 512 = 0
        · rw [if_pos z1, if_pos z1]
          by_cases z2 : d &&& 2 = 0
          · have z3 : ¬ d &&& 32 = 0 := fun z3 => y1 (hd0.mpr ⟨z1, z2, z3⟩)
            rw [if_pos z2, if_pos z2, if_neg z3]
          · rw [if_neg z2, if_neg z2]
        · rw [if_neg z1, if_neg z1]
      · rw [if_neg w, if_neg w]
    unfold ep_MI
    rw [ep_V, x2, ep_rM _ _ 144 (by decide), ep_rM _ _ 145 (by decide), ep_rM _ _ 146 (by decide), ep_rM _ _ 131 (by decide), ep_rM _ _ 133 (by decide), ep_J, ep_J, if_neg y1, ep_J]
    by_cases w : m.1 144 h = -1
    · rw [if_pos w, if_pos i2]
      by_cases v1 : m.1 131 h = 0
      · rw [if_pos v1]
        rw [if_pos w] at tail
        rw [if_pos w]
        exact tail
      · have v2 : m.1 131 h = 1 := hmode.resolve_left v1
        have v3 : ¬ m.1 133 h &&& 2 = 0 := fun v3 => y2 ⟨w, v2, v3⟩
        rw [if_neg v1, if_pos i2, if_neg v3]
        rw [if_pos w] at tail
        rw [if_pos w]
        exact tail
    · rw [if_neg w]
      rw [if_neg w] at tail
      rw [if_neg w]
      exact tail
  rcases hP.2.2 with ⟨hr, h6, -⟩ | ⟨t, e, ho, h6, h5, -⟩
  · -- the system
    have r6 : ∀ m0, (ep_mk c m0).1 124 6 = 0 := fun m0 => by rw [ep_rC2 _ _ _ (by decide) (by decide)]; exact h6
    by_cases y : D = -1
    · right
      refine ⟨fun m0 => ?_, fun c0 rest => ?_⟩
      · unfold eF_7_isInterrupted
        rw [q4, if_pos okH, due, ep_sb, ep_J, if_pos y, if_pos y, ep_J, r6, if_pos rfl]
      · rw [go c0 rest y, if_pos hr]
    · left
      obtain ⟨c', m', t1, t2, t3⟩ := ep_trap_ hR hh (code ||| (-2147483648)) 0
      refine ⟨c', m', fun m0 => ?_, fun c0 rest => ?_, t3.2.2⟩
      · unfold eF_7_isInterrupted
        rw [q4, if_pos okH, due, ep_sb, ep_J, if_neg y, r6, if_pos rfl, if_neg y, if_pos okH, (mD y).2.2, Int32.or_comm, t1 m0, ep_sb]
      · rw [mI y c0 rest, if_pos hr, t2 c0, ep_sb]
  · have hru := ho.2.2.2.1
    have ht := ho.2.1
    have hrn : ¬ m.1 144 h = -1 := by rw [hru]; exact ep_nI_ne_m1 (by omega)
    have r6 : ∀ m0, (ep_mk c m0).1 124 6 = 1 := fun m0 => by rw [ep_rC2 _ _ _ (by decide) (by decide)]; exact h6
    have q5 : ∀ m0, (ep_mk c m0).2.2 5 = eh_fp (nI t) := fun m0 => h5
    have okF := ep_okF ht
    have n10 : ¬ (1 : Int32) = 0 := by decide
    obtain ⟨s7, s8⟩ := hR.2.2.2.2.2.2.2.2.2.1 h hh hrn
    by_cases y : D = -1
    · by_cases z1 : 0 < m.1 145 h
      · by_cases z2 : m.1 146 h < m.1 145 h
        · right
          refine ⟨fun m0 => ?_, fun c0 rest => ?_⟩
          · unfold eF_7_isInterrupted
            rw [q4, if_pos okH, due, ep_sb, ep_J, if_pos y, if_pos y, ep_J, r6, if_neg n10, if_pos okH, ep_rH0 _ _ hh, s7, if_pos z1, if_pos okH, if_pos okH, s8, if_pos z2]
          · rw [go c0 rest y, if_neg hrn, if_pos z1, if_pos z2]
        · left
          obtain ⟨L1, L2, L3⟩ := ep_leave_ hR ho (st := 3) (by decide) (by decide) 4 0
          refine ⟨_, _, fun m0 => ?_, fun c0 rest => ?_, L3⟩
          · unfold eF_7_isInterrupted
            rw [q4, if_pos okH, due, ep_sb, ep_J, if_pos y, if_pos y, ep_J, r6, if_neg n10, if_pos okH, ep_rH0 _ _ hh, s7, if_pos z1, if_pos okH, if_pos okH, s8, if_neg z2, if_pos okH, q5, if_pos okF, L1 m0, ep_sb]
          · rw [go c0 rest y, if_neg hrn, if_pos z1, if_neg z2, L2 c0, ep_sb]
      · right
        refine ⟨fun m0 => ?_, fun c0 rest => ?_⟩
        · unfold eF_7_isInterrupted
          rw [q4, if_pos okH, due, ep_sb, ep_J, if_pos y, if_pos y, ep_J, r6, if_neg n10, if_pos okH, ep_rH0 _ _ hh, s7, if_neg z1]
        · rw [go c0 rest y, if_neg hrn, if_neg z1]
    · left
      obtain ⟨L1, L2, L3⟩ := ep_leave_ hR ho (st := 3) (by decide) (by decide) 2 0
      refine ⟨_, _, fun m0 => ?_, fun c0 rest => ?_, L3⟩
      · unfold eF_7_isInterrupted
        rw [q4, if_pos okH, due, ep_sb, ep_J, if_neg y, r6, if_neg n10, if_pos okH, q5, if_pos okF, L1 m0, ep_sb]
      · rw [mI y c0 rest, if_neg hrn, L2 c0, ep_sb]
