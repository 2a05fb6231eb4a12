/-! a handler is entered -/
def ep_chd (c : ep_C) (t : Nat) (x pc hd a b : Int32) : ep_C := ep_cG (ep_cG c 2 t (upd (upd (upd (upd (upd (upd (upd (c.2.1 2 t) 9 1) 10 a) 11 b) 12 pc) 13 hd) 2 hd) 8 0)) 3 t (upd (upd (c.2.1 3 t) 10 x) 11 pc)
def ep_mhd (m : ep_M) (t : Nat) (x pc hd a b : Int32) : ep_M := ep_mI (ep_mI (ep_mI (ep_mI (ep_mI (ep_mI (ep_mI (ep_mI (ep_mI m 154 (4 * t) a) 154 (4 * t + 1) b) 154 (4 * t + 2) pc) 154 (4 * t + 3) hd) 153 t 1) 129 (32 * (2 + t) + 10) x) 129 (32 * (2 + t) + 11) pc) 130 (2 + t) hd) 152 t 0
theorem ep_R_handle {N : Nat} {c : ep_C} {m : ep_M} (hR : ep_R N c m) {t : Nat} (ht : t < 12) (hs : m.1 148 t ≠ 0) (x a b : Int32) : ep_R N (ep_chd c t x (m.1 130 (2 + t)) (m.1 152 t) a b) (ep_mhd m t x (m.1 130 (2 + t)) (m.1 152 t) a b) := by
  obtain ⟨fa1, fa2, fa3, fa4, fa5⟩ := hR.2.2.2.2.2.2.2.2.2.2.2.1 t ht
  have c2 : ∀ t', (ep_chd c t x (m.1 130 (2 + t)) (m.1 152 t) a b).2.1 2 t' = if t' = t then upd (upd (upd (upd (upd (upd (upd (c.2.1 2 t) 9 1) 10 a) 11 b) 12 (m.1 130 (2 + t))) 13 (m.1 152 t)) 2 (m.1 152 t)) 8 0 else c.2.1 2 t' := by
    intro t'
    unfold ep_chd
    rw [ep_cGi _ _ _ _ _ _ (by decide), ep_cGe]
  have c3 : ∀ t', (ep_chd c t x (m.1 130 (2 + t)) (m.1 152 t) a b).2.1 3 t' = if t' = t then upd (upd (c.2.1 3 t) 10 x) 11 (m.1 130 (2 + t)) else c.2.1 3 t' := by
    intro t'
    unfold ep_chd
    rw [ep_cGe, ep_cGi _ _ _ _ _ _ (by decide)]
  refine ⟨hR.1, hR.2.1, hR.2.2.1, hR.2.2.2.1, hR.2.2.2.2.1, ?_, ?_, ?_, ?_, hR.2.2.2.2.2.2.2.2.2.1, ?_, ?_, ?_, ?_, hR.2.2.2.2.2.2.2.2.2.2.2.2.2.2.1, hR.2.2.2.2.2.2.2.2.2.2.2.2.2.2.2.1, hR.2.2.2.2.2.2.2.2.2.2.2.2.2.2.2.2.1, hR.2.2.2.2.2.2.2.2.2.2.2.2.2.2.2.2.2.1, hR.2.2.2.2.2.2.2.2.2.2.2.2.2.2.2.2.2.2.1, hR.2.2.2.2.2.2.2.2.2.2.2.2.2.2.2.2.2.2.2.1, hR.2.2.2.2.2.2.2.2.2.2.2.2.2.2.2.2.2.2.2.2.1, hR.2.2.2.2.2.2.2.2.2.2.2.2.2.2.2.2.2.2.2.2.2.1, hR.2.2.2.2.2.2.2.2.2.2.2.2.2.2.2.2.2.2.2.2.2.2.1, hR.2.2.2.2.2.2.2.2.2.2.2.2.2.2.2.2.2.2.2.2.2.2.2.1, hR.2.2.2.2.2.2.2.2.2.2.2.2.2.2.2.2.2.2.2.2.2.2.2.2.1, hR.2.2.2.2.2.2.2.2.2.2.2.2.2.2.2.2.2.2.2.2.2.2.2.2.2.1, hR.2.2.2.2.2.2.2.2.2.2.2.2.2.2.2.2.2.2.2.2.2.2.2.2.2.2.1, hR.2.2.2.2.2.2.2.2.2.2.2.2.2.2.2.2.2.2.2.2.2.2.2.2.2.2.2.1, hR.2.2.2.2.2.2.2.2.2.2.2.2.2.2.2.2.2.2.2.2.2.2.2.2.2.2.2.2.1, hR.2.2.2.2.2.2.2.2.2.2.2.2.2.2.2.2.2.2.2.2.2.2.2.2.2.2.2.2.2.1, hR.2.2.2.2.2.2.2.2.2.2.2.2.2.2.2.2.2.2.2.2.2.2.2.2.2.2.2.2.2.2.1, hR.2.2.2.2.2.2.2.2.2.2.2.2.2.2.2.2.2.2.2.2.2.2.2.2.2.2.2.2.2.2.2.1, hR.2.2.2.2.2.2.2.2.2.2.2.2.2.2.2.2.2.2.2.2.2.2.2.2.2.2.2.2.2.2.2.2.1, hR.2.2.2.2.2.2.2.2.2.2.2.2.2.2.2.2.2.2.2.2.2.2.2.2.2.2.2.2.2.2.2.2.2⟩
  · -- hx
    intro h' hh' j hj
    show c.2.1 1 h' j = upd (upd (m.1 129) (32 * (2 + t) + 10) x) (32 * (2 + t) + 11) (m.1 130 (2 + t)) (32 * h' + j)
    rw [ep_upd_ne (by omega), ep_upd_ne (by omega)]; exact hR.2.2.2.2.2.1 h' hh' j hj
  · -- x0
    intro h' hh'
    show upd (upd (m.1 129) (32 * (2 + t) + 10) x) (32 * (2 + t) + 11) (m.1 130 (2 + t)) (32 * h') = 0
    rw [ep_upd_ne (by omega), ep_upd_ne (by omega)]; exact hR.2.2.2.2.2.2.1 h' hh'
  · -- h
    intro h' hh'
    obtain ⟨a0, a2, a3⟩ := hR.2.2.2.2.2.2.2.1 h' hh'
    exact ⟨a0, (by show c.2.1 0 h' 2 = upd (m.1 130) (2 + t) (m.1 152 t) h'; rw [ep_upd_ne (by omega)]; exact a2), a3⟩
  · -- ha
    intro h' hh'
    obtain ⟨b1, b2⟩ := hR.2.2.2.2.2.2.2.2.1 h' hh'
    exact ⟨(by show ep_al (upd (m.1 130) (2 + t) (m.1 152 t) h'); rw [ep_upd_ne (by omega)]; exact b1), b2⟩
  · -- f
    intro t' ht'
    rw [c2]
    obtain ⟨a0, a2, a3, a4, a5, a6, a8, a9, a10, a11, a12, a13⟩ := hR.2.2.2.2.2.2.2.2.2.2.1 t' ht'
    show (if t' = t then _ else c.2.1 2 t') 0 = nI t' ∧ (if t' = t then _ else c.2.1 2 t') 2 = upd (m.1 130) (2 + t) (m.1 152 t) (2 + t') ∧ (if t' = t then _ else c.2.1 2 t') 3 = m.1 149 t' ∧ (if t' = t then _ else c.2.1 2 t') 4 = m.1 150 t' ∧ (if t' = t then _ else c.2.1 2 t') 5 = m.1 151 t' ∧ (if t' = t then _ else c.2.1 2 t') 6 = m.1 148 t' ∧ (if t' = t then _ else c.2.1 2 t') 8 = upd (m.1 152) t 0 t' ∧ (if t' = t then _ else c.2.1 2 t') 9 = upd (m.1 153) t 1 t' ∧ (if t' = t then _ else c.2.1 2 t') 10 = upd (upd (upd (upd (m.1 154) (4 * t) a) (4 * t + 1) b) (4 * t + 2) (m.1 130 (2 + t))) (4 * t + 3) (m.1 152 t) (4 * t') ∧ (if t' = t then _ else c.2.1 2 t') 11 = upd (upd (upd (upd (m.1 154) (4 * t) a) (4 * t + 1) b) (4 * t + 2) (m.1 130 (2 + t))) (4 * t + 3) (m.1 152 t) (4 * t' + 1) ∧ (if t' = t then _ else c.2.1 2 t') 12 = upd (upd (upd (upd (m.1 154) (4 * t) a) (4 * t + 1) b) (4 * t + 2) (m.1 130 (2 + t))) (4 * t + 3) (m.1 152 t) (4 * t' + 2) ∧ (if t' = t then _ else c.2.1 2 t') 13 = upd (upd (upd (upd (m.1 154) (4 * t) a) (4 * t + 1) b) (4 * t + 2) (m.1 130 (2 + t))) (4 * t + 3) (m.1 152 t) (4 * t' + 3)
    by_cases e1 : t' = t
    · subst e1
      rw [if_pos rfl]
      simp only [ep_upd_eq, ep_upd_ne (show 4 * t' ≠ 4 * t' + 3 by omega), ep_upd_ne (show 4 * t' ≠ 4 * t' + 2 by omega), ep_upd_ne (show 4 * t' ≠ 4 * t' + 1 by omega), ep_upd_ne (show 4 * t' + 1 ≠ 4 * t' + 3 by omega), ep_upd_ne (show 4 * t' + 1 ≠ 4 * t' + 2 by omega), ep_upd_ne (show 4 * t' + 2 ≠ 4 * t' + 3 by omega)]
      refine ⟨a0, ?_, a3, a4, a5, a6, ?_, ?_, ?_, ?_, ?_, ?_⟩ <;> first | exact True.intro | rfl
    · rw [if_neg e1]
      rw [ep_upd_ne (show 2 + t' ≠ 2 + t by omega), ep_upd_ne e1, ep_upd_ne e1, ep_upd_ne (show 4 * t' ≠ 4 * t + 3 by omega), ep_upd_ne (show 4 * t' ≠ 4 * t + 2 by omega), ep_upd_ne (show 4 * t' ≠ 4 * t + 1 by omega), ep_upd_ne (show 4 * t' ≠ 4 * t by omega), ep_upd_ne (show 4 * t' + 1 ≠ 4 * t + 3 by omega), ep_upd_ne (show 4 * t' + 1 ≠ 4 * t + 2 by omega), ep_upd_ne (show 4 * t' + 1 ≠ 4 * t + 1 by omega), ep_upd_ne (show 4 * t' + 1 ≠ 4 * t by omega), ep_upd_ne (show 4 * t' + 2 ≠ 4 * t + 3 by omega), ep_upd_ne (show 4 * t' + 2 ≠ 4 * t + 2 by omega), ep_upd_ne (show 4 * t' + 2 ≠ 4 * t + 1 by omega), ep_upd_ne (show 4 * t' + 2 ≠ 4 * t by omega), ep_upd_ne (show 4 * t' + 3 ≠ 4 * t + 3 by omega), ep_upd_ne (show 4 * t' + 3 ≠ 4 * t + 2 by omega), ep_upd_ne (show 4 * t' + 3 ≠ 4 * t + 1 by omega), ep_upd_ne (show 4 * t' + 3 ≠ 4 * t by omega)]
      exact ⟨a0, a2, a3, a4, a5, a6, a8, a9, a10, a11, a12, a13⟩
  · -- fa
    intro t' ht'
    obtain ⟨b1, b2, b3, b4, b5⟩ := hR.2.2.2.2.2.2.2.2.2.2.2.1 t' ht'
    show ep_al (upd (m.1 130) (2 + t) (m.1 152 t) (2 + t')) ∧ ep_al (upd (m.1 152) t 0 t') ∧ ep_bo (upd (m.1 153) t 1 t') ∧ ep_al (upd (upd (upd (upd (m.1 154) (4 * t) a) (4 * t + 1) b) (4 * t + 2) (m.1 130 (2 + t))) (4 * t + 3) (m.1 152 t) (4 * t' + 2)) ∧ ep_al (upd (upd (upd (upd (m.1 154) (4 * t) a) (4 * t + 1) b) (4 * t + 2) (m.1 130 (2 + t))) (4 * t + 3) (m.1 152 t) (4 * t' + 3))
    by_cases e1 : t' = t
    · subst e1
      simp only [ep_upd_eq, ep_upd_ne (show 4 * t' + 2 ≠ 4 * t' + 3 by omega)]
      exact ⟨fa2, rfl, Or.inr rfl, fa1, fa2⟩
    · rw [ep_upd_ne (show 2 + t' ≠ 2 + t by omega), ep_upd_ne e1, ep_upd_ne e1, ep_upd_ne (show 4 * t' + 2 ≠ 4 * t + 3 by omega), ep_upd_ne (show 4 * t' + 2 ≠ 4 * t + 2 by omega), ep_upd_ne (show 4 * t' + 2 ≠ 4 * t + 1 by omega), ep_upd_ne (show 4 * t' + 2 ≠ 4 * t by omega), ep_upd_ne (show 4 * t' + 3 ≠ 4 * t + 3 by omega), ep_upd_ne (show 4 * t' + 3 ≠ 4 * t + 2 by omega), ep_upd_ne (show 4 * t' + 3 ≠ 4 * t + 1 by omega), ep_upd_ne (show 4 * t' + 3 ≠ 4 * t by omega)]
      exact ⟨b1, b2, b3, b4, b5⟩
  · -- fx
    intro t' ht' hs' j hj
    rw [c3]
    have g := hR.2.2.2.2.2.2.2.2.2.2.2.2.1 t' ht' hs' j hj
    show (if t' = t then upd (upd (c.2.1 3 t) 10 x) 11 (m.1 130 (2 + t)) else c.2.1 3 t') j = upd (upd (m.1 129) (32 * (2 + t) + 10) x) (32 * (2 + t) + 11) (m.1 130 (2 + t)) (32 * (2 + t') + j)
    by_cases e1 : t' = t
    · subst e1
      rw [if_pos rfl]
      unfold upd
      by_cases z1 : j = 11
      · subst z1; simp
      · by_cases z2 : j = 10
        · subst z2; simp
        · simp [z1, z2, g]
    · rw [if_neg e1, ep_upd_ne (by omega), ep_upd_ne (by omega)]; exact g
  · -- fh
    intro t' ht' hs'
    rw [c2]
    by_cases e1 : t' = t
    · subst e1; rw [if_pos rfl]; exact hR.2.2.2.2.2.2.2.2.2.2.2.2.2.1 t' ht' hs'
    · rw [if_neg e1]; exact hR.2.2.2.2.2.2.2.2.2.2.2.2.2.1 t' ht' hs'
theorem ep_chandle {c : ep_C} {t : Nat} (ht : t < 12) (x : Int32) (m0 : ep_M) : eF_2_handle (ep_mk c m0) (eh_fp (nI t)) x = some (ep_mk (ep_chd c t x (c.2.1 2 t 2) (c.2.1 2 t 8) (c.2.1 3 t 10) (c.2.1 3 t 11)) m0) := by
  unfold eF_2_handle
  rw [ep_V, ep_iF0 _ _ _ _ ht, ep_V, ep_rF1 _ _ ht, ep_iF0 _ _ _ _ ht, ep_V, ep_rF1 _ _ ht, ep_iF0 _ _ _ _ ht, ep_V, ep_rF0 _ _ ht, ep_iF0 _ _ _ _ ht, ep_V, ep_rF0 _ _ ht, ep_iF0 _ _ _ _ ht, ep_V, ep_iF1 _ _ _ _ ht, ep_V, ep_rF0 _ _ ht, ep_iF1 _ _ _ _ ht, ep_V, ep_rF0 _ _ ht, ep_iF0 _ _ _ _ ht, ep_V, ep_iF0 _ _ _ _ ht]
  congr 2
  simp (disch := first | assumption | decide) only [ep_cHs, ep_cHi, ep_upd_ne]
  unfold ep_chd
  refine Prod.ext rfl (Prod.ext ?_ rfl)
  funext i j
  simp only [ep_cH, ep_cG, ep_ug]
  by_cases h1 : i = 2
  · subst h1
    by_cases h2 : j = t
    · subst h2; simp
    · simp [h2]
  · by_cases h3 : i = 3
    · subst h3
      by_cases h2 : j = t
      · subst h2; simp
      · simp [h2]
    · simp [h1, h3]
