theorem ep_fg_0 (x : Int32) : (nI (ep_fg x) = 0) ↔ ep_fg x = 0 := nI_eq (b := 0) (by have := ep_fg_l x; omega) (by decide)
theorem ep_fg_1 (x : Int32) : (nI (ep_fg x) = 1) ↔ ep_fg x = 1 := nI_eq (b := 1) (by have := ep_fg_l x; omega) (by decide)
theorem ep_fg_32 (x : Int32) : (nI (ep_fg x) = 32) ↔ ep_fg x = 32 := nI_eq (b := 32) (by have := ep_fg_l x; omega) (by decide)
/-- put and set of one value end a step -/
theorem ep_putD {N : Nat} {c : ep_C} {m : ep_M} (hR : ep_R N c m) {h : Nat} {pc : Int32} (hQ : ep_Q c m h pc) (x v : Int32) : ∃ c' m', (∀ m0, eF_7_put (ep_mk c m0) x v = some (ep_mk c' m0)) ∧ (∀ c0, eF_12_set (ep_mk c0 m) (nI h) (nI (ep_fd x)) v = some (ep_mk c0 m')) ∧ ep_D N c' m' h (m.1 144 h) := by
  obtain ⟨c', m', h1, h2, h3⟩ := ep_put_ hR hQ.1 x v
  exact ⟨c', m', h1, h2, ep_D_Y h3 hQ⟩
theorem ep_imm {N : Nat} {c : ep_C} {m : ep_M} (hR : ep_R N c m) {h : Nat} {pc : Int32} (hQ : ep_Q c m h pc) {xi xj w : Nat} (hX : ep_X c m h xi xj w) (x : Int32) : ∃ c' m', (∀ m0, eF_7_reckonWithNumber (ep_mk c m0) x = some (ep_mk c' m0)) ∧ (∀ c0, eF_12_immediate (ep_mk c0 m) (nI h) x (nI (ep_fd x)) (nI (ep_ff x)) (nI (ep_fb x)) (nI (ep_fg x)) (m.1 129 (32 * w + ep_fa x)) (eh_shr x 20) = some (ep_mk c0 m')) ∧ ep_D N c' m' h (m.1 144 h) := by
  have hf := ep_ff_l x
  have hfb := ep_fb_c x
  generalize hl : m.1 129 (32 * w + ep_fa x) = l
  have g0 := ep_fg_0 x
  have g32 := ep_fg_32 x
  obtain ⟨i1, i2, i3⟩ := ep_ill hR hQ x
  -- the class: three endings
  have cbad : (ep_ff x = 1 ∧ ep_fg x ≠ 0) ∨ (ep_ff x = 5 ∧ ep_fg x ≠ 0 ∧ ep_fg x ≠ 32) → ∀ m0, eF_7_reckonWithNumber (ep_mk c m0) x = some (ep_mk (ep_cF c 2 x) m0) := by
    intro hb m0
    unfold eF_7_reckonWithNumber
    rw [ep_V, ep_V, ep_ff_c, ep_fg_c]
    simp only [↓ep_J, g0, g32]
    rcases hb with ⟨z1, z2⟩ | ⟨z1, z2, z3⟩
    · rw [z1]
      simp (decide := true) (disch := first | assumption | decide) only [↓reduceIte, z2]
      exact ep_bnd (i1 m0) rfl
    · rw [z1]
      simp (decide := true) (disch := first | assumption | decide) only [↓reduceIte, z2, z3]
      exact ep_bnd (i1 m0) rfl
  have cok : ∀ sg r, ((ep_ff x ≠ 1 ∧ ep_ff x ≠ 5 ∧ sg = false ∧ r = eh_shr x 20) ∨ ((ep_ff x = 1 ∨ ep_ff x = 5) ∧ ep_fg x = 0 ∧ sg = false ∧ r = nI (ep_fb x)) ∨ (ep_ff x = 5 ∧ ep_fg x = 32 ∧ sg = true ∧ r = nI (ep_fb x))) → ∀ m0, eF_7_reckonWithNumber (ep_mk c m0) x = Option.bind (eF_7_put (ep_mk c m0) x (ep_rk (ep_ff x) sg l r)) (fun q => some q) := by
    intro sg r hb m0
    unfold eF_7_reckonWithNumber
    rw [ep_V, ep_V, ep_ff_c, ep_fg_c, ep_left hX, hl, hfb]
    simp only [↓ep_J, g0, g32]
    have rk := fun sg r => ep_creckoned (ep_mk c m0) hf sg l r
    have rk0 := fun r => rk false r
    have rk1 := fun r => rk true r
    simp only [ep_bi_f, ep_bi_t] at rk0 rk1
    rcases hb with ⟨z1, z2, z3, z4⟩ | ⟨z1, z2, z3, z4⟩ | ⟨z1, z2, z3, z4⟩
    · have e1 : ¬ nI (ep_ff x) = 1 := fun z => z1 ((nI_eq (b := 1) (by omega) (by decide)).mp z)
      have e5 : ¬ nI (ep_ff x) = 5 := fun z => z2 ((nI_eq (b := 5) (by omega) (by decide)).mp z)
      subst z3; subst z4
      simp (decide := true) (disch := first | assumption | decide) only [↓reduceIte, e1, e5, ↓ep_sb, rk0]
    · subst z3; subst z4
      rcases z1 with z1 | z1
      · rw [z1] at rk0 ⊢
        simp (decide := true) (disch := first | assumption | decide) only [↓reduceIte, z2, ↓ep_sb, rk0]
      · rw [z1] at rk0 ⊢
        simp (decide := true) (disch := first | assumption | decide) only [↓reduceIte, z2, ↓ep_sb, rk0]
    · subst z3; subst z4
      rw [z1] at rk1 ⊢
      simp (decide := true) (disch := first | assumption | decide) only [↓reduceIte, z2, ↓ep_sb, rk1]
  by_cases hb : (ep_ff x = 1 ∧ ep_fg x ≠ 0) ∨ (ep_ff x = 5 ∧ ep_fg x ≠ 0 ∧ ep_fg x ≠ 32)
  · refine ⟨_, _, cbad hb, fun c0 => ?_, i3⟩
    unfold eF_12_immediate
    simp only [↓ep_J, g0, g32]
    rcases hb with ⟨z1, z2⟩ | ⟨z1, z2, z3⟩
    · rw [z1]
      simp (decide := true) (disch := first | assumption | decide) only [↓reduceIte, z2]
      exact ep_bnd (i2 c0) rfl
    · rw [z1]
      simp (decide := true) (disch := first | assumption | decide) only [↓reduceIte, z2, z3]
      exact ep_bnd (i2 c0) rfl
  · have hex : ∃ sg r, ((ep_ff x ≠ 1 ∧ ep_ff x ≠ 5 ∧ sg = false ∧ r = eh_shr x 20) ∨ ((ep_ff x = 1 ∨ ep_ff x = 5) ∧ ep_fg x = 0 ∧ sg = false ∧ r = nI (ep_fb x)) ∨ (ep_ff x = 5 ∧ ep_fg x = 32 ∧ sg = true ∧ r = nI (ep_fb x))) := by
      by_cases z1 : ep_ff x = 1
      · refine ⟨false, nI (ep_fb x), Or.inr (Or.inl ⟨Or.inl z1, ?_, rfl, rfl⟩)⟩
        by_cases z : ep_fg x = 0
        · exact z
        · exact absurd (Or.inl ⟨z1, z⟩) hb
      · by_cases z5 : ep_ff x = 5
        · by_cases z : ep_fg x = 0
          · exact ⟨false, nI (ep_fb x), Or.inr (Or.inl ⟨Or.inr z5, z, rfl, rfl⟩)⟩
          · by_cases z3 : ep_fg x = 32
            · exact ⟨true, nI (ep_fb x), Or.inr (Or.inr ⟨z5, z3, rfl, rfl⟩)⟩
            · exact absurd (Or.inr ⟨z5, z, z3⟩) hb
        · exact ⟨false, _, Or.inl ⟨z1, z5, rfl, rfl⟩⟩
    obtain ⟨sg, r, hc⟩ := hex
    obtain ⟨c', m', h1, h2, h3⟩ := ep_putD hR hQ x (ep_rk (ep_ff x) sg l r)
    refine ⟨c', m', fun m0 => ?_, fun c0 => ?_, h3⟩
    · rw [cok sg r hc m0]
      exact ep_bnd (h1 m0) rfl
    · have h2' := h2 c0
      unfold eF_12_immediate
      simp only [↓ep_J, g0, g32]
      rw [ep_mcmpU]
      unfold ep_rk at h2'
      rcases hc with ⟨z1, z2, z3, z4⟩ | ⟨z1, z2, z3, z4⟩ | ⟨z1, z2, z3, z4⟩
      · subst z3; subst z4
        generalize ep_ff x = f at hf z1 z2 h2' ⊢
        rcases ep_f8 hf with rfl | rfl | rfl | rfl | rfl | rfl | rfl | rfl
        · simp (decide := true) (disch := first | assumption | decide) only [↓reduceIte] at h2'
          simp (decide := true) (disch := first | assumption | decide) only [↓reduceIte]
          exact ep_bnd h2' rfl
        · exact absurd rfl z1
        · simp (decide := true) (disch := first | assumption | decide) only [↓reduceIte] at h2'
          simp (decide := true) (disch := first | assumption | decide) only [↓reduceIte]
          by_cases y : l < eh_shr x 20
          · rw [if_pos y]; rw [decide_eq_true y] at h2'; exact ep_bnd h2' rfl
          · rw [if_neg y]; rw [decide_eq_false y] at h2'; exact ep_bnd h2' rfl
        · simp (decide := true) (disch := first | assumption | decide) only [↓reduceIte] at h2'
          simp (decide := true) (disch := first | assumption | decide) only [↓reduceIte, ↓ep_sb]
          cases y : ep_bl l (eh_shr x 20) with
          | true =>
            rw [y] at h2'
            rw [if_pos rfl, if_pos (by decide)]; exact ep_bnd h2' rfl
          | false =>
            rw [y] at h2'
            rw [if_neg (show ¬ (if false = true then (-1 : Int32) else if l = eh_shr x 20 then 0 else 1) < 0 by rw [if_neg (by decide)]; split <;> decide)]; exact ep_bnd h2' rfl
        · simp (decide := true) (disch := first | assumption | decide) only [↓reduceIte] at h2'
          simp (decide := true) (disch := first | assumption | decide) only [↓reduceIte]
          exact ep_bnd h2' rfl
        · exact absurd rfl z2
        · simp (decide := true) (disch := first | assumption | decide) only [↓reduceIte] at h2'
          simp (decide := true) (disch := first | assumption | decide) only [↓reduceIte]
          exact ep_bnd h2' rfl
        · simp (decide := true) (disch := first | assumption | decide) only [↓reduceIte] at h2'
          simp (decide := true) (disch := first | assumption | decide) only [↓reduceIte]
          exact ep_bnd h2' rfl
      · subst z3; subst z4
        rcases z1 with z1 | z1
        · rw [z1] at h2' ⊢
          simp (decide := true) (disch := first | assumption | decide) only [↓reduceIte] at h2'
          simp (decide := true) (disch := first | assumption | decide) only [↓reduceIte, z2]
          exact ep_bnd h2' rfl
        · rw [z1] at h2' ⊢
          simp (decide := true) (disch := first | assumption | decide) only [↓reduceIte] at h2'
          simp (decide := true) (disch := first | assumption | decide) only [↓reduceIte, z2]
          exact ep_bnd h2' rfl
      · subst z3; subst z4
        rw [z1] at h2' ⊢
        simp (decide := true) (disch := first | assumption | decide) only [↓reduceIte] at h2'
        simp (decide := true) (disch := first | assumption | decide) only [↓reduceIte, z2]
        exact ep_bnd h2' rfl
theorem ep_op {N : Nat} {c : ep_C} {m : ep_M} (hR : ep_R N c m) {h : Nat} {pc : Int32} (hQ : ep_Q c m h pc) {xi xj w : Nat} (hX : ep_X c m h xi xj w) (x : Int32) : ∃ c' m', (∀ m0, eF_7_reckonWithRegister (ep_mk c m0) x = some (ep_mk c' m0)) ∧ (∀ c0, eF_12_sums (ep_mk c0 m) (nI h) x (nI (ep_fd x)) (nI (ep_ff x)) (nI (ep_fg x)) (m.1 129 (32 * w + ep_fa x)) (m.1 129 (32 * w + ep_fb x)) = some (ep_mk c0 m')) ∧ ep_D N c' m' h (m.1 144 h) := by
  have hf := ep_ff_l x
  generalize hl : m.1 129 (32 * w + ep_fa x) = l
  generalize hr : m.1 129 (32 * w + ep_fb x) = r
  have g0 := ep_fg_0 x
  have g1 := ep_fg_1 x
  have g32 := ep_fg_32 x
  have f0 : (nI (ep_ff x) = 0) ↔ ep_ff x = 0 := nI_eq (b := 0) (by omega) (by decide)
  have f5 : (nI (ep_ff x) = 5) ↔ ep_ff x = 5 := nI_eq (b := 5) (by omega) (by decide)
  obtain ⟨i1, i2, i3⟩ := ep_ill hR hQ x
  have cu : ∀ m0, eF_7_reckonWithRegister (ep_mk c m0) x = if ep_fg x = 1 then Option.bind (if nI (ep_ff x) < 4 then eF_7_multiplied (ep_mk c m0) (nI (ep_ff x)) l r else eF_7_divided (ep_mk c m0) (nI (ep_ff x)) l r) (fun v => Option.bind (eF_7_put (ep_mk c m0) x v) (fun q => some q)) else if ep_fg x = 32 ∧ ep_ff x = 0 then Option.bind (eF_7_put (ep_mk c m0) x (l - r)) (fun q => some q) else if ep_fg x = 0 ∨ (ep_fg x = 32 ∧ ep_ff x = 5) then Option.bind (eF_7_reckoned (ep_mk c m0) (nI (ep_ff x)) (ep_bi (decide (ep_fg x = 32))) l r) (fun v => Option.bind (eF_7_put (ep_mk c m0) x v) (fun q => some q)) else Option.bind (eF_7_fail (ep_mk c m0) 2 x) (fun q => some q) := by
    intro m0
    unfold eF_7_reckonWithRegister
    rw [ep_V, ep_V, ep_ff_c, ep_fg_c, ep_left hX, ep_sb, ep_right hX, ep_sb, hl, hr]
    simp only [↓ep_J, g0, g1, g32, f0, f5]
    by_cases z1 : ep_fg x = 1
    · rw [if_pos z1, if_pos z1]
      by_cases z4 : nI (ep_ff x) < 4
      · rw [if_pos z4, if_pos z4]
      · rw [if_neg z4, if_neg z4]
    · rw [if_neg z1, if_neg z1]
      by_cases z32 : ep_fg x = 32
      · by_cases zf : ep_ff x = 0
        · simp [z32, zf]
        · by_cases zf5 : ep_ff x = 5
          · simp [z32, zf5, ep_bi]
          · simp [z32, zf, zf5]
      · by_cases z0 : ep_fg x = 0
        · simp [z0, ep_bi]
        · simp [z32, z0]
  have mu : ∀ c0, eF_12_sums (ep_mk c0 m) (nI h) x (nI (ep_fd x)) (nI (ep_ff x)) (nI (ep_fg x)) l r = if ep_fg x = 1 then Option.bind (eF_12_product (ep_mk c0 m) (nI (ep_ff x)) l r) (fun v => Option.bind (eF_12_set (ep_mk c0 m) (nI h) (nI (ep_fd x)) v) (fun q => some q)) else if ep_fg x = 32 ∧ ep_ff x = 0 then Option.bind (eF_12_set (ep_mk c0 m) (nI h) (nI (ep_fd x)) (l - r)) (fun q => some q) else if ep_fg x = 0 ∨ (ep_fg x = 32 ∧ ep_ff x = 5) then Option.bind (eF_12_set (ep_mk c0 m) (nI h) (nI (ep_fd x)) (ep_rk (ep_ff x) (decide (ep_fg x = 32)) l r)) (fun q => some q) else Option.bind (eF_12_except (ep_mk c0 m) 2 x) (fun q => some q) := by
    intro c0
    unfold eF_12_sums
    rw [ep_mplain (ep_mk c0 m) hf]
    simp only [↓ep_J, g0, g1, g32, f0, f5, ↓ep_sb]
    by_cases z1 : ep_fg x = 1
    · simp [z1]
    · by_cases z32 : ep_fg x = 32
      · by_cases zf : ep_ff x = 0
        · simp [z32, zf]
        · by_cases zf5 : ep_ff x = 5
          · simp [z32, zf5, ep_rk]
          · simp [z32, zf, zf5]
      · by_cases z0 : ep_fg x = 0
        · simp [z0]
        · simp [z1, z32, z0]
  by_cases z1 : ep_fg x = 1
  · obtain ⟨v, v1, v2⟩ := ep_cmuldiv hf l r
    obtain ⟨c', m', h1, h2, h3⟩ := ep_putD hR hQ x v
    refine ⟨c', m', fun m0 => ?_, fun c0 => ?_, h3⟩
    · rw [cu m0, if_pos z1]
      refine ep_bnd (v1 _) ?_
      exact ep_bnd (h1 m0) rfl
    · rw [mu c0, if_pos z1]
      refine ep_bnd (v2 _) ?_
      exact ep_bnd (h2 c0) rfl
  · by_cases z2 : ep_fg x = 32 ∧ ep_ff x = 0
    · obtain ⟨c', m', h1, h2, h3⟩ := ep_putD hR hQ x (l - r)
      refine ⟨c', m', fun m0 => ?_, fun c0 => ?_, h3⟩
      · rw [cu m0, if_neg z1, if_pos z2]
        exact ep_bnd (h1 m0) rfl
      · rw [mu c0, if_neg z1, if_pos z2]
        exact ep_bnd (h2 c0) rfl
    · by_cases z3 : ep_fg x = 0 ∨ (ep_fg x = 32 ∧ ep_ff x = 5)
      · obtain ⟨c', m', h1, h2, h3⟩ := ep_putD hR hQ x (ep_rk (ep_ff x) (decide (ep_fg x = 32)) l r)
        refine ⟨c', m', fun m0 => ?_, fun c0 => ?_, h3⟩
        · rw [cu m0, if_neg z1, if_neg z2, if_pos z3]
          refine ep_bnd (ep_creckoned _ hf _ l r) ?_
          exact ep_bnd (h1 m0) rfl
        · rw [mu c0, if_neg z1, if_neg z2, if_pos z3]
          exact ep_bnd (h2 c0) rfl
      · refine ⟨_, _, fun m0 => ?_, fun c0 => ?_, i3⟩
        · rw [cu m0, if_neg z1, if_neg z2, if_neg z3]
          exact ep_bnd (i1 m0) rfl
        · rw [mu c0, if_neg z1, if_neg z2, if_neg z3]
          exact ep_bnd (i2 c0) rfl
