/-! overlapping -/
def ep_fr (P : Nat → Int32) (b n : Nat) : Bool := ep_all (fun i => decide (P (b + i) = -1)) n
theorem ep_fr_t {P : Nat → Int32} {b n : Nat} (h : ep_fr P b n = true) : ∀ p, b ≤ p → p < b + n → P p = -1 := by
  intro p h1 h2
  have := ep_all_iff.mp h (p - b) (by omega)
  rw [show b + (p - b) = p by omega, decide_eq_true_eq] at this
  exact this
theorem ep_cover (c : ep_C) (m0 : ep_M) {b n : Nat} (h : b + n ≤ 512) : eF_6_overlaps (ep_mk c m0) (nI (256 * b)) (nI (256 * n)) = some (ep_bi (!ep_fr (c.1 10) b n)) := by
  have q4 : eh_shr (nI (256 * b) + nI (256 * n)) 8 = nI (b + n) := by
    rw [nI_add, show (8 : Int32) = nI 8 from rfl, ep_shrn (by omega) (by decide)]; congr 1; omega
  have q5 : eh_shr (nI (256 * b)) 8 = nI b := by rw [show (8 : Int32) = nI 8 from rfl, ep_shrn (by omega) (by decide)]; congr 1; omega
  unfold eF_6_overlaps
  rw [ep_V, q4, q5]
  refine ep_lpf (fun i => nI (b + i)) n (fun i => decide (c.1 10 (b + i) = -1)) (fun _ => .inr ()) (.inl ()) (by omega) rfl ?_ ?_ ?_ ?_ ?_
  · intro i hi hb rec
    have z1 : nI (b + i) < nI (b + n) := nI_lt (by omega) (by omega)
    have z2 : ¬ nI (b + i) < 0 := nI_pos (by omega)
    have z3 : nI (b + i) < 512 := nI_lt (b := 512) (by omega) (by decide)
    rw [if_pos z1, if_neg z2, if_pos z3, if_pos (ep_in (by omega) (by decide)), show eh_ix (nI (b + i)) = b + i from ep_ix (by omega), ep_rC1 _ _ _ (by decide), if_pos (of_decide_eq_true hb), ep_V, nI_1]
    rfl
  · intro i hi hb rec
    have z1 : nI (b + i) < nI (b + n) := nI_lt (by omega) (by omega)
    have z2 : ¬ nI (b + i) < 0 := nI_pos (by omega)
    have z3 : nI (b + i) < 512 := nI_lt (b := 512) (by omega) (by decide)
    rw [if_pos z1, if_neg z2, if_pos z3, if_pos (ep_in (by omega) (by decide)), show eh_ix (nI (b + i)) = b + i from ep_ix (by omega), ep_rC1 _ _ _ (by decide), if_neg (of_decide_eq_false hb)]
  · intro rec
    rw [if_neg (nI_nlt (Nat.le_refl _) (by omega))]
  · intro h'
    have : ep_fr (c.1 10) b n = true := ep_all_iff.mpr h'
    rw [this]; rfl
  · intro j hj hb _
    have : ep_fr (c.1 10) b n = false := by
      cases hh : ep_fr (c.1 10) b n with
      | false => rfl
      | true =>
        have := ep_all_iff.mp hh j hj
        rw [hb] at this
        exact absurd this (by decide)
    rw [this]; rfl
theorem ep_mover {N : Nat} {c : ep_C} {m : ep_M} (hR : ep_R N c m) {b n : Nat} (hn : 0 < n) (h : b + n ≤ 512) (c0 : ep_C) : eF_12_isOverlap (ep_mk c0 m) (nI (256 * b)) (nI (256 * n)) = some (ep_bi (!ep_fr (c.1 10) b n)) := by
  have hG := hR.2.2.2.1
  let bb : Nat → Bool := fun j => !(decide (m.1 164 j ≠ 0) && decide (nI (256 * b) < m.1 165 j + m.1 166 j) && decide (m.1 165 j < nI (256 * b + 256 * n)))
  have hbb : ep_all bb 12 = ep_fr (c.1 10) b n := by
    unfold ep_fr
    rw [Bool.eq_iff_iff, ep_all_iff, ep_all_iff]
    constructor
    · intro h' i hi
      rw [decide_eq_true_eq]
      rcases hG.2.1 (b + i) (by omega) with g | ⟨k, hk, g, gs⟩
      · exact g
      · have := h' k hk
        have hc := (ep_ovl (hG.1 k hk gs).2.1 (show 0 < 256 * n by omega) (show 256 * b + 256 * n ≤ 131072 by omega)).mpr ⟨b + i, by omega, by omega, g⟩
        simp [bb, gs, hc.1, hc.2] at this
    · intro h' k hk
      show (!(decide (m.1 164 k ≠ 0) && decide (nI (256 * b) < m.1 165 k + m.1 166 k) && decide (m.1 165 k < nI (256 * b + 256 * n)))) = true
      by_cases z1 : m.1 164 k = 0
      · simp [z1]
      · by_cases z4 : nI (256 * b) < m.1 165 k + m.1 166 k
        · by_cases z5 : m.1 165 k < nI (256 * b + 256 * n)
          · obtain ⟨p, p1, p2, p3⟩ := (ep_ovl (hG.1 k hk z1).2.1 (show 0 < 256 * n by omega) (show 256 * b + 256 * n ≤ 131072 by omega)).mp ⟨z4, z5⟩
            have := h' (p - b) (by omega)
            rw [decide_eq_true_eq, show b + (p - b) = p by omega, p3] at this
            exact absurd this (ep_nI_ne_m1 (by omega))
          · simp [z5]
        · simp [z4]
  unfold eF_12_isOverlap
  rw [nI_add]
  refine ep_lp (fun i => (ep_bi (!ep_all bb i), nI i)) 12 (ep_bi (!ep_all bb 12)) (by decide) rfl ?_ ?_ (by rw [if_pos (ep_bi_bo _), hbb])
  · intro i hi rec
    have q1 : nI i < 12 := ep_lt (b := 12) hi (by decide) rfl
    have q2 : eh_in (nI i) 12 = true := ep_in hi (by decide)
    have q3 : eh_ix (nI i) = i := ep_ix (by omega)
    simp (disch := first | assumption | decide) only [ep_V, ep_J, ep_sb, ep_rC1, ep_rC2, ep_rM, ep_rJ, ep_rQ, ep_wC1, ep_wC2, ep_wM, ep_iC1, ep_iC2, ep_iM, ep_wJ, ep_wQ, ep_cI1, ep_cIn, ep_cI2, ep_cL1, ep_cLn, ep_cL2, ep_cG1, ep_cGq, ep_cQ1, ep_cQ2, ep_cQq, ep_cQn, ep_mI1, ep_mIn, ep_mI2, ep_mL1, ep_mLn, ep_mL2, ep_mJ1, ep_mJ2, q1, q2, q3, if_true, nI_1, ep_bi_0]
    show _ = rec (ep_bi (!(ep_all bb i && bb i)), nI (i + 1))
    by_cases h' : ep_all bb i = false
    · simp [h', ep_bi]
    · have h' : ep_all bb i = true := by simpa using h'
      simp only [h', Bool.true_and, bb]
      by_cases z1 : m.1 164 i = 0
      · simp [z1, ep_bi]
      · by_cases z4 : nI (256 * b) < m.1 165 i + m.1 166 i
        · by_cases z5 : m.1 165 i < nI (256 * b + 256 * n)
          · simp [z1, z4, z5, ep_bi]
          · simp [z1, z4, z5, ep_bi]
        · simp [z1, z4, ep_bi]
  · intro rec
    rw [if_neg (show ¬ nI 12 < 12 by decide)]
/-- pages marked -/
theorem ep_cmark (c : ep_C) (m0 : ep_M) {k b n : Nat} (hk : k < 12) (h : b + n ≤ 512) (h4 : c.1 4 k = nI (256 * b)) (h5 : c.1 5 k = nI (256 * n)) (v : Int32) : eF_6_markPages (ep_mk c m0) (nI k) v = some (ep_mk (ep_cL c 10 (ep_in_ (c.1 10) b n fun _ => v)) m0) := by
  have i12 : eh_in (nI k) 12 = true := ep_in hk (by decide)
  have x12 : eh_ix (nI k) = k := ep_ix (by omega)
  have q5 : eh_shr (nI (256 * b)) 8 = nI b := by rw [show (8 : Int32) = nI 8 from rfl, ep_shrn (by omega) (by decide)]; congr 1; omega
  have q6 : eh_shr (nI (256 * n)) 8 = nI n := by rw [show (8 : Int32) = nI 8 from rfl, ep_shrn (by omega) (by decide)]; congr 1; omega
  unfold eF_6_markPages
  rw [if_pos i12, x12, ep_rC1 _ _ _ (by decide), h4, q5, ep_V, if_pos i12, ep_rC1 _ _ _ (by decide), h5, q6, ep_V, nI_add]
  refine ep_lp (fun i => (nI (b + i), ep_mk (ep_cL c 10 (ep_in_ (c.1 10) b i fun _ => v)) m0)) n _ (by omega) ?_ ?_ ?_ rfl
  · show _ = (nI b, ep_mk (ep_cL c 10 (ep_in_ (c.1 10) b 0 _)) m0)
    rw [ep_in_0, ep_cLid]
  · intro i hi rec
    have z1 : nI (b + i) < nI (b + n) := nI_lt (by omega) (by omega)
    have z3 : nI (b + i) < 512 := nI_lt (b := 512) (by omega) (by decide)
    show (if nI (b + i) < nI (b + n) then _ else _) = _
    rw [if_pos z1, if_pos z3, if_pos (ep_in (by omega) (by decide)), show eh_ix (nI (b + i)) = b + i from ep_ix (by omega), ep_V, ep_iC1 _ _ _ _ _ (by decide), ep_V, nI_1]
    unfold ep_cI
    rw [ep_cL1, ep_in_s (g := fun _ => v), ep_cLL]
    rfl
  · intro rec
    show (if nI (b + n) < nI (b + n) then _ else _) = _
    rw [if_neg (nI_nlt (Nat.le_refl _) (by omega))]
