/-! instructions, in both -/
theorem ep_D_Y2 {N N' : Nat} {c c' : ep_C} {m m' : ep_M} {h : Nat} {r : Int32} (hD : ep_D N c m h r) (hY : ep_Y N' c m c' m') : ep_D N' c' m' h r := by
  have hP := ep_Pr_Y hY hD.2.1
  obtain ⟨⟨xi, xj, f, -, rfl⟩, ⟨g, rfl⟩, hR⟩ := hY
  exact ⟨hR, hP, hD.2.2⟩
theorem ep_cgoTo (c : ep_C) {tgt : Int32} (h : tgt &&& 3 = 0) (m0 : ep_M) : eF_7_goTo (ep_mk c m0) tgt = some (1, ep_mk (ep_cI c 124 9 tgt) m0) := by
  unfold eF_7_goTo
  rw [if_pos h, ep_V, ep_iC2 _ _ _ _ _ (by decide) (by decide)]
theorem ep_cgoTo' (c : ep_C) {tgt : Int32} (h : ¬ tgt &&& 3 = 0) (m0 : ep_M) : eF_7_goTo (ep_mk c m0) tgt = some (0, ep_mk (ep_cF c 0 tgt) m0) := by
  unfold eF_7_goTo
  rw [if_neg h, ep_cfail, ep_sb]
theorem ep_mjump (m : ep_M) {tgt : Int32} (h : tgt &&& 3 = 0) (c0 : ep_C) : eF_12_jump (ep_mk c0 m) tgt = some (ep_mk c0 (ep_mI m 127 85 tgt)) := by
  unfold eF_12_jump
  rw [ep_J, if_pos h, ep_V, ep_iM _ _ _ _ _ (by decide)]
theorem ep_mjump' (m : ep_M) {tgt : Int32} (h : ¬ tgt &&& 3 = 0) (c0 : ep_C) : eF_12_jump (ep_mk c0 m) tgt = some (ep_mk c0 (ep_mF m 0 tgt)) := by
  unfold eF_12_jump
  rw [ep_J, if_neg h, ep_mexcept, ep_sb]
theorem ep_D_next {N : Nat} {c : ep_C} {m : ep_M} (hR : ep_R N c m) {h : Nat} {pc : Int32} (hQ : ep_Q c m h pc) {tgt : Int32} (ht : tgt &&& 3 = 0) : ep_D N (ep_cI c 124 9 tgt) (ep_mI m 127 85 tgt) h (m.1 144 h) :=
  ⟨⟨hR.1, hR.2.1, hR.2.2.1, hR.2.2.2.1, hR.2.2.2.2.1, hR.2.2.2.2.2.1, hR.2.2.2.2.2.2.1, hR.2.2.2.2.2.2.2.1, hR.2.2.2.2.2.2.2.2.1, hR.2.2.2.2.2.2.2.2.2.1, hR.2.2.2.2.2.2.2.2.2.2.1, hR.2.2.2.2.2.2.2.2.2.2.2.1, hR.2.2.2.2.2.2.2.2.2.2.2.2.1, hR.2.2.2.2.2.2.2.2.2.2.2.2.2.1, hR.2.2.2.2.2.2.2.2.2.2.2.2.2.2.1, hR.2.2.2.2.2.2.2.2.2.2.2.2.2.2.2.1, hR.2.2.2.2.2.2.2.2.2.2.2.2.2.2.2.2.1, hR.2.2.2.2.2.2.2.2.2.2.2.2.2.2.2.2.2.1, hR.2.2.2.2.2.2.2.2.2.2.2.2.2.2.2.2.2.2.1, hR.2.2.2.2.2.2.2.2.2.2.2.2.2.2.2.2.2.2.2.1, hR.2.2.2.2.2.2.2.2.2.2.2.2.2.2.2.2.2.2.2.2.1, hR.2.2.2.2.2.2.2.2.2.2.2.2.2.2.2.2.2.2.2.2.2.1, hR.2.2.2.2.2.2.2.2.2.2.2.2.2.2.2.2.2.2.2.2.2.2.1, hR.2.2.2.2.2.2.2.2.2.2.2.2.2.2.2.2.2.2.2.2.2.2.2.1, hR.2.2.2.2.2.2.2.2.2.2.2.2.2.2.2.2.2.2.2.2.2.2.2.2.1, hR.2.2.2.2.2.2.2.2.2.2.2.2.2.2.2.2.2.2.2.2.2.2.2.2.2.1, hR.2.2.2.2.2.2.2.2.2.2.2.2.2.2.2.2.2.2.2.2.2.2.2.2.2.2.1, hR.2.2.2.2.2.2.2.2.2.2.2.2.2.2.2.2.2.2.2.2.2.2.2.2.2.2.2.1, hR.2.2.2.2.2.2.2.2.2.2.2.2.2.2.2.2.2.2.2.2.2.2.2.2.2.2.2.2.1, hR.2.2.2.2.2.2.2.2.2.2.2.2.2.2.2.2.2.2.2.2.2.2.2.2.2.2.2.2.2.1, hR.2.2.2.2.2.2.2.2.2.2.2.2.2.2.2.2.2.2.2.2.2.2.2.2.2.2.2.2.2.2.1, hR.2.2.2.2.2.2.2.2.2.2.2.2.2.2.2.2.2.2.2.2.2.2.2.2.2.2.2.2.2.2.2.1, hR.2.2.2.2.2.2.2.2.2.2.2.2.2.2.2.2.2.2.2.2.2.2.2.2.2.2.2.2.2.2.2.2.1, hR.2.2.2.2.2.2.2.2.2.2.2.2.2.2.2.2.2.2.2.2.2.2.2.2.2.2.2.2.2.2.2.2.2⟩, hQ.1, hQ.2.2.2.2.2.2.2, Or.inl ⟨hQ.2.2.2.2.2.1, hQ.2.2.2.2.2.2.1, rfl, ht⟩, rfl⟩
theorem ep_jump_ {N : Nat} {c : ep_C} {m : ep_M} (hR : ep_R N c m) {h : Nat} {pc : Int32} (hQ : ep_Q c m h pc) (x tgt : Int32) : ∃ c' m', (∀ m0, eF_7_jump (ep_mk c m0) x tgt = some (ep_mk c' m0)) ∧ (∀ c0, Option.bind (eF_12_jump (ep_mk c0 m) tgt) (fun q43 => if (q43.1 127 83) = (-1) then (Option.bind (eF_12_set q43 (nI h) (nI (ep_fd x)) (pc + 4)) (fun q45 => some q45)) else (some q43)) = some (ep_mk c0 m')) ∧ ep_D N c' m' h (m.1 144 h) := by
  by_cases ht : tgt &&& 3 = 0
  · have hD := ep_D_next hR hQ ht
    obtain ⟨c', m', h1, h2, h3⟩ := ep_put_ hD.1 hD.2.1 x (pc + 4)
    refine ⟨c', m', fun m0 => ?_, fun c0 => ?_, ep_D_Y2 hD h3⟩
    · unfold eF_7_jump
      rw [ep_cgoTo c ht, ep_sb, ep_J, if_neg (show ¬ (1 : Int32) = 0 by decide)]
      rw [show (ep_mk (ep_cI c 124 9 tgt) m0).1 124 8 = pc from by rw [ep_rC2 _ _ _ (by decide) (by decide)]; exact hQ.2.1]
      exact ep_bnd (h1 m0) rfl
    · refine ep_bnd (ep_mjump m ht c0) ?_
      rw [if_pos (show (ep_mk c0 (ep_mI m 127 85 tgt)).1 127 83 = -1 from by rw [ep_rM _ _ _ (by decide)]; exact hQ.2.2.2.2.2.2.1)]
      exact ep_bnd (h2 c0) rfl
  · refine ⟨_, _, fun m0 => ?_, fun c0 => ?_, ep_D_F hR hQ (x := 0) (by decide) tgt⟩
    · unfold eF_7_jump
      rw [ep_cgoTo' c ht, ep_sb, ep_J, if_pos rfl]
    · refine ep_bnd (ep_mjump' m ht c0) ?_
      rw [if_neg]
      rw [ep_rM _ _ _ (by decide)]
      show ¬ (0 : Int32) = -1
      decide
/-- an instruction that isn't one -/
theorem ep_ill {N : Nat} {c : ep_C} {m : ep_M} (hR : ep_R N c m) {h : Nat} {pc : Int32} (hQ : ep_Q c m h pc) (x : Int32) : (∀ m0, eF_7_fail (ep_mk c m0) 2 x = some (ep_mk (ep_cF c 2 x) m0)) ∧ (∀ c0, eF_12_except (ep_mk c0 m) 2 x = some (ep_mk c0 (ep_mF m 2 x))) ∧ ep_D N (ep_cF c 2 x) (ep_mF m 2 x) h (m.1 144 h) :=
  ⟨fun m0 => ep_cfail c 2 x m0, fun c0 => ep_mexcept m 2 x c0, ep_D_F hR hQ (by decide) x⟩
theorem ep_jalr {N : Nat} {c : ep_C} {m : ep_M} (hR : ep_R N c m) {h : Nat} {pc : Int32} (hQ : ep_Q c m h pc) {xi xj w : Nat} (hX : ep_X c m h xi xj w) (x : Int32) : ∃ c' m', (∀ m0, eF_7_jumpToRegister (ep_mk c m0) x = some (ep_mk c' m0)) ∧ (∀ c0, (if nI (ep_ff x) = 0 then (Option.bind (eF_12_jump (ep_mk c0 m) ((m.1 129 (32 * w + ep_fa x) + eh_shr x 20) &&& (-2))) (fun q43 => if (q43.1 127 83) = (-1) then (Option.bind (eF_12_set q43 (nI h) (nI (ep_fd x)) (pc + 4)) (fun q45 => some q45)) else (some q43))) else (Option.bind (eF_12_except (ep_mk c0 m) 2 x) (fun q46 => some q46))) = some (ep_mk c0 m')) ∧ ep_D N c' m' h (m.1 144 h) := by
  by_cases hf : nI (ep_ff x) = 0
  · obtain ⟨c', m', h1, h2, h3⟩ := ep_jump_ hR hQ x ((m.1 129 (32 * w + ep_fa x) + eh_shr x 20) &&& (-2))
    refine ⟨c', m', fun m0 => ?_, fun c0 => ?_, h3⟩
    · unfold eF_7_jumpToRegister
      rw [ep_J, ep_ff_c, if_pos hf]
      refine ep_bnd (ep_left hX x m0) ?_
      exact ep_bnd (h1 m0) rfl
    · rw [if_pos hf]; exact h2 c0
  · obtain ⟨h1, h2, h3⟩ := ep_ill hR hQ x
    refine ⟨_, _, fun m0 => ?_, fun c0 => ?_, h3⟩
    · unfold eF_7_jumpToRegister
      rw [ep_J, ep_ff_c, if_neg hf]
      exact ep_bnd (h1 m0) rfl
    · rw [if_neg hf]; exact ep_bnd (h2 c0) rfl
/-- whether a branch is taken -/
def ep_tk (f : Nat) (l r : Int32) : Bool := if f = 0 then decide (l = r) else if f = 1 then !decide (l = r) else if f = 4 then decide (l < r) else if f = 5 then !decide (l < r) else if f = 6 then ep_bl l r else !ep_bl l r
theorem ep_mtaken (s : eh_F) {f : Nat} (hf : f < 8) (h2 : f ≠ 2) (h3 : f ≠ 3) (l r : Int32) : eF_12_isTaken s (nI f) l r = some (ep_bi (ep_tk f l r)) := by
  unfold eF_12_isTaken ep_tk
  rw [ep_mcmpU]
  rcases ep_f8 hf with rfl | rfl | rfl | rfl | rfl | rfl | rfl | rfl
  · simp (decide := true) (disch := first | assumption | decide) only [↓reduceIte, ↓ep_J]
    by_cases z : l = r <;> simp [z, ep_bi]
  · simp (decide := true) (disch := first | assumption | decide) only [↓reduceIte, ↓ep_J]
    by_cases z : l = r <;> simp [z, ep_bi]
  · exact absurd rfl h2
  · exact absurd rfl h3
  · simp (decide := true) (disch := first | assumption | decide) only [↓reduceIte, ↓ep_J]
    by_cases z : l < r <;> simp [z, ep_bi]
  · simp (decide := true) (disch := first | assumption | decide) only [↓reduceIte, ↓ep_J]
    by_cases z : l < r <;> simp [z, ep_bi]
  · simp (decide := true) (disch := first | assumption | decide) only [↓reduceIte, ↓ep_J, ↓ep_sb]
    cases z : ep_bl l r with
    | true => simp [ep_bi]
    | false => by_cases z2 : l = r <;> simp [z2, ep_bi] <;> decide
  · simp (decide := true) (disch := first | assumption | decide) only [↓reduceIte, ↓ep_J, ↓ep_sb]
    cases z : ep_bl l r with
    | true => simp [ep_bi]
    | false => by_cases z2 : l = r <;> simp [z2, ep_bi] <;> decide
theorem ep_branch {N : Nat} {c : ep_C} {m : ep_M} (hR : ep_R N c m) {h : Nat} {pc : Int32} (hQ : ep_Q c m h pc) {xi xj w : Nat} (hX : ep_X c m h xi xj w) (x : Int32) : ∃ c' m', (∀ m0, eF_7_branch (ep_mk c m0) x = some (ep_mk c' m0)) ∧ (∀ c0, eh_J (fun (u34 : Unit) => Option.bind (eF_12_except (ep_mk c0 m) 2 x) (fun q35 => some q35)) (fun j33 => if nI (ep_ff x) = 2 then (j33 ()) else (if nI (ep_ff x) = 3 then (j33 ()) else (Option.bind (eF_12_isTaken (ep_mk c0 m) (nI (ep_ff x)) (m.1 129 (32 * w + ep_fa x)) (m.1 129 (32 * w + ep_fb x))) (fun q38 => if q38 = 0 then (some (ep_mk c0 m)) else (Option.bind (eF_12_jump (ep_mk c0 m) (pc + ((((eh_shl (eh_shr x 31) 12) ||| (eh_shl ((eh_shr x 7) &&& 1) 11)) ||| (eh_shl ((eh_shr x 25) &&& 63) 5)) ||| (eh_shl ((eh_shr x 8) &&& 15) 1)))) (fun q40 => some q40)))))) = some (ep_mk c0 m')) ∧ ep_D N c' m' h (m.1 144 h) := by
  have hf := ep_ff_l x
  have hpc : ∀ m0, (ep_mk c m0).1 124 8 = pc := fun m0 => by rw [ep_rC2 _ _ _ (by decide) (by decide)]; exact hQ.2.1
  generalize hl : m.1 129 (32 * w + ep_fa x) = l
  generalize hr : m.1 129 (32 * w + ep_fb x) = r
  by_cases h23 : ep_ff x = 2 ∨ ep_ff x = 3
  · obtain ⟨h1, h2, h3⟩ := ep_ill hR hQ x
    refine ⟨_, _, fun m0 => ?_, fun c0 => ?_, h3⟩
    · unfold eF_7_branch
      rw [ep_V, ep_ff_c, ep_J]
      rcases h23 with z | z
      · rw [z, if_pos (show nI 2 = 2 from rfl)]; exact ep_bnd (h1 m0) rfl
      · rw [z, if_neg (show ¬ nI 3 = 2 by decide), if_pos (show nI 3 = 3 from rfl)]; exact ep_bnd (h1 m0) rfl
    · rw [ep_J]
      rcases h23 with z | z
      · rw [z, if_pos (show nI 2 = 2 from rfl)]; exact ep_bnd (h2 c0) rfl
      · rw [z, if_neg (show ¬ nI 3 = 2 by decide), if_pos (show nI 3 = 3 from rfl)]; exact ep_bnd (h2 c0) rfl
  · have n2 : ep_ff x ≠ 2 := fun z => h23 (Or.inl z)
    have n3 : ep_ff x ≠ 3 := fun z => h23 (Or.inr z)
    have e2 : ¬ nI (ep_ff x) = 2 := fun z => n2 ((nI_eq (b := 2) (by omega) (by decide)).mp z)
    have e3 : ¬ nI (ep_ff x) = 3 := fun z => n3 ((nI_eq (b := 3) (by omega) (by decide)).mp z)
    have tk := ep_mtaken (l := l) (r := r) (hf := hf) (h2 := n2) (h3 := n3)
    -- the class's test
    have ct : ∀ m0 (A B : Option eh_F), (eh_J (fun (a10 : Int32) => eh_J (fun (a12 : Int32) => if a10 = a12 then A else B) (fun j11 => if (nI (ep_ff x) &&& 1) = 0 then (j11 1) else (j11 0))) (fun j9 => if nI (ep_ff x) < 2 then (eh_J (fun (a21 : Int32) => j9 a21) (fun j20 => if l = r then (j20 1) else (j20 0))) else (if nI (ep_ff x) < 6 then (eh_J (fun (a25 : Int32) => j9 a25) (fun j24 => if l < r then (j24 1) else (j24 0))) else (Option.bind (eF_11_isBelow (ep_mk c m0) l r) (fun q27 => j9 q27))))) = if ep_tk (ep_ff x) l r = true then A else B := by
      intro m0 A B
      rw [ep_cbelow]
      unfold ep_tk
      generalize ep_ff x = f at hf n2 n3
      rcases ep_f8 hf with rfl | rfl | rfl | rfl | rfl | rfl | rfl | rfl
      · simp (decide := true) (disch := first | assumption | decide) only [↓reduceIte, ↓ep_J]
        by_cases z : l = r <;> simp [z]
      · simp (decide := true) (disch := first | assumption | decide) only [↓reduceIte, ↓ep_J]
        by_cases z : l = r <;> simp [z]
      · exact absurd rfl n2
      · exact absurd rfl n3
      · simp (decide := true) (disch := first | assumption | decide) only [↓reduceIte, ↓ep_J]
        by_cases z : l < r <;> simp [z]
      · simp (decide := true) (disch := first | assumption | decide) only [↓reduceIte, ↓ep_J]
        by_cases z : l < r <;> simp [z]
      · simp (decide := true) (disch := first | assumption | decide) only [↓reduceIte, ↓ep_J, ↓ep_sb]
        cases z : ep_bl l r <;> simp [ep_bi]
      · simp (decide := true) (disch := first | assumption | decide) only [↓reduceIte, ↓ep_J, ↓ep_sb]
        cases z : ep_bl l r <;> simp [ep_bi]
    have cc : ∀ m0, eF_7_branch (ep_mk c m0) x = if ep_tk (ep_ff x) l r = true then (Option.bind (eF_7_offsetB (ep_mk c m0) x) (fun q16 => Option.bind (eF_7_goTo (ep_mk c m0) (((ep_mk c m0).1 124 8) + q16)) (fun q17 => some q17.2))) else some (ep_mk c m0) := by
      intro m0
      unfold eF_7_branch
      rw [ep_V, ep_ff_c, ep_J, if_neg e2, if_neg e3, ep_left hX, ep_sb, ep_right hX, ep_sb, hl, hr]
      exact ct m0 _ _
    have mm : ∀ c0, (eh_J (fun (u34 : Unit) => Option.bind (eF_12_except (ep_mk c0 m) 2 x) (fun q35 => some q35)) (fun j33 => if nI (ep_ff x) = 2 then (j33 ()) else (if nI (ep_ff x) = 3 then (j33 ()) else (Option.bind (eF_12_isTaken (ep_mk c0 m) (nI (ep_ff x)) l r) (fun q38 => if q38 = 0 then (some (ep_mk c0 m)) else (Option.bind (eF_12_jump (ep_mk c0 m) (pc + ((((eh_shl (eh_shr x 31) 12) ||| (eh_shl ((eh_shr x 7) &&& 1) 11)) ||| (eh_shl ((eh_shr x 25) &&& 63) 5)) ||| (eh_shl ((eh_shr x 8) &&& 15) 1)))) (fun q40 => some q40))))))) = if ep_tk (ep_ff x) l r = true then (Option.bind (eF_12_jump (ep_mk c0 m) (pc + ((((eh_shl (eh_shr x 31) 12) ||| (eh_shl ((eh_shr x 7) &&& 1) 11)) ||| (eh_shl ((eh_shr x 25) &&& 63) 5)) ||| (eh_shl ((eh_shr x 8) &&& 15) 1)))) (fun q40 => some q40)) else some (ep_mk c0 m) := by
      intro c0
      rw [ep_J, if_neg e2, if_neg e3, tk, ep_sb]
      cases ep_tk (ep_ff x) l r with
      | true => rw [if_neg (by decide), if_pos rfl]
      | false => rw [if_pos (by decide), if_neg (by decide)]
    by_cases hk : ep_tk (ep_ff x) l r = true
    · generalize ho : pc + ((((eh_shl (eh_shr x 31) 12) ||| (eh_shl ((eh_shr x 7) &&& 1) 11)) ||| (eh_shl ((eh_shr x 25) &&& 63) 5)) ||| (eh_shl ((eh_shr x 8) &&& 15) 1)) = tgt at mm ⊢
      have hco : ∀ m0, eF_7_offsetB (ep_mk c m0) x = some ((((eh_shl (eh_shr x 31) 12) ||| (eh_shl ((eh_shr x 7) &&& 1) 11)) ||| (eh_shl ((eh_shr x 25) &&& 63) 5)) ||| (eh_shl ((eh_shr x 8) &&& 15) 1)) := fun m0 => by unfold eF_7_offsetB; rw [ep_offB]
      by_cases ht : tgt &&& 3 = 0
      · refine ⟨_, _, fun m0 => ?_, fun c0 => ?_, ep_D_next hR hQ ht⟩
        · rw [cc m0, if_pos hk]
          refine ep_bnd (hco m0) ?_
          rw [hpc, ho]
          exact ep_bnd (ep_cgoTo c ht m0) rfl
        · rw [mm c0, if_pos hk]
          exact ep_bnd (ep_mjump m ht c0) rfl
      · refine ⟨_, _, fun m0 => ?_, fun c0 => ?_, ep_D_F hR hQ (x := 0) (by decide) tgt⟩
        · rw [cc m0, if_pos hk]
          refine ep_bnd (hco m0) ?_
          rw [hpc, ho]
          exact ep_bnd (ep_cgoTo' c ht m0) rfl
        · rw [mm c0, if_pos hk]
          exact ep_bnd (ep_mjump' m ht c0) rfl
    · refine ⟨c, m, fun m0 => ?_, fun c0 => ?_, ep_D_id hR hQ⟩
      · rw [cc m0, if_neg hk]
      · rw [mm c0, if_neg hk]
theorem ep_fence {N : Nat} {c : ep_C} {m : ep_M} (hR : ep_R N c m) {h : Nat} {pc : Int32} (hQ : ep_Q c m h pc) (x : Int32) : ∃ c' m', (∀ m0, eF_7_fence (ep_mk c m0) x = some (ep_mk c' m0)) ∧ (∀ c0, (if 1 < nI (ep_ff x) then (Option.bind (eF_12_except (ep_mk c0 m) 2 x) (fun q17 => some q17)) else (some (ep_mk c0 m))) = some (ep_mk c0 m')) ∧ ep_D N c' m' h (m.1 144 h) := by
  by_cases hf : 1 < nI (ep_ff x)
  · obtain ⟨h1, h2, h3⟩ := ep_ill hR hQ x
    refine ⟨_, _, fun m0 => ?_, fun c0 => ?_, h3⟩
    · unfold eF_7_fence
      rw [ep_J, ep_ff_c, if_pos hf]; exact ep_bnd (h1 m0) rfl
    · rw [if_pos hf]; exact ep_bnd (h2 c0) rfl
  · refine ⟨c, m, fun m0 => ?_, fun c0 => ?_, ep_D_id hR hQ⟩
    · unfold eF_7_fence
      rw [ep_J, ep_ff_c, if_neg hf]
    · rw [if_neg hf]
