/-! rights at a place, in both -/
def ep_n124 (n : Nat) : Prop := n = 1 ∨ n = 2 ∨ n = 4
def ep_r124 (r : Int32) : Prop := r = 1 ∨ r = 2 ∨ r = 4
theorem ep_lov_span {B Z P : Nat → Int32} {k q n : Nat} (h : ep_span B Z P k) (hn : ep_n124 n) (hq : q % n = 0) (r : Int32) : ep_lov q n (B k, Z k, r) = true ↔ q < 131072 ∧ P (q / 256) = nI k := by
  obtain ⟨b, z, h1, h2, h3, h4, h5⟩ := h
  unfold ep_lov
  simp only [h3, h4, show eh_ix (nI (256 * b)) = 256 * b from ep_ix (by omega), show eh_ix (nI (256 * z)) = 256 * z from ep_ix (by omega), Bool.and_eq_true, decide_eq_true_eq]
  constructor
  · intro ⟨g1, g2⟩
    refine ⟨by omega, (h5 (q / 256) (by omega)).mpr ?_⟩
    rcases hn with rfl | rfl | rfl <;> omega
  · intro ⟨g1, g2⟩
    have := (h5 (q / 256) (by omega)).mp g2
    rcases hn with rfl | rfl | rfl <;> omega
theorem ep_lin_span {B Z P : Nat → Int32} {k q n : Nat} (h : ep_span B Z P k) (hn : ep_n124 n) (hq : q % n = 0) (hq2 : q < 131072) (hP : P (q / 256) = nI k) (r right : Int32) : ep_lin q n right (B k, Z k, r) = decide (r &&& right ≠ 0) := by
  obtain ⟨b, z, h1, h2, h3, h4, h5⟩ := h
  have := (h5 (q / 256) (by omega)).mp hP
  unfold ep_lin
  simp only [h3, h4, show eh_ix (nI (256 * b)) = 256 * b from ep_ix (by omega), show eh_ix (nI (256 * z)) = 256 * z from ep_ix (by omega)]
  have g1 : 256 * b ≤ q := by omega
  have g2 : q + n ≤ 256 * b + 256 * z := by rcases hn with rfl | rfl | rfl <;> omega
  simp [g1, g2]
theorem ep_span_n {B Z P : Nat → Int32} {k : Nat} (h : ep_span B Z P k) (r : Int32) : ∃ a z, a + z ≤ 131072 ∧ (B k, Z k, r).1 = nI a ∧ (B k, Z k, r).2.1 = nI z := by
  obtain ⟨b, z, h1, h2, h3, h4, h5⟩ := h
  exact ⟨256 * b, 256 * z, by omega, h3, h4⟩
theorem ep_split_last {α : Type} {g l1 l2 : List α} {x y : α} (h : g ++ [y] = l1 ++ x :: l2) (hx : x ∉ g) : ∀ z, z ∈ g → z ∈ l1 := by
  rcases List.append_eq_append_iff.mp h with ⟨a, h1, h2⟩ | ⟨a, h1, h2⟩
  · intro z hz; rw [h1]; exact List.mem_append_left _ hz
  · cases a with
    | nil => intro z hz; rw [h1, List.append_nil] at hz; exact hz
    | cons b a =>
      simp only [List.cons_append, List.cons.injEq] at h2
      exfalso
      apply hx
      rw [h1, h2.1]
      exact List.mem_append_right _ (List.mem_cons_self ..)
theorem ep_mLetS {N : Nat} {c : ep_C} {m : ep_M} (hR : ep_R N c m) {h q n : Nat} (hh : h < 2) (hr : m.1 144 h = -1) (hn : ep_n124 n) (hq : q % n = 0) (hq2 : q < 2 ^ 40) {right : Int32} (hri : ep_r124 right) : ∃ n' f g r, ∀ c0, eF_12_isLet (ep_mk c0 m) (nI h) (lN q) (nI n) right = some (ep_bi (decide (q < 131072) && ep_ob (m.1 164) (c.1 10) q), ep_mk c0 (ep_mg m n' f g r)) := by
  have hG := hR.2.2.2.1
  obtain ⟨f, g, r, h1, h2⟩ := ep_mgatherS hh hr
  have hsel : ∀ k x, ep_sS (m.1 164) (m.1 165) (m.1 166) k = some x → m.1 164 k ≠ 0 ∧ m.1 164 k ≠ 2 ∧ x = (m.1 165 k, m.1 166 k, 0) := by
    intro k x hx
    unfold ep_sS at hx
    by_cases y1 : m.1 164 k = 0
    · simp [y1] at hx
    · by_cases y2 : m.1 164 k = 2
      · simp [y1, y2] at hx
      · simp [y1, y2] at hx
        exact ⟨y1, y2, by rw [← hx]⟩
  have hmem : ∀ x, x ∈ ep_lS (m.1 164) (m.1 165) (m.1 166) → (∃ k, k < 12 ∧ m.1 164 k ≠ 0 ∧ m.1 164 k ≠ 2 ∧ x = (m.1 165 k, m.1 166 k, 0)) ∨ x = (0, 131072, 7) := by
    intro x hx
    unfold ep_lS at hx
    rw [List.mem_append, List.mem_singleton, ep_gL_mem] at hx
    rcases hx with (hx | ⟨k, hk, hx⟩) | hx
    · exact absurd hx (by simp)
    · exact Or.inl ⟨k, hk, hsel k x hx⟩
    · exact Or.inr hx
  have hin : ∀ k, k < 12 → m.1 164 k ≠ 0 → m.1 164 k ≠ 2 → (m.1 165 k, m.1 166 k, (0 : Int32)) ∈ ep_gL (ep_sS (m.1 164) (m.1 165) (m.1 166)) [] 12 := by
    intro k hk y1 y2
    rw [ep_gL_mem]
    exact Or.inr ⟨k, hk, by unfold ep_sS; rw [if_neg y1, if_neg y2]⟩
  have hn0 : 0 < n ∧ n < 2 ^ 20 := by rcases hn with rfl | rfl | rfl <;> decide
  have hlast : ep_lov q n (0, 131072, 7) = decide (q < 131072) := by
    unfold ep_lov
    have e1 : eh_ix (0 : Int32) = 0 := rfl
    have e2 : eh_ix (131072 : Int32) = 131072 := rfl
    simp only [e1, e2, Nat.zero_add]
    simp [show 0 < q + n by omega]
  have hlen : (ep_lS (m.1 164) (m.1 165) (m.1 166)).length ≤ 13 := by
    unfold ep_lS
    rw [List.length_append, List.length_singleton]
    have := ep_gL_len (ep_sS (m.1 164) (m.1 165) (m.1 166)) [] 12
    simp only [List.length_nil] at this
    omega
  refine ⟨_, f, g, r, fun c0 => ep_misLet ?_ hlen h1 hq2 hn0.2 hn0.1 right c0 (h2 c0) _ ?_ ?_⟩
  · intro x hx
    rcases hmem x hx with ⟨k, hk, y1, y2, e⟩ | e
    · rw [e]; exact ep_span_n (hG.1 k hk y1).2.1 0
    · rw [e]; exact ⟨0, 131072, by decide, rfl, rfl⟩
  · intro hall
    have := hall (0, 131072, 7) (by unfold ep_lS; exact List.mem_append_right _ (List.mem_singleton.mpr rfl))
    rw [hlast] at this
    rw [this]; rfl
  · intro x l1 l2 hl hx hprev
    rcases hmem x (by rw [hl]; exact List.mem_append_right _ (List.mem_cons_self ..)) with ⟨k, hk, y1, y2, e⟩ | e
    · rw [e] at hx ⊢
      obtain ⟨g1, g2⟩ := (ep_lov_span (hG.1 k hk y1).2.1 hn hq 0).mp hx
      rw [ep_lin_span (hG.1 k hk y1).2.1 hn hq g1 g2]
      have : ep_ob (m.1 164) (c.1 10) q = false := by
        cases z : ep_ob (m.1 164) (c.1 10) q with
        | false => rfl
        | true => exact absurd ⟨y1, y2, g2⟩ ((ep_ob_iff hG g1).mp z k hk)
      rw [this]
      simp
    · rw [e] at hx hl ⊢
      rw [hlast] at hx
      have g1 : q < 131072 := by simpa using hx
      unfold ep_lS at hl
      have hsub := ep_split_last hl (by
        rw [ep_gL_mem]
        intro z
        rcases z with z | ⟨k, hk, z⟩
        · exact absurd z (by simp)
        · have := (hsel k _ z).2.2
          simp at this)
      have : ep_ob (m.1 164) (c.1 10) q = true := by
        rw [ep_ob_iff hG g1]
        intro k hk ⟨y1, y2, y3⟩
        have h3 := hprev _ (hsub _ (hin k hk y1 y2))
        rw [(ep_lov_span (hG.1 k hk y1).2.1 hn hq 0).mpr ⟨g1, y3⟩] at h3
        exact absurd h3 (by decide)
      rw [this]
      unfold ep_lin
      have e1 : eh_ix (0 : Int32) = 0 := rfl
      have e2 : eh_ix (131072 : Int32) = 131072 := rfl
      simp only [e1, e2, Nat.zero_add]
      have g2 : q + n ≤ 131072 := by rcases hn with rfl | rfl | rfl <;> omega
      have g3 : (7 : Int32) &&& right ≠ 0 := by rcases hri with rfl | rfl | rfl <;> decide
      simp [g1, g2, g3]
/-- rights of an enclave's threads in a region -/
def ep_ri (S O T A : Nat → Int32) (k : Nat) (e : Int32) : Int32 := if S k = 1 then (if (if O k = e then (1 : Int32) else if T k = e then 2 else 0) = 0 then 0 else 7) else if A k &&& (if O k = e then (1 : Int32) else if T k = e then 2 else 0) = 0 then 0 else if S k = 4 then 7 else 3
def ep_rq (S O T A P : Nat → Int32) (e : Int32) (q : Nat) : Int32 := if P (q / 256) < 0 then 0 else ep_ri S O T A (eh_ix (P (q / 256))) e
theorem ep_ri_1 {S B Z O T P E W : Nat → Int32} (hG : ep_Gr S B Z O T P E W) (A : Nat → Int32) {k e : Nat} (hk : k < 12) (he : e < 6) (hS : S k = 1) : ep_ri S O T A k (nI e) = if O k = nI e then 7 else 0 := by
  have hT := (hG.1 k hk (by rw [hS]; decide)).2.2.2.2 (by rw [hS]; decide)
  unfold ep_ri
  have hne : ¬ (-1 : Int32) = nI e := fun z => ep_nI_ne_m1 (by omega) z.symm
  rw [if_pos hS, hT]
  by_cases z : O k = nI e
  · simp [z]
  · simp [z, hne]
theorem ep_ri_2 {S B Z O T P E W : Nat → Int32} (hG : ep_Gr S B Z O T P E W) (A : Nat → Int32) {k e : Nat} (hk : k < 12) (he : e < 6) (h0 : S k ≠ 0) (hS : S k ≠ 1) : ep_ri S O T A k (nI e) = if ep_of S O T k (nI e) = true ∧ ep_acc S O T A k (nI e) = true then (if S k = 4 then 7 else 3) else 0 := by
  obtain ⟨-, -, -, hT3, hTn⟩ := hG.1 k hk h0
  unfold ep_ri ep_of ep_acc
  rw [if_neg hS]
  by_cases z : O k = nI e
  · have zt : ¬ T k = nI e := by
      by_cases y : S k = 3
      · obtain ⟨e', _, h1, _, h2⟩ := hT3 y
        intro w; exact h2 (by rw [w, z])
      · rw [hTn y]; exact fun w => ep_nI_ne_m1 (by omega) w.symm
    by_cases y : A k &&& 1 = 0
    · simp [z, zt, y]
    · simp [z, zt, y]
  · by_cases y : S k = 3
    · by_cases zt : T k = nI e
      · by_cases y2 : A k &&& 2 = 0
        · simp [z, zt, y, y2]
        · simp [z, zt, y, y2]
      · simp [z, zt, y]
    · have zt : ¬ T k = nI e := by rw [hTn y]; exact fun w => ep_nI_ne_m1 (by omega) w.symm
      simp [z, zt, y]
theorem ep_mLetE {N : Nat} {c : ep_C} {m : ep_M} (hR : ep_R N c m) {h t e q n : Nat} (hh : h < 2) (ht : t < 12) (he : e < 6) (hr : m.1 144 h = nI t) (ho : m.1 149 t = nI e) (hE : m.1 155 e ≠ 0) (hn : ep_n124 n) (hq : q % n = 0) (hq2 : q < 2 ^ 40) (right : Int32) : ∃ n' f g r, ∀ c0, eF_12_isLet (ep_mk c0 m) (nI h) (lN q) (nI n) right = some (ep_bi (decide (q < 131072) && decide (ep_rq (m.1 164) (m.1 167) (m.1 168) (m.1 169) (c.1 10) (nI e) q &&& right ≠ 0)), ep_mk c0 (ep_mg m n' f g r)) := by
  have hG := hR.2.2.2.1
  obtain ⟨w, hw, hwe, hwS, hwO⟩ := hG.2.2 e he hE
  obtain ⟨f, g, r, h1, h2⟩ := ep_mgatherE hh ht he hw hr ho hwe
  have hw0 : m.1 164 w ≠ 0 := by rw [hwS]; decide
  have hsel : ∀ k, k < 12 → ∀ x, ep_sE (m.1 164) (m.1 165) (m.1 166) (m.1 167) (m.1 168) (m.1 169) (nI e) k = some x → m.1 164 k ≠ 0 ∧ m.1 164 k ≠ 1 ∧ (ep_of (m.1 164) (m.1 167) (m.1 168) k (nI e) = true ∧ ep_acc (m.1 164) (m.1 167) (m.1 168) (m.1 169) k (nI e) = true) ∧ x = (m.1 165 k, m.1 166 k, if m.1 164 k = 4 then 7 else 3) := by
    intro k hk x hx
    unfold ep_sE at hx
    by_cases y0 : 1 < m.1 164 k
    · rw [if_pos y0] at hx
      by_cases y1 : ep_of (m.1 164) (m.1 167) (m.1 168) k (nI e) = true ∧ ep_acc (m.1 164) (m.1 167) (m.1 168) (m.1 169) k (nI e) = true
      · rw [if_pos y1] at hx
        refine ⟨?_, ?_, y1, (Option.some.inj hx).symm⟩
        · intro z; rw [z] at y0; exact absurd y0 (by decide)
        · intro z; rw [z] at y0; exact absurd y0 (by decide)
      · rw [if_neg y1] at hx; exact absurd hx (by simp)
    · rw [if_neg y0] at hx; exact absurd hx (by simp)
  have hri : ∀ k, k < 12 → c.1 10 (q / 256) = nI k → ep_rq (m.1 164) (m.1 167) (m.1 168) (m.1 169) (c.1 10) (nI e) q = ep_ri (m.1 164) (m.1 167) (m.1 168) (m.1 169) k (nI e) := by
    intro k hk z
    unfold ep_rq
    rw [z, if_neg (nI_pos (by omega)), show eh_ix (nI k) = k from ep_ix (by omega)]
  have hmem : ∀ x, x ∈ ep_lE (m.1 164) (m.1 165) (m.1 166) (m.1 167) (m.1 168) (m.1 169) w (nI e) → ∃ k, k < 12 ∧ m.1 164 k ≠ 0 ∧ x = (m.1 165 k, m.1 166 k, ep_ri (m.1 164) (m.1 167) (m.1 168) (m.1 169) k (nI e)) := by
    intro x hx
    unfold ep_lE at hx
    rw [ep_gL_mem] at hx
    rcases hx with hx | ⟨k, hk, hx⟩
    · rw [List.mem_singleton] at hx
      exact ⟨w, hw, hw0, by rw [hx, ep_ri_1 hG _ hw he hwS, if_pos hwO]⟩
    · obtain ⟨y1, y2, y3, y4⟩ := hsel k hk x hx
      exact ⟨k, hk, y1, by rw [y4, ep_ri_2 hG _ hk he y1 y2, if_pos y3]⟩
  have hn0 : 0 < n ∧ n < 2 ^ 20 := by rcases hn with rfl | rfl | rfl <;> decide
  have hlen : (ep_lE (m.1 164) (m.1 165) (m.1 166) (m.1 167) (m.1 168) (m.1 169) w (nI e)).length ≤ 13 := by
    unfold ep_lE
    have := ep_gL_len (ep_sE (m.1 164) (m.1 165) (m.1 166) (m.1 167) (m.1 168) (m.1 169) (nI e)) [(m.1 165 w, m.1 166 w, 7)] 12
    simp only [List.length_singleton] at this
    omega
  refine ⟨_, f, g, r, fun c0 => ep_misLet ?_ hlen h1 hq2 hn0.2 hn0.1 right c0 (h2 c0) _ ?_ ?_⟩
  · intro x hx
    obtain ⟨k, hk, y1, e⟩ := hmem x hx
    rw [e]; exact ep_span_n (hG.1 k hk y1).2.1 _
  · intro hall
    by_cases g1 : q < 131072
    · simp only [g1, decide_true, Bool.true_and, decide_eq_false_iff_not, Decidable.not_not]
      rcases hG.2.1 (q / 256) (by omega) with z | ⟨k, hk, z, zs⟩
      · unfold ep_rq
        rw [z, if_pos (by decide)]
        exact Int32.zero_and
      · rw [hri k hk z]
        by_cases y1 : m.1 164 k = 1
        · rw [ep_ri_1 hG _ hk he y1]
          by_cases y2 : m.1 167 k = nI e
          · obtain ⟨e', he', h3, _, h4⟩ := (hG.1 k hk zs).2.2.1
            have : e' = e := (nI_eq (by omega) (by omega)).mp (by rw [← h3, y2])
            subst this
            have : k = w := (nI_eq (by omega) (by omega)).mp (by rw [← h4 y1, hwe])
            subst this
            have h3 := hall (m.1 165 k, m.1 166 k, 7) (by unfold ep_lE; rw [ep_gL_mem]; exact Or.inl (List.mem_singleton.mpr rfl))
            rw [(ep_lov_span (hG.1 k hk zs).2.1 hn hq 7).mpr ⟨g1, z⟩] at h3
            exact absurd h3 (by decide)
          · rw [if_neg y2]; exact Int32.zero_and
        · rw [ep_ri_2 hG _ hk he zs y1]
          by_cases y2 : ep_of (m.1 164) (m.1 167) (m.1 168) k (nI e) = true ∧ ep_acc (m.1 164) (m.1 167) (m.1 168) (m.1 169) k (nI e) = true
          · have h3 := hall (m.1 165 k, m.1 166 k, if m.1 164 k = 4 then 7 else 3) (by
              unfold ep_lE; rw [ep_gL_mem]
              refine Or.inr ⟨k, hk, ?_⟩
              unfold ep_sE
              have : 1 < m.1 164 k := by
                rcases (hG.1 k hk zs).1 with y | y | y | y
                · exact absurd y y1
                · rw [y]; decide
                · rw [y]; decide
                · rw [y]; decide
              rw [if_pos this, if_pos y2])
            rw [(ep_lov_span (hG.1 k hk zs).2.1 hn hq _).mpr ⟨g1, z⟩] at h3
            exact absurd h3 (by decide)
          · rw [if_neg y2]; exact Int32.zero_and
    · simp [g1]
  · intro x l1 l2 hl hx _
    obtain ⟨k, hk, y1, e⟩ := hmem x (by rw [hl]; exact List.mem_append_right _ (List.mem_cons_self ..))
    rw [e] at hx ⊢
    obtain ⟨g1, g2⟩ := (ep_lov_span (hG.1 k hk y1).2.1 hn hq _).mp hx
    rw [ep_lin_span (hG.1 k hk y1).2.1 hn hq g1 g2, hri k hk g2]
    simp [g1]
/-! the class -/
theorem ep_csideOf (c : ep_C) {k : Nat} (hk : k < 12) (e : Int32) (m0 : ep_M) : eF_6_sideOf (ep_mk c m0) (nI k) e = some (if c.1 6 k = e then 1 else if c.1 7 k = e then 2 else 0) := by
  have q1 : eh_in (nI k) 12 = true := ep_in hk (by decide)
  have q2 : eh_ix (nI k) = k := ep_ix (by omega)
  unfold eF_6_sideOf
  simp (disch := first | assumption | decide) only [ep_V, ep_J, ep_sb, ep_rC1, ep_rC2, ep_rM, ep_rJ, ep_rQ, ep_wC1, ep_wC2, ep_wM, ep_iC1, ep_iC2, ep_iM, ep_wJ, ep_wQ, ep_cI1, ep_cIn, ep_cI2, ep_cL1, ep_cLn, ep_cL2, ep_cG1, ep_cGq, ep_cQ1, ep_cQ2, ep_cQq, ep_cQn, ep_mI1, ep_mIn, ep_mI2, ep_mL1, ep_mLn, ep_mL2, ep_mJ1, ep_mJ2, q1, q2, if_true]
  by_cases z1 : c.1 6 k = e
  · simp [z1]
  · by_cases z2 : c.1 7 k = e
    · simp [z1, z2]
    · simp [z1, z2]
theorem ep_crightsIn (c : ep_C) {k : Nat} (hk : k < 12) (e : Int32) (m0 : ep_M) : eF_6_rightsIn (ep_mk c m0) (nI k) e = some (ep_ri (c.1 3) (c.1 6) (c.1 7) (c.1 8) k e) := by
  have q1 : eh_in (nI k) 12 = true := ep_in hk (by decide)
  have q2 : eh_ix (nI k) = k := ep_ix (by omega)
  unfold eF_6_rightsIn ep_ri
  rw [ep_csideOf c hk, ep_sb]
  generalize (if c.1 6 k = e then (1 : Int32) else if c.1 7 k = e then 2 else 0) = sd
  simp (disch := first | assumption | decide) only [ep_V, ep_J, ep_sb, ep_rC1, ep_rC2, ep_rM, ep_rJ, ep_rQ, ep_wC1, ep_wC2, ep_wM, ep_iC1, ep_iC2, ep_iM, ep_wJ, ep_wQ, ep_cI1, ep_cIn, ep_cI2, ep_cL1, ep_cLn, ep_cL2, ep_cG1, ep_cGq, ep_cQ1, ep_cQ2, ep_cQq, ep_cQn, ep_mI1, ep_mIn, ep_mI2, ep_mL1, ep_mLn, ep_mL2, ep_mJ1, ep_mJ2, q1, q2, if_true]
  by_cases z1 : c.1 3 k = 1
  · by_cases z2 : sd = 0
    · simp [z1, z2]
    · simp [z1, z2]
  · by_cases z2 : c.1 8 k &&& sd = 0
    · simp [z1, z2]
    · by_cases z3 : c.1 3 k = 4
      · simp [z2, z3]
      · simp [z1, z2, z3]
theorem ep_crightsE {N : Nat} {c : ep_C} {m : ep_M} (hR : ep_R N c m) {e q : Nat} (he : e < 6) (hq : q < 2 ^ 63) (m0 : ep_M) : eF_6_rightsAt (ep_mk c m0) (lN q) (nI e) = some (if q < 131072 then ep_rq (m.1 164) (m.1 167) (m.1 168) (m.1 169) (c.1 10) (nI e) q else 0) := by
  have hG := hR.2.2.2.1
  obtain ⟨g3, -, -, g6, g7, g8⟩ := hR.2.2.1
  unfold eF_6_rightsAt
  rw [if_neg (ep_nI_ne_m1 (by omega))]
  by_cases h : q < 131072
  · have q2 : lg_cmp (lN q) 131072 < 0 := (ep_lgc (n := 131072) hq (by decide)).mpr h
    have q3 : eh_shr (lN q).toInt32 8 = nI (q / 256) := by rw [lN_i, show (8 : Int32) = nI 8 from rfl, ep_shrn (by omega) (by decide)]
    have q4 : eh_in (nI (q / 256)) 512 = true := ep_in (by omega) (by decide)
    have q5 : eh_ix (nI (q / 256)) = q / 256 := ep_ix (by omega)
    unfold ep_rq
    simp (disch := first | assumption | decide) only [ep_V, ep_J, ep_sb, ep_rC1, ep_rC2, ep_rM, ep_rJ, ep_rQ, ep_wC1, ep_wC2, ep_wM, ep_iC1, ep_iC2, ep_iM, ep_wJ, ep_wQ, ep_cI1, ep_cIn, ep_cI2, ep_cL1, ep_cLn, ep_cL2, ep_cG1, ep_cGq, ep_cQ1, ep_cQ2, ep_cQq, ep_cQn, ep_mI1, ep_mIn, ep_mI2, ep_mL1, ep_mLn, ep_mL2, ep_mJ1, ep_mJ2, ep_lgc0 hq, q2, q3, q4, q5, if_true, if_false, h]
    rcases hG.2.1 (q / 256) (by omega) with z | ⟨k, hk, z, zs⟩
    · rw [z, if_pos (by decide), if_pos (by decide)]
    · rw [z, if_neg (nI_pos (by omega)), if_neg (nI_pos (by omega)), ep_crightsIn c hk, ep_sb, g3, g6, g7, g8, show eh_ix (nI k) = k from ep_ix (by omega)]
  · have q2 : ¬ lg_cmp (lN q) 131072 < 0 := fun z => h ((ep_lgc (n := 131072) hq (by decide)).mp z)
    simp only [ep_J, ep_lgc0 hq, q2, if_false, h]
theorem ep_crightsS {N : Nat} {c : ep_C} {m : ep_M} (hR : ep_R N c m) {q : Nat} (hq : q < 2 ^ 63) (m0 : ep_M) : eF_6_rightsAt (ep_mk c m0) (lN q) (-1) = some (if (decide (q < 131072) && ep_ob (m.1 164) (c.1 10) q) = true then 7 else 0) := by
  unfold eF_6_rightsAt
  rw [if_pos rfl]
  by_cases h : q < 131072
  · rw [ep_cisOpen hR h, ep_sb]
    cases z : ep_ob (m.1 164) (c.1 10) q with
    | false => simp [ep_bi, ep_J]
    | true => simp [ep_bi, ep_J, h]
  · rw [ep_cisOpen' (by omega) hq, ep_sb]
    simp [h, ep_J]
