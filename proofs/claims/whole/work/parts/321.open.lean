/-! memory that is open, in both -/
theorem ep_lp {σ β γ : Type} {body : (σ → Option β) → σ → Option β} {K : β → Option γ} {R : Option γ} {i0 : σ} (f : Nat → σ) (N : Nat) (v : β) (hN : N < 1000000) (h0 : i0 = f 0) (hs : ∀ i, i < N → ∀ rec, body rec (f i) = rec (f (i + 1))) (he : ∀ rec, body rec (f N) = some v) (hK : K v = R) : Option.bind (eh_loop body eh_FU i0) K = R := by
  rw [ep_loop f N (some v) (ep_FU _ hN) hs he h0]
  exact hK
theorem ep_ite1 (b : Bool) : (if b = true then (1 : Int32) else 0) = 0 ∨ (if b = true then (1 : Int32) else 0) = 1 := by cases b <;> decide
def ep_bi (b : Bool) : Int32 := if b = true then 1 else 0
theorem ep_bi_bo (b : Bool) : ep_bi b = 0 ∨ ep_bi b = 1 := by cases b <;> decide
theorem ep_bi_0 (b : Bool) : ep_bi b = 0 ↔ b = false := by cases b <;> decide
theorem ep_bi_1 (b : Bool) : ep_bi b = 1 ↔ b = true := by cases b <;> decide
theorem ep_bi_t : ep_bi true = 1 := rfl
theorem ep_bi_f : ep_bi false = 0 := rfl
def ep_all (b : Nat → Bool) : Nat → Bool
  | 0 => true
  | n + 1 => ep_all b n && b n
theorem ep_all_iff {b : Nat → Bool} : ∀ {n : Nat}, ep_all b n = true ↔ ∀ j, j < n → b j = true
  | 0 => ⟨fun _ j h => absurd h (Nat.not_lt_zero j), fun _ => rfl⟩
  | n + 1 => by
    show (ep_all b n && b n) = true ↔ _
    rw [Bool.and_eq_true, ep_all_iff]
    constructor
    · intro ⟨h1, h2⟩ j hj
      by_cases g : j = n
      · rw [g]; exact h2
      · exact h1 j (by omega)
    · intro h
      exact ⟨fun j hj => h j (by omega), h n (by omega)⟩
theorem ep_nilit (n : Nat) : (OfNat.ofNat n : Int32) = nI n := rfl
theorem ep_m1lt : (-1 : Int32) < 0 := by decide
theorem ep_nI_ne_m1 {k : Nat} (h : k < 2 ^ 31) : nI k ≠ -1 := by
  intro q
  have := nI_pos h
  rw [q] at this
  exact this (by decide)
/-- a region that there is, and a place -/
theorem ep_cov {B Z P : Nat → Int32} {k q : Nat} (h : ep_span B Z P k) (hq : q < 131072) : (¬ nI q < B k ∧ nI q < B k + Z k) ↔ P (q / 256) = nI k := by
  obtain ⟨b, n, h1, h2, h3, h4, h5⟩ := h
  rw [h5 (q / 256) (by omega), h3, h4, nI_add, nI_ltI (by omega) (by omega), nI_ltI (by omega) (by omega)]
  omega
theorem ep_ovl {B Z P : Nat → Int32} {k a n : Nat} (h : ep_span B Z P k) (hn : 0 < n) (ha : a + n ≤ 131072) : (nI a < B k + Z k ∧ B k < nI (a + n)) ↔ ∃ p, a / 256 ≤ p ∧ p ≤ (a + n - 1) / 256 ∧ P p = nI k := by
  obtain ⟨b, n', h1, h2, h3, h4, h5⟩ := h
  rw [h3, h4, nI_add, nI_ltI (by omega) (by omega), nI_ltI (by omega) (by omega)]
  constructor
  · intro ⟨g1, g2⟩
    by_cases g : a / 256 ≤ b
    · exact ⟨b, g, by omega, (h5 b (by omega)).mpr ⟨by omega, by omega⟩⟩
    · exact ⟨a / 256, by omega, by omega, (h5 (a / 256) (by omega)).mpr ⟨by omega, by omega⟩⟩
  · intro ⟨p, g1, g2, g3⟩
    have := (h5 p (by omega)).mp g3
    omega
/-- open to the system -/
def ep_ob (S P : Nat → Int32) (q : Nat) : Bool := decide (P (q / 256) < 0) || decide (S (eh_ix (P (q / 256))) = 2)
theorem ep_ob_iff {S B Z O T P E W : Nat → Int32} (h : ep_Gr S B Z O T P E W) {q : Nat} (hq : q < 131072) : ep_ob S P q = true ↔ ∀ k, k < 12 → ¬ (S k ≠ 0 ∧ S k ≠ 2 ∧ P (q / 256) = nI k) := by
  unfold ep_ob
  rw [Bool.or_eq_true, decide_eq_true_eq, decide_eq_true_eq]
  rcases h.2.1 (q / 256) (by omega) with g | ⟨k, hk, g, gs⟩
  · rw [g]
    refine ⟨fun _ k hk ⟨_, _, z⟩ => ep_nI_ne_m1 (by omega) z.symm, fun _ => Or.inl (by decide)⟩
  · rw [g, show eh_ix (nI k) = k from ep_ix (by omega)]
    constructor
    · intro z k' hk' ⟨z1, z2, z3⟩
      have : k = k' := (nI_eq (by omega) (by omega)).mp z3
      subst this
      rcases z with z | z
      · exact nI_pos (by omega) z
      · exact z2 z
    · intro z
      right
      have := z k hk
      by_cases z2 : S k = 2
      · exact z2
      · exact absurd ⟨gs, z2, rfl⟩ this
theorem ep_misOpen {N : Nat} {c : ep_C} {m : ep_M} (hR : ep_R N c m) {q : Nat} (hq : q < 131072) (c0 : ep_C) : eF_12_isOpen (ep_mk c0 m) (nI q) = some (ep_bi (ep_ob (m.1 164) (c.1 10) q)) := by
  have hG := hR.2.2.2.1
  let bb : Nat → Bool := fun j => !(decide (m.1 164 j ≠ 0) && decide (m.1 164 j ≠ 2) && !(decide (nI q < m.1 165 j)) && decide (nI q < m.1 165 j + m.1 166 j))
  have hbb : ep_all bb 12 = ep_ob (m.1 164) (c.1 10) q := by
    rw [Bool.eq_iff_iff, ep_all_iff, ep_ob_iff hG hq]
    constructor
    · intro h k hk ⟨z1, z2, z3⟩
      have := h k hk
      have hc := (ep_cov (hG.1 k hk z1).2.1 hq).mpr z3
      simp [bb, z1, z2, hc.1, hc.2] at this
    · intro h k hk
      have := h k hk
      show (!(decide (m.1 164 k ≠ 0) && decide (m.1 164 k ≠ 2) && !(decide (nI q < m.1 165 k)) && decide (nI q < m.1 165 k + m.1 166 k))) = true
      by_cases z1 : m.1 164 k = 0
      · simp [z1]
      · by_cases z2 : m.1 164 k = 2
        · simp [z2]
        · by_cases z3 : c.1 10 (q / 256) = nI k
          · exact absurd ⟨z1, z2, z3⟩ this
          · have : ¬ (¬ nI q < m.1 165 k ∧ nI q < m.1 165 k + m.1 166 k) := fun z => z3 ((ep_cov (hG.1 k hk z1).2.1 hq).mp z)
            by_cases z4 : nI q < m.1 165 k
            · simp [z4]
            · by_cases z5 : nI q < m.1 165 k + m.1 166 k
              · exact absurd ⟨z4, z5⟩ this
              · simp [z5]
  unfold eF_12_isOpen
  refine ep_lp (fun i => (ep_bi (ep_all bb i), nI i)) 12 (ep_bi (ep_all bb 12)) (by decide) rfl ?_ ?_ (by rw [if_pos (ep_bi_bo _), hbb])
  · intro i hi rec
    have q1 : nI i < 12 := ep_lt (b := 12) hi (by decide) rfl
    have q2 : eh_in (nI i) 12 = true := ep_in hi (by decide)
    have q3 : eh_ix (nI i) = i := ep_ix (by omega)
    simp (disch := first | assumption | decide) only [ep_V, ep_J, ep_sb, ep_rC1, ep_rC2, ep_rM, ep_rJ, ep_rQ, ep_wC1, ep_wC2, ep_wM, ep_iC1, ep_iC2, ep_iM, ep_wJ, ep_wQ, ep_cI1, ep_cIn, ep_cI2, ep_cL1, ep_cLn, ep_cL2, ep_cG1, ep_cGq, ep_cQ1, ep_cQ2, ep_cQq, ep_cQn, ep_mI1, ep_mIn, ep_mI2, ep_mL1, ep_mLn, ep_mL2, ep_mJ1, ep_mJ2, q1, q2, q3, if_true, nI_1, ep_bi_0]
    show _ = rec (ep_bi (ep_all bb i && bb i), nI (i + 1))
    by_cases a : ep_all bb i = false
    · simp only [a, if_true, Bool.false_and, ep_bi_f]
    · have a' : ep_all bb i = true := by simpa using a
      simp only [a', Bool.true_and, bb]
      by_cases z1 : m.1 164 i = 0
      · simp [z1, ep_bi]
      · by_cases z2 : m.1 164 i = 2
        · simp [z2, ep_bi]
        · by_cases z4 : nI q < m.1 165 i
          · simp [z1, z2, z4, ep_bi]
          · by_cases z5 : nI q < m.1 165 i + m.1 166 i
            · simp [z1, z2, z4, z5, ep_bi]
            · simp [z1, z2, z4, z5, ep_bi]
  · intro rec
    have q1 : ¬ nI 12 < 12 := by decide
    simp only [q1, if_false]
