/-! a loop that stops at the first i that isn't b -/
theorem ep_lpf0 {σ β : Type} {body : (σ → Option β) → σ → Option β} (f : Nat → σ) (N : Nat) (b : Nat → Bool) (w : Nat → β) (v : β)
    (hs : ∀ i, i < N → b i = true → ∀ rec, body rec (f i) = rec (f (i + 1))) (hx : ∀ i, i < N → b i = false → ∀ rec, body rec (f i) = some (w i)) (he : ∀ rec, body rec (f N) = some v) :
    ∀ (k i n : Nat), i + k = N → k < n → (∀ j, j < i → b j = true) → ((∀ j, j < N → b j = true) ∧ eh_loop body n (f i) = some v) ∨ (∃ j, j < N ∧ b j = false ∧ (∀ j', j' < j → b j' = true) ∧ eh_loop body n (f i) = some (w j))
  | 0, i, n + 1, hi, _, hp => by
    have : i = N := by omega
    subst this
    exact Or.inl ⟨hp, by rw [eh_loop]; exact he _⟩
  | k + 1, i, n + 1, hi, hn, hp => by
    cases hb : b i with
    | true =>
      rw [eh_loop, hs i (by omega) hb]
      exact ep_lpf0 f N b w v hs hx he k (i + 1) n (by omega) (by omega) (fun j hj => by
        by_cases g : j = i
        · rw [g]; exact hb
        · exact hp j (by omega))
    | false =>
      exact Or.inr ⟨i, by omega, hb, hp, by rw [eh_loop]; exact hx i (by omega) hb _⟩
theorem ep_lpf {σ β γ : Type} {body : (σ → Option β) → σ → Option β} {K : β → Option γ} {R : Option γ} {i0 : σ} (f : Nat → σ) (N : Nat) (b : Nat → Bool) (w : Nat → β) (v : β) (hN : N < 1000000) (h0 : i0 = f 0)
    (hs : ∀ i, i < N → b i = true → ∀ rec, body rec (f i) = rec (f (i + 1))) (hx : ∀ i, i < N → b i = false → ∀ rec, body rec (f i) = some (w i)) (he : ∀ rec, body rec (f N) = some v)
    (hv : (∀ j, j < N → b j = true) → K v = R) (hw : ∀ j, j < N → b j = false → (∀ j', j' < j → b j' = true) → K (w j) = R) : Option.bind (eh_loop body eh_FU i0) K = R := by
  subst h0
  rcases ep_lpf0 f N b w v hs hx he N 0 eh_FU (by omega) (ep_FU _ hN) (fun j hj => absurd hj (Nat.not_lt_zero j)) with ⟨g1, g2⟩ | ⟨j, g1, g2, g3, g4⟩
  · rw [g2]; exact hv g1
  · rw [g4]; exact hw j g1 g2 g3
theorem ep_lgc0 {q : Nat} (h : q < 2 ^ 63) : ¬ lg_cmp (lN q) 0 < 0 := by
  rw [lg_cmp_lt, show (0 : Int64) = lN 0 from rfl, pk_lLT h (by decide)]; omega
theorem ep_lgc {q n : Nat} (h : q < 2 ^ 63) (hn : n < 2 ^ 63) : lg_cmp (lN q) (lN n) < 0 ↔ q < n := by
  rw [lg_cmp_lt, pk_lLT h hn]
theorem ep_P_in {S B Z O T P E W : Nat → Int32} (h : ep_Gr S B Z O T P E W) {p : Nat} (hp : p < 512) : P p < 0 ∨ ¬ P p < 0 ∧ eh_in (P p) 12 = true := by
  rcases h.2.1 p hp with g | ⟨k, hk, g, gs⟩
  · rw [g]; exact Or.inl (by decide)
  · rw [g]; exact Or.inr ⟨nI_pos (by omega), ep_in hk (by decide)⟩
theorem ep_cisOpen {N : Nat} {c : ep_C} {m : ep_M} (hR : ep_R N c m) {q : Nat} (hq : q < 131072) (m0 : ep_M) : eF_6_isOpen (ep_mk c m0) (lN q) = some (ep_bi (ep_ob (m.1 164) (c.1 10) q)) := by
  have hG := hR.2.2.2.1
  have hS : c.1 3 = m.1 164 := hR.2.2.1.1
  have q2 : lg_cmp (lN q) 131072 < 0 := (ep_lgc (n := 131072) (by omega) (by decide)).mpr hq
  have q3 : eh_shr (lN q).toInt32 8 = nI (q / 256) := by rw [lN_i, show (8 : Int32) = nI 8 from rfl, ep_shrn (by omega) (by decide)]
  have q4 : eh_in (nI (q / 256)) 512 = true := ep_in (by omega) (by decide)
  have q5 : eh_ix (nI (q / 256)) = q / 256 := ep_ix (by omega)
  unfold eF_6_isOpen ep_ob
  simp (disch := first | assumption | decide) only [ep_V, ep_J, ep_sb, ep_rC1, ep_rC2, ep_rM, ep_rJ, ep_rQ, ep_wC1, ep_wC2, ep_wM, ep_iC1, ep_iC2, ep_iM, ep_wJ, ep_wQ, ep_cI1, ep_cIn, ep_cI2, ep_cL1, ep_cLn, ep_cL2, ep_cG1, ep_cGq, ep_cQ1, ep_cQ2, ep_cQq, ep_cQn, ep_mI1, ep_mIn, ep_mI2, ep_mL1, ep_mLn, ep_mL2, ep_mJ1, ep_mJ2, ep_lgc0 (show q < 2 ^ 63 by omega), q2, q3, q4, q5, if_true, if_false, hS]
  rcases ep_P_in hG (show q / 256 < 512 by omega) with g | ⟨g1, g2⟩
  · simp [g, ep_bi]
  · by_cases z : m.1 164 (eh_ix (c.1 10 (q / 256))) = 2
    · simp [g1, g2, z, ep_bi]
    · simp [g1, g2, z, ep_bi]
theorem ep_cisOpen' {q : Nat} (hq : 131072 ≤ q) (hq2 : q < 2 ^ 63) (s : eh_F) : eF_6_isOpen s (lN q) = some 0 := by
  have q2 : ¬ lg_cmp (lN q) 131072 < 0 := fun h => absurd ((ep_lgc (n := 131072) hq2 (by decide)).mp h) (by omega)
  unfold eF_6_isOpen
  simp only [ep_J, ep_lgc0 hq2, q2, if_false]
/-- a span that is open -/
def ep_ao (S P : Nat → Int32) (a n : Nat) : Bool := ep_all (fun i => ep_ob S P (256 * (a / 256 + i))) ((a + n - 1) / 256 + 1 - a / 256)
theorem ep_careOpen {N : Nat} {c : ep_C} {m : ep_M} (hR : ep_R N c m) {a n : Nat} (hn : 0 < n) (ha : a + n ≤ 131072) (m0 : ep_M) : eF_6_areOpen (ep_mk c m0) (nI a) (nI n) = some (ep_bi (ep_ao (m.1 164) (c.1 10) a n)) := by
  have q1 : ¬ nI a < 0 := nI_pos (by omega)
  have q2 : (0 : Int32) < nI n := (nI_ltI (a := 0) (by decide) (by omega)).mpr hn
  have q3 : ¬ (131072 - nI a : Int32) < nI n := by
    rw [show (131072 : Int32) = nI 131072 from rfl, pk_sub (by omega), nI_ltI (by omega) (by omega)]; omega
  have q4 : eh_shr (nI a + nI n - 1) 8 = nI ((a + n - 1) / 256) := by
    rw [nI_add, show (1 : Int32) = nI 1 from rfl, pk_sub (by omega), show (8 : Int32) = nI 8 from rfl, ep_shrn (by omega) (by decide)]
  have q5 : eh_shr (nI a) 8 = nI (a / 256) := by rw [show (8 : Int32) = nI 8 from rfl, ep_shrn (by omega) (by decide)]
  unfold eF_6_areOpen
  simp only [ep_J, ep_V, q1, q2, q3, q4, q5, if_true, if_false]
  refine ep_lpf (fun i => nI (a / 256 + i)) ((a + n - 1) / 256 + 1 - a / 256) (fun i => ep_ob (m.1 164) (c.1 10) (256 * (a / 256 + i))) (fun _ => .inr ()) (.inl ()) (by omega) rfl ?_ ?_ ?_ ?_ ?_
  · intro i hi hb rec
    have z1 : ¬ nI ((a + n - 1) / 256) < nI (a / 256 + i) := nI_nlt (by omega) (by omega)
    have z2 : (eh_shl (nI (a / 256 + i)) 8).toInt64 = lN (256 * (a / 256 + i)) := by
      rw [show (8 : Int32) = nI 8 from rfl, ep_shln (by decide) (by omega), nI_l (by omega)]; congr 1; omega
    simp only [z1, if_false, z2, ep_cisOpen hR (show 256 * (a / 256 + i) < 131072 by omega), ep_sb, hb, ep_bi_t, nI_1]
    rfl
  · intro i hi hb rec
    have z1 : ¬ nI ((a + n - 1) / 256) < nI (a / 256 + i) := nI_nlt (by omega) (by omega)
    have z2 : (eh_shl (nI (a / 256 + i)) 8).toInt64 = lN (256 * (a / 256 + i)) := by
      rw [show (8 : Int32) = nI 8 from rfl, ep_shln (by decide) (by omega), nI_l (by omega)]; congr 1; omega
    simp only [z1, if_false, z2, ep_cisOpen hR (show 256 * (a / 256 + i) < 131072 by omega), ep_sb, hb, ep_bi_f, if_true]
  · intro rec
    have z1 : nI ((a + n - 1) / 256) < nI (a / 256 + ((a + n - 1) / 256 + 1 - a / 256)) := nI_lt (by omega) (by omega)
    simp only [z1, if_true]
  · intro h
    have : ep_ao (m.1 164) (c.1 10) a n = true := ep_all_iff.mpr h
    rw [this]; rfl
  · intro j hj hb _
    have : ep_ao (m.1 164) (c.1 10) a n = false := by
      cases hh : ep_ao (m.1 164) (c.1 10) a n with
      | false => rfl
      | true =>
        have := ep_all_iff.mp hh j hj
        rw [hb] at this
        exact absurd this (by decide)
    rw [this]; rfl
theorem ep_mareOpen {N : Nat} {c : ep_C} {m : ep_M} (hR : ep_R N c m) {a n : Nat} (hn : 0 < n) (ha : a + n ≤ 131072) (c0 : ep_C) : eF_12_areOpen (ep_mk c0 m) (nI a) (nI n) = some (ep_bi (ep_ao (m.1 164) (c.1 10) a n)) := by
  have hG := hR.2.2.2.1
  let bb : Nat → Bool := fun j => !(decide (m.1 164 j ≠ 0) && decide (m.1 164 j ≠ 2) && decide (nI a < m.1 165 j + m.1 166 j) && decide (m.1 165 j < nI (a + n)))
  have hbb : ep_all bb 12 = ep_ao (m.1 164) (c.1 10) a n := by
    unfold ep_ao
    rw [Bool.eq_iff_iff, ep_all_iff, ep_all_iff]
    constructor
    · intro h i hi
      rw [ep_ob_iff hG (by omega)]
      intro k hk ⟨z1, z2, z3⟩
      have := h k hk
      have hc := (ep_ovl (hG.1 k hk z1).2.1 hn ha).mpr ⟨a / 256 + i, by omega, by omega, by rw [show 256 * (a / 256 + i) / 256 = a / 256 + i by omega] at z3; exact z3⟩
      simp [bb, z1, z2, hc.1, hc.2] at this
    · intro h k hk
      show (!(decide (m.1 164 k ≠ 0) && decide (m.1 164 k ≠ 2) && decide (nI a < m.1 165 k + m.1 166 k) && decide (m.1 165 k < nI (a + n)))) = true
      by_cases z1 : m.1 164 k = 0
      · simp [z1]
      · by_cases z2 : m.1 164 k = 2
        · simp [z2]
        · by_cases z4 : nI a < m.1 165 k + m.1 166 k
          · by_cases z5 : m.1 165 k < nI (a + n)
            · obtain ⟨p, p1, p2, p3⟩ := (ep_ovl (hG.1 k hk z1).2.1 hn ha).mp ⟨z4, z5⟩
              have := h (p - a / 256) (by omega)
              rw [ep_ob_iff hG (by omega)] at this
              exact absurd ⟨z1, z2, by rw [show 256 * (a / 256 + (p - a / 256)) / 256 = p by omega]; exact p3⟩ (this k hk)
            · simp [z5]
          · simp [z4]
  unfold eF_12_areOpen
  rw [nI_add]
  refine ep_lp (fun i => (ep_bi (ep_all bb i), nI i)) 12 (ep_bi (ep_all bb 12)) (by decide) rfl ?_ ?_ (by rw [if_pos (ep_bi_bo _), hbb])
  · intro i hi rec
    have q1 : nI i < 12 := ep_lt (b := 12) hi (by decide) rfl
    have q2 : eh_in (nI i) 12 = true := ep_in hi (by decide)
    have q3 : eh_ix (nI i) = i := ep_ix (by omega)
    simp (disch := first | assumption | decide) only [ep_V, ep_J, ep_sb, ep_rC1, ep_rC2, ep_rM, ep_rJ, ep_rQ, ep_wC1, ep_wC2, ep_wM, ep_iC1, ep_iC2, ep_iM, ep_wJ, ep_wQ, ep_cI1, ep_cIn, ep_cI2, ep_cL1, ep_cLn, ep_cL2, ep_cG1, ep_cGq, ep_cQ1, ep_cQ2, ep_cQq, ep_cQn, ep_mI1, ep_mIn, ep_mI2, ep_mL1, ep_mLn, ep_mL2, ep_mJ1, ep_mJ2, q1, q2, q3, if_true, nI_1, ep_bi_0]
    show _ = rec (ep_bi (ep_all bb i && bb i), nI (i + 1))
    by_cases h : ep_all bb i = false
    · simp only [h, if_true, Bool.false_and, ep_bi_f]
    · have h' : ep_all bb i = true := by simpa using h
      simp only [h', Bool.true_and, bb]
      by_cases z1 : m.1 164 i = 0
      · simp [z1, ep_bi]
      · by_cases z2 : m.1 164 i = 2
        · simp [z2, ep_bi]
        · by_cases z4 : nI a < m.1 165 i + m.1 166 i
          · by_cases z5 : m.1 165 i < nI (a + n)
            · simp [z1, z2, z4, z5, ep_bi]
            · simp [z1, z2, z4, z5, ep_bi]
          · simp [z1, z2, z4, ep_bi]
  · intro rec
    have q1 : ¬ nI 12 < 12 := by decide
    simp only [q1, if_false]
/-- stores there are told of -/
def ep_tb (S P : Nat → Int32) (q : Nat) : Bool := !decide (P (q / 256) < 0) && (decide (S (eh_ix (P (q / 256))) = 2) || decide (S (eh_ix (P (q / 256))) = 3))
theorem ep_ctells {N : Nat} {c : ep_C} {m : ep_M} (hR : ep_R N c m) {q : Nat} (hq : q < 131072) (m0 : ep_M) : eF_6_tellsOfStores (ep_mk c m0) (nI q) = some (ep_bi (ep_tb (m.1 164) (c.1 10) q)) := by
  have hG := hR.2.2.2.1
  have hS : c.1 3 = m.1 164 := hR.2.2.1.1
  have q1 : ¬ nI q < 0 := nI_pos (by omega)
  have q2 : nI q < 131072 := ep_lt (b := 131072) hq (by decide) rfl
  have q3 : eh_shr (nI q) 8 = nI (q / 256) := by rw [show (8 : Int32) = nI 8 from rfl, ep_shrn (by omega) (by decide)]
  have q4 : eh_in (nI (q / 256)) 512 = true := ep_in (by omega) (by decide)
  have q5 : eh_ix (nI (q / 256)) = q / 256 := ep_ix (by omega)
  unfold eF_6_tellsOfStores ep_tb
  simp (disch := first | assumption | decide) only [ep_V, ep_J, ep_sb, ep_rC1, ep_rC2, ep_rM, ep_rJ, ep_rQ, ep_wC1, ep_wC2, ep_wM, ep_iC1, ep_iC2, ep_iM, ep_wJ, ep_wQ, ep_cI1, ep_cIn, ep_cI2, ep_cL1, ep_cLn, ep_cL2, ep_cG1, ep_cGq, ep_cQ1, ep_cQ2, ep_cQq, ep_cQn, ep_mI1, ep_mIn, ep_mI2, ep_mL1, ep_mLn, ep_mL2, ep_mJ1, ep_mJ2, q1, q2, q3, q4, q5, if_true, if_false, hS]
  rcases ep_P_in hG (show q / 256 < 512 by omega) with g | ⟨g1, g2⟩
  · simp [g, ep_bi]
  · by_cases z : m.1 164 (eh_ix (c.1 10 (q / 256))) = 2
    · simp [g1, g2, z, ep_bi]
    · by_cases z3 : m.1 164 (eh_ix (c.1 10 (q / 256))) = 3
      · simp [g1, g2, z3, ep_bi]
      · simp [g1, g2, z, z3, ep_bi]
theorem ep_msharedAt {N : Nat} {c : ep_C} {m : ep_M} (hR : ep_R N c m) {q : Nat} (hq : q < 131072) : ∃ v, (v = -1 ↔ ep_tb (m.1 164) (c.1 10) q = false) ∧ ∀ c0, eF_12_sharedAt (ep_mk c0 m) (nI q) = some v := by
  have hG := hR.2.2.2.1
  let bb : Nat → Bool := fun j => (decide (m.1 164 j = 2) || decide (m.1 164 j = 3)) && !(decide (nI q < m.1 165 j)) && decide (nI q < m.1 165 j + m.1 166 j)
  let fd : Nat → Int32 := fun n => Nat.rec (-1) (fun i x => if bb i = true then nI i else x) n
  have fs : ∀ i, fd (i + 1) = if bb i = true then nI i else fd i := fun i => rfl
  have f1 : ∀ n, n ≤ 12 → (fd n = -1 ↔ ∀ j, j < n → bb j = false) := by
    intro n
    induction n with
    | zero => intro _; exact ⟨fun _ j h => absurd h (Nat.not_lt_zero j), fun _ => rfl⟩
    | succ n ih =>
      intro hn
      rw [fs]
      by_cases hb : bb n = true
      · rw [if_pos hb]
        constructor
        · intro h; exact absurd h (ep_nI_ne_m1 (by omega))
        · intro h; have := h n (by omega); rw [hb] at this; exact absurd this (by decide)
      · rw [if_neg hb, ih (by omega)]
        constructor
        · intro h j hj
          by_cases g : j = n
          · rw [g]; simpa using hb
          · exact h j (by omega)
        · intro h j hj; exact h j (by omega)
  refine ⟨fd 12, ?_, fun c0 => ?_⟩
  · rw [f1 12 (by decide)]
    unfold ep_tb
    constructor
    · intro h
      rcases hG.2.1 (q / 256) (by omega) with g | ⟨k, hk, g, gs⟩
      · rw [g]; rfl
      · rw [g, show eh_ix (nI k) = k from ep_ix (by omega)]
        have hb := h k hk
        have hc := (ep_cov (hG.1 k hk gs).2.1 hq).mpr g
        simp [bb, hc.1, hc.2] at hb
        simp [hb.1, hb.2]
    · intro h k hk
      show ((decide (m.1 164 k = 2) || decide (m.1 164 k = 3)) && !(decide (nI q < m.1 165 k)) && decide (nI q < m.1 165 k + m.1 166 k)) = false
      by_cases z : m.1 164 k = 2 ∨ m.1 164 k = 3
      · have z0 : m.1 164 k ≠ 0 := by rcases z with z | z <;> rw [z] <;> decide
        by_cases z3 : ¬ nI q < m.1 165 k ∧ nI q < m.1 165 k + m.1 166 k
        · have hc := (ep_cov (hG.1 k hk z0).2.1 hq).mp z3
          rw [hc, show eh_ix (nI k) = k from ep_ix (by omega)] at h
          have : ¬ nI k < 0 := nI_pos (by omega)
          rcases z with z | z <;> simp [this, z] at h
        · by_cases z4 : nI q < m.1 165 k
          · simp [z4]
          · by_cases z5 : nI q < m.1 165 k + m.1 166 k
            · exact absurd ⟨z4, z5⟩ z3
            · simp [z5]
      · have : ¬ m.1 164 k = 2 := fun y => z (Or.inl y)
        have : ¬ m.1 164 k = 3 := fun y => z (Or.inr y)
        simp [*]
  · unfold eF_12_sharedAt
    refine ep_lp (fun i => (fd i, nI i)) 12 (fd 12) (by decide) rfl ?_ ?_ rfl
    · intro i hi rec
      have q1 : nI i < 12 := ep_lt (b := 12) hi (by decide) rfl
      have q2 : eh_in (nI i) 12 = true := ep_in hi (by decide)
      have q3 : eh_ix (nI i) = i := ep_ix (by omega)
      simp (disch := first | assumption | decide) only [ep_V, ep_J, ep_sb, ep_rC1, ep_rC2, ep_rM, ep_rJ, ep_rQ, ep_wC1, ep_wC2, ep_wM, ep_iC1, ep_iC2, ep_iM, ep_wJ, ep_wQ, ep_cI1, ep_cIn, ep_cI2, ep_cL1, ep_cLn, ep_cL2, ep_cG1, ep_cGq, ep_cQ1, ep_cQ2, ep_cQq, ep_cQn, ep_mI1, ep_mIn, ep_mI2, ep_mL1, ep_mLn, ep_mL2, ep_mJ1, ep_mJ2, q1, q2, q3, if_true, nI_1]
      rw [fs]
      simp only [bb]
      by_cases z2 : m.1 164 i = 2
      · by_cases z4 : nI q < m.1 165 i
        · simp [z2, z4]
        · by_cases z5 : nI q < m.1 165 i + m.1 166 i
          · simp [z2, z4, z5]
          · simp [z2, z4, z5]
      · by_cases z3 : m.1 164 i = 3
        · by_cases z4 : nI q < m.1 165 i
          · simp [z3, z4]
          · by_cases z5 : nI q < m.1 165 i + m.1 166 i
            · simp [z3, z4, z5]
            · simp [z3, z4, z5]
        · simp [z2, z3]
    · intro rec
      have q1 : ¬ nI 12 < 12 := by decide
      simp only [q1, if_false]
