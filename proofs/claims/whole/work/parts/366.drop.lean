/-! a region is taken back -/
theorem ep_lock0 {σ τ : Type} {B1 : (σ → Option eh_F) → σ → Option eh_F} {B2 : (τ → Option eh_F) → τ → Option eh_F} (e1 : Nat → eh_F → σ) (e2 : Nat → eh_F → τ) (P : Nat → ep_C → ep_M → Prop) (N : Nat)
    (hs : ∀ i c m, i < N → P i c m → ∃ c' m', P (i + 1) c' m' ∧ (∀ m0 rec, B1 rec (e1 i (ep_mk c m0)) = rec (e1 (i + 1) (ep_mk c' m0))) ∧ (∀ c0 rec, B2 rec (e2 i (ep_mk c0 m)) = rec (e2 (i + 1) (ep_mk c0 m'))))
    (he : ∀ c m, P N c m → (∀ m0 rec, B1 rec (e1 N (ep_mk c m0)) = some (ep_mk c m0)) ∧ (∀ c0 rec, B2 rec (e2 N (ep_mk c0 m)) = some (ep_mk c0 m))) : ∀ (k i n1 n2 : Nat) (c : ep_C) (m : ep_M), i + k = N → k < n1 → k < n2 → P i c m → ∃ c' m', P N c' m' ∧ (∀ m0, eh_loop B1 n1 (e1 i (ep_mk c m0)) = some (ep_mk c' m0)) ∧ (∀ c0, eh_loop B2 n2 (e2 i (ep_mk c0 m)) = some (ep_mk c0 m'))
  | 0, i, n1 + 1, n2 + 1, c, m, hi, _, _, hp => by
    have : i = N := by omega
    subst this
    exact ⟨c, m, hp, fun m0 => by rw [eh_loop]; exact (he c m hp).1 m0 _, fun c0 => by rw [eh_loop]; exact (he c m hp).2 c0 _⟩
  | k + 1, i, n1 + 1, n2 + 1, c, m, hi, h1, h2, hp => by
    obtain ⟨c1, m1, hp1, a, b⟩ := hs i c m (by omega) hp
    obtain ⟨c2, m2, hp2, a2, b2⟩ := ep_lock0 e1 e2 P N hs he k (i + 1) n1 n2 c1 m1 (by omega) (by omega) (by omega) hp1
    exact ⟨c2, m2, hp2, fun m0 => by rw [eh_loop, a]; exact a2 m0, fun c0 => by rw [eh_loop, b]; exact b2 c0⟩
theorem ep_lock {σ τ : Type} {B1 : (σ → Option eh_F) → σ → Option eh_F} {B2 : (τ → Option eh_F) → τ → Option eh_F} (e1 : Nat → eh_F → σ) (e2 : Nat → eh_F → τ) (P : Nat → ep_C → ep_M → Prop) (N : Nat) (hN : N < 1000000)
    (hs : ∀ i c m, i < N → P i c m → ∃ c' m', P (i + 1) c' m' ∧ (∀ m0 rec, B1 rec (e1 i (ep_mk c m0)) = rec (e1 (i + 1) (ep_mk c' m0))) ∧ (∀ c0 rec, B2 rec (e2 i (ep_mk c0 m)) = rec (e2 (i + 1) (ep_mk c0 m'))))
    (he : ∀ c m, P N c m → (∀ m0 rec, B1 rec (e1 N (ep_mk c m0)) = some (ep_mk c m0)) ∧ (∀ c0 rec, B2 rec (e2 N (ep_mk c0 m)) = some (ep_mk c0 m))) {c : ep_C} {m : ep_M} (hp : P 0 c m) : ∃ c' m', P N c' m' ∧ (∀ m0, eh_loop B1 eh_FU (e1 0 (ep_mk c m0)) = some (ep_mk c' m0)) ∧ (∀ c0, eh_loop B2 eh_FU (e2 0 (ep_mk c0 m)) = some (ep_mk c0 m')) :=
  ep_lock0 e1 e2 P N hs he N 0 eh_FU eh_FU c m (by omega) (ep_FU N hN) (ep_FU N hN) hp
def ep_ctb (c : ep_C) (k b n : Nat) (s : Int32) : ep_C := ep_cI (ep_cL (if s = 2 then c else ep_cwp c b n) 10 (ep_in_ (c.1 10) b n fun _ => -1)) 3 k 0
def ep_mtb (m : ep_M) (k b n : Nat) (s : Int32) : ep_M := ep_mI (if s = 2 then m else ep_mwp m b n) 164 k 0
theorem ep_ctake (c : ep_C) (m0 : ep_M) {k b n : Nat} (hk : k < 12) (h : b + n ≤ 512) (h4 : c.1 4 k = nI (256 * b)) (h5 : c.1 5 k = nI (256 * n)) : eF_6_takeBack (ep_mk c m0) (nI k) = some (ep_mk (ep_ctb c k b n (c.1 3 k)) m0) := by
  have i12 : eh_in (nI k) 12 = true := ep_in hk (by decide)
  have x12 : eh_ix (nI k) = k := ep_ix (by omega)
  unfold eF_6_takeBack
  rw [if_pos i12, x12, ep_J, ep_rC1 _ _ 3 (by decide)]
  unfold ep_ctb
  by_cases y : c.1 3 k = 2
  · rw [if_pos y, if_pos y]
    dsimp only
    rw [ep_cmark _ _ hk h h4 h5, ep_sb, if_pos i12, ep_V, ep_iC1 _ _ _ _ _ (by decide)]
  · rw [if_neg y, if_neg y, if_pos i12, if_pos i12, ep_rC1 _ _ 4 (by decide), ep_rC1 _ _ 5 (by decide), h4, h5, ep_cwipe _ _ h, ep_sb]
    dsimp only
    rw [ep_cmark _ _ hk h (by show c.1 4 k = _; exact h4) (by show c.1 5 k = _; exact h5), ep_sb, if_pos i12, ep_V, ep_iC1 _ _ _ _ _ (by decide)]
    rfl
theorem ep_mdrop_ (m : ep_M) (c0 : ep_C) {k b n : Nat} (hk : k < 12) (h : b + n ≤ 512) (h4 : m.1 165 k = nI (256 * b)) (h5 : m.1 166 k = nI (256 * n)) : eF_12_drop (ep_mk c0 m) (nI k) = some (ep_mk c0 (ep_mtb m k b n (m.1 164 k))) := by
  have i12 : eh_in (nI k) 12 = true := ep_in hk (by decide)
  have x12 : eh_ix (nI k) = k := ep_ix (by omega)
  unfold eF_12_drop
  rw [if_pos i12, x12, ep_J, ep_rM _ _ 164 (by decide)]
  unfold ep_mtb
  by_cases y : m.1 164 k = 2
  · rw [if_pos y, if_pos y]
    dsimp only
    rw [if_pos i12, ep_V, ep_iM _ _ _ _ _ (by decide)]
  · rw [if_neg y, if_neg y, if_pos i12, if_pos i12, ep_rM _ _ 165 (by decide), ep_rM _ _ 166 (by decide), h4, h5, ep_mclear _ _ h, ep_sb]
    dsimp only
    rw [if_pos i12, ep_V, ep_iM _ _ _ _ _ (by decide)]
    rfl
/-- all of ep_Gr but that a living enclave has its own region -/
def ep_Gr2 (S B Z O T P E W : Nat → Int32) : Prop :=
  (∀ k, k < 12 → S k ≠ 0 → (S k = 1 ∨ S k = 2 ∨ S k = 3 ∨ S k = 4) ∧ ep_span B Z P k ∧ (∃ e, e < 6 ∧ O k = nI e ∧ E e ≠ 0 ∧ (S k = 1 → W e = nI k)) ∧ (S k = 3 → ∃ e, e < 6 ∧ T k = nI e ∧ E e ≠ 0 ∧ T k ≠ O k) ∧ (S k ≠ 3 → T k = -1)) ∧
  (∀ p, p < 512 → P p = -1 ∨ ∃ k, k < 12 ∧ P p = nI k ∧ S k ≠ 0)
theorem ep_Gr2_of {S B Z O T P E W : Nat → Int32} (h : ep_Gr S B Z O T P E W) : ep_Gr2 S B Z O T P E W := ⟨h.1, h.2.1⟩
theorem ep_Gr2_drop {S B Z O T P E W : Nat → Int32} (h : ep_Gr2 S B Z O T P E W) {k b n : Nat} (hk : k < 12) (h0 : S k ≠ 0) (hB : B k = nI (256 * b)) (hZ : Z k = nI (256 * n)) (hP : ∀ p, p < 512 → (P p = nI k ↔ b ≤ p ∧ p < b + n)) : ep_Gr2 (upd S k 0) B Z O T (ep_in_ P b n fun _ => -1) E W := by
  obtain ⟨h1, h2⟩ := h
  have Pin : ∀ p, b ≤ p → p < b + n → ep_in_ P b n (fun _ => -1) p = -1 := fun p x y => by unfold ep_in_; rw [if_pos ⟨x, y⟩]
  have Pout : ∀ p, ¬ (b ≤ p ∧ p < b + n) → ep_in_ P b n (fun _ => -1) p = P p := fun p x => by unfold ep_in_; rw [if_neg x]
  refine ⟨fun k' hk' hs' => ?_, fun p hp => ?_⟩
  · have y : k' ≠ k := fun z => by rw [z, ep_upd_eq] at hs'; exact hs' rfl
    rw [ep_upd_ne y] at hs' ⊢
    obtain ⟨a1, ⟨b', n', a2, a3, a4, a5, a6⟩, a7⟩ := h1 k' hk' hs'
    refine ⟨a1, ⟨b', n', a2, a3, a4, a5, fun p hp => ?_⟩, a7⟩
    by_cases z : b ≤ p ∧ p < b + n
    · rw [Pin p z.1 z.2, ← a6 p hp, (hP p hp).mpr z]
      exact ⟨fun w => absurd w.symm (ep_nI_ne_m1 (by omega)), fun w => absurd ((nI_eq (by omega) (by omega)).mp w).symm y⟩
    · rw [Pout p z]; exact a6 p hp
  · by_cases z : b ≤ p ∧ p < b + n
    · rw [Pin p z.1 z.2]; exact Or.inl rfl
    · rw [Pout p z]
      rcases h2 p hp with g | ⟨k2, g1, g2, g3⟩
      · exact Or.inl g
      · have : k2 ≠ k := fun w => z ((hP p hp).mp (by rw [g2, w]))
        exact Or.inr ⟨k2, g1, g2, by rw [ep_upd_ne this]; exact g3⟩
theorem ep_R_drop {N : Nat} {c : ep_C} {m : ep_M} (hR : ep_R N c m) {k b n : Nat} (hk : k < 12) (h0 : m.1 164 k ≠ 0) (h1 : m.1 164 k ≠ 1) (hb : b + n ≤ 512) (hB : m.1 165 k = nI (256 * b)) (hZ : m.1 166 k = nI (256 * n)) (hP : ∀ p, p < 512 → (c.1 10 p = nI k ↔ b ≤ p ∧ p < b + n)) : ep_R N (ep_ctb c k b n (m.1 164 k)) (ep_mtb m k b n (m.1 164 k)) := by
  have hg0 := ep_Gr2_drop (ep_Gr2_of hR.2.2.2.1) hk h0 hB hZ hP
  have hg : ep_Gr (upd (m.1 164) k 0) (m.1 165) (m.1 166) (m.1 167) (m.1 168) (ep_in_ (c.1 10) b n fun _ => -1) (m.1 155) (m.1 156) := ⟨hg0.1, hg0.2, fun e he hE => by
    obtain ⟨w, z1, z2, z3, z4⟩ := hR.2.2.2.1.2.2 e he hE
    have : w ≠ k := fun z => h1 (by rw [← z]; exact z3)
    exact ⟨w, z1, z2, by rw [ep_upd_ne this]; exact z3, z4⟩⟩
  have hr : upd (c.1 3) k 0 = upd (m.1 164) k 0 := by rw [hR.2.2.1.1]
  unfold ep_ctb ep_mtb
  by_cases y : m.1 164 k = 2
  · rw [if_pos y, if_pos y]
    exact ⟨hR.1, hR.2.1, ⟨hr, hR.2.2.1.2⟩, hg, hR.2.2.2.2.1, hR.2.2.2.2.2.1, hR.2.2.2.2.2.2.1, hR.2.2.2.2.2.2.2.1, hR.2.2.2.2.2.2.2.2.1, hR.2.2.2.2.2.2.2.2.2.1, hR.2.2.2.2.2.2.2.2.2.2.1, hR.2.2.2.2.2.2.2.2.2.2.2.1, hR.2.2.2.2.2.2.2.2.2.2.2.2.1, hR.2.2.2.2.2.2.2.2.2.2.2.2.2.1, hR.2.2.2.2.2.2.2.2.2.2.2.2.2.2.1, hR.2.2.2.2.2.2.2.2.2.2.2.2.2.2.2.1, hR.2.2.2.2.2.2.2.2.2.2.2.2.2.2.2.2.1, hR.2.2.2.2.2.2.2.2.2.2.2.2.2.2.2.2.2.1, hR.2.2.2.2.2.2.2.2.2.2.2.2.2.2.2.2.2.2.1, hR.2.2.2.2.2.2.2.2.2.2.2.2.2.2.2.2.2.2.2.1, hR.2.2.2.2.2.2.2.2.2.2.2.2.2.2.2.2.2.2.2.2.1, hR.2.2.2.2.2.2.2.2.2.2.2.2.2.2.2.2.2.2.2.2.2.1, hR.2.2.2.2.2.2.2.2.2.2.2.2.2.2.2.2.2.2.2.2.2.2.1, hR.2.2.2.2.2.2.2.2.2.2.2.2.2.2.2.2.2.2.2.2.2.2.2.1, hR.2.2.2.2.2.2.2.2.2.2.2.2.2.2.2.2.2.2.2.2.2.2.2.2.1, hR.2.2.2.2.2.2.2.2.2.2.2.2.2.2.2.2.2.2.2.2.2.2.2.2.2.1, hR.2.2.2.2.2.2.2.2.2.2.2.2.2.2.2.2.2.2.2.2.2.2.2.2.2.2.1, hR.2.2.2.2.2.2.2.2.2.2.2.2.2.2.2.2.2.2.2.2.2.2.2.2.2.2.2.1, hR.2.2.2.2.2.2.2.2.2.2.2.2.2.2.2.2.2.2.2.2.2.2.2.2.2.2.2.2.1, hR.2.2.2.2.2.2.2.2.2.2.2.2.2.2.2.2.2.2.2.2.2.2.2.2.2.2.2.2.2.1, hR.2.2.2.2.2.2.2.2.2.2.2.2.2.2.2.2.2.2.2.2.2.2.2.2.2.2.2.2.2.2.1, hR.2.2.2.2.2.2.2.2.2.2.2.2.2.2.2.2.2.2.2.2.2.2.2.2.2.2.2.2.2.2.2.1, hR.2.2.2.2.2.2.2.2.2.2.2.2.2.2.2.2.2.2.2.2.2.2.2.2.2.2.2.2.2.2.2.2.1, hR.2.2.2.2.2.2.2.2.2.2.2.2.2.2.2.2.2.2.2.2.2.2.2.2.2.2.2.2.2.2.2.2.2⟩
  · rw [if_neg y, if_neg y]
    exact ⟨ep_Gm_z hR.1 b n, hR.2.1, ⟨hr, hR.2.2.1.2⟩, hg, ep_Gres_z hR.2.2.2.2.1 hb, hR.2.2.2.2.2.1, hR.2.2.2.2.2.2.1, hR.2.2.2.2.2.2.2.1, hR.2.2.2.2.2.2.2.2.1, hR.2.2.2.2.2.2.2.2.2.1, hR.2.2.2.2.2.2.2.2.2.2.1, hR.2.2.2.2.2.2.2.2.2.2.2.1, hR.2.2.2.2.2.2.2.2.2.2.2.2.1, hR.2.2.2.2.2.2.2.2.2.2.2.2.2.1, hR.2.2.2.2.2.2.2.2.2.2.2.2.2.2.1, hR.2.2.2.2.2.2.2.2.2.2.2.2.2.2.2.1, hR.2.2.2.2.2.2.2.2.2.2.2.2.2.2.2.2.1, hR.2.2.2.2.2.2.2.2.2.2.2.2.2.2.2.2.2.1, hR.2.2.2.2.2.2.2.2.2.2.2.2.2.2.2.2.2.2.1, hR.2.2.2.2.2.2.2.2.2.2.2.2.2.2.2.2.2.2.2.1, hR.2.2.2.2.2.2.2.2.2.2.2.2.2.2.2.2.2.2.2.2.1, hR.2.2.2.2.2.2.2.2.2.2.2.2.2.2.2.2.2.2.2.2.2.1, hR.2.2.2.2.2.2.2.2.2.2.2.2.2.2.2.2.2.2.2.2.2.2.1, hR.2.2.2.2.2.2.2.2.2.2.2.2.2.2.2.2.2.2.2.2.2.2.2.1, hR.2.2.2.2.2.2.2.2.2.2.2.2.2.2.2.2.2.2.2.2.2.2.2.2.1, hR.2.2.2.2.2.2.2.2.2.2.2.2.2.2.2.2.2.2.2.2.2.2.2.2.2.1, hR.2.2.2.2.2.2.2.2.2.2.2.2.2.2.2.2.2.2.2.2.2.2.2.2.2.2.1, hR.2.2.2.2.2.2.2.2.2.2.2.2.2.2.2.2.2.2.2.2.2.2.2.2.2.2.2.1, hR.2.2.2.2.2.2.2.2.2.2.2.2.2.2.2.2.2.2.2.2.2.2.2.2.2.2.2.2.1, hR.2.2.2.2.2.2.2.2.2.2.2.2.2.2.2.2.2.2.2.2.2.2.2.2.2.2.2.2.2.1, hR.2.2.2.2.2.2.2.2.2.2.2.2.2.2.2.2.2.2.2.2.2.2.2.2.2.2.2.2.2.2.1, hR.2.2.2.2.2.2.2.2.2.2.2.2.2.2.2.2.2.2.2.2.2.2.2.2.2.2.2.2.2.2.2.1, hR.2.2.2.2.2.2.2.2.2.2.2.2.2.2.2.2.2.2.2.2.2.2.2.2.2.2.2.2.2.2.2.2.1, hR.2.2.2.2.2.2.2.2.2.2.2.2.2.2.2.2.2.2.2.2.2.2.2.2.2.2.2.2.2.2.2.2.2⟩
theorem ep_drop_ {N : Nat} {c : ep_C} {m : ep_M} (hR : ep_R N c m) (p : Int32) : ep_Cp N c m (fun s => eF_10_drop s p) (fun s => eh_J (fun (u27 : Unit) => some ((-1 : Int32), s)) (fun j26 => if p < 0 then (j26 ()) else (if p < 12 then (if eh_in p 12 then if 1 < (s.1 164 (eh_ix p)) then (Option.bind (eF_12_drop s p) (fun q31 => some (0, q31))) else (j26 ()) else none) else (j26 ())))) := by
  have r3 : c.1 3 = m.1 164 := hR.2.2.1.1
  have hin := ep_inl (p := p) (n := 12) (by decide)
  by_cases hi : ¬ eh_in p 12 = true
  · have hb : ep_inb p 12 (m.1 164) = false := by
      unfold ep_inb
      rw [Bool.eq_false_iff.mpr hi, Bool.false_and]
    refine ep_Cp_id hR (-1) (fun m0 => ?_) (fun c0 => ?_)
    · show eF_10_drop (ep_mk c m0) p = _
      unfold eF_10_drop
      rw [ep_chasR hR, ep_sb, hb, ep_J, if_pos ep_bf]
    · show eh_J _ _ = _
      rw [ep_J]
      by_cases y1 : p < 0
      · rw [if_pos y1]
      · rw [if_neg y1, if_neg (show ¬ p < 12 from fun z => hi (hin.mpr ⟨y1, z⟩))]
  have hi := Decidable.not_not.mp hi
  have y := hin.mp hi
  obtain ⟨k, hk, rfl⟩ := ep_in_of hi (by decide)
  have x12 : eh_ix (nI k) = k := ep_ix (by omega)
  by_cases h0 : m.1 164 k = 0
  · have hb : ep_inb (nI k) 12 (m.1 164) = false := by rw [ep_inb_nI hk (by decide)]; simp [h0]
    refine ep_Cp_id hR (-1) (fun m0 => ?_) (fun c0 => ?_)
    · show eF_10_drop (ep_mk c m0) _ = _
      unfold eF_10_drop
      rw [ep_chasR hR, ep_sb, hb, ep_J, if_pos ep_bf]
    · show eh_J _ _ = _
      rw [ep_J, if_neg y.1, if_pos (show nI k < 12 from y.2), if_pos hi, x12, ep_rM _ _ 164 (by decide), h0, if_neg (by decide)]
  have hb : ep_inb (nI k) 12 (m.1 164) = true := by rw [ep_inb_nI hk (by decide)]; simp [h0]
  obtain ⟨g1, ⟨b, n, n0, bn, hB, hZ, hP⟩, -⟩ := hR.2.2.2.1.1 k hk h0
  by_cases h1 : m.1 164 k = 1
  · refine ep_Cp_id hR (-1) (fun m0 => ?_) (fun c0 => ?_)
    · show eF_10_drop (ep_mk c m0) _ = _
      unfold eF_10_drop
      rw [ep_chasR hR, ep_sb, hb, ep_J, if_neg ep_bt, if_pos hi, x12, ep_rC1 _ _ _ (by decide), r3, if_pos h1]
    · show eh_J _ _ = _
      rw [ep_J, if_neg y.1, if_pos (show nI k < 12 from y.2), if_pos hi, x12, ep_rM _ _ 164 (by decide), h1, if_neg (by decide)]
  have h1l : 1 < m.1 164 k := by
    rcases g1 with z | z | z | z
    · exact absurd z h1
    · rw [z]; decide
    · rw [z]; decide
    · rw [z]; decide
  obtain ⟨-, r4, r5, -⟩ := hR.2.2.1
  refine ⟨0, _, _, fun m0 => ?_, fun c0 => ?_, ep_R_drop hR hk h0 h1 bn hB hZ hP, ?_⟩
  · show eF_10_drop (ep_mk c m0) _ = _
    unfold eF_10_drop
    rw [ep_chasR hR, ep_sb, hb, ep_J, if_neg ep_bt, if_pos hi, x12, ep_rC1 _ _ _ (by decide), r3, if_neg h1, ep_ctake c m0 hk bn (by rw [r4]; exact hB) (by rw [r5]; exact hZ), ep_sb, r3]
  · show eh_J _ _ = _
    rw [ep_J, if_neg y.1, if_pos (show nI k < 12 from y.2), if_pos hi, x12, ep_rM _ _ 164 (by decide), if_pos h1l, ep_mdrop_ m c0 hk bn hB hZ, ep_sb]
  · unfold ep_ctb ep_mtb
    by_cases z : m.1 164 k = 2
    · rw [if_pos z, if_pos z]; exact ⟨rfl, rfl, fun _ _ => rfl, rfl⟩
    · rw [if_neg z, if_neg z]; exact ⟨rfl, rfl, fun _ _ => rfl, rfl⟩
