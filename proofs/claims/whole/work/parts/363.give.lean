/-! a region is given -/
theorem ep_Gr_give {S B Z O T P E W E' W' : Nat → Int32} (h : ep_Gr S B Z O T P E W) {k b n e : Nat} {s t : Int32} (hk : k < 12) (h0 : S k = 0) (hn : 0 < n) (hb : b + n ≤ 512) (hf : ∀ p, b ≤ p → p < b + n → P p = -1) (hE : ∀ e, e < 6 → E e ≠ 0 → E' e ≠ 0 ∧ W' e = W e) (hs : s = 1 ∨ s = 2 ∨ s = 3 ∨ s = 4) (he : e < 6) (ho : E' e ≠ 0 ∧ (s = 1 → W' e = nI k)) (ht : (s = 3 → ∃ e', e' < 6 ∧ t = nI e' ∧ E' e' ≠ 0 ∧ t ≠ nI e) ∧ (s ≠ 3 → t = -1)) (hnew : ∀ e', e' < 6 → E' e' ≠ 0 → E e' ≠ 0 ∨ (W' e' = nI k ∧ s = 1 ∧ e' = e)) : ep_Gr (upd S k s) (upd B k (nI (256 * b))) (upd Z k (nI (256 * n))) (upd O k (nI e)) (upd T k t) (ep_in_ P b n fun _ => nI k) E' W' := by
  obtain ⟨h1, h2, h3⟩ := h
  have s0 : s ≠ 0 := by rcases hs with rfl | rfl | rfl | rfl <;> decide
  have Pin : ∀ p, b ≤ p → p < b + n → ep_in_ P b n (fun _ => nI k) p = nI k := fun p x y => by unfold ep_in_; rw [if_pos ⟨x, y⟩]
  have Pout : ∀ p, ¬ (b ≤ p ∧ p < b + n) → ep_in_ P b n (fun _ => nI k) p = P p := fun p x => by unfold ep_in_; rw [if_neg x]
  have kk : ∀ {k'}, k' < 12 → k' ≠ k → nI k' ≠ nI k := fun hk' x y => x ((nI_eq (by omega) (by omega)).mp y)
  have m1 : ∀ {k'}, k' < 12 → (-1 : Int32) ≠ nI k' := fun hk' x => ep_nI_ne_m1 (by omega) x.symm
  refine ⟨fun k' hk' hs' => ?_, fun p hp => ?_, fun e' he' hE' => ?_⟩
  · by_cases y : k' = k
    · subst y
      rw [ep_upd_eq, ep_upd_eq, ep_upd_eq]
      refine ⟨hs, ⟨b, n, hn, hb, by rw [ep_upd_eq], by rw [ep_upd_eq], fun p hp => ?_⟩, ⟨e, he, rfl, ho⟩, ht⟩
      by_cases z : b ≤ p ∧ p < b + n
      · rw [Pin p z.1 z.2]; exact ⟨fun _ => z, fun _ => rfl⟩
      · rw [Pout p z]
        refine ⟨fun w => ?_, fun w => absurd w z⟩
        rcases h2 p hp with g | ⟨k2, g1, g2, g3⟩
        · rw [g] at w; exact absurd w (m1 hk')
        · rw [g2] at w
          have := (nI_eq (by omega) (by omega)).mp w
          subst this
          exact absurd h0 g3
    · rw [ep_upd_ne y] at hs'
      rw [ep_upd_ne y, ep_upd_ne y, ep_upd_ne y]
      obtain ⟨a1, ⟨b', n', a2, a3, a4, a5, a6⟩, ⟨x, x1, x2, x3, x4⟩, a7, a8⟩ := h1 k' hk' hs'
      refine ⟨a1, ⟨b', n', a2, a3, by rw [ep_upd_ne y]; exact a4, by rw [ep_upd_ne y]; exact a5, fun p hp => ?_⟩, ⟨x, x1, x2, (hE x x1 x3).1, fun z => (hE x x1 x3).2.trans (x4 z)⟩, fun z => ?_, a8⟩
      · by_cases z : b ≤ p ∧ p < b + n
        · rw [Pin p z.1 z.2, ← a6 p hp, hf p z.1 z.2]
          exact ⟨fun w => absurd w.symm (kk hk' y), fun w => absurd w (m1 hk')⟩
        · rw [Pout p z]; exact a6 p hp
      · obtain ⟨x', y1, y2, y3, y4⟩ := a7 z
        exact ⟨x', y1, y2, (hE x' y1 y3).1, y4⟩
  · by_cases z : b ≤ p ∧ p < b + n
    · rw [Pin p z.1 z.2]
      exact Or.inr ⟨k, hk, rfl, by rw [ep_upd_eq]; exact s0⟩
    · rw [Pout p z]
      rcases h2 p hp with g | ⟨k2, g1, g2, g3⟩
      · exact Or.inl g
      · exact Or.inr ⟨k2, g1, g2, by rw [ep_upd_ne (fun w => g3 (by rw [w]; exact h0))]; exact g3⟩
  · rcases hnew e' he' hE' with z | ⟨z1, z2, z3⟩
    · obtain ⟨k2, g1, g2, g3, g4⟩ := h3 e' he' z
      have : k2 ≠ k := fun w => by rw [w, h0] at g3; exact absurd g3 (by decide)
      exact ⟨k2, g1, (hE e' he' z).2.trans g2, by rw [ep_upd_ne this]; exact g3, by rw [ep_upd_ne this]; exact g4⟩
    · exact ⟨k, hk, z1, by rw [ep_upd_eq]; exact z2, by rw [ep_upd_eq, z3]⟩
def ep_cgv (c : ep_C) (k : Nat) (s : Int32) (b n : Nat) (o t : Int32) : ep_C := ep_cL (ep_cI (ep_cI (ep_cI (ep_cI (ep_cI (ep_cI c 3 k s) 4 k (nI (256 * b))) 5 k (nI (256 * n))) 6 k o) 7 k t) 8 k 0) 10 (ep_in_ (c.1 10) b n fun _ => nI k)
def ep_mgv (m : ep_M) (k : Nat) (s : Int32) (b n : Nat) (o t : Int32) : ep_M := ep_mI (ep_mI (ep_mI (ep_mI (ep_mI (ep_mI m 164 k s) 165 k (nI (256 * b))) 166 k (nI (256 * n))) 167 k o) 168 k t) 169 k 0
def ep_cwp (c : ep_C) (b n : Nat) : ep_C := ep_c2 c (ep_in_ (c.1 9) (64 * b) (64 * n) fun _ => 0) (ep_wcl (c.1 11) (nI (64 * b)) (nI (64 * b + 64 * n)) 2)
def ep_mwp (m : ep_M) (b n : Nat) : ep_M := ep_m2 m (ep_in_ (m.1 128) (256 * b) (256 * n) fun _ => 0) (ep_clrs (m.1 147) (256 * b) (256 * n))
theorem ep_reg_gv {N : Nat} {c : ep_C} {m : ep_M} (hR : ep_R N c m) (k : Nat) (s : Int32) (b n : Nat) (o t : Int32) : upd (c.1 3) k s = upd (m.1 164) k s ∧ upd (c.1 4) k (nI (256 * b)) = upd (m.1 165) k (nI (256 * b)) ∧ upd (c.1 5) k (nI (256 * n)) = upd (m.1 166) k (nI (256 * n)) ∧ upd (c.1 6) k o = upd (m.1 167) k o ∧ upd (c.1 7) k t = upd (m.1 168) k t ∧ upd (c.1 8) k 0 = upd (m.1 169) k 0 := by
  obtain ⟨r3, r4, r5, r6, r7, r8⟩ := hR.2.2.1
  rw [r3, r4, r5, r6, r7, r8]
  exact ⟨rfl, rfl, rfl, rfl, rfl, rfl⟩
theorem ep_cgive (c : ep_C) (m0 : ep_M) {k b n : Nat} (hk : k < 12) (h : b + n ≤ 512) (s o t : Int32) : eF_6_give (ep_mk c m0) (nI k) s (nI (256 * b)) (nI (256 * n)) o t = some (ep_mk (if s = 2 then ep_cgv c k s b n o t else ep_cwp (ep_cgv c k s b n o t) b n) m0) := by
  have i12 : eh_in (nI k) 12 = true := ep_in hk (by decide)
  have x12 : eh_ix (nI k) = k := ep_ix (by omega)
  unfold eF_6_give
  rw [if_pos i12, x12, ep_V, ep_iC1 _ _ _ _ _ (by decide), if_pos i12, ep_V, ep_iC1 _ _ _ _ _ (by decide), if_pos i12, ep_V, ep_iC1 _ _ _ _ _ (by decide), if_pos i12, ep_V, ep_iC1 _ _ _ _ _ (by decide), if_pos i12, ep_V, ep_iC1 _ _ _ _ _ (by decide), if_pos i12, ep_V, ep_iC1 _ _ _ _ _ (by decide)]
  refine ep_bnd (ep_cmark _ m0 hk h (by show upd (c.1 4) k (nI (256 * b)) k = _; rw [ep_upd_eq]) (by show upd (c.1 5) k (nI (256 * n)) k = _; rw [ep_upd_eq]) (nI k)) ?_
  rw [ep_J]
  by_cases y : s = 2
  · rw [if_pos y, if_pos y]; rfl
  · rw [if_neg y, if_neg y]
    refine ep_bnd (ep_cwipe _ m0 h) ?_
    rfl
theorem ep_mmake (m : ep_M) (c0 : ep_C) {k b n : Nat} (hk : k < 12) (hf : ep_lf (m.1 164) 0 12 = nI k) (h : b + n ≤ 512) (s o t : Int32) : eF_12_makeRegion (ep_mk c0 m) s (nI (256 * b)) (nI (256 * n)) o t = some (nI k, ep_mk c0 (if s = 2 then ep_mgv m k s b n o t else ep_mwp (ep_mgv m k s b n o t) b n)) := by
  have i12 : eh_in (nI k) 12 = true := ep_in hk (by decide)
  have x12 : eh_ix (nI k) = k := ep_ix (by omega)
  unfold eF_12_makeRegion
  rw [ep_mfree _ _ _ (by decide) (by decide), ep_sb, hf, if_pos i12, x12, ep_V, ep_iM _ _ _ _ _ (by decide), if_pos i12, ep_V, ep_iM _ _ _ _ _ (by decide), if_pos i12, ep_V, ep_iM _ _ _ _ _ (by decide), if_pos i12, ep_V, ep_iM _ _ _ _ _ (by decide), if_pos i12, ep_V, ep_iM _ _ _ _ _ (by decide), if_pos i12, ep_V, ep_iM _ _ _ _ _ (by decide), ep_J]
  by_cases y : s = 2
  · rw [if_pos y, if_pos y]; rfl
  · rw [if_neg y, if_neg y]
    refine ep_bnd (ep_mclear _ c0 h) ?_
    rfl
theorem ep_R_gv {N : Nat} {c : ep_C} {m : ep_M} (hR : ep_R N c m) {k b n e : Nat} {s t : Int32} (hk : k < 12) (h0 : m.1 164 k = 0) (hn : 0 < n) (hb : b + n ≤ 512) (hf : ep_fr (c.1 10) b n = true) (hs : s = 2 ∨ s = 3 ∨ s = 4) (he : e < 6) (ho : m.1 155 e ≠ 0) (ht : (s = 3 → ∃ e', e' < 6 ∧ t = nI e' ∧ m.1 155 e' ≠ 0 ∧ t ≠ nI e) ∧ (s ≠ 3 → t = -1)) : ep_R N (ep_cgv c k s b n (nI e) t) (ep_mgv m k s b n (nI e) t) := by
  have hs1 : s ≠ 1 := by rcases hs with rfl | rfl | rfl <;> decide
  have hg := ep_Gr_give hR.2.2.2.1 (E' := m.1 155) (W' := m.1 156) hk h0 hn hb (ep_fr_t hf) (fun e h1 h2 => ⟨h2, rfl⟩) (Or.inr hs) he ⟨ho, fun z => absurd z hs1⟩ ht (fun e' h1 h2 => Or.inl h2)
  exact ⟨hR.1, hR.2.1, ep_reg_gv hR k s b n (nI e) t, hg, hR.2.2.2.2.1, hR.2.2.2.2.2.1, hR.2.2.2.2.2.2.1, hR.2.2.2.2.2.2.2.1, hR.2.2.2.2.2.2.2.2.1, hR.2.2.2.2.2.2.2.2.2.1, hR.2.2.2.2.2.2.2.2.2.2.1, hR.2.2.2.2.2.2.2.2.2.2.2.1, hR.2.2.2.2.2.2.2.2.2.2.2.2.1, hR.2.2.2.2.2.2.2.2.2.2.2.2.2.1, hR.2.2.2.2.2.2.2.2.2.2.2.2.2.2.1, hR.2.2.2.2.2.2.2.2.2.2.2.2.2.2.2.1, hR.2.2.2.2.2.2.2.2.2.2.2.2.2.2.2.2.1, hR.2.2.2.2.2.2.2.2.2.2.2.2.2.2.2.2.2.1, hR.2.2.2.2.2.2.2.2.2.2.2.2.2.2.2.2.2.2.1, hR.2.2.2.2.2.2.2.2.2.2.2.2.2.2.2.2.2.2.2.1, hR.2.2.2.2.2.2.2.2.2.2.2.2.2.2.2.2.2.2.2.2.1, hR.2.2.2.2.2.2.2.2.2.2.2.2.2.2.2.2.2.2.2.2.2.1, hR.2.2.2.2.2.2.2.2.2.2.2.2.2.2.2.2.2.2.2.2.2.2.1, hR.2.2.2.2.2.2.2.2.2.2.2.2.2.2.2.2.2.2.2.2.2.2.2.1, hR.2.2.2.2.2.2.2.2.2.2.2.2.2.2.2.2.2.2.2.2.2.2.2.2.1, hR.2.2.2.2.2.2.2.2.2.2.2.2.2.2.2.2.2.2.2.2.2.2.2.2.2.1, hR.2.2.2.2.2.2.2.2.2.2.2.2.2.2.2.2.2.2.2.2.2.2.2.2.2.2.1, hR.2.2.2.2.2.2.2.2.2.2.2.2.2.2.2.2.2.2.2.2.2.2.2.2.2.2.2.1, hR.2.2.2.2.2.2.2.2.2.2.2.2.2.2.2.2.2.2.2.2.2.2.2.2.2.2.2.2.1, hR.2.2.2.2.2.2.2.2.2.2.2.2.2.2.2.2.2.2.2.2.2.2.2.2.2.2.2.2.2.1, hR.2.2.2.2.2.2.2.2.2.2.2.2.2.2.2.2.2.2.2.2.2.2.2.2.2.2.2.2.2.2.1, hR.2.2.2.2.2.2.2.2.2.2.2.2.2.2.2.2.2.2.2.2.2.2.2.2.2.2.2.2.2.2.2.1, hR.2.2.2.2.2.2.2.2.2.2.2.2.2.2.2.2.2.2.2.2.2.2.2.2.2.2.2.2.2.2.2.2.1, hR.2.2.2.2.2.2.2.2.2.2.2.2.2.2.2.2.2.2.2.2.2.2.2.2.2.2.2.2.2.2.2.2.2⟩
theorem ep_giveRegion {N : Nat} {c : ep_C} {m : ep_M} (hR : ep_R N c m) {b n e : Nat} {s t : Int32} (hn : 0 < n) (hb : b + n ≤ 512) (hs : s = 2 ∨ s = 3 ∨ s = 4) (he : e < 6) (ho : m.1 155 e ≠ 0) (ht : (s = 3 → ∃ e', e' < 6 ∧ t = nI e' ∧ m.1 155 e' ≠ 0 ∧ t ≠ nI e) ∧ (s ≠ 3 → t = -1)) : ep_Cp N c m (fun x => eF_10_giveRegion x s (nI (256 * b)) (nI (256 * n)) (nI e) t) (fun x => Option.bind (eF_12_isOverlap x (nI (256 * b)) (nI (256 * n))) (fun q11 => if q11 = 0 then (Option.bind (eF_12_free x 164 12) (fun q13 => if q13 = (-1) then some (-5, x) else Option.bind (eF_12_makeRegion x s (nI (256 * b)) (nI (256 * n)) (nI e) t) (fun q20 => some (q20.1, q20.2)))) else (some ((-4), x)))) := by
  cases hf : ep_fr (c.1 10) b n with
  | false =>
    refine ep_Cp_id hR (-4) (fun m0 => ?_) (fun c0 => ?_)
    · show eF_10_giveRegion (ep_mk c m0) _ _ _ _ _ = _
      unfold eF_10_giveRegion
      rw [ep_cover _ _ hb, ep_sb, hf, if_neg (by decide)]
    · show Option.bind (eF_12_isOverlap (ep_mk c0 m) _ _) _ = _
      rw [ep_mover hR hn hb, ep_sb, hf, if_neg (by decide)]
  | true =>
    by_cases hl : ep_lf (m.1 164) 0 12 = -1
    · refine ep_Cp_id hR (-5) (fun m0 => ?_) (fun c0 => ?_)
      · show eF_10_giveRegion (ep_mk c m0) _ _ _ _ _ = _
        unfold eF_10_giveRegion
        rw [ep_cover _ _ hb, ep_sb, hf, if_pos (by decide), ep_cfreeR hR, ep_sb, if_pos hl]
      · show Option.bind (eF_12_isOverlap (ep_mk c0 m) _ _) _ = _
        rw [ep_mover hR hn hb, ep_sb, hf, if_pos (by decide), ep_mfree _ _ _ (by decide) (by decide), ep_sb, if_pos hl]
    · obtain ⟨k, -, hk, hlf, h0⟩ := (ep_lf_of (m.1 164) 12 0).resolve_left hl
      rw [Nat.zero_add] at hk
      have R1 := ep_R_gv hR hk h0 hn hb hf hs he ho ht
      have R2 : ep_R N (if s = 2 then ep_cgv c k s b n (nI e) t else ep_cwp (ep_cgv c k s b n (nI e) t) b n) (if s = 2 then ep_mgv m k s b n (nI e) t else ep_mwp (ep_mgv m k s b n (nI e) t) b n) := by
        by_cases y : s = 2
        · rw [if_pos y, if_pos y]; exact R1
        · rw [if_neg y, if_neg y]; exact ep_R_wipe R1 hb
      refine ⟨nI k, _, _, fun m0 => ?_, fun c0 => ?_, R2, ?_⟩
      · show eF_10_giveRegion (ep_mk c m0) _ _ _ _ _ = _
        unfold eF_10_giveRegion
        rw [ep_cover _ _ hb, ep_sb, hf, if_pos (by decide), ep_cfreeR hR, ep_sb, if_neg hl, hlf, ep_cgive _ _ hk hb, ep_sb]
      · show Option.bind (eF_12_isOverlap (ep_mk c0 m) _ _) _ = _
        rw [ep_mover hR hn hb, ep_sb, hf, if_pos (by decide), ep_mfree _ _ _ (by decide) (by decide), ep_sb, if_neg hl, ep_mmake _ _ hk hlf hb, ep_sb]
      · by_cases y : s = 2
        · rw [if_pos y, if_pos y]; exact ⟨rfl, rfl, fun _ _ => rfl, rfl⟩
        · rw [if_neg y, if_neg y]; exact ⟨rfl, rfl, fun _ _ => rfl, rfl⟩
