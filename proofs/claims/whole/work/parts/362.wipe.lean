/-! memory made empty -/
def ep_wcl (f : Nat → Int32) (lo hi : Int32) (n : Nat) : Nat → Int32 := fun j => if j < n ∧ ¬ f j < lo ∧ f j < hi then -1 else f j
theorem ep_wcl_0 (f : Nat → Int32) (lo hi : Int32) : ep_wcl f lo hi 0 = f := by
  funext j
  unfold ep_wcl
  rw [if_neg (fun z => absurd z.1 (Nat.not_lt_zero j))]
theorem ep_wcl_i (f : Nat → Int32) (lo hi : Int32) (i : Nat) : ep_wcl f lo hi i i = f i := by
  unfold ep_wcl
  rw [if_neg (fun z => absurd z.1 (Nat.lt_irrefl i))]
theorem ep_wcl_y {f : Nat → Int32} {lo hi : Int32} {i : Nat} (h : ¬ f i < lo ∧ f i < hi) : upd (ep_wcl f lo hi i) i (-1) = ep_wcl f lo hi (i + 1) := by
  funext j
  unfold ep_wcl upd
  by_cases e : j = i
  · subst e
    rw [if_pos rfl, if_pos ⟨by omega, h⟩]
  · rw [if_neg e]
    dsimp only
    by_cases z : j < i ∧ ¬ f j < lo ∧ f j < hi
    · rw [if_pos z, if_pos ⟨by omega, z.2⟩]
    · rw [if_neg z, if_neg (fun y => z ⟨by omega, y.2⟩)]
theorem ep_wcl_n {f : Nat → Int32} {lo hi : Int32} {i : Nat} (h : ¬ (¬ f i < lo ∧ f i < hi)) : ep_wcl f lo hi i = ep_wcl f lo hi (i + 1) := by
  funext j
  unfold ep_wcl
  by_cases e : j = i
  · subst e
    rw [if_neg (fun y => h y.2), if_neg (fun y => h y.2)]
  · by_cases z : j < i ∧ ¬ f j < lo ∧ f j < hi
    · rw [if_pos z, if_pos ⟨by omega, z.2⟩]
    · rw [if_neg z, if_neg (fun y => z ⟨by omega, y.2⟩)]
theorem ep_Clr_w (f : Nat → Int32) (lo hi : Int32) : ep_Clr f (ep_wcl f lo hi 2) (fun y => ¬ y < lo ∧ y < hi) := by
  intro h hh
  unfold ep_wcl
  exact ⟨fun z => by rw [if_pos ⟨hh, z⟩], fun z => by rw [if_neg (fun y => z y.2)]⟩
theorem ep_cwipe (c : ep_C) (m0 : ep_M) {b n : Nat} (h : b + n ≤ 512) : eF_6_wipe (ep_mk c m0) (nI (256 * b)) (nI (256 * n)) = some (ep_mk (ep_c2 c (ep_in_ (c.1 9) (64 * b) (64 * n) fun _ => 0) (ep_wcl (c.1 11) (nI (64 * b)) (nI (64 * b + 64 * n)) 2)) m0) := by
  have q4 : eh_shr (nI (256 * b) + nI (256 * n)) 2 = nI (64 * b + 64 * n) := by
    rw [nI_add, show (2 : Int32) = nI 2 from rfl, ep_shrn (by omega) (by decide)]; congr 1; omega
  have q5 : eh_shr (nI (256 * b)) 2 = nI (64 * b) := by rw [show (2 : Int32) = nI 2 from rfl, ep_shrn (by omega) (by decide)]; congr 1; omega
  unfold eF_6_wipe
  rw [ep_V, q4, ep_V, q5]
  refine ep_lp (fun i => (nI (64 * b + i), ep_mk (ep_c2 c (ep_in_ (c.1 9) (64 * b) i fun _ => 0) (c.1 11)) m0)) (64 * n) (ep_mk (ep_c2 c (ep_in_ (c.1 9) (64 * b) (64 * n) fun _ => 0) (c.1 11)) m0) (by omega) ?_ ?_ ?_ ?_
  · show _ = (nI (64 * b), ep_mk (ep_c2 c (ep_in_ (c.1 9) (64 * b) 0 _) _) m0)
    rw [ep_in_0, ep_c2_id]
  · intro i hi rec
    have z0 : ¬ nI (64 * b + i) < 0 := nI_pos (by omega)
    have z1 : nI (64 * b + i) < nI (64 * b + 64 * n) := nI_lt (by omega) (by omega)
    have z3 : nI (64 * b + i) < Int32.ofNat 32768 := nI_lt (b := 32768) (by omega) (by decide)
    show (if nI (64 * b + i) < 0 then _ else _) = _
    rw [if_neg z0, if_pos z1, if_pos z3, if_pos (ep_in (by omega) (by decide)), show eh_ix (nI (64 * b + i)) = 64 * b + i from ep_ix (by omega), ep_V, ep_iC1 _ _ _ _ _ (by decide), ep_V, nI_1, ep_c2_I, ep_in_s (g := fun _ => 0)]
    rfl
  · intro rec
    show (if nI (64 * b + 64 * n) < 0 then _ else _) = _
    rw [if_neg (nI_pos (by omega)), if_neg (nI_nlt (Nat.le_refl _) (by omega))]
  refine ep_lp (fun i => (nI i, ep_mk (ep_c2 c (ep_in_ (c.1 9) (64 * b) (64 * n) fun _ => 0) (ep_wcl (c.1 11) (nI (64 * b)) (nI (64 * b + 64 * n)) i)) m0)) 2 (ep_mk (ep_c2 c (ep_in_ (c.1 9) (64 * b) (64 * n) fun _ => 0) (ep_wcl (c.1 11) (nI (64 * b)) (nI (64 * b + 64 * n)) 2)) m0) (by decide) ?_ ?_ ?_ rfl
  · show _ = (nI 0, ep_mk (ep_c2 c _ (ep_wcl (c.1 11) _ _ 0)) m0)
    rw [ep_wcl_0]
    rfl
  · intro i hi rec
    have z1 : nI i < 2 := nI_lt (b := 2) hi (by decide)
    have z2 : eh_in (nI i) 2 = true := ep_in hi (by decide)
    have z3 : eh_ix (nI i) = i := ep_ix (by omega)
    show (if nI i < 2 then _ else _) = _
    rw [if_pos z1, if_pos z2, z3, ep_J, ep_rC1 _ _ _ (by decide), ep_c2_11, ep_wcl_i, if_pos z2, if_pos z2]
    simp only [ep_V, nI_1]
    rw [ep_iC1 _ _ _ _ _ (by decide)]
    unfold ep_cI
    rw [ep_c2_11, ep_c2_L]
    by_cases y1 : c.1 11 i < nI (64 * b)
    · rw [if_pos y1, ep_wcl_n (fun z => z.1 y1)]
    · rw [if_neg y1]
      by_cases y2 : c.1 11 i < nI (64 * b + 64 * n)
      · rw [if_pos y2, ep_wcl_y ⟨y1, y2⟩]
      · rw [if_neg y2, ep_wcl_n (fun z => y2 z.2)]
  · intro rec
    show (if nI 2 < 2 then _ else _) = _
    rw [if_neg (by decide)]
theorem ep_mclear (m : ep_M) (c0 : ep_C) {b n : Nat} (h : b + n ≤ 512) : eF_12_clear (ep_mk c0 m) (nI (256 * b)) (nI (256 * n)) = some (ep_mk c0 (ep_m2 m (ep_in_ (m.1 128) (256 * b) (256 * n) fun _ => 0) (ep_clrs (m.1 147) (256 * b) (256 * n)))) := by
  unfold eF_12_clear
  refine ep_lp (fun i => (nI i, ep_mk c0 (ep_m2 m (ep_in_ (m.1 128) (256 * b) i fun _ => 0) (ep_clrs (m.1 147) (256 * b) i)))) (256 * n) _ (by omega) ?_ ?_ ?_ rfl
  · show _ = (nI 0, ep_mk c0 (ep_m2 m (ep_in_ (m.1 128) (256 * b) 0 _) (m.1 147)))
    rw [ep_in_0, ep_m2_id]
    rfl
  · intro i hi rec
    have z1 : nI i < nI (256 * n) := nI_lt hi (by omega)
    show (if nI i < nI (256 * n) then _ else _) = _
    rw [if_pos z1, nI_add, ep_msetByte _ _ _ (show 256 * b + i < 131072 by omega), ep_sb, ep_V, nI_1, show eh_nb (eh_nb 0) = 0 by decide, ep_in_s (g := fun _ => 0)]
    rfl
  · intro rec
    show (if nI (256 * n) < nI (256 * n) then _ else _) = _
    rw [if_neg (nI_nlt (Nat.le_refl _) (by omega))]
theorem ep_Gm_z {w b : Nat → Int32} (h : ep_Gm w b) (p n : Nat) : ep_Gm (ep_in_ w (64 * p) (64 * n) fun _ => 0) (ep_in_ b (256 * p) (256 * n) fun _ => 0) := by
  unfold ep_Gm at h ⊢
  subst h
  funext j
  unfold ep_in_ ep_lw
  dsimp only
  by_cases z : 64 * p ≤ j ∧ j < 64 * p + 64 * n
  · rw [if_pos z, if_pos (by omega), if_pos (by omega), if_pos (by omega), if_pos (by omega)]
    decide
  · rw [if_neg z, if_neg (by omega), if_neg (by omega), if_neg (by omega), if_neg (by omega)]
theorem ep_Gres_z {cr mr : Nat → Int32} (h : ep_Gres cr mr) {p n : Nat} (hp : p + n ≤ 512) : ep_Gres (ep_wcl cr (nI (64 * p)) (nI (64 * p + 64 * n)) 2) (ep_clrs mr (256 * p) (256 * n)) := by
  refine ep_Gres_c h (ep_Clr_w _ _ _) (ep_Clr_s _ _ _) ?_
  intro j hj
  rw [ep_touch (by omega) hj, nI_ltI (by omega) (by omega), nI_ltI (by omega) (by omega)]
  constructor
  · intro ⟨z1, z2⟩
    exact ⟨4 * j - 256 * p, by omega, by omega⟩
  · intro ⟨k, z1, z2⟩
    omega
theorem ep_R_wipe {N : Nat} {c : ep_C} {m : ep_M} (hR : ep_R N c m) {p n : Nat} (hp : p + n ≤ 512) : ep_R N (ep_c2 c (ep_in_ (c.1 9) (64 * p) (64 * n) fun _ => 0) (ep_wcl (c.1 11) (nI (64 * p)) (nI (64 * p + 64 * n)) 2)) (ep_m2 m (ep_in_ (m.1 128) (256 * p) (256 * n) fun _ => 0) (ep_clrs (m.1 147) (256 * p) (256 * n))) :=
  ⟨ep_Gm_z hR.1 p n, hR.2.1, hR.2.2.1, hR.2.2.2.1, ep_Gres_z hR.2.2.2.2.1 hp, hR.2.2.2.2.2.1, hR.2.2.2.2.2.2.1, hR.2.2.2.2.2.2.2.1, hR.2.2.2.2.2.2.2.2.1, hR.2.2.2.2.2.2.2.2.2.1, hR.2.2.2.2.2.2.2.2.2.2.1, hR.2.2.2.2.2.2.2.2.2.2.2.1, hR.2.2.2.2.2.2.2.2.2.2.2.2.1, hR.2.2.2.2.2.2.2.2.2.2.2.2.2.1, hR.2.2.2.2.2.2.2.2.2.2.2.2.2.2.1, hR.2.2.2.2.2.2.2.2.2.2.2.2.2.2.2.1, hR.2.2.2.2.2.2.2.2.2.2.2.2.2.2.2.2.1, hR.2.2.2.2.2.2.2.2.2.2.2.2.2.2.2.2.2.1, hR.2.2.2.2.2.2.2.2.2.2.2.2.2.2.2.2.2.2.1, hR.2.2.2.2.2.2.2.2.2.2.2.2.2.2.2.2.2.2.2.1, hR.2.2.2.2.2.2.2.2.2.2.2.2.2.2.2.2.2.2.2.2.1, hR.2.2.2.2.2.2.2.2.2.2.2.2.2.2.2.2.2.2.2.2.2.1, hR.2.2.2.2.2.2.2.2.2.2.2.2.2.2.2.2.2.2.2.2.2.2.1, hR.2.2.2.2.2.2.2.2.2.2.2.2.2.2.2.2.2.2.2.2.2.2.2.1, hR.2.2.2.2.2.2.2.2.2.2.2.2.2.2.2.2.2.2.2.2.2.2.2.2.1, hR.2.2.2.2.2.2.2.2.2.2.2.2.2.2.2.2.2.2.2.2.2.2.2.2.2.1, hR.2.2.2.2.2.2.2.2.2.2.2.2.2.2.2.2.2.2.2.2.2.2.2.2.2.2.1, hR.2.2.2.2.2.2.2.2.2.2.2.2.2.2.2.2.2.2.2.2.2.2.2.2.2.2.2.1, hR.2.2.2.2.2.2.2.2.2.2.2.2.2.2.2.2.2.2.2.2.2.2.2.2.2.2.2.2.1, hR.2.2.2.2.2.2.2.2.2.2.2.2.2.2.2.2.2.2.2.2.2.2.2.2.2.2.2.2.2.1, hR.2.2.2.2.2.2.2.2.2.2.2.2.2.2.2.2.2.2.2.2.2.2.2.2.2.2.2.2.2.2.1, hR.2.2.2.2.2.2.2.2.2.2.2.2.2.2.2.2.2.2.2.2.2.2.2.2.2.2.2.2.2.2.2.1, hR.2.2.2.2.2.2.2.2.2.2.2.2.2.2.2.2.2.2.2.2.2.2.2.2.2.2.2.2.2.2.2.2.1, hR.2.2.2.2.2.2.2.2.2.2.2.2.2.2.2.2.2.2.2.2.2.2.2.2.2.2.2.2.2.2.2.2.2⟩
