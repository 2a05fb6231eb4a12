set_option maxHeartbeats 4000000 in
theorem ep_mwalk {N : Nat} {c : ep_C} {m : ep_M} (hR : ep_R N c m) {h way : Nat} (hh : h < 2) (hw : way < 3) (hr : m.1 144 h = -1) (addr : Int32) : ∃ n f g r, ∀ c0, eF_12_walk (ep_mk c0 m) (nI h) addr (nI way) = match ep_wk (m.1 164) (c.1 10) (m.1 128) (m.1 142 h) (m.1 131 h) (m.1 133 h) (ep_u addr) way with
    | .inl q => some (lN q, ep_mk c0 (ep_mg m n f g r))
    | .inr x => some (0, ep_mk c0 (ep_mF (ep_mg m n f g r) x addr)) := by
  have q1' : eh_in (nI h) 2 = true := ep_in hh (by decide)
  have q2' : eh_ix (nI h) = h := ep_ix (by omega)
  have hA := ep_u_lt addr
  generalize hq1 : 4096 * (ep_u (m.1 142 h) % 4194304) + 4 * (ep_u addr / 4194304) = q1
  have hq1l : q1 < 2 ^ 35 ∧ q1 % 4 = 0 := by omega
  obtain ⟨n1, f1, g1, r1, L1⟩ := ep_mLetS hR hh hr (n := 4) (Or.inr (Or.inr rfl)) hq1l.2 (by omega) (right := 1) (Or.inl rfl)
  have hR1 := ep_R_mg hR n1 f1 g1 r1
  rw [show nI 4 = 4 from rfl] at L1
  have t10 : ¬ (1 : Int32) = 0 := by decide
  have t01 : ¬ (0 : Int32) = 1 := by decide
  have t02 : (0 : Int32) < 2 := by decide
  have t12 : (1 : Int32) < 2 := by decide
  have b10 : ¬ ep_bi true = 0 := by decide
  have b00 : ep_bi false = 0 := rfl
  have s1 : (0 : Int32) + 1 = 1 := rfl
  have den : ∀ (M : ep_M) c0, Option.bind (eF_12_denied (ep_mk c0 M) (nI way)) (fun q5 => Option.bind (eF_12_except (ep_mk c0 M) q5 addr) (fun q6 => some ((0 : Int64), q6))) = some (0, ep_mk c0 (ep_mF M (ep_den way) addr)) := fun M c0 => by rw [ep_mden hw, ep_sb, ep_mexcept, ep_sb]
  have unp : ∀ (M : ep_M) c0, Option.bind (eF_12_unpaged (ep_mk c0 M) (nI way)) (fun q5 => Option.bind (eF_12_except (ep_mk c0 M) q5 addr) (fun q6 => some ((0 : Int64), q6))) = some (0, ep_mk c0 (ep_mF M (ep_unp way) addr)) := fun M c0 => by rw [ep_munp hw, ep_sb, ep_mexcept, ep_sb]
  by_cases z1 : (decide (q1 < 131072) && ep_ob (m.1 164) (c.1 10) q1) = false
  · refine ⟨n1, f1, g1, r1, fun c0 => ?_⟩
    have L := L1 c0
    rw [z1] at L
    unfold eF_12_walk ep_wk
    rw [hq1, if_pos z1, if_pos q1', ep_V, ep_rM _ _ 142 (by decide), q2', ep_q1m, hq1, ep_FU3, ep_loopS]
    dsimp only
    rw [if_pos t02, if_neg t10, L, ep_sb, if_pos b00, ep_sb, Sum.elim_inr, Sum.elim_inl]
    exact den _ _
  have z1' : q1 < 131072 := by
    by_cases y : q1 < 131072
    · exact y
    · simp [y] at z1
  have z1t : (decide (q1 < 131072) && ep_ob (m.1 164) (c.1 10) q1) = true := by simpa using z1
  have lw1 : ∀ c0, eF_12_littleWord (ep_mk c0 (ep_mg m n1 f1 g1 r1)) 128 131072 (nI q1) = some (ep_lw (m.1 128) q1) := fun c0 => ep_mlittle (ep_mg m n1 f1 g1 r1) 128 131072 (by decide) (by omega) (by decide) c0
  generalize hw1 : ep_lw (m.1 128) q1 = w1 at lw1
  have a6 := ep_and6 w1
  by_cases a1 : w1 &&& 1 = 0
  · refine ⟨n1, f1, g1, r1, fun c0 => ?_⟩
    have L := L1 c0
    rw [z1t] at L
    unfold eF_12_walk ep_wk
    rw [hq1, if_neg z1, hw1, if_pos a1, if_pos q1', ep_V, ep_rM _ _ 142 (by decide), q2', ep_q1m, hq1, ep_FU3, ep_loopS]
    dsimp only
    rw [if_pos t02, if_neg t10, L, ep_sb, if_neg b10, lN_i, lw1, ep_sb, if_pos a1, ep_sb, Sum.elim_inr, Sum.elim_inr, Sum.elim_inl]
    exact unp _ _
  by_cases a2 : w1 &&& 6 = 4
  · refine ⟨n1, f1, g1, r1, fun c0 => ?_⟩
    have L := L1 c0
    rw [z1t] at L
    unfold eF_12_walk ep_wk
    rw [hq1, if_neg z1, hw1, if_neg a1, if_pos a2, if_pos q1', ep_V, ep_rM _ _ 142 (by decide), q2', ep_q1m, hq1, ep_FU3, ep_loopS]
    dsimp only
    rw [if_pos t02, if_neg t10, L, ep_sb, if_neg b10, lN_i, lw1, ep_sb, if_neg a1, ep_J, if_pos (a6.mp a2).1, if_neg (a6.mp a2).2, ep_sb, Sum.elim_inr, Sum.elim_inr, Sum.elim_inl]
    exact unp _ _
  have j29 : ∀ {α : Type} (x y : α), (if w1 &&& 2 = 0 then (if w1 &&& 4 = 0 then x else y) else x) = x := by
    intro α x y
    by_cases y2 : w1 &&& 2 = 0
    · by_cases y4 : w1 &&& 4 = 0
      · rw [if_pos y2, if_pos y4]
      · exact absurd (a6.mpr ⟨y2, y4⟩) a2
    · rw [if_neg y2]
  by_cases a3 : w1 &&& 14 = 0
  · have hw1l := w1.toBitVec.isLt
    generalize hq2 : 4096 * (ep_u w1 / 1024) + 4 * (ep_u addr / 4096 % 1024) = q2
    have hq2l : q2 < 2 ^ 35 ∧ q2 % 4 = 0 := by unfold ep_u at hq2; omega
    obtain ⟨n2, f2, g2, r2, L2⟩ := ep_mLetS hR1 hh hr (n := 4) (Or.inr (Or.inr rfl)) hq2l.2 (by omega) (right := 1) (Or.inl rfl)
    simp only [ep_mg_mg] at L2
    rw [show nI 4 = 4 from rfl] at L2
    refine ⟨n2, f2, g2, r2, fun c0 => ?_⟩
    have L := L1 c0
    rw [z1t] at L
    have L' := L2 c0
    unfold eF_12_walk ep_wk
    rw [hq1, if_neg z1, hw1, if_neg a1, if_neg a2, if_neg (show ¬ ¬ (w1 &&& 14 = 0) from fun y => y a3), hq2, if_pos q1', ep_V, ep_rM _ _ 142 (by decide), q2', ep_q1m, hq1, ep_FU3, ep_loopS]
    dsimp only
    rw [if_pos t02, if_neg t10, L, ep_sb, if_neg b10, lN_i, lw1, ep_sb, if_neg a1, ep_J, j29, ep_J, if_neg t01, if_pos a3, ep_V, ep_V, ep_q2m, hq2, s1, ep_loopS]
    dsimp only
    rw [if_pos t12, if_neg t10]
    change _ = some (ep_bi (decide (q2 < 131072) && ep_ob (m.1 164) (c.1 10) q2), _) at L'
    by_cases z2 : (decide (q2 < 131072) && ep_ob (m.1 164) (c.1 10) q2) = false
    · rw [z2] at L'
      rw [L', ep_sb, if_pos b00, ep_sb, Sum.elim_inr, Sum.elim_inl, if_pos z2]
      exact den _ _
    have z2' : q2 < 131072 := by
      by_cases y : q2 < 131072
      · exact y
      · simp [y] at z2
    have z2t : (decide (q2 < 131072) && ep_ob (m.1 164) (c.1 10) q2) = true := by simpa using z2
    have lw2 : eF_12_littleWord (ep_mk c0 (ep_mg m n2 f2 g2 r2)) 128 131072 (nI q2) = some (ep_lw (m.1 128) q2) := ep_mlittle (ep_mg m n2 f2 g2 r2) 128 131072 (by decide) (by omega) (by decide) c0
    generalize hw2 : ep_lw (m.1 128) q2 = w2 at lw2 ⊢
    rw [z2t] at L'
    rw [L', ep_sb, if_neg b10, lN_i, lw2, ep_sb, if_neg z2]
    have a6' := ep_and6 w2
    by_cases d1 : w2 &&& 1 = 0
    · rw [if_pos d1, if_pos d1, ep_sb, Sum.elim_inr, Sum.elim_inr, Sum.elim_inl]
      exact unp _ _
    rw [if_neg d1, if_neg d1]
    by_cases d2 : w2 &&& 6 = 4
    · rw [if_pos d2, ep_J, if_pos (a6'.mp d2).1, if_neg (a6'.mp d2).2, ep_sb, Sum.elim_inr, Sum.elim_inr, Sum.elim_inl]
      exact unp _ _
    have j29' : ∀ {α : Type} (x y : α), (if w2 &&& 2 = 0 then (if w2 &&& 4 = 0 then x else y) else x) = x := by
      intro α x y
      by_cases y2 : w2 &&& 2 = 0
      · by_cases y4 : w2 &&& 4 = 0
        · rw [if_pos y2, if_pos y4]
        · exact absurd (a6'.mpr ⟨y2, y4⟩) d2
      · rw [if_neg y2]
    rw [if_neg d2, ep_J, j29', ep_J, if_pos rfl]
    by_cases d3 : w2 &&& 14 = 0
    · rw [if_pos d3, if_pos d3, ep_sb, Sum.elim_inr, Sum.elim_inr, Sum.elim_inl]
      exact unp _ _
    rw [if_neg d3, if_neg d3]
    dsimp only
    rw [if_neg d3, ep_sb, Sum.elim_inr, Sum.elim_inr, Sum.elim_inr, ep_J]
    dsimp only
    rw [if_neg t10, ep_J, if_neg t10]
    have al := ep_mallowed (ep_R_mg hR n2 f2 g2 r2) hh hw w2 addr false c0
    rw [ep_bi_f] at al
    dsimp only
    rw [al]
    change Option.bind (if ep_alb w2 (m.1 131 h) (m.1 133 h) way = true then _ else _) _ = _
    cases y : ep_alb w2 (m.1 131 h) (m.1 133 h) way with
    | false => simp [ep_sb]
    | true => simp [ep_sb]
  · refine ⟨n1, f1, g1, r1, fun c0 => ?_⟩
    have L := L1 c0
    rw [z1t] at L
    unfold eF_12_walk ep_wk
    rw [hq1, if_neg z1, hw1, if_neg a1, if_neg a2, if_pos a3, if_pos q1', ep_V, ep_rM _ _ 142 (by decide), q2', ep_q1m, hq1, ep_FU3, ep_loopS]
    dsimp only
    rw [if_pos t02, if_neg t10, L, ep_sb, if_neg b10, lN_i, lw1, ep_sb, if_neg a1, ep_J, j29, ep_J, if_neg t01, if_neg a3, ep_sb, Sum.elim_inr, Sum.elim_inr, Sum.elim_inr, ep_J]
    dsimp only
    rw [if_pos rfl]
    have hff := ep_ffc00 w1
    have hu := ep_u1023 w1
    by_cases a4 : w1 &&& 1047552 = 0
    · rw [if_pos (hu.mpr (hff.mp a4)), ep_J, if_pos rfl]
      have al := ep_mallowed (ep_R_mg hR n1 f1 g1 r1) hh hw w1 addr true c0
      rw [ep_bi_t] at al
      dsimp only
      rw [al]
      change Option.bind (if ep_alb w1 (m.1 131 h) (m.1 133 h) way = true then _ else _) _ = _
      cases y : ep_alb w1 (m.1 131 h) (m.1 133 h) way with
      | false => simp [ep_sb]
      | true => simp [ep_sb, a4]
    · rw [if_neg (fun y => a4 (hff.mpr (hu.mp y))), if_neg (fun y => a4 y.1)]
      exact unp _ _
