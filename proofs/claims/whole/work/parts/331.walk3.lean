theorem ep_q1 (atp addr : Int32) : eh_lshl (atp.toInt64 &&& 4194303) 12 + ((4 * ((eh_ushr addr 22) &&& 1023) : Int32)).toInt64 = lN (4096 * (ep_u atp % 4194304) + 4 * (ep_u addr / 4194304)) := by
  have h := addr.toBitVec.isLt
  rw [ep_low22, show (12 : Int32) = nI 12 from rfl, ep_lshln (by decide), show (22 : Int32) = nI 22 from rfl, ep_ushrU _ (by decide), pk_andN (m := 1023) (by omega) 10 rfl, show (4 : Int32) = nI 4 from rfl, pk_mul, nI_l (by omega), lN_add]
  congr 1
  unfold ep_u
  omega
theorem ep_q2 (w addr : Int32) : eh_lshl ((eh_ushr w 10).toInt64) 12 + ((4 * ((eh_ushr addr 12) &&& 1023) : Int32)).toInt64 = lN (4096 * (ep_u w / 1024) + 4 * (ep_u addr / 4096 % 1024)) := by
  have h := addr.toBitVec.isLt
  have h' := w.toBitVec.isLt
  rw [show (10 : Int32) = nI 10 from rfl, ep_ushrU _ (by decide), nI_l (by omega), show (12 : Int32) = nI 12 from rfl, ep_lshln (by decide), ep_ushrU _ (by decide), pk_andN (m := 1023) (by omega) 10 rfl, show (4 : Int32) = nI 4 from rfl, pk_mul, nI_l (by omega), lN_add]
  congr 1
  unfold ep_u
  omega
theorem ep_q1m (atp addr : Int32) : (atp.toInt64 &&& 4194303) * 4096 + 4 * (eh_ushr addr 22).toInt64 = lN (4096 * (ep_u atp % 4194304) + 4 * (ep_u addr / 4194304)) := by
  have h := addr.toBitVec.isLt
  rw [ep_low22, show (4096 : Int64) = lN 4096 from rfl, lN_mul, show (22 : Int32) = nI 22 from rfl, ep_ushrU _ (by decide), nI_l (by omega), show (4 : Int64) = lN 4 from rfl, lN_mul, lN_add]
  congr 1
  unfold ep_u
  omega
theorem ep_q2m (w addr : Int32) : (eh_ushr w 10).toInt64 * 4096 + 4 * ((eh_ushr addr 12) &&& 1023).toInt64 = lN (4096 * (ep_u w / 1024) + 4 * (ep_u addr / 4096 % 1024)) := by
  have h := addr.toBitVec.isLt
  have h' := w.toBitVec.isLt
  rw [show (10 : Int32) = nI 10 from rfl, ep_ushrU _ (by decide), nI_l (by omega), show (4096 : Int64) = lN 4096 from rfl, lN_mul, show (12 : Int32) = nI 12 from rfl, ep_ushrU _ (by decide), pk_andN (m := 1023) (by omega) 10 rfl, show (4 : Int64) = lN 4 from rfl, nI_l (by omega), lN_mul, lN_add]
  congr 1
  unfold ep_u
  omega
theorem ep_pl2 (w addr : Int32) : eh_lshl ((eh_ushr w 10).toInt64) 12 ||| ((addr &&& ((eh_shl 1 12) - 1)).toInt64) = lN (ep_u w / 1024 * 4096 + ep_u addr % 4096) := by
  have h' := w.toBitVec.isLt
  rw [show ((eh_shl 1 12) - 1 : Int32) = 4095 from by decide, show (10 : Int32) = nI 10 from rfl, ep_ushrU _ (by decide), nI_l (by omega), show (12 : Int32) = nI 12 from rfl, ep_lshln (by decide), ep_andU addr 12 (by decide) rfl, nI_l (by omega), ep_lor (by omega) (by omega)]
  rfl
theorem ep_pl1 (w addr : Int32) (h0 : w &&& 1047552 = 0) : eh_lshl ((eh_ushr w 10).toInt64) 12 ||| ((addr &&& ((eh_shl 1 22) - 1)).toInt64) = lN (ep_u w / 1048576 * 4194304 + ep_u addr % 4194304) := by
  have h' := w.toBitVec.isLt
  have h2 := (ep_ffc00 w).mp h0
  rw [show ((eh_shl 1 22) - 1 : Int32) = 4194303 from by decide, show (10 : Int32) = nI 10 from rfl, ep_ushrU _ (by decide), nI_l (by omega), show (12 : Int32) = nI 12 from rfl, ep_lshln (by decide), ep_andU addr 22 (by decide) rfl, nI_l (by omega), show w.toBitVec.toNat / 2 ^ 10 * 2 ^ 12 = w.toBitVec.toNat / 1048576 * 2 ^ 22 by omega, ep_lor (by omega) (by omega)]
  rfl
theorem ep_FU3 : eh_FU = 1099511627773 + 1 + 1 + 1 := rfl
set_option maxHeartbeats 4000000 in
theorem ep_cwalk {N : Nat} {c : ep_C} {m : ep_M} (hR : ep_R N c m) {h way : Nat} (hh : h < 2) (hw : way < 3) (hq : c.2.2 4 = eh_hp (nI h)) (addr : Int32) (m0 : ep_M) : eF_7_walk (ep_mk c m0) addr (ep_acs way) = match ep_wk (m.1 164) (c.1 10) (m.1 128) (m.1 142 h) (m.1 131 h) (m.1 133 h) (ep_u addr) way with
    | .inl q => some (lN q, ep_mk c m0)
    | .inr x => some (-1, ep_mk (ep_cF c x addr) m0) := by
  have g := hR.2.2.2.2.2.2.2.1 h hh
  have e18 : (ep_mk c m0).1 ((ep_mk c m0).2.2 4) 18 = m.1 142 h := by rw [ep_rQ, hq, ep_rH0 _ _ hh]; exact g.2.2.2.2.2.2.2.2.2.2.2.2.2.2.2
  have ok : eh_okH ((ep_mk c m0).2.2 4) = true := by rw [ep_rQ, hq]; exact ep_okH hh
  have hA := ep_u_lt addr
  have hacc := ep_cacF hw (ep_mk c m0)
  have hpag := ep_cpaF hw (ep_mk c m0)
  have hf1 := ep_cfail c (ep_den way) addr m0
  have hf2 := ep_cfail c (ep_unp way) addr m0
  unfold eF_7_walk ep_wk
  rw [if_pos ok, ep_V, e18, hacc, hpag]
  simp only [ep_sb]
  rw [hf1, hf2]
  simp only [ep_sb]
  generalize hq1 : 4096 * (ep_u (m.1 142 h) % 4194304) + 4 * (ep_u addr / 4194304) = q1
  have hq1l : q1 < 2 ^ 35 ∧ q1 % 4 = 0 := by omega
  have hop : ∀ q, q < 2 ^ 63 → eF_6_isOpen (ep_mk c m0) (lN q) = some (ep_bi (decide (q < 131072) && ep_ob (m.1 164) (c.1 10) q)) := by
    intro q hq
    by_cases z : q < 131072
    · rw [ep_cisOpen hR z]; simp [z]
    · rw [ep_cisOpen' (by omega) hq]; simp [z]; rfl
  rw [ep_FU3, ep_loopS]
  rw [if_neg (show ¬ (1 : Int32) < 0 by decide), ep_J, if_pos (show (1 : Int32) = 1 from rfl)]
  dsimp only
  rw [ep_V, ep_q1, hq1, hop q1 (by omega), ep_sb]
  by_cases z1 : (decide (q1 < 131072) && ep_ob (m.1 164) (c.1 10) q1) = false
  · rw [if_pos ((ep_bi_0 _).mpr z1), if_pos z1]
    rfl
  rw [if_neg (fun y => z1 ((ep_bi_0 _).mp y)), if_neg z1, lN_i]
  have z1' : q1 < 131072 := by
    by_cases y : q1 < 131072
    · exact y
    · simp [y] at z1
  rw [ep_cwrd hR z1' hq1l.2, ep_sb]
  generalize hw1 : ep_lw (m.1 128) q1 = w1
  have hal : ∀ w, eF_7_allows (ep_mk c m0) w (ep_acs way) = some (ep_bi (ep_alb w (m.1 131 h) (m.1 133 h) way)) := fun w => ep_callows hR hh hw hq w m0
  have t10 : ¬ (1 : Int32) = 0 := by decide
  have t01 : ¬ (0 : Int32) = 1 := by decide
  have t0l : ¬ (0 : Int32) < 0 := by decide
  have tml : (-1 : Int32) < 0 := by decide
  have b10 : ¬ ep_bi true = 0 := by decide
  have b00 : ep_bi false = 0 := rfl
  have s1 : (1 : Int32) + (-1) = 0 := rfl
  have s0 : (0 : Int32) + (-1) = -1 := rfl
  have ft : ¬ (false = true) := by decide
  by_cases a1 : w1 &&& 1 = 0
  · simp only [↓ep_J, ↓ep_V, ↓reduceIte, a1, ite_self, ↓ep_sb, Sum.elim_inl, Sum.elim_inr]
  by_cases a2 : w1 &&& 6 = 4
  · simp only [↓ep_J, ↓ep_V, ↓reduceIte, a1, a2, ite_self, ↓ep_sb, Sum.elim_inl, Sum.elim_inr]
  by_cases a3 : w1 &&& 14 = 0
  · have hw1l := w1.toBitVec.isLt
    simp only [↓ep_J, ↓ep_V, ↓reduceIte, a1, a2, a3, s1, not_true]
    generalize hq2 : 4096 * (ep_u w1 / 1024) + 4 * (ep_u addr / 4096 % 1024) = q2
    have hq2l : q2 < 2 ^ 35 ∧ q2 % 4 = 0 := by unfold ep_u at hq2; omega
    rw [ep_loopS]
    dsimp only
    rw [if_neg t0l, if_neg t01]
    rw [ep_q2, hq2, hop q2 (by omega), ep_sb]
    by_cases z2 : (decide (q2 < 131072) && ep_ob (m.1 164) (c.1 10) q2) = false
    · rw [if_pos ((ep_bi_0 _).mpr z2), if_pos z2]
      rfl
    rw [if_neg (fun y => z2 ((ep_bi_0 _).mp y)), if_neg z2, lN_i]
    have z2' : q2 < 131072 := by
      by_cases y : q2 < 131072
      · exact y
      · simp [y] at z2
    rw [ep_cwrd hR z2' hq2l.2, ep_sb]
    generalize hw2 : ep_lw (m.1 128) q2 = w2
    by_cases b1 : w2 &&& 1 = 0
    · simp only [↓ep_J, ↓ep_V, ↓reduceIte, b1, ite_self, ↓ep_sb, Sum.elim_inl, Sum.elim_inr]
    by_cases b2 : w2 &&& 6 = 4
    · simp only [↓ep_J, ↓ep_V, ↓reduceIte, b1, b2, ite_self, ↓ep_sb, Sum.elim_inl, Sum.elim_inr]
    by_cases b3 : w2 &&& 14 = 0
    · simp only [↓ep_J, ↓ep_V, ↓reduceIte, b1, b2, b3, s0]
      rw [ep_loopS]
      simp only [tml, ↓reduceIte, ↓ep_sb, Sum.elim_inl, Sum.elim_inr]
    · cases y : ep_alb w2 (m.1 131 h) (m.1 133 h) way with
      | false => simp only [↓ep_J, ↓ep_V, ↓reduceIte, b1, b2, b3, t10, hal, y, b00, ↓ep_sb, Sum.elim_inl, Sum.elim_inr, Bool.false_eq_true]
      | true =>
        simp only [↓ep_J, ↓ep_V, ↓reduceIte, b1, b2, b3, t10, hal, y, b10, ↓ep_sb, Sum.elim_inl, Sum.elim_inr]
        rw [ep_pl2]
  · by_cases a4 : w1 &&& 1047552 = 0
    · cases y : ep_alb w1 (m.1 131 h) (m.1 133 h) way with
      | false => simp only [↓ep_J, ↓ep_V, ↓reduceIte, a1, a2, a3, a4, t10, hal, y, b00, ↓ep_sb, Sum.elim_inl, Sum.elim_inr, Bool.false_eq_true, and_false, not_false_eq_true]
      | true =>
        simp only [↓ep_J, ↓ep_V, ↓reduceIte, a1, a2, a3, a4, t10, hal, y, b10, ↓ep_sb, Sum.elim_inl, Sum.elim_inr, and_true, not_false_eq_true]
        rw [ep_pl1 _ _ a4]
    · simp only [↓ep_J, ↓ep_V, ↓reduceIte, a1, a2, a3, a4, t10, ↓ep_sb, Sum.elim_inl, Sum.elim_inr, false_and, not_false_eq_true]
