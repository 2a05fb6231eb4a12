/-! addresses, tables of pages -/
theorem ep_low32 (x : Int32) : x.toInt64 &&& 4294967295 = lN x.toBitVec.toNat := by
  apply Int64.toBitVec_inj.mp
  apply BitVec.eq_of_getLsbD_eq
  intro i hi
  rw [Int64.toBitVec_and, BitVec.getLsbD_and, Int32.toBitVec_toInt64, BitVec.getLsbD_signExtend]
  show _ = (BitVec.ofNat 64 x.toBitVec.toNat).getLsbD i
  rw [BitVec.getLsbD_ofNat]
  have h : ∀ i : Fin 64, (4294967295 : Int64).toBitVec.getLsbD i.val = decide (i.val < 32) := by decide
  rw [h ⟨i, hi⟩]
  by_cases h32 : i < 32
  · simp [h32, hi]; rfl
  · simp [h32, hi]
    have : x.toBitVec.toNat < 2 ^ i := Nat.lt_of_lt_of_le x.toBitVec.isLt (Nat.pow_le_pow_right (by decide) (by omega))
    rw [Nat.testBit_lt_two_pow this]
theorem ep_nIu (x : Int32) : nI x.toBitVec.toNat = x := by
  apply Int32.toBitVec_inj.mp
  apply BitVec.eq_of_toNat_eq
  show (BitVec.ofNat 32 x.toBitVec.toNat).toNat = _
  rw [BitVec.toNat_ofNat, Nat.mod_eq_of_lt x.toBitVec.isLt]
theorem ep_low22 (x : Int32) : x.toInt64 &&& 4194303 = lN (x.toBitVec.toNat % 4194304) := by
  apply Int64.toBitVec_inj.mp
  apply BitVec.eq_of_getLsbD_eq
  intro i hi
  rw [Int64.toBitVec_and, BitVec.getLsbD_and, Int32.toBitVec_toInt64, BitVec.getLsbD_signExtend]
  show _ = (BitVec.ofNat 64 (x.toBitVec.toNat % 2 ^ 22)).getLsbD i
  rw [BitVec.getLsbD_ofNat, Nat.testBit_mod_two_pow]
  have h : ∀ i : Fin 64, (4194303 : Int64).toBitVec.getLsbD i.val = decide (i.val < 22) := by decide
  rw [h ⟨i, hi⟩]
  by_cases h22 : i < 22
  · simp [h22, hi, show i < 32 by omega]; rfl
  · simp [h22]
theorem ep_lshln {x k : Nat} (hk : k < 64) : eh_lshl (lN x) (nI k) = lN (x * 2 ^ k) := by
  have hs : ∀ k : Fin 64, (((nI k.val).toInt64 &&& 63).toBitVec.smod 64).toNat = k.val := by decide
  have hs' := hs ⟨k, hk⟩
  unfold eh_lshl
  apply Int64.toBitVec_inj.mp
  apply BitVec.eq_of_toNat_eq
  rw [Int64.toBitVec_shiftLeft, BitVec.shiftLeft_eq', hs', BitVec.toNat_shiftLeft]
  show ((BitVec.ofNat 64 x).toNat <<< k) % 2 ^ 64 = (BitVec.ofNat 64 (x * 2 ^ k)).toNat
  rw [BitVec.toNat_ofNat, BitVec.toNat_ofNat, Nat.shiftLeft_eq, Nat.mod_mul_mod]
theorem ep_lor {a b k : Nat} (hb : b < 2 ^ k) (h : a * 2 ^ k + b < 2 ^ 63) : lN (a * 2 ^ k) ||| lN b = lN (a * 2 ^ k + b) := by
  apply Int64.toBitVec_inj.mp
  apply BitVec.eq_of_toNat_eq
  rw [Int64.toBitVec_or, BitVec.toNat_or]
  show (BitVec.ofNat 64 (a * 2 ^ k)).toNat ||| (BitVec.ofNat 64 b).toNat = (BitVec.ofNat 64 (a * 2 ^ k + b)).toNat
  rw [BitVec.toNat_ofNat, BitVec.toNat_ofNat, BitVec.toNat_ofNat, Nat.mod_eq_of_lt (by omega), Nat.mod_eq_of_lt (by omega), Nat.mod_eq_of_lt (by omega), ← Nat.shiftLeft_eq, Nat.shiftLeft_add_eq_or_of_lt hb]
theorem ep_ushrU (x : Int32) {k : Nat} (hk : k < 32) : eh_ushr x (nI k) = nI (x.toBitVec.toNat / 2 ^ k) := by
  have := ep_ushrn (a := x.toBitVec.toNat) x.toBitVec.isLt hk
  rw [ep_nIu] at this
  exact this
theorem ep_andU (x : Int32) (k : Nat) (hk : k ≤ 31) {m : Int32} (hm : m.toBitVec.toNat = 2 ^ k - 1) : x &&& m = nI (x.toBitVec.toNat % 2 ^ k) := pk_and x k hm
theorem ep_okH {h : Nat} (hh : h < 2) : eh_okH (eh_hp (nI h)) = true := by
  rw [ep_hp hh]
  have : h = 0 ∨ h = 1 := by omega
  rcases this with rfl | rfl <;> decide
theorem ep_okF {t : Nat} (ht : t < 12) : eh_okF (eh_fp (nI t)) = true := by
  rw [ep_fp ht]
  have : ∀ t : Fin 12, eh_okF (45 + 2 * t.val) = true := by decide
  exact this ⟨t, ht⟩
theorem ep_okXh {h : Nat} (hh : h < 2) : eh_okX (eh_hp (nI h) + 1) = true := by
  rw [ep_hp hh]
  have : h = 0 ∨ h = 1 := by omega
  rcases this with rfl | rfl <;> decide
theorem ep_okXf {t : Nat} (ht : t < 12) : eh_okX (eh_fp (nI t) + 1) = true := by
  rw [ep_fp ht]
  have : ∀ t : Fin 12, eh_okX (45 + 2 * t.val + 1) = true := by decide
  exact this ⟨t, ht⟩
/-- ways: fetch, load, store -/
def ep_acs (way : Nat) : Int32 := if way = 0 then 4 else nI way
def ep_den (way : Nat) : Int32 := if way = 0 then 1 else if way = 1 then 5 else 7
def ep_unp (way : Nat) : Int32 := if way = 0 then 12 else if way = 1 then 13 else 15
theorem ep_den_n (way : Nat) : ep_den way ≠ -1 := by unfold ep_den; split; decide; split <;> decide
theorem ep_unp_n (way : Nat) : ep_unp way ≠ -1 := by unfold ep_unp; split; decide; split <;> decide
theorem ep_cacF {way : Nat} (hw : way < 3) (s : eh_F) : eF_7_accessFault s (ep_acs way) = some (ep_den way) := by
  have : way = 0 ∨ way = 1 ∨ way = 2 := by omega
  rcases this with rfl | rfl | rfl <;> rfl
theorem ep_cpaF {way : Nat} (hw : way < 3) (s : eh_F) : eF_7_pageFault s (ep_acs way) = some (ep_unp way) := by
  have : way = 0 ∨ way = 1 ∨ way = 2 := by omega
  rcases this with rfl | rfl | rfl <;> rfl
theorem ep_mden {way : Nat} (hw : way < 3) (s : eh_F) : eF_12_denied s (nI way) = some (ep_den way) := by
  have : way = 0 ∨ way = 1 ∨ way = 2 := by omega
  rcases this with rfl | rfl | rfl <;> rfl
theorem ep_munp {way : Nat} (hw : way < 3) (s : eh_F) : eF_12_unpaged s (nI way) = some (ep_unp way) := by
  have : way = 0 ∨ way = 1 ∨ way = 2 := by omega
  rcases this with rfl | rfl | rfl <;> rfl
def ep_cF (c : ep_C) (x v : Int32) : ep_C := ep_cI (ep_cI c 124 10 x) 124 11 v
def ep_mF (m : ep_M) (x v : Int32) : ep_M := ep_mI (ep_mI m 127 83 x) 127 84 v
theorem ep_cfail (c : ep_C) (x v : Int32) (m0 : ep_M) : eF_7_fail (ep_mk c m0) x v = some (ep_mk (ep_cF c x v) m0) := by
  unfold eF_7_fail
  simp (disch := first | assumption | decide) only [↓ep_V, ↓ep_J, ↓ep_sb, ↓reduceIte, ep_rC1, ep_rC2, ep_rM, ep_rJ, ep_rQ, ep_wC1, ep_wC2, ep_wM, ep_iC1, ep_iC2, ep_iM, ep_wJ, ep_wQ, ep_cI1, ep_cIn, ep_cI2, ep_cL1, ep_cLn, ep_cL2, ep_cG1, ep_cGq, ep_cQ1, ep_cQ2, ep_cQq, ep_cQn, ep_mI1, ep_mIn, ep_mI2, ep_mL1, ep_mLn, ep_mL2, ep_mJ1, ep_mJ2]
  rfl
theorem ep_mexcept (m : ep_M) (x v : Int32) (c0 : ep_C) : eF_12_except (ep_mk c0 m) x v = some (ep_mk c0 (ep_mF m x v)) := by
  unfold eF_12_except
  simp (disch := first | assumption | decide) only [↓ep_V, ↓ep_J, ↓ep_sb, ↓reduceIte, ep_rC1, ep_rC2, ep_rM, ep_rJ, ep_rQ, ep_wC1, ep_wC2, ep_wM, ep_iC1, ep_iC2, ep_iM, ep_wJ, ep_wQ, ep_cI1, ep_cIn, ep_cI2, ep_cL1, ep_cLn, ep_cL2, ep_cG1, ep_cGq, ep_cQ1, ep_cQ2, ep_cQq, ep_cQn, ep_mI1, ep_mIn, ep_mI2, ep_mL1, ep_mLn, ep_mL2, ep_mJ1, ep_mJ2]
  rfl
/-- what a leaf lets be done -/
def ep_alb (w mode st : Int32) (way : Nat) : Bool := (if way = 0 then !decide (w &&& 8 = 0) else if way = 1 then (!decide (w &&& 2 = 0) || (!decide (w &&& 8 = 0) && !decide (st &&& 524288 = 0))) else (!decide (w &&& 4 = 0) && !decide (w &&& 128 = 0))) && !decide (w &&& 64 = 0) && (if mode = 0 then !decide (w &&& 16 = 0) else (decide (w &&& 16 = 0) || (decide (way ≠ 0) && !decide (st &&& 262144 = 0))))
theorem ep_callows {N : Nat} {c : ep_C} {m : ep_M} (hR : ep_R N c m) {h way : Nat} (hh : h < 2) (hw : way < 3) (hq : c.2.2 4 = eh_hp (nI h)) (w : Int32) (m0 : ep_M) : eF_7_allows (ep_mk c m0) w (ep_acs way) = some (ep_bi (ep_alb w (m.1 131 h) (m.1 133 h) way)) := by
  have g := hR.2.2.2.2.2.2.2.1 h hh
  have ga := (hR.2.2.2.2.2.2.2.2.1 h hh).2.1
  have e3 : (ep_mk c m0).1 ((ep_mk c m0).2.2 4) 3 = m.1 131 h := by rw [ep_rQ, hq, ep_rH0 _ _ hh]; exact g.2.2.1
  have e9 : (ep_mk c m0).1 ((ep_mk c m0).2.2 4) 9 = m.1 133 h := by rw [ep_rQ, hq, ep_rH0 _ _ hh]; exact g.2.2.2.2.2.2.1
  have ok : eh_okH ((ep_mk c m0).2.2 4) = true := by rw [ep_rQ, hq]; exact ep_okH hh
  unfold eF_7_allows ep_alb
  simp only [↓ep_J, e3, e9, ok, if_true]
  have : way = 0 ∨ way = 1 ∨ way = 2 := by omega
  rcases ga with ga | ga <;> rw [ga] <;> rcases this with rfl | rfl | rfl <;> simp only [ep_acs] <;>
  by_cases y2 : w &&& 2 = 0 <;> by_cases y8 : w &&& 8 = 0 <;> by_cases y64 : w &&& 64 = 0 <;> by_cases y16 : w &&& 16 = 0 <;> by_cases y19 : m.1 133 h &&& 524288 = 0 <;> by_cases y18 : m.1 133 h &&& 262144 = 0 <;> by_cases y4 : w &&& 4 = 0 <;> by_cases y128 : w &&& 128 = 0 <;> simp [y2, y8, y64, y16, y19, y18, y4, y128, ep_bi] <;> decide
