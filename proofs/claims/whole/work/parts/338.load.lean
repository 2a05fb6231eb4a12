/-! loads -/
theorem ep_div_ofInt (x y : Int32) : x / y = Int32.ofInt (x.toInt.tdiv y.toInt) := by
  apply Int32.toInt_inj.mp
  rw [Int32.toInt_div, Int32.toInt_ofInt]
theorem ep_rem_ofInt (x y : Int32) : eh_rem x y = Int32.ofInt (x.toInt.tmod y.toInt) := by
  unfold eh_rem
  rw [ep_div_ofInt]
  have e1 : x = Int32.ofInt x.toInt := (Int32.ofInt_toInt x).symm
  have e2 : y = Int32.ofInt y.toInt := (Int32.ofInt_toInt y).symm
  have e3 : Int32.ofInt (x.toInt.tdiv y.toInt) * y = Int32.ofInt (x.toInt.tdiv y.toInt * y.toInt) := by
    rw [Int32.ofInt_mul, ← e2]
  rw [e3]
  have e4 : x - Int32.ofInt (x.toInt.tdiv y.toInt * y.toInt) = Int32.ofInt (x.toInt - x.toInt.tdiv y.toInt * y.toInt) := by
    rw [Int32.ofInt_sub, ← e1]
  rw [e4]
  congr 1
  have := Int.mul_tdiv_add_tmod x.toInt y.toInt
  rw [Int.mul_comm] at this
  omega
theorem ep_rem124 (x : Int32) {n : Nat} (hn : ep_n124 n) : eh_rem x (nI n) = 0 ↔ ep_u x % n = 0 := by
  rw [ep_rem_ofInt]
  have hb := x.toBitVec.isLt
  have hx : x.toInt = if 2 * ep_u x < 2 ^ 32 then (ep_u x : Int) else (ep_u x : Int) - 2 ^ 32 := BitVec.toInt_eq_toNat_cond x.toBitVec
  have key : ∀ r : Int, -4 < r → r < 4 → (Int32.ofInt r = 0 ↔ r = 0) := by
    intro r h1 h2
    have : r = -3 ∨ r = -2 ∨ r = -1 ∨ r = 0 ∨ r = 1 ∨ r = 2 ∨ r = 3 := by omega
    rcases this with rfl | rfl | rfl | rfl | rfl | rfl | rfl <;> decide
  have hni : (nI n).toInt = n := nI_toInt (by rcases hn with rfl | rfl | rfl <;> decide)
  rw [hni]
  have b1 : -4 < x.toInt.tmod n ∧ x.toInt.tmod n < 4 := by
    have h1 := Int.lt_tmod_of_pos x.toInt (show (0 : Int) < n by rcases hn with rfl | rfl | rfl <;> decide)
    have h2 := Int.tmod_lt_of_pos x.toInt (show (0 : Int) < n by rcases hn with rfl | rfl | rfl <;> decide)
    rcases hn with rfl | rfl | rfl <;> omega
  rw [key _ b1.1 b1.2, ← Int.dvd_iff_tmod_eq_zero]
  unfold ep_u at hx ⊢
  split at hx
  · rw [hx]
    rcases hn with rfl | rfl | rfl <;> omega
  · rw [hx]
    rcases hn with rfl | rfl | rfl <;> omega
def ep_ldv (b : Nat → Int32) (q : Nat) : Nat → Int32
  | 0 => 0
  | k + 1 => ep_ldv b q k ||| eh_shl (b (q + k) &&& 255) (nI (8 * k))
theorem ep_bit_ldv (b : Nat → Int32) (q : Nat) : ∀ k, k ≤ 4 → ∀ i, i < 32 → ep_bit (ep_ldv b q k) i = (decide (i < 8 * k) && ep_bit (b (q + i / 8)) (i % 8))
  | 0, _, i, hi => by show ep_bit 0 i = _; rw [ep_bit_0]; simp
  | k + 1, hk, i, hi => by
    unfold ep_ldv
    rw [ep_bit_or, ep_bit_ldv b q k (by omega) i hi, ep_bit_shl _ (by omega) i hi, ep_bit_and, ep_bit_255]
    by_cases h1 : i < 8 * k
    · simp [h1, show ¬ 8 * k ≤ i by omega, show i < 8 * (k + 1) by omega]
    · by_cases h2 : i < 8 * (k + 1)
      · simp [h1, h2, show 8 * k ≤ i by omega, show i - 8 * k < 8 by omega, show i / 8 = k by omega, show i % 8 = i - 8 * k by omega]
      · simp [h1, h2, show ¬ i - 8 * k < 8 by omega]
theorem ep_bit_cw (b : Nat → Int32) (q i : Nat) (hi : i + 8 * (q % 4) < 32) : ep_bit (eh_ushr (ep_lw b (4 * (q / 4))) (nI (8 * (q % 4)))) i = ep_bit (b (q + i / 8)) (i % 8) := by
  rw [ep_bit_ushr _ (by omega), ep_bit_lw _ _ _ hi]
  rw [show 4 * (q / 4) + (i + 8 * (q % 4)) / 8 = q + i / 8 by omega, show (i + 8 * (q % 4)) % 8 = i % 8 by omega]
theorem ep_bit_ns (x : Int32) (i : Nat) (hi : i < 32) : ep_bit (x.toInt16.toInt32) i = (if i < 16 then ep_bit x i else ep_bit x 15) := by
  unfold ep_bit
  rw [Int16.toBitVec_toInt32, Int32.toBitVec_toInt16, BitVec.getLsbD_signExtend]
  by_cases h8 : i < 16
  · simp only [hi, decide_true, Bool.true_and, h8, if_true]
    rw [BitVec.getLsbD_signExtend]
    simp [h8, hi]
  · simp only [hi, decide_true, Bool.true_and, h8, if_false]
    rw [BitVec.msb_eq_getLsbD_last, BitVec.getLsbD_signExtend]
    simp
/-- the values that a load gives -/
theorem ep_ldval (b : Nat → Int32) (q : Nat) :
    eh_nb (eh_ushr (ep_lw b (4 * (q / 4))) (nI (8 * (q % 4)))) = eh_nb (ep_ldv b q 1) ∧
    (q % 2 = 0 → (eh_ushr (ep_lw b (4 * (q / 4))) (nI (8 * (q % 4)))).toInt16.toInt32 = (ep_ldv b q 2).toInt16.toInt32) ∧
    (q % 4 = 0 → eh_ushr (ep_lw b (4 * (q / 4))) (nI (8 * (q % 4))) = ep_ldv b q 4) ∧
    (eh_ushr (ep_lw b (4 * (q / 4))) (nI (8 * (q % 4))) &&& 255 = ep_ldv b q 1) ∧
    (q % 2 = 0 → eh_ushr (ep_lw b (4 * (q / 4))) (nI (8 * (q % 4))) &&& 65535 = ep_ldv b q 2) := by
  refine ⟨?_, fun h => ?_, fun h => ?_, ?_, fun h => ?_⟩
  · apply ep_ext; intro i hi
    rw [ep_bit_nb _ _ hi, ep_bit_nb _ _ hi]
    by_cases z : i < 8
    · rw [if_pos z, if_pos z, ep_bit_cw _ _ _ (by omega), ep_bit_ldv _ _ 1 (by decide) _ hi]; simp [z]
    · rw [if_neg z, if_neg z, ep_bit_cw _ _ _ (by omega), ep_bit_ldv _ _ 1 (by decide) _ (by decide)]; simp
  · apply ep_ext; intro i hi
    rw [ep_bit_ns _ _ hi, ep_bit_ns _ _ hi]
    by_cases z : i < 16
    · rw [if_pos z, if_pos z, ep_bit_cw _ _ _ (by omega), ep_bit_ldv _ _ 2 (by decide) _ hi]; simp [z]
    · rw [if_neg z, if_neg z, ep_bit_cw _ _ _ (by omega), ep_bit_ldv _ _ 2 (by decide) _ (by decide)]; simp
  · apply ep_ext; intro i hi
    rw [ep_bit_cw _ _ _ (by omega), ep_bit_ldv _ _ 4 (by decide) _ hi]; simp [hi]
  · apply ep_ext; intro i hi
    rw [ep_bit_and, ep_bit_255, ep_bit_ldv _ _ 1 (by decide) _ hi]
    by_cases z : i < 8
    · rw [ep_bit_cw _ _ _ (by omega)]; simp [z]
    · simp [z]
  · apply ep_ext; intro i hi
    rw [ep_bit_and, ep_bit_65535, ep_bit_ldv _ _ 2 (by decide) _ hi]
    by_cases z : i < 16
    · rw [ep_bit_cw _ _ _ (by omega)]; simp [z]
    · simp [z]
theorem ep_mldloop (m : ep_M) {q n : Nat} (hq : q + n ≤ 131072) (c0 : ep_C) : eh_loop (fun (r10 : (Int32 × Int32) → Option (Int32)) (t7 : Int32 × Int32) => if t7.2 < nI n then (if eh_in (nI q + t7.2) 131072 then eh_V ((t7.1 ||| (eh_shl (((ep_mk c0 m).1 128 (eh_ix (nI q + t7.2))) &&& 255) (8 * t7.2))) : Int32) (fun x12 => eh_V ((t7.2 + 1) : Int32) (fun x13 => r10 (x12, x13))) else none) else (some t7.1)) eh_FU (0, 0) = some (ep_ldv (m.1 128) q n) := by
  refine ep_loop (fun i => (ep_ldv (m.1 128) q i, nI i)) n _ (ep_FU _ (by omega)) ?_ ?_ rfl
  · intro i hi rec
    have z1 : nI i < nI n := nI_lt hi (by omega)
    have z2 : eh_in (nI (q + i)) 131072 = true := ep_in (by omega) (by decide)
    have z3 : eh_ix (nI (q + i)) = q + i := ep_ix (by omega)
    have z4 : (8 : Int32) * nI i = nI (8 * i) := ep_mul (b := 8) rfl rfl
    simp only [z1, if_true, nI_add, z2, z3, z4, ep_V, nI_1]
    rw [ep_rM _ _ _ (by decide)]
    rfl
  · intro rec
    have z1 : ¬ nI n < nI n := nI_nlt (Nat.le_refl _) (by omega)
    simp only [z1, if_false]
/-- the reference's load: a value, or an exception -/
theorem ep_mload {N : Nat} {c : ep_C} {m : ep_M} (hR : ep_R N c m) {h : Nat} {pc : Int32} (hQ : ep_Q c m h pc) {n : Nat} (hn : ep_n124 n) (st : Bool) (addr : Int32) :
    (∃ q n' f g r, q < 131072 ∧ q % n = 0 ∧ (∀ m0, eF_7_locate (ep_mk c m0) addr (nI n) (ep_acs (if st = true then 2 else 1)) = some (nI q, ep_mk c m0)) ∧ (∀ c0, eF_12_load (ep_mk c0 m) (nI h) addr (nI n) (ep_bi st) = some (ep_ldv (m.1 128) q n, ep_mk c0 (ep_mg m n' f g r)))) ∨
    (∃ x n' f g r, x ≠ -1 ∧ (∀ m0, eF_7_locate (ep_mk c m0) addr (nI n) (ep_acs (if st = true then 2 else 1)) = some (-1, ep_mk (ep_cF c x addr) m0)) ∧ (∀ c0, eF_12_load (ep_mk c0 m) (nI h) addr (nI n) (ep_bi st) = some (0, ep_mk c0 (ep_mF (ep_mg m n' f g r) x addr)))) := by
  have hnz : ¬ nI n = 0 := by rcases hn with rfl | rfl | rfl <;> decide
  have hrem := ep_rem124 addr hn
  have hway : (if st = true then 2 else 1) < 3 := by cases st <;> decide
  have hw2 : (if ep_bi st = 0 then (1 : Int32) else 2) = nI (if st = true then 2 else 1) := by cases st <;> rfl
  by_cases ha : ep_u addr % n = 0
  · rcases ep_locate hR hQ.1 hQ.2.2.2.2.2.2.1 (nc := n) (nm := n) hway hn hn addr ha ha with ⟨q, n', f, g, r, h1, h2, h3, h4⟩ | ⟨x, n', f, g, r, h1, h3, h4⟩
    · left
      refine ⟨q, n', f, g, r, h1, h2, h3, fun c0 => ?_⟩
      have hqn : q + n ≤ 131072 := by rcases hn with rfl | rfl | rfl <;> omega
      have h4' := h4 c0
      unfold eF_12_load
      cases st with
      | true =>
        rw [ep_J, if_neg (by decide)]
        dsimp only
        rw [if_neg hnz, if_pos (hrem.mpr ha)]
        refine ep_bnd h4' ?_
        dsimp only
        rw [if_pos (show (ep_mk c0 (ep_mg m n' f g r)).1 127 83 = -1 from by rw [ep_rM _ _ _ (by decide)]; exact hQ.2.2.2.2.2.2.1)]
        exact ep_bnd (ep_mldloop (ep_mg m n' f g r) hqn c0) rfl
      | false =>
        rw [ep_J, if_pos (by decide)]
        dsimp only
        rw [if_neg hnz, if_pos (hrem.mpr ha)]
        refine ep_bnd h4' ?_
        dsimp only
        rw [if_pos (show (ep_mk c0 (ep_mg m n' f g r)).1 127 83 = -1 from by rw [ep_rM _ _ _ (by decide)]; exact hQ.2.2.2.2.2.2.1)]
        exact ep_bnd (ep_mldloop (ep_mg m n' f g r) hqn c0) rfl
    · right
      refine ⟨x, n', f, g, r, h1, h3, fun c0 => ?_⟩
      have h4' := h4 c0
      have hne : ¬ (ep_mk c0 (ep_mF (ep_mg m n' f g r) x addr)).1 127 83 = -1 := by
        rw [ep_rM _ _ _ (by decide)]; exact h1
      unfold eF_12_load
      cases st with
      | true =>
        rw [ep_J, if_neg (by decide)]
        dsimp only
        rw [if_neg hnz, if_pos (hrem.mpr ha)]
        refine ep_bnd h4' ?_
        rw [if_neg hne]
      | false =>
        rw [ep_J, if_pos (by decide)]
        dsimp only
        rw [if_neg hnz, if_pos (hrem.mpr ha)]
        refine ep_bnd h4' ?_
        rw [if_neg hne]
  · right
    have hmk : ¬ addr &&& (nI n - 1) = 0 := by
      rw [ep_mskn hn, show (0 : Int32) = nI 0 from rfl, nI_eq (by rcases hn with rfl | rfl | rfl <;> omega) (by decide)]
      exact ha
    refine ⟨if st = true then 6 else 4, m.1 127 48, m.1 170, m.1 171, m.1 172, by cases st <;> decide, fun m0 => ?_, fun c0 => ?_⟩
    · unfold eF_7_locate
      rw [if_neg hmk, ep_J]
      cases st with
      | true =>
        rw [if_neg (show ¬ ep_acs (if true = true then 2 else 1) = 1 by decide)]
        exact ep_bnd (ep_cfail c 6 addr m0) rfl
      | false =>
        rw [if_pos (show ep_acs (if false = true then 2 else 1) = 1 by decide)]
        exact ep_bnd (ep_cfail c 4 addr m0) rfl
    · have hid : ep_mg m (m.1 127 48) (m.1 170) (m.1 171) (m.1 172) = m := by
        rw [← ep_mg_0]; unfold ep_mI; rw [ep_upd_id, ep_mLid]
      rw [hid]
      unfold eF_12_load
      cases st with
      | true =>
        rw [ep_J, if_neg (by decide)]
        dsimp only
        rw [if_neg hnz, if_neg (fun z => ha (hrem.mp z)), ep_J, if_neg (by decide)]
        exact ep_bnd (ep_mexcept m 6 addr c0) rfl
      | false =>
        rw [ep_J, if_pos (by decide)]
        dsimp only
        rw [if_neg hnz, if_neg (fun z => ha (hrem.mp z)), ep_J, if_pos (by decide)]
        exact ep_bnd (ep_mexcept m 4 addr c0) rfl
