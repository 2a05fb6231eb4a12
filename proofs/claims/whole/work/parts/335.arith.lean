/-! numbers reckoned alike -/
def ep_bl (a b : Int32) : Bool := decide (a ^^^ (-2147483648) < b ^^^ (-2147483648))
theorem ep_cbelow (s : eh_F) (a b : Int32) : eF_11_isBelow s a b = some (ep_bi (ep_bl a b)) := by
  unfold eF_11_isBelow ep_bl
  rw [ep_J]
  by_cases h : a ^^^ (-2147483648) < b ^^^ (-2147483648)
  · simp [h, ep_bi]
  · simp [h, ep_bi]
theorem ep_addmin (a : Int32) : a + (-2147483648) = a ^^^ (-2147483648) := by
  have key : ∀ n, n < 2 ^ 31 → n ^^^ 2 ^ 31 = 2 ^ 31 + n := by
    intro n hn
    apply Nat.eq_of_testBit_eq
    intro i
    rw [Nat.testBit_xor, Nat.testBit_two_pow]
    by_cases h : i = 31
    · subst h
      rw [Nat.testBit_two_pow_add_eq, Nat.testBit_lt_two_pow hn]; rfl
    · by_cases h2 : i < 31
      · rw [Nat.testBit_two_pow_add_gt h2, decide_eq_false (by omega), Bool.xor_false]
      · rw [Nat.testBit_lt_two_pow (show 2 ^ 31 + n < 2 ^ i from Nat.lt_of_lt_of_le (show 2 ^ 31 + n < 2 ^ 32 by omega) (Nat.pow_le_pow_right (by decide) (by omega))), Nat.testBit_lt_two_pow (show n < 2 ^ i from Nat.lt_of_lt_of_le (show n < 2 ^ 32 by omega) (Nat.pow_le_pow_right (by decide) (by omega)))]
        rw [decide_eq_false (by omega), Bool.xor_false]
  apply Int32.toBitVec_inj.mp
  apply BitVec.eq_of_toNat_eq
  rw [Int32.toBitVec_add, Int32.toBitVec_xor, BitVec.toNat_add, BitVec.toNat_xor]
  have hl := a.toBitVec.isLt
  have hm : (-2147483648 : Int32).toBitVec.toNat = 2 ^ 31 := by decide
  rw [hm]
  by_cases h : a.toBitVec.toNat < 2 ^ 31
  · rw [key _ h]; omega
  · have e : a.toBitVec.toNat = (a.toBitVec.toNat - 2 ^ 31) ^^^ 2 ^ 31 := by rw [key _ (by omega)]; omega
    have e2 : a.toBitVec.toNat ^^^ 2 ^ 31 = a.toBitVec.toNat - 2 ^ 31 := by
      rw [e, Nat.xor_assoc, Nat.xor_self, Nat.xor_zero, ← e]
    rw [e2]; omega
theorem ep_mcmpU (s : eh_F) (a b : Int32) : eF_20_compareUnsigned s a b = some (if ep_bl a b = true then -1 else if a = b then 0 else 1) := by
  unfold eF_20_compareUnsigned eF_20_compare ep_bl
  rw [ep_addmin, ep_addmin, ep_J]
  by_cases h : a ^^^ (-2147483648) < b ^^^ (-2147483648)
  · simp [h, ep_sb]
  · by_cases h2 : a = b
    · simp [h2, ep_sb]
    · have : ¬ a ^^^ (-2147483648) = b ^^^ (-2147483648) := by
        intro q
        apply h2
        have := congrArg (fun z => z ^^^ (-2147483648)) q
        simpa [Int32.xor_assoc] using this
      simp [h, h2, this, ep_sb]
theorem ep_bl_gt {a b : Int32} (h : ep_bl a b = false) (h2 : a ≠ b) : ep_bl b a = true := by
  unfold ep_bl at h ⊢
  simp only [decide_eq_false_iff_not, decide_eq_true_eq] at h ⊢
  have : ¬ a ^^^ (-2147483648) = b ^^^ (-2147483648) := by
    intro q
    apply h2
    have := congrArg (fun z => z ^^^ (-2147483648)) q
    simpa [Int32.xor_assoc] using this
  rw [Int32.lt_iff_toInt_lt] at h ⊢
  rw [← Int32.toInt_inj] at this
  omega
theorem ep_and31i (y : Int32) : (y &&& 31) &&& 31 = y &&& 31 := by rw [Int32.and_assoc]; rfl
theorem ep_shl31 (x y : Int32) : eh_shl x (y &&& 31) = eh_shl x y := by unfold eh_shl; rw [ep_and31i]
theorem ep_shr31 (x y : Int32) : eh_shr x (y &&& 31) = eh_shr x y := by unfold eh_shr; rw [ep_and31i]
theorem ep_ushr31 (x y : Int32) : eh_ushr x (y &&& 31) = eh_ushr x y := by
  unfold eh_ushr
  congr 2
  apply UInt32.toBitVec_inj.mp
  show (y.toBitVec &&& 31#32) &&& 31#32 = y.toBitVec &&& 31#32
  rw [BitVec.and_assoc, BitVec.and_self]
def ep_rk (f : Nat) (sg : Bool) (l r : Int32) : Int32 := if f = 0 then l + r else if f = 1 then eh_shl l r else if f = 2 then ep_bi (decide (l < r)) else if f = 3 then ep_bi (ep_bl l r) else if f = 4 then l ^^^ r else if f = 5 then (if sg = true then eh_shr l r else eh_ushr l r) else if f = 6 then l ||| r else l &&& r
theorem ep_f8 {f : Nat} (h : f < 8) : f = 0 ∨ f = 1 ∨ f = 2 ∨ f = 3 ∨ f = 4 ∨ f = 5 ∨ f = 6 ∨ f = 7 := by omega
theorem ep_creckoned (s : eh_F) {f : Nat} (hf : f < 8) (sg : Bool) (l r : Int32) : eF_7_reckoned s (nI f) (ep_bi sg) l r = some (ep_rk f sg l r) := by
  unfold eF_7_reckoned ep_rk
  rw [ep_shl31, ep_shr31, ep_ushr31, ep_cbelow]
  rcases ep_f8 hf with rfl | rfl | rfl | rfl | rfl | rfl | rfl | rfl
  · simp (decide := true) (disch := first | assumption | decide) only [↓reduceIte]
  · simp (decide := true) (disch := first | assumption | decide) only [↓reduceIte]
  · simp (decide := true) (disch := first | assumption | decide) only [↓reduceIte, ↓ep_J]
    by_cases z : l < r <;> simp [z, ep_bi]
  · simp (decide := true) (disch := first | assumption | decide) only [↓reduceIte, ↓ep_J, ↓ep_sb]
    cases ep_bl l r <;> rfl
  · simp (decide := true) (disch := first | assumption | decide) only [↓reduceIte]
  · simp (decide := true) (disch := first | assumption | decide) only [↓reduceIte, ↓ep_J]
    cases sg <;> rfl
  · simp (decide := true) (disch := first | assumption | decide) only [↓reduceIte]
  · simp (decide := true) (disch := first | assumption | decide) only [↓reduceIte]
theorem ep_mplain (s : eh_F) {f : Nat} (hf : f < 8) (l r : Int32) : eF_12_plain s (nI f) l r = some (ep_rk f false l r) := by
  unfold eF_12_plain ep_rk
  rw [ep_mcmpU]
  rcases ep_f8 hf with rfl | rfl | rfl | rfl | rfl | rfl | rfl | rfl
  · simp (decide := true) (disch := first | assumption | decide) only [↓reduceIte]
  · simp (decide := true) (disch := first | assumption | decide) only [↓reduceIte]
  · simp (decide := true) (disch := first | assumption | decide) only [↓reduceIte, ↓ep_J]
    by_cases z : l < r <;> simp [z, ep_bi]
  · simp (decide := true) (disch := first | assumption | decide) only [↓reduceIte, ↓ep_J, ↓ep_sb]
    cases z : ep_bl l r with
    | true => rfl
    | false => by_cases z2 : l = r <;> simp [z2] <;> decide
  · simp (decide := true) (disch := first | assumption | decide) only [↓reduceIte]
  · simp (decide := true) (disch := first | assumption | decide) only [↓reduceIte]
  · simp (decide := true) (disch := first | assumption | decide) only [↓reduceIte]
  · simp (decide := true) (disch := first | assumption | decide) only [↓reduceIte]
theorem ep_divm1 (x : Int32) : x / (-1) = -x := by
  apply Int32.toInt_inj.mp
  rw [Int32.toInt_div]
  show (x.toInt.tdiv (-1)).bmod (2 ^ 32) = _
  rw [Int.tdiv_neg, Int.tdiv_one, Int32.toInt_neg]
theorem ep_remm1 (x : Int32) : eh_rem x (-1) = 0 := by
  unfold eh_rem
  rw [ep_divm1, Int32.neg_mul, Int32.mul_neg, Int32.neg_neg, Int32.mul_one, Int32.sub_self]
theorem ep_low0 {y : Int32} (h : y ≠ 0) : ¬ (y.toInt64 &&& 4294967295 = 0) := by
  rw [ep_low32, show (0 : Int64) = lN 0 from rfl, pk_lEQ (by have := y.toBitVec.isLt; omega) (by decide)]
  intro q
  apply h
  rw [← ep_nIu y, q]; rfl
theorem ep_cmuldiv {f : Nat} (hf : f < 8) (l r : Int32) : ∃ v, (∀ s, (if nI f < 4 then eF_7_multiplied s (nI f) l r else eF_7_divided s (nI f) l r) = some v) ∧ ∀ s, eF_12_product s (nI f) l r = some v := by
  rcases ep_f8 hf with rfl | rfl | rfl | rfl | rfl | rfl | rfl | rfl
  · exact ⟨_, fun s => rfl, fun s => rfl⟩
  · exact ⟨_, fun s => rfl, fun s => rfl⟩
  · exact ⟨_, fun s => rfl, fun s => rfl⟩
  · exact ⟨_, fun s => rfl, fun s => rfl⟩
  · refine ⟨if r = 0 then -1 else l / r, fun s => ?_, fun s => ?_⟩
    · unfold eF_7_divided
      by_cases z : r = 0
      · simp (decide := true) (disch := first | assumption | decide) only [↓reduceIte, ↓ep_J, z]
      · simp (decide := true) (disch := first | assumption | decide) only [↓reduceIte, ↓ep_J, z]
    · unfold eF_12_product
      by_cases z : r = 0
      · simp (decide := true) (disch := first | assumption | decide) only [↓reduceIte, ↓ep_J, ↓ep_V, z]
      · by_cases z2 : l = -2147483648
        · by_cases z3 : r = -1
          · subst z2; subst z3
            simp (decide := true) (disch := first | assumption | decide) only [↓reduceIte, ↓ep_J, ↓ep_V]
          · simp (decide := true) (disch := first | assumption | decide) only [↓reduceIte, ↓ep_J, ↓ep_V, z, z2, z3]
        · simp (decide := true) (disch := first | assumption | decide) only [↓reduceIte, ↓ep_J, ↓ep_V, z, z2]
  · refine ⟨if r = 0 then -1 else ((l.toInt64 &&& 4294967295) / (r.toInt64 &&& 4294967295)).toInt32, fun s => ?_, fun s => ?_⟩
    · unfold eF_7_divided
      by_cases z : r = 0
      · simp (decide := true) (disch := first | assumption | decide) only [↓reduceIte, ↓ep_J, z]
      · simp (decide := true) (disch := first | assumption | decide) only [↓reduceIte, ↓ep_J, ↓ep_V, z, ep_low0 z]
    · unfold eF_12_product
      by_cases z : r = 0
      · simp (decide := true) (disch := first | assumption | decide) only [↓reduceIte, ↓ep_J, ↓ep_V, z]
      · simp (decide := true) (disch := first | assumption | decide) only [↓reduceIte, ↓ep_J, ↓ep_V, z, ep_low0 z]
  · refine ⟨if r = 0 then l else eh_rem l r, fun s => ?_, fun s => ?_⟩
    · unfold eF_7_divided
      by_cases z : r = 0
      · simp (decide := true) (disch := first | assumption | decide) only [↓reduceIte, ↓ep_J, z]
      · simp (decide := true) (disch := first | assumption | decide) only [↓reduceIte, ↓ep_J, z]
    · unfold eF_12_product
      by_cases z : r = 0
      · simp (decide := true) (disch := first | assumption | decide) only [↓reduceIte, ↓ep_J, ↓ep_V, z]
      · by_cases z3 : r = -1
        · subst z3
          simp (decide := true) (disch := first | assumption | decide) only [↓reduceIte, ↓ep_J, ↓ep_V]
          rw [ep_remm1]
        · simp (decide := true) (disch := first | assumption | decide) only [↓reduceIte, ↓ep_J, ↓ep_V, z, z3]
  · refine ⟨if r = 0 then l else (eh_lrem (l.toInt64 &&& 4294967295) (r.toInt64 &&& 4294967295)).toInt32, fun s => ?_, fun s => ?_⟩
    · unfold eF_7_divided
      by_cases z : r = 0
      · simp (decide := true) (disch := first | assumption | decide) only [↓reduceIte, ↓ep_J, z]
      · simp (decide := true) (disch := first | assumption | decide) only [↓reduceIte, ↓ep_J, ↓ep_V, z, ep_low0 z]
    · unfold eF_12_product
      by_cases z : r = 0
      · simp (decide := true) (disch := first | assumption | decide) only [↓reduceIte, ↓ep_J, ↓ep_V, z]
      · simp (decide := true) (disch := first | assumption | decide) only [↓reduceIte, ↓ep_J, ↓ep_V, z, ep_low0 z]
theorem ep_offJ (w : Int32) : (((eh_shl (eh_shr w 31) 20) ||| (w &&& 1044480)) ||| ((eh_ushr w 9) &&& 2048)) ||| ((eh_ushr w 20) &&& 2046) = (((eh_shl (eh_shr w 31) 20) ||| (w &&& 1044480)) ||| (eh_shl ((eh_shr w 20) &&& 1) 11)) ||| (eh_shl ((eh_shr w 21) &&& 1023) 1) := by
  have a1 : eh_ushr w 9 &&& 2048 = eh_shl (eh_shr w 20 &&& 1) 11 := by
    apply ep_ext; intro i hi
    have h1 : ∀ i : Fin 32, ep_bit 2048 i.val = decide (i.val = 11) := by decide
    have h2 : ∀ i : Fin 32, ep_bit 1 i.val = decide (i.val = 0) := by decide
    rw [ep_bit_and, show (9 : Int32) = nI 9 from rfl, ep_bit_ushr _ (by decide), h1 ⟨i, hi⟩, show (11 : Int32) = nI 11 from rfl, ep_bit_shl _ (by decide) _ hi, ep_bit_and, show (20 : Int32) = nI 20 from rfl, ep_bit_shr _ (by decide) _ (by omega), h2 ⟨i - 11, by omega⟩]
    by_cases z : i = 11
    · subst z; simp
    · by_cases z2 : 11 ≤ i
      · simp [z, show ¬ i - 11 = 0 by omega]
      · simp [z, z2]
  have a2 : eh_ushr w 20 &&& 2046 = eh_shl (eh_shr w 21 &&& 1023) 1 := by
    apply ep_ext; intro i hi
    have h1 : ∀ i : Fin 32, ep_bit 2046 i.val = decide (1 ≤ i.val ∧ i.val < 11) := by decide
    have h2 : ∀ i : Fin 32, ep_bit 1023 i.val = decide (i.val < 10) := by decide
    rw [ep_bit_and, show (20 : Int32) = nI 20 from rfl, ep_bit_ushr _ (by decide), h1 ⟨i, hi⟩, show (1 : Int32) = nI 1 from rfl, ep_bit_shl _ (by decide) _ hi, ep_bit_and, show (21 : Int32) = nI 21 from rfl, ep_bit_shr _ (by decide) _ (by omega), h2 ⟨i - 1, by omega⟩]
    by_cases z : 1 ≤ i ∧ i < 11
    · simp [z, show i - 1 < 10 by omega, show i - 1 + 21 < 32 by omega, show i - 1 + 21 = i + 20 by omega]
      try (intro h; omega)
    · by_cases z2 : 1 ≤ i
      · simp [show ¬ i < 11 by omega, show ¬ i - 1 < 10 by omega]
      · simp [z2]
  rw [a1, a2]
theorem ep_offB (w : Int32) : (((eh_shl (eh_shr w 31) 12) ||| ((eh_shl w 4) &&& 2048)) ||| ((eh_ushr w 20) &&& 2016)) ||| ((eh_ushr w 7) &&& 30) = (((eh_shl (eh_shr w 31) 12) ||| (eh_shl ((eh_shr w 7) &&& 1) 11)) ||| (eh_shl ((eh_shr w 25) &&& 63) 5)) ||| (eh_shl ((eh_shr w 8) &&& 15) 1) := by
  have a1 : eh_shl w 4 &&& 2048 = eh_shl (eh_shr w 7 &&& 1) 11 := by
    apply ep_ext; intro i hi
    have h1 : ∀ i : Fin 32, ep_bit 2048 i.val = decide (i.val = 11) := by decide
    have h2 : ∀ i : Fin 32, ep_bit 1 i.val = decide (i.val = 0) := by decide
    rw [ep_bit_and, show (4 : Int32) = nI 4 from rfl, ep_bit_shl _ (by decide) _ hi, h1 ⟨i, hi⟩, show (11 : Int32) = nI 11 from rfl, ep_bit_shl _ (by decide) _ hi, ep_bit_and, show (7 : Int32) = nI 7 from rfl, ep_bit_shr _ (by decide) _ (by omega), h2 ⟨i - 11, by omega⟩]
    by_cases z : i = 11
    · subst z; simp
    · by_cases z2 : 11 ≤ i
      · simp [z, show ¬ i - 11 = 0 by omega]
      · simp [z, z2]
  have a2 : eh_ushr w 20 &&& 2016 = eh_shl (eh_shr w 25 &&& 63) 5 := by
    apply ep_ext; intro i hi
    have h1 : ∀ i : Fin 32, ep_bit 2016 i.val = decide (5 ≤ i.val ∧ i.val < 11) := by decide
    have h2 : ∀ i : Fin 32, ep_bit 63 i.val = decide (i.val < 6) := by decide
    rw [ep_bit_and, show (20 : Int32) = nI 20 from rfl, ep_bit_ushr _ (by decide), h1 ⟨i, hi⟩, show (5 : Int32) = nI 5 from rfl, ep_bit_shl _ (by decide) _ hi, ep_bit_and, show (25 : Int32) = nI 25 from rfl, ep_bit_shr _ (by decide) _ (by omega), h2 ⟨i - 5, by omega⟩]
    by_cases z : 5 ≤ i ∧ i < 11
    · simp [z, show i - 5 < 6 by omega, show i - 5 + 25 < 32 by omega, show i - 5 + 25 = i + 20 by omega]
      try (intro h; omega)
    · by_cases z2 : 5 ≤ i
      · simp [show ¬ i < 11 by omega, show ¬ i - 5 < 6 by omega]
      · simp [z2]
  have a3 : eh_ushr w 7 &&& 30 = eh_shl (eh_shr w 8 &&& 15) 1 := by
    apply ep_ext; intro i hi
    have h1 : ∀ i : Fin 32, ep_bit 30 i.val = decide (1 ≤ i.val ∧ i.val < 5) := by decide
    have h2 : ∀ i : Fin 32, ep_bit 15 i.val = decide (i.val < 4) := by decide
    rw [ep_bit_and, show (7 : Int32) = nI 7 from rfl, ep_bit_ushr _ (by decide), h1 ⟨i, hi⟩, show (1 : Int32) = nI 1 from rfl, ep_bit_shl _ (by decide) _ hi, ep_bit_and, show (8 : Int32) = nI 8 from rfl, ep_bit_shr _ (by decide) _ (by omega), h2 ⟨i - 1, by omega⟩]
    by_cases z : 1 ≤ i ∧ i < 5
    · simp [z, show i - 1 < 4 by omega, show i - 1 + 8 < 32 by omega, show i - 1 + 8 = i + 7 by omega]
      try (intro h; omega)
    · by_cases z2 : 1 ≤ i
      · simp [show ¬ i < 5 by omega, show ¬ i - 1 < 4 by omega]
      · simp [z2]
  rw [a1, a2, a3]
