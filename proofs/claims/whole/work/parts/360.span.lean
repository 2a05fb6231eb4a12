/-! spans -/
theorem ep_pow2 {k i : Nat} (hi : i < 31) (h1 : 2 ^ i ≤ k) (h2 : k < 2 ^ (i + 1)) (h : nI k &&& nI (k - 1) = 0) : k = 2 ^ i := by
  by_cases z : k = 2 ^ i
  · exact z
  · have b1 : k.testBit i = true := Nat.testBit_of_two_pow_le_and_two_pow_add_one_gt h1 h2
    have b2 : (k - 1).testBit i = true := Nat.testBit_of_two_pow_le_and_two_pow_add_one_gt (by omega) (by omega)
    have : ep_bit (nI k &&& nI (k - 1)) i = ep_bit 0 i := by rw [h]
    rw [ep_bit_and, ep_bit_nI, ep_bit_nI, ep_bit_0, b1, b2] at this
    simp at this
    omega
def ep_sz8 (q : Int32) : Bool := decide (q = 256) || decide (q = 512) || decide (q = 1024) || decide (q = 2048) || decide (q = 4096) || decide (q = 8192) || decide (q = 16384) || decide (q = 32768)
theorem ep_sz8_of {q : Int32} (h : ep_sz8 q = true) : ∃ i, i < 8 ∧ q = nI (256 * 2 ^ i) := by
  unfold ep_sz8 at h
  simp only [Bool.or_eq_true, decide_eq_true_eq] at h
  rcases h with ((((((h | h) | h) | h) | h) | h) | h) | h
  · exact ⟨0, by decide, h⟩
  · exact ⟨1, by decide, h⟩
  · exact ⟨2, by decide, h⟩
  · exact ⟨3, by decide, h⟩
  · exact ⟨4, by decide, h⟩
  · exact ⟨5, by decide, h⟩
  · exact ⟨6, by decide, h⟩
  · exact ⟨7, by decide, h⟩
theorem ep_sz8_iff (q : Int32) : (¬ q < 256 ∧ ¬ 32768 < q ∧ q &&& (q - 1) = 0) ↔ ep_sz8 q = true := by
  constructor
  · intro ⟨h1, h2, h3⟩
    have h0 : ¬ q < 0 := by
      rw [Int32.lt_iff_toInt_lt] at h1 ⊢
      have a : (256 : Int32).toInt = 256 := by decide
      have b : (0 : Int32).toInt = 0 := by decide
      omega
    obtain ⟨k, hk, rfl⟩ := nI_of h0
    have k1 : 256 ≤ k := by
      have : ¬ k < 256 := fun z => h1 (nI_lt (b := 256) z (by decide))
      omega
    have k2 : k ≤ 32768 := by
      have : ¬ 32768 < k := fun z => h2 (nI_lt (a := 32768) z (by omega))
      omega
    have e1 : nI k - 1 = nI (k - 1) := pk_sub (b := 1) (by omega)
    rw [e1] at h3
    have : k = 256 ∨ k = 512 ∨ k = 1024 ∨ k = 2048 ∨ k = 4096 ∨ k = 8192 ∨ k = 16384 ∨ k = 32768 := by
      by_cases g9 : k < 512
      · have := ep_pow2 (i := 8) (by decide) (by omega) (by omega) h3; omega
      by_cases g10 : k < 1024
      · have := ep_pow2 (i := 9) (by decide) (by omega) (by omega) h3; omega
      by_cases g11 : k < 2048
      · have := ep_pow2 (i := 10) (by decide) (by omega) (by omega) h3; omega
      by_cases g12 : k < 4096
      · have := ep_pow2 (i := 11) (by decide) (by omega) (by omega) h3; omega
      by_cases g13 : k < 8192
      · have := ep_pow2 (i := 12) (by decide) (by omega) (by omega) h3; omega
      by_cases g14 : k < 16384
      · have := ep_pow2 (i := 13) (by decide) (by omega) (by omega) h3; omega
      by_cases g15 : k < 32768
      · have := ep_pow2 (i := 14) (by decide) (by omega) (by omega) h3; omega
      omega
    rcases this with rfl | rfl | rfl | rfl | rfl | rfl | rfl | rfl <;> decide
  · intro h
    obtain ⟨i, hi, rfl⟩ := ep_sz8_of h
    have : ∀ i : Fin 8, ¬ nI (256 * 2 ^ i.val) < 256 ∧ ¬ 32768 < nI (256 * 2 ^ i.val) ∧ nI (256 * 2 ^ i.val) &&& (nI (256 * 2 ^ i.val) - 1) = 0 := by decide
    exact this ⟨i, hi⟩
def ep_spb (p q : Int32) : Bool := ep_sz8 q && !decide (p < 0) && !decide (131072 - q < p) && decide (p &&& (q - 1) = 0)
theorem ep_spb_of {p q : Int32} (h : ep_spb p q = true) : ∃ b n, 0 < n ∧ n ≤ 128 ∧ b + n ≤ 512 ∧ p = nI (256 * b) ∧ q = nI (256 * n) := by
  unfold ep_spb at h
  simp only [Bool.and_eq_true, Bool.not_eq_true', decide_eq_false_iff_not, decide_eq_true_eq] at h
  obtain ⟨⟨⟨h1, h2⟩, h3⟩, h4⟩ := h
  obtain ⟨i, hi, rfl⟩ := ep_sz8_of h1
  obtain ⟨k, hk, rfl⟩ := nI_of h2
  have hp : 2 ^ i ≤ 128 := by
    have : ∀ i : Fin 8, 2 ^ i.val ≤ 128 := by decide
    exact this ⟨i, hi⟩
  have hp0 : 0 < 2 ^ i := Nat.two_pow_pos i
  have e1 : (131072 : Int32) - nI (256 * 2 ^ i) = nI (131072 - 256 * 2 ^ i) := pk_sub (a := 131072) (by omega)
  rw [e1, nI_ltI (by omega) hk] at h3
  have e2 : nI (256 * 2 ^ i) - 1 = nI (256 * 2 ^ i - 1) := pk_sub (b := 1) (by omega)
  rw [e2, pk_andN (by omega) (i + 8) (by rw [pk_tn (by omega), Nat.pow_add]; omega), show (0 : Int32) = nI 0 from rfl, Nat.pow_add, nI_eq (by have := Nat.mod_lt k (show 0 < 2 ^ i * 2 ^ 8 by omega); omega) (by decide)] at h4
  obtain ⟨b, hb⟩ := Nat.dvd_of_mod_eq_zero h4
  refine ⟨2 ^ i * b, 2 ^ i, hp0, hp, ?_, ?_, rfl⟩
  · have : k = 256 * (2 ^ i * b) := by rw [hb, Nat.mul_assoc, Nat.mul_comm (2 ^ 8) b, Nat.mul_comm 256, Nat.mul_assoc]
    omega
  · congr 1
    rw [hb, Nat.mul_assoc, Nat.mul_comm (2 ^ 8) b, Nat.mul_comm 256, Nat.mul_assoc]
theorem ep_cspan (c : ep_C) (m0 : ep_M) (p q : Int32) : eF_6_isSpan (ep_mk c m0) p q = some (ep_bi (ep_spb p q)) := by
  unfold eF_6_isSpan
  rw [ep_J]
  have h := ep_sz8_iff q
  by_cases y : ep_sz8 q = true
  · obtain ⟨h1, h2, h3⟩ := h.mpr y
    rw [if_neg h1, if_neg h2, if_pos h3]
    unfold ep_spb
    rw [y]
    simp only [ep_J, Bool.true_and]
    by_cases z1 : p < 0
    · simp [z1, ep_bi]
    by_cases z2 : 131072 - q < p
    · simp [z1, z2, ep_bi]
    by_cases z3 : p &&& (q - 1) = 0
    · simp [z1, z2, z3, ep_bi]
    · simp [z1, z2, z3, ep_bi]
  · have : ep_spb p q = false := by unfold ep_spb; simp [y]
    rw [this]
    by_cases z1 : q < 256
    · rw [if_pos z1]; rfl
    by_cases z2 : 32768 < q
    · rw [if_neg z1, if_pos z2]; rfl
    by_cases z3 : q &&& (q - 1) = 0
    · exact absurd (h.mp ⟨z1, z2, z3⟩) y
    · rw [if_neg z1, if_neg z2, if_neg z3]; rfl
theorem ep_mspan (m : ep_M) (c0 : ep_C) (p q : Int32) : eF_12_isSpan (ep_mk c0 m) p q = some (ep_bi (ep_spb p q)) := by
  unfold eF_12_isSpan
  have key : ∀ {α : Type} (A B : α), (if q = 256 then A else (if q = 512 then A else (if q = 1024 then A else (if q = 2048 then A else (if q = 4096 then A else (if q = 8192 then A else (if q = 16384 then A else (if q = 32768 then A else B)))))))) = if ep_sz8 q = true then A else B := by
    intro α A B
    unfold ep_sz8
    by_cases h1 : q = 256
    · simp [h1]
    by_cases h2 : q = 512
    · simp [h2]
    by_cases h3 : q = 1024
    · simp [h3]
    by_cases h4 : q = 2048
    · simp [h4]
    by_cases h5 : q = 4096
    · simp [h5]
    by_cases h6 : q = 8192
    · simp [h6]
    by_cases h7 : q = 16384
    · simp [h7]
    by_cases h8 : q = 32768
    · simp [h8]
    simp [h1, h2, h3, h4, h5, h6, h7, h8]
  simp only [↓ep_J]
  rw [key]
  by_cases y : ep_sz8 q = true
  · rw [if_pos y]
    have hq0 : q ≠ 0 := by
      obtain ⟨i, hi, rfl⟩ := ep_sz8_of y
      have : ∀ i : Fin 8, nI (256 * 2 ^ i.val) ≠ 0 := by decide
      exact this ⟨i, hi⟩
    unfold ep_spb
    rw [y, if_neg hq0]
    by_cases z1 : p < 0
    · simp [z1, ep_bi]
    have hre : eh_rem p q = p &&& (q - 1) := by
      obtain ⟨i, hi, rfl⟩ := ep_sz8_of y
      obtain ⟨k, hk, rfl⟩ := nI_of z1
      have hp : 2 ^ i ≤ 128 := by
        have : ∀ i : Fin 8, 2 ^ i.val ≤ 128 := by decide
        exact this ⟨i, hi⟩
      have hp0 : 0 < 2 ^ i := Nat.two_pow_pos i
      have e2 : nI (256 * 2 ^ i) - 1 = nI (256 * 2 ^ i - 1) := pk_sub (b := 1) (by omega)
      have e3 : eh_rem (nI k) (nI (256 * 2 ^ i)) = nI (k % (256 * 2 ^ i)) := pk_rem hk (by omega) (by omega)
      rw [e3, e2, pk_andN (by omega) (i + 8) (by rw [pk_tn (by omega), Nat.pow_add]; omega), Nat.pow_add, Nat.mul_comm 256]
    rw [hre]
    by_cases z3 : p &&& (q - 1) = 0
    · by_cases z2 : 131072 - q < p
      · simp [z1, z2, z3, ep_bi]
      · simp [z1, z2, z3, ep_bi]
    · simp [z1, z3, ep_bi]
  · rw [if_neg y]
    have : ep_spb p q = false := by unfold ep_spb; simp [y]
    rw [this]
    simp [ep_bi]
