/-! bits of words -/
def ep_bit (x : Int32) (i : Nat) : Bool := x.toBitVec.getLsbD i
theorem ep_ext {x y : Int32} (h : ∀ i, i < 32 → ep_bit x i = ep_bit y i) : x = y := by
  apply Int32.toBitVec_inj.mp
  apply BitVec.eq_of_getLsbD_eq
  intro i hi
  exact h i hi
theorem ep_bit_ge (x : Int32) {i : Nat} (h : 32 ≤ i) : ep_bit x i = false := BitVec.getLsbD_of_ge _ _ h
theorem ep_bit_and (x y : Int32) (i : Nat) : ep_bit (x &&& y) i = (ep_bit x i && ep_bit y i) := by simp [ep_bit, BitVec.getLsbD_and]
theorem ep_bit_or (x y : Int32) (i : Nat) : ep_bit (x ||| y) i = (ep_bit x i || ep_bit y i) := by simp [ep_bit, BitVec.getLsbD_or]
theorem ep_bit_xor (x y : Int32) (i : Nat) : ep_bit (x ^^^ y) i = (ep_bit x i ^^ ep_bit y i) := by simp [ep_bit, BitVec.getLsbD_xor]
theorem ep_bit_nI (n i : Nat) : ep_bit (nI n) i = (decide (i < 32) && n.testBit i) := by
  unfold ep_bit
  show (BitVec.ofNat 32 n).getLsbD i = _
  rw [BitVec.getLsbD_ofNat]
theorem ep_bit_m1 (i : Nat) (h : i < 32) : ep_bit (-1) i = true := by
  have : ∀ i : Fin 32, ep_bit (-1) i.val = true := by decide
  exact this ⟨i, h⟩
theorem ep_bit_0 (i : Nat) : ep_bit 0 i = false := by
  by_cases h : i < 32
  · have : ∀ i : Fin 32, ep_bit 0 i.val = false := by decide
    exact this ⟨i, h⟩
  · exact ep_bit_ge _ (by omega)
theorem ep_bit_255 (i : Nat) : ep_bit 255 i = decide (i < 8) := by
  by_cases h : i < 32
  · have : ∀ i : Fin 32, ep_bit 255 i.val = decide (i.val < 8) := by decide
    exact this ⟨i, h⟩
  · rw [ep_bit_ge _ (by omega)]; simp; omega
theorem ep_bit_65535 (i : Nat) : ep_bit 65535 i = decide (i < 16) := by
  by_cases h : i < 32
  · have : ∀ i : Fin 32, ep_bit 65535 i.val = decide (i.val < 16) := by decide
    exact this ⟨i, h⟩
  · rw [ep_bit_ge _ (by omega)]; simp; omega
theorem ep_smod : ∀ k, k < 32 → ((nI k &&& 31).toBitVec.smod 32).toNat = k := by decide
theorem ep_bit_shl (x : Int32) {k : Nat} (hk : k < 32) (i : Nat) (hi : i < 32) : ep_bit (eh_shl x (nI k)) i = (decide (k ≤ i) && ep_bit x (i - k)) := by
  unfold ep_bit eh_shl
  rw [Int32.toBitVec_shiftLeft, BitVec.shiftLeft_eq', ep_smod k hk, BitVec.getLsbD_shiftLeft]
  by_cases h : i < k
  · simp [h, hi, show ¬ k ≤ i by omega]
  · simp [h, hi, show k ≤ i by omega]
theorem ep_bit_shr (x : Int32) {k : Nat} (hk : k < 32) (i : Nat) (hi : i < 32) : ep_bit (eh_shr x (nI k)) i = (if i + k < 32 then ep_bit x (i + k) else ep_bit x 31) := by
  unfold ep_bit eh_shr
  rw [Int32.toBitVec_shiftRight, BitVec.sshiftRight_eq', ep_smod k hk, BitVec.getLsbD_sshiftRight]
  simp [show ¬ 32 ≤ i by omega, Nat.add_comm k i, BitVec.msb_eq_getLsbD_last]
theorem ep_umod : ∀ k, k < 32 → (((nI k).toUInt32 &&& Int32.toUInt32 31).toBitVec % 32).toNat = k := by decide
theorem ep_bit_ushr (x : Int32) {k : Nat} (hk : k < 32) (i : Nat) : ep_bit (eh_ushr x (nI k)) i = ep_bit x (i + k) := by
  have e := pk_ushr x (nI k) k (ep_umod k hk)
  unfold ep_bit eh_ushr
  unfold BitVec.getLsbD
  rw [e, Nat.testBit_div_two_pow]
theorem ep_bit_nb (x : Int32) (i : Nat) (hi : i < 32) : ep_bit (eh_nb x) i = (if i < 8 then ep_bit x i else ep_bit x 7) := by
  unfold ep_bit eh_nb
  rw [Int8.toBitVec_toInt32, Int32.toBitVec_toInt8, BitVec.getLsbD_signExtend]
  by_cases h8 : i < 8
  · simp only [hi, decide_true, Bool.true_and, h8, if_true]
    rw [BitVec.getLsbD_signExtend]
    simp [h8, hi]
  · simp only [hi, decide_true, Bool.true_and, h8, if_false]
    rw [BitVec.msb_eq_getLsbD_last, BitVec.getLsbD_signExtend]
    simp
theorem ep_b8 {x y : Int32} : (x &&& 255 = y &&& 255) ↔ ∀ i, i < 8 → ep_bit x i = ep_bit y i := by
  constructor
  · intro h i hi
    have := congrArg (fun z => ep_bit z i) h
    simpa [ep_bit_and, ep_bit_255, hi] using this
  · intro h
    apply ep_ext
    intro i hi
    rw [ep_bit_and, ep_bit_and, ep_bit_255]
    by_cases h8 : i < 8
    · rw [h i h8]
    · simp [h8]
/-- literals as numbers -/
theorem ep_ltn {a n : Nat} (ha : a < 2 ^ 31) (hn : n < 2 ^ 31) : (nI a < (OfNat.ofNat n : Int32)) ↔ a < n := nI_ltI ha hn
theorem ep_nlt' {a n : Nat} (ha : a < 2 ^ 31) (hn : n < 2 ^ 31) : ((OfNat.ofNat n : Int32) < nI a) ↔ n < a := nI_ltI hn ha
theorem ep_eqn {a n : Nat} (ha : a < 2 ^ 31) (hn : n < 2 ^ 31) : (nI a = (OfNat.ofNat n : Int32)) ↔ a = n := nI_eq ha hn
theorem ep_addn (a n : Nat) : nI a + (OfNat.ofNat n : Int32) = nI (a + n) := nI_add a n
theorem ep_muln (a n : Nat) : (OfNat.ofNat n : Int32) * nI a = nI (n * a) := pk_mul n a
theorem ep_shrn {a k : Nat} (ha : a < 2 ^ 31) (hk : k < 32) : eh_shr (nI a) (nI k) = nI (a / 2 ^ k) := pk_shrN ha _ k (ep_smod k hk)
theorem ep_shln {a k : Nat} (hk : k < 32) (h : a * 2 ^ k < 2 ^ 32) : eh_shl (nI a) (nI k) = nI (a * 2 ^ k) := pk_shlN _ k (ep_smod k hk) h
theorem ep_ushrn {a k : Nat} (ha : a < 2 ^ 32) (hk : k < 32) : eh_ushr (nI a) (nI k) = nI (a / 2 ^ k) := pk_ushrN ha _ k (ep_umod k hk)
theorem ep_remn {a d : Nat} (ha : a < 2 ^ 31) (h0 : 0 < d) (hd : d < 2 ^ 31) : eh_rem (nI a) (nI d) = nI (a % d) := pk_rem ha h0 hd
theorem ep_and3 {a : Nat} (ha : a < 2 ^ 32) : nI a &&& 3 = nI (a % 4) := pk_andN ha 2 rfl
theorem ep_and15 {a : Nat} (ha : a < 2 ^ 32) : nI a &&& 15 = nI (a % 16) := pk_andN ha 4 rfl
theorem ep_and31 {a : Nat} (ha : a < 2 ^ 32) : nI a &&& 31 = nI (a % 32) := pk_andN ha 5 rfl
theorem ep_and63 {a : Nat} (ha : a < 2 ^ 32) : nI a &&& 63 = nI (a % 64) := pk_andN ha 6 rfl
theorem ep_and255 {a : Nat} (ha : a < 2 ^ 32) : nI a &&& 255 = nI (a % 256) := pk_andN ha 8 rfl
theorem ep_land63 {n : Nat} (h : n < 2 ^ 63) : lN n &&& 63 = lN (n % 64) := by
  apply Int64.toBitVec_inj.mp
  apply BitVec.eq_of_toNat_eq
  rw [Int64.toBitVec_and, BitVec.toNat_and]
  show (BitVec.ofNat 64 n).toNat &&& 63 = (BitVec.ofNat 64 (n % 64)).toNat
  rw [BitVec.toNat_ofNat, BitVec.toNat_ofNat, Nat.mod_eq_of_lt (show n < 2 ^ 64 by omega), Nat.mod_eq_of_lt (show n % 64 < 2 ^ 64 by omega)]
  exact Nat.and_two_pow_sub_one_eq_mod n 6
