/-! bytes and words of memory -/
theorem ep_bit_lw (f : Nat → Int32) (o i : Nat) (hi : i < 32) : ep_bit (ep_lw f o) i = ep_bit (f (o + i / 8)) (i % 8) := by
  unfold ep_lw
  rw [ep_sh8, ep_sh16, ep_sh24]
  simp only [ep_bit_or, ep_bit_and, ep_bit_shl _ (show 24 < 32 by decide) i hi, ep_bit_shl _ (show 16 < 32 by decide) i hi, ep_bit_shl _ (show 8 < 32 by decide) i hi, ep_bit_255]
  by_cases h1 : i < 8
  · simp [h1, show ¬ 24 ≤ i by omega, show ¬ 16 ≤ i by omega, show ¬ 8 ≤ i by omega, show i / 8 = 0 by omega, show i % 8 = i by omega]
  · by_cases h2 : i < 16
    · simp [h1, show ¬ 24 ≤ i by omega, show ¬ 16 ≤ i by omega, show 8 ≤ i by omega, show i - 8 < 8 by omega, show i / 8 = 1 by omega, show i % 8 = i - 8 by omega]
    · by_cases h3 : i < 24
      · simp [h1, show ¬ 24 ≤ i by omega, show 16 ≤ i by omega, show 8 ≤ i by omega, show ¬ i - 8 < 8 by omega, show i - 16 < 8 by omega, show i / 8 = 2 by omega, show i % 8 = i - 16 by omega]
      · simp [h1, show 24 ≤ i by omega, show 16 ≤ i by omega, show 8 ≤ i by omega, show ¬ i - 8 < 8 by omega, show ¬ i - 16 < 8 by omega, show i - 24 < 8 by omega, show i / 8 = 3 by omega, show i % 8 = i - 24 by omega]
theorem ep_lw_cong {f g : Nat → Int32} {o : Nat} (h : ∀ k, k < 4 → f (o + k) = g (o + k)) : ep_lw f o = ep_lw g o := by
  have h0 := h 0 (by decide)
  simp only [Nat.add_zero] at h0
  unfold ep_lw
  rw [h0, h 1 (by decide), h 2 (by decide), h 3 (by decide)]
theorem ep_bit_nbnb (x : Int32) (i : Nat) (h : i < 8) : ep_bit (eh_nb (eh_nb x)) i = ep_bit x i := by
  rw [ep_bit_nb _ _ (by omega), if_pos h, ep_bit_nb _ _ (by omega), if_pos h]
/-- the bytes of a value, from place q on -/
def ep_sb_ (b : Nat → Int32) (q n : Nat) (v : Int32) : Nat → Int32 := ep_in_ b q n fun k => eh_nb (eh_nb (eh_shr v (nI (8 * k))))
def ep_mask (n q : Nat) : Int32 := if n = 4 then -1 else eh_shl (if n = 2 then 65535 else 255) (nI (8 * (q % 4)))
theorem ep_bit_mask {n q : Nat} (hn : n = 1 ∨ n = 2 ∨ n = 4) (hq : q % n = 0) (i : Nat) (hi : i < 32) : ep_bit (ep_mask n q) i = decide (8 * (q % 4) ≤ i ∧ i < 8 * (q % 4) + 8 * n) := by
  unfold ep_mask
  rcases hn with rfl | rfl | rfl
  · rw [if_neg (by decide), if_neg (by decide), ep_bit_shl _ (by omega) _ hi, ep_bit_255]
    by_cases h : 8 * (q % 4) ≤ i
    · simp [h]; omega
    · simp [h]
  · rw [if_neg (by decide), if_pos rfl, ep_bit_shl _ (by omega) _ hi, ep_bit_65535]
    by_cases h : 8 * (q % 4) ≤ i
    · simp [h]; omega
    · simp [h]
  · rw [if_pos rfl, ep_bit_m1 _ hi, show q % 4 = 0 by omega]
    simp [hi]
theorem ep_sb_word {w b : Nat → Int32} (h : ep_Gm w b) {n q : Nat} (hn : n = 1 ∨ n = 2 ∨ n = 4) (hq : q % n = 0) (v : Int32) : ep_Gm (upd w (q / 4) ((w (q / 4) &&& (ep_mask n q ^^^ (-1))) ||| (eh_shl v (nI (8 * (q % 4))) &&& ep_mask n q))) (ep_sb_ b q n v) := by
  unfold ep_Gm at h ⊢
  funext j
  unfold upd
  by_cases hj : j = q / 4
  · rw [if_pos hj]
    subst hj
    apply ep_ext
    intro i hi
    rw [ep_bit_lw _ _ _ hi, h]
    simp only [ep_bit_or, ep_bit_and, ep_bit_xor, ep_bit_lw _ _ _ hi, ep_bit_mask hn hq i hi, ep_bit_m1 i hi, ep_bit_shl v (show 8 * (q % 4) < 32 by omega) i hi]
    unfold ep_sb_ ep_in_
    by_cases hin : 8 * (q % 4) ≤ i ∧ i < 8 * (q % 4) + 8 * n
    · have h1 : q ≤ 4 * (q / 4) + i / 8 ∧ 4 * (q / 4) + i / 8 < q + n := by omega
      rw [if_pos h1, ep_bit_nbnb _ _ (by omega), ep_bit_shr _ (by rcases hn with rfl | rfl | rfl <;> omega) _ (by omega), if_pos (by omega)]
      simp [hin]
      congr 1
      omega
    · have h1 : ¬ (q ≤ 4 * (q / 4) + i / 8 ∧ 4 * (q / 4) + i / 8 < q + n) := by rcases hn with rfl | rfl | rfl <;> omega
      rw [if_neg h1]
      simp [hin]
  · rw [if_neg hj, h]
    apply ep_lw_cong
    intro k hk
    unfold ep_sb_ ep_in_
    rw [if_neg (by rcases hn with rfl | rfl | rfl <;> omega)]
/-! reservations -/
def ep_clr (f : Nat → Int32) (x : Int32) : Nat → Int32 := fun j => if j < 2 ∧ f j = x then -1 else f j
def ep_Clr (f r : Nat → Int32) (X : Int32 → Prop) : Prop := ∀ h, h < 2 → (X (f h) → r h = -1) ∧ (¬ X (f h) → r h = f h)
theorem ep_Clr_1 (f : Nat → Int32) (x : Int32) : ep_Clr f (ep_clr f x) (fun y => y = x) := by
  intro h hh
  unfold ep_clr
  exact ⟨fun z => by rw [if_pos ⟨hh, z⟩], fun z => by rw [if_neg (fun y => z y.2)]⟩
theorem ep_Clr_0 (f : Nat → Int32) : ep_Clr f f (fun _ => False) := fun _ _ => ⟨fun z => z.elim, fun _ => rfl⟩
theorem ep_Clr_t {f g r : Nat → Int32} {X Y : Int32 → Prop} (h1 : ep_Clr f g X) (h2 : ep_Clr g r Y) : ep_Clr f r (fun x => X x ∨ Y x) := by
  intro h hh
  have a := h1 h hh
  have b := h2 h hh
  by_cases x : X (f h)
  · have e := a.1 x
    refine ⟨fun _ => ?_, fun z => absurd (Or.inl x) z⟩
    by_cases y : Y (g h)
    · exact b.1 y
    · rw [b.2 y, e]
  · have e := a.2 x
    rw [e] at b
    refine ⟨fun z => ?_, fun z => ?_⟩
    · rcases z with z | z
      · exact absurd z x
      · exact b.1 z
    · exact b.2 (fun y => z (Or.inr y))
theorem ep_Clr_c {f r : Nat → Int32} {X Y : Int32 → Prop} (h : ep_Clr f r X) (hxy : ∀ x, X x ↔ Y x) : ep_Clr f r Y := by
  intro k hk
  have := h k hk
  rw [hxy] at this
  exact this
theorem ep_Gres_c {cr mr cr' mr' : Nat → Int32} {X Y : Int32 → Prop} (h : ep_Gres cr mr) (hc : ep_Clr cr cr' X) (hm : ep_Clr mr mr' Y) (hxy : ∀ j, j < 32768 → (X (nI j) ↔ Y (nI (4 * j)))) : ep_Gres cr' mr' := by
  intro k hk
  have a := hc k hk
  have b := hm k hk
  rcases h k hk with ⟨z1, z2⟩ | ⟨j, z0, z1, z2⟩
  · rw [z1] at a
    rw [z2] at b
    left
    constructor
    · by_cases x : X (-1)
      · exact a.1 x
      · exact a.2 x
    · by_cases y : Y (-1)
      · exact b.1 y
      · exact b.2 y
  · rw [z1] at a
    rw [z2] at b
    by_cases x : X (nI j)
    · exact Or.inl ⟨a.1 x, b.1 ((hxy j z0).mp x)⟩
    · exact Or.inr ⟨j, z0, a.2 x, b.2 (fun y => x ((hxy j z0).mpr y))⟩
/-! the reference's bytes -/
def ep_m2 (m : ep_M) (X Y : Nat → Int32) : ep_M := (ep_uf (ep_uf m.1 128 X) 147 Y, m.2)
theorem ep_m2_id (m : ep_M) : ep_m2 m (m.1 128) (m.1 147) = m := by
  refine Prod.ext ?_ rfl
  funext a
  simp only [ep_m2, ep_uf]
  by_cases h1 : a = 128 <;> by_cases h2 : a = 147 <;> simp [h1, h2]
theorem ep_m2_2 (m : ep_M) (X Y X' Y' : Nat → Int32) : ep_m2 (ep_m2 m X Y) X' Y' = ep_m2 m X' Y' := by
  refine Prod.ext ?_ rfl
  funext a
  simp only [ep_m2, ep_uf]
  by_cases h1 : a = 128 <;> by_cases h2 : a = 147 <;> simp [h1, h2]
theorem ep_m2_128 (m : ep_M) (X Y : Nat → Int32) : (ep_m2 m X Y).1 128 = X := rfl
theorem ep_m2_147 (m : ep_M) (X Y : Nat → Int32) : (ep_m2 m X Y).1 147 = Y := rfl
theorem ep_m2_n (m : ep_M) (X Y : Nat → Int32) (k : Nat) (h1 : k ≠ 128) (h2 : k ≠ 147) : (ep_m2 m X Y).1 k = m.1 k := by simp [ep_m2, ep_uf, h1, h2]
theorem ep_m2_I (m : ep_M) (X Y : Nat → Int32) (j : Nat) (v : Int32) : ep_mI (ep_m2 m X Y) 128 j v = ep_m2 m (upd X j v) Y := by
  refine Prod.ext ?_ rfl
  funext a
  simp only [ep_m2, ep_mI, ep_mL, ep_uf]
  by_cases h1 : a = 128 <;> by_cases h2 : a = 147 <;> simp [h1, h2]
theorem ep_m2_L (m : ep_M) (X Y f : Nat → Int32) : ep_mL (ep_m2 m X Y) 147 f = ep_m2 m X f := by
  refine Prod.ext ?_ rfl
  funext a
  simp only [ep_m2, ep_mL, ep_uf]
  by_cases h1 : a = 147 <;> simp [h1]
theorem ep_nIm4 {q : Nat} (hq : q < 2 ^ 31) : nI q &&& (-4) = nI (4 * (q / 4)) := by
  apply ep_ext
  intro i hi
  have h4 : ∀ i : Fin 32, ep_bit (-4) i.val = decide (2 ≤ i.val) := by decide
  rw [ep_bit_and, ep_bit_nI, ep_bit_nI, h4 ⟨i, hi⟩]
  have e : 4 * (q / 4) = q / 2 ^ 2 * 2 ^ 2 := by omega
  rw [e, Nat.testBit_mul_two_pow, Nat.testBit_div_two_pow]
  by_cases h : 2 ≤ i
  · simp [h, hi, show i - 2 + 2 = i by omega]
  · simp [h]
theorem ep_upd_id (f : Nat → Int32) (j : Nat) : upd f j (f j) = f := by
  funext k; unfold upd; by_cases h : k = j <;> simp [h]
theorem ep_clr2 (f : Nat → Int32) (x : Int32) : upd (upd f 0 (if f 0 = x then -1 else f 0)) 1 (if f 1 = x then -1 else f 1) = ep_clr f x := by
  funext j
  unfold ep_clr upd
  by_cases h1 : j = 1
  · subst h1; simp
  · by_cases h0 : j = 0
    · subst h0; simp
    · rw [if_neg h1, if_neg h0, if_neg (by omega)]
theorem ep_msetByte (m : ep_M) (X Y : Nat → Int32) {q : Nat} (hq : q < 131072) (v : Int32) (c0 : ep_C) : eF_12_setByte (ep_mk c0 (ep_m2 m X Y)) (nI q) v = some (ep_mk c0 (ep_m2 m (upd X q (eh_nb (eh_nb v))) (ep_clr Y (nI (4 * (q / 4)))))) := by
  unfold eF_12_setByte
  have q1 : eh_in (nI q) 131072 = true := ep_in hq (by decide)
  have q2 : eh_ix (nI q) = q := ep_ix (by omega)
  have q3 := ep_nIm4 (show q < 2 ^ 31 by omega)
  simp (disch := first | assumption | decide) only [q1, q2, q3, if_true, ep_V, ep_J, ep_sb, ep_rC1, ep_rC2, ep_rM, ep_rJ, ep_rQ, ep_wC1, ep_wC2, ep_wM, ep_iC1, ep_iC2, ep_iM, ep_wJ, ep_wQ, ep_cI1, ep_cIn, ep_cI2, ep_cL1, ep_cLn, ep_cL2, ep_cG1, ep_cGq, ep_cQ1, ep_cQ2, ep_cQq, ep_cQn, ep_mI1, ep_mIn, ep_mI2, ep_mL1, ep_mLn, ep_mL2, ep_mJ1, ep_mJ2, ep_m2_I]
  refine ep_lp (fun i => (nI i, ep_mk c0 (ep_m2 m (upd X q (eh_nb (eh_nb v))) (if i = 0 then Y else if i = 1 then upd Y 0 (if Y 0 = nI (4 * (q / 4)) then -1 else Y 0) else ep_clr Y (nI (4 * (q / 4))))))) 2 (ep_mk c0 (ep_m2 m (upd X q (eh_nb (eh_nb v))) (ep_clr Y (nI (4 * (q / 4)))))) (by decide) rfl ?_ ?_ rfl
  · intro i hi rec
    have : i = 0 ∨ i = 1 := by omega
    rcases this with rfl | rfl
    · have z1 : nI 0 < 2 := by decide
      have z2 : eh_in (nI 0) 2 = true := by decide
      have z3 : eh_ix (nI 0) = 0 := rfl
      simp (disch := first | assumption | decide) only [z1, z2, z3, if_true, ep_V, ep_J, ep_sb, ep_rC1, ep_rC2, ep_rM, ep_rJ, ep_rQ, ep_wC1, ep_wC2, ep_wM, ep_iC1, ep_iC2, ep_iM, ep_wJ, ep_wQ, ep_cI1, ep_cIn, ep_cI2, ep_cL1, ep_cLn, ep_cL2, ep_cG1, ep_cGq, ep_cQ1, ep_cQ2, ep_cQq, ep_cQn, ep_mI1, ep_mIn, ep_mI2, ep_mL1, ep_mLn, ep_mL2, ep_mJ1, ep_mJ2, ep_m2_147, ep_mI, ep_m2_L, nI_1]
      by_cases h : Y 0 = nI (4 * (q / 4)) <;> simp [h]
    · have z1 : nI 1 < 2 := by decide
      have z2 : eh_in (nI 1) 2 = true := by decide
      have z3 : eh_ix (nI 1) = 1 := rfl
      simp (disch := first | assumption | decide) only [z1, z2, z3, if_true, ep_V, ep_J, ep_sb, ep_rC1, ep_rC2, ep_rM, ep_rJ, ep_rQ, ep_wC1, ep_wC2, ep_wM, ep_iC1, ep_iC2, ep_iM, ep_wJ, ep_wQ, ep_cI1, ep_cIn, ep_cI2, ep_cL1, ep_cLn, ep_cL2, ep_cG1, ep_cGq, ep_cQ1, ep_cQ2, ep_cQq, ep_cQn, ep_mI1, ep_mIn, ep_mI2, ep_mL1, ep_mLn, ep_mL2, ep_mJ1, ep_mJ2, ep_m2_147, ep_mI, ep_m2_L, nI_1]
      rw [← ep_clr2]
      by_cases h : Y 1 = nI (4 * (q / 4))
      · simp [upd, h]
      · simp [upd, h]
  · intro rec
    have z1 : ¬ nI 2 < 2 := by decide
    simp only [z1, if_false]
    rfl
def ep_clrs (f : Nat → Int32) (a : Nat) : Nat → Nat → Int32
  | 0 => f
  | k + 1 => ep_clr (ep_clrs f a k) (nI (4 * ((a + k) / 4)))
theorem ep_Clr_s (f : Nat → Int32) (a : Nat) : ∀ n, ep_Clr f (ep_clrs f a n) (fun x => ∃ k, k < n ∧ x = nI (4 * ((a + k) / 4)))
  | 0 => ep_Clr_c (ep_Clr_0 f) (fun x => ⟨fun z => z.elim, fun ⟨k, h, _⟩ => absurd h (Nat.not_lt_zero k)⟩)
  | n + 1 => by
    refine ep_Clr_c (ep_Clr_t (ep_Clr_s f a n) (ep_Clr_1 _ (nI (4 * ((a + n) / 4))))) (fun x => ?_)
    constructor
    · intro z
      rcases z with ⟨k, hk, z⟩ | z
      · exact ⟨k, by omega, z⟩
      · exact ⟨n, by omega, z⟩
    · intro ⟨k, hk, z⟩
      by_cases g : k = n
      · subst g; exact Or.inr z
      · exact Or.inl ⟨k, by omega, z⟩
/-- which words a run of bytes touches -/
theorem ep_touch {a n j : Nat} (ha : a + n ≤ 131072) (hj : j < 32768) : (∃ k, k < n ∧ nI (4 * j) = nI (4 * ((a + k) / 4))) ↔ ∃ k, k < n ∧ j = (a + k) / 4 := by
  constructor
  · intro ⟨k, hk, z⟩
    have := (nI_eq (by omega) (by omega)).mp z
    exact ⟨k, hk, by omega⟩
  · intro ⟨k, hk, z⟩
    exact ⟨k, hk, by rw [← z]⟩
/-! the class's words -/
def ep_c2 (c : ep_C) (X Y : Nat → Int32) : ep_C := (ep_uf (ep_uf c.1 9 X) 11 Y, c.2)
theorem ep_c2_id (m : ep_C) : ep_c2 m (m.1 9) (m.1 11) = m := by
  refine Prod.ext ?_ rfl
  funext a
  simp only [ep_c2, ep_uf]
  by_cases h1 : a = 9 <;> by_cases h2 : a = 11 <;> simp [h1, h2]
theorem ep_c2_2 (m : ep_C) (X Y X' Y' : Nat → Int32) : ep_c2 (ep_c2 m X Y) X' Y' = ep_c2 m X' Y' := by
  refine Prod.ext ?_ rfl
  funext a
  simp only [ep_c2, ep_uf]
  by_cases h1 : a = 9 <;> by_cases h2 : a = 11 <;> simp [h1, h2]
theorem ep_c2_9 (m : ep_C) (X Y : Nat → Int32) : (ep_c2 m X Y).1 9 = X := rfl
theorem ep_c2_11 (m : ep_C) (X Y : Nat → Int32) : (ep_c2 m X Y).1 11 = Y := rfl
theorem ep_c2_n (m : ep_C) (X Y : Nat → Int32) (k : Nat) (h1 : k ≠ 9) (h2 : k ≠ 11) : (ep_c2 m X Y).1 k = m.1 k := by simp [ep_c2, ep_uf, h1, h2]
theorem ep_c2_I (m : ep_C) (X Y : Nat → Int32) (j : Nat) (v : Int32) : ep_cI (ep_c2 m X Y) 9 j v = ep_c2 m (upd X j v) Y := by
  refine Prod.ext ?_ rfl
  funext a
  simp only [ep_c2, ep_cI, ep_cL, ep_uf]
  by_cases h1 : a = 9 <;> by_cases h2 : a = 11 <;> simp [h1, h2]
theorem ep_c2_L (m : ep_C) (X Y f : Nat → Int32) : ep_cL (ep_c2 m X Y) 11 f = ep_c2 m X f := by
  refine Prod.ext ?_ rfl
  funext a
  simp only [ep_c2, ep_cL, ep_uf]
  by_cases h1 : a = 11 <;> simp [h1]
def ep_nw (X : Nat → Int32) (q n : Nat) (v : Int32) : Nat → Int32 := upd X (q / 4) ((X (q / 4) &&& (ep_mask n q ^^^ (-1))) ||| (eh_shl v (nI (8 * (q % 4))) &&& ep_mask n q))
theorem ep_cchange (c : ep_C) (X Y : Nat → Int32) {q n : Nat} (hq : q < 131072) (hn : n = 1 ∨ n = 2 ∨ n = 4) (v : Int32) (m0 : ep_M) : eF_6_change (ep_mk (ep_c2 c X Y) m0) (nI q) v (nI n) = some (ep_mk (ep_c2 c (ep_nw X q n v) Y) m0) := by
  have q1 : ¬ nI q < 0 := nI_pos (by omega)
  have q2 : nI q < 131072 := ep_lt (b := 131072) hq (by decide) rfl
  have q3 : (8 : Int32) * (nI q &&& 3) = nI (8 * (q % 4)) := by rw [ep_and3 (by omega)]; exact ep_mul (b := 8) rfl rfl
  have q4 : eh_shr (nI q) 2 = nI (q / 4) := by rw [show (2 : Int32) = nI 2 from rfl, ep_shrn (by omega) (by decide)]
  have q5 : eh_in (nI (q / 4)) 32768 = true := ep_in (by omega) (by decide)
  have q6 : eh_ix (nI (q / 4)) = q / 4 := ep_ix (by omega)
  unfold eF_6_change ep_nw ep_mask
  simp (disch := first | assumption | decide) only [q1, q2, q3, q4, q5, q6, if_true, if_false, ep_V, ep_J, ep_sb, ep_rC1, ep_rC2, ep_rM, ep_rJ, ep_rQ, ep_wC1, ep_wC2, ep_wM, ep_iC1, ep_iC2, ep_iM, ep_wJ, ep_wQ, ep_cI1, ep_cIn, ep_cI2, ep_cL1, ep_cLn, ep_cL2, ep_cG1, ep_cGq, ep_cQ1, ep_cQ2, ep_cQq, ep_cQn, ep_mI1, ep_mIn, ep_mI2, ep_mL1, ep_mLn, ep_mL2, ep_mJ1, ep_mJ2, ep_c2_I, ep_c2_9]
  rcases hn with rfl | rfl | rfl
  · rw [if_neg (show ¬ nI 1 = 4 by decide), if_neg (show ¬ nI 1 = 2 by decide), if_neg (show ¬ (1 : Nat) = 4 by decide), if_neg (show ¬ (1 : Nat) = 2 by decide)]
  · rw [if_neg (show ¬ nI 2 = 4 by decide), if_pos (show nI 2 = 2 by decide), if_neg (show ¬ (2 : Nat) = 4 by decide), if_pos rfl]
  · rw [if_pos (show nI 4 = 4 by decide), if_pos rfl]
theorem ep_cstore (c : ep_C) (X Y : Nat → Int32) {q n : Nat} (hq : q < 131072) (hn : n = 1 ∨ n = 2 ∨ n = 4) (v : Int32) (m0 : ep_M) : eF_6_store (ep_mk (ep_c2 c X Y) m0) (nI q) v (nI n) = some (ep_mk (ep_c2 c (ep_nw X q n v) (ep_clr Y (nI (q / 4)))) m0) := by
  have q4 : eh_shr (nI q) 2 = nI (q / 4) := by rw [show (2 : Int32) = nI 2 from rfl, ep_shrn (by omega) (by decide)]
  unfold eF_6_store
  rw [ep_cchange c X Y hq hn v m0, ep_sb, q4]
  refine ep_lp (fun i => (nI i, ep_mk (ep_c2 c (ep_nw X q n v) (if i = 0 then Y else if i = 1 then upd Y 0 (if Y 0 = nI (q / 4) then -1 else Y 0) else ep_clr Y (nI (q / 4)))) m0)) 2 (ep_mk (ep_c2 c (ep_nw X q n v) (ep_clr Y (nI (q / 4)))) m0) (by decide) rfl ?_ ?_ rfl
  · intro i hi rec
    have : i = 0 ∨ i = 1 := by omega
    rcases this with rfl | rfl
    · have z1 : nI 0 < 2 := by decide
      have z2 : eh_in (nI 0) 2 = true := by decide
      have z3 : eh_ix (nI 0) = 0 := rfl
      simp (disch := first | assumption | decide) only [z1, z2, z3, if_true, ep_V, ep_J, ep_sb, ep_rC1, ep_rC2, ep_rM, ep_rJ, ep_rQ, ep_wC1, ep_wC2, ep_wM, ep_iC1, ep_iC2, ep_iM, ep_wJ, ep_wQ, ep_cI1, ep_cIn, ep_cI2, ep_cL1, ep_cLn, ep_cL2, ep_cG1, ep_cGq, ep_cQ1, ep_cQ2, ep_cQq, ep_cQn, ep_mI1, ep_mIn, ep_mI2, ep_mL1, ep_mLn, ep_mL2, ep_mJ1, ep_mJ2, ep_c2_11, ep_cI, ep_c2_L, nI_1]
      by_cases h : Y 0 = nI (q / 4)
      · simp [h]
      · simp [h, ep_upd_id]
    · have z1 : nI 1 < 2 := by decide
      have z2 : eh_in (nI 1) 2 = true := by decide
      have z3 : eh_ix (nI 1) = 1 := rfl
      simp (disch := first | assumption | decide) only [z1, z2, z3, if_true, ep_V, ep_J, ep_sb, ep_rC1, ep_rC2, ep_rM, ep_rJ, ep_rQ, ep_wC1, ep_wC2, ep_wM, ep_iC1, ep_iC2, ep_iM, ep_wJ, ep_wQ, ep_cI1, ep_cIn, ep_cI2, ep_cL1, ep_cLn, ep_cL2, ep_cG1, ep_cGq, ep_cQ1, ep_cQ2, ep_cQq, ep_cQn, ep_mI1, ep_mIn, ep_mI2, ep_mL1, ep_mLn, ep_mL2, ep_mJ1, ep_mJ2, ep_c2_11, ep_cI, ep_c2_L, nI_1]
      rw [← ep_clr2]
      by_cases h : Y 1 = nI (q / 4)
      · simp [upd, h]
      · simp [upd, h]
        congr 4
        funext j
        unfold upd
        by_cases g : j = 1
        · simp [g]
        · simp [g]
  · intro rec
    have z1 : ¬ nI 2 < 2 := by decide
    simp only [z1, if_false]
    rfl
