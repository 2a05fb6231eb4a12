/-! registers of whoever runs -/
def ep_X (c : ep_C) (m : ep_M) (h xi xj w : Nat) : Prop := w < 14 ∧ eh_okX (c.2.2 7) = true ∧ (∀ m0, (ep_mk c m0).1 (c.2.2 7) = c.2.1 xi xj) ∧ (∀ m0 j v, eh_tI (ep_mk c m0) (c.2.2 7) j v = ep_mk (ep_cH c xi xj j v) m0) ∧ (∀ j, j < 32 → c.2.1 xi xj j = m.1 129 (32 * w + j)) ∧ (∀ c0, eF_12_who (ep_mk c0 m) (nI h) = some (nI w)) ∧ ((xi = 1 ∧ xj = h ∧ w = h ∧ h < 2) ∨ (xi = 3 ∧ w = 2 + xj ∧ xj < 12 ∧ m.1 148 xj ≠ 0))
theorem ep_Xof {N : Nat} {c : ep_C} {m : ep_M} (hR : ep_R N c m) {h : Nat} (hP : ep_Pr c m h) : ∃ xi xj w, ep_X c m h xi xj w := by
  obtain ⟨hh, hq4, hcase⟩ := hP
  have q1 : eh_in (nI h) 2 = true := ep_in hh (by decide)
  have q2 : eh_ix (nI h) = h := ep_ix (by omega)
  rcases hcase with ⟨hr, h6, h7⟩ | ⟨t, e, ho, h6, h5, h7⟩
  · refine ⟨1, h, h, by omega, by rw [h7]; exact ep_okXh hh, fun m0 => by rw [h7, ep_rH1 _ _ hh], fun m0 j v => by rw [h7, ep_iH1 _ _ _ _ hh], hR.2.2.2.2.2.1 h hh, fun c0 => ?_, Or.inl ⟨rfl, rfl, rfl, hh⟩⟩
    unfold eF_12_who
    rw [if_pos q1, ep_J, q2, ep_rM _ _ _ (by decide), hr, if_pos rfl]
  · have ht := ho.2.1
    have hs : m.1 148 t ≠ 0 := by rw [ho.2.2.2.2.2.2]; decide
    refine ⟨3, t, 2 + t, by omega, by rw [h7]; exact ep_okXf ht, fun m0 => by rw [h7, ep_rF1 _ _ ht], fun m0 j v => by rw [h7, ep_iF1 _ _ _ _ ht], hR.2.2.2.2.2.2.2.2.2.2.2.2.1 t ht hs, fun c0 => ?_, Or.inr ⟨rfl, rfl, ht, hs⟩⟩
    unfold eF_12_who
    rw [if_pos q1, ep_J, q2, ep_rM _ _ _ (by decide), ho.2.2.2.1, if_neg (ep_nI_ne_m1 (by omega)), if_pos q1, show (2 : Int32) = nI 2 from rfl, nI_add]
/-- registers alone changed, and the sides still fit -/
def ep_Y (N : Nat) (c : ep_C) (m : ep_M) (c' : ep_C) (m' : ep_M) : Prop := (∃ xi xj f, (xi = 1 ∨ xi = 3) ∧ c' = ep_cG c xi xj f) ∧ (∃ f, m' = ep_mL m 129 f) ∧ ep_R N c' m'
theorem ep_Y_rf {N : Nat} {c : ep_C} {m : ep_M} (hR : ep_R N c m) : ep_Y N c m c m := ⟨⟨1, 0, _, Or.inl rfl, (ep_cGid c 1 0).symm⟩, ⟨_, (ep_mLid m 129).symm⟩, hR⟩
theorem ep_Y_set {N : Nat} {c : ep_C} {m : ep_M} (hR : ep_R N c m) {h xi xj w : Nat} (hX : ep_X c m h xi xj w) {j : Nat} (hj : 0 < j) (hj2 : j < 32) (v : Int32) : ep_Y N c m (ep_cH c xi xj j v) (ep_mI m 129 (32 * w + j) v) := by
  obtain ⟨hw, -, -, -, hrel, -, hcase⟩ := hX
  rcases hcase with ⟨rfl, rfl, rfl, hh⟩ | ⟨rfl, rfl, ht, hs⟩
  · refine ⟨⟨1, _, _, Or.inl rfl, rfl⟩, ⟨_, rfl⟩, ⟨hR.1, hR.2.1, hR.2.2.1, hR.2.2.2.1, hR.2.2.2.2.1, ?_, ?_, hR.2.2.2.2.2.2.2.1, hR.2.2.2.2.2.2.2.2.1, hR.2.2.2.2.2.2.2.2.2.1, hR.2.2.2.2.2.2.2.2.2.2.1, hR.2.2.2.2.2.2.2.2.2.2.2.1, ?_, hR.2.2.2.2.2.2.2.2.2.2.2.2.2.1, hR.2.2.2.2.2.2.2.2.2.2.2.2.2.2.1, hR.2.2.2.2.2.2.2.2.2.2.2.2.2.2.2.1, hR.2.2.2.2.2.2.2.2.2.2.2.2.2.2.2.2.1, hR.2.2.2.2.2.2.2.2.2.2.2.2.2.2.2.2.2.1, hR.2.2.2.2.2.2.2.2.2.2.2.2.2.2.2.2.2.2.1, hR.2.2.2.2.2.2.2.2.2.2.2.2.2.2.2.2.2.2.2.1, hR.2.2.2.2.2.2.2.2.2.2.2.2.2.2.2.2.2.2.2.2.1, hR.2.2.2.2.2.2.2.2.2.2.2.2.2.2.2.2.2.2.2.2.2.1, hR.2.2.2.2.2.2.2.2.2.2.2.2.2.2.2.2.2.2.2.2.2.2.1, hR.2.2.2.2.2.2.2.2.2.2.2.2.2.2.2.2.2.2.2.2.2.2.2.1, hR.2.2.2.2.2.2.2.2.2.2.2.2.2.2.2.2.2.2.2.2.2.2.2.2.1, hR.2.2.2.2.2.2.2.2.2.2.2.2.2.2.2.2.2.2.2.2.2.2.2.2.2.1, hR.2.2.2.2.2.2.2.2.2.2.2.2.2.2.2.2.2.2.2.2.2.2.2.2.2.2.1, hR.2.2.2.2.2.2.2.2.2.2.2.2.2.2.2.2.2.2.2.2.2.2.2.2.2.2.2.1, hR.2.2.2.2.2.2.2.2.2.2.2.2.2.2.2.2.2.2.2.2.2.2.2.2.2.2.2.2.1, hR.2.2.2.2.2.2.2.2.2.2.2.2.2.2.2.2.2.2.2.2.2.2.2.2.2.2.2.2.2.1, hR.2.2.2.2.2.2.2.2.2.2.2.2.2.2.2.2.2.2.2.2.2.2.2.2.2.2.2.2.2.2.1, hR.2.2.2.2.2.2.2.2.2.2.2.2.2.2.2.2.2.2.2.2.2.2.2.2.2.2.2.2.2.2.2.1, hR.2.2.2.2.2.2.2.2.2.2.2.2.2.2.2.2.2.2.2.2.2.2.2.2.2.2.2.2.2.2.2.2.1, hR.2.2.2.2.2.2.2.2.2.2.2.2.2.2.2.2.2.2.2.2.2.2.2.2.2.2.2.2.2.2.2.2.2⟩⟩
    · intro h' hh' j' hj'
      show (if h' = w then upd (c.2.1 1 w) j v else c.2.1 1 h') j' = upd (m.1 129) (32 * w + j) v (32 * h' + j')
      have g := hR.2.2.2.2.2.1 h' hh' j' hj'
      by_cases e1 : h' = w
      · subst e1
        rw [if_pos rfl]
        unfold upd
        by_cases e2 : j' = j
        · rw [if_pos e2, if_pos (by omega)]
        · rw [if_neg e2, if_neg (by omega)]; exact g
      · rw [if_neg e1, ep_upd_ne (by omega)]; exact g
    · intro h' hh'
      show upd (m.1 129) (32 * w + j) v (32 * h') = 0
      rw [ep_upd_ne (by omega)]
      exact hR.2.2.2.2.2.2.1 h' hh'
    · intro t ht hs j' hj'
      show c.2.1 3 t j' = upd (m.1 129) (32 * w + j) v (32 * (2 + t) + j')
      rw [ep_upd_ne (by omega)]
      exact hR.2.2.2.2.2.2.2.2.2.2.2.2.1 t ht hs j' hj'
  · refine ⟨⟨3, _, _, Or.inr rfl, rfl⟩, ⟨_, rfl⟩, ⟨hR.1, hR.2.1, hR.2.2.1, hR.2.2.2.1, hR.2.2.2.2.1, ?_, ?_, hR.2.2.2.2.2.2.2.1, hR.2.2.2.2.2.2.2.2.1, hR.2.2.2.2.2.2.2.2.2.1, hR.2.2.2.2.2.2.2.2.2.2.1, hR.2.2.2.2.2.2.2.2.2.2.2.1, ?_, hR.2.2.2.2.2.2.2.2.2.2.2.2.2.1, hR.2.2.2.2.2.2.2.2.2.2.2.2.2.2.1, hR.2.2.2.2.2.2.2.2.2.2.2.2.2.2.2.1, hR.2.2.2.2.2.2.2.2.2.2.2.2.2.2.2.2.1, hR.2.2.2.2.2.2.2.2.2.2.2.2.2.2.2.2.2.1, hR.2.2.2.2.2.2.2.2.2.2.2.2.2.2.2.2.2.2.1, hR.2.2.2.2.2.2.2.2.2.2.2.2.2.2.2.2.2.2.2.1, hR.2.2.2.2.2.2.2.2.2.2.2.2.2.2.2.2.2.2.2.2.1, hR.2.2.2.2.2.2.2.2.2.2.2.2.2.2.2.2.2.2.2.2.2.1, hR.2.2.2.2.2.2.2.2.2.2.2.2.2.2.2.2.2.2.2.2.2.2.1, hR.2.2.2.2.2.2.2.2.2.2.2.2.2.2.2.2.2.2.2.2.2.2.2.1, hR.2.2.2.2.2.2.2.2.2.2.2.2.2.2.2.2.2.2.2.2.2.2.2.2.1, hR.2.2.2.2.2.2.2.2.2.2.2.2.2.2.2.2.2.2.2.2.2.2.2.2.2.1, hR.2.2.2.2.2.2.2.2.2.2.2.2.2.2.2.2.2.2.2.2.2.2.2.2.2.2.1, hR.2.2.2.2.2.2.2.2.2.2.2.2.2.2.2.2.2.2.2.2.2.2.2.2.2.2.2.1, hR.2.2.2.2.2.2.2.2.2.2.2.2.2.2.2.2.2.2.2.2.2.2.2.2.2.2.2.2.1, hR.2.2.2.2.2.2.2.2.2.2.2.2.2.2.2.2.2.2.2.2.2.2.2.2.2.2.2.2.2.1, hR.2.2.2.2.2.2.2.2.2.2.2.2.2.2.2.2.2.2.2.2.2.2.2.2.2.2.2.2.2.2.1, hR.2.2.2.2.2.2.2.2.2.2.2.2.2.2.2.2.2.2.2.2.2.2.2.2.2.2.2.2.2.2.2.1, hR.2.2.2.2.2.2.2.2.2.2.2.2.2.2.2.2.2.2.2.2.2.2.2.2.2.2.2.2.2.2.2.2.1, hR.2.2.2.2.2.2.2.2.2.2.2.2.2.2.2.2.2.2.2.2.2.2.2.2.2.2.2.2.2.2.2.2.2⟩⟩
    · intro h' hh' j' hj'
      show c.2.1 1 h' j' = upd (m.1 129) (32 * (2 + xj) + j) v (32 * h' + j')
      rw [ep_upd_ne (by omega)]
      exact hR.2.2.2.2.2.1 h' hh' j' hj'
    · intro h' hh'
      show upd (m.1 129) (32 * (2 + xj) + j) v (32 * h') = 0
      rw [ep_upd_ne (by omega)]
      exact hR.2.2.2.2.2.2.1 h' hh'
    · intro t ht' hs' j' hj'
      show (if t = xj then upd (c.2.1 3 xj) j v else c.2.1 3 t) j' = upd (m.1 129) (32 * (2 + xj) + j) v (32 * (2 + t) + j')
      have g := hR.2.2.2.2.2.2.2.2.2.2.2.2.1 t ht' hs' j' hj'
      by_cases e1 : t = xj
      · subst e1
        rw [if_pos rfl]
        unfold upd
        by_cases e2 : j' = j
        · rw [if_pos e2, if_pos (by omega)]
        · rw [if_neg e2, if_neg (by omega)]; exact g
      · rw [if_neg e1, ep_upd_ne (by omega)]; exact g
/-! fields of a word -/
theorem ep_fld (x : Int32) {k n : Nat} (hk : k < 32) (hn : n + k ≤ 32) {ms : Int32} (hm : ms.toBitVec.toNat = 2 ^ n - 1) : eh_ushr x (nI k) &&& ms = nI (ep_u x / 2 ^ k % 2 ^ n) := by
  rw [ep_ushrU x hk, pk_andN (Nat.lt_of_le_of_lt (Nat.div_le_self _ _) x.toBitVec.isLt) n hm]
  rfl
theorem ep_flds (x : Int32) {k n : Nat} (hk : k < 32) (hn : n + k ≤ 32) (hn1 : n < 32) {ms : Int32} (hm : ms.toBitVec.toNat = 2 ^ n - 1) : eh_shr x (nI k) &&& ms = nI (ep_u x / 2 ^ k % 2 ^ n) := by
  rw [← ep_fld x hk hn hm]
  have hb : ∀ i, i < 32 → ep_bit ms i = decide (i < n) := by
    intro i hi
    unfold ep_bit
    rw [BitVec.getLsbD, hm, Nat.testBit_two_pow_sub_one]
  apply ep_ext
  intro i hi
  rw [ep_bit_and, ep_bit_and, hb i hi, ep_bit_shr _ hk _ hi, ep_bit_ushr _ hk]
  by_cases h : i < n
  · rw [if_pos (by omega)]
  · simp [h]
def ep_fd (w : Int32) : Nat := ep_u w / 128 % 32
def ep_ff (w : Int32) : Nat := ep_u w / 4096 % 8
def ep_fa (w : Int32) : Nat := ep_u w / 32768 % 32
def ep_fb (w : Int32) : Nat := ep_u w / 1048576 % 32
def ep_fg (w : Int32) : Nat := ep_u w / 33554432
theorem ep_fd_c (w : Int32) : eh_ushr w 7 &&& 31 = nI (ep_fd w) := ep_fld w (k := 7) (n := 5) (by decide) (by decide) rfl
theorem ep_fd_m (w : Int32) : eh_shr w 7 &&& 31 = nI (ep_fd w) := ep_flds w (k := 7) (n := 5) (by decide) (by decide) (by decide) rfl
theorem ep_ff_c (w : Int32) : eh_ushr w 12 &&& 7 = nI (ep_ff w) := ep_fld w (k := 12) (n := 3) (by decide) (by decide) rfl
theorem ep_ff_m (w : Int32) : eh_shr w 12 &&& 7 = nI (ep_ff w) := ep_flds w (k := 12) (n := 3) (by decide) (by decide) (by decide) rfl
theorem ep_fa_c (w : Int32) : eh_ushr w 15 &&& 31 = nI (ep_fa w) := ep_fld w (k := 15) (n := 5) (by decide) (by decide) rfl
theorem ep_fa_m (w : Int32) : eh_shr w 15 &&& 31 = nI (ep_fa w) := ep_flds w (k := 15) (n := 5) (by decide) (by decide) (by decide) rfl
theorem ep_fb_c (w : Int32) : eh_ushr w 20 &&& 31 = nI (ep_fb w) := ep_fld w (k := 20) (n := 5) (by decide) (by decide) rfl
theorem ep_fb_m (w : Int32) : eh_shr w 20 &&& 31 = nI (ep_fb w) := ep_flds w (k := 20) (n := 5) (by decide) (by decide) (by decide) rfl
theorem ep_fg_c (w : Int32) : eh_ushr w 25 = nI (ep_fg w) := ep_ushrU w (k := 25) (by decide)
theorem ep_fd_l (w : Int32) : ep_fd w < 32 := Nat.mod_lt _ (by decide)
theorem ep_ff_l (w : Int32) : ep_ff w < 8 := Nat.mod_lt _ (by decide)
theorem ep_fa_l (w : Int32) : ep_fa w < 32 := Nat.mod_lt _ (by decide)
theorem ep_fb_l (w : Int32) : ep_fb w < 32 := Nat.mod_lt _ (by decide)
theorem ep_fg_l (w : Int32) : ep_fg w < 128 := by have := ep_u_lt w; unfold ep_fg; omega
/-! reading and writing registers -/
theorem ep_left {c : ep_C} {m : ep_M} {h xi xj w : Nat} (hX : ep_X c m h xi xj w) (x : Int32) (m0 : ep_M) : eF_7_leftOf (ep_mk c m0) x = some (m.1 129 (32 * w + ep_fa x)) := by
  obtain ⟨hw, h1, h2, -, h4, -, -⟩ := hX
  unfold eF_7_leftOf
  rw [ep_rQ, if_pos h1, ep_fa_c, if_pos (ep_in (ep_fa_l x) (by decide)), show eh_ix (nI (ep_fa x)) = ep_fa x from ep_ix (by have := ep_fa_l x; omega), h2, h4 _ (ep_fa_l x)]
theorem ep_right {c : ep_C} {m : ep_M} {h xi xj w : Nat} (hX : ep_X c m h xi xj w) (x : Int32) (m0 : ep_M) : eF_7_rightOf (ep_mk c m0) x = some (m.1 129 (32 * w + ep_fb x)) := by
  obtain ⟨hw, h1, h2, -, h4, -, -⟩ := hX
  unfold eF_7_rightOf
  rw [ep_rQ, if_pos h1, ep_fb_c, if_pos (ep_in (ep_fb_l x) (by decide)), show eh_ix (nI (ep_fb x)) = ep_fb x from ep_ix (by have := ep_fb_l x; omega), h2, h4 _ (ep_fb_l x)]
theorem ep_get {c : ep_C} {m : ep_M} {h xi xj w : Nat} (hX : ep_X c m h xi xj w) {n : Nat} (hn : n < 32) (c0 : ep_C) : eF_12_get (ep_mk c0 m) (nI h) (nI n) = some (m.1 129 (32 * w + n)) := by
  obtain ⟨hw, -, -, -, -, h5, -⟩ := hX
  unfold eF_12_get
  rw [h5, ep_sb, show (32 : Int32) * nI w = nI (32 * w) from ep_mul (b := 32) rfl rfl, nI_add, if_pos (ep_in (by omega) (by decide)), show eh_ix (nI (32 * w + n)) = 32 * w + n from ep_ix (by omega), ep_rM _ _ _ (by decide)]
theorem ep_put_ {N : Nat} {c : ep_C} {m : ep_M} (hR : ep_R N c m) {h : Nat} (hP : ep_Pr c m h) (x v : Int32) : ∃ c' m', (∀ m0, eF_7_put (ep_mk c m0) x v = some (ep_mk c' m0)) ∧ (∀ c0, eF_12_set (ep_mk c0 m) (nI h) (nI (ep_fd x)) v = some (ep_mk c0 m')) ∧ ep_Y N c m c' m' := by
  obtain ⟨xi, xj, w, hX⟩ := ep_Xof hR hP
  have hd := ep_fd_l x
  have hX0 := hX
  obtain ⟨hw, h1, h2, h3, h4, h5, -⟩ := hX
  by_cases hz : ep_fd x = 0
  · refine ⟨c, m, fun m0 => ?_, fun c0 => ?_, ep_Y_rf hR⟩
    · unfold eF_7_put
      rw [ep_V, ep_fd_c, ep_J, hz, if_pos (show nI 0 = 0 from rfl)]
    · unfold eF_12_set
      rw [ep_J, hz, if_neg (show ¬ (0 : Int32) < nI 0 by decide)]
  · refine ⟨_, _, fun m0 => ?_, fun c0 => ?_, ep_Y_set hR hX0 (show 0 < ep_fd x by omega) hd v⟩
    · unfold eF_7_put
      rw [ep_V, ep_fd_c, ep_J, if_neg (nI_ne0 (by omega) (by omega)), ep_rQ, if_pos h1, if_pos (ep_in hd (by decide)), show eh_ix (nI (ep_fd x)) = ep_fd x from ep_ix (by omega), ep_V, h3]
    · unfold eF_12_set
      rw [ep_J, if_pos (show (0 : Int32) < nI (ep_fd x) from (nI_ltI (a := 0) (by decide) (by omega)).mpr (by omega)), h5, ep_sb, show (32 : Int32) * nI w = nI (32 * w) from ep_mul (b := 32) rfl rfl, nI_add, if_pos (ep_in (by omega) (by decide)), show eh_ix (nI (32 * w + ep_fd x)) = 32 * w + ep_fd x from ep_ix (by omega), ep_V, ep_iM _ _ _ _ _ (by decide)]
/-! a step's own words -/
def ep_Q (c : ep_C) (m : ep_M) (h : Nat) (pc : Int32) : Prop := ep_Pr c m h ∧ c.1 124 8 = pc ∧ ep_al pc ∧ c.1 124 9 = pc + 4 ∧ m.1 127 85 = pc + 4 ∧ c.1 124 10 = -1 ∧ m.1 127 83 = -1 ∧ c.1 124 12 = 0
def ep_D (N : Nat) (c : ep_C) (m : ep_M) (h : Nat) (r : Int32) : Prop := ep_R N c m ∧ ep_Pr c m h ∧ c.1 124 12 = 0 ∧ ((c.1 124 10 = -1 ∧ m.1 127 83 = -1 ∧ c.1 124 9 = m.1 127 85 ∧ ep_al (m.1 127 85)) ∨ (c.1 124 10 ≠ -1 ∧ m.1 127 83 = c.1 124 10 ∧ c.1 124 11 = m.1 127 84)) ∧ m.1 144 h = r
theorem ep_D_r {N : Nat} {c : ep_C} {m : ep_M} {h : Nat} {r r' : Int32} (e : r = r') (hD : ep_D N c m h r) : ep_D N c m h r' := e ▸ hD
theorem ep_W_144 {N : Nat} {c c' : ep_C} {m m' : ep_M} (hW : ep_W N c m c' m') : m'.1 144 = m.1 144 := by
  obtain ⟨-, ⟨X, Y, f, v, rfl⟩, -⟩ := hW
  rfl
theorem ep_al4 {pc : Int32} (h : ep_al pc) : ep_al (pc + 4) := by
  unfold ep_al at h ⊢
  have h1 := pk_and pc (m := 3) 2 rfl
  rw [h1, show (0 : Int32) = nI 0 from rfl, nI_eq (by omega) (by decide)] at h
  have e : pc + 4 = nI (ep_u pc + 4) := by
    have := ep_nIu pc
    show pc + nI 4 = nI (pc.toBitVec.toNat + 4)
    rw [← nI_add, this]
  have h2 := pk_and (nI (ep_u pc + 4)) (m := 3) 2 rfl
  rw [e, h2, show (0 : Int32) = nI 0 from rfl]
  congr 1
  show (BitVec.ofNat 32 (ep_u pc + 4)).toNat % 2 ^ 2 = 0
  rw [BitVec.toNat_ofNat]
  unfold ep_u
  omega
theorem ep_Pr_Y {N : Nat} {c c' : ep_C} {m m' : ep_M} (hY : ep_Y N c m c' m') {h : Nat} (hP : ep_Pr c m h) : ep_Pr c' m' h := by
  obtain ⟨⟨xi, xj, f, -, rfl⟩, ⟨g, rfl⟩, -⟩ := hY
  exact hP
theorem ep_D_Y {N : Nat} {c c' : ep_C} {m m' : ep_M} (hY : ep_Y N c m c' m') {h : Nat} {pc : Int32} (hQ : ep_Q c m h pc) : ep_D N c' m' h (m.1 144 h) := by
  have hP := ep_Pr_Y hY hQ.1
  obtain ⟨⟨xi, xj, f, -, rfl⟩, ⟨g, rfl⟩, hR⟩ := hY
  obtain ⟨-, q1, q2, q3, q4, q5, q6, q7⟩ := hQ
  exact ⟨hR, hP, q7, Or.inl ⟨q5, q6, by show c.1 124 9 = m.1 127 85; rw [q3, q4], by show ep_al (m.1 127 85); rw [q4]; exact ep_al4 q2⟩, rfl⟩
theorem ep_D_id {N : Nat} {c : ep_C} {m : ep_M} (hR : ep_R N c m) {h : Nat} {pc : Int32} (hQ : ep_Q c m h pc) : ep_D N c m h (m.1 144 h) := ep_D_Y (ep_Y_rf hR) hQ
theorem ep_D_F {N : Nat} {c : ep_C} {m : ep_M} (hR : ep_R N c m) {h : Nat} {pc : Int32} (hQ : ep_Q c m h pc) {x : Int32} (hx : x ≠ -1) (v : Int32) : ep_D N (ep_cF c x v) (ep_mF m x v) h (m.1 144 h) :=
  ⟨ep_R_cF (ep_R_mF hR x v) x v, hQ.1, hQ.2.2.2.2.2.2.2, Or.inr ⟨hx, rfl, rfl⟩, rfl⟩
theorem ep_Q_mg {c : ep_C} {m : ep_M} {h : Nat} {pc : Int32} (hQ : ep_Q c m h pc) (n : Int32) (f g r : Nat → Int32) : ep_Q c (ep_mg m n f g r) h pc := hQ
theorem ep_D_mono {N N' : Nat} {c : ep_C} {m : ep_M} {h : Nat} {r : Int32} (hD : ep_D N c m h r) (hN : N ≤ N') : ep_D N' c m h r := ⟨ep_R_mono hD.1 hN, hD.2⟩
