/-! stores -/
theorem ep_mbytes (m : ep_M) (X Y : Nat → Int32) {q n : Nat} (hq : q + n ≤ 131072) (v : Int32) (c0 : ep_C) : eh_loop (fun (r14 : (Int32 × eh_F) → Option (eh_F)) (t1 : Int32 × eh_F) => if t1.1 < nI n then (Option.bind (eF_12_setByte t1.2 (nI q + t1.1) (eh_shr v (8 * t1.1))) (fun q16 => eh_V ((t1.1 + 1) : Int32) (fun x17 => r14 (x17, q16)))) else (some t1.2)) eh_FU (0, ep_mk c0 (ep_m2 m X Y)) = some (ep_mk c0 (ep_m2 m (ep_sb_ X q n v) (ep_clrs Y q n))) := by
  refine ep_loop (fun i => (nI i, ep_mk c0 (ep_m2 m (ep_sb_ X q i v) (ep_clrs Y q i)))) n _ (ep_FU _ (by omega)) ?_ ?_ ?_
  · intro i hi rec
    have z1 : nI i < nI n := nI_lt hi (by omega)
    have z2 : (8 : Int32) * nI i = nI (8 * i) := ep_mul (b := 8) rfl rfl
    simp only [z1, if_true, nI_add, z2]
    rw [ep_msetByte _ _ _ (show q + i < 131072 by omega), ep_sb, ep_V, nI_1]
    unfold ep_sb_
    rw [← ep_in_s X q i]
    rfl
  · intro rec
    have z1 : ¬ nI n < nI n := nI_nlt (Nat.le_refl _) (by omega)
    simp only [z1, if_false]
  · show _ = (nI 0, ep_mk c0 (ep_m2 m (ep_in_ X q 0 _) Y))
    rw [ep_in_0]; rfl
theorem ep_W_store {N : Nat} {c : ep_C} {m : ep_M} (hR : ep_R N c m) {q n : Nat} (hn : ep_n124 n) (hq : q % n = 0) (hq2 : q < 131072) (v : Int32) : ep_W N c m (ep_c2 c (ep_nw (c.1 9) q n v) (ep_clr (c.1 11) (nI (q / 4)))) (ep_m2 m (ep_sb_ (m.1 128) q n v) (ep_clrs (m.1 147) q n)) := by
  rw [ep_c2_cw, ep_m2_mw]
  refine ep_W_R hR (ep_sb_word hR.1 hn hq v) ?_ hR.2.2.2.2.2.2.2.2.2.2.2.2.2.2.2.2.2.2.2.2.2.2.2.1 (Nat.le_refl _)
  refine ep_Gres_c hR.2.2.2.2.1 (ep_Clr_1 _ _) (ep_Clr_s _ q n) ?_
  intro j hj
  rw [ep_touch (by rcases hn with rfl | rfl | rfl <;> omega) hj, nI_eq (by omega) (by omega)]
  constructor
  · intro h; exact ⟨0, by rcases hn with rfl | rfl | rfl <;> decide, by rw [h, Nat.add_zero]⟩
  · intro ⟨k, hk, h⟩
    rcases hn with rfl | rfl | rfl <;> omega
theorem ep_store {N : Nat} {c : ep_C} {m : ep_M} (hR : ep_R N c m) {q n h : Nat} (hh : h < 2) (hr : m.1 144 h = -1) (hn : ep_n124 n) (hq : q % n = 0) (hq2 : q < 131072) (v : Int32) : ∃ c' m', (∀ m0, eF_6_store (ep_mk c m0) (nI q) v (nI n) = some (ep_mk c' m0)) ∧ (∀ c0, eF_12_storeAt (ep_mk c0 m) (nI h) (nI q) (nI n) v = some (ep_mk c0 m')) ∧ ep_W N c m c' m' := by
  refine ⟨_, _, fun m0 => ?_, fun c0 => ?_, ep_W_store hR hn hq hq2 v⟩
  · have := ep_cstore c (c.1 9) (c.1 11) hq2 hn v m0
    rw [ep_c2_id] at this
    exact this
  · unfold eF_12_storeAt
    have := ep_mbytes m (m.1 128) (m.1 147) (q := q) (n := n) (by rcases hn with rfl | rfl | rfl <;> omega) v c0
    rw [ep_m2_id] at this
    refine ep_bnd this ?_
    have q1 : eh_in (nI h) 2 = true := ep_in hh (by decide)
    have q2 : eh_ix (nI h) = h := ep_ix (by omega)
    simp (disch := first | assumption | decide) only [↓ep_V, ↓ep_J, ↓ep_sb, ↓reduceIte, ep_rC1, ep_rC2, ep_rM, ep_rJ, ep_rQ, ep_wC1, ep_wC2, ep_wM, ep_iC1, ep_iC2, ep_iM, ep_wJ, ep_wQ, ep_cI1, ep_cIn, ep_cI2, ep_cL1, ep_cLn, ep_cL2, ep_cG1, ep_cGq, ep_cQ1, ep_cQ2, ep_cQq, ep_cQn, ep_mI1, ep_mIn, ep_mI2, ep_mL1, ep_mLn, ep_mL2, ep_mJ1, ep_mJ2, q1, q2, ep_m2_n, hr]
theorem ep_W_On {N : Nat} {c c' : ep_C} {m m' : ep_M} (hW : ep_W N c m c' m') {h t e : Nat} (ho : ep_On m h t e) : ep_On m' h t e := by
  obtain ⟨-, ⟨X, Y, f, v, rfl⟩, -⟩ := hW
  exact ho
theorem ep_storeFor {N : Nat} {c : ep_C} {m : ep_M} (hR : ep_R N c m) (hN : N < 2 ^ 28) {q n h t e : Nat} (ho : ep_On m h t e) (hn : ep_n124 n) (hq : q % n = 0) (hq2 : q < 131072) (v : Int32) : ∃ c' m', (∀ m0, eF_5_storeFor (ep_mk c m0) (eh_fp (nI t)) (nI q) v (nI n) = some (ep_mk c' m0)) ∧ (∀ c0, eF_12_storeAt (ep_mk c0 m) (nI h) (nI q) (nI n) v = some (ep_mk c0 m')) ∧ ep_W (N + 1) c m c' m' := by
  have hW := ep_W_store hR hn hq hq2 v
  have ho' := ep_W_On hW ho
  have hR' := hW.2.2
  have hcs : ∀ m0, eF_6_store (ep_mk c m0) (nI q) v (nI n) = some (ep_mk (ep_c2 c (ep_nw (c.1 9) q n v) (ep_clr (c.1 11) (nI (q / 4)))) m0) := fun m0 => by
    have := ep_cstore c (c.1 9) (c.1 11) hq2 hn v m0
    rw [ep_c2_id] at this
    exact this
  have hmb : ∀ c0, eh_loop (fun (r14 : (Int32 × eh_F) → Option (eh_F)) (t1 : Int32 × eh_F) => if t1.1 < nI n then (Option.bind (eF_12_setByte t1.2 (nI q + t1.1) (eh_shr v (8 * t1.1))) (fun q16 => eh_V ((t1.1 + 1) : Int32) (fun x17 => r14 (x17, q16)))) else (some t1.2)) eh_FU (0, ep_mk c0 m) = some (ep_mk c0 (ep_m2 m (ep_sb_ (m.1 128) q n v) (ep_clrs (m.1 147) q n))) := fun c0 => by
    have := ep_mbytes m (m.1 128) (m.1 147) (q := q) (n := n) (by rcases hn with rfl | rfl | rfl <;> omega) v c0
    rw [ep_m2_id] at this
    exact this
  generalize ep_c2 c (ep_nw (c.1 9) q n v) (ep_clr (c.1 11) (nI (q / 4))) = c1 at hW hR' hcs
  generalize ep_m2 m (ep_sb_ (m.1 128) q n v) (ep_clrs (m.1 147) q n) = m1 at hW hR' hmb ho'
  obtain ⟨sv, s1, s2⟩ := ep_msharedAt hR' hq2
  have q1 : eh_in (nI h) 2 = true := ep_in ho.1 (by decide)
  have q2 : eh_ix (nI h) = h := ep_ix (by have := ho.1; omega)
  have q3 : ¬ nI t = -1 := ep_nI_ne_m1 (by have := ho.2.1; omega)
  by_cases ht : ep_tb (m1.1 164) (c1.1 10) q = false
  · refine ⟨c1, m1, fun m0 => ?_, fun c0 => ?_, ?_⟩
    · unfold eF_5_storeFor
      refine ep_bnd (hcs m0) ?_
      refine ep_bnd (ep_ctells hR' hq2 m0) ?_
      rw [ep_J, ht, if_pos (show ep_bi false = 0 from rfl)]
    · unfold eF_12_storeAt
      refine ep_bnd (hmb c0) ?_
      rw [if_pos q1, ep_J, q2, ep_rM _ _ _ (by decide), ho'.2.2.2.1, if_neg q3]
      refine ep_bnd (s2 c0) ?_
      rw [if_pos (s1.mpr ht)]
    · exact ⟨hW.1, hW.2.1, ep_R_mono hR' (by omega)⟩
  · have ht' : ep_tb (m1.1 164) (c1.1 10) q = true := by simpa using ht
    obtain ⟨c2, m2, n1, n2, n3⟩ := ep_note hR' hN ho' 4 (nI q) (if n = 4 then v else v &&& (if n = 2 then 65535 else 255)) (nI n)
    refine ⟨c2, m2, fun m0 => ?_, fun c0 => ?_, ep_W_tr hW n3⟩
    · unfold eF_5_storeFor
      refine ep_bnd (hcs m0) ?_
      refine ep_bnd (ep_ctells hR' hq2 m0) ?_
      rw [ep_J, ht', if_neg (by decide), ep_J]
      have n1' := n1 m0
      rcases hn with rfl | rfl | rfl
      · rw [if_neg (show ¬ nI 1 = 4 by decide), ep_J, if_neg (show ¬ nI 1 = 2 by decide)]
        exact ep_bnd n1' rfl
      · rw [if_neg (show ¬ nI 2 = 4 by decide), ep_J, if_pos (show nI 2 = 2 by decide)]
        exact ep_bnd n1' rfl
      · rw [if_pos (show nI 4 = 4 by decide)]
        exact ep_bnd n1' rfl
    · unfold eF_12_storeAt
      refine ep_bnd (hmb c0) ?_
      rw [if_pos q1, ep_J, q2, ep_rM _ _ _ (by decide), ho'.2.2.2.1, if_neg q3]
      refine ep_bnd (s2 c0) ?_
      rw [if_neg (fun z => ht (s1.mp z)), ep_J]
      have n2' := n2 c0
      rcases hn with rfl | rfl | rfl
      · rw [if_pos (show nI 1 = 1 by decide)]
        exact ep_bnd n2' rfl
      · rw [if_neg (show ¬ nI 2 = 1 by decide), if_pos (show nI 2 = 2 by decide)]
        exact ep_bnd n2' rfl
      · rw [if_neg (show ¬ nI 4 = 1 by decide), if_neg (show ¬ nI 4 = 2 by decide)]
        exact ep_bnd n2' rfl
/-! reading words and bytes -/
theorem ep_cwordAt (c : ep_C) {q : Nat} (hq : q < 131072) (m0 : ep_M) : eF_6_wordAt (ep_mk c m0) (nI q) = some (c.1 9 (q / 4)) := by
  have q1 : ¬ nI q < 0 := nI_pos (by omega)
  have q2 : nI q < 131072 := ep_lt (b := 131072) hq (by decide) rfl
  have q4 : eh_shr (nI q) 2 = nI (q / 4) := by rw [show (2 : Int32) = nI 2 from rfl, ep_shrn (by omega) (by decide)]
  have q5 : eh_in (nI (q / 4)) 32768 = true := ep_in (by omega) (by decide)
  have q6 : eh_ix (nI (q / 4)) = q / 4 := ep_ix (by omega)
  unfold eF_6_wordAt
  simp (disch := first | assumption | decide) only [↓ep_V, ↓ep_J, ↓ep_sb, ↓reduceIte, ep_rC1, ep_rC2, ep_rM, ep_rJ, ep_rQ, ep_wC1, ep_wC2, ep_wM, ep_iC1, ep_iC2, ep_iM, ep_wJ, ep_wQ, ep_cI1, ep_cIn, ep_cI2, ep_cL1, ep_cLn, ep_cL2, ep_cG1, ep_cGq, ep_cQ1, ep_cQ2, ep_cQq, ep_cQn, ep_mI1, ep_mIn, ep_mI2, ep_mL1, ep_mLn, ep_mL2, ep_mJ1, ep_mJ2, q1, q2, q4, q5, q6]
theorem ep_cwordAt' {x : Int32} (hx : x < 0 ∨ ¬ x < 131072) (s : eh_F) : eF_6_wordAt s x = some 0 := by
  unfold eF_6_wordAt
  rcases hx with h | h
  · simp only [↓ep_J, h, if_true]
  · by_cases h0 : x < 0
    · simp only [↓ep_J, h0, if_true]
    · simp only [↓ep_J, h, h0, if_false]
theorem ep_mlittle (m : ep_M) (p np : Nat) {q : Nat} (hp : 127 ≤ p) (hq : q + 3 < np) (hnp : np < 2 ^ 30) (c0 : ep_C) : eF_12_littleWord (ep_mk c0 m) p np (nI q) = some (ep_lw (m.1 p) q) := by
  have i0 : eh_in (nI q) np = true := ep_in (by omega) (by omega)
  have i1 : eh_in (nI (q + 1)) np = true := ep_in (by omega) (by omega)
  have i2 : eh_in (nI (q + 2)) np = true := ep_in (by omega) (by omega)
  have i3 : eh_in (nI (q + 3)) np = true := ep_in (by omega) (by omega)
  have x0 : eh_ix (nI q) = q := ep_ix (by omega)
  have x1 : eh_ix (nI (q + 1)) = q + 1 := ep_ix (by omega)
  have x2 : eh_ix (nI (q + 2)) = q + 2 := ep_ix (by omega)
  have x3 : eh_ix (nI (q + 3)) = q + 3 := ep_ix (by omega)
  unfold eF_12_littleWord
  rw [ep_rM _ _ _ hp]
  simp (disch := first | assumption | decide) only [nI_1, ep_p2, ep_p3, ep_p4, ep_p5, ep_p6, ep_p7, ep_p8, ep_p12, ep_p16, ep_p20, ep_p32, ep_p64, ep_p96, i0, i1, i2, i3, x0, x1, x2, x3, if_true]
  rfl
theorem ep_mbig (m : ep_M) (p np : Nat) {q : Nat} (hp : 127 ≤ p) (hq : q + 3 < np) (hnp : np < 2 ^ 30) (c0 : ep_C) : eF_12_bigWord (ep_mk c0 m) p np (nI q) = some (ep_bw (m.1 p) q) := by
  have i0 : eh_in (nI q) np = true := ep_in (by omega) (by omega)
  have i1 : eh_in (nI (q + 1)) np = true := ep_in (by omega) (by omega)
  have i2 : eh_in (nI (q + 2)) np = true := ep_in (by omega) (by omega)
  have i3 : eh_in (nI (q + 3)) np = true := ep_in (by omega) (by omega)
  have x0 : eh_ix (nI q) = q := ep_ix (by omega)
  have x1 : eh_ix (nI (q + 1)) = q + 1 := ep_ix (by omega)
  have x2 : eh_ix (nI (q + 2)) = q + 2 := ep_ix (by omega)
  have x3 : eh_ix (nI (q + 3)) = q + 3 := ep_ix (by omega)
  unfold eF_12_bigWord
  rw [ep_rM _ _ _ hp]
  simp (disch := first | assumption | decide) only [nI_1, ep_p2, ep_p3, ep_p4, ep_p5, ep_p6, ep_p7, ep_p8, ep_p12, ep_p16, ep_p20, ep_p32, ep_p64, ep_p96, i0, i1, i2, i3, x0, x1, x2, x3, if_true]
  rfl
theorem ep_cwrd {N : Nat} {c : ep_C} {m : ep_M} (hR : ep_R N c m) {q : Nat} (hq : q < 131072) (ha : q % 4 = 0) (m0 : ep_M) : eF_6_wordAt (ep_mk c m0) (nI q) = some (ep_lw (m.1 128) q) := by
  rw [ep_cwordAt c hq, show c.1 9 = _ from hR.1]
  show some (ep_lw (m.1 128) (4 * (q / 4))) = _
  rw [show 4 * (q / 4) = q by omega]
theorem ep_cbyteAt {N : Nat} {c : ep_C} {m : ep_M} (hR : ep_R N c m) {q : Nat} (hq : q < 131072) (m0 : ep_M) : eF_6_byteAt (ep_mk c m0) (nI q) = some (m.1 128 q &&& 255) := by
  unfold eF_6_byteAt
  rw [ep_cwordAt c hq, ep_sb, show c.1 9 = _ from hR.1]
  show some ((eh_ushr (ep_lw (m.1 128) (4 * (q / 4))) (8 * (nI q &&& 3))) &&& 255) = _
  rw [ep_and3 (by omega), show (8 : Int32) * nI (q % 4) = nI (8 * (q % 4)) from ep_mul (b := 8) rfl rfl]
  congr 1
  rw [ep_b8]
  intro i hi
  rw [ep_bit_ushr _ (by omega), ep_bit_lw _ _ _ (by omega)]
  rw [show 4 * (q / 4) + (i + 8 * (q % 4)) / 8 = q by omega, show (i + 8 * (q % 4)) % 8 = i by omega]
