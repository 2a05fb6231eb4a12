/-! random numbers, reports -/
theorem ep_R_ask {N : Nat} {c : ep_C} {m : ep_M} (hR : ep_R N c m) {e : Nat} (he : e < 6) (v : Int32) : ep_R N (ep_cH c 4 e 9 v) (ep_mI m 163 e v) := by
  refine ⟨hR.1, hR.2.1, hR.2.2.1, hR.2.2.2.1, hR.2.2.2.2.1, hR.2.2.2.2.2.1, hR.2.2.2.2.2.2.1, hR.2.2.2.2.2.2.2.1, hR.2.2.2.2.2.2.2.2.1, hR.2.2.2.2.2.2.2.2.2.1, hR.2.2.2.2.2.2.2.2.2.2.1, hR.2.2.2.2.2.2.2.2.2.2.2.1, hR.2.2.2.2.2.2.2.2.2.2.2.2.1, hR.2.2.2.2.2.2.2.2.2.2.2.2.2.1, hR.2.2.2.2.2.2.2.2.2.2.2.2.2.2.1, hR.2.2.2.2.2.2.2.2.2.2.2.2.2.2.2.1, ?_, ?_, hR.2.2.2.2.2.2.2.2.2.2.2.2.2.2.2.2.2.2.1, hR.2.2.2.2.2.2.2.2.2.2.2.2.2.2.2.2.2.2.2.1, hR.2.2.2.2.2.2.2.2.2.2.2.2.2.2.2.2.2.2.2.2.1, hR.2.2.2.2.2.2.2.2.2.2.2.2.2.2.2.2.2.2.2.2.2.1, hR.2.2.2.2.2.2.2.2.2.2.2.2.2.2.2.2.2.2.2.2.2.2.1, hR.2.2.2.2.2.2.2.2.2.2.2.2.2.2.2.2.2.2.2.2.2.2.2.1, hR.2.2.2.2.2.2.2.2.2.2.2.2.2.2.2.2.2.2.2.2.2.2.2.2.1, hR.2.2.2.2.2.2.2.2.2.2.2.2.2.2.2.2.2.2.2.2.2.2.2.2.2.1, hR.2.2.2.2.2.2.2.2.2.2.2.2.2.2.2.2.2.2.2.2.2.2.2.2.2.2.1, hR.2.2.2.2.2.2.2.2.2.2.2.2.2.2.2.2.2.2.2.2.2.2.2.2.2.2.2.1, hR.2.2.2.2.2.2.2.2.2.2.2.2.2.2.2.2.2.2.2.2.2.2.2.2.2.2.2.2.1, hR.2.2.2.2.2.2.2.2.2.2.2.2.2.2.2.2.2.2.2.2.2.2.2.2.2.2.2.2.2.1, hR.2.2.2.2.2.2.2.2.2.2.2.2.2.2.2.2.2.2.2.2.2.2.2.2.2.2.2.2.2.2.1, hR.2.2.2.2.2.2.2.2.2.2.2.2.2.2.2.2.2.2.2.2.2.2.2.2.2.2.2.2.2.2.2.1, hR.2.2.2.2.2.2.2.2.2.2.2.2.2.2.2.2.2.2.2.2.2.2.2.2.2.2.2.2.2.2.2.2.1, hR.2.2.2.2.2.2.2.2.2.2.2.2.2.2.2.2.2.2.2.2.2.2.2.2.2.2.2.2.2.2.2.2.2⟩
  · intro e' he'
    obtain ⟨a5, a6, a7, a8, a9, a11, a12, a13, a14⟩ := hR.2.2.2.2.2.2.2.2.2.2.2.2.2.2.2.2.1 e' he'
    by_cases y : e' = e
    · subst y
      rw [ep_cHs]
      exact ⟨a5, a6, a7, a8, (by show v = upd (m.1 163) e' v e'; rw [ep_upd_eq]), a11, a12, a13, a14⟩
    · rw [ep_cHh _ _ _ _ _ _ y]
      exact ⟨a5, a6, a7, a8, (by show _ = upd (m.1 163) e v e'; rw [ep_upd_ne y]; exact a9), a11, a12, a13, a14⟩
  · intro e' he' hE'
    have g := hR.2.2.2.2.2.2.2.2.2.2.2.2.2.2.2.2.2.1 e' he' hE'
    by_cases y : e' = e
    · subst y; rw [ep_cHs]; exact g
    · rw [ep_cHh _ _ _ _ _ _ y]; exact g
theorem ep_key_end {N : Nat} {c c4 : ep_C} {m m4 : ep_M} (hR : ep_R N c m) (hL : ep_L m m4) (hK : ep_K c c4) {l : List Int32} (hS : ep_KS c4 m4 (m4.1 186) l) (out : Nat) (hout : out = 35 ∨ out = 126) : ∃ c5 m5, (∀ m0, eF_9_endKeyed (ep_mk c4 m0) 29 33 8 out 8 = some (ep_mk c5 m0)) ∧ (∀ c0, eF_12_keyed (ep_mk c0 m4) 186 32 = some (ep_mk c0 m5)) ∧ ep_K c c5 ∧ ep_L m m5 ∧ (∀ j, j < 8 → c5.1 out j = ep_bw (m5.1 194) (0 + 4 * j)) ∧ c5.1 36 = c4.1 36 ∧ m5.1 195 = m4.1 195 ∧ (∀ k, k < 32 → ∃ x, m5.1 194 k = eh_nb x) := by
  have ho : out ≠ 29 ∧ out ≠ 30 ∧ out ≠ 31 ∧ out ≠ 32 := by rcases hout with rfl | rfl <;> decide
  obtain ⟨T, c5, m5, a, b, d1, d2, d3, d4⟩ := ep_ksend (c := c4) (m := m4) 33 out 186 (c.1 33) hS (by decide) ho (ep_K33 hK) (fun j hj => by rw [ep_Lk hL 186 (by omega)]; exact hR.2.2.2.2.2.2.2.2.2.2.2.2.2.2.2.2.2.2.2.2.2.2.2.2.2.1 j hj) (by decide)
  have hrow : ∀ (f : Nat → Int32) j, j < 8 → ep_w8 f T 8 j = ep_bw (m5.1 194) (0 + 4 * j) := fun f j hj => by
    rw [ep_w8_lt _ _ _ hj, d3]
    exact (ep_bw_wr _ 0 T j hj).symm
  have hnb : ∀ k, k < 32 → ∃ x, m5.1 194 k = eh_nb x := fun k hk => by
    rw [d3]
    unfold ep_wr
    rw [if_pos (by omega)]
    exact ⟨_, rfl⟩
  rcases hout with rfl | rfl
  · refine ⟨ep_cL c5 35 (ep_w8 (c4.1 35) T 8), m5, fun m0 => ?_, b, ep_K_tr (ep_K_tr hK d1) (ep_K_35 _ _), ep_L_tr hL d2, fun j hj => ?_, ?_, d4.2.2, hnb⟩
    · rw [a m0, ep_wC1 _ _ _ _ (by decide), ep_rC1 _ _ 35 (by decide)]
    · rw [ep_cL1]; exact hrow _ j hj
    · rw [ep_cLn _ _ _ _ (by decide)]; exact d4.1
  · refine ⟨ep_cL c5 126 (ep_w8 (c4.1 126) T 8), m5, fun m0 => ?_, b, ep_K_tr (ep_K_tr hK d1) (ep_K_126 _ _), ep_L_tr hL d2, fun j hj => ?_, ?_, d4.2.2, hnb⟩
    · rw [a m0, ep_wC2 _ _ _ _ (by decide) (by decide), ep_rC2 _ _ 126 (by decide) (by decide)]
    · rw [ep_cL1]; exact hrow _ j hj
    · rw [ep_cLn _ _ _ _ (by decide)]; exact d4.1
theorem ep_giveRandom_ {N : Nat} {c : ep_C} {m : ep_M} (hR : ep_R N c m) (hN : N + 100 < 2 ^ 28) {h t e : Nat} (ho : ep_On m h t e) (p q : Int32) : ep_Tc (N + 32) h t e c m (fun s => eF_3_giveRandom s (eh_fp (nI t)) p q) (fun s => eh_J (fun (s24 : eh_F) => some ((-1 : Int32), s24)) (fun j23 => if q < 1 then (j23 s) else (if 32 < q then (j23 s) else (Option.bind (eF_12_canWrite s (nI h) p q) (fun q27 => if q27.1 = 0 then (j23 q27.2) else (eh_V (eh_tI q27.2 127 79 0) (fun s29 => Option.bind (eF_12_say s29 7) (fun q30 => Option.bind (eF_12_sayBytes q30 159 192 (32 * nI e) 32) (fun q31 => if eh_in (nI e) 6 then Option.bind (eF_12_say q31 (q31.1 158 (eh_ix (nI e)))) (fun q32 => if eh_in (nI e) 6 then Option.bind (eF_12_say q32 (q32.1 163 (eh_ix (nI e)))) (fun q33 => Option.bind (eF_12_keyed q33 186 32) (fun q34 => if eh_in (nI e) 6 then if eh_in (nI e) 6 then eh_V (eh_tI q34 163 (eh_ix (nI e)) ((q34.1 163 (eh_ix (nI e))) + 1)) (fun s35 => Option.bind (eF_12_writeTo s35 (nI h) p 194 32 0 q) (fun q36 => some (0, q36))) else none else none)) else none) else none))))))))) := by
  have ht := ho.2.1
  have he := ho.2.2.1
  have hto := ho.2.2.2.2.1
  have i6 : eh_in (nI e) 6 = true := ep_in he (by decide)
  have x6 : eh_ix (nI e) = e := ep_ix (by omega)
  have e32 : (32 : Int32) * nI e = nI (32 * e) := ep_mul (b := 32) rfl rfl
  by_cases h1 : q < 1
  · refine ep_Tc_mono (ep_Tc_no hR ho (ep_L_rf m) (-1) (fun m0 => ?_) (fun c0 => ?_)) (by omega)
    · show eF_3_giveRandom (ep_mk c m0) _ _ _ = _
      unfold eF_3_giveRandom
      rw [ep_J, if_pos h1]
    · show eh_J _ _ = _
      rw [ep_J, if_pos h1]
  by_cases h2 : 32 < q
  · refine ep_Tc_mono (ep_Tc_no hR ho (ep_L_rf m) (-1) (fun m0 => ?_) (fun c0 => ?_)) (by omega)
    · show eF_3_giveRandom (ep_mk c m0) _ _ _ = _
      unfold eF_3_giveRandom
      rw [ep_J, if_neg h1, if_pos h2]
    · show eh_J _ _ = _
      rw [ep_J, if_neg h1, if_pos h2]
  have q0 : ¬ q < 0 := fun z => h1 (by rw [Int32.lt_iff_toInt_lt] at z ⊢; have e0 : (0 : Int32).toInt = 0 := by decide
                                       have e1 : (1 : Int32).toInt = 1 := by decide
                                       omega)
  obtain ⟨n, hn, rfl⟩ := ep_le_of (n := 32) (by decide) q0 h2
  obtain ⟨M, ⟨hL, -⟩, hM⟩ := ep_mcanW hR ho p (n := n) (by omega)
  cases hb : ep_rb m (c.1 10) e (ep_u p) 2 n with
  | false =>
    refine ep_Tc_mono (ep_Tc_no hR ho hL (-1) (fun m0 => ?_) (fun c0 => ?_)) (by omega)
    · show eF_3_giveRandom (ep_mk c m0) _ _ _ = _
      unfold eF_3_giveRandom
      rw [ep_J, if_neg h1, if_neg h2]
      refine ep_bnd (ep_creaches hR ht he hto p 2 (n := n) (by omega) m0) ?_
      rw [hb, if_pos ep_bf]
    · show eh_J _ _ = _
      rw [ep_J, if_neg h1, if_neg h2]
      refine ep_bnd (hM c0) ?_
      rw [hb, if_pos ep_bf]
  | true =>
    have gE := hR.2.2.2.2.2.2.2.2.2.2.2.2.2.2.2.2.1 e he
    obtain ⟨c1, m1, a1, b1, k1, l1, s1, -⟩ := ep_ksbegin c M 33 (c.1 33) (m.1 186) (by decide) (fun m0 => ep_rC1 _ _ _ (by decide)) hR.2.2.2.2.2.2.2.2.2.2.2.2.2.2.2.2.2.2.2.2.2.2.2.2.2.1
    obtain ⟨c2, m2, a2, b2, k2, l2, s2, -⟩ := ep_ksnum s1 (by decide) 7
    have K2 := ep_K_tr k1 k2
    have L2 := ep_L_tr hL (ep_L_tr l1 l2)
    obtain ⟨c3, m3, a3, b3, k3, l3, s3, -⟩ := ep_kswords s2 8 (by show 0 + 4 + 4 * 8 ≤ 256; decide) (eh_ep (nI e) + 5) 8 159 192 (32 * e) (c.2.1 9 e) ⟨ep_en_ne 5 29 (by decide) he (by decide), ep_en_ne 5 30 (by decide) he (by decide), ep_en_ne 5 31 (by decide) he (by decide)⟩ (ep_KE K2 5 he (by decide)) (by decide) (by decide) (by omega) (by decide) (by
      intro j hj
      rw [ep_Lk L2 159 (by omega)]
      exact hR.2.2.2.2.2.2.2.2.2.2.2.2.2.2.2.2.2.2.1 e he j hj)
    have K3 := ep_K_tr K2 k3
    have L3 := ep_L_tr L2 l3
    obtain ⟨c4, m4, a4, b4, k4, l4, s4, -⟩ := ep_ksnum s3 (by simp) (m.1 158 e)
    have K4 := ep_K_tr K3 k4
    have L4 := ep_L_tr L3 l4
    obtain ⟨c5, m5, a5, b5, k5, l5, s5, -⟩ := ep_ksnum s4 (by simp) (m.1 163 e)
    have K5 := ep_K_tr K4 k5
    have L5 := ep_L_tr L4 l5
    obtain ⟨c6, m6, a6, b6, K6, L6, r6, -, -, -⟩ := ep_key_end hR L5 K5 (by rw [ep_Lk L5 186 (by omega)]; exact s5) 126 (Or.inr rfl)
    have R7 := ep_R_ask (ep_R_L (ep_R_K hR K6) L6) he (m.1 163 e + 1)
    have ho7 : ep_On (ep_mI m6 163 e (m.1 163 e + 1)) h t e := ep_On_L L6 ho
    obtain ⟨c8, m8, w1, w2, w3⟩ := ep_write_ R7 (n := n) (by omega) ho7 p (by omega) (ep_rb_u hb) 126 8 194 32 0 (c6.1 126) (fun X Y g v m0 => by rw [ep_rC2 _ _ _ (by decide) (by decide), ep_cw_o _ _ _ _ _ _ (by decide)]; rfl) ⟨by omega, by decide⟩ (by decide) (by omega) (by decide) (fun k hk => ep_row8 (b := m6.1 194) (off := 0) r6 k (by omega))
    refine ⟨0, c8, m8, fun m0 => ?_, fun c0 => ?_, ep_R_mono w3.2.2 (by omega), ep_Fm_tr (ep_Fm_L L6 ho) (ep_Fm_tr ⟨ho7, fun j hj => rfl, rfl⟩ (ep_Fm_W w3 ho7))⟩
    · show eF_3_giveRandom (ep_mk c m0) _ _ _ = _
      unfold eF_3_giveRandom
      rw [ep_J, if_neg h1, if_neg h2]
      refine ep_bnd (ep_creaches hR ht he hto p 2 (n := n) (by omega) m0) ?_
      rw [hb, if_neg ep_bt, ep_rF0 _ _ ht, (hR.2.2.2.2.2.2.2.2.2.2.1 t ht).2.2.1, hto, if_pos i6, a1 m0, ep_sb, a2 m0, ep_sb]
      refine ep_bnd (a3 m0) ?_
      rw [show (ep_mk c3 m0).1 (eh_ep (nI e)) 8 = m.1 158 e from by rw [ep_rE0 _ _ he, K3.1]; exact gE.2.2.2.1, a4 m0, ep_sb, show (ep_mk c4 m0).1 (eh_ep (nI e)) 9 = m.1 163 e from by rw [ep_rE0 _ _ he, K4.1]; exact gE.2.2.2.2.1, a5 m0, ep_sb, a6 m0, ep_sb, ep_V, show (ep_mk c6 m0).1 (eh_ep (nI e)) 9 = m.1 163 e from by rw [ep_rE0 _ _ he, K6.1]; exact gE.2.2.2.2.1, ep_iE0 _ _ _ _ he]
      exact ep_bnd (w1 m0) rfl
    · show eh_J _ _ = _
      rw [ep_J, if_neg h1, if_neg h2]
      refine ep_bnd (hM c0) ?_
      rw [hb, if_neg ep_bt, ep_V, b1 c0, b2 c0, ep_sb, e32]
      refine ep_bnd (b3 c0) ?_
      rw [if_pos i6, x6, show (ep_mk c0 m3).1 158 e = m.1 158 e from by rw [ep_rM _ _ _ (by decide), ep_Lk L3 158 (by omega)], b4 c0, ep_sb, if_pos i6, show (ep_mk c0 m4).1 163 e = m.1 163 e from by rw [ep_rM _ _ _ (by decide), ep_Lk L4 163 (by omega)], b5 c0, ep_sb, b6 c0, ep_sb, if_pos i6, if_pos i6, ep_V, show (ep_mk c0 m6).1 163 e = m.1 163 e from by rw [ep_rM _ _ _ (by decide), ep_Lk L6 163 (by omega)], ep_iM _ _ _ _ _ (by decide)]
      exact ep_bnd (w2 c0) rfl
theorem ep_seal {N : Nat} {c c1 : ep_C} {m m1 : ep_M} (hR : ep_R N c m) (hK : ep_K c c1) (hL : ep_L m m1) (hw : ∀ j, j < 24 → c1.1 36 j = ep_bw (m1.1 195) (0 + 4 * j)) : ∃ c2 m2, (∀ m0, eF_5_sealReport (ep_mk c1 m0) 35 8 = some (ep_mk c2 m0)) ∧ (∀ c0, eF_12_mark (ep_mk c0 m1) 195 128 = some (ep_mk c0 m2)) ∧ ep_K c c2 ∧ ep_L m m2 ∧ (∀ j, j < 8 → c2.1 35 j = ep_bw (m2.1 194) (0 + 4 * j)) ∧ c2.1 36 = c1.1 36 ∧ m2.1 195 = m1.1 195 ∧ (∀ k, k < 32 → ∃ x, m2.1 194 k = eh_nb x) := by
  obtain ⟨c2, m2, a1, b1, k1, l1, s1, z1⟩ := ep_ksbegin c1 m1 33 (c.1 33) (m.1 186) (by decide) (ep_K33 hK) hR.2.2.2.2.2.2.2.2.2.2.2.2.2.2.2.2.2.2.2.2.2.2.2.2.2.1
  obtain ⟨c3, m3, a2, b2, k2, l2, s2, z2⟩ := ep_ksnum s1 (by decide) 5
  have Z2 := ep_Z3_tr z1 z2
  obtain ⟨c4, m4, a3, b3, k3, l3, s3, z3⟩ := ep_kswords s2 24 (by show 0 + 4 + 4 * 24 ≤ 256; decide) 36 32 195 128 0 (c1.1 36) (by decide) (fun m0 => by rw [ep_rC1 _ _ _ (by decide)]; exact Z2.1) (by decide) (by decide) (by decide) (by decide) (by
    intro j hj
    rw [Z2.2.2]
    exact hw j hj)
  have K4 := ep_K_tr hK (ep_K_tr k1 (ep_K_tr k2 k3))
  have L4 := ep_L_tr hL (ep_L_tr l1 (ep_L_tr l2 l3))
  have Z4 := ep_Z3_tr Z2 z3
  obtain ⟨c5, m5, a4, b4, K5, L5, r5, e5, f5, n5⟩ := ep_key_end hR L4 K4 (by rw [ep_Lk L4 186 (by omega)]; exact s3) 35 (Or.inl rfl)
  refine ⟨c5, m5, fun m0 => ?_, fun c0 => ?_, K5, L5, r5, e5.trans Z4.1, f5.trans Z4.2.2, n5⟩
  · unfold eF_5_sealReport
    rw [a1 m0, ep_sb, a2 m0, ep_sb]
    refine ep_bnd (a3 m0) ?_
    rw [a4 m0, ep_sb]
  · unfold eF_12_mark
    rw [ep_V, b1 c0, b2 c0, ep_sb]
    refine ep_bnd (b3 c0) ?_
    rw [b4 c0, ep_sb]
theorem ep_bw_inj {f g : Nat → Int32} {o o' : Nat} (h : ep_bw f o = ep_bw g o') {i : Nat} (hi : i < 4) : f (o + i) &&& 255 = g (o' + i) &&& 255 := by
  have h1 := ep_bw_byte f o i
  have h2 := ep_bw_byte g o' i
  rw [show i / 4 = 0 by omega, Nat.mul_zero, Nat.add_zero] at h1 h2
  rw [← h1, ← h2, h]
theorem ep_bw_255 {f g : Nat → Int32} {o o' : Nat} (h : ∀ i, i < 4 → f (o + i) &&& 255 = g (o' + i) &&& 255) : ep_bw f o = ep_bw g o' := by
  unfold ep_bw
  have h0 : f o &&& 255 = g o' &&& 255 := h 0 (by decide)
  rw [h0, h 1 (by decide), h 2 (by decide), h 3 (by decide)]
theorem ep_nb_inj {x y : Int32} (h : eh_nb x &&& 255 = eh_nb y &&& 255) : eh_nb x = eh_nb y := by
  rw [ep_nb255, ep_nb255, ep_b8] at h
  refine ep_ext fun i hi => ?_
  rw [ep_bit_nb _ _ hi, ep_bit_nb _ _ hi]
  by_cases z : i < 8
  · rw [if_pos z, if_pos z]; exact h i z
  · rw [if_neg z, if_neg z]; exact h 7 (by decide)
theorem ep_bears_ {c2 : ep_C} {m2 : ep_M} (h35 : ∀ j, j < 8 → c2.1 35 j = ep_bw (m2.1 194) (0 + 4 * j)) (h36 : ∀ j, j < 8 → c2.1 36 (24 + j) = ep_bw (m2.1 195) (96 + 4 * j)) (hn : ∀ k, k < 32 → ∃ x, m2.1 194 k = eh_nb x) (hn2 : ∀ k, k < 32 → ∃ x, m2.1 195 (96 + k) = eh_nb x) (m0 : ep_M) : eF_5_bears (ep_mk c2 m0) 35 8 = some (ep_bi (ep_all (fun k => decide (m2.1 195 (96 + k) = m2.1 194 k)) 32)) := by
  have key : ep_all (fun j => decide (c2.1 35 j = c2.1 36 (24 + j))) 8 = ep_all (fun k => decide (m2.1 195 (96 + k) = m2.1 194 k)) 32 := by
    rw [Bool.eq_iff_iff, ep_all_iff, ep_all_iff]
    constructor
    · intro g k hk
      have g1 := g (k / 4) (by omega)
      rw [decide_eq_true_eq, h35 _ (by omega), h36 _ (by omega)] at g1
      have g2 := ep_bw_inj g1 (i := k % 4) (by omega)
      rw [show 0 + 4 * (k / 4) + k % 4 = k by omega, show 96 + 4 * (k / 4) + k % 4 = 96 + k by omega] at g2
      obtain ⟨x, hx⟩ := hn k hk
      obtain ⟨y, hy⟩ := hn2 k hk
      rw [hx, hy] at g2
      rw [decide_eq_true_eq, hx, hy]
      exact (ep_nb_inj g2).symm
    · intro g j hj
      rw [decide_eq_true_eq, h35 _ hj, h36 _ hj]
      refine ep_bw_255 fun i hi => ?_
      have g1 := g (4 * j + i) (by omega)
      rw [decide_eq_true_eq] at g1
      rw [show 0 + 4 * j + i = 4 * j + i by omega, ← g1, show 96 + (4 * j + i) = 96 + 4 * j + i by omega]
  rw [← key]
  unfold eF_5_bears
  refine ep_lpf (fun i => nI i) 8 (fun j => decide (c2.1 35 j = c2.1 36 (24 + j))) (fun _ => .inr ()) (.inl ()) (by decide) rfl ?_ ?_ ?_ ?_ ?_
  · intro i hi hb rec
    have p24 : (24 : Int32) + nI i = nI (24 + i) := by rw [show (24 : Int32) = nI 24 from rfl, nI_add]
    show (if nI i < 8 then _ else _) = _
    rw [if_pos (show nI i < 8 from nI_lt (b := 8) hi (by decide)), if_pos (show nI i < Int32.ofNat 8 from nI_lt (b := 8) hi (by decide)), if_pos (ep_in hi (by decide)), p24, if_pos (ep_in (show 24 + i < 32 by omega) (by decide)), show eh_ix (nI i) = i from ep_ix (by omega), show eh_ix (nI (24 + i)) = 24 + i from ep_ix (by omega), ep_rC1 _ _ 35 (by decide), ep_rC1 _ _ 36 (by decide), if_pos (by simpa using hb), ep_V, nI_1]
  · intro i hi hb rec
    have p24 : (24 : Int32) + nI i = nI (24 + i) := by rw [show (24 : Int32) = nI 24 from rfl, nI_add]
    show (if nI i < 8 then _ else _) = _
    rw [if_pos (show nI i < 8 from nI_lt (b := 8) hi (by decide)), if_pos (show nI i < Int32.ofNat 8 from nI_lt (b := 8) hi (by decide)), if_pos (ep_in hi (by decide)), p24, if_pos (ep_in (show 24 + i < 32 by omega) (by decide)), show eh_ix (nI i) = i from ep_ix (by omega), show eh_ix (nI (24 + i)) = 24 + i from ep_ix (by omega), ep_rC1 _ _ 35 (by decide), ep_rC1 _ _ 36 (by decide), if_neg (by simpa using hb)]
  · intro rec
    show (if nI 8 < 8 then _ else _) = _
    rw [if_neg (by decide)]
  · intro g
    rw [show ep_all (fun j => decide (c2.1 35 j = c2.1 36 (24 + j))) 8 = true from ep_all_iff.mpr g]; rfl
  · intro j hj hb _
    have : ep_all (fun j => decide (c2.1 35 j = c2.1 36 (24 + j))) 8 = false := by
      rw [Bool.eq_false_iff]
      intro z
      have := ep_all_iff.mp z j hj
      rw [hb] at this
      exact absurd this (by decide)
    rw [this]; rfl
theorem ep_mcmp (m2 : ep_M) (c0 : ep_C) : eh_loop (fun (r6 : (Int32 × Int32) → Option (Int32)) (t2 : Int32 × Int32) => if t2.2 < 32 then (eh_J (fun (a9 : Int32) => eh_V ((t2.2 + 1) : Int32) (fun x10 => r6 (a9, x10))) (fun j8 => eh_J (fun (u12 : Unit) => j8 0) (fun j11 => if t2.1 = 0 then (j11 ()) else (if eh_in (96 + t2.2) 128 then if eh_in t2.2 32 then if ((ep_mk c0 m2).1 195 (eh_ix (96 + t2.2))) = ((ep_mk c0 m2).1 194 (eh_ix t2.2)) then (j8 1) else (j11 ()) else none else none)))) else (some t2.1)) eh_FU (1, 0) = some (ep_bi (ep_all (fun k => decide (m2.1 195 (96 + k) = m2.1 194 k)) 32)) := by
  refine ep_loop (fun i => (ep_bi (ep_all (fun k => decide (m2.1 195 (96 + k) = m2.1 194 k)) i), nI i)) 32 _ (ep_FU _ (by decide)) ?_ ?_ rfl
  · intro i hi rec
    have p96 : (96 : Int32) + nI i = nI (96 + i) := by rw [show (96 : Int32) = nI 96 from rfl, nI_add]
    show (if nI i < 32 then _ else _) = rec (ep_bi (ep_all (fun k => decide (m2.1 195 (96 + k) = m2.1 194 k)) i && decide (m2.1 195 (96 + i) = m2.1 194 i)), nI (i + 1))
    rw [if_pos (show nI i < 32 from nI_lt (b := 32) hi (by decide)), p96]
    simp only [ep_J, ep_V, nI_1]
    rw [if_pos (ep_in (show 96 + i < 128 by omega) (by decide)), if_pos (ep_in hi (by decide)), show eh_ix (nI i) = i from ep_ix (by omega), show eh_ix (nI (96 + i)) = 96 + i from ep_ix (by omega), ep_rM _ _ 195 (by decide), ep_rM _ _ 194 (by decide)]
    cases ep_all (fun k => decide (m2.1 195 (96 + k) = m2.1 194 k)) i with
    | false => rw [if_pos ep_bf]; rfl
    | true =>
      rw [if_neg ep_bt]
      by_cases y : m2.1 195 (96 + i) = m2.1 194 i
      · rw [if_pos y]; simp [y]; rfl
      · rw [if_neg y]; simp [y]; rfl
  · intro rec
    show (if nI 32 < 32 then _ else _) = _
    rw [if_neg (by decide)]
theorem ep_verify_ {N : Nat} {c : ep_C} {m : ep_M} (hR : ep_R N c m) {h t e : Nat} (ho : ep_On m h t e) (p : Int32) : ep_Tc N h t e c m (fun s => eF_3_verify s (eh_fp (nI t)) p) (fun s => Option.bind (eF_12_canRead s (nI h) p 128) (fun q38 => eh_J (fun (a40 : Int32) (s41 : eh_F) => some (a40, s41)) (fun j39 => if q38.1 = 0 then (j39 (-1) q38.2) else (Option.bind (eF_12_isReport q38.2 195 128) (fun q43 => if q43.1 = 0 then (j39 0 q43.2) else (j39 1 q43.2)))))) := by
  have ht := ho.2.1
  have he := ho.2.2.1
  have hto := ho.2.2.2.2.1
  obtain ⟨M, hL, hM, hM2⟩ := ep_mcanR hR ho p (n := 128) (by decide)
  cases hb : ep_rb m (c.1 10) e (ep_u p) 1 128 with
  | false =>
    refine ep_Tc_no hR ho hL (-1) (fun m0 => ?_) (fun c0 => ?_)
    · show eF_3_verify (ep_mk c m0) _ _ = _
      unfold eF_3_verify
      refine ep_bnd (ep_creaches hR ht he hto p 1 (n := 128) (by decide) m0) ?_
      rw [hb, if_pos ep_bf]
    · refine ep_bnd (hM c0) ?_
      rw [hb, ep_J, if_pos ep_bf]
  | true =>
    have hbyte := hM2 hb
    have hrd := fun m0 => ep_cread (c := c) (m := m) p (k := 32) (by decide) (ep_rb_u hb) 36 32 0 (fun g => ep_cL c 36 g) (fun g m0 => by rw [ep_rC1 _ _ _ (by decide), ep_cL1]) (fun g m0 j v => by rw [ep_iC1 _ _ _ _ _ (by decide), ep_cLI]) (fun g => hR.1) (old := c.1 36) (ep_cLid c 36) (by decide) (by decide) m0
    have hbw : ∀ o, o + 4 ≤ 128 → ep_bw (m.1 128) (ep_u p + o) = ep_bw (M.1 195) o := fun o h4 => ep_bw_255 fun i hi => by
      rw [hbyte (o + i) (by omega), ep_nb255, Nat.add_assoc]
    obtain ⟨c2, m2, a1, b1, K2, L2, r2, e2, f2, n2⟩ := ep_seal (c1 := ep_cL c 36 (ep_in_ (c.1 36) 0 32 fun j => ep_bw (m.1 128) (ep_u p + 4 * j))) hR (ep_K_36 _ _) hL (fun j hj => by
      rw [ep_cL1]
      unfold ep_in_
      rw [if_pos (by omega), Nat.sub_zero, Nat.zero_add]
      exact hbw (4 * j) (by omega))
    have hbe := ep_bears_ (c2 := c2) (m2 := m2) r2 (fun j hj => by
      rw [e2, f2, ep_cL1]
      unfold ep_in_
      rw [if_pos (by omega), Nat.sub_zero]
      show ep_bw (m.1 128) (ep_u p + 4 * (24 + j)) = _
      rw [show 4 * (24 + j) = 96 + 4 * j by omega]
      exact hbw (96 + 4 * j) (by omega)) n2 (fun k hk => by rw [f2, hbyte (96 + k) (by omega)]; exact ⟨_, rfl⟩)
    have hir : ∀ c0, eF_12_isReport (ep_mk c0 M) 195 128 = some (ep_bi (ep_all (fun k => decide (m2.1 195 (96 + k) = m2.1 194 k)) 32), ep_mk c0 m2) := by
      intro c0
      unfold eF_12_isReport
      rw [b1 c0, ep_sb]
      refine ep_bnd (ep_mcmp m2 c0) ?_
      rw [if_pos (ep_bi_bo _)]
    refine ⟨ep_bi (ep_all (fun k => decide (m2.1 195 (96 + k) = m2.1 194 k)) 32), c2, m2, fun m0 => ?_, fun c0 => ?_, ep_R_L (ep_R_K hR K2) L2, ep_Fm_L L2 ho⟩
    · show eF_3_verify (ep_mk c m0) _ _ = _
      unfold eF_3_verify
      refine ep_bnd (ep_creaches hR ht he hto p 1 (n := 128) (by decide) m0) ?_
      rw [hb, if_neg ep_bt]
      refine ep_bnd (hrd m0) ?_
      rw [a1 m0, ep_sb, hbe m0, ep_sb, ep_J]
      cases ep_all (fun k => decide (m2.1 195 (96 + k) = m2.1 194 k)) 32 <;> rfl
    · refine ep_bnd (hM c0) ?_
      rw [hb, ep_J, if_neg ep_bt, hir c0, ep_sb]
      cases ep_all (fun k => decide (m2.1 195 (96 + k) = m2.1 194 k)) 32 <;> rfl
