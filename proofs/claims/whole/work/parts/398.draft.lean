/-! random numbers, reports -/
theorem ep_R_ask {N : Nat} {c : ep_C} {m : ep_M} (hR : ep_R N c m) {e : Nat} (he : e < 6) (v : Int32) : ep_R N (ep_cH c 4 e 9 v) (ep_mI m 163 e v) := by
  refine ⟨hR.1, hR.2.1, hR.2.2.1, hR.2.2.2.1, hR.2.2.2.2.1, hR.2.2.2.2.2.1, hR.2.2.2.2.2.2.1, hR.2.2.2.2.2.2.2.1, hR.2.2.2.2.2.2.2.2.1, hR.2.2.2.2.2.2.2.2.2.1, hR.2.2.2.2.2.2.2.2.2.2.1, hR.2.2.2.2.2.2.2.2.2.2.2.1, hR.2.2.2.2.2.2.2.2.2.2.2.2.1, hR.2.2.2.2.2.2.2.2.2.2.2.2.2.1, hR.2.2.2.2.2.2.2.2.2.2.2.2.2.2.1, hR.2.2.2.2.2.2.2.2.2.2.2.2.2.2.2.1, ?_, ?_, hR.2.2.2.2.2.2.2.2.2.2.2.2.2.2.2.2.2.2.1, hR.2.2.2.2.2.2.2.2.2.2.2.2.2.2.2.2.2.2.2.1, hR.2.2.2.2.2.2.2.2.2.2.2.2.2.2.2.2.2.2.2.2.1, hR.2.2.2.2.2.2.2.2.2.2.2.2.2.2.2.2.2.2.2.2.2.1, hR.2.2.2.2.2.2.2.2.2.2.2.2.2.2.2.2.2.2.2.2.2.2.1, hR.2.2.2.2.2.2.2.2.2.2.2.2.2.2.2.2.2.2.2.2.2.2.2.1, hR.2.2.2.2.2.2.2.2.2.2.2.2.2.2.2.2.2.2.2.2.2.2.2.2.1, hR.2.2.2.2.2.2.2.2.2.2.2.2.2.2.2.2.2.2.2.2.2.2.2.2.2.1, hR.2.2.2.2.2.2.2.2.2.2.2.2.2.2.2.2.2.2.2.2.2.2.2.2.2.2.1, hR.2.2.2.2.2.2.2.2.2.2.2.2.2.2.2.2.2.2.2.2.2.2.2.2.2.2.2.1, hR.2.2.2.2.2.2.2.2.2.2.2.2.2.2.2.2.2.2.2.2.2.2.2.2.2.2.2.2.1, hR.2.2.2.2.2.2.2.2.2.2.2.2.2.2.2.2.2.2.2.2.2.2.2.2.2.2.2.2.2.1, hR.2.2.2.2.2.2.2.2.2.2.2.2.2.2.2.2.2.2.2.2.2.2.2.2.2.2.2.2.2.2.1, hR.2.2.2.2.2.2.2.2.2.2.2.2.2.2.2.2.2.2.2.2.2.2.2.2.2.2.2.2.2.2.2.1, hR.2.2.2.2.2.2.2.2.2.2.2.2.2.2.2.2.2.2.2.2.2.2.2.2.2.2.2.2.2.2.2.2.1, hR.2.2.2.2.2.2.2.2.2.2.2.2.2.2.2.2.2.2.2.2.2.2.2.2.2.2.2.2.2.2.2.2.2⟩
  · intro e' he'
    obtain ⟨a5, a6, a7, a8, a9, a11, a12, a13, a14⟩ := hR.2.2.2.2.2.2.2.2.2.2.2.2.2.2.2.2.1 e' he'
    by_cases y : e' = e
    · subst y
      rw [ep_cHs]
      exact ⟨a5, a6, a7, a8, (by show v = upd (m.1 163) e' v e'; rw [ep_upd_eq]), a11, a12, a13, a14⟩
    · rw [ep_cHh _ _ _ _ _ _ y]
      exact ⟨a5, a6, a7, a8, (by show _ = upd (m.1 163) e v e'; rw [ep_upd_ne y]; exact a9), a11, a12, a13, a14⟩
  · intro e' he' hE'
    have g := hR.2.2.2.2.2.2.2.2.2.2.2.2.2.2.2.2.2.1 e' he' hE'
    by_cases y : e' = e
    · subst y; rw [ep_cHs]; exact g
    · rw [ep_cHh _ _ _ _ _ _ y]; exact g
theorem ep_key_end {N : Nat} {c c4 : ep_C} {m m4 : ep_M} (hR : ep_R N c m) (hL : ep_L m m4) (hK : ep_K c c4) {l : List Int32} (hS : ep_KS c4 m4 (m4.1 186) l) (out : Nat) (hout : out = 35 ∨ out = 126) : ∃ c5 m5, (∀ m0, eF_9_endKeyed (ep_mk c4 m0) 29 33 8 out 8 = some (ep_mk c5 m0)) ∧ (∀ c0, eF_12_keyed (ep_mk c0 m4) 186 32 = some (ep_mk c0 m5)) ∧ ep_K c c5 ∧ ep_L m m5 ∧ (∀ j, j < 8 → c5.1 out j = ep_bw (m5.1 194) (0 + 4 * j)) ∧ c5.1 36 = c4.1 36 ∧ m5.1 195 = m4.1 195 ∧ (∀ k, k < 32 → ∃ x, m5.1 194 k = eh_nb x) := by
  have ho : out ≠ 29 ∧ out ≠ 30 ∧ out ≠ 31 ∧ out ≠ 32 := by rcases hout with rfl | rfl <;> decide
  obtain ⟨T, c5, m5, a, b, d1, d2, d3, d4⟩ := ep_ksend (c := c4) (m := m4) 33 out 186 (c.1 33) hS (by decide) ho (ep_K33 hK) (fun j hj => by rw [ep_Lk hL 186 (by omega)]; exact hR.2.2.2.2.2.2.2.2.2.2.2.2.2.2.2.2.2.2.2.2.2.2.2.2.2.1 j hj) (by decide)
  have hrow : ∀ (f : Nat → Int32) j, j < 8 → ep_w8 f T 8 j = ep_bw (m5.1 194) (0 + 4 * j) := fun f j hj => by
    rw [ep_w8_lt _ _ _ hj, d3]
    exact (ep_bw_wr _ 0 T j hj).symm
  have hnb : ∀ k, k < 32 → ∃ x, m5.1 194 k = eh_nb x := fun k hk => by
    rw [d3]
    unfold ep_wr
    rw [if_pos (by omega)]
    exact ⟨_, rfl⟩
  rcases hout with rfl | rfl
  · refine ⟨ep_cL c5 35 (ep_w8 (c4.1 35) T 8), m5, fun m0 => ?_, b, ep_K_tr (ep_K_tr hK d1) (ep_K_35 _ _), ep_L_tr hL d2, fun j hj => ?_, ?_, d4.2.2, hnb⟩
    · rw [a m0, ep_wC1 _ _ _ _ (by decide), ep_rC1 _ _ 35 (by decide)]
    · rw [ep_cL1]; exact hrow _ j hj
    · rw [ep_cLn _ _ _ _ (by decide)]; exact d4.1
  · refine ⟨ep_cL c5 126 (ep_w8 (c4.1 126) T 8), m5, fun m0 => ?_, b, ep_K_tr (ep_K_tr hK d1) (ep_K_126 _ _), ep_L_tr hL d2, fun j hj => ?_, ?_, d4.2.2, hnb⟩
    · rw [a m0, ep_wC2 _ _ _ _ (by decide) (by decide), ep_rC2 _ _ 126 (by decide) (by decide)]
    · rw [ep_cL1]; exact hrow _ j hj
    · rw [ep_cLn _ _ _ _ (by decide)]; exact d4.1
theorem ep_giveRandom_ {N : Nat} {c : ep_C} {m : ep_M} (hR : ep_R N c m) (hN : N + 100 < 2 ^ 28) {h t e : Nat} (ho : ep_On m h t e) (p q : Int32) : ep_Tc (N + 32) h t e c m (fun s => eF_3_giveRandom s (eh_fp (nI t)) p q) (fun s => eh_J (fun (s24 : eh_F) => some ((-1 : Int32), s24)) (fun j23 => if q < 1 then (j23 s) else (if 32 < q then (j23 s) else (Option.bind (eF_12_canWrite s (nI h) p q) (fun q27 => if q27.1 = 0 then (j23 q27.2) else (eh_V (eh_tI q27.2 127 79 0) (fun s29 => Option.bind (eF_12_say s29 7) (fun q30 => Option.bind (eF_12_sayBytes q30 159 192 (32 * nI e) 32) (fun q31 => if eh_in (nI e) 6 then Option.bind (eF_12_say q31 (q31.1 158 (eh_ix (nI e)))) (fun q32 => if eh_in (nI e) 6 then Option.bind (eF_12_say q32 (q32.1 163 (eh_ix (nI e)))) (fun q33 => Option.bind (eF_12_keyed q33 186 32) (fun q34 => if eh_in (nI e) 6 then if eh_in (nI e) 6 then eh_V (eh_tI q34 163 (eh_ix (nI e)) ((q34.1 163 (eh_ix (nI e))) + 1)) (fun s35 => Option.bind (eF_12_writeTo s35 (nI h) p 194 32 0 q) (fun q36 => some (0, q36))) else none else none)) else none) else none))))))))) := by
  have ht := ho.2.1
  have he := ho.2.2.1
  have hto := ho.2.2.2.2.1
  have i6 : eh_in (nI e) 6 = true := ep_in he (by decide)
  have x6 : eh_ix (nI e) = e := ep_ix (by omega)
  have e32 : (32 : Int32) * nI e = nI (32 * e) := ep_mul (b := 32) rfl rfl
  by_cases h1 : q < 1
  · refine ep_Tc_mono (ep_Tc_no hR ho (ep_L_rf m) (-1) (fun m0 => ?_) (fun c0 => ?_)) (by omega)
    · show eF_3_giveRandom (ep_mk c m0) _ _ _ = _
      unfold eF_3_giveRandom
      rw [ep_J, if_pos h1]
    · show eh_J _ _ = _
      rw [ep_J, if_pos h1]
  by_cases h2 : 32 < q
  · refine ep_Tc_mono (ep_Tc_no hR ho (ep_L_rf m) (-1) (fun m0 => ?_) (fun c0 => ?_)) (by omega)
    · show eF_3_giveRandom (ep_mk c m0) _ _ _ = _
      unfold eF_3_giveRandom
      rw [ep_J, if_neg h1, if_pos h2]
    · show eh_J _ _ = _
      rw [ep_J, if_neg h1, if_pos h2]
  have q0 : ¬ q < 0 := fun z => h1 (by rw [Int32.lt_iff_toInt_lt] at z ⊢; have e0 : (0 : Int32).toInt = 0 := by decide
                                       have e1 : (1 : Int32).toInt = 1 := by decide
                                       omega)
  obtain ⟨n, hn, rfl⟩ := ep_le_of (n := 32) (by decide) q0 h2
  obtain ⟨M, ⟨hL, -⟩, hM⟩ := ep_mcanW hR ho p (n := n) (by omega)
  cases hb : ep_rb m (c.1 10) e (ep_u p) 2 n with
  | false =>
    refine ep_Tc_mono (ep_Tc_no hR ho hL (-1) (fun m0 => ?_) (fun c0 => ?_)) (by omega)
    · show eF_3_giveRandom (ep_mk c m0) _ _ _ = _
      unfold eF_3_giveRandom
      rw [ep_J, if_neg h1, if_neg h2]
      refine ep_bnd (ep_creaches hR ht he hto p 2 (n := n) (by omega) m0) ?_
      rw [hb, if_pos ep_bf]
    · show eh_J _ _ = _
      rw [ep_J, if_neg h1, if_neg h2]
      refine ep_bnd (hM c0) ?_
      rw [hb, if_pos ep_bf]
  | true =>
    have gE := hR.2.2.2.2.2.2.2.2.2.2.2.2.2.2.2.2.1 e he
    obtain ⟨c1, m1, a1, b1, k1, l1, s1, -⟩ := ep_ksbegin c M 33 (c.1 33) (m.1 186) (by decide) (fun m0 => ep_rC1 _ _ _ (by decide)) hR.2.2.2.2.2.2.2.2.2.2.2.2.2.2.2.2.2.2.2.2.2.2.2.2.2.1
    obtain ⟨c2, m2, a2, b2, k2, l2, s2, -⟩ := ep_ksnum s1 (by decide) 7
    have K2 := ep_K_tr k1 k2
    have L2 := ep_L_tr hL (ep_L_tr l1 l2)
    obtain ⟨c3, m3, a3, b3, k3, l3, s3, -⟩ := ep_kswords s2 8 (by show 0 + 4 + 4 * 8 ≤ 256; decide) (eh_ep (nI e) + 5) 8 159 192 (32 * e) (c.2.1 9 e) ⟨ep_en_ne 5 29 (by decide) he (by decide), ep_en_ne 5 30 (by decide) he (by decide), ep_en_ne 5 31 (by decide) he (by decide)⟩ (ep_KE K2 5 he (by decide)) (by decide) (by decide) (by omega) (by decide) (by
      intro j hj
      rw [ep_Lk L2 159 (by omega)]
      exact hR.2.2.2.2.2.2.2.2.2.2.2.2.2.2.2.2.2.2.1 e he j hj)
    have K3 := ep_K_tr K2 k3
    have L3 := ep_L_tr L2 l3
    obtain ⟨c4, m4, a4, b4, k4, l4, s4, -⟩ := ep_ksnum s3 (by simp) (m.1 158 e)
    have K4 := ep_K_tr K3 k4
    have L4 := ep_L_tr L3 l4
    obtain ⟨c5, m5, a5, b5, k5, l5, s5, -⟩ := ep_ksnum s4 (by simp) (m.1 163 e)
    have K5 := ep_K_tr K4 k5
    have L5 := ep_L_tr L4 l5
    obtain ⟨c6, m6, a6, b6, K6, L6, r6, -, -, -⟩ := ep_key_end hR L5 K5 (by rw [ep_Lk L5 186 (by omega)]; exact s5) 126 (Or.inr rfl)
    have R7 := ep_R_ask (ep_R_L (ep_R_K hR K6) L6) he (m.1 163 e + 1)
    have ho7 : ep_On (ep_mI m6 163 e (m.1 163 e + 1)) h t e := ep_On_L L6 ho
    obtain ⟨c8, m8, w1, w2, w3⟩ := ep_write_ R7 (n := n) (by omega) ho7 p (by omega) (ep_rb_u hb) 126 8 194 32 0 (c6.1 126) (fun X Y g v m0 => by rw [ep_rC2 _ _ _ (by decide) (by decide), ep_cw_o _ _ _ _ _ _ (by decide)]; rfl) ⟨by omega, by decide⟩ (by decide) (by omega) (by decide) (fun k hk => ep_row8 (b := m6.1 194) (off := 0) r6 k (by omega))
    refine ⟨0, c8, m8, fun m0 => ?_, fun c0 => ?_, ep_R_mono w3.2.2 (by omega), ep_Fm_tr (ep_Fm_L L6 ho) (ep_Fm_tr ⟨ho7, fun j hj => rfl, rfl⟩ (ep_Fm_W w3 ho7))⟩
    · show eF_3_giveRandom (ep_mk c m0) _ _ _ = _
      unfold eF_3_giveRandom
      rw [ep_J, if_neg h1, if_neg h2]
      refine ep_bnd (ep_creaches hR ht he hto p 2 (n := n) (by omega) m0) ?_
      rw [hb, if_neg ep_bt, ep_rF0 _ _ ht, (hR.2.2.2.2.2.2.2.2.2.2.1 t ht).2.2.1, hto, if_pos i6, a1 m0, ep_sb, a2 m0, ep_sb]
      refine ep_bnd (a3 m0) ?_
      rw [show (ep_mk c3 m0).1 (eh_ep (nI e)) 8 = m.1 158 e from by rw [ep_rE0 _ _ he, K3.1]; exact gE.2.2.2.1, a4 m0, ep_sb, show (ep_mk c4 m0).1 (eh_ep (nI e)) 9 = m.1 163 e from by rw [ep_rE0 _ _ he, K4.1]; exact gE.2.2.2.2.1, a5 m0, ep_sb, a6 m0, ep_sb, ep_V, show (ep_mk c6 m0).1 (eh_ep (nI e)) 9 = m.1 163 e from by rw [ep_rE0 _ _ he, K6.1]; exact gE.2.2.2.2.1, ep_iE0 _ _ _ _ he]
      exact ep_bnd (w1 m0) rfl
    · show eh_J _ _ = _
      rw [ep_J, if_neg h1, if_neg h2]
      refine ep_bnd (hM c0) ?_
      rw [hb, if_neg ep_bt, ep_V, b1 c0, b2 c0, ep_sb, e32]
      refine ep_bnd (b3 c0) ?_
      rw [if_pos i6, x6, show (ep_mk c0 m3).1 158 e = m.1 158 e from by rw [ep_rM _ _ _ (by decide), ep_Lk L3 158 (by omega)], b4 c0, ep_sb, if_pos i6, show (ep_mk c0 m4).1 163 e = m.1 163 e from by rw [ep_rM _ _ _ (by decide), ep_Lk L4 163 (by omega)], b5 c0, ep_sb, b6 c0, ep_sb, if_pos i6, if_pos i6, ep_V, show (ep_mk c0 m6).1 163 e = m.1 163 e from by rw [ep_rM _ _ _ (by decide), ep_Lk L6 163 (by omega)], ep_iM _ _ _ _ _ (by decide)]
      exact ep_bnd (w2 c0) rfl
theorem ep_seal {N : Nat} {c c1 : ep_C} {m m1 : ep_M} (hR : ep_R N c m) (hK : ep_K c c1) (hL : ep_L m m1) (hw : ∀ j, j < 24 → c1.1 36 j = ep_bw (m1.1 195) (0 + 4 * j)) : ∃ c2 m2, (∀ m0, eF_5_sealReport (ep_mk c1 m0) 35 8 = some (ep_mk c2 m0)) ∧ (∀ c0, eF_12_mark (ep_mk c0 m1) 195 128 = some (ep_mk c0 m2)) ∧ ep_K c c2 ∧ ep_L m m2 ∧ (∀ j, j < 8 → c2.1 35 j = ep_bw (m2.1 194) (0 + 4 * j)) ∧ c2.1 36 = c1.1 36 ∧ m2.1 195 = m1.1 195 ∧ (∀ k, k < 32 → ∃ x, m2.1 194 k = eh_nb x) := by
  obtain ⟨c2, m2, a1, b1, k1, l1, s1, z1⟩ := ep_ksbegin c1 m1 33 (c.1 33) (m.1 186) (by decide) (ep_K33 hK) hR.2.2.2.2.2.2.2.2.2.2.2.2.2.2.2.2.2.2.2.2.2.2.2.2.2.1
  obtain ⟨c3, m3, a2, b2, k2, l2, s2, z2⟩ := ep_ksnum s1 (by decide) 5
  have Z2 := ep_Z3_tr z1 z2
  obtain ⟨c4, m4, a3, b3, k3, l3, s3, z3⟩ := ep_kswords s2 24 (by show 0 + 4 + 4 * 24 ≤ 256; decide) 36 32 195 128 0 (c1.1 36) (by decide) (fun m0 => by rw [ep_rC1 _ _ _ (by decide)]; exact Z2.1) (by decide) (by decide) (by decide) (by decide) (by
    intro j hj
    rw [Z2.2.2]
    exact hw j hj)
  have K4 := ep_K_tr hK (ep_K_tr k1 (ep_K_tr k2 k3))
  have L4 := ep_L_tr hL (ep_L_tr l1 (ep_L_tr l2 l3))
  have Z4 := ep_Z3_tr Z2 z3
  obtain ⟨c5, m5, a4, b4, K5, L5, r5, e5, f5, n5⟩ := ep_key_end hR L4 K4 (by rw [ep_Lk L4 186 (by omega)]; exact s3) 35 (Or.inl rfl)
  refine ⟨c5, m5, fun m0 => ?_, fun c0 => ?_, K5, L5, r5, e5.trans Z4.1, f5.trans Z4.2.2, n5⟩
  · unfold eF_5_sealReport
    rw [a1 m0, ep_sb, a2 m0, ep_sb]
    refine ep_bnd (a3 m0) ?_
    rw [a4 m0, ep_sb]
  · unfold eF_12_mark
    rw [ep_V, b1 c0, b2 c0, ep_sb]
    refine ep_bnd (b3 c0) ?_
    rw [b4 c0, ep_sb]
theorem ep_bw_inj {f g : Nat → Int32} {o o' : Nat} (h : ep_bw f o = ep_bw g o') {i : Nat} (hi : i < 4) : f (o + i) &&& 255 = g (o' + i) &&& 255 := by
  have h1 := ep_bw_byte f o i
  have h2 := ep_bw_byte g o' i
  rw [show i / 4 = 0 by omega, Nat.mul_zero, Nat.add_zero] at h1 h2
  rw [← h1, ← h2, h]
theorem ep_bw_255 {f g : Nat → Int32} {o o' : Nat} (h : ∀ i, i < 4 → f (o + i) &&& 255 = g (o' + i) &&& 255) : ep_bw f o = ep_bw g o' := by
  unfold ep_bw
  have h0 : f o &&& 255 = g o' &&& 255 := h 0 (by decide)
  rw [h0, h 1 (by decide), h 2 (by decide), h 3 (by decide)]
theorem ep_nb_inj {x y : Int32} (h : eh_nb x &&& 255 = eh_nb y &&& 255) : eh_nb x = eh_nb y := by
  rw [ep_nb255, ep_nb255, ep_b8] at h
  refine ep_ext fun i hi => ?_
  rw [ep_bit_nb _ _ hi, ep_bit_nb _ _ hi]
  by_cases z : i < 8
  · rw [if_pos z, if_pos z]; exact h i z
  · rw [if_neg z, if_neg z]; exact h 7 (by decide)
theorem ep_bears_ {c2 : ep_C} {m2 : ep_M} (h35 : ∀ j, j < 8 → c2.1 35 j = ep_bw (m2.1 194) (0 + 4 * j)) (h36 : ∀ j, j < 8 → c2.1 36 (24 + j) = ep_bw (m2.1 195) (96 + 4 * j)) (hn : ∀ k, k < 32 → ∃ x, m2.1 194 k = eh_nb x) (hn2 : ∀ k, k < 32 → ∃ x, m2.1 195 (96 + k) = eh_nb x) (m0 : ep_M) : eF_5_bears (ep_mk c2 m0) 35 8 = some (ep_bi (ep_all (fun k => decide (m2.1 195 (96 + k) = m2.1 194 k)) 32)) := by
  have key : ep_all (fun j => decide (c2.1 35 j = c2.1 36 (24 + j))) 8 = ep_all (fun k => decide (m2.1 195 (96 + k) = m2.1 194 k)) 32 := by
    rw [Bool.eq_iff_iff, ep_all_iff, ep_all_iff]
    constructor
    · intro g k hk
      have g1 := g (k / 4) (by omega)
      rw [decide_eq_true_eq, h35 _ (by omega), h36 _ (by omega)] at g1
      have g2 := ep_bw_inj g1 (i := k % 4) (by omega)
      rw [show 0 + 4 * (k / 4) + k % 4 = k by omega, show 96 + 4 * (k / 4) + k % 4 = 96 + k by omega] at g2
      obtain ⟨x, hx⟩ := hn k hk
      obtain ⟨y, hy⟩ := hn2 k hk
      rw [hx, hy] at g2
      rw [decide_eq_true_eq, hx, hy]
      exact (ep_nb_inj g2).symm
    · intro g j hj
      rw [decide_eq_true_eq, h35 _ hj, h36 _ hj]
      refine ep_bw_255 fun i hi => ?_
      have g1 := g (4 * j + i) (by omega)
      rw [decide_eq_true_eq] at g1
      rw [show 0 + 4 * j + i = 4 * j + i by omega, ← g1, show 96 + (4 * j + i) = 96 + 4 * j + i by omega]
  rw [← key]
  unfold eF_5_bears
  refine ep_lpf (fun i => nI i) 8 (fun j => decide (c2.1 35 j = c2.1 36 (24 + j))) (fun _ => .inr ()) (.inl ()) (by decide) rfl ?_ ?_ ?_ ?_ ?_
  · intro i hi hb rec
    have p24 : (24 : Int32) + nI i = nI (24 + i) := by rw [show (24 : Int32) = nI 24 from rfl, nI_add]
    show (if nI i < 8 then _ else _) = _
    rw [if_pos (show nI i < 8 from nI_lt (b := 8) hi (by decide)), if_pos (show nI i < Int32.ofNat 8 from nI_lt (b := 8) hi (by decide)), if_pos (ep_in hi (by decide)), p24, if_pos (ep_in (show 24 + i < 32 by omega) (by decide)), show eh_ix (nI i) = i from ep_ix (by omega), show eh_ix (nI (24 + i)) = 24 + i from ep_ix (by omega), ep_rC1 _ _ 35 (by decide), ep_rC1 _ _ 36 (by decide), if_pos (by simpa using hb), ep_V, nI_1]
  · intro i hi hb rec
    have p24 : (24 : Int32) + nI i = nI (24 + i) := by rw [show (24 : Int32) = nI 24 from rfl, nI_add]
    show (if nI i < 8 then _ else _) = _
    rw [if_pos (show nI i < 8 from nI_lt (b := 8) hi (by decide)), if_pos (show nI i < Int32.ofNat 8 from nI_lt (b := 8) hi (by decide)), if_pos (ep_in hi (by decide)), p24, if_pos (ep_in (show 24 + i < 32 by omega) (by decide)), show eh_ix (nI i) = i from ep_ix (by omega), show eh_ix (nI (24 + i)) = 24 + i from ep_ix (by omega), ep_rC1 _ _ 35 (by decide), ep_rC1 _ _ 36 (by decide), if_neg (by simpa using hb)]
  · intro rec
    show (if nI 8 < 8 then _ else _) = _
    rw [if_neg (by decide)]
  · intro g
    rw [show ep_all (fun j => decide (c2.1 35 j = c2.1 36 (24 + j))) 8 = true from ep_all_iff.mpr g]; rfl
  · intro j hj hb _
    have : ep_all (fun j => decide (c2.1 35 j = c2.1 36 (24 + j))) 8 = false := by
      rw [Bool.eq_false_iff]
      intro z
      have := ep_all_iff.mp z j hj
      rw [hb] at this
      exact absurd this (by decide)
    rw [this]; rfl
theorem ep_mcmp (m2 : ep_M) (c0 : ep_C) : eh_loop (fun (r6 : (Int32 × Int32) → Option (Int32)) (t2 : Int32 × Int32) => if t2.2 < 32 then (eh_J (fun (a9 : Int32) => eh_V ((t2.2 + 1) : Int32) (fun x10 => r6 (a9, x10))) (fun j8 => eh_J (fun (u12 : Unit) => j8 0) (fun j11 => if t2.1 = 0 then (j11 ()) else (if eh_in (96 + t2.2) 128 then if eh_in t2.2 32 then if ((ep_mk c0 m2).1 195 (eh_ix (96 + t2.2))) = ((ep_mk c0 m2).1 194 (eh_ix t2.2)) then (j8 1) else (j11 ()) else none else none)))) else (some t2.1)) eh_FU (1, 0) = some (ep_bi (ep_all (fun k => decide (m2.1 195 (96 + k) = m2.1 194 k)) 32)) := by
  refine ep_loop (fun i => (ep_bi (ep_all (fun k => decide (m2.1 195 (96 + k) = m2.1 194 k)) i), nI i)) 32 _ (ep_FU _ (by decide)) ?_ ?_ rfl
  · intro i hi rec
    have p96 : (96 : Int32) + nI i = nI (96 + i) := by rw [show (96 : Int32) = nI 96 from rfl, nI_add]
    show (if nI i < 32 then _ else _) = rec (ep_bi (ep_all (fun k => decide (m2.1 195 (96 + k) = m2.1 194 k)) i && decide (m2.1 195 (96 + i) = m2.1 194 i)), nI (i + 1))
    rw [if_pos (show nI i < 32 from nI_lt (b := 32) hi (by decide)), p96]
    simp only [ep_J, ep_V, nI_1]
    rw [if_pos (ep_in (show 96 + i < 128 by omega) (by decide)), if_pos (ep_in hi (by decide)), show eh_ix (nI i) = i from ep_ix (by omega), show eh_ix (nI (96 + i)) = 96 + i from ep_ix (by omega), ep_rM _ _ 195 (by decide), ep_rM _ _ 194 (by decide)]
    cases ep_all (fun k => decide (m2.1 195 (96 + k) = m2.1 194 k)) i with
    | false => rw [if_pos ep_bf]; rfl
    | true =>
      rw [if_neg ep_bt]
      by_cases y : m2.1 195 (96 + i) = m2.1 194 i
      · rw [if_pos y]; simp [y]; rfl
      · rw [if_neg y]; simp [y]; rfl
  · intro rec
    show (if nI 32 < 32 then _ else _) = _
    rw [if_neg (by decide)]
theorem ep_verify_ {N : Nat} {c : ep_C} {m : ep_M} (hR : ep_R N c m) {h t e : Nat} (ho : ep_On m h t e) (p : Int32) : ep_Tc N h t e c m (fun s => eF_3_verify s (eh_fp (nI t)) p) (fun s => Option.bind (eF_12_canRead s (nI h) p 128) (fun q38 => eh_J (fun (a40 : Int32) (s41 : eh_F) => some (a40, s41)) (fun j39 => if q38.1 = 0 then (j39 (-1) q38.2) else (Option.bind (eF_12_isReport q38.2 195 128) (fun q43 => if q43.1 = 0 then (j39 0 q43.2) else (j39 1 q43.2)))))) := by
  have ht := ho.2.1
  have he := ho.2.2.1
  have hto := ho.2.2.2.2.1
  obtain ⟨M, hL, hM, hM2⟩ := ep_mcanR hR ho p (n := 128) (by decide)
  cases hb : ep_rb m (c.1 10) e (ep_u p) 1 128 with
  | false =>
    refine ep_Tc_no hR ho hL (-1) (fun m0 => ?_) (fun c0 => ?_)
    · show eF_3_verify (ep_mk c m0) _ _ = _
      unfold eF_3_verify
      refine ep_bnd (ep_creaches hR ht he hto p 1 (n := 128) (by decide) m0) ?_
      rw [hb, if_pos ep_bf]
    · refine ep_bnd (hM c0) ?_
      rw [hb, ep_J, if_pos ep_bf]
  | true =>
    have hbyte := hM2 hb
    have hrd := fun m0 => ep_cread (c := c) (m := m) p (k := 32) (by decide) (ep_rb_u hb) 36 32 0 (fun g => ep_cL c 36 g) (fun g m0 => by rw [ep_rC1 _ _ _ (by decide), ep_cL1]) (fun g m0 j v => by rw [ep_iC1 _ _ _ _ _ (by decide), ep_cLI]) (fun g => hR.1) (old := c.1 36) (ep_cLid c 36) (by decide) (by decide) m0
    have hbw : ∀ o, o + 4 ≤ 128 → ep_bw (m.1 128) (ep_u p + o) = ep_bw (M.1 195) o := fun o h4 => ep_bw_255 fun i hi => by
      rw [hbyte (o + i) (by omega), ep_nb255, Nat.add_assoc]
    obtain ⟨c2, m2, a1, b1, K2, L2, r2, e2, f2, n2⟩ := ep_seal (c1 := ep_cL c 36 (ep_in_ (c.1 36) 0 32 fun j => ep_bw (m.1 128) (ep_u p + 4 * j))) hR (ep_K_36 _ _) hL (fun j hj => by
      rw [ep_cL1]
      unfold ep_in_
      rw [if_pos (by omega), Nat.sub_zero, Nat.zero_add]
      exact hbw (4 * j) (by omega))
    have hbe := ep_bears_ (c2 := c2) (m2 := m2) r2 (fun j hj => by
      rw [e2, f2, ep_cL1]
      unfold ep_in_
      rw [if_pos (by omega), Nat.sub_zero]
      show ep_bw (m.1 128) (ep_u p + 4 * (24 + j)) = _
      rw [show 4 * (24 + j) = 96 + 4 * j by omega]
      exact hbw (96 + 4 * j) (by omega)) n2 (fun k hk => by rw [f2, hbyte (96 + k) (by omega)]; exact ⟨_, rfl⟩)
    have hir : ∀ c0, eF_12_isReport (ep_mk c0 M) 195 128 = some (ep_bi (ep_all (fun k => decide (m2.1 195 (96 + k) = m2.1 194 k)) 32), ep_mk c0 m2) := by
      intro c0
      unfold eF_12_isReport
      rw [b1 c0, ep_sb]
      refine ep_bnd (ep_mcmp m2 c0) ?_
      rw [if_pos (ep_bi_bo _)]
    refine ⟨ep_bi (ep_all (fun k => decide (m2.1 195 (96 + k) = m2.1 194 k)) 32), c2, m2, fun m0 => ?_, fun c0 => ?_, ep_R_L (ep_R_K hR K2) L2, ep_Fm_L L2 ho⟩
    · show eF_3_verify (ep_mk c m0) _ _ = _
      unfold eF_3_verify
      refine ep_bnd (ep_creaches hR ht he hto p 1 (n := 128) (by decide) m0) ?_
      rw [hb, if_neg ep_bt]
      refine ep_bnd (hrd m0) ?_
      rw [a1 m0, ep_sb, hbe m0, ep_sb, ep_J]
      cases ep_all (fun k => decide (m2.1 195 (96 + k) = m2.1 194 k)) 32 <;> rfl
    · refine ep_bnd (hM c0) ?_
      rw [hb, ep_J, if_neg ep_bt, hir c0, ep_sb]
      cases ep_all (fun k => decide (m2.1 195 (96 + k) = m2.1 194 k)) 32 <;> rfl
/-! attest, extend -/
theorem ep_part {σ τ : Type} {B1 : (σ → Option eh_F) → σ → Option eh_F} {B2 : (τ → Option eh_F) → τ → Option eh_F} (e1 : Nat → eh_F → σ) (e2 : Nat → eh_F → τ) (P : Nat → ep_C → ep_M → Prop) : ∀ (n a : Nat) (c : ep_C) (m : ep_M),
    (∀ i c m, a ≤ i → i < a + n → P i c m → ∃ c' m', P (i + 1) c' m' ∧ (∀ m0 rec, B1 rec (e1 i (ep_mk c m0)) = rec (e1 (i + 1) (ep_mk c' m0))) ∧ (∀ c0 rec, B2 rec (e2 i (ep_mk c0 m)) = rec (e2 (i + 1) (ep_mk c0 m')))) → P a c m → ∃ c' m', P (a + n) c' m' ∧ (∀ m0 fu, eh_loop B1 (fu + n) (e1 a (ep_mk c m0)) = eh_loop B1 fu (e1 (a + n) (ep_mk c' m0))) ∧ (∀ c0 fu, eh_loop B2 (fu + n) (e2 a (ep_mk c0 m)) = eh_loop B2 fu (e2 (a + n) (ep_mk c0 m')))
  | 0, a, c, m, _, hp => ⟨c, m, hp, fun _ _ => rfl, fun _ _ => rfl⟩
  | n + 1, a, c, m, hs, hp => by
    obtain ⟨c1, m1, p1, x1, y1⟩ := hs a c m (Nat.le_refl _) (by omega) hp
    obtain ⟨c2, m2, p2, x2, y2⟩ := ep_part e1 e2 P n (a + 1) c1 m1 (fun i c m h1 h2 => hs i c m (by omega) (by omega)) p1
    refine ⟨c2, m2, by rw [show a + (n + 1) = a + 1 + n by omega]; exact p2, fun m0 fu => ?_, fun c0 fu => ?_⟩
    · rw [show fu + (n + 1) = (fu + n) + 1 from rfl, ep_loopS, x1, x2, show a + (n + 1) = a + 1 + n by omega]
    · rw [show fu + (n + 1) = (fu + n) + 1 from rfl, ep_loopS, y1, y2, show a + (n + 1) = a + 1 + n by omega]
def ep_WB (n : Nat) (th : Nat) (addr : Int32) (p np : Nat) : ((Int32 × eh_F) → Option eh_F) → (Int32 × eh_F) → Option eh_F := fun (r4 : (Int32 × eh_F) → Option (eh_F)) (t1 : Int32 × eh_F) => if t1.1 < nI n then (if (t1.1 / 4) < (Int32.ofNat np) then (if eh_in (t1.1 / 4) np then Option.bind (eF_5_storeFor t1.2 th (addr + t1.1) ((eh_ushr (t1.2.1 p (eh_ix (t1.1 / 4))) (24 - (8 * (t1.1 &&& 3)))) &&& 255) 1) (fun q7 => eh_V ((t1.1 + 1) : Int32) (fun x8 => r4 (x8, q7))) else none) else (some t1.2)) else (some t1.2)
def ep_WM (n : Nat) (h addr : Int32) (pm npm : Nat) (O : Int32) : ((Int32 × eh_F) → Option eh_F) → (Int32 × eh_F) → Option eh_F := fun (r4 : (Int32 × eh_F) → Option (eh_F)) (t1 : Int32 × eh_F) => if t1.1 < nI n then (if eh_in (O + t1.1) npm then Option.bind (eF_12_storeAt t1.2 h (addr + t1.1) 1 (t1.2.1 pm (eh_ix (O + t1.1)))) (fun q6 => eh_V ((t1.1 + 1) : Int32) (fun x7 => r4 (x7, q6))) else none) else (some t1.2)
theorem ep_cwrite_eq (s : eh_F) (th : Nat) (addr : Int32) (p np n : Nat) : eF_3_write s th addr p np (nI n) = Option.bind (eh_loop (ep_WB n th addr p np) eh_FU (nI 0, s)) (fun e2 => some e2) := rfl
theorem ep_mwrite_eq (s : eh_F) (h addr : Int32) (pm npm n : Nat) (O : Int32) : eF_12_writeTo s h addr pm npm O (nI n) = Option.bind (eh_loop (ep_WM n h addr pm npm O) eh_FU (nI 0, s)) (fun e2 => some e2) := rfl
theorem ep_WB_end (n th : Nat) (addr : Int32) (p np : Nat) (hn : n < 1000) (fu : Nat) (s : eh_F) : eh_loop (ep_WB n th addr p np) (fu + 1) (nI n, s) = some s := by
  rw [ep_loopS]
  unfold ep_WB
  show (if nI n < nI n then _ else _) = _
  rw [if_neg (nI_nlt (Nat.le_refl _) (by omega))]
theorem ep_WM_end (n : Nat) (h addr : Int32) (pm npm : Nat) (O : Int32) (hn : n < 1000) (fu : Nat) (s : eh_F) : eh_loop (ep_WM n h addr pm npm O) (fu + 1) (nI n, s) = some s := by
  rw [ep_loopS]
  unfold ep_WM
  show (if nI n < nI n then _ else _) = _
  rw [if_neg (nI_nlt (Nat.le_refl _) (by omega))]
/-- n bytes, from place a1 of the class's row and place a2 of the reference's -/
theorem ep_wseg {N : Nat} {c : ep_C} {m : ep_M} (hR : ep_R N c m) {n : Nat} (hN : N + n < 2 ^ 28) {h t e : Nat} (ho : ep_On m h t e) (addr1 addr2 : Int32) (a1 a2 n1 n2 : Nat) (h1 : a1 + n ≤ n1) (h2 : a2 + n ≤ n2) (hn1 : n1 ≤ 128) (hn2 : n2 ≤ 128) (hu : ∀ k, k < n → ep_u addr1 + (a1 + k) < 131072) (hadr : ep_u addr2 + a2 = ep_u addr1 + a1) (p np pm npm off : Nat) (f : Nat → Int32) (hrd : ∀ X Y g v m0, (ep_mk (ep_cw c X Y g v) m0).1 p = f) (hnp : n1 ≤ 4 * np ∧ np < 1000) (hpm : 127 < pm ∧ pm ≠ 128 ∧ pm ≠ 147 ∧ pm ≠ 173) (hin : off + n2 ≤ npm) (hnpm : npm < 1000000) (hb : ∀ k, k < n → eh_ushr (f ((a1 + k) / 4)) (nI (24 - 8 * ((a1 + k) % 4))) &&& 255 = m.1 pm (off + (a2 + k)) &&& 255) : ∃ c' m', ep_W (N + n) c m c' m' ∧ (∀ m0 fu, eh_loop (ep_WB n1 (eh_fp (nI t)) addr1 p np) (fu + n) (nI a1, ep_mk c m0) = eh_loop (ep_WB n1 (eh_fp (nI t)) addr1 p np) fu (nI (a1 + n), ep_mk c' m0)) ∧ (∀ c0 fu, eh_loop (ep_WM n2 (nI h) addr2 pm npm (nI off)) (fu + n) (nI a2, ep_mk c0 m) = eh_loop (ep_WM n2 (nI h) addr2 pm npm (nI off)) fu (nI (a2 + n), ep_mk c0 m')) := by
  have key := ep_part (B1 := ep_WB n1 (eh_fp (nI t)) addr1 p np) (B2 := ep_WM n2 (nI h) addr2 pm npm (nI off)) (fun i s => (nI (a1 + i), s)) (fun i s => (nI (a2 + i), s)) (fun i c' m' => ep_W (N + i) c m c' m') n 0 c m ?_ (ep_W_rf hR)
  · obtain ⟨c', m', q1, q2, q3⟩ := key
    rw [Nat.zero_add] at q1
    refine ⟨c', m', q1, fun m0 fu => ?_, fun c0 fu => ?_⟩
    · have := q2 m0 fu
      simp only [Nat.add_zero, Nat.zero_add] at this
      exact this
    · have := q3 c0 fu
      simp only [Nat.add_zero, Nat.zero_add] at this
      exact this
  · intro i c1 m1 _ hi hW
    rw [Nat.zero_add] at hi
    have ho1 := ep_W_On hW ho
    have hui := hu i hi
    obtain ⟨⟨X, Y, g, v, hc1⟩, ⟨X', Y', g', v', hm1⟩, hR1⟩ := hW
    have hW : ep_W (N + i) c m c1 m1 := ⟨⟨X, Y, g, v, hc1⟩, ⟨X', Y', g', v', hm1⟩, hR1⟩
    have hmp : m1.1 pm = m.1 pm := by rw [hm1]; exact ep_mw_o _ _ _ _ _ _ ⟨by omega, hpm.2⟩
    have hcp : ∀ m0, (ep_mk c1 m0).1 p = f := fun m0 => by rw [hc1]; exact hrd X Y g v m0
    have hv : (eh_ushr (f ((a1 + i) / 4)) (nI (24 - 8 * ((a1 + i) % 4))) &&& 255) &&& 255 = m1.1 pm (off + (a2 + i)) &&& 255 := by rw [ep_255, hmp]; exact hb i hi
    obtain ⟨c2, m2, x, y, d⟩ := ep_storeFor1 hR1 (by omega) ho1 hui hv
    refine ⟨c2, m2, ep_W_tr hW d, fun m0 rec => ?_, fun c0 rec => ?_⟩
    · have z1 : nI (a1 + i) / 4 = nI ((a1 + i) / 4) := ep_divn (a := a1 + i) (d := 4) (by omega) (by decide) (by decide)
      have z2 : nI ((a1 + i) / 4) < Int32.ofNat np := nI_lt (b := np) (by omega) (by omega)
      have z3 : (24 : Int32) - 8 * (nI (a1 + i) &&& 3) = nI (24 - 8 * ((a1 + i) % 4)) := by
        rw [ep_and3 (by omega), ep_mul (a := (a1 + i) % 4) (b := 8) (y := 8) rfl rfl]
        exact pk_sub (a := 24) (by omega)
      unfold ep_WB
      show (if nI (a1 + i) < nI n1 then _ else _) = _
      rw [if_pos (nI_lt (by omega) (by omega)), z1, if_pos z2, if_pos (ep_in (show (a1 + i) / 4 < np by omega) (by omega)), show eh_ix (nI ((a1 + i) / 4)) = (a1 + i) / 4 from ep_ix (by omega), hcp, z3, ep_addu, x m0, ep_sb, ep_V, nI_1]
      rfl
    · unfold ep_WM
      show (if nI (a2 + i) < nI n2 then _ else _) = _
      rw [if_pos (nI_lt (by omega) (by omega)), nI_add, if_pos (ep_in (show off + (a2 + i) < npm by omega) (by omega)), show eh_ix (nI (off + (a2 + i))) = off + (a2 + i) from ep_ix (by omega), ep_rM _ _ pm (by omega), ep_addu, show ep_u addr2 + (a2 + i) = ep_u addr1 + (a1 + i) by omega, y c0, ep_sb, ep_V, nI_1]
      rfl
/-- the reference gathers a report's first 96 bytes -/
theorem ep_mgath (m : ep_M) {e : Nat} (he : e < 6) (c0 : ep_C) (K : eh_F → Option (Int32 × eh_F)) : Option.bind (eh_loop (fun (r21 : (Int32 × eh_F) → Option (eh_F)) (t7 : Int32 × eh_F) => if t7.1 < 0 then (some t7.2) else (if eh_in t7.1 128 then if eh_in (64 + t7.1) 128 then eh_V (eh_tI t7.2 195 (eh_ix (64 + t7.1)) (eh_nb (t7.2.1 195 (eh_ix t7.1)))) (fun s23 => eh_V ((t7.1 + (-1)) : Int32) (fun x24 => r21 (x24, s23))) else none else none)) eh_FU (31, ep_mk c0 m)) (fun (e8 : eh_F) => Option.bind (eh_loop (fun (r15 : (Int32 × eh_F) → Option (eh_F)) (t9 : Int32 × eh_F) => if t9.1 < 32 then (if eh_in ((32 * nI e) + t9.1) 192 then if eh_in t9.1 128 then eh_V (eh_tI t9.2 195 (eh_ix t9.1) (eh_nb (t9.2.1 159 (eh_ix ((32 * nI e) + t9.1))))) (fun s17 => if eh_in ((32 * nI e) + t9.1) 192 then if eh_in (32 + t9.1) 128 then eh_V (eh_tI s17 195 (eh_ix (32 + t9.1)) (eh_nb (s17.1 160 (eh_ix ((32 * nI e) + t9.1))))) (fun s18 => eh_V ((t9.1 + 1) : Int32) (fun x19 => r15 (x19, s18))) else none else none) else none else none) else (some t9.2)) eh_FU (0, e8)) K) = K (ep_mk c0 (ep_mL m 195 (fun j => if j < 32 then eh_nb (m.1 159 (32 * e + j)) else if j < 64 then eh_nb (m.1 160 (32 * e + (j - 32))) else if j < 96 then eh_nb (m.1 195 (j - 64)) else m.1 195 j))) := by
  have e32 : (32 : Int32) * nI e = nI (32 * e) := ep_mul (b := 32) rfl rfl
  rw [e32]
  refine ep_bnd (v := ep_mk c0 (ep_mL m 195 (fun j => if 64 ≤ j ∧ j < 96 then eh_nb (m.1 195 (j - 64)) else m.1 195 j))) ?_ ?_
  · refine ep_loop (fun i => (31 - nI i, ep_mk c0 (ep_mL m 195 (fun j => if 96 - i ≤ j ∧ j < 96 then eh_nb (m.1 195 (j - 64)) else m.1 195 j)))) 32 _ (ep_FU _ (by decide)) ?_ ?_ ?_
    · intro i hi rec
      have z0 : (31 : Int32) - nI i = nI (31 - i) := pk_sub (a := 31) (by omega)
      have z1 : nI (31 - i) + (-1) = 31 - nI (i + 1) := (by decide : ∀ i : Fin 32, nI (31 - i.val) + (-1) = 31 - nI (i.val + 1)) ⟨i, hi⟩
      have z2 : (64 : Int32) + nI (31 - i) = nI (64 + (31 - i)) := by rw [show (64 : Int32) = nI 64 from rfl, nI_add]
      show (if 31 - nI i < 0 then _ else _) = _
      rw [z0, if_neg (nI_pos (by omega)), if_pos (ep_in (show 31 - i < 128 by omega) (by decide)), z2, if_pos (ep_in (show 64 + (31 - i) < 128 by omega) (by decide)), show eh_ix (nI (31 - i)) = 31 - i from ep_ix (by omega), show eh_ix (nI (64 + (31 - i))) = 64 + (31 - i) from ep_ix (by omega), ep_V, ep_V, ep_rM _ _ 195 (by decide), ep_iM _ _ _ _ _ (by decide), ep_mL1, ep_mLI, z1]
      congr 4
      funext j
      unfold upd
      dsimp only
      by_cases y : j = 64 + (31 - i)
      · rw [if_pos y, if_neg (by omega), if_pos (by omega), show j - 64 = 31 - i by omega]
      · rw [if_neg y]
        by_cases w : 96 - i ≤ j ∧ j < 96
        · rw [if_pos w, if_pos (by omega)]
        · rw [if_neg w, if_neg (by omega)]
    · intro rec
      show (if 31 - nI 32 < 0 then _ else _) = _
      rw [if_pos (by decide)]
    · show (31, _) = (31 - nI 0, ep_mk c0 (ep_mL m 195 _))
      rw [show (31 : Int32) - nI 0 = 31 by decide]
      congr 2
      refine (ep_mLid m 195).symm.trans ?_
      congr 1
      funext j
      rw [if_neg (by omega)]
  · refine ep_bnd (v := ep_mk c0 (ep_mL m 195 (fun j => if j < 32 then eh_nb (m.1 159 (32 * e + j)) else if j < 64 then eh_nb (m.1 160 (32 * e + (j - 32))) else if j < 96 then eh_nb (m.1 195 (j - 64)) else m.1 195 j))) ?_ rfl
    refine ep_loop (fun i => (nI i, ep_mk c0 (ep_mL m 195 (fun j => if j < i then eh_nb (m.1 159 (32 * e + j)) else if 32 ≤ j ∧ j < 32 + i then eh_nb (m.1 160 (32 * e + (j - 32))) else if 64 ≤ j ∧ j < 96 then eh_nb (m.1 195 (j - 64)) else m.1 195 j)))) 32 _ (ep_FU _ (by decide)) ?_ ?_ ?_
    · intro i hi rec
      have z2 : (32 : Int32) + nI i = nI (32 + i) := by rw [show (32 : Int32) = nI 32 from rfl, nI_add]
      show (if nI i < 32 then _ else _) = _
      rw [if_pos (show nI i < 32 from nI_lt (b := 32) hi (by decide)), nI_add, if_pos (ep_in (show 32 * e + i < 192 by omega) (by decide)), if_pos (ep_in (show i < 128 by omega) (by decide)), show eh_ix (nI i) = i from ep_ix (by omega), show eh_ix (nI (32 * e + i)) = 32 * e + i from ep_ix (by omega), ep_V, ep_rM _ _ 159 (by decide), ep_iM _ _ _ _ _ (by decide), ep_mLn _ _ _ _ (by decide), ep_mLI, if_pos (ep_in (show 32 * e + i < 192 by omega) (by decide)), z2, if_pos (ep_in (show 32 + i < 128 by omega) (by decide)), show eh_ix (nI (32 + i)) = 32 + i from ep_ix (by omega), ep_V, ep_rM _ _ 160 (by decide), ep_iM _ _ _ _ _ (by decide), ep_mLn _ _ _ _ (by decide), ep_mLI, ep_V, nI_1]
      congr 4
      funext j
      unfold upd
      dsimp only
      by_cases y1 : j = 32 + i
      · rw [if_pos y1, if_neg (by omega), if_pos (by omega), show j - 32 = i by omega]
      · rw [if_neg y1]
        by_cases y2 : j = i
        · rw [if_pos y2, if_pos (by omega), y2]
        · rw [if_neg y2]
          by_cases y3 : j < i
          · rw [if_pos y3, if_pos (by omega)]
          · rw [if_neg y3, if_neg (show ¬ j < i + 1 by omega)]
            by_cases y4 : 32 ≤ j ∧ j < 32 + i
            · rw [if_pos y4, if_pos (by omega)]
            · rw [if_neg y4, if_neg (show ¬ (32 ≤ j ∧ j < 32 + (i + 1)) by omega)]
    · intro rec
      show (if nI 32 < 32 then _ else _) = _
      rw [if_neg (by decide)]
      show some (ep_mk c0 (ep_mL m 195 _)) = some (ep_mk c0 (ep_mL m 195 _))
      congr 3
      funext j
      by_cases y1 : j < 32
      · rw [if_pos y1, if_pos y1]
      · rw [if_neg y1, if_neg y1]
        by_cases y2 : j < 64
        · rw [if_pos y2, if_pos (by omega)]
        · rw [if_neg y2, if_neg (by omega)]
          by_cases y3 : j < 96
          · rw [if_pos y3, if_pos (by omega)]
          · rw [if_neg y3, if_neg (by omega)]
    · show _ = (nI 0, ep_mk c0 (ep_mL m 195 _))
      congr 3
      funext j
      rw [if_neg (show ¬ j < 0 by omega), if_neg (show ¬ (32 ≤ j ∧ j < 32 + 0) by omega)]
/-! attest; extend -/
theorem ep_rb_L {m M : ep_M} (hL : ep_L m M) (P : Nat → Int32) (e u : Nat) (a : Int32) (n : Nat) : ep_rb M P e u a n = ep_rb m P e u a n := by
  unfold ep_rb
  rw [ep_Lk hL 164 (by omega), ep_Lk hL 167 (by omega), ep_Lk hL 168 (by omega), ep_Lk hL 169 (by omega)]
theorem ep_cpy8 {f g : Nat → Int32} {d : Nat} (j : Nat) : va_cpy f g 0 d 8 j = if d ≤ j ∧ j < d + 8 then f (j - d) else g j := by
  unfold va_cpy
  rw [Nat.zero_add]
theorem ep_attest_ {N : Nat} {c : ep_C} {m : ep_M} (hR : ep_R N c m) (hN : N + 200 < 2 ^ 28) {h t e : Nat} (ho : ep_On m h t e) (p q : Int32) : ep_Tc (N + 128) h t e c m (fun s => eF_3_attest s (eh_fp (nI t)) p q) (fun s => eF_12_attest s (nI h) (nI e) p q) := by
  have ht := ho.2.1
  have he := ho.2.2.1
  have hto := ho.2.2.2.2.1
  have i6 : eh_in (nI e) 6 = true := ep_in he (by decide)
  have f3 : ∀ m0, (ep_mk c m0).1 (eh_fp (nI t)) 3 = nI e := fun m0 => by rw [ep_rF0 _ _ ht, (hR.2.2.2.2.2.2.2.2.2.2.1 t ht).2.2.1, hto]
  obtain ⟨M1, hL1, hM1, hB1⟩ := ep_mcanR hR ho p (n := 32) (by decide)
  cases hb1 : ep_rb m (c.1 10) e (ep_u p) 1 32 with
  | false =>
    refine ep_Tc_mono (ep_Tc_no hR ho hL1 (-1) (fun m0 => ?_) (fun c0 => ?_)) (by omega)
    · show eF_3_attest (ep_mk c m0) _ _ _ = _
      unfold eF_3_attest
      refine ep_bnd (ep_creaches hR ht he hto p 1 (n := 32) (by decide) m0) ?_
      rw [hb1, ep_J, if_pos ep_bf]
    · show eF_12_attest (ep_mk c0 m) _ _ _ _ = _
      unfold eF_12_attest
      refine ep_bnd (hM1 c0) ?_
      rw [hb1, ep_J, if_pos ep_bf]
  | true =>
    have R1 := ep_R_L hR hL1
    obtain ⟨M2, ⟨hL2, h195⟩, hM2⟩ := ep_mcanW R1 (ep_On_L hL1 ho) q (n := 128) (by decide)
    rw [ep_rb_L hL1] at hM2
    have L12 := ep_L_tr hL1 hL2
    cases hb2 : ep_rb m (c.1 10) e (ep_u q) 2 128 with
    | false =>
      refine ep_Tc_mono (ep_Tc_no hR ho L12 (-1) (fun m0 => ?_) (fun c0 => ?_)) (by omega)
      · show eF_3_attest (ep_mk c m0) _ _ _ = _
        unfold eF_3_attest
        refine ep_bnd (ep_creaches hR ht he hto p 1 (n := 32) (by decide) m0) ?_
        rw [hb1, ep_J, if_neg ep_bt]
        refine ep_bnd (ep_creaches hR ht he hto q 2 (n := 128) (by decide) m0) ?_
        rw [hb2, if_pos ep_bf]
      · show eF_12_attest (ep_mk c0 m) _ _ _ _ = _
        unfold eF_12_attest
        refine ep_bnd (hM1 c0) ?_
        rw [hb1, ep_J, if_neg ep_bt]
        refine ep_bnd (hM2 c0) ?_
        rw [hb2, if_pos ep_bf]
    | true =>
      have hbyte := hB1 hb1
      obtain ⟨f1, hf1⟩ : ∃ f1 : Nat → Int32, f1 = va_cpy (c.2.1 10 e) (va_cpy (c.2.1 9 e) (c.1 36) 0 0 8) 0 8 8 := ⟨_, rfl⟩
      obtain ⟨f2, hf2⟩ : ∃ f2 : Nat → Int32, f2 = ep_in_ f1 16 8 fun j => ep_bw (m.1 128) (ep_u p + 4 * j) := ⟨_, rfl⟩
      obtain ⟨G, hG⟩ : ∃ G : Nat → Int32, G = fun j => if j < 32 then eh_nb (M2.1 159 (32 * e + j)) else if j < 64 then eh_nb (M2.1 160 (32 * e + (j - 32))) else if j < 96 then eh_nb (M2.1 195 (j - 64)) else M2.1 195 j := ⟨_, rfl⟩
      have hrd : ∀ m0, eF_3_read (ep_mk (ep_cL c 36 f1) m0) p 32 36 32 16 = some (ep_mk (ep_cL c 36 f2) m0) := fun m0 => by
        rw [hf2]
        exact ep_cread (c := ep_cL c 36 f1) (m := m) p (k := 8) (by decide) (ep_rb_u hb1) 36 32 16 (fun g => ep_cL c 36 g) (fun g m0 => by rw [ep_rC1 _ _ _ (by decide), ep_cL1]) (fun g m0 j v => by rw [ep_iC1 _ _ _ _ _ (by decide), ep_cLI]) (fun g => hR.1) (old := f1) rfl (by decide) (by decide) m0
      have hw : ∀ j, j < 24 → f2 j = ep_bw G (0 + 4 * j) := by
        intro j hj
        rw [Nat.zero_add, hf2]
        unfold ep_in_
        by_cases y1 : 16 ≤ j
        · rw [if_pos (by omega)]
          refine ep_bw_255 fun i hi => ?_
          rw [hG]
          show _ = (if 4 * j + i < 32 then _ else _) &&& 255
          rw [if_neg (by omega), if_neg (by omega), if_pos (by omega), h195, hbyte _ (by omega), ep_nb255, ep_nb255, show ep_u p + (4 * j + i - 64) = ep_u p + 4 * (j - 16) + i by omega]
        · rw [if_neg (by omega), hf1, ep_cpy8]
          by_cases y2 : 8 ≤ j
          · rw [if_pos (by omega), hR.2.2.2.2.2.2.2.2.2.2.2.2.2.2.2.2.2.2.2.1 e he (j - 8) (by omega)]
            refine ep_bw_255 fun i hi => ?_
            rw [hG]
            show _ = (if 4 * j + i < 32 then _ else _) &&& 255
            rw [if_neg (by omega), if_pos (by omega), ep_Lk L12 160 (by omega), ep_nb255, show 32 * e + (4 * j + i - 32) = 32 * e + 0 + 4 * (j - 8) + i by omega]
          · rw [if_neg (by omega), ep_cpy8, if_pos (by omega), Nat.sub_zero, hR.2.2.2.2.2.2.2.2.2.2.2.2.2.2.2.2.2.2.1 e he j (by omega)]
            refine ep_bw_255 fun i hi => ?_
            rw [hG]
            show _ = (if 4 * j + i < 32 then _ else _) &&& 255
            rw [if_pos (by omega), ep_Lk L12 159 (by omega), ep_nb255, show 32 * e + (4 * j + i) = 32 * e + 0 + 4 * j + i by omega]
      obtain ⟨c4, m4, a4, b4, K4, L4, r4, e4, g4, -⟩ := ep_seal (c1 := ep_cL c 36 f2) (m1 := ep_mL M2 195 G) hR (ep_K_36 _ _) (ep_L_tr L12 (ep_L_mL _ (by decide))) (fun j hj => by rw [ep_cL1, ep_mL1]; exact hw j hj)
      rw [ep_cL1] at e4
      rw [ep_mL1] at g4
      obtain ⟨f5, hf5⟩ : ∃ f5 : Nat → Int32, f5 = va_cpy (c4.1 35) f2 0 24 8 := ⟨_, rfl⟩
      have K5 : ep_K c (ep_cL c4 36 f5) := ep_K_tr K4 (ep_K_36 _ _)
      have ho4 := ep_On_L L4 ho
      obtain ⟨c6, m6, W6, q2, q3⟩ := ep_wseg (ep_R_L (ep_R_K hR K5) L4) (n := 96) (by omega) ho4 q q 0 0 128 96 (by decide) (by decide) (by decide) (by decide) (fun k hk => by have := ep_rb_u hb2 k (by omega); omega) rfl 36 32 195 128 0 f5 (fun X Y g v m0 => by rw [ep_rC1 _ _ _ (by decide), ep_cw_o _ _ _ _ _ _ (by decide), ep_cL1]) (by decide) (by decide) (by decide) (by decide) (fun k hk => by
        simp only [Nat.zero_add]
        rw [g4, hf5, ep_cpy8, if_neg (by omega), hw (k / 4) (by omega)]
        have := ep_bw_byte G 0 k
        simp only [Nat.zero_add] at this ⊢
        exact this)
      have ho6 := ep_W_On W6 ho4
      have h194 : m6.1 194 = m4.1 194 := by
        obtain ⟨-, ⟨X', Y', g', v', hm6⟩, -⟩ := W6
        rw [hm6]; exact ep_mw_o _ _ _ _ _ _ (by decide)
      have hq96 : ep_u (q + 96) = ep_u q + 96 := by
        have := ep_rb_u hb2 96 (by decide)
        exact ep_uadd (k := 96) (by omega)
      obtain ⟨c7, m7, W7, r2, r3⟩ := ep_wseg (ep_R_W W6) (n := 32) (by omega) ho6 q (q + 96) 96 0 128 32 (by decide) (by decide) (by decide) (by decide) (fun k hk => by have := ep_rb_u hb2 (96 + k) (by omega); omega) (by rw [hq96]) 36 32 194 32 0 f5 (fun X Y g v m0 => by
        obtain ⟨⟨X', Y', g', v', hc6⟩, -, -⟩ := W6
        rw [ep_rC1 _ _ _ (by decide), ep_cw_o _ _ _ _ _ _ (by decide), hc6, ep_cw_o _ _ _ _ _ _ (by decide), ep_cL1]) (by decide) (by decide) (by decide) (by decide) (fun k hk => by
        rw [h194, hf5, ep_cpy8, if_pos (by omega), show (96 + k) / 4 - 24 = k / 4 by omega, show (96 + k) % 4 = k % 4 by omega]
        have := ep_row8 (b := m4.1 194) (off := 0) r4 k hk
        simp only [Nat.zero_add] at this ⊢
        exact this)
      have W8 := ep_W_tr W6 W7
      have cl : ∀ m0, eF_3_write (ep_mk (ep_cL c4 36 f5) m0) (eh_fp (nI t)) q 36 32 128 = some (ep_mk c7 m0) := fun m0 => by
        refine (ep_cwrite_eq _ _ _ _ _ 128).trans ?_
        refine ep_bnd (v := ep_mk c7 m0) ?_ rfl
        rw [show eh_FU = 1099511627647 + 1 + 32 + 96 from rfl, q2 m0]
        show eh_loop _ _ (nI 96, _) = _
        rw [r2 m0]
        exact ep_WB_end 128 _ _ _ _ (by decide) _ _
      have ml1 : ∀ c0, eF_12_writeTo (ep_mk c0 m4) (nI h) q 195 128 0 96 = some (ep_mk c0 m6) := fun c0 => by
        refine (ep_mwrite_eq _ _ _ _ _ 96 _).trans ?_
        refine ep_bnd (v := ep_mk c0 m6) ?_ rfl
        rw [show eh_FU = 1099511627679 + 1 + 96 from rfl]
        refine (q3 c0 _).trans ?_
        exact ep_WM_end 96 _ _ _ _ _ (by decide) _ _
      have ml2 : ∀ c0, eF_12_writeTo (ep_mk c0 m6) (nI h) (q + 96) 194 32 0 32 = some (ep_mk c0 m7) := fun c0 => by
        refine (ep_mwrite_eq _ _ _ _ _ 32 _).trans ?_
        refine ep_bnd (v := ep_mk c0 m7) ?_ rfl
        rw [show eh_FU = 1099511627743 + 1 + 32 from rfl]
        refine (r3 c0 _).trans ?_
        exact ep_WM_end 32 _ _ _ _ _ (by decide) _ _
      refine ⟨0, c7, m7, fun m0 => ?_, fun c0 => ?_, W7.2.2, ep_Fm_tr (ep_Fm_L L4 ho) (ep_Fm_W W8 ho4)⟩
      · show eF_3_attest (ep_mk c m0) _ _ _ = _
        unfold eF_3_attest
        refine ep_bnd (ep_creaches hR ht he hto p 1 (n := 32) (by decide) m0) ?_
        rw [hb1, ep_J, if_neg ep_bt]
        refine ep_bnd (ep_creaches hR ht he hto q 2 (n := 128) (by decide) m0) ?_
        rw [hb2, if_neg ep_bt, f3, if_pos i6, if_pos (by decide), ep_V, ep_rE _ _ 5 he (by decide), ep_rC1 _ _ 36 (by decide), ep_wC1 _ _ _ _ (by decide), if_pos (by decide), ep_V, ep_rE _ _ 6 he (by decide), ep_rC1 _ _ 36 (by decide), ep_wC1 _ _ _ _ (by decide), ep_cL1, ep_cLL]
        have hx : va_cpy ((ep_cL c 36 (va_cpy (c.2.1 (4 + 5) e) (c.1 36) (eh_ix 0) (eh_ix 0) (eh_ix 8))).2.1 (4 + 6) e) (va_cpy (c.2.1 (4 + 5) e) (c.1 36) (eh_ix 0) (eh_ix 0) (eh_ix 8)) (eh_ix 0) (eh_ix 8) (eh_ix 8) = f1 := by rw [hf1]; rfl
        rw [hx]
        refine ep_bnd (hrd m0) ?_
        rw [a4 m0, ep_sb, if_pos (by decide), ep_V, ep_rC1 _ _ 35 (by decide), ep_rC1 _ _ 36 (by decide), e4, ep_wC1 _ _ _ _ (by decide)]
        have hy : va_cpy (c4.1 35) f2 (eh_ix 0) (eh_ix 24) (eh_ix 8) = f5 := by rw [hf5]; rfl
        rw [hy]
        exact ep_bnd (cl m0) rfl
      · show eF_12_attest (ep_mk c0 m) _ _ _ _ = _
        unfold eF_12_attest
        refine ep_bnd (hM1 c0) ?_
        rw [hb1, ep_J, if_neg ep_bt]
        refine ep_bnd (hM2 c0) ?_
        rw [hb2, if_neg ep_bt]
        refine (ep_mgath M2 he c0 _).trans ?_
        rw [← hG, b4 c0, ep_sb]
        refine ep_bnd (ml1 c0) ?_
        exact ep_bnd (ml2 c0) rfl
/-! the record of an enclave -/
theorem ep_tsbegin (c : ep_C) (m : ep_M) : ∃ c' m', (∀ m0, eF_9_begin (ep_mk c m0) 29 = some (ep_mk c' m0)) ∧ (∀ c0, eF_12_begin (ep_mk c0 m) 6 = some (ep_mk c0 m')) ∧ ep_K c c' ∧ ep_L m m' ∧ ep_SS c' m' ep_st0 ∧ ep_Z3 c c' m m' := by
  obtain ⟨f, f1, f2⟩ := ep_cbegin
  obtain ⟨H, B, W, L, a, b, d⟩ := ep_mbegin (m := m) (e := 6) (by decide)
  refine ⟨ep_s29 c 0 (f (c.1 30)) (c.1 31), ep_mS m H B W L, fun m0 => ?_, a, ep_K_29 _ _ _ _, ep_L_mS (by decide) d, ⟨f1 _ _, b⟩, rfl, rfl, rfl⟩
  rw [f2, ep_t3_b, (ep_r29 c m0).1, (ep_r29 c m0).2.1, ep_t3_29]
theorem ep_tswords {c : ep_C} {m : ep_M} {st : ep_St} (hS : ep_SS c m st) (hk : ep_ok st) (hal : st.2.2 % 4 = 0) (k : Nat) (hk0 : k < 1000) (hn : st.2.2 + 4 * k < 2 ^ 28) (p np pm npm off : Nat) (f : Nat → Int32) (hp : p ≠ 29 ∧ p ≠ 30 ∧ p ≠ 31) (hrd : ∀ m0, (ep_mk c m0).1 p = f) (hnp : k ≤ np ∧ np < 1000) (hpm : 127 ≤ pm ∧ pm ≠ 188 ∧ pm ≠ 189 ∧ pm ≠ 191) (hin : off + 4 * k ≤ npm) (hnpm : npm < 1000000) (hw : ∀ j, j < k → f j = ep_bw (m.1 pm) (off + 4 * j)) : ∃ c' m', (∀ m0, eF_9_feedWords (ep_mk c m0) 29 p np (nI k) = some (ep_mk c' m0)) ∧ (∀ c0, eF_12_addBytes (ep_mk c0 m) 6 pm npm (nI off) (nI (4 * k)) = some (ep_mk c0 m')) ∧ ep_K c c' ∧ ep_L m m' ∧ ep_SS c' m' (ep_puts st (ep_wds f k)) ∧ ep_Z3 c c' m m' := by
  obtain ⟨h', w', n', a, b⟩ := ep_cfeedWords hS.1 hk hal f k hk0 hn
  obtain ⟨H, B, W, L, x, y, z⟩ := ep_maddBytes (e := 6) (by decide) hS.2 hk pm npm off (4 * k) hn hpm.1 hpm.2.1 hpm.2.2.1 hpm.2.2.2 hin hnpm
  refine ⟨ep_s29 c n' h' w', ep_mS m H B W L, fun m0 => ?_, x, ep_K_29 _ _ _ _, ep_L_mS (by decide) z, ⟨a, ?_⟩, rfl, rfl, rfl⟩
  · rw [b _ 29 p np hp.1 hp.2.1 hp.2.2 hnp.1 hnp.2 (fun i hi => by rw [hrd]) (ep_r29 c m0).1 (ep_r29 c m0).2.1 (ep_r29 c m0).2.2, ep_t3_29]
  · have := ep_puts_bw (f := fun i => m.1 pm (off + i)) (g := f) k (fun j hj => by
      rw [hw j hj]; unfold ep_bw; simp only [Nat.add_assoc]) st
    rw [← this]; exact y
theorem ep_extend_ {N : Nat} {c : ep_C} {m : ep_M} (hR : ep_R N c m) {h t e : Nat} (ho : ep_On m h t e) (p : Int32) : ep_Tc N h t e c m (fun s => eF_3_extend s (eh_fp (nI t)) p) (fun s => Option.bind (eF_12_canRead s (nI h) p 32) (fun q71 => if q71.1 = 0 then (some ((-1 : Int32), q71.2)) else (Option.bind (eF_12_begin q71.2 6) (fun q73 => Option.bind (eF_12_addBytes q73 6 160 192 (32 * nI e) 32) (fun q74 => Option.bind (eF_12_addBytes q74 6 195 128 0 32) (fun q75 => Option.bind (eF_12_finish q75 6 160 192 (32 * nI e)) (fun q76 => some (0, q76)))))))) := by
  have ht := ho.2.1
  have he := ho.2.2.1
  have hto := ho.2.2.2.2.1
  have i6 : eh_in (nI e) 6 = true := ep_in he (by decide)
  have e32 : (32 : Int32) * nI e = nI (32 * e) := ep_mul (b := 32) rfl rfl
  obtain ⟨M, hL, hM, hB⟩ := ep_mcanR hR ho p (n := 32) (by decide)
  cases hb : ep_rb m (c.1 10) e (ep_u p) 1 32 with
  | false =>
    refine ep_Tc_no hR ho hL (-1) (fun m0 => ?_) (fun c0 => ?_)
    · show eF_3_extend (ep_mk c m0) _ _ = _
      unfold eF_3_extend
      refine ep_bnd (ep_creaches hR ht he hto p 1 (n := 32) (by decide) m0) ?_
      rw [hb, if_pos ep_bf]
    · refine ep_bnd (hM c0) ?_
      rw [hb, if_pos ep_bf]
  | true =>
    have hbyte := hB hb
    obtain ⟨f1, hf1⟩ : ∃ f1 : Nat → Int32, f1 = ep_in_ (c.1 126) 0 8 fun j => ep_bw (m.1 128) (ep_u p + 4 * j) := ⟨_, rfl⟩
    have hrd : ∀ m0, eF_3_read (ep_mk c m0) p 32 126 8 0 = some (ep_mk (ep_cL c 126 f1) m0) := fun m0 => by
      rw [hf1]
      exact ep_cread (c := c) (m := m) p (k := 8) (by decide) (ep_rb_u hb) 126 8 0 (fun g => ep_cL c 126 g) (fun g m0 => by rw [ep_rC2 _ _ _ (by decide) (by decide), ep_cL1]) (fun g m0 j v => by rw [ep_iC2 _ _ _ _ _ (by decide) (by decide), ep_cLI]) (fun g => hR.1) (old := c.1 126) (ep_cLid c 126) (by decide) (by decide) m0
    have K1 := ep_K_126 c f1
    obtain ⟨c2, m2, a2, b2, k2, l2, s2, z2⟩ := ep_tsbegin (ep_cL c 126 f1) M
    have K2 := ep_K_tr K1 k2
    have L2 := ep_L_tr hL l2
    obtain ⟨c3, m3, a3, b3, k3, l3, s3, z3⟩ := ep_tswords s2 ep_st0_ok rfl 8 (by decide) (by decide) (eh_ep (nI e) + 6) 8 160 192 (32 * e) (c.2.1 10 e) ⟨ep_en_ne 6 29 (by decide) he (by decide), ep_en_ne 6 30 (by decide) he (by decide), ep_en_ne 6 31 (by decide) he (by decide)⟩ (ep_KE K2 6 he (by decide)) (by decide) (by decide) (by omega) (by decide) (by
      intro j hj
      rw [ep_Lk L2 160 (by omega)]
      exact hR.2.2.2.2.2.2.2.2.2.2.2.2.2.2.2.2.2.2.2.1 e he j hj)
    have K3 := ep_K_tr K2 k3
    have L3 := ep_L_tr L2 l3
    have Z3 := ep_Z3_tr z2 z3
    have hk3 := ep_puts_ok (ep_wds (c.2.1 10 e) 8) ep_st0_ok (by rw [ep_wds_len]; decide)
    have hl3 : (ep_puts ep_st0 (ep_wds (c.2.1 10 e) 8)).2.2 = 32 := by rw [ep_puts_len, ep_wds_len]; rfl
    obtain ⟨c4, m4, a4, b4, k4, l4, s4, z4⟩ := ep_tswords s3 hk3 (by rw [hl3]) 8 (by decide) (by rw [hl3]; decide) 126 8 195 128 0 f1 (by decide) (fun m0 => by rw [ep_rC2 _ _ _ (by decide) (by decide), Z3.2.1, ep_cL1]) (by decide) (by decide) (by decide) (by decide) (by
      intro j hj
      rw [Z3.2.2, hf1]
      unfold ep_in_
      rw [if_pos (by omega), Nat.sub_zero, Nat.zero_add]
      refine ep_bw_255 fun i hi => ?_
      rw [hbyte _ (by omega), ep_nb255, Nat.add_assoc])
    have K4 := ep_K_tr K3 k4
    have L4 := ep_L_tr L3 l4
    have hk4 := ep_puts_ok (ep_wds f1 8) hk3 (by rw [hl3, ep_wds_len]; decide)
    have hl4 : (ep_puts (ep_puts ep_st0 (ep_wds (c.2.1 10 e) 8)) (ep_wds f1 8)).2.2 = 64 := by rw [ep_puts_len, ep_wds_len, hl3]
    obtain ⟨c5, m5, a5, b5, k5, l5⟩ := ep_ssend s4 hk4 (by rw [hl4]; decide) (eh_ep (nI e) + 6) 160 192 (32 * e) ⟨ep_en_ne 6 29 (by decide) he (by decide), ep_en_ne 6 30 (by decide) he (by decide), ep_en_ne 6 31 (by decide) he (by decide)⟩ (by decide) (by omega) (by decide)
    have K5 := ep_K_tr K4 k5
    have L5 := ep_L_tr L4 l5
    generalize ep_fin (ep_puts (ep_puts ep_st0 (ep_wds (c.2.1 10 e) 8)) (ep_wds f1 8)) = T at a5 b5
    have R5 := ep_R_L (ep_R_K hR K5) L5
    have h160 : m4.1 160 = m5.1 160 := (ep_Lk l5 160 (by omega)).symm
    have R6 : ep_R N (ep_cG c5 10 e (ep_w8 (c.2.1 10 e) T 8)) (ep_mL m5 160 (ep_wr (m5.1 160) (32 * e) T 32)) := by
      refine ⟨R5.1, R5.2.1, R5.2.2.1, R5.2.2.2.1, R5.2.2.2.2.1, R5.2.2.2.2.2.1, R5.2.2.2.2.2.2.1, R5.2.2.2.2.2.2.2.1, R5.2.2.2.2.2.2.2.2.1, R5.2.2.2.2.2.2.2.2.2.1, R5.2.2.2.2.2.2.2.2.2.2.1, R5.2.2.2.2.2.2.2.2.2.2.2.1, R5.2.2.2.2.2.2.2.2.2.2.2.2.1, R5.2.2.2.2.2.2.2.2.2.2.2.2.2.1, R5.2.2.2.2.2.2.2.2.2.2.2.2.2.2.1, R5.2.2.2.2.2.2.2.2.2.2.2.2.2.2.2.1, R5.2.2.2.2.2.2.2.2.2.2.2.2.2.2.2.2.1, R5.2.2.2.2.2.2.2.2.2.2.2.2.2.2.2.2.2.1, R5.2.2.2.2.2.2.2.2.2.2.2.2.2.2.2.2.2.2.1, ?_, R5.2.2.2.2.2.2.2.2.2.2.2.2.2.2.2.2.2.2.2.2.1, R5.2.2.2.2.2.2.2.2.2.2.2.2.2.2.2.2.2.2.2.2.2.1, R5.2.2.2.2.2.2.2.2.2.2.2.2.2.2.2.2.2.2.2.2.2.2.1, R5.2.2.2.2.2.2.2.2.2.2.2.2.2.2.2.2.2.2.2.2.2.2.2.1, R5.2.2.2.2.2.2.2.2.2.2.2.2.2.2.2.2.2.2.2.2.2.2.2.2.1, R5.2.2.2.2.2.2.2.2.2.2.2.2.2.2.2.2.2.2.2.2.2.2.2.2.2.1, R5.2.2.2.2.2.2.2.2.2.2.2.2.2.2.2.2.2.2.2.2.2.2.2.2.2.2.1, R5.2.2.2.2.2.2.2.2.2.2.2.2.2.2.2.2.2.2.2.2.2.2.2.2.2.2.2.1, R5.2.2.2.2.2.2.2.2.2.2.2.2.2.2.2.2.2.2.2.2.2.2.2.2.2.2.2.2.1, R5.2.2.2.2.2.2.2.2.2.2.2.2.2.2.2.2.2.2.2.2.2.2.2.2.2.2.2.2.2.1, R5.2.2.2.2.2.2.2.2.2.2.2.2.2.2.2.2.2.2.2.2.2.2.2.2.2.2.2.2.2.2.1, R5.2.2.2.2.2.2.2.2.2.2.2.2.2.2.2.2.2.2.2.2.2.2.2.2.2.2.2.2.2.2.2.1, R5.2.2.2.2.2.2.2.2.2.2.2.2.2.2.2.2.2.2.2.2.2.2.2.2.2.2.2.2.2.2.2.2.1, R5.2.2.2.2.2.2.2.2.2.2.2.2.2.2.2.2.2.2.2.2.2.2.2.2.2.2.2.2.2.2.2.2.2⟩
      refine ep_Gd_w (e := e) R5.2.2.2.2.2.2.2.2.2.2.2.2.2.2.2.2.2.2.2.1 (fun j hj => ?_) (fun e' he' y => ?_) (fun e' he' y k k1 k2 => ?_)
      · rw [ep_cGs, ep_w8_lt _ _ _ hj]
        exact (ep_bw_wr (m5.1 160) (32 * e) T j hj).symm
      · rw [ep_cGh _ _ _ _ _ y]
      · show ep_wr (m5.1 160) (32 * e) T 32 k = m5.1 160 k
        unfold ep_wr
        rw [if_neg (ep_ne32 y k1 k2)]
    refine ⟨0, _, _, fun m0 => ?_, fun c0 => ?_, R6, ep_Fm_tr (ep_Fm_L L5 ho) ⟨ep_On_L L5 ho, fun j hj => rfl, rfl⟩⟩
    · show eF_3_extend (ep_mk c m0) _ _ = _
      unfold eF_3_extend
      refine ep_bnd (ep_creaches hR ht he hto p 1 (n := 32) (by decide) m0) ?_
      rw [hb, if_neg ep_bt, ep_rF0 _ _ ht, (hR.2.2.2.2.2.2.2.2.2.2.1 t ht).2.2.1, hto, if_pos i6]
      refine ep_bnd (hrd m0) ?_
      rw [a2 m0, ep_sb]
      refine ep_bnd (a3 m0) ?_
      refine ep_bnd (a4 m0) ?_
      rw [a5 m0, ep_sb, ep_wE _ _ 6 _ he (by decide), ep_rE _ _ 6 he (by decide), K4.1]
    · refine ep_bnd (hM c0) ?_
      rw [hb, if_neg ep_bt, b2 c0, ep_sb, e32]
      refine ep_bnd (b3 c0) ?_
      refine ep_bnd (b4 c0) ?_
      rw [b5 c0, ep_sb, h160]
/-! accept, handlers, the path -/
theorem ep_R_hand {N : Nat} {c : ep_C} {m : ep_M} (hR : ep_R N c m) {t : Nat} (ht : t < 12) {v : Int32} (hv : ep_al v) : ep_R N (ep_cH c 2 t 8 v) (ep_mI m 152 t v) := by
  refine ⟨hR.1, hR.2.1, hR.2.2.1, hR.2.2.2.1, hR.2.2.2.2.1, hR.2.2.2.2.2.1, hR.2.2.2.2.2.2.1, hR.2.2.2.2.2.2.2.1, hR.2.2.2.2.2.2.2.2.1, hR.2.2.2.2.2.2.2.2.2.1, ?_, ?_, hR.2.2.2.2.2.2.2.2.2.2.2.2.1, ?_, hR.2.2.2.2.2.2.2.2.2.2.2.2.2.2.1, hR.2.2.2.2.2.2.2.2.2.2.2.2.2.2.2.1, hR.2.2.2.2.2.2.2.2.2.2.2.2.2.2.2.2.1, hR.2.2.2.2.2.2.2.2.2.2.2.2.2.2.2.2.2.1, hR.2.2.2.2.2.2.2.2.2.2.2.2.2.2.2.2.2.2.1, hR.2.2.2.2.2.2.2.2.2.2.2.2.2.2.2.2.2.2.2.1, hR.2.2.2.2.2.2.2.2.2.2.2.2.2.2.2.2.2.2.2.2.1, hR.2.2.2.2.2.2.2.2.2.2.2.2.2.2.2.2.2.2.2.2.2.1, hR.2.2.2.2.2.2.2.2.2.2.2.2.2.2.2.2.2.2.2.2.2.2.1, hR.2.2.2.2.2.2.2.2.2.2.2.2.2.2.2.2.2.2.2.2.2.2.2.1, hR.2.2.2.2.2.2.2.2.2.2.2.2.2.2.2.2.2.2.2.2.2.2.2.2.1, hR.2.2.2.2.2.2.2.2.2.2.2.2.2.2.2.2.2.2.2.2.2.2.2.2.2.1, hR.2.2.2.2.2.2.2.2.2.2.2.2.2.2.2.2.2.2.2.2.2.2.2.2.2.2.1, hR.2.2.2.2.2.2.2.2.2.2.2.2.2.2.2.2.2.2.2.2.2.2.2.2.2.2.2.1, hR.2.2.2.2.2.2.2.2.2.2.2.2.2.2.2.2.2.2.2.2.2.2.2.2.2.2.2.2.1, hR.2.2.2.2.2.2.2.2.2.2.2.2.2.2.2.2.2.2.2.2.2.2.2.2.2.2.2.2.2.1, hR.2.2.2.2.2.2.2.2.2.2.2.2.2.2.2.2.2.2.2.2.2.2.2.2.2.2.2.2.2.2.1, hR.2.2.2.2.2.2.2.2.2.2.2.2.2.2.2.2.2.2.2.2.2.2.2.2.2.2.2.2.2.2.2.1, hR.2.2.2.2.2.2.2.2.2.2.2.2.2.2.2.2.2.2.2.2.2.2.2.2.2.2.2.2.2.2.2.2.1, hR.2.2.2.2.2.2.2.2.2.2.2.2.2.2.2.2.2.2.2.2.2.2.2.2.2.2.2.2.2.2.2.2.2⟩
  · intro t' ht'
    obtain ⟨a0, a2, a3, a4, a5, a6, a8, a9⟩ := hR.2.2.2.2.2.2.2.2.2.2.1 t' ht'
    by_cases y : t' = t
    · subst y
      rw [ep_cHs]
      exact ⟨a0, a2, a3, a4, a5, a6, (by show v = upd (m.1 152) t' v t'; rw [ep_upd_eq]), a9⟩
    · rw [ep_cHh _ _ _ _ _ _ y]
      exact ⟨a0, a2, a3, a4, a5, a6, (by show _ = upd (m.1 152) t v t'; rw [ep_upd_ne y]; exact a8), a9⟩
  · intro t' ht'
    obtain ⟨b1, b2, b3⟩ := hR.2.2.2.2.2.2.2.2.2.2.2.1 t' ht'
    refine ⟨b1, ?_, b3⟩
    show ep_al (upd (m.1 152) t v t')
    by_cases y : t' = t
    · subst y; rw [ep_upd_eq]; exact hv
    · rw [ep_upd_ne y]; exact b2
  · intro t' ht' hs'
    by_cases y : t' = t
    · subst y; rw [ep_cHs]; exact hR.2.2.2.2.2.2.2.2.2.2.2.2.2.1 t' ht' hs'
    · rw [ep_cHh _ _ _ _ _ _ y]; exact hR.2.2.2.2.2.2.2.2.2.2.2.2.2.1 t' ht' hs'
theorem ep_setHandler_ {N : Nat} {c : ep_C} {m : ep_M} (hR : ep_R N c m) {h t e : Nat} (ho : ep_On m h t e) (p : Int32) : ep_Tc N h t e c m (fun s => eF_3_setHandler s (eh_fp (nI t)) p) (fun s => if (p &&& 3) = 0 then (if eh_in (nI t) 12 then eh_V (eh_tI s 152 (eh_ix (nI t)) p) (fun s59 => some ((0 : Int32), s59)) else none) else (some ((-1), s))) := by
  have ht := ho.2.1
  by_cases y : p &&& 3 = 0
  · refine ⟨0, _, _, fun m0 => ?_, fun c0 => ?_, ep_R_hand hR ht y, ⟨ho, fun j hj => rfl, rfl⟩⟩
    · show eF_3_setHandler (ep_mk c m0) _ _ = _
      unfold eF_3_setHandler
      rw [if_pos y, ep_V, ep_iF0 _ _ _ _ ht]
    · show (if _ then _ else _) = _
      rw [if_pos y, if_pos (ep_in ht (by decide)), show eh_ix (nI t) = t from ep_ix (by omega), ep_V, ep_iM _ _ _ _ _ (by decide)]
  · refine ep_Tc_no hR ho (ep_L_rf m) (-1) (fun m0 => ?_) (fun c0 => ?_)
    · show eF_3_setHandler (ep_mk c m0) _ _ = _
      unfold eF_3_setHandler
      rw [if_neg y]
    · show (if _ then _ else _) = _
      rw [if_neg y]
theorem ep_accept_ {N : Nat} {c : ep_C} {m : ep_M} (hR : ep_R N c m) (hN : N < 2 ^ 28) {h t e : Nat} (ho : ep_On m h t e) (p : Int32) : ep_Tc (N + 1) h t e c m (fun s => eF_3_accept s (eh_fp (nI t)) p) (fun s => eF_12_accept s (nI h) (nI e) p) := by
  have ht := ho.2.1
  have he := ho.2.2.1
  have hto := ho.2.2.2.2.1
  obtain ⟨r3, r4, r5, r6, r7, r8⟩ := hR.2.2.1
  have f3 : ∀ m0, (ep_mk c m0).1 (eh_fp (nI t)) 3 = nI e := fun m0 => by rw [ep_rF0 _ _ ht, (hR.2.2.2.2.2.2.2.2.2.2.1 t ht).2.2.1, hto]
  have no : ∀ (r : Int32), (∀ m0, eF_3_accept (ep_mk c m0) (eh_fp (nI t)) p = some (r, ep_mk c m0)) → (∀ c0, eF_12_accept (ep_mk c0 m) (nI h) (nI e) p = some (r, ep_mk c0 m)) → ep_Tc (N + 1) h t e c m (fun s => eF_3_accept s (eh_fp (nI t)) p) (fun s => eF_12_accept s (nI h) (nI e) p) := fun r x y => ep_Tc_mono (ep_Tc_no hR ho (ep_L_rf m) r x y) (by omega)
  have hin := ep_inl (p := p) (n := 12) (by decide)
  by_cases hi : ¬ eh_in p 12 = true
  · have hb : ep_inb p 12 (m.1 164) = false := by
      unfold ep_inb
      rw [Bool.eq_false_iff.mpr hi, Bool.false_and]
    refine no (-1) (fun m0 => ?_) (fun c0 => ?_)
    · unfold eF_3_accept
      rw [ep_chasR hR, ep_sb, hb, ep_J, if_pos ep_bf]
    · unfold eF_12_accept
      rw [ep_J]
      by_cases y1 : p < 0
      · rw [if_pos y1]
      · rw [if_neg y1, if_neg (show ¬ p < 12 from fun z => hi (hin.mpr ⟨y1, z⟩))]
  have hi := Decidable.not_not.mp hi
  have y := hin.mp hi
  obtain ⟨k, hk, rfl⟩ := ep_in_of hi (by decide)
  have x12 : eh_ix (nI k) = k := ep_ix (by omega)
  have y12 : nI k < 12 := y.2
  by_cases h0 : m.1 164 k = 0
  · have hb : ep_inb (nI k) 12 (m.1 164) = false := by rw [ep_inb_nI hk (by decide)]; simp [h0]
    refine no (-1) (fun m0 => ?_) (fun c0 => ?_)
    · unfold eF_3_accept
      rw [ep_chasR hR, ep_sb, hb, ep_J, if_pos ep_bf]
    · unfold eF_12_accept
      rw [ep_J, if_neg y.1, if_pos y12, if_pos hi, x12, ep_rM _ _ 164 (by decide), h0, if_neg (by decide)]
  have hb : ep_inb (nI k) 12 (m.1 164) = true := by rw [ep_inb_nI hk (by decide)]; simp [h0]
  obtain ⟨g1, -, -, gT, gT2⟩ := hR.2.2.2.1.1 k hk h0
  by_cases h1 : m.1 164 k = 1
  · refine no (-1) (fun m0 => ?_) (fun c0 => ?_)
    · unfold eF_3_accept
      rw [ep_chasR hR, ep_sb, hb, ep_J, if_neg ep_bt, if_pos hi, x12, ep_rC1 _ _ _ (by decide), r3, if_pos h1]
    · unfold eF_12_accept
      rw [ep_J, if_neg y.1, if_pos y12, if_pos hi, x12, ep_rM _ _ 164 (by decide), h1, if_neg (by decide)]
  have h1l : 1 < m.1 164 k := by
    rcases g1 with z | z | z | z
    · exact absurd z h1
    · rw [z]; decide
    · rw [z]; decide
    · rw [z]; decide
  have hsd := ep_side0 (S := m.1 164) (O := m.1 167) (T := m.1 168) (k := k) he gT2
  cases hof : ep_of (m.1 164) (m.1 167) (m.1 168) k (nI e) with
  | false =>
    refine no (-1) (fun m0 => ?_) (fun c0 => ?_)
    · unfold eF_3_accept
      rw [ep_chasR hR, ep_sb, hb, ep_J, if_neg ep_bt, if_pos hi, x12, ep_rC1 _ _ _ (by decide), r3, if_neg h1, f3, ep_csideOf _ hk, ep_sb, r6, r7, if_pos (hsd.mpr hof)]
    · unfold eF_12_accept
      rw [ep_J, if_neg y.1, if_pos y12, if_pos hi, x12, ep_rM _ _ 164 (by decide), if_pos h1l, ep_misOf _ hk, ep_sb, hof, if_pos ep_bf]
  | true =>
    obtain ⟨sd, hs0, hs1, hs2, hs3⟩ : ∃ sd : Int32, (if m.1 167 k = nI e then (1 : Int32) else if m.1 168 k = nI e then 2 else 0) = sd ∧ ¬ sd = 0 ∧ (if m.1 167 k = nI e then (1 : Int32) else 2) = sd ∧ (m.1 169 k &&& sd = 0 ↔ ep_acc (m.1 164) (m.1 167) (m.1 168) (m.1 169) k (nI e) = false) := by
      have hne : ¬ ((if m.1 167 k = nI e then (1 : Int32) else if m.1 168 k = nI e then 2 else 0) = 0) := fun z => by
        rw [hsd, hof] at z; exact absurd z (by decide)
      by_cases o1 : m.1 167 k = nI e
      · refine ⟨1, by rw [if_pos o1], by decide, by rw [if_pos o1], ?_⟩
        have o2 : ¬ (m.1 164 k = 3 ∧ m.1 168 k = nI e) := fun z => by
          obtain ⟨x, -, -, -, x4⟩ := gT z.1
          exact x4 (z.2.trans o1.symm)
        unfold ep_acc
        by_cases s3 : m.1 164 k = 3
        · have : ¬ m.1 168 k = nI e := fun z => o2 ⟨s3, z⟩
          simp [o1, this]
        · simp [o1, s3]
      · have o2 : m.1 168 k = nI e := Decidable.byContradiction fun z => hne (by rw [if_neg o1, if_neg z])
        have s3 : m.1 164 k = 3 := Decidable.byContradiction fun z => by
          have := gT2 z
          rw [o2] at this
          exact ep_nI_ne_m1 (by omega) this
        refine ⟨2, by rw [if_neg o1, if_pos o2], by decide, by rw [if_neg o1], ?_⟩
        unfold ep_acc
        simp [o1, o2, s3]
    cases hac : ep_acc (m.1 164) (m.1 167) (m.1 168) (m.1 169) k (nI e) with
    | true =>
      have hz : ¬ m.1 169 k &&& sd = 0 := fun z => by rw [hs3, hac] at z; exact absurd z (by decide)
      refine no (-2) (fun m0 => ?_) (fun c0 => ?_)
      · unfold eF_3_accept
        rw [ep_chasR hR, ep_sb, hb, ep_J, if_neg ep_bt, if_pos hi, x12, ep_rC1 _ _ 3 (by decide), r3, if_neg h1, f3, ep_csideOf _ hk, ep_sb, r6, r7, hs0, if_neg hs1, if_pos hi, ep_rC1 _ _ 8 (by decide), r8, if_neg hz]
      · unfold eF_12_accept
        rw [ep_J, if_neg y.1, if_pos y12, if_pos hi, x12, ep_rM _ _ 164 (by decide), if_pos h1l, ep_misOf _ hk, ep_sb, hof, if_neg ep_bt, ep_misAccepted _ hk, ep_sb, hac, if_neg ep_bt]
    | false =>
      have hz : m.1 169 k &&& sd = 0 := hs3.mpr hac
      have R1 : ep_R N (ep_cI c 8 k (m.1 169 k ||| sd)) (ep_mI m 169 k (m.1 169 k ||| sd)) := by
        have hr : upd (c.1 8) k (m.1 169 k ||| sd) = upd (m.1 169) k (m.1 169 k ||| sd) := by rw [r8]
        exact ⟨hR.1, hR.2.1, ⟨r3, r4, r5, r6, r7, hr⟩, hR.2.2.2.1, hR.2.2.2.2.1, hR.2.2.2.2.2.1, hR.2.2.2.2.2.2.1, hR.2.2.2.2.2.2.2.1, hR.2.2.2.2.2.2.2.2.1, hR.2.2.2.2.2.2.2.2.2.1, hR.2.2.2.2.2.2.2.2.2.2.1, hR.2.2.2.2.2.2.2.2.2.2.2.1, hR.2.2.2.2.2.2.2.2.2.2.2.2.1, hR.2.2.2.2.2.2.2.2.2.2.2.2.2.1, hR.2.2.2.2.2.2.2.2.2.2.2.2.2.2.1, hR.2.2.2.2.2.2.2.2.2.2.2.2.2.2.2.1, hR.2.2.2.2.2.2.2.2.2.2.2.2.2.2.2.2.1, hR.2.2.2.2.2.2.2.2.2.2.2.2.2.2.2.2.2.1, hR.2.2.2.2.2.2.2.2.2.2.2.2.2.2.2.2.2.2.1, hR.2.2.2.2.2.2.2.2.2.2.2.2.2.2.2.2.2.2.2.1, hR.2.2.2.2.2.2.2.2.2.2.2.2.2.2.2.2.2.2.2.2.1, hR.2.2.2.2.2.2.2.2.2.2.2.2.2.2.2.2.2.2.2.2.2.1, hR.2.2.2.2.2.2.2.2.2.2.2.2.2.2.2.2.2.2.2.2.2.2.1, hR.2.2.2.2.2.2.2.2.2.2.2.2.2.2.2.2.2.2.2.2.2.2.2.1, hR.2.2.2.2.2.2.2.2.2.2.2.2.2.2.2.2.2.2.2.2.2.2.2.2.1, hR.2.2.2.2.2.2.2.2.2.2.2.2.2.2.2.2.2.2.2.2.2.2.2.2.2.1, hR.2.2.2.2.2.2.2.2.2.2.2.2.2.2.2.2.2.2.2.2.2.2.2.2.2.2.1, hR.2.2.2.2.2.2.2.2.2.2.2.2.2.2.2.2.2.2.2.2.2.2.2.2.2.2.2.1, hR.2.2.2.2.2.2.2.2.2.2.2.2.2.2.2.2.2.2.2.2.2.2.2.2.2.2.2.2.1, hR.2.2.2.2.2.2.2.2.2.2.2.2.2.2.2.2.2.2.2.2.2.2.2.2.2.2.2.2.2.1, hR.2.2.2.2.2.2.2.2.2.2.2.2.2.2.2.2.2.2.2.2.2.2.2.2.2.2.2.2.2.2.1, hR.2.2.2.2.2.2.2.2.2.2.2.2.2.2.2.2.2.2.2.2.2.2.2.2.2.2.2.2.2.2.2.1, hR.2.2.2.2.2.2.2.2.2.2.2.2.2.2.2.2.2.2.2.2.2.2.2.2.2.2.2.2.2.2.2.2.1, hR.2.2.2.2.2.2.2.2.2.2.2.2.2.2.2.2.2.2.2.2.2.2.2.2.2.2.2.2.2.2.2.2.2⟩
      have ho1 : ep_On (ep_mI m 169 k (m.1 169 k ||| sd)) h t e := ho
      obtain ⟨c2, m2, n1, n2, n3⟩ := ep_note R1 hN ho1 5 (nI k) 0 0
      refine ⟨0, c2, m2, fun m0 => ?_, fun c0 => ?_, n3.2.2, ep_Fm_tr (m1 := ep_mI m 169 k (m.1 169 k ||| sd)) ⟨ho1, fun j hj => rfl, rfl⟩ (ep_Fm_W n3 ho1)⟩
      · show eF_3_accept (ep_mk c m0) _ _ = _
        unfold eF_3_accept
        rw [ep_chasR hR, ep_sb, hb, ep_J, if_neg ep_bt, if_pos hi, x12, ep_rC1 _ _ 3 (by decide), r3, if_neg h1, f3, ep_csideOf _ hk, ep_sb, r6, r7, hs0, if_neg hs1, if_pos hi, ep_rC1 _ _ 8 (by decide), r8, if_pos hz, if_pos hi, if_pos hi, ep_V, ep_iC1 _ _ _ _ _ (by decide), n1 m0, ep_sb]
      · show eF_12_accept (ep_mk c0 m) _ _ _ = _
        unfold eF_12_accept
        rw [ep_J, if_neg y.1, if_pos y12, if_pos hi, x12, ep_rM _ _ 164 (by decide), if_pos h1l, ep_misOf _ hk, ep_sb, hof, if_neg ep_bt, ep_misAccepted _ hk, ep_sb, hac, if_pos ep_bf, if_pos hi, if_pos hi, ep_J, ep_rM _ _ 167 (by decide), ep_rM _ _ 169 (by decide)]
        have fin : ∀ v, v = sd → (if eh_in (nI k) 12 = true then eh_V (eh_tI (ep_mk c0 m) 169 k (m.1 169 k ||| v)) (fun s12 => Option.bind (eF_12_happens s12 5 (nI h) (nI k) 0 0) (fun q13 => some ((0 : Int32), q13))) else none) = some (0, ep_mk c0 m2) := fun v hv => by
          rw [hv, if_pos hi, ep_V, ep_iM _ _ _ _ _ (by decide), n2 c0, ep_sb]
        by_cases o1 : m.1 167 k = nI e
        · rw [if_pos o1]; rw [if_pos o1] at hs2; exact fin 1 hs2
        · rw [if_neg o1]; rw [if_neg o1] at hs2; exact fin 2 hs2
/-! the path -/
theorem ep_padd {N : Nat} {c : ep_C} {m : ep_M} (hR : ep_R N c m) {hh t e : Nat} (ho : ep_On m hh t e) (p : Int32) : ep_Tc N hh t e c m (fun s => Option.bind (eF_8_add s 24 (p &&& 255)) (fun q14 => eh_J (fun (a16 : Int32) => some (a16, q14.2)) (fun j15 => if q14.1 = 0 then (j15 (-5)) else (j15 (q14.2.1 24 1))))) (fun s => if (s.1 127 66) = 64 then (some ((-5), s)) else (if eh_in (s.1 127 66) 64 then eh_V (eh_tI s 182 (eh_ix (s.1 127 66)) (eh_nb (eh_nb p))) (fun s6 => eh_V (eh_tI s6 127 66 ((s6.1 127 66) + 1)) (fun s7 => some ((s7.1 127 66), s7))) else none)) := by
  obtain ⟨g1, g2, n, g3, g4⟩ := hR.2.2.2.2.2.2.2.2.2.2.2.2.2.2.2.2.2.2.2.2.2.2.2.2.2.2.2.2.2.2.2.2.2
  have q0 : ¬ nI n < 0 := nI_pos (by omega)
  have e64 : (nI n = 64) ↔ n = 64 := nI_eq (b := 64) (by omega) (by decide)
  by_cases h : n < 64
  · have q1 : nI n < Int32.ofNat 64 := nI_lt h (by decide)
    have q2 : eh_in (nI n) 64 = true := ep_in h (by decide)
    have q3 : eh_ix (nI n) = n := ep_ix (by omega)
    have q4 : ¬ nI n = 64 := fun z => by have := e64.mp z; omega
    refine ⟨nI (n + 1), ep_cI (ep_cI c 25 n (p &&& 255)) 24 1 (nI (n + 1)), ep_mI (ep_mI m 182 n (eh_nb (eh_nb p))) 127 66 (nI (n + 1)), fun m0 => ?_, fun c0 => ?_, ⟨hR.1, hR.2.1, hR.2.2.1, hR.2.2.2.1, hR.2.2.2.2.1, hR.2.2.2.2.2.1, hR.2.2.2.2.2.2.1, hR.2.2.2.2.2.2.2.1, hR.2.2.2.2.2.2.2.2.1, hR.2.2.2.2.2.2.2.2.2.1, hR.2.2.2.2.2.2.2.2.2.2.1, hR.2.2.2.2.2.2.2.2.2.2.2.1, hR.2.2.2.2.2.2.2.2.2.2.2.2.1, hR.2.2.2.2.2.2.2.2.2.2.2.2.2.1, hR.2.2.2.2.2.2.2.2.2.2.2.2.2.2.1, hR.2.2.2.2.2.2.2.2.2.2.2.2.2.2.2.1, hR.2.2.2.2.2.2.2.2.2.2.2.2.2.2.2.2.1, hR.2.2.2.2.2.2.2.2.2.2.2.2.2.2.2.2.2.1, hR.2.2.2.2.2.2.2.2.2.2.2.2.2.2.2.2.2.2.1, hR.2.2.2.2.2.2.2.2.2.2.2.2.2.2.2.2.2.2.2.1, hR.2.2.2.2.2.2.2.2.2.2.2.2.2.2.2.2.2.2.2.2.1, hR.2.2.2.2.2.2.2.2.2.2.2.2.2.2.2.2.2.2.2.2.2.1, hR.2.2.2.2.2.2.2.2.2.2.2.2.2.2.2.2.2.2.2.2.2.2.1, hR.2.2.2.2.2.2.2.2.2.2.2.2.2.2.2.2.2.2.2.2.2.2.2.1, hR.2.2.2.2.2.2.2.2.2.2.2.2.2.2.2.2.2.2.2.2.2.2.2.2.1, hR.2.2.2.2.2.2.2.2.2.2.2.2.2.2.2.2.2.2.2.2.2.2.2.2.2.1, hR.2.2.2.2.2.2.2.2.2.2.2.2.2.2.2.2.2.2.2.2.2.2.2.2.2.2.1, hR.2.2.2.2.2.2.2.2.2.2.2.2.2.2.2.2.2.2.2.2.2.2.2.2.2.2.2.1, hR.2.2.2.2.2.2.2.2.2.2.2.2.2.2.2.2.2.2.2.2.2.2.2.2.2.2.2.2.1, hR.2.2.2.2.2.2.2.2.2.2.2.2.2.2.2.2.2.2.2.2.2.2.2.2.2.2.2.2.2.1, hR.2.2.2.2.2.2.2.2.2.2.2.2.2.2.2.2.2.2.2.2.2.2.2.2.2.2.2.2.2.2.1, hR.2.2.2.2.2.2.2.2.2.2.2.2.2.2.2.2.2.2.2.2.2.2.2.2.2.2.2.2.2.2.2.1, hR.2.2.2.2.2.2.2.2.2.2.2.2.2.2.2.2.2.2.2.2.2.2.2.2.2.2.2.2.2.2.2.2.1, ?_⟩, ⟨ho, fun j hj => ?_, rfl⟩⟩
    · have : eF_8_add (ep_mk c m0) 24 (p &&& 255) = some (1, ep_mk (ep_cI (ep_cI c 25 n (p &&& 255)) 24 1 (nI (n + 1))) m0) := by
        unfold eF_8_add
        rw [ep_J, ep_rC1 _ _ 24 (by decide), g2, g4, if_neg q0, show eh_rn 24 = 64 from rfl, if_pos q1, if_pos q2, q3, ep_V, ep_iC1 _ _ _ _ _ (by decide), ep_V, ep_rC1 _ _ 24 (by decide), ep_iC1 _ _ _ _ _ (by decide)]
        rw [show (ep_cI c 25 n (p &&& 255)).1 24 1 = nI n from by rw [ep_cIn _ _ _ _ _ (by decide), g2, g4], nI_1]
      refine ep_bnd this ?_
      rw [ep_J, if_neg (show ¬ (1 : Int32) = 0 by decide)]
      show some ((ep_mk (ep_cI (ep_cI c 25 n (p &&& 255)) 24 1 (nI (n + 1))) m0).1 24 1, _) = _
      rw [ep_rC1 _ _ _ (by decide), ep_cI1, ep_upd_eq]
    · show (if (ep_mk c0 m).1 127 66 = 64 then _ else _) = _
      rw [ep_rM _ _ 127 (by decide), g4, if_neg q4, if_pos q2, q3, ep_V, ep_iM _ _ _ _ _ (by decide), ep_V, ep_rM _ _ 127 (by decide), ep_iM _ _ _ _ _ (by decide)]
      rw [show (ep_mI m 182 n (eh_nb (eh_nb p))).1 127 66 = nI n from by rw [ep_mIn _ _ _ _ _ (by decide), g4], nI_1, ep_rM _ _ 127 (by decide), ep_mI1, ep_upd_eq]
    · refine ⟨?_, rfl, n + 1, by omega, rfl⟩
      show upd (c.1 25) n (p &&& 255) = fun j => upd (m.1 182) n (eh_nb (eh_nb p)) j &&& 255
      rw [g1]
      funext j
      unfold upd
      by_cases e : j = n
      · simp only [e, if_true]; rw [ep_nbnb]
      · simp only [e, if_false]
    · rcases hj with rfl | rfl <;> rfl
  · have hn : n = 64 := by omega
    refine ep_Tc_no hR ho (ep_L_rf m) (-5) (fun m0 => ?_) (fun c0 => ?_)
    · have q1 : ¬ nI n < Int32.ofNat 64 := nI_nlt (by omega) (by omega)
      show Option.bind (eF_8_add (ep_mk c m0) 24 (p &&& 255)) _ = _
      unfold eF_8_add
      rw [ep_J, ep_rC1 _ _ 24 (by decide), g2, g4, if_neg q0, show eh_rn 24 = 64 from rfl, if_neg q1, ep_sb, ep_J, if_pos rfl]
    · show (if (ep_mk c0 m).1 127 66 = 64 then _ else _) = _
      rw [ep_rM _ _ 127 (by decide), g4, if_pos (e64.mpr hn)]
theorem ep_pkey {N : Nat} {c : ep_C} {m : ep_M} (hR : ep_R N c m) {hh t e : Nat} (ho : ep_On m hh t e) : ep_Tc N hh t e c m (fun s => Option.bind (eF_8_takeFirst s 22 256) (fun q18 => some (q18.1, q18.2))) (fun s => if (s.1 127 64) = 0 then (some (256, s)) else (eh_V ((s.1 181 0) : Int32) (fun x9 => eh_V (eh_tI s 127 64 ((s.1 127 64) - 1)) (fun s10 => Option.bind (eh_loop (fun (r14 : (Int32 × eh_F) → Option (eh_F)) (t11 : Int32 × eh_F) => if t11.1 < (t11.2.1 127 64) then (if eh_in (t11.1 + 1) 16 then if eh_in t11.1 16 then eh_V (eh_tI t11.2 181 (eh_ix t11.1) (t11.2.1 181 (eh_ix (t11.1 + 1)))) (fun s16 => eh_V ((t11.1 + 1) : Int32) (fun x17 => r14 (x17, s16))) else none else none) else (some t11.2)) eh_FU (0, s10)) (fun (e12 : eh_F) => some (x9, e12)))))) := by
  obtain ⟨g1, g2, n, g3, g4⟩ := hR.2.2.2.2.2.2.2.2.2.2.2.2.2.2.2.2.2.2.2.2.2.2.2.2.2.2.2.2.2.2.2.2.1
  by_cases hn : n = 0
  · subst hn
    refine ep_Tc_no hR ho (ep_L_rf m) 256 (fun m0 => ?_) (fun c0 => ?_)
    · exact ep_bnd (ep_ctake0 (th := 22) (by decide) (g2.trans g4) 256 m0) rfl
    · show (if _ then _ else _) = _
      rw [ep_rM _ _ 127 (by decide), g4, if_pos (show nI 0 = 0 from rfl)]
  · have q0 : ¬ nI n = 0 := fun z => hn ((nI_eq (b := 0) (by omega) (by decide)).mp z)
    have q3 : nI n - 1 = nI (n - 1) := pk_sub (a := n) (b := 1) (by omega)
    refine ⟨m.1 181 0, ep_cL (ep_cI c 22 1 (nI (n - 1))) 23 (ep_sh (c.1 23) (n - 1)), ep_mL (ep_mI m 127 64 (nI (n - 1))) 181 (ep_sh (m.1 181) (n - 1)), fun m0 => ?_, fun c0 => ?_, ⟨hR.1, hR.2.1, hR.2.2.1, hR.2.2.2.1, hR.2.2.2.2.1, hR.2.2.2.2.2.1, hR.2.2.2.2.2.2.1, hR.2.2.2.2.2.2.2.1, hR.2.2.2.2.2.2.2.2.1, hR.2.2.2.2.2.2.2.2.2.1, hR.2.2.2.2.2.2.2.2.2.2.1, hR.2.2.2.2.2.2.2.2.2.2.2.1, hR.2.2.2.2.2.2.2.2.2.2.2.2.1, hR.2.2.2.2.2.2.2.2.2.2.2.2.2.1, hR.2.2.2.2.2.2.2.2.2.2.2.2.2.2.1, hR.2.2.2.2.2.2.2.2.2.2.2.2.2.2.2.1, hR.2.2.2.2.2.2.2.2.2.2.2.2.2.2.2.2.1, hR.2.2.2.2.2.2.2.2.2.2.2.2.2.2.2.2.2.1, hR.2.2.2.2.2.2.2.2.2.2.2.2.2.2.2.2.2.2.1, hR.2.2.2.2.2.2.2.2.2.2.2.2.2.2.2.2.2.2.2.1, hR.2.2.2.2.2.2.2.2.2.2.2.2.2.2.2.2.2.2.2.2.1, hR.2.2.2.2.2.2.2.2.2.2.2.2.2.2.2.2.2.2.2.2.2.1, hR.2.2.2.2.2.2.2.2.2.2.2.2.2.2.2.2.2.2.2.2.2.2.1, hR.2.2.2.2.2.2.2.2.2.2.2.2.2.2.2.2.2.2.2.2.2.2.2.1, hR.2.2.2.2.2.2.2.2.2.2.2.2.2.2.2.2.2.2.2.2.2.2.2.2.1, hR.2.2.2.2.2.2.2.2.2.2.2.2.2.2.2.2.2.2.2.2.2.2.2.2.2.1, hR.2.2.2.2.2.2.2.2.2.2.2.2.2.2.2.2.2.2.2.2.2.2.2.2.2.2.1, hR.2.2.2.2.2.2.2.2.2.2.2.2.2.2.2.2.2.2.2.2.2.2.2.2.2.2.2.1, hR.2.2.2.2.2.2.2.2.2.2.2.2.2.2.2.2.2.2.2.2.2.2.2.2.2.2.2.2.1, hR.2.2.2.2.2.2.2.2.2.2.2.2.2.2.2.2.2.2.2.2.2.2.2.2.2.2.2.2.2.1, hR.2.2.2.2.2.2.2.2.2.2.2.2.2.2.2.2.2.2.2.2.2.2.2.2.2.2.2.2.2.2.1, hR.2.2.2.2.2.2.2.2.2.2.2.2.2.2.2.2.2.2.2.2.2.2.2.2.2.2.2.2.2.2.2.1, ?_, hR.2.2.2.2.2.2.2.2.2.2.2.2.2.2.2.2.2.2.2.2.2.2.2.2.2.2.2.2.2.2.2.2.2⟩, ⟨ho, fun j hj => by rcases hj with rfl | rfl <;> rfl, rfl⟩⟩
    · refine ep_bnd (ep_ctake1 (th := 22) (by decide) rfl (by omega) g3 (g2.trans g4) 256 m0) ?_
      rw [g1]
    · show (if _ then _ else _) = _
      rw [ep_rM _ _ 127 (by decide), g4, if_neg q0, ep_V, ep_rM _ _ 181 (by decide), ep_V, q3, ep_iM _ _ _ _ _ (by decide)]
      exact ep_bnd (ep_mshift (m := ep_mI m 127 64 (nI (n - 1))) (p := 181) (z := 64) (by decide) (by omega) (by rw [ep_mI1, ep_upd_eq]) c0) rfl
    · exact ⟨by show ep_sh (c.1 23) _ = ep_sh (m.1 181) _; rw [g1], rfl, n - 1, by omega, rfl⟩
theorem ep_path45 {N : Nat} {c : ep_C} {m : ep_M} (hR : ep_R N c m) (hN : N < 2 ^ 28) {h t e : Nat} (ho : ep_On m h t e) (p : Int32) : ep_Tc (N + 1) h t e c m (fun s => eF_3_answerOfPath s (eh_fp (nI t)) 45 p) (fun s => if (s.1 127 67) = (-1) then (Option.bind (eF_12_clearPath s (nI e)) (fun q62 => Option.bind (eF_12_happens q62 9 (nI h) 1 0 0) (fun q63 => some ((0 : Int32), q63)))) else (eh_J (fun (a65 : Int32) => some (a65, s)) (fun j64 => if (s.1 127 67) = nI e then (j64 (-2)) else (j64 (-3))))) := by
  have ht := ho.2.1
  have he := ho.2.2.1
  have hto := ho.2.2.2.2.1
  have f3 : ∀ m0, (ep_mk c m0).1 (eh_fp (nI t)) 3 = nI e := fun m0 => by rw [ep_rF0 _ _ ht, (hR.2.2.2.2.2.2.2.2.2.2.1 t ht).2.2.1, hto]
  have d14 : c.1 12 14 = m.1 127 67 := hR.2.2.2.2.2.2.2.2.2.2.2.2.2.2.2.2.2.2.2.2.2.2.2.2.2.2.2.2.1.2.2.2.2.2.2.2.2.1
  have em1 : ¬ nI e = -1 := ep_nI_ne_m1 (by omega)
  by_cases y1 : m.1 127 67 = -1
  · have y2 : ¬ (-1 : Int32) = nI e := fun z => em1 z.symm
    have R1 := ep_R_path hR (v := nI e) (Or.inr ⟨e, he, rfl⟩)
    have ho1 : ep_On (ep_mI (ep_mI (ep_mI m 127 67 (nI e)) 127 64 0) 127 66 0) h t e := ho
    obtain ⟨c2, m2, n1, n2, n3⟩ := ep_note R1 hN ho1 9 1 0 0
    refine ⟨0, c2, m2, fun m0 => ?_, fun c0 => ?_, n3.2.2, ep_Fm_tr (m1 := ep_mI (ep_mI (ep_mI m 127 67 (nI e)) 127 64 0) 127 66 0) ⟨ho1, fun j hj => by rcases hj with rfl | rfl <;> rfl, rfl⟩ (ep_Fm_W n3 ho1)⟩
    · show eF_3_answerOfPath (ep_mk c m0) _ _ _ = _
      have hcl : eF_3_claim (ep_mk c m0) (eh_fp (nI t)) 0 = some (0, ep_mk c2 m0) := by
        unfold eF_3_claim
        rw [if_pos rfl, ep_rC1 _ _ 12 (by decide), d14, y1, if_pos rfl, f3, ep_cgpath, ep_sb, n1 m0, ep_sb]
      unfold eF_3_answerOfPath
      rw [ep_J, f3, ep_rC1 _ _ 12 (by decide), d14, y1, if_neg y2]
      dsimp only
      rw [ep_J, if_neg (by decide), if_neg (by decide), if_pos rfl, hcl, ep_sb]
    · show (if _ then _ else _) = _
      rw [ep_rM _ _ 127 (by decide), y1, if_pos rfl, ep_mcpath, ep_sb, n2 c0, ep_sb]
  · by_cases y2 : m.1 127 67 = nI e
    · refine ep_Tc_mono (ep_Tc_no hR ho (ep_L_rf m) (-2) (fun m0 => ?_) (fun c0 => ?_)) (by omega)
      · show eF_3_answerOfPath (ep_mk c m0) _ _ _ = _
        have hcl : eF_3_claim (ep_mk c m0) (eh_fp (nI t)) 1 = some (-2, ep_mk c m0) := by
          unfold eF_3_claim
          rw [if_neg (by decide)]
        unfold eF_3_answerOfPath
        rw [ep_J, f3, ep_rC1 _ _ 12 (by decide), d14, if_pos y2]
        dsimp only
        rw [ep_J, if_neg (by decide), if_neg (by decide), if_pos rfl, hcl, ep_sb]
      · show (if _ then _ else _) = _
        rw [ep_rM _ _ 127 (by decide), if_neg y1, ep_J, if_pos y2]
    · refine ep_Tc_mono (ep_Tc_no hR ho (ep_L_rf m) (-3) (fun m0 => ?_) (fun c0 => ?_)) (by omega)
      · show eF_3_answerOfPath (ep_mk c m0) _ _ _ = _
        have hcl : eF_3_claim (ep_mk c m0) (eh_fp (nI t)) 0 = some (-3, ep_mk c m0) := by
          unfold eF_3_claim
          rw [if_pos rfl, ep_rC1 _ _ 12 (by decide), d14, if_neg y1]
        unfold eF_3_answerOfPath
        rw [ep_J, f3, ep_rC1 _ _ 12 (by decide), d14, if_neg y2]
        dsimp only
        rw [ep_J, if_neg (by decide), if_neg (by decide), if_pos rfl, hcl, ep_sb]
      · show (if _ then _ else _) = _
        rw [ep_rM _ _ 127 (by decide), if_neg y1, ep_J, if_neg y2]
theorem ep_path468 {N : Nat} {c : ep_C} {m : ep_M} (hR : ep_R N c m) (hN : N < 2 ^ 28) {h t e : Nat} (ho : ep_On m h t e) {f : Int32} (hf : f = 46 ∨ f = 47 ∨ f = 48) (p : Int32) : ep_Tc (N + 1) h t e c m (fun s => eF_3_answerOfPath s (eh_fp (nI t)) f p) (fun s => eh_J (fun (a6 : Int32) (s7 : eh_F) => some (a6, s7)) (fun j5 => if (s.1 127 67) = nI e then (Option.bind (eF_12_onPath s (nI h) f p) (fun q9 => j5 q9.1 q9.2)) else (j5 (-2) s))) := by
  have ht := ho.2.1
  have he := ho.2.2.1
  have hto := ho.2.2.2.2.1
  have f3 : ∀ m0, (ep_mk c m0).1 (eh_fp (nI t)) 3 = nI e := fun m0 => by rw [ep_rF0 _ _ ht, (hR.2.2.2.2.2.2.2.2.2.2.1 t ht).2.2.1, hto]
  have d14 : c.1 12 14 = m.1 127 67 := hR.2.2.2.2.2.2.2.2.2.2.2.2.2.2.2.2.2.2.2.2.2.2.2.2.2.2.2.2.1.2.2.2.2.2.2.2.2.1
  have g1 : ¬ f < 45 := by rcases hf with rfl | rfl | rfl <;> decide
  have g2 : ¬ 48 < f := by rcases hf with rfl | rfl | rfl <;> decide
  have g3 : ¬ f = 45 := by rcases hf with rfl | rfl | rfl <;> decide
  by_cases y : m.1 127 67 = nI e
  · have cA : ∀ m0, eF_3_answerOfPath (ep_mk c m0) (eh_fp (nI t)) f p = (if f = 46 then (Option.bind (eF_0_givePath (ep_mk c m0) (-1)) (fun q11 => Option.bind (eF_5_note q11 9 (eh_fp (nI t)) 0 0 0) (fun q12 => some (0, q12)))) else (if f = 47 then (Option.bind (eF_8_add (ep_mk c m0) 24 (p &&& 255)) (fun q14 => eh_J (fun (a16 : Int32) => some (a16, q14.2)) (fun j15 => if q14.1 = 0 then (j15 (-5)) else (j15 (q14.2.1 24 1))))) else (Option.bind (eF_8_takeFirst (ep_mk c m0) 22 256) (fun q18 => some (q18.1, q18.2))))) := fun m0 => by
      unfold eF_3_answerOfPath
      rw [ep_J, f3, ep_rC1 _ _ 12 (by decide), d14, if_pos y]
      dsimp only
      rw [ep_J, if_neg g1, if_neg g2, if_neg g3, if_neg (show ¬ (1 : Int32) = 0 by decide)]
    have cB : ∀ (s : eh_F), (eh_J (fun (a6 : Int32) (s7 : eh_F) => some (a6, s7)) (fun j5 => if nI e = nI e then (Option.bind (eF_12_onPath s (nI h) f p) (fun q9 => j5 q9.1 q9.2)) else (j5 (-2) s))) = eF_12_onPath s (nI h) f p := fun s => by
      rw [ep_J, if_pos rfl]
      exact ep_beta _
    have st : ∀ {F G : eh_F → Option (Int32 × eh_F)}, ep_Tc (N + 1) h t e c m F G → (∀ m0, eF_3_answerOfPath (ep_mk c m0) (eh_fp (nI t)) f p = F (ep_mk c m0)) → (∀ c0, eF_12_onPath (ep_mk c0 m) (nI h) f p = G (ep_mk c0 m)) → ep_Tc (N + 1) h t e c m (fun s => eF_3_answerOfPath s (eh_fp (nI t)) f p) (fun s => eh_J (fun (a6 : Int32) (s7 : eh_F) => some (a6, s7)) (fun j5 => if (s.1 127 67) = nI e then (Option.bind (eF_12_onPath s (nI h) f p) (fun q9 => j5 q9.1 q9.2)) else (j5 (-2) s))) := by
      intro F G hT h1 h2
      obtain ⟨r, c', m', x1, x2, x3⟩ := hT
      refine ⟨r, c', m', fun m0 => (h1 m0).trans (x1 m0), fun c0 => ?_, x3⟩
      show (eh_J _ (fun j5 => if (ep_mk c0 m).1 127 67 = nI e then _ else _)) = _
      rw [ep_rM _ _ 127 (by decide), y]
      exact (cB (ep_mk c0 m)).trans ((h2 c0).trans (x2 c0))
    rcases hf with rfl | rfl | rfl
    · have R1 := ep_R_path hR (v := -1) (Or.inl rfl)
      have ho1 : ep_On (ep_mI (ep_mI (ep_mI m 127 67 (-1)) 127 64 0) 127 66 0) h t e := ho
      obtain ⟨c2, m2, n1, n2, n3⟩ := ep_note R1 hN ho1 9 0 0 0
      refine st (F := fun s => Option.bind (eF_0_givePath s (-1)) (fun q11 => Option.bind (eF_5_note q11 9 (eh_fp (nI t)) 0 0 0) (fun q12 => some (0, q12)))) (G := fun s => Option.bind (eF_12_clearPath s (-1)) (fun q2 => Option.bind (eF_12_happens q2 9 (nI h) 0 0 0) (fun q3 => some (0, q3)))) ⟨0, c2, m2, fun m0 => ?_, fun c0 => ?_, n3.2.2, ep_Fm_tr (m1 := ep_mI (ep_mI (ep_mI m 127 67 (-1)) 127 64 0) 127 66 0) ⟨ho1, fun j hj => by rcases hj with rfl | rfl <;> rfl, rfl⟩ (ep_Fm_W n3 ho1)⟩ (fun m0 => ?_) (fun c0 => ?_)
      · show Option.bind _ _ = _
        rw [ep_cgpath, ep_sb, n1 m0, ep_sb]
      · show Option.bind _ _ = _
        rw [ep_mcpath, ep_sb, n2 c0, ep_sb]
      · rw [cA, if_pos rfl]
      · unfold eF_12_onPath
        rw [if_pos rfl]
    · refine st (ep_Tc_mono (ep_padd hR ho p) (by omega)) (fun m0 => ?_) (fun c0 => ?_)
      · rw [cA, if_neg (by decide), if_pos rfl]
      · unfold eF_12_onPath
        rw [if_neg (by decide), if_pos rfl]
    · refine st (ep_Tc_mono (ep_pkey hR ho) (by omega)) (fun m0 => ?_) (fun c0 => ?_)
      · rw [cA, if_neg (by decide), if_neg (by decide)]
      · unfold eF_12_onPath
        rw [if_neg (by decide), if_neg (by decide)]
  · refine ep_Tc_mono (ep_Tc_no hR ho (ep_L_rf m) (-2) (fun m0 => ?_) (fun c0 => ?_)) (by omega)
    · show eF_3_answerOfPath (ep_mk c m0) _ _ _ = _
      unfold eF_3_answerOfPath
      rw [ep_J, f3, ep_rC1 _ _ 12 (by decide), d14, if_neg y]
      dsimp only
      rw [ep_J, if_neg g1, if_neg g2, if_neg g3, if_pos rfl]
    · show eh_J _ _ = _
      rw [ep_J, ep_rM _ _ 127 (by decide), if_neg y]
theorem ep_pathno {N : Nat} {c : ep_C} {m : ep_M} (hR : ep_R N c m) {h t e : Nat} (ho : ep_On m h t e) {f : Int32} (hf : ¬ f = 45 ∧ ¬ f = 46 ∧ ¬ f = 47 ∧ ¬ f = 48) (p : Int32) (m0 : ep_M) : eF_3_answerOfPath (ep_mk c m0) (eh_fp (nI t)) f p = some (-1, ep_mk c m0) := by
  have hlt : f < 45 ∨ 48 < f := by
    by_cases y1 : f < 45
    · exact Or.inl y1
    · right
      rw [Int32.lt_iff_toInt_lt] at y1 ⊢
      have e45 : (45 : Int32).toInt = 45 := by decide
      have e48 : (48 : Int32).toInt = 48 := by decide
      rw [e45] at y1
      rw [e48]
      have n1 : f.toInt ≠ 45 := fun z => hf.1 (Int32.toInt_inj.mp (by rw [z]; decide))
      have n2 : f.toInt ≠ 46 := fun z => hf.2.1 (Int32.toInt_inj.mp (by rw [z]; decide))
      have n3 : f.toInt ≠ 47 := fun z => hf.2.2.1 (Int32.toInt_inj.mp (by rw [z]; decide))
      have n4 : f.toInt ≠ 48 := fun z => hf.2.2.2 (Int32.toInt_inj.mp (by rw [z]; decide))
      omega
  unfold eF_3_answerOfPath
  simp only [ep_J]
  have hfin : ∀ a2 : Int32, (if f < 45 then some ((-1 : Int32), ep_mk c m0) else (if 48 < f then some (-1, ep_mk c m0) else (if f = 45 then (Option.bind (eF_3_claim (ep_mk c m0) (eh_fp (nI t)) a2) (fun q8 => some (q8.1, q8.2))) else (if a2 = 0 then (some ((-2), ep_mk c m0)) else (if f = 46 then (Option.bind (eF_0_givePath (ep_mk c m0) (-1)) (fun q11 => Option.bind (eF_5_note q11 9 (eh_fp (nI t)) 0 0 0) (fun q12 => some (0, q12)))) else (if f = 47 then (Option.bind (eF_8_add (ep_mk c m0) 24 (p &&& 255)) (fun q14 => if q14.1 = 0 then some (-5, q14.2) else some (q14.2.1 24 1, q14.2))) else (Option.bind (eF_8_takeFirst (ep_mk c m0) 22 256) (fun q18 => some (q18.1, q18.2))))))))) = some (-1, ep_mk c m0) := fun a2 => by
    rcases hlt with z | z
    · rw [if_pos z]
    · by_cases y1 : f < 45
      · rw [if_pos y1]
      · rw [if_neg y1, if_pos z]
  by_cases y : (ep_mk c m0).1 12 14 = (ep_mk c m0).1 (eh_fp (nI t)) 3
  · rw [if_pos y]; exact hfin 1
  · rw [if_neg y]; exact hfin 0
/-! mail between enclaves -/
theorem ep_cflip (s : eh_F) (v : Int32) : eF_9_flip s v = some (ep_flip v) := rfl
theorem ep_flip_bw (f : Nat → Int32) (o : Nat) : ep_flip (ep_bw f o) = ep_lw f o := by
  refine ep_ext fun i hi => ?_
  rw [ep_bit_flip _ _ hi, ep_bit_lw _ _ _ hi]
  by_cases h1 : i < 8
  · rw [if_pos h1, ep_bit_bw _ _ _ (by omega), if_neg (by omega), if_neg (by omega), if_neg (by omega), show o + i / 8 = o by omega, show i + 24 - 24 = i % 8 by omega]
  · rw [if_neg h1]
    by_cases h2 : i < 16
    · rw [if_pos h2, ep_bit_bw _ _ _ (by omega), if_neg (by omega), if_neg (by omega), if_pos (by omega), show o + i / 8 = o + 1 by omega, show i + 8 - 16 = i % 8 by omega]
    · rw [if_neg h2]
      by_cases h3 : i < 24
      · rw [if_pos h3, ep_bit_bw _ _ _ (by omega), if_neg (by omega), if_pos (by omega), show o + i / 8 = o + 2 by omega, show i - 8 - 8 = i % 8 by omega]
      · rw [if_neg h3, ep_bit_bw _ _ _ (by omega), if_pos (by omega), show o + i / 8 = o + 3 by omega, show i - 24 = i % 8 by omega]
theorem ep_R_mail {N : Nat} {c : ep_C} {m : ep_M} (hR : ep_R N c m) {e : Nat} (he : e < 6) {v : Int32} (hv : ep_bo v) : ep_R N (ep_cH c 4 e 11 v) (ep_mI m 161 e v) := by
  refine ⟨hR.1, hR.2.1, hR.2.2.1, hR.2.2.2.1, hR.2.2.2.2.1, hR.2.2.2.2.2.1, hR.2.2.2.2.2.2.1, hR.2.2.2.2.2.2.2.1, hR.2.2.2.2.2.2.2.2.1, hR.2.2.2.2.2.2.2.2.2.1, hR.2.2.2.2.2.2.2.2.2.2.1, hR.2.2.2.2.2.2.2.2.2.2.2.1, hR.2.2.2.2.2.2.2.2.2.2.2.2.1, hR.2.2.2.2.2.2.2.2.2.2.2.2.2.1, hR.2.2.2.2.2.2.2.2.2.2.2.2.2.2.1, hR.2.2.2.2.2.2.2.2.2.2.2.2.2.2.2.1, ?_, ?_, hR.2.2.2.2.2.2.2.2.2.2.2.2.2.2.2.2.2.2.1, hR.2.2.2.2.2.2.2.2.2.2.2.2.2.2.2.2.2.2.2.1, hR.2.2.2.2.2.2.2.2.2.2.2.2.2.2.2.2.2.2.2.2.1, hR.2.2.2.2.2.2.2.2.2.2.2.2.2.2.2.2.2.2.2.2.2.1, hR.2.2.2.2.2.2.2.2.2.2.2.2.2.2.2.2.2.2.2.2.2.2.1, hR.2.2.2.2.2.2.2.2.2.2.2.2.2.2.2.2.2.2.2.2.2.2.2.1, hR.2.2.2.2.2.2.2.2.2.2.2.2.2.2.2.2.2.2.2.2.2.2.2.2.1, hR.2.2.2.2.2.2.2.2.2.2.2.2.2.2.2.2.2.2.2.2.2.2.2.2.2.1, hR.2.2.2.2.2.2.2.2.2.2.2.2.2.2.2.2.2.2.2.2.2.2.2.2.2.2.1, hR.2.2.2.2.2.2.2.2.2.2.2.2.2.2.2.2.2.2.2.2.2.2.2.2.2.2.2.1, hR.2.2.2.2.2.2.2.2.2.2.2.2.2.2.2.2.2.2.2.2.2.2.2.2.2.2.2.2.1, hR.2.2.2.2.2.2.2.2.2.2.2.2.2.2.2.2.2.2.2.2.2.2.2.2.2.2.2.2.2.1, hR.2.2.2.2.2.2.2.2.2.2.2.2.2.2.2.2.2.2.2.2.2.2.2.2.2.2.2.2.2.2.1, hR.2.2.2.2.2.2.2.2.2.2.2.2.2.2.2.2.2.2.2.2.2.2.2.2.2.2.2.2.2.2.2.1, hR.2.2.2.2.2.2.2.2.2.2.2.2.2.2.2.2.2.2.2.2.2.2.2.2.2.2.2.2.2.2.2.2.1, hR.2.2.2.2.2.2.2.2.2.2.2.2.2.2.2.2.2.2.2.2.2.2.2.2.2.2.2.2.2.2.2.2.2⟩
  · intro e' he'
    obtain ⟨a5, a6, a7, a8, a9, a11, a12, a13, a14⟩ := hR.2.2.2.2.2.2.2.2.2.2.2.2.2.2.2.2.1 e' he'
    by_cases y : e' = e
    · subst y
      rw [ep_cHs]
      exact ⟨a5, a6, a7, a8, a9, (by show v = upd (m.1 161) e' v e'; rw [ep_upd_eq]), (by show ep_bo (upd (m.1 161) e' v e'); rw [ep_upd_eq]; exact hv), a13, a14⟩
    · rw [ep_cHh _ _ _ _ _ _ y]
      exact ⟨a5, a6, a7, a8, a9, (by show _ = upd (m.1 161) e v e'; rw [ep_upd_ne y]; exact a11), (by show ep_bo (upd (m.1 161) e v e'); rw [ep_upd_ne y]; exact a12), a13, a14⟩
  · intro e' he' hE'
    have g := hR.2.2.2.2.2.2.2.2.2.2.2.2.2.2.2.2.2.1 e' he' hE'
    by_cases y : e' = e
    · subst y; rw [ep_cHs]; exact g
    · rw [ep_cHh _ _ _ _ _ _ y]; exact g
def ep_mlf (m : ep_M) (b e i : Nat) : Nat → Int32 := fun j => if b ≤ j ∧ j < b + i then eh_nb (m.1 195 (j - b)) else if b + 32 ≤ j ∧ j < b + 32 + i then eh_nb (m.1 159 (32 * e + (j - (b + 32)))) else m.1 162 j
theorem ep_mmail (m : ep_M) {e o : Nat} (he : e < 6) (ho : o < 6) (c0 : ep_C) : eh_loop (fun (r22 : (Int32 × eh_F) → Option (eh_F)) (t10 : Int32 × eh_F) => if t10.1 < 32 then (if eh_in t10.1 128 then if eh_in ((64 * nI o) + t10.1) 384 then eh_V (eh_tI t10.2 162 (eh_ix ((64 * nI o) + t10.1)) (eh_nb (t10.2.1 195 (eh_ix t10.1)))) (fun s24 => if eh_in ((32 * nI e) + t10.1) 192 then if eh_in (((64 * nI o) + 32) + t10.1) 384 then eh_V (eh_tI s24 162 (eh_ix (((64 * nI o) + 32) + t10.1)) (eh_nb (s24.1 159 (eh_ix ((32 * nI e) + t10.1))))) (fun s25 => eh_V ((t10.1 + 1) : Int32) (fun x26 => r22 (x26, s25))) else none else none) else none else none) else (some t10.2)) eh_FU (0, ep_mk c0 m) = some (ep_mk c0 (ep_mL m 162 (ep_mlf m (64 * o) e 32))) := by
  have e32 : (32 : Int32) * nI e = nI (32 * e) := ep_mul (b := 32) rfl rfl
  have e64 : (64 : Int32) * nI o = nI (64 * o) := ep_mul (b := 64) rfl rfl
  have e96 : nI (64 * o) + 32 = nI (64 * o + 32) := ep_p32 _
  rw [e32, e64, e96]
  refine ep_loop (fun i => (nI i, ep_mk c0 (ep_mL m 162 (ep_mlf m (64 * o) e i)))) 32 _ (ep_FU _ (by decide)) ?_ ?_ ?_
  · intro i hi rec
    show (if nI i < 32 then _ else _) = _
    rw [if_pos (show nI i < 32 from nI_lt (b := 32) hi (by decide)), if_pos (ep_in (show i < 128 by omega) (by decide)), nI_add, nI_add, nI_add, if_pos (ep_in (show 64 * o + i < 384 by omega) (by decide)), show eh_ix (nI i) = i from ep_ix (by omega), show eh_ix (nI (64 * o + i)) = 64 * o + i from ep_ix (by omega), ep_V, ep_rM _ _ 195 (by decide), ep_iM _ _ _ _ _ (by decide), ep_mLn _ _ _ _ (by decide), ep_mLI, if_pos (ep_in (show 32 * e + i < 192 by omega) (by decide)), if_pos (ep_in (show 64 * o + 32 + i < 384 by omega) (by decide)), show eh_ix (nI (64 * o + 32 + i)) = 64 * o + 32 + i from ep_ix (by omega), show eh_ix (nI (32 * e + i)) = 32 * e + i from ep_ix (by omega), ep_V, ep_rM _ _ 159 (by decide), ep_iM _ _ _ _ _ (by decide), ep_mLn _ _ _ _ (by decide), ep_mLI, ep_V, nI_1]
    congr 4
    funext j
    unfold upd ep_mlf
    by_cases y1 : j = 64 * o + 32 + i
    · rw [if_pos y1, if_neg (by omega), if_pos (by omega), show j - (64 * o + 32) = i by omega]
    · rw [if_neg y1]
      by_cases y2 : j = 64 * o + i
      · rw [if_pos y2, if_pos (by omega), show j - 64 * o = i by omega]
      · rw [if_neg y2]
        by_cases y3 : 64 * o ≤ j ∧ j < 64 * o + i
        · rw [if_pos y3, if_pos (by omega)]
        · rw [if_neg y3, if_neg (show ¬ (64 * o ≤ j ∧ j < 64 * o + (i + 1)) by omega)]
          by_cases y4 : 64 * o + 32 ≤ j ∧ j < 64 * o + 32 + i
          · rw [if_pos y4, if_pos (by omega)]
          · rw [if_neg y4, if_neg (by omega)]
  · intro rec
    show (if nI 32 < 32 then _ else _) = _
    rw [if_neg (by decide)]
  · show _ = (nI 0, ep_mk c0 (ep_mL m 162 (ep_mlf m (64 * o) e 0)))
    have : ep_mlf m (64 * o) e 0 = m.1 162 := by
      funext j
      unfold ep_mlf
      rw [if_neg (by omega), if_neg (by omega)]
    rw [this, ep_mLid]
    rfl
theorem ep_send_ {N : Nat} {c : ep_C} {m : ep_M} (hR : ep_R N c m) (hN : N + 100 < 2 ^ 28) {h t e : Nat} (ho : ep_On m h t e) (p q : Int32) : ep_Tc (N + 8) h t e c m (fun s => eF_3_send s (eh_fp (nI t)) p q) (fun s => eF_12_send s (nI h) (nI e) p q) := by
  have ht := ho.2.1
  have he := ho.2.2.1
  have hto := ho.2.2.2.2.1
  have i6 : eh_in (nI e) 6 = true := ep_in he (by decide)
  have f3 : ∀ m0, (ep_mk c m0).1 (eh_fp (nI t)) 3 = nI e := fun m0 => by rw [ep_rF0 _ _ ht, (hR.2.2.2.2.2.2.2.2.2.2.1 t ht).2.2.1, hto]
  cases hb : ep_inb p 6 (m.1 155) with
  | false =>
    refine ep_Tc_mono (ep_Tc_no hR ho (ep_L_rf m) (-1) (fun m0 => ?_) (fun c0 => ?_)) (by omega)
    · show eF_3_send (ep_mk c m0) _ _ _ = _
      unfold eF_3_send
      rw [ep_chasE hR, ep_sb, hb, ep_J, if_pos ep_bf]
    · show eF_12_send (ep_mk c0 m) _ _ _ _ = _
      unfold eF_12_send
      rw [ep_misE, ep_sb, hb, ep_J, if_pos ep_bf]
  | true =>
    by_cases hpe : p = nI e
    · refine ep_Tc_mono (ep_Tc_no hR ho (ep_L_rf m) (-1) (fun m0 => ?_) (fun c0 => ?_)) (by omega)
      · show eF_3_send (ep_mk c m0) _ _ _ = _
        unfold eF_3_send
        rw [ep_chasE hR, ep_sb, hb, ep_J, if_neg ep_bt, f3, if_pos hpe]
      · show eF_12_send (ep_mk c0 m) _ _ _ _ = _
        unfold eF_12_send
        rw [ep_misE, ep_sb, hb, ep_J, if_neg ep_bt, if_pos hpe]
    obtain ⟨M, hL, hM, hB⟩ := ep_mcanR hR ho q (n := 32) (by decide)
    cases hrb : ep_rb m (c.1 10) e (ep_u q) 1 32 with
    | false =>
      refine ep_Tc_mono (ep_Tc_no hR ho hL (-1) (fun m0 => ?_) (fun c0 => ?_)) (by omega)
      · show eF_3_send (ep_mk c m0) _ _ _ = _
        unfold eF_3_send
        rw [ep_chasE hR, ep_sb, hb, ep_J, if_neg ep_bt, f3, if_neg hpe]
        refine ep_bnd (ep_creaches hR ht he hto q 1 (n := 32) (by decide) m0) ?_
        rw [hrb, if_pos ep_bf]
      · show eF_12_send (ep_mk c0 m) _ _ _ _ = _
        unfold eF_12_send
        rw [ep_misE, ep_sb, hb, ep_J, if_neg ep_bt, if_neg hpe]
        refine ep_bnd (hM c0) ?_
        rw [hrb, if_pos ep_bf]
    | true =>
      obtain ⟨o, hoo, rfl, hE⟩ := ep_inb_t (by decide) hb
      have o6 : eh_in (nI o) 6 = true := ep_in hoo (by decide)
      have xo : eh_ix (nI o) = o := ep_ix (by omega)
      have gE := hR.2.2.2.2.2.2.2.2.2.2.2.2.2.2.2.2.1 o hoo
      have hne : o ≠ e := fun z => hpe (by rw [z])
      by_cases h2 : ¬ m.1 155 o = 2
      · refine ep_Tc_mono (ep_Tc_no hR ho hL (-2) (fun m0 => ?_) (fun c0 => ?_)) (by omega)
        · show eF_3_send (ep_mk c m0) _ _ _ = _
          unfold eF_3_send
          rw [ep_chasE hR, ep_sb, hb, ep_J, if_neg ep_bt, f3, if_neg hpe]
          refine ep_bnd (ep_creaches hR ht he hto q 1 (n := 32) (by decide) m0) ?_
          rw [hrb, if_neg ep_bt, if_pos o6, ep_rE0 _ _ hoo, gE.1, if_neg h2]
        · show eF_12_send (ep_mk c0 m) _ _ _ _ = _
          unfold eF_12_send
          rw [ep_misE, ep_sb, hb, ep_J, if_neg ep_bt, if_neg hpe]
          refine ep_bnd (hM c0) ?_
          rw [hrb, if_neg ep_bt, if_pos o6, xo, ep_rM _ _ 155 (by decide), ep_Lk hL 155 (by omega), if_neg h2]
      have h2 := Decidable.not_not.mp h2
      by_cases h11 : ¬ m.1 161 o = 0
      · refine ep_Tc_mono (ep_Tc_no hR ho hL (-5) (fun m0 => ?_) (fun c0 => ?_)) (by omega)
        · show eF_3_send (ep_mk c m0) _ _ _ = _
          unfold eF_3_send
          rw [ep_chasE hR, ep_sb, hb, ep_J, if_neg ep_bt, f3, if_neg hpe]
          refine ep_bnd (ep_creaches hR ht he hto q 1 (n := 32) (by decide) m0) ?_
          rw [hrb, if_neg ep_bt, if_pos o6, ep_rE0 _ _ hoo, gE.1, if_pos h2, gE.2.2.2.2.2.1, if_neg h11]
        · show eF_12_send (ep_mk c0 m) _ _ _ _ = _
          unfold eF_12_send
          rw [ep_misE, ep_sb, hb, ep_J, if_neg ep_bt, if_neg hpe]
          refine ep_bnd (hM c0) ?_
          rw [hrb, if_neg ep_bt, if_pos o6, xo, ep_rM _ _ 155 (by decide), ep_Lk hL 155 (by omega), if_pos h2, if_pos o6, ep_rM _ _ 161 (by decide), ep_Lk hL 161 (by omega), if_neg h11]
      have h11 := Decidable.not_not.mp h11
      have hbyte := hB hrb
      obtain ⟨g1, hg1⟩ : ∃ g1 : Nat → Int32, g1 = ep_in_ (c.2.1 11 o) 0 8 fun j => ep_bw (m.1 128) (ep_u q + 4 * j) := ⟨_, rfl⟩
      obtain ⟨g2, hg2⟩ : ∃ g2 : Nat → Int32, g2 = va_cpy (c.2.1 9 e) (c.2.1 12 o) 0 0 8 := ⟨_, rfl⟩
      have hg1b : ∀ j, j < 8 → g1 j = ep_bw (M.1 195) (4 * j) := fun j hj => by
        rw [hg1]
        unfold ep_in_
        rw [if_pos (by omega), Nat.sub_zero]
        refine ep_bw_255 fun i hi => ?_
        rw [hbyte _ (by omega), ep_nb255, Nat.add_assoc]
      have hrd : ∀ m0, eF_3_read (ep_mk c m0) q 32 (eh_ep (nI o) + 7) 8 0 = some (ep_mk (ep_cG c 11 o g1) m0) := fun m0 => by
        rw [hg1]
        exact ep_cread (c := c) (m := m) q (k := 8) (by decide) (ep_rb_u hrb) (eh_ep (nI o) + 7) 8 0 (fun g => ep_cG c 11 o g) (fun g m0 => by rw [ep_rE _ _ 7 hoo (by decide), ep_cGs]) (fun g m0 j v => by rw [ep_iE _ _ 7 _ _ hoo (by decide), ep_cGH]) (fun g => hR.1) (old := c.2.1 11 o) (ep_cGid c 11 o) (by decide) (by decide) m0
      have RM := ep_R_L hR hL
      have R2 := ep_R_mail RM hoo (v := 1) (Or.inr rfl)
      obtain ⟨c1, hc1⟩ : ∃ c1, c1 = ep_cH (ep_cG (ep_cG c 11 o g1) 12 o g2) 4 o 11 1 := ⟨_, rfl⟩
      obtain ⟨m1, hm1⟩ : ∃ m1, m1 = ep_mI (ep_mL M 162 (ep_mlf M (64 * o) e 32)) 161 o 1 := ⟨_, rfl⟩
      have R1 : ep_R N c1 m1 := by
        rw [hc1, hm1]
        refine ⟨R2.1, R2.2.1, R2.2.2.1, R2.2.2.2.1, R2.2.2.2.2.1, R2.2.2.2.2.2.1, R2.2.2.2.2.2.2.1, R2.2.2.2.2.2.2.2.1, R2.2.2.2.2.2.2.2.2.1, R2.2.2.2.2.2.2.2.2.2.1, R2.2.2.2.2.2.2.2.2.2.2.1, R2.2.2.2.2.2.2.2.2.2.2.2.1, R2.2.2.2.2.2.2.2.2.2.2.2.2.1, R2.2.2.2.2.2.2.2.2.2.2.2.2.2.1, R2.2.2.2.2.2.2.2.2.2.2.2.2.2.2.1, R2.2.2.2.2.2.2.2.2.2.2.2.2.2.2.2.1, R2.2.2.2.2.2.2.2.2.2.2.2.2.2.2.2.2.1, R2.2.2.2.2.2.2.2.2.2.2.2.2.2.2.2.2.2.1, R2.2.2.2.2.2.2.2.2.2.2.2.2.2.2.2.2.2.2.1, R2.2.2.2.2.2.2.2.2.2.2.2.2.2.2.2.2.2.2.2.1, ?_, ?_, R2.2.2.2.2.2.2.2.2.2.2.2.2.2.2.2.2.2.2.2.2.2.2.1, R2.2.2.2.2.2.2.2.2.2.2.2.2.2.2.2.2.2.2.2.2.2.2.2.1, R2.2.2.2.2.2.2.2.2.2.2.2.2.2.2.2.2.2.2.2.2.2.2.2.2.1, R2.2.2.2.2.2.2.2.2.2.2.2.2.2.2.2.2.2.2.2.2.2.2.2.2.2.1, R2.2.2.2.2.2.2.2.2.2.2.2.2.2.2.2.2.2.2.2.2.2.2.2.2.2.2.1, R2.2.2.2.2.2.2.2.2.2.2.2.2.2.2.2.2.2.2.2.2.2.2.2.2.2.2.2.1, R2.2.2.2.2.2.2.2.2.2.2.2.2.2.2.2.2.2.2.2.2.2.2.2.2.2.2.2.2.1, R2.2.2.2.2.2.2.2.2.2.2.2.2.2.2.2.2.2.2.2.2.2.2.2.2.2.2.2.2.2.1, R2.2.2.2.2.2.2.2.2.2.2.2.2.2.2.2.2.2.2.2.2.2.2.2.2.2.2.2.2.2.2.1, R2.2.2.2.2.2.2.2.2.2.2.2.2.2.2.2.2.2.2.2.2.2.2.2.2.2.2.2.2.2.2.2.1, R2.2.2.2.2.2.2.2.2.2.2.2.2.2.2.2.2.2.2.2.2.2.2.2.2.2.2.2.2.2.2.2.2.1, R2.2.2.2.2.2.2.2.2.2.2.2.2.2.2.2.2.2.2.2.2.2.2.2.2.2.2.2.2.2.2.2.2.2⟩
        · refine ep_Gd_w (e := o) RM.2.2.2.2.2.2.2.2.2.2.2.2.2.2.2.2.2.2.2.2.1 (fun j hj => ?_) (fun e' he' y => ?_) (fun e' he' y k k1 k2 => ?_)
          · rw [ep_cHi _ _ _ _ _ _ _ (by decide), ep_cGi _ _ _ _ _ _ (by decide), ep_cGs, hg1b j hj]
            show _ = ep_bw (ep_mlf M (64 * o) e 32) (64 * o + 0 + 4 * j)
            refine ep_bw_255 fun i hi => ?_
            unfold ep_mlf
            rw [if_pos (by omega), ep_nb255, show 64 * o + 0 + 4 * j + i - 64 * o = 4 * j + i by omega]
          · rw [ep_cHi _ _ _ _ _ _ _ (by decide), ep_cGi _ _ _ _ _ _ (by decide), ep_cGh _ _ _ _ _ y]
          · show ep_mlf M (64 * o) e 32 k = M.1 162 k
            unfold ep_mlf
            rw [if_neg (by omega), if_neg (by omega)]
        · refine ep_Gd_w (e := o) RM.2.2.2.2.2.2.2.2.2.2.2.2.2.2.2.2.2.2.2.2.2.1 (fun j hj => ?_) (fun e' he' y => ?_) (fun e' he' y k k1 k2 => ?_)
          · rw [ep_cHi _ _ _ _ _ _ _ (by decide), ep_cGs, hg2, ep_cpy8, if_pos (by omega), Nat.sub_zero, RM.2.2.2.2.2.2.2.2.2.2.2.2.2.2.2.2.2.2.1 e he j hj]
            show _ = ep_bw (ep_mlf M (64 * o) e 32) (64 * o + 32 + 4 * j)
            refine ep_bw_255 fun i hi => ?_
            unfold ep_mlf
            rw [if_neg (by omega), if_pos (by omega), ep_nb255, show 32 * e + (64 * o + 32 + 4 * j + i - (64 * o + 32)) = 32 * e + 0 + 4 * j + i by omega]
          · rw [ep_cHi _ _ _ _ _ _ _ (by decide), ep_cGh _ _ _ _ _ y, ep_cGi _ _ _ _ _ _ (by decide)]
          · show ep_mlf M (64 * o) e 32 k = M.1 162 k
            unfold ep_mlf
            rw [if_neg (by omega), if_neg (by omega)]
      have c1m : c1.2.1 11 o = g1 := by rw [hc1, ep_cHi _ _ _ _ _ _ _ (by decide), ep_cGi _ _ _ _ _ _ (by decide), ep_cGs]
      have m1r : m1.1 195 = M.1 195 := by rw [hm1]; rfl
      have ho1 : ep_On m1 h t e := by rw [hm1]; exact ep_On_L hL ho
      have key := ep_lock (B1 := fun (r18 : (Int32 × eh_F) → Option (eh_F)) (t15 : Int32 × eh_F) => if t15.1 < 8 then (if eh_in t15.1 8 then Option.bind (eF_9_flip t15.2 (t15.2.1 ((eh_ep (nI o)) + 7) (eh_ix t15.1))) (fun q20 => Option.bind (eF_5_note t15.2 6 (eh_fp (nI t)) (nI o) t15.1 q20) (fun q21 => eh_V ((t15.1 + 1) : Int32) (fun x22 => r18 (x22, q21)))) else none) else (some t15.2)) (B2 := fun (r16 : (Int32 × eh_F) → Option (eh_F)) (t13 : Int32 × eh_F) => if t13.1 < 8 then (Option.bind (eF_12_littleWord t13.2 195 128 (4 * t13.1)) (fun q18 => Option.bind (eF_12_happens t13.2 6 (nI h) (nI o) t13.1 q18) (fun q19 => eh_V ((t13.1 + 1) : Int32) (fun x20 => r16 (x20, q19))))) else (some t13.2)) (fun i s => (nI i, s)) (fun i s => (nI i, s)) (fun i c' m' => ep_W (N + i) c1 m1 c' m') 8 (by decide) ?_ ?_ (ep_W_rf R1)
      · obtain ⟨c2, m2, W2, l1, l2⟩ := key
        refine ⟨0, c2, m2, fun m0 => ?_, fun c0 => ?_, W2.2.2, ep_Fm_tr (m1 := m1) ⟨ho1, fun j hj => ?_, ?_⟩ (ep_Fm_W W2 ho1)⟩
        · show eF_3_send (ep_mk c m0) _ _ _ = _
          unfold eF_3_send
          rw [ep_chasE hR, ep_sb, hb, ep_J, if_neg ep_bt, f3, if_neg hpe]
          refine ep_bnd (ep_creaches hR ht he hto q 1 (n := 32) (by decide) m0) ?_
          rw [hrb, if_neg ep_bt, if_pos o6, ep_rE0 _ _ hoo, gE.1, if_pos h2, gE.2.2.2.2.2.1, if_pos h11]
          refine ep_bnd (hrd m0) ?_
          rw [show (ep_mk (ep_cG c 11 o g1) m0).1 (eh_fp (nI t)) 3 = nI e from by rw [ep_rF0 _ _ ht, ep_cGi _ _ _ _ _ _ (by decide), (hR.2.2.2.2.2.2.2.2.2.2.1 t ht).2.2.1, hto], if_pos i6, if_pos (by decide), ep_V, ep_rE _ _ 5 he (by decide), ep_rE _ _ 8 hoo (by decide), ep_wE _ _ 8 _ hoo (by decide), ep_V, ep_iE0 _ _ _ _ hoo]
          have hx : ep_cH (ep_cG (ep_cG c 11 o g1) (4 + 8) o (va_cpy ((ep_cG c 11 o g1).2.1 (4 + 5) e) ((ep_cG c 11 o g1).2.1 (4 + 8) o) (eh_ix 0) (eh_ix 0) (eh_ix 8))) 4 o 11 1 = c1 := by rw [hc1, hg2]; rfl
          rw [hx]
          exact ep_bnd (l1 m0) rfl
        · show eF_12_send (ep_mk c0 m) _ _ _ _ = _
          unfold eF_12_send
          rw [ep_misE, ep_sb, hb, ep_J, if_neg ep_bt, if_neg hpe]
          refine ep_bnd (hM c0) ?_
          rw [hrb, if_neg ep_bt, if_pos o6, xo, ep_rM _ _ 155 (by decide), ep_Lk hL 155 (by omega), if_pos h2, if_pos o6, ep_rM _ _ 161 (by decide), ep_Lk hL 161 (by omega), if_pos h11]
          refine ep_bnd (ep_mmail M he hoo c0) ?_
          rw [if_pos o6, ep_V, ep_iM _ _ _ _ _ (by decide), show eh_nz 1 = 1 by decide, ← hm1]
          exact ep_bnd (l2 c0) rfl
        · rw [hm1]; exact hL.2.1 j (by omega) (by omega)
        · rw [hm1]; exact ep_Lk hL 130 (by omega)
      · intro i c' m' hi hW
        have ho' := ep_W_On hW ho1
        obtain ⟨⟨X, Y, g, v, hc'⟩, ⟨X', Y', g', v', hm'⟩, hR'⟩ := hW
        have hW : ep_W (N + i) c1 m1 c' m' := ⟨⟨X, Y, g, v, hc'⟩, ⟨X', Y', g', v', hm'⟩, hR'⟩
        have r7 : ∀ m0, (ep_mk c' m0).1 (eh_ep (nI o) + 7) = g1 := fun m0 => by
          rw [ep_rE _ _ 7 hoo (by decide), hc', ← c1m]; rfl
        have r195 : m'.1 195 = M.1 195 := by rw [hm', ← m1r]; exact ep_mw_o _ _ _ _ _ _ (by decide)
        obtain ⟨c2, m2, n1, n2, n3⟩ := ep_note hR' (by omega) ho' 6 (nI o) (nI i) (ep_lw (M.1 195) (4 * i))
        refine ⟨c2, m2, ep_W_tr hW n3, fun m0 rec => ?_, fun c0 rec => ?_⟩
        · show (if nI i < 8 then _ else _) = _
          rw [if_pos (show nI i < 8 from nI_lt (b := 8) hi (by decide)), if_pos (ep_in hi (by decide)), r7, show eh_ix (nI i) = i from ep_ix (by omega), hg1b i hi, ep_cflip, ep_sb, ep_flip_bw, n1 m0, ep_sb, ep_V, nI_1]
        · show (if nI i < 8 then _ else _) = _
          rw [if_pos (show nI i < 8 from nI_lt (b := 8) hi (by decide)), ep_mul (a := i) (b := 4) (y := 4) rfl rfl, ep_mlittle m' 195 128 (by decide) (by omega) (by decide), ep_sb, r195, n2 c0, ep_sb, ep_V, nI_1]
      · intro c' m' _
        refine ⟨fun m0 rec => ?_, fun c0 rec => ?_⟩
        · show (if nI 8 < 8 then _ else _) = _
          rw [if_neg (by decide)]
        · show (if nI 8 < 8 then _ else _) = _
          rw [if_neg (by decide)]
theorem ep_receive_ {N : Nat} {c : ep_C} {m : ep_M} (hR : ep_R N c m) (hN : N + 100 < 2 ^ 28) {h t e : Nat} (ho : ep_On m h t e) (p : Int32) : ep_Tc (N + 65) h t e c m (fun s => eF_3_receive s (eh_fp (nI t)) p) (fun s => eF_12_receive s (nI h) (nI e) p) := by
  have ht := ho.2.1
  have he := ho.2.2.1
  have hto := ho.2.2.2.2.1
  have i6 : eh_in (nI e) 6 = true := ep_in he (by decide)
  have x6 : eh_ix (nI e) = e := ep_ix (by omega)
  have e64 : (64 : Int32) * nI e = nI (64 * e) := ep_mul (b := 64) rfl rfl
  have f3 : ∀ m0, (ep_mk c m0).1 (eh_fp (nI t)) 3 = nI e := fun m0 => by rw [ep_rF0 _ _ ht, (hR.2.2.2.2.2.2.2.2.2.2.1 t ht).2.2.1, hto]
  have gE := (hR.2.2.2.2.2.2.2.2.2.2.2.2.2.2.2.2.1 e he).2.2.2.2.2.1
  have gB := (hR.2.2.2.2.2.2.2.2.2.2.2.2.2.2.2.2.1 e he).2.2.2.2.2.2.1
  obtain ⟨M, ⟨hL, -⟩, hM⟩ := ep_mcanW hR ho p (n := 64) (by decide)
  cases hrb : ep_rb m (c.1 10) e (ep_u p) 2 64 with
  | false =>
    refine ep_Tc_mono (ep_Tc_no hR ho hL (-1) (fun m0 => ?_) (fun c0 => ?_)) (by omega)
    · show eF_3_receive (ep_mk c m0) _ _ = _
      unfold eF_3_receive
      refine ep_bnd (ep_creaches hR ht he hto p 2 (n := 64) (by decide) m0) ?_
      rw [hrb, if_pos ep_bf]
    · show eF_12_receive (ep_mk c0 m) _ _ _ = _
      unfold eF_12_receive
      refine ep_bnd (hM c0) ?_
      rw [hrb, if_pos ep_bf]
  | true =>
    have RM := ep_R_L hR hL
    have hoM := ep_On_L hL ho
    obtain ⟨c1, m1, n1, n2, n3⟩ := ep_note RM (by omega) hoM 7 (m.1 161 e) 0 0
    have ho1 := ep_W_On n3 hoM
    obtain ⟨⟨X, Y, g, v, hc1⟩, ⟨X', Y', g', v', hm1⟩, R1⟩ := n3
    have n3 : ep_W (N + 1) c M c1 m1 := ⟨⟨X, Y, g, v, hc1⟩, ⟨X', Y', g', v', hm1⟩, R1⟩
    have c12 : c1.2 = c.2 := by rw [hc1]; rfl
    have m1k : ∀ k, k ≠ 127 ∧ k ≠ 128 ∧ k ≠ 147 ∧ k ≠ 173 → m1.1 k = M.1 k := fun k hk => by rw [hm1]; exact ep_mw_o _ _ _ _ _ _ hk
    have m161 : m1.1 161 e = m.1 161 e := by rw [m1k 161 (by decide), ep_Lk hL 161 (by omega)]
    have F1 := ep_Fm_tr (ep_Fm_L hL ho) (ep_Fm_W n3 hoM)
    have c11 : ∀ m0, (ep_mk c1 m0).1 (eh_ep (nI e)) 11 = m.1 161 e := fun m0 => by rw [ep_rE0 _ _ he, c12]; exact gE
    by_cases h0 : m.1 161 e = 0
    · rw [h0] at n1 n2
      refine ⟨0, c1, m1, fun m0 => ?_, fun c0 => ?_, ep_R_mono R1 (by omega), F1⟩
      · show eF_3_receive (ep_mk c m0) _ _ = _
        unfold eF_3_receive
        refine ep_bnd (ep_creaches hR ht he hto p 2 (n := 64) (by decide) m0) ?_
        rw [hrb, if_neg ep_bt, f3, if_pos i6, ep_J, ep_rE0 _ _ he, gE, if_pos h0]
        refine ep_bnd (n1 m0) ?_
        rw [ep_J, c11, if_pos h0]
      · show eF_12_receive (ep_mk c0 m) _ _ _ = _
        unfold eF_12_receive
        refine ep_bnd (hM c0) ?_
        rw [hrb, if_neg ep_bt, if_pos i6, ep_J, x6, ep_rM _ _ 161 (by decide), ep_Lk hL 161 (by omega), if_pos h0]
        refine ep_bnd (n2 c0) ?_
        rw [if_pos i6, ep_rM _ _ 161 (by decide), m161, if_pos h0]
    · have h1 : m.1 161 e = 1 := gB.resolve_left h0
      rw [h1] at n1 n2
      have R2 := ep_R_mail R1 he (v := 0) (Or.inl rfl)
      have ho2 : ep_On (ep_mI m1 161 e 0) h t e := ho1
      have hq32 : ep_u (p + 32) = ep_u p + 32 := by
        have := ep_rb_u hrb 32 (by decide)
        exact ep_uadd (k := 32) (by omega)
      have g11 : ∀ j, j < 8 → c.2.1 11 e j = ep_bw (m1.1 162) (64 * e + 4 * j) := fun j hj => by
        rw [m1k 162 (by decide), ep_Lk hL 162 (by omega)]
        exact hR.2.2.2.2.2.2.2.2.2.2.2.2.2.2.2.2.2.2.2.2.1 e he j hj
      have g12 : ∀ j, j < 8 → c.2.1 12 e j = ep_bw (m1.1 162) (64 * e + 32 + 4 * j) := fun j hj => by
        rw [m1k 162 (by decide), ep_Lk hL 162 (by omega)]
        exact hR.2.2.2.2.2.2.2.2.2.2.2.2.2.2.2.2.2.2.2.2.2.1 e he j hj
      obtain ⟨c3, m3, W3, q2, q3⟩ := ep_wseg R2 (n := 32) (by omega) ho2 p p 0 0 32 64 (by decide) (by decide) (by decide) (by decide) (fun k hk => by have := ep_rb_u hrb k (by omega); omega) rfl (eh_ep (nI e) + 7) 8 162 384 (64 * e) (c.2.1 11 e) (fun X Y g v m0 => by rw [ep_rE _ _ 7 he (by decide)]; show (ep_cH c1 4 e 11 0).2.1 11 e = _; rw [ep_cHi _ _ _ _ _ _ _ (by decide), c12]) (by decide) (by decide) (by omega) (by decide) (fun k hk => by
        rw [Nat.zero_add]
        exact ep_row8 (b := m1.1 162) (off := 64 * e) g11 k hk)
      have ho3 := ep_W_On W3 ho2
      have m3k : m3.1 162 = m1.1 162 := by
        obtain ⟨-, ⟨A, B, C, D, z⟩, -⟩ := W3
        rw [z, ep_mw_o _ _ _ _ _ _ (by decide)]; rfl
      have c32 : ∀ e', c3.2.1 12 e' = c.2.1 12 e' := fun e' => by
        obtain ⟨⟨A, B, C, D, z⟩, -, -⟩ := W3
        rw [z]
        show (ep_cH c1 4 e 11 0).2.1 12 e' = _
        rw [ep_cHi _ _ _ _ _ _ _ (by decide), c12]
      obtain ⟨c4, m4, W4, r2, r3⟩ := ep_wseg (ep_R_W W3) (n := 32) (by omega) ho3 (p + 32) p 0 32 32 64 (by decide) (by decide) (by decide) (by decide) (fun k hk => by rw [hq32]; have := ep_rb_u hrb (32 + k) (by omega); omega) (by rw [hq32]) (eh_ep (nI e) + 8) 8 162 384 (64 * e) (c.2.1 12 e) (fun X Y g v m0 => by rw [ep_rE _ _ 8 he (by decide)]; exact c32 e) (by decide) (by decide) (by omega) (by decide) (fun k hk => by
        rw [Nat.zero_add, m3k, show 64 * e + (32 + k) = 64 * e + 32 + k by omega]
        exact ep_row8 (b := m1.1 162) (off := 64 * e + 32) g12 k hk)
      have W5 := ep_W_tr W3 W4
      have cl1 : ∀ m0, eF_3_write (ep_mk (ep_cH c1 4 e 11 0) m0) (eh_fp (nI t)) p (eh_ep (nI e) + 7) 8 32 = some (ep_mk c3 m0) := fun m0 => by
        refine (ep_cwrite_eq _ _ _ _ _ 32).trans ?_
        refine ep_bnd (v := ep_mk c3 m0) ?_ rfl
        rw [show eh_FU = 1099511627743 + 1 + 32 from rfl]
        refine (q2 m0 _).trans ?_
        exact ep_WB_end 32 _ _ _ _ (by decide) _ _
      have cl2 : ∀ m0, eF_3_write (ep_mk c3 m0) (eh_fp (nI t)) (p + 32) (eh_ep (nI e) + 8) 8 32 = some (ep_mk c4 m0) := fun m0 => by
        refine (ep_cwrite_eq _ _ _ _ _ 32).trans ?_
        refine ep_bnd (v := ep_mk c4 m0) ?_ rfl
        rw [show eh_FU = 1099511627743 + 1 + 32 from rfl]
        refine (r2 m0 _).trans ?_
        exact ep_WB_end 32 _ _ _ _ (by decide) _ _
      have ml : ∀ c0, eF_12_writeTo (ep_mk c0 (ep_mI m1 161 e 0)) (nI h) p 162 384 (nI (64 * e)) 64 = some (ep_mk c0 m4) := fun c0 => by
        refine (ep_mwrite_eq _ _ _ _ _ 64 _).trans ?_
        refine ep_bnd (v := ep_mk c0 m4) ?_ rfl
        rw [show eh_FU = 1099511627711 + 1 + 32 + 32 from rfl, q3 c0]
        show eh_loop _ _ (nI 32, _) = _
        rw [r3 c0]
        exact ep_WM_end 64 _ _ _ _ _ (by decide) _ _
      refine ⟨1, c4, m4, fun m0 => ?_, fun c0 => ?_, ep_R_mono W4.2.2 (by omega), ep_Fm_tr F1 (ep_Fm_tr (m1 := ep_mI m1 161 e 0) ⟨ho2, fun j hj => rfl, rfl⟩ (ep_Fm_W W5 ho2))⟩
      · show eF_3_receive (ep_mk c m0) _ _ = _
        unfold eF_3_receive
        refine ep_bnd (ep_creaches hR ht he hto p 2 (n := 64) (by decide) m0) ?_
        rw [hrb, if_neg ep_bt, f3, if_pos i6, ep_J, ep_rE0 _ _ he, gE, if_neg h0]
        refine ep_bnd (n1 m0) ?_
        rw [ep_J, c11, if_neg h0, ep_V, ep_iE0 _ _ _ _ he]
        refine ep_bnd (cl1 m0) ?_
        exact ep_bnd (cl2 m0) rfl
      · show eF_12_receive (ep_mk c0 m) _ _ _ = _
        unfold eF_12_receive
        refine ep_bnd (hM c0) ?_
        rw [hrb, if_neg ep_bt, if_pos i6, ep_J, x6, ep_rM _ _ 161 (by decide), ep_Lk hL 161 (by omega), if_neg h0]
        refine ep_bnd (n2 c0) ?_
        rw [if_pos i6, ep_rM _ _ 161 (by decide), m161, if_neg h0, if_pos i6, ep_V, ep_iM _ _ _ _ _ (by decide), show eh_nz 0 = 0 by decide, e64]
        exact ep_bnd (ml c0) rfl
/-! counters of measurements -/
def ep_ceq (c : ep_C) (f : Nat → Int32) (k : Nat) : Bool := ep_all (fun j => decide (c.1 39 (8 * k + j) = f j)) 8
theorem ep_cisc {c : ep_C} {k p : Nat} (hk : k < 8) (f : Nat → Int32) (hrd : ∀ m0, (ep_mk c m0).1 p = f) (m0 : ep_M) : eF_5_isCounted (ep_mk c m0) (nI k) p 8 = some (ep_bi (ep_ceq c f k)) := by
  unfold eF_5_isCounted
  have z8 : nI k * 8 = nI (8 * k) := by rw [Int32.mul_comm]; exact ep_mul rfl rfl
  rw [z8]
  refine ep_lpf (fun i => nI i) 8 (fun j => decide (c.1 39 (8 * k + j) = f j)) (fun _ => .inr ()) (.inl ()) (by decide) rfl ?_ ?_ ?_ ?_ ?_
  · intro i hi hb rec
    show (if nI i < 8 then _ else _) = _
    rw [if_pos (show nI i < 8 from nI_lt (b := 8) hi (by decide)), nI_add, if_pos (ep_in (show 8 * k + i < 64 by omega) (by decide)), if_pos (ep_in hi (by decide)), show eh_ix (nI i) = i from ep_ix (by omega), show eh_ix (nI (8 * k + i)) = 8 * k + i from ep_ix (by omega), ep_rC1 _ _ 39 (by decide), hrd, if_pos (by simpa using hb), ep_V, nI_1]
  · intro i hi hb rec
    show (if nI i < 8 then _ else _) = _
    rw [if_pos (show nI i < 8 from nI_lt (b := 8) hi (by decide)), nI_add, if_pos (ep_in (show 8 * k + i < 64 by omega) (by decide)), if_pos (ep_in hi (by decide)), show eh_ix (nI i) = i from ep_ix (by omega), show eh_ix (nI (8 * k + i)) = 8 * k + i from ep_ix (by omega), ep_rC1 _ _ 39 (by decide), hrd, if_neg (by simpa using hb)]
  · intro rec
    show (if nI 8 < 8 then _ else _) = _
    rw [if_neg (by decide)]
  · intro g
    rw [show ep_ceq c f k = true from ep_all_iff.mpr g]; rfl
  · intro j hj hb _
    have : ep_ceq c f k = false := by
      rw [Bool.eq_false_iff]
      intro z
      have := ep_all_iff.mp z j hj
      rw [hb] at this
      exact absurd this (by decide)
    rw [this]; rfl
def ep_meq (m : ep_M) (e k n : Nat) : Bool := ep_all (fun j => decide (m.1 183 (32 * k + j) = m.1 159 (32 * e + j))) n
theorem ep_mcmpc (m : ep_M) {e k : Nat} (he : e < 6) (hk : k < 8) (c0 : ep_C) : eh_loop (fun (r30 : (Int32 × Int32) → Option (Int32)) (t23 : Int32 × Int32) => if t23.2 < 32 then (if t23.1 = 0 then (some t23.1) else (if eh_in (nI (32 * k) + t23.2) 256 then if eh_in (nI (32 * e) + t23.2) 192 then eh_J (fun (a34 : Int32) => eh_V ((t23.2 + 1) : Int32) (fun x35 => r30 (a34, x35))) (fun j33 => if ((ep_mk c0 m).1 183 (eh_ix (nI (32 * k) + t23.2))) = ((ep_mk c0 m).1 159 (eh_ix (nI (32 * e) + t23.2))) then (j33 1) else (j33 0)) else none else none)) else (some t23.1)) eh_FU (1, 0) = some (ep_bi (ep_meq m e k 32)) := by
  have key := ep_minv0 (A := Unit) (X := Bool) (body := fun _ (r30 : (Int32 × Int32) → Option (Int32)) (t23 : Int32 × Int32) => if t23.2 < 32 then (if t23.1 = 0 then (some t23.1) else (if eh_in (nI (32 * k) + t23.2) 256 then if eh_in (nI (32 * e) + t23.2) 192 then eh_J (fun (a34 : Int32) => eh_V ((t23.2 + 1) : Int32) (fun x35 => r30 (a34, x35))) (fun j33 => if ((ep_mk c0 m).1 183 (eh_ix (nI (32 * k) + t23.2))) = ((ep_mk c0 m).1 159 (eh_ix (nI (32 * e) + t23.2))) then (j33 1) else (j33 0)) else none else none)) else (some t23.1)) (fun _ i x => (ep_bi x, nI i)) (fun G => G () = some (ep_bi (ep_meq m e k 32))) (fun i x => x = ep_meq m e k i) 32 (by decide) ?_ ?_ true rfl
  · obtain ⟨G, g1, g2⟩ := key
    exact (g2 ()).trans g1
  · intro i x hi hp
    cases x with
    | false =>
      right
      have hf : ep_meq m e k 32 = false := by
        rw [Bool.eq_false_iff]
        intro z
        have : ep_meq m e k i = true := ep_all_iff.mpr fun j hj => ep_all_iff.mp z j (by omega)
        rw [← hp] at this
        exact absurd this (by decide)
      refine ⟨fun _ => some (ep_bi false), by rw [hf], fun _ rec => ?_⟩
      show (if nI i < 32 then (if ep_bi false = 0 then some (ep_bi false) else _) else _) = _
      rw [if_pos (show nI i < 32 from nI_lt (b := 32) hi (by decide)), if_pos ep_bf]
    | true =>
      left
      refine ⟨decide (m.1 183 (32 * k + i) = m.1 159 (32 * e + i)), ?_, fun _ rec => ?_⟩
      · show _ = (ep_meq m e k i && decide (m.1 183 (32 * k + i) = m.1 159 (32 * e + i)))
        rw [← hp, Bool.true_and]
      · show (if nI i < 32 then (if ep_bi true = 0 then _ else _) else _) = _
        rw [if_pos (show nI i < 32 from nI_lt (b := 32) hi (by decide)), if_neg ep_bt, nI_add, nI_add, if_pos (ep_in (show 32 * k + i < 256 by omega) (by decide)), if_pos (ep_in (show 32 * e + i < 192 by omega) (by decide)), ep_J, show eh_ix (nI (32 * k + i)) = 32 * k + i from ep_ix (by omega), show eh_ix (nI (32 * e + i)) = 32 * e + i from ep_ix (by omega), ep_rM _ _ 183 (by decide), ep_rM _ _ 159 (by decide)]
        by_cases y : m.1 183 (32 * k + i) = m.1 159 (32 * e + i)
        · rw [if_pos y]
          simp only [ep_V, nI_1, y, decide_true]
          rfl
        · rw [if_neg y]
          simp only [ep_V, nI_1, y, decide_false]
          rfl
  · intro x hp
    refine ⟨fun _ => some (ep_bi x), by rw [hp], fun _ rec => ?_⟩
    show (if nI 32 < 32 then _ else some (ep_bi x)) = _
    rw [if_neg (by decide)]
/-- both compare alike -/
theorem ep_ceq_meq {N : Nat} {c : ep_C} {m : ep_M} (hR : ep_R N c m) {e k : Nat} (he : e < 6) (hk : k < 8) : ep_ceq c (c.2.1 9 e) k = ep_meq m e k 32 := by
  obtain ⟨-, -, h3, n, -, -, -, -, h8, h9⟩ := hR.2.2.2.2.2.2.2.2.2.2.2.2.2.2.2.2.2.2.2.2.2.2.2.2.1
  have hme := hR.2.2.2.2.2.2.2.2.2.2.2.2.2.2.2.2.2.2.1 e he
  unfold ep_ceq ep_meq
  rw [Bool.eq_iff_iff, ep_all_iff, ep_all_iff]
  constructor
  · intro g j hj
    have g1 := g (j / 4) (by omega)
    rw [decide_eq_true_eq, h3 _ (by omega), hme _ (by omega)] at g1
    have g2 := ep_bw_inj g1 (i := j % 4) (by omega)
    rw [show 4 * (8 * k + j / 4) + j % 4 = 32 * k + j by omega, show 32 * e + 0 + 4 * (j / 4) + j % 4 = 32 * e + j by omega] at g2
    rw [decide_eq_true_eq, ← h8, ← h9]
    refine ep_nb_inj ?_
    rw [ep_nb255, ep_nb255]; exact g2
  · intro g j hj
    rw [decide_eq_true_eq, h3 _ (by omega), hme _ hj]
    refine ep_bw_255 fun i hi => ?_
    have g1 := g (4 * j + i) (by omega)
    rw [decide_eq_true_eq] at g1
    rw [show 4 * (8 * k + j) + i = 32 * k + (4 * j + i) by omega, g1, show 32 * e + (4 * j + i) = 32 * e + 0 + 4 * j + i by omega]
/-- where a measurement is counted -/
def ep_fst (b : Nat → Bool) : Nat → Nat → Int32
  | _, 0 => -1
  | i, n + 1 => if b i = true then nI i else ep_fst b (i + 1) n
theorem ep_ccl {c : ep_C} {p n : Nat} (hn : n ≤ 8) (hc : c.1 1 12 = nI n) (f : Nat → Int32) (hrd : ∀ m0, (ep_mk c m0).1 p = f) (m0 : ep_M) : ((∀ k, k < n → ep_ceq c f k = false) ∧ eh_loop (fun (r10 : (Int32) → Option ((Unit) ⊕ (Int32))) (t1 : Int32) => if t1 < ((ep_mk c m0).1 1 12) then (if t1 < 8 then (Option.bind (eF_5_isCounted (ep_mk c m0) t1 p 8) (fun q13 => if q13 = 0 then (eh_V ((t1 + 1) : Int32) (fun x15 => r10 x15)) else (some (.inr t1)))) else (some (.inl ()))) else (some (.inl ()))) eh_FU 0 = some (.inl ())) ∨ ∃ k, k < n ∧ ep_ceq c f k = true ∧ eh_loop (fun (r10 : (Int32) → Option ((Unit) ⊕ (Int32))) (t1 : Int32) => if t1 < ((ep_mk c m0).1 1 12) then (if t1 < 8 then (Option.bind (eF_5_isCounted (ep_mk c m0) t1 p 8) (fun q13 => if q13 = 0 then (eh_V ((t1 + 1) : Int32) (fun x15 => r10 x15)) else (some (.inr t1)))) else (some (.inl ()))) else (some (.inl ()))) eh_FU 0 = some (.inr (nI k)) := by
  have hc' : (ep_mk c m0).1 1 12 = nI n := by rw [ep_rC1 _ _ _ (by decide), hc]
  rw [hc']
  have key := ep_lpf0 (body := fun (r10 : (Int32) → Option ((Unit) ⊕ (Int32))) (t1 : Int32) => if t1 < nI n then (if t1 < 8 then (Option.bind (eF_5_isCounted (ep_mk c m0) t1 p 8) (fun q13 => if q13 = 0 then (eh_V ((t1 + 1) : Int32) (fun x15 => r10 x15)) else (some (.inr t1)))) else (some (.inl ()))) else (some (.inl ()))) (fun i => nI i) n (fun k => !ep_ceq c f k) (fun k => .inr (nI k)) (.inl ()) ?_ ?_ ?_ n 0 eh_FU (by omega) (ep_FU n (by omega)) (fun j hj => absurd hj (Nat.not_lt_zero j))
  · rcases key with ⟨g1, g2⟩ | ⟨j, g1, g2, g3, g4⟩
    · exact Or.inl ⟨fun k hk => by simpa using g1 k hk, g2⟩
    · exact Or.inr ⟨j, g1, by simpa using g2, g4⟩
  · intro i hi hb rec
    have hb' : ep_ceq c f i = false := by simpa using hb
    show (if nI i < nI n then _ else _) = _
    rw [if_pos (nI_lt hi (by omega)), if_pos (show nI i < 8 from nI_lt (b := 8) (by omega) (by decide)), ep_cisc (by omega) f hrd, ep_sb, hb', if_pos ep_bf, ep_V, nI_1]
  · intro i hi hb rec
    have hb' : ep_ceq c f i = true := by simpa using hb
    show (if nI i < nI n then _ else _) = _
    rw [if_pos (nI_lt hi (by omega)), if_pos (show nI i < 8 from nI_lt (b := 8) (by omega) (by decide)), ep_cisc (by omega) f hrd, ep_sb, hb', if_neg ep_bt]
  · intro rec
    show (if nI n < nI n then _ else _) = _
    rw [if_neg (nI_nlt (Nat.le_refl _) (by omega))]
def ep_lst (b : Nat → Bool) : Nat → Int32
  | 0 => -1
  | n + 1 => if b n = true then nI n else ep_lst b n
theorem ep_mcl (m : ep_M) {e n : Nat} (he : e < 6) (hn : n ≤ 8) (hc : m.1 127 70 = nI n) (c0 : ep_C) : eh_loop (fun (r21 : (Int32 × Int32) → Option (Int32)) (t1 : Int32 × Int32) => if t1.2 < ((ep_mk c0 m).1 127 70) then (Option.bind (eh_loop (fun (r30 : (Int32 × Int32) → Option (Int32)) (t23 : Int32 × Int32) => if t23.2 < 32 then (if t23.1 = 0 then (some t23.1) else (if eh_in ((32 * t1.2) + t23.2) 256 then if eh_in ((32 * nI e) + t23.2) 192 then eh_J (fun (a34 : Int32) => eh_V ((t23.2 + 1) : Int32) (fun x35 => r30 (a34, x35))) (fun j33 => if ((ep_mk c0 m).1 183 (eh_ix ((32 * t1.2) + t23.2))) = ((ep_mk c0 m).1 159 (eh_ix ((32 * nI e) + t23.2))) then (j33 1) else (j33 0)) else none else none)) else (some t23.1)) eh_FU (1, 0)) (fun (e24 : Int32) => eh_J (fun (a26 : Int32) => eh_V ((t1.2 + 1) : Int32) (fun x27 => r21 (a26, x27))) (fun j25 => if e24 = 0 then (j25 t1.1) else (j25 t1.2)))) else (some t1.1)) eh_FU ((-1), 0) = some (ep_lst (fun k => ep_meq m e k 32) n) := by
  have hc' : (ep_mk c0 m).1 127 70 = nI n := by rw [ep_rM _ _ _ (by decide), hc]
  have e32 : (32 : Int32) * nI e = nI (32 * e) := ep_mul (b := 32) rfl rfl
  rw [hc', e32]
  refine ep_loop (fun i => (ep_lst (fun k => ep_meq m e k 32) i, nI i)) n _ (ep_FU _ (by omega)) ?_ ?_ rfl
  · intro i hi rec
    have e32i : (32 : Int32) * nI i = nI (32 * i) := ep_mul (b := 32) rfl rfl
    show (if nI i < nI n then _ else _) = _
    rw [if_pos (nI_lt hi (by omega))]
    show Option.bind (eh_loop (fun (r30 : (Int32 × Int32) → Option (Int32)) (t23 : Int32 × Int32) => if t23.2 < 32 then (if t23.1 = 0 then (some t23.1) else (if eh_in ((32 * nI i) + t23.2) 256 then if eh_in (nI (32 * e) + t23.2) 192 then eh_J (fun (a34 : Int32) => eh_V ((t23.2 + 1) : Int32) (fun x35 => r30 (a34, x35))) (fun j33 => if ((ep_mk c0 m).1 183 (eh_ix ((32 * nI i) + t23.2))) = ((ep_mk c0 m).1 159 (eh_ix (nI (32 * e) + t23.2))) then (j33 1) else (j33 0)) else none else none)) else (some t23.1)) eh_FU (1, 0)) _ = _
    rw [e32i]
    refine ep_bnd (ep_mcmpc m he (show i < 8 by omega) c0) ?_
    rw [ep_J]
    show _ = rec (if ep_meq m e i 32 = true then nI i else ep_lst (fun k => ep_meq m e k 32) i, nI (i + 1))
    cases ep_meq m e i 32 with
    | false =>
      rw [if_pos ep_bf]
      simp only [ep_V, nI_1]
      rfl
    | true =>
      rw [if_neg ep_bt]
      simp only [ep_V, nI_1]
      rfl
  · intro rec
    show (if nI n < nI n then _ else _) = _
    rw [if_neg (nI_nlt (Nat.le_refl _) (by omega))]
theorem ep_lst_no {b : Nat → Bool} : ∀ n, (∀ k, k < n → b k = false) → ep_lst b n = -1
  | 0, _ => rfl
  | n + 1, h => by
    unfold ep_lst
    rw [h n (by omega)]
    exact ep_lst_no n fun k hk => h k (by omega)
theorem ep_lst_one {b : Nat → Bool} {k : Nat} : ∀ n, k < n → b k = true → (∀ j, j < n → b j = true → j = k) → ep_lst b n = nI k
  | n + 1, hk, hb, hu => by
    unfold ep_lst
    by_cases y : b n = true
    · rw [if_pos y, hu n (by omega) y]
    · rw [if_neg y]
      have : k ≠ n := fun z => y (by rw [← z]; exact hb)
      exact ep_lst_one n (by omega) hb fun j hj => hu j (by omega)
