/-! calls of a thread: digests, keys, numbers -/
def ep_Fm (m m' : ep_M) (h t e : Nat) : Prop := ep_On m' h t e ∧ (∀ j, j = 83 ∨ j = 85 → m'.1 127 j = m.1 127 j) ∧ m'.1 130 = m.1 130
def ep_Tc (N' h t e : Nat) (c : ep_C) (m : ep_M) (F G : eh_F → Option (Int32 × eh_F)) : Prop := ∃ r c' m', (∀ m0, F (ep_mk c m0) = some (r, ep_mk c' m0)) ∧ (∀ c0, G (ep_mk c0 m) = some (r, ep_mk c0 m')) ∧ ep_R N' c' m' ∧ ep_Fm m m' h t e
theorem ep_Fm_rf {m : ep_M} {h t e : Nat} (ho : ep_On m h t e) : ep_Fm m m h t e := ⟨ho, fun _ _ => rfl, rfl⟩
theorem ep_Fm_L {m M : ep_M} (hL : ep_L m M) {h t e : Nat} (ho : ep_On m h t e) : ep_Fm m M h t e := ⟨ep_On_L hL ho, fun j hj => hL.2.1 j (by omega) (by omega), ep_Lk hL 130 (by omega)⟩
theorem ep_Fm_W {N : Nat} {c c' : ep_C} {m m' : ep_M} (hW : ep_W N c m c' m') {h t e : Nat} (ho : ep_On m h t e) : ep_Fm m m' h t e := by
  refine ⟨ep_W_On hW ho, ?_, ?_⟩
  · obtain ⟨-, ⟨X, Y, f, v, rfl⟩, -⟩ := hW
    intro j hj
    rcases hj with rfl | rfl <;> rfl
  · obtain ⟨-, ⟨X, Y, f, v, rfl⟩, -⟩ := hW
    rfl
theorem ep_Fm_tr {m m1 m2 : ep_M} {h t e : Nat} (h1 : ep_Fm m m1 h t e) (h2 : ep_Fm m1 m2 h t e) : ep_Fm m m2 h t e := ⟨h2.1, fun j hj => (h2.2.1 j hj).trans (h1.2.1 j hj), h2.2.2.trans h1.2.2⟩
theorem ep_Tc_mono {N N' h t e : Nat} {c : ep_C} {m : ep_M} {F G : eh_F → Option (Int32 × eh_F)} (hS : ep_Tc N h t e c m F G) (hN : N ≤ N') : ep_Tc N' h t e c m F G := by
  obtain ⟨r, c', m', a, b, d, e⟩ := hS
  exact ⟨r, c', m', a, b, ep_R_mono d hN, e⟩
theorem ep_Tc_no {N h t e : Nat} {c : ep_C} {m M : ep_M} (hR : ep_R N c m) (ho : ep_On m h t e) (hL : ep_L m M) {F G : eh_F → Option (Int32 × eh_F)} (r : Int32) (h1 : ∀ m0, F (ep_mk c m0) = some (r, ep_mk c m0)) (h2 : ∀ c0, G (ep_mk c0 m) = some (r, ep_mk c0 M)) : ep_Tc N h t e c m F G := ⟨r, c, M, h1, h2, ep_R_L hR hL, ep_Fm_L hL ho⟩
theorem ep_row8 {f b : Nat → Int32} {off : Nat} (h : ∀ j, j < 8 → f j = ep_bw b (off + 4 * j)) : ∀ k, k < 32 → eh_ushr (f (k / 4)) (nI (24 - 8 * (k % 4))) &&& 255 = b (off + k) &&& 255 := by
  intro k hk
  rw [h (k / 4) (by omega)]
  exact ep_bw_byte b off k
theorem ep_digest_ {N : Nat} {c : ep_C} {m : ep_M} (hR : ep_R N c m) (hN : N + 100 < 2 ^ 28) {h t e : Nat} (ho : ep_On m h t e) (addr : Int32) (p pm npm off : Nat) (O : Int32) (hO : O = nI off) (f : Nat → Int32) (hrd : ∀ X Y g v m0, (ep_mk (ep_cw c X Y g v) m0).1 p = f) (hpm : 147 < pm ∧ (pm < 170 ∨ 173 < pm ∧ pm < 188)) (hin : off + 32 ≤ npm) (hnpm : npm < 1000000) (hw : ∀ j, j < 8 → f j = ep_bw (m.1 pm) (off + 4 * j)) : ep_Tc (N + 32) h t e c m (fun s => eF_3_giveDigest s (eh_fp (nI t)) addr p 8) (fun s => Option.bind (eF_12_canWrite s (nI h) addr 32) (fun q48 => if q48.1 = 0 then (some ((-1 : Int32), q48.2)) else (Option.bind (eF_12_writeTo q48.2 (nI h) addr pm npm O 32) (fun q50 => some (0, q50))))) := by
  subst hO
  have ht := ho.2.1
  have he := ho.2.2.1
  have hto := ho.2.2.2.2.1
  obtain ⟨M, ⟨hL, -⟩, hM⟩ := ep_mcanW hR ho addr (n := 32) (by decide)
  cases hb : ep_rb m (c.1 10) e (ep_u addr) 2 32 with
  | false =>
    refine ep_Tc_mono (ep_Tc_no hR ho hL (-1) (fun m0 => ?_) (fun c0 => ?_)) (by omega)
    · show eF_3_giveDigest (ep_mk c m0) _ _ _ _ = _
      unfold eF_3_giveDigest
      refine ep_bnd (ep_creaches hR ht he hto addr 2 (n := 32) (by decide) m0) ?_
      rw [hb, if_pos ep_bf]
    · refine ep_bnd (hM c0) ?_
      rw [hb, if_pos ep_bf]
  | true =>
    obtain ⟨c', m', w1, w2, w3⟩ := ep_write_ (ep_R_L hR hL) (n := 32) (by omega) (ep_On_L hL ho) addr (by decide) (ep_rb_u hb) p 8 pm npm off f hrd ⟨by decide, by decide⟩ ⟨by omega, by omega, by omega, by omega⟩ hin hnpm (ep_row8 (by rw [ep_Lk hL pm (by omega)]; exact hw))
    refine ⟨0, c', m', fun m0 => ?_, fun c0 => ?_, w3.2.2, ep_Fm_tr (ep_Fm_L hL ho) (ep_Fm_W w3 (ep_On_L hL ho))⟩
    · show eF_3_giveDigest (ep_mk c m0) _ _ _ _ = _
      unfold eF_3_giveDigest
      refine ep_bnd (ep_creaches hR ht he hto addr 2 (n := 32) (by decide) m0) ?_
      rw [hb, if_neg ep_bt]
      exact ep_bnd (w1 m0) rfl
    · refine ep_bnd (hM c0) ?_
      rw [hb, if_neg ep_bt]
      exact ep_bnd (w2 c0) rfl
theorem ep_K1 {c c' : ep_C} (h : ep_K c c') (k : Nat) (hk : k ≠ 29 ∧ k ≠ 30 ∧ k ≠ 31 ∧ k ≠ 32 ∧ k ≠ 35 ∧ k ≠ 36 ∧ k ≠ 126) : c'.1 k = c.1 k := h.2 k hk.1 hk.2.1 hk.2.2.1 hk.2.2.2.1 hk.2.2.2.2.1 hk.2.2.2.2.2.1 hk.2.2.2.2.2.2
theorem ep_K33 {c c' : ep_C} (h : ep_K c c') (m0 : ep_M) : (ep_mk c' m0).1 33 = c.1 33 := by rw [ep_rC1 _ _ _ (by decide)]; exact ep_K1 h 33 (by decide)
theorem ep_Kf {c c' : ep_C} (h : ep_K c c') {t : Nat} (ht : t < 12) (m0 : ep_M) : (ep_mk c' m0).1 (eh_fp (nI t)) = c.2.1 2 t := by rw [ep_rF0 _ _ ht, h.1]
theorem ep_KE {c c' : ep_C} (h : ep_K c c') {e : Nat} (i : Nat) (he : e < 6) (hi : i < 9) (m0 : ep_M) : (ep_mk c' m0).1 (eh_ep (nI e) + i) = c.2.1 (4 + i) e := by rw [ep_rE _ _ _ he hi, h.1]
theorem ep_K_126 (c : ep_C) (f : Nat → Int32) : ep_K c (ep_cL c 126 f) := ⟨rfl, fun k _ _ _ _ _ _ a7 => ep_cLn _ _ _ _ a7⟩
theorem ep_K_35 (c : ep_C) (f : Nat → Int32) : ep_K c (ep_cL c 35 f) := ⟨rfl, fun k _ _ _ _ a5 _ _ => ep_cLn _ _ _ _ a5⟩
theorem ep_K_36 (c : ep_C) (f : Nat → Int32) : ep_K c (ep_cL c 36 f) := ⟨rfl, fun k _ _ _ _ _ a6 _ => ep_cLn _ _ _ _ a6⟩
theorem ep_en_ne {e : Nat} (i j : Nat) (hj : j < 41 ∨ 123 ≤ j) (he : e < 6) (hi : i < 9) : eh_ep (nI e) + i ≠ j := by rw [ep_ep he]; omega
/-- the end of a keyed digest that is written out -/
theorem ep_key_out {N n : Nat} {c c4 : ep_C} {m M m4 : ep_M} (hR : ep_R N c m) (hN : N + n < 2 ^ 28) {h t e : Nat} (ho : ep_On m h t e) (hL : ep_L m m4) (hK : ep_K c c4) {l : List Int32} (hS : ep_KS c4 m4 (m4.1 186) l) (addr : Int32) (hn : n ≤ 32) (hu : ∀ k, k < n → ep_u addr + k < 131072) : ∃ c5 m5 c6 m6, (∀ m0, eF_9_endKeyed (ep_mk c4 m0) 29 33 8 126 8 = some (ep_mk c5 m0)) ∧ (∀ c0, eF_12_keyed (ep_mk c0 m4) 186 32 = some (ep_mk c0 m5)) ∧ (∀ m0, eF_3_write (ep_mk c5 m0) (eh_fp (nI t)) addr 126 8 (nI n) = some (ep_mk c6 m0)) ∧ (∀ c0, eF_12_writeTo (ep_mk c0 m5) (nI h) addr 194 32 0 (nI n) = some (ep_mk c0 m6)) ∧ ep_R (N + n) c6 m6 ∧ ep_Fm m m6 h t e ∧ ep_K c c5 ∧ ep_L m m5 := by
  obtain ⟨T, c5, m5, a, b, d1, d2, d3, -⟩ := ep_ksend (c := c4) (m := m4) 33 126 186 (c.1 33) hS (by decide) (by decide) (ep_K33 hK) (fun j hj => by rw [ep_Lk hL 186 (by omega)]; exact hR.2.2.2.2.2.2.2.2.2.2.2.2.2.2.2.2.2.2.2.2.2.2.2.2.2.1 j hj) (by decide)
  have hK5 : ep_K c (ep_cL c5 126 (ep_w8 (c4.1 126) T 8)) := ep_K_tr (ep_K_tr hK d1) (ep_K_126 _ _)
  have hL5 := ep_L_tr hL d2
  obtain ⟨c6, m6, w1, w2, w3⟩ := ep_write_ (ep_R_L (ep_R_K hR hK5) hL5) (n := n) hN (ep_On_L hL5 ho) addr (by omega) hu 126 8 194 32 0 (ep_w8 (c4.1 126) T 8) (fun X Y g v m0 => by rw [ep_rC2 _ _ _ (by decide) (by decide), ep_cw_o _ _ _ _ _ _ (by decide), ep_cL1]) ⟨by omega, by decide⟩ (by decide) (by omega) (by decide) (fun k hk => by
    refine ep_row8 (b := m5.1 194) (off := 0) (fun j hj => ?_) k (by omega)
    rw [ep_w8_lt _ _ _ hj, d3]
    exact (ep_bw_wr _ 0 T j hj).symm)
  refine ⟨_, m5, c6, m6, fun m0 => ?_, b, w1, w2, w3.2.2, ep_Fm_tr (ep_Fm_L hL5 ho) (ep_Fm_W w3 (ep_On_L hL5 ho)), hK5, hL5⟩
  rw [a m0, ep_wC2 _ _ _ _ (by decide) (by decide), ep_rC2 _ _ 126 (by decide) (by decide)]
theorem ep_giveKey_ {N : Nat} {c : ep_C} {m : ep_M} (hR : ep_R N c m) (hN : N + 100 < 2 ^ 28) {h t e : Nat} (ho : ep_On m h t e) (p q : Int32) : ep_Tc (N + 32) h t e c m (fun s => eF_3_giveKey s (eh_fp (nI t)) p q) (fun s => Option.bind (eF_12_canWrite s (nI h) q 32) (fun q14 => if q14.1 = 0 then (some ((-1 : Int32), q14.2)) else (eh_V (eh_tI q14.2 127 79 0) (fun s16 => Option.bind (eF_12_say s16 6) (fun q17 => Option.bind (eF_12_sayBytes q17 159 192 (32 * nI e) 32) (fun q18 => Option.bind (eF_12_say q18 p) (fun q19 => Option.bind (eF_12_keyed q19 186 32) (fun q20 => Option.bind (eF_12_writeTo q20 (nI h) q 194 32 0 32) (fun q21 => some (0, q21)))))))))) := by
  have ht := ho.2.1
  have he := ho.2.2.1
  have hto := ho.2.2.2.2.1
  have i6 : eh_in (nI e) 6 = true := ep_in he (by decide)
  have e32 : (32 : Int32) * nI e = nI (32 * e) := ep_mul (b := 32) rfl rfl
  obtain ⟨M, ⟨hL, -⟩, hM⟩ := ep_mcanW hR ho q (n := 32) (by decide)
  cases hb : ep_rb m (c.1 10) e (ep_u q) 2 32 with
  | false =>
    refine ep_Tc_mono (ep_Tc_no hR ho hL (-1) (fun m0 => ?_) (fun c0 => ?_)) (by omega)
    · show eF_3_giveKey (ep_mk c m0) _ _ _ = _
      unfold eF_3_giveKey
      refine ep_bnd (ep_creaches hR ht he hto q 2 (n := 32) (by decide) m0) ?_
      rw [hb, if_pos ep_bf]
    · refine ep_bnd (hM c0) ?_
      rw [hb, if_pos ep_bf]
  | true =>
    obtain ⟨c1, m1, a1, b1, k1, l1, s1, -⟩ := ep_ksbegin c M 33 (c.1 33) (m.1 186) (by decide) (fun m0 => ep_rC1 _ _ _ (by decide)) hR.2.2.2.2.2.2.2.2.2.2.2.2.2.2.2.2.2.2.2.2.2.2.2.2.2.1
    obtain ⟨c2, m2, a2, b2, k2, l2, s2, -⟩ := ep_ksnum s1 (by decide) 6
    have K2 := ep_K_tr k1 k2
    have L2 := ep_L_tr hL (ep_L_tr l1 l2)
    obtain ⟨c3, m3, a3, b3, k3, l3, s3, -⟩ := ep_kswords s2 8 (by show 0 + 4 + 4 * 8 ≤ 256; decide) (eh_ep (nI e) + 5) 8 159 192 (32 * e) (c.2.1 9 e) ⟨ep_en_ne 5 29 (by decide) he (by decide), ep_en_ne 5 30 (by decide) he (by decide), ep_en_ne 5 31 (by decide) he (by decide)⟩ (ep_KE K2 5 he (by decide)) (by decide) (by decide) (by omega) (by decide) (by
      intro j hj
      rw [ep_Lk L2 159 (by omega)]
      exact hR.2.2.2.2.2.2.2.2.2.2.2.2.2.2.2.2.2.2.1 e he j hj)
    obtain ⟨c4, m4, a4, b4, k4, l4, s4, -⟩ := ep_ksnum s3 (by simp) p
    have K4 := ep_K_tr K2 (ep_K_tr k3 k4)
    have L4 := ep_L_tr L2 (ep_L_tr l3 l4)
    obtain ⟨c5, m5, c6, m6, a5, b5, a6, b6, R6, F6, -, -⟩ := ep_key_out (M := M) (n := 32) hR (by omega) ho L4 K4 (by rw [ep_Lk L4 186 (by omega)]; exact s4) q (by decide) (ep_rb_u hb)
    refine ⟨0, c6, m6, fun m0 => ?_, fun c0 => ?_, R6, F6⟩
    · show eF_3_giveKey (ep_mk c m0) _ _ _ = _
      unfold eF_3_giveKey
      refine ep_bnd (ep_creaches hR ht he hto q 2 (n := 32) (by decide) m0) ?_
      rw [hb, if_neg ep_bt, a1 m0, ep_sb, a2 m0, ep_sb, ep_Kf K2 ht, (hR.2.2.2.2.2.2.2.2.2.2.1 t ht).2.2.1, hto, if_pos i6]
      refine ep_bnd (a3 m0) ?_
      rw [a4 m0, ep_sb, a5 m0, ep_sb]
      exact ep_bnd (a6 m0) rfl
    · refine ep_bnd (hM c0) ?_
      rw [hb, if_neg ep_bt, ep_V, b1 c0, b2 c0, ep_sb, e32]
      refine ep_bnd (b3 c0) ?_
      rw [b4 c0, ep_sb, b5 c0, ep_sb]
      exact ep_bnd (b6 c0) rfl
