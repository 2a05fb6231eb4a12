/-! attest; extend -/
theorem ep_rb_L {m M : ep_M} (hL : ep_L m M) (P : Nat → Int32) (e u : Nat) (a : Int32) (n : Nat) : ep_rb M P e u a n = ep_rb m P e u a n := by
  unfold ep_rb
  rw [ep_Lk hL 164 (by omega), ep_Lk hL 167 (by omega), ep_Lk hL 168 (by omega), ep_Lk hL 169 (by omega)]
theorem ep_cpy8 {f g : Nat → Int32} {d : Nat} (j : Nat) : va_cpy f g 0 d 8 j = if d ≤ j ∧ j < d + 8 then f (j - d) else g j := by
  unfold va_cpy
  rw [Nat.zero_add]
theorem ep_attest_ {N : Nat} {c : ep_C} {m : ep_M} (hR : ep_R N c m) (hN : N + 200 < 2 ^ 28) {h t e : Nat} (ho : ep_On m h t e) (p q : Int32) : ep_Tc (N + 128) h t e c m (fun s => eF_3_attest s (eh_fp (nI t)) p q) (fun s => eF_12_attest s (nI h) (nI e) p q) := by
  have ht := ho.2.1
  have he := ho.2.2.1
  have hto := ho.2.2.2.2.1
  have i6 : eh_in (nI e) 6 = true := ep_in he (by decide)
  have f3 : ∀ m0, (ep_mk c m0).1 (eh_fp (nI t)) 3 = nI e := fun m0 => by rw [ep_rF0 _ _ ht, (hR.2.2.2.2.2.2.2.2.2.2.1 t ht).2.2.1, hto]
  obtain ⟨M1, hL1, hM1, hB1⟩ := ep_mcanR hR ho p (n := 32) (by decide)
  cases hb1 : ep_rb m (c.1 10) e (ep_u p) 1 32 with
  | false =>
    refine ep_Tc_mono (ep_Tc_no hR ho hL1 (-1) (fun m0 => ?_) (fun c0 => ?_)) (by omega)
    · show eF_3_attest (ep_mk c m0) _ _ _ = _
      unfold eF_3_attest
      refine ep_bnd (ep_creaches hR ht he hto p 1 (n := 32) (by decide) m0) ?_
      rw [hb1, ep_J, if_pos ep_bf]
    · show eF_12_attest (ep_mk c0 m) _ _ _ _ = _
      unfold eF_12_attest
      refine ep_bnd (hM1 c0) ?_
      rw [hb1, ep_J, if_pos ep_bf]
  | true =>
    have R1 := ep_R_L hR hL1
    obtain ⟨M2, ⟨hL2, h195⟩, hM2⟩ := ep_mcanW R1 (ep_On_L hL1 ho) q (n := 128) (by decide)
    rw [ep_rb_L hL1] at hM2
    have L12 := ep_L_tr hL1 hL2
    cases hb2 : ep_rb m (c.1 10) e (ep_u q) 2 128 with
    | false =>
      refine ep_Tc_mono (ep_Tc_no hR ho L12 (-1) (fun m0 => ?_) (fun c0 => ?_)) (by omega)
      · show eF_3_attest (ep_mk c m0) _ _ _ = _
        unfold eF_3_attest
        refine ep_bnd (ep_creaches hR ht he hto p 1 (n := 32) (by decide) m0) ?_
        rw [hb1, ep_J, if_neg ep_bt]
        refine ep_bnd (ep_creaches hR ht he hto q 2 (n := 128) (by decide) m0) ?_
        rw [hb2, if_pos ep_bf]
      · show eF_12_attest (ep_mk c0 m) _ _ _ _ = _
        unfold eF_12_attest
        refine ep_bnd (hM1 c0) ?_
        rw [hb1, ep_J, if_neg ep_bt]
        refine ep_bnd (hM2 c0) ?_
        rw [hb2, if_pos ep_bf]
    | true =>
      have hbyte := hB1 hb1
      obtain ⟨f1, hf1⟩ : ∃ f1 : Nat → Int32, f1 = va_cpy (c.2.1 10 e) (va_cpy (c.2.1 9 e) (c.1 36) 0 0 8) 0 8 8 := ⟨_, rfl⟩
      obtain ⟨f2, hf2⟩ : ∃ f2 : Nat → Int32, f2 = ep_in_ f1 16 8 fun j => ep_bw (m.1 128) (ep_u p + 4 * j) := ⟨_, rfl⟩
      obtain ⟨G, hG⟩ : ∃ G : Nat → Int32, G = fun j => if j < 32 then eh_nb (M2.1 159 (32 * e + j)) else if j < 64 then eh_nb (M2.1 160 (32 * e + (j - 32))) else if j < 96 then eh_nb (M2.1 195 (j - 64)) else M2.1 195 j := ⟨_, rfl⟩
      have hrd : ∀ m0, eF_3_read (ep_mk (ep_cL c 36 f1) m0) p 32 36 32 16 = some (ep_mk (ep_cL c 36 f2) m0) := fun m0 => by
        rw [hf2]
        exact ep_cread (c := ep_cL c 36 f1) (m := m) p (k := 8) (by decide) (ep_rb_u hb1) 36 32 16 (fun g => ep_cL c 36 g) (fun g m0 => by rw [ep_rC1 _ _ _ (by decide), ep_cL1]) (fun g m0 j v => by rw [ep_iC1 _ _ _ _ _ (by decide), ep_cLI]) (fun g => hR.1) (old := f1) rfl (by decide) (by decide) m0
      have hw : ∀ j, j < 24 → f2 j = ep_bw G (0 + 4 * j) := by
        intro j hj
        rw [Nat.zero_add, hf2]
        unfold ep_in_
        by_cases y1 : 16 ≤ j
        · rw [if_pos (by omega)]
          refine ep_bw_255 fun i hi => ?_
          rw [hG]
          show _ = (if 4 * j + i < 32 then _ else _) &&& 255
          rw [if_neg (by omega), if_neg (by omega), if_pos (by omega), h195, hbyte _ (by omega), ep_nb255, ep_nb255, show ep_u p + (4 * j + i - 64) = ep_u p + 4 * (j - 16) + i by omega]
        · rw [if_neg (by omega), hf1, ep_cpy8]
          by_cases y2 : 8 ≤ j
          · rw [if_pos (by omega), hR.2.2.2.2.2.2.2.2.2.2.2.2.2.2.2.2.2.2.2.1 e he (j - 8) (by omega)]
            refine ep_bw_255 fun i hi => ?_
            rw [hG]
            show _ = (if 4 * j + i < 32 then _ else _) &&& 255
            rw [if_neg (by omega), if_pos (by omega), ep_Lk L12 160 (by omega), ep_nb255, show 32 * e + (4 * j + i - 32) = 32 * e + 0 + 4 * (j - 8) + i by omega]
          · rw [if_neg (by omega), ep_cpy8, if_pos (by omega), Nat.sub_zero, hR.2.2.2.2.2.2.2.2.2.2.2.2.2.2.2.2.2.2.1 e he j (by omega)]
            refine ep_bw_255 fun i hi => ?_
            rw [hG]
            show _ = (if 4 * j + i < 32 then _ else _) &&& 255
            rw [if_pos (by omega), ep_Lk L12 159 (by omega), ep_nb255, show 32 * e + (4 * j + i) = 32 * e + 0 + 4 * j + i by omega]
      obtain ⟨c4, m4, a4, b4, K4, L4, r4, e4, g4, -⟩ := ep_seal (c1 := ep_cL c 36 f2) (m1 := ep_mL M2 195 G) hR (ep_K_36 _ _) (ep_L_tr L12 (ep_L_mL _ (by decide))) (fun j hj => by rw [ep_cL1, ep_mL1]; exact hw j hj)
      rw [ep_cL1] at e4
      rw [ep_mL1] at g4
      obtain ⟨f5, hf5⟩ : ∃ f5 : Nat → Int32, f5 = va_cpy (c4.1 35) f2 0 24 8 := ⟨_, rfl⟩
      have K5 : ep_K c (ep_cL c4 36 f5) := ep_K_tr K4 (ep_K_36 _ _)
      have ho4 := ep_On_L L4 ho
      obtain ⟨c6, m6, W6, q2, q3⟩ := ep_wseg (ep_R_L (ep_R_K hR K5) L4) (n := 96) (by omega) ho4 q q 0 0 128 96 (by decide) (by decide) (by decide) (by decide) (fun k hk => by have := ep_rb_u hb2 k (by omega); omega) rfl 36 32 195 128 0 f5 (fun X Y g v m0 => by rw [ep_rC1 _ _ _ (by decide), ep_cw_o _ _ _ _ _ _ (by decide), ep_cL1]) (by decide) (by decide) (by decide) (by decide) (fun k hk => by
        simp only [Nat.zero_add]
        rw [g4, hf5, ep_cpy8, if_neg (by omega), hw (k / 4) (by omega)]
        have := ep_bw_byte G 0 k
        simp only [Nat.zero_add] at this ⊢
        exact this)
      have ho6 := ep_W_On W6 ho4
      have h194 : m6.1 194 = m4.1 194 := by
        obtain ⟨-, ⟨X', Y', g', v', hm6⟩, -⟩ := W6
        rw [hm6]; exact ep_mw_o _ _ _ _ _ _ (by decide)
      have hq96 : ep_u (q + 96) = ep_u q + 96 := by
        have := ep_rb_u hb2 96 (by decide)
        exact ep_uadd (k := 96) (by omega)
      obtain ⟨c7, m7, W7, r2, r3⟩ := ep_wseg (ep_R_W W6) (n := 32) (by omega) ho6 q (q + 96) 96 0 128 32 (by decide) (by decide) (by decide) (by decide) (fun k hk => by have := ep_rb_u hb2 (96 + k) (by omega); omega) (by rw [hq96]) 36 32 194 32 0 f5 (fun X Y g v m0 => by
        obtain ⟨⟨X', Y', g', v', hc6⟩, -, -⟩ := W6
        rw [ep_rC1 _ _ _ (by decide), ep_cw_o _ _ _ _ _ _ (by decide), hc6, ep_cw_o _ _ _ _ _ _ (by decide), ep_cL1]) (by decide) (by decide) (by decide) (by decide) (fun k hk => by
        rw [h194, hf5, ep_cpy8, if_pos (by omega), show (96 + k) / 4 - 24 = k / 4 by omega, show (96 + k) % 4 = k % 4 by omega]
        have := ep_row8 (b := m4.1 194) (off := 0) r4 k hk
        simp only [Nat.zero_add] at this ⊢
        exact this)
      have W8 := ep_W_tr W6 W7
      have cl : ∀ m0, eF_3_write (ep_mk (ep_cL c4 36 f5) m0) (eh_fp (nI t)) q 36 32 128 = some (ep_mk c7 m0) := fun m0 => by
        refine (ep_cwrite_eq _ _ _ _ _ 128).trans ?_
        refine ep_bnd (v := ep_mk c7 m0) ?_ rfl
        rw [show eh_FU = 1099511627647 + 1 + 32 + 96 from rfl, q2 m0]
        show eh_loop _ _ (nI 96, _) = _
        rw [r2 m0]
        exact ep_WB_end 128 _ _ _ _ (by decide) _ _
      have ml1 : ∀ c0, eF_12_writeTo (ep_mk c0 m4) (nI h) q 195 128 0 96 = some (ep_mk c0 m6) := fun c0 => by
        refine (ep_mwrite_eq _ _ _ _ _ 96 _).trans ?_
        refine ep_bnd (v := ep_mk c0 m6) ?_ rfl
        rw [show eh_FU = 1099511627679 + 1 + 96 from rfl]
        refine (q3 c0 _).trans ?_
        exact ep_WM_end 96 _ _ _ _ _ (by decide) _ _
      have ml2 : ∀ c0, eF_12_writeTo (ep_mk c0 m6) (nI h) (q + 96) 194 32 0 32 = some (ep_mk c0 m7) := fun c0 => by
        refine (ep_mwrite_eq _ _ _ _ _ 32 _).trans ?_
        refine ep_bnd (v := ep_mk c0 m7) ?_ rfl
        rw [show eh_FU = 1099511627743 + 1 + 32 from rfl]
        refine (r3 c0 _).trans ?_
        exact ep_WM_end 32 _ _ _ _ _ (by decide) _ _
      refine ⟨0, c7, m7, fun m0 => ?_, fun c0 => ?_, W7.2.2, ep_Fm_tr (ep_Fm_L L4 ho) (ep_Fm_W W8 ho4)⟩
      · show eF_3_attest (ep_mk c m0) _ _ _ = _
        unfold eF_3_attest
        refine ep_bnd (ep_creaches hR ht he hto p 1 (n := 32) (by decide) m0) ?_
        rw [hb1, ep_J, if_neg ep_bt]
        refine ep_bnd (ep_creaches hR ht he hto q 2 (n := 128) (by decide) m0) ?_
        rw [hb2, if_neg ep_bt, f3, if_pos i6, if_pos (by decide), ep_V, ep_rE _ _ 5 he (by decide), ep_rC1 _ _ 36 (by decide), ep_wC1 _ _ _ _ (by decide), if_pos (by decide), ep_V, ep_rE _ _ 6 he (by decide), ep_rC1 _ _ 36 (by decide), ep_wC1 _ _ _ _ (by decide), ep_cL1, ep_cLL]
        have hx : va_cpy ((ep_cL c 36 (va_cpy (c.2.1 (4 + 5) e) (c.1 36) (eh_ix 0) (eh_ix 0) (eh_ix 8))).2.1 (4 + 6) e) (va_cpy (c.2.1 (4 + 5) e) (c.1 36) (eh_ix 0) (eh_ix 0) (eh_ix 8)) (eh_ix 0) (eh_ix 8) (eh_ix 8) = f1 := by rw [hf1]; rfl
        rw [hx]
        refine ep_bnd (hrd m0) ?_
        rw [a4 m0, ep_sb, if_pos (by decide), ep_V, ep_rC1 _ _ 35 (by decide), ep_rC1 _ _ 36 (by decide), e4, ep_wC1 _ _ _ _ (by decide)]
        have hy : va_cpy (c4.1 35) f2 (eh_ix 0) (eh_ix 24) (eh_ix 8) = f5 := by rw [hf5]; rfl
        rw [hy]
        exact ep_bnd (cl m0) rfl
      · show eF_12_attest (ep_mk c0 m) _ _ _ _ = _
        unfold eF_12_attest
        refine ep_bnd (hM1 c0) ?_
        rw [hb1, ep_J, if_neg ep_bt]
        refine ep_bnd (hM2 c0) ?_
        rw [hb2, if_neg ep_bt]
        refine (ep_mgath M2 he c0 _).trans ?_
        rw [← hG, b4 c0, ep_sb]
        refine ep_bnd (ml1 c0) ?_
        exact ep_bnd (ml2 c0) rfl
/-! the record of an enclave -/
theorem ep_tsbegin (c : ep_C) (m : ep_M) : ∃ c' m', (∀ m0, eF_9_begin (ep_mk c m0) 29 = some (ep_mk c' m0)) ∧ (∀ c0, eF_12_begin (ep_mk c0 m) 6 = some (ep_mk c0 m')) ∧ ep_K c c' ∧ ep_L m m' ∧ ep_SS c' m' ep_st0 ∧ ep_Z3 c c' m m' := by
  obtain ⟨f, f1, f2⟩ := ep_cbegin
  obtain ⟨H, B, W, L, a, b, d⟩ := ep_mbegin (m := m) (e := 6) (by decide)
  refine ⟨ep_s29 c 0 (f (c.1 30)) (c.1 31), ep_mS m H B W L, fun m0 => ?_, a, ep_K_29 _ _ _ _, ep_L_mS (by decide) d, ⟨f1 _ _, b⟩, rfl, rfl, rfl⟩
  rw [f2, ep_t3_b, (ep_r29 c m0).1, (ep_r29 c m0).2.1, ep_t3_29]
theorem ep_tswords {c : ep_C} {m : ep_M} {st : ep_St} (hS : ep_SS c m st) (hk : ep_ok st) (hal : st.2.2 % 4 = 0) (k : Nat) (hk0 : k < 1000) (hn : st.2.2 + 4 * k < 2 ^ 28) (p np pm npm off : Nat) (f : Nat → Int32) (hp : p ≠ 29 ∧ p ≠ 30 ∧ p ≠ 31) (hrd : ∀ m0, (ep_mk c m0).1 p = f) (hnp : k ≤ np ∧ np < 1000) (hpm : 127 ≤ pm ∧ pm ≠ 188 ∧ pm ≠ 189 ∧ pm ≠ 191) (hin : off + 4 * k ≤ npm) (hnpm : npm < 1000000) (hw : ∀ j, j < k → f j = ep_bw (m.1 pm) (off + 4 * j)) : ∃ c' m', (∀ m0, eF_9_feedWords (ep_mk c m0) 29 p np (nI k) = some (ep_mk c' m0)) ∧ (∀ c0, eF_12_addBytes (ep_mk c0 m) 6 pm npm (nI off) (nI (4 * k)) = some (ep_mk c0 m')) ∧ ep_K c c' ∧ ep_L m m' ∧ ep_SS c' m' (ep_puts st (ep_wds f k)) ∧ ep_Z3 c c' m m' := by
  obtain ⟨h', w', n', a, b⟩ := ep_cfeedWords hS.1 hk hal f k hk0 hn
  obtain ⟨H, B, W, L, x, y, z⟩ := ep_maddBytes (e := 6) (by decide) hS.2 hk pm npm off (4 * k) hn hpm.1 hpm.2.1 hpm.2.2.1 hpm.2.2.2 hin hnpm
  refine ⟨ep_s29 c n' h' w', ep_mS m H B W L, fun m0 => ?_, x, ep_K_29 _ _ _ _, ep_L_mS (by decide) z, ⟨a, ?_⟩, rfl, rfl, rfl⟩
  · rw [b _ 29 p np hp.1 hp.2.1 hp.2.2 hnp.1 hnp.2 (fun i hi => by rw [hrd]) (ep_r29 c m0).1 (ep_r29 c m0).2.1 (ep_r29 c m0).2.2, ep_t3_29]
  · have := ep_puts_bw (f := fun i => m.1 pm (off + i)) (g := f) k (fun j hj => by
      rw [hw j hj]; unfold ep_bw; simp only [Nat.add_assoc]) st
    rw [← this]; exact y
theorem ep_extend_ {N : Nat} {c : ep_C} {m : ep_M} (hR : ep_R N c m) {h t e : Nat} (ho : ep_On m h t e) (p : Int32) : ep_Tc N h t e c m (fun s => eF_3_extend s (eh_fp (nI t)) p) (fun s => Option.bind (eF_12_canRead s (nI h) p 32) (fun q71 => if q71.1 = 0 then (some ((-1 : Int32), q71.2)) else (Option.bind (eF_12_begin q71.2 6) (fun q73 => Option.bind (eF_12_addBytes q73 6 160 192 (32 * nI e) 32) (fun q74 => Option.bind (eF_12_addBytes q74 6 195 128 0 32) (fun q75 => Option.bind (eF_12_finish q75 6 160 192 (32 * nI e)) (fun q76 => some (0, q76)))))))) := by
  have ht := ho.2.1
  have he := ho.2.2.1
  have hto := ho.2.2.2.2.1
  have i6 : eh_in (nI e) 6 = true := ep_in he (by decide)
  have e32 : (32 : Int32) * nI e = nI (32 * e) := ep_mul (b := 32) rfl rfl
  obtain ⟨M, hL, hM, hB⟩ := ep_mcanR hR ho p (n := 32) (by decide)
  cases hb : ep_rb m (c.1 10) e (ep_u p) 1 32 with
  | false =>
    refine ep_Tc_no hR ho hL (-1) (fun m0 => ?_) (fun c0 => ?_)
    · show eF_3_extend (ep_mk c m0) _ _ = _
      unfold eF_3_extend
      refine ep_bnd (ep_creaches hR ht he hto p 1 (n := 32) (by decide) m0) ?_
      rw [hb, if_pos ep_bf]
    · refine ep_bnd (hM c0) ?_
      rw [hb, if_pos ep_bf]
  | true =>
    have hbyte := hB hb
    obtain ⟨f1, hf1⟩ : ∃ f1 : Nat → Int32, f1 = ep_in_ (c.1 126) 0 8 fun j => ep_bw (m.1 128) (ep_u p + 4 * j) := ⟨_, rfl⟩
    have hrd : ∀ m0, eF_3_read (ep_mk c m0) p 32 126 8 0 = some (ep_mk (ep_cL c 126 f1) m0) := fun m0 => by
      rw [hf1]
      exact ep_cread (c := c) (m := m) p (k := 8) (by decide) (ep_rb_u hb) 126 8 0 (fun g => ep_cL c 126 g) (fun g m0 => by rw [ep_rC2 _ _ _ (by decide) (by decide), ep_cL1]) (fun g m0 j v => by rw [ep_iC2 _ _ _ _ _ (by decide) (by decide), ep_cLI]) (fun g => hR.1) (old := c.1 126) (ep_cLid c 126) (by decide) (by decide) m0
    have K1 := ep_K_126 c f1
    obtain ⟨c2, m2, a2, b2, k2, l2, s2, z2⟩ := ep_tsbegin (ep_cL c 126 f1) M
    have K2 := ep_K_tr K1 k2
    have L2 := ep_L_tr hL l2
    obtain ⟨c3, m3, a3, b3, k3, l3, s3, z3⟩ := ep_tswords s2 ep_st0_ok rfl 8 (by decide) (by decide) (eh_ep (nI e) + 6) 8 160 192 (32 * e) (c.2.1 10 e) ⟨ep_en_ne 6 29 (by decide) he (by decide), ep_en_ne 6 30 (by decide) he (by decide), ep_en_ne 6 31 (by decide) he (by decide)⟩ (ep_KE K2 6 he (by decide)) (by decide) (by decide) (by omega) (by decide) (by
      intro j hj
      rw [ep_Lk L2 160 (by omega)]
      exact hR.2.2.2.2.2.2.2.2.2.2.2.2.2.2.2.2.2.2.2.1 e he j hj)
    have K3 := ep_K_tr K2 k3
    have L3 := ep_L_tr L2 l3
    have Z3 := ep_Z3_tr z2 z3
    have hk3 := ep_puts_ok (ep_wds (c.2.1 10 e) 8) ep_st0_ok (by rw [ep_wds_len]; decide)
    have hl3 : (ep_puts ep_st0 (ep_wds (c.2.1 10 e) 8)).2.2 = 32 := by rw [ep_puts_len, ep_wds_len]; rfl
    obtain ⟨c4, m4, a4, b4, k4, l4, s4, z4⟩ := ep_tswords s3 hk3 (by rw [hl3]) 8 (by decide) (by rw [hl3]; decide) 126 8 195 128 0 f1 (by decide) (fun m0 => by rw [ep_rC2 _ _ _ (by decide) (by decide), Z3.2.1, ep_cL1]) (by decide) (by decide) (by decide) (by decide) (by
      intro j hj
      rw [Z3.2.2, hf1]
      unfold ep_in_
      rw [if_pos (by omega), Nat.sub_zero, Nat.zero_add]
      refine ep_bw_255 fun i hi => ?_
      rw [hbyte _ (by omega), ep_nb255, Nat.add_assoc])
    have K4 := ep_K_tr K3 k4
    have L4 := ep_L_tr L3 l4
    have hk4 := ep_puts_ok (ep_wds f1 8) hk3 (by rw [hl3, ep_wds_len]; decide)
    have hl4 : (ep_puts (ep_puts ep_st0 (ep_wds (c.2.1 10 e) 8)) (ep_wds f1 8)).2.2 = 64 := by rw [ep_puts_len, ep_wds_len, hl3]
    obtain ⟨c5, m5, a5, b5, k5, l5⟩ := ep_ssend s4 hk4 (by rw [hl4]; decide) (eh_ep (nI e) + 6) 160 192 (32 * e) ⟨ep_en_ne 6 29 (by decide) he (by decide), ep_en_ne 6 30 (by decide) he (by decide), ep_en_ne 6 31 (by decide) he (by decide)⟩ (by decide) (by omega) (by decide)
    have K5 := ep_K_tr K4 k5
    have L5 := ep_L_tr L4 l5
    generalize ep_fin (ep_puts (ep_puts ep_st0 (ep_wds (c.2.1 10 e) 8)) (ep_wds f1 8)) = T at a5 b5
    have R5 := ep_R_L (ep_R_K hR K5) L5
    have h160 : m4.1 160 = m5.1 160 := (ep_Lk l5 160 (by omega)).symm
    have R6 : ep_R N (ep_cG c5 10 e (ep_w8 (c.2.1 10 e) T 8)) (ep_mL m5 160 (ep_wr (m5.1 160) (32 * e) T 32)) := by
      refine ⟨R5.1, R5.2.1, R5.2.2.1, R5.2.2.2.1, R5.2.2.2.2.1, R5.2.2.2.2.2.1, R5.2.2.2.2.2.2.1, R5.2.2.2.2.2.2.2.1, R5.2.2.2.2.2.2.2.2.1, R5.2.2.2.2.2.2.2.2.2.1, R5.2.2.2.2.2.2.2.2.2.2.1, R5.2.2.2.2.2.2.2.2.2.2.2.1, R5.2.2.2.2.2.2.2.2.2.2.2.2.1, R5.2.2.2.2.2.2.2.2.2.2.2.2.2.1, R5.2.2.2.2.2.2.2.2.2.2.2.2.2.2.1, R5.2.2.2.2.2.2.2.2.2.2.2.2.2.2.2.1, R5.2.2.2.2.2.2.2.2.2.2.2.2.2.2.2.2.1, R5.2.2.2.2.2.2.2.2.2.2.2.2.2.2.2.2.2.1, R5.2.2.2.2.2.2.2.2.2.2.2.2.2.2.2.2.2.2.1, ?_, R5.2.2.2.2.2.2.2.2.2.2.2.2.2.2.2.2.2.2.2.2.1, R5.2.2.2.2.2.2.2.2.2.2.2.2.2.2.2.2.2.2.2.2.2.1, R5.2.2.2.2.2.2.2.2.2.2.2.2.2.2.2.2.2.2.2.2.2.2.1, R5.2.2.2.2.2.2.2.2.2.2.2.2.2.2.2.2.2.2.2.2.2.2.2.1, R5.2.2.2.2.2.2.2.2.2.2.2.2.2.2.2.2.2.2.2.2.2.2.2.2.1, R5.2.2.2.2.2.2.2.2.2.2.2.2.2.2.2.2.2.2.2.2.2.2.2.2.2.1, R5.2.2.2.2.2.2.2.2.2.2.2.2.2.2.2.2.2.2.2.2.2.2.2.2.2.2.1, R5.2.2.2.2.2.2.2.2.2.2.2.2.2.2.2.2.2.2.2.2.2.2.2.2.2.2.2.1, R5.2.2.2.2.2.2.2.2.2.2.2.2.2.2.2.2.2.2.2.2.2.2.2.2.2.2.2.2.1, R5.2.2.2.2.2.2.2.2.2.2.2.2.2.2.2.2.2.2.2.2.2.2.2.2.2.2.2.2.2.1, R5.2.2.2.2.2.2.2.2.2.2.2.2.2.2.2.2.2.2.2.2.2.2.2.2.2.2.2.2.2.2.1, R5.2.2.2.2.2.2.2.2.2.2.2.2.2.2.2.2.2.2.2.2.2.2.2.2.2.2.2.2.2.2.2.1, R5.2.2.2.2.2.2.2.2.2.2.2.2.2.2.2.2.2.2.2.2.2.2.2.2.2.2.2.2.2.2.2.2.1, R5.2.2.2.2.2.2.2.2.2.2.2.2.2.2.2.2.2.2.2.2.2.2.2.2.2.2.2.2.2.2.2.2.2⟩
      refine ep_Gd_w (e := e) R5.2.2.2.2.2.2.2.2.2.2.2.2.2.2.2.2.2.2.2.1 (fun j hj => ?_) (fun e' he' y => ?_) (fun e' he' y k k1 k2 => ?_)
      · rw [ep_cGs, ep_w8_lt _ _ _ hj]
        exact (ep_bw_wr (m5.1 160) (32 * e) T j hj).symm
      · rw [ep_cGh _ _ _ _ _ y]
      · show ep_wr (m5.1 160) (32 * e) T 32 k = m5.1 160 k
        unfold ep_wr
        rw [if_neg (ep_ne32 y k1 k2)]
    refine ⟨0, _, _, fun m0 => ?_, fun c0 => ?_, R6, ep_Fm_tr (ep_Fm_L L5 ho) ⟨ep_On_L L5 ho, fun j hj => rfl, rfl⟩⟩
    · show eF_3_extend (ep_mk c m0) _ _ = _
      unfold eF_3_extend
      refine ep_bnd (ep_creaches hR ht he hto p 1 (n := 32) (by decide) m0) ?_
      rw [hb, if_neg ep_bt, ep_rF0 _ _ ht, (hR.2.2.2.2.2.2.2.2.2.2.1 t ht).2.2.1, hto, if_pos i6]
      refine ep_bnd (hrd m0) ?_
      rw [a2 m0, ep_sb]
      refine ep_bnd (a3 m0) ?_
      refine ep_bnd (a4 m0) ?_
      rw [a5 m0, ep_sb, ep_wE _ _ 6 _ he (by decide), ep_rE _ _ 6 he (by decide), K4.1]
    · refine ep_bnd (hM c0) ?_
      rw [hb, if_neg ep_bt, b2 c0, ep_sb, e32]
      refine ep_bnd (b3 c0) ?_
      refine ep_bnd (b4 c0) ?_
      rw [b5 c0, ep_sb, h160]
