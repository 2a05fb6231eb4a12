/-! mail between enclaves -/
theorem ep_cflip (s : eh_F) (v : Int32) : eF_9_flip s v = some (ep_flip v) := rfl
theorem ep_flip_bw (f : Nat → Int32) (o : Nat) : ep_flip (ep_bw f o) = ep_lw f o := by
  refine ep_ext fun i hi => ?_
  rw [ep_bit_flip _ _ hi, ep_bit_lw _ _ _ hi]
  by_cases h1 : i < 8
  · rw [if_pos h1, ep_bit_bw _ _ _ (by omega), if_neg (by omega), if_neg (by omega), if_neg (by omega), show o + i / 8 = o by omega, show i + 24 - 24 = i % 8 by omega]
  · rw [if_neg h1]
    by_cases h2 : i < 16
    · rw [if_pos h2, ep_bit_bw _ _ _ (by omega), if_neg (by omega), if_neg (by omega), if_pos (by omega), show o + i / 8 = o + 1 by omega, show i + 8 - 16 = i % 8 by omega]
    · rw [if_neg h2]
      by_cases h3 : i < 24
      · rw [if_pos h3, ep_bit_bw _ _ _ (by omega), if_neg (by omega), if_pos (by omega), show o + i / 8 = o + 2 by omega, show i - 8 - 8 = i % 8 by omega]
      · rw [if_neg h3, ep_bit_bw _ _ _ (by omega), if_pos (by omega), show o + i / 8 = o + 3 by omega, show i - 24 = i % 8 by omega]
theorem ep_R_mail {N : Nat} {c : ep_C} {m : ep_M} (hR : ep_R N c m) {e : Nat} (he : e < 6) {v : Int32} (hv : ep_bo v) : ep_R N (ep_cH c 4 e 11 v) (ep_mI m 161 e v) := by
  refine ⟨hR.1, hR.2.1, hR.2.2.1, hR.2.2.2.1, hR.2.2.2.2.1, hR.2.2.2.2.2.1, hR.2.2.2.2.2.2.1, hR.2.2.2.2.2.2.2.1, hR.2.2.2.2.2.2.2.2.1, hR.2.2.2.2.2.2.2.2.2.1, hR.2.2.2.2.2.2.2.2.2.2.1, hR.2.2.2.2.2.2.2.2.2.2.2.1, hR.2.2.2.2.2.2.2.2.2.2.2.2.1, hR.2.2.2.2.2.2.2.2.2.2.2.2.2.1, hR.2.2.2.2.2.2.2.2.2.2.2.2.2.2.1, hR.2.2.2.2.2.2.2.2.2.2.2.2.2.2.2.1, ?_, ?_, hR.2.2.2.2.2.2.2.2.2.2.2.2.2.2.2.2.2.2.1, hR.2.2.2.2.2.2.2.2.2.2.2.2.2.2.2.2.2.2.2.1, hR.2.2.2.2.2.2.2.2.2.2.2.2.2.2.2.2.2.2.2.2.1, hR.2.2.2.2.2.2.2.2.2.2.2.2.2.2.2.2.2.2.2.2.2.1, hR.2.2.2.2.2.2.2.2.2.2.2.2.2.2.2.2.2.2.2.2.2.2.1, hR.2.2.2.2.2.2.2.2.2.2.2.2.2.2.2.2.2.2.2.2.2.2.2.1, hR.2.2.2.2.2.2.2.2.2.2.2.2.2.2.2.2.2.2.2.2.2.2.2.2.1, hR.2.2.2.2.2.2.2.2.2.2.2.2.2.2.2.2.2.2.2.2.2.2.2.2.2.1, hR.2.2.2.2.2.2.2.2.2.2.2.2.2.2.2.2.2.2.2.2.2.2.2.2.2.2.1, hR.2.2.2.2.2.2.2.2.2.2.2.2.2.2.2.2.2.2.2.2.2.2.2.2.2.2.2.1, hR.2.2.2.2.2.2.2.2.2.2.2.2.2.2.2.2.2.2.2.2.2.2.2.2.2.2.2.2.1, hR.2.2.2.2.2.2.2.2.2.2.2.2.2.2.2.2.2.2.2.2.2.2.2.2.2.2.2.2.2.1, hR.2.2.2.2.2.2.2.2.2.2.2.2.2.2.2.2.2.2.2.2.2.2.2.2.2.2.2.2.2.2.1, hR.2.2.2.2.2.2.2.2.2.2.2.2.2.2.2.2.2.2.2.2.2.2.2.2.2.2.2.2.2.2.2.1, hR.2.2.2.2.2.2.2.2.2.2.2.2.2.2.2.2.2.2.2.2.2.2.2.2.2.2.2.2.2.2.2.2.1, hR.2.2.2.2.2.2.2.2.2.2.2.2.2.2.2.2.2.2.2.2.2.2.2.2.2.2.2.2.2.2.2.2.2⟩
  · intro e' he'
    obtain ⟨a5, a6, a7, a8, a9, a11, a12, a13, a14⟩ := hR.2.2.2.2.2.2.2.2.2.2.2.2.2.2.2.2.1 e' he'
    by_cases y : e' = e
    · subst y
      rw [ep_cHs]
      exact ⟨a5, a6, a7, a8, a9, (by show v = upd (m.1 161) e' v e'; rw [ep_upd_eq]), (by show ep_bo (upd (m.1 161) e' v e'); rw [ep_upd_eq]; exact hv), a13, a14⟩
    · rw [ep_cHh _ _ _ _ _ _ y]
      exact ⟨a5, a6, a7, a8, a9, (by show _ = upd (m.1 161) e v e'; rw [ep_upd_ne y]; exact a11), (by show ep_bo (upd (m.1 161) e v e'); rw [ep_upd_ne y]; exact a12), a13, a14⟩
  · intro e' he' hE'
    have g := hR.2.2.2.2.2.2.2.2.2.2.2.2.2.2.2.2.2.1 e' he' hE'
    by_cases y : e' = e
    · subst y; rw [ep_cHs]; exact g
    · rw [ep_cHh _ _ _ _ _ _ y]; exact g
def ep_mlf (m : ep_M) (b e i : Nat) : Nat → Int32 := fun j => if b ≤ j ∧ j < b + i then eh_nb (m.1 195 (j - b)) else if b + 32 ≤ j ∧ j < b + 32 + i then eh_nb (m.1 159 (32 * e + (j - (b + 32)))) else m.1 162 j
theorem ep_mmail (m : ep_M) {e o : Nat} (he : e < 6) (ho : o < 6) (c0 : ep_C) : eh_loop (fun (r22 : (Int32 × eh_F) → Option (eh_F)) (t10 : Int32 × eh_F) => if t10.1 < 32 then (if eh_in t10.1 128 then if eh_in ((64 * nI o) + t10.1) 384 then eh_V (eh_tI t10.2 162 (eh_ix ((64 * nI o) + t10.1)) (eh_nb (t10.2.1 195 (eh_ix t10.1)))) (fun s24 => if eh_in ((32 * nI e) + t10.1) 192 then if eh_in (((64 * nI o) + 32) + t10.1) 384 then eh_V (eh_tI s24 162 (eh_ix (((64 * nI o) + 32) + t10.1)) (eh_nb (s24.1 159 (eh_ix ((32 * nI e) + t10.1))))) (fun s25 => eh_V ((t10.1 + 1) : Int32) (fun x26 => r22 (x26, s25))) else none else none) else none else none) else (some t10.2)) eh_FU (0, ep_mk c0 m) = some (ep_mk c0 (ep_mL m 162 (ep_mlf m (64 * o) e 32))) := by
  have e32 : (32 : Int32) * nI e = nI (32 * e) := ep_mul (b := 32) rfl rfl
  have e64 : (64 : Int32) * nI o = nI (64 * o) := ep_mul (b := 64) rfl rfl
  have e96 : nI (64 * o) + 32 = nI (64 * o + 32) := ep_p32 _
  rw [e32, e64, e96]
  refine ep_loop (fun i => (nI i, ep_mk c0 (ep_mL m 162 (ep_mlf m (64 * o) e i)))) 32 _ (ep_FU _ (by decide)) ?_ ?_ ?_
  · intro i hi rec
    show (if nI i < 32 then _ else _) = _
    rw [if_pos (show nI i < 32 from nI_lt (b := 32) hi (by decide)), if_pos (ep_in (show i < 128 by omega) (by decide)), nI_add, nI_add, nI_add, if_pos (ep_in (show 64 * o + i < 384 by omega) (by decide)), show eh_ix (nI i) = i from ep_ix (by omega), show eh_ix (nI (64 * o + i)) = 64 * o + i from ep_ix (by omega), ep_V, ep_rM _ _ 195 (by decide), ep_iM _ _ _ _ _ (by decide), ep_mLn _ _ _ _ (by decide), ep_mLI, if_pos (ep_in (show 32 * e + i < 192 by omega) (by decide)), if_pos (ep_in (show 64 * o + 32 + i < 384 by omega) (by decide)), show eh_ix (nI (64 * o + 32 + i)) = 64 * o + 32 + i from ep_ix (by omega), show eh_ix (nI (32 * e + i)) = 32 * e + i from ep_ix (by omega), ep_V, ep_rM _ _ 159 (by decide), ep_iM _ _ _ _ _ (by decide), ep_mLn _ _ _ _ (by decide), ep_mLI, ep_V, nI_1]
    congr 4
    funext j
    unfold upd ep_mlf
    by_cases y1 : j = 64 * o + 32 + i
    · rw [if_pos y1, if_neg (by omega), if_pos (by omega), show j - (64 * o + 32) = i by omega]
    · rw [if_neg y1]
      by_cases y2 : j = 64 * o + i
      · rw [if_pos y2, if_pos (by omega), show j - 64 * o = i by omega]
      · rw [if_neg y2]
        by_cases y3 : 64 * o ≤ j ∧ j < 64 * o + i
        · rw [if_pos y3, if_pos (by omega)]
        · rw [if_neg y3, if_neg (show ¬ (64 * o ≤ j ∧ j < 64 * o + (i + 1)) by omega)]
          by_cases y4 : 64 * o + 32 ≤ j ∧ j < 64 * o + 32 + i
          · rw [if_pos y4, if_pos (by omega)]
          · rw [if_neg y4, if_neg (by omega)]
  · intro rec
    show (if nI 32 < 32 then _ else _) = _
    rw [if_neg (by decide)]
  · show _ = (nI 0, ep_mk c0 (ep_mL m 162 (ep_mlf m (64 * o) e 0)))
    have : ep_mlf m (64 * o) e 0 = m.1 162 := by
      funext j
      unfold ep_mlf
      rw [if_neg (by omega), if_neg (by omega)]
    rw [this, ep_mLid]
    rfl
theorem ep_send_ {N : Nat} {c : ep_C} {m : ep_M} (hR : ep_R N c m) (hN : N + 100 < 2 ^ 28) {h t e : Nat} (ho : ep_On m h t e) (p q : Int32) : ep_Tc (N + 8) h t e c m (fun s => eF_3_send s (eh_fp (nI t)) p q) (fun s => eF_12_send s (nI h) (nI e) p q) := by
  have ht := ho.2.1
  have he := ho.2.2.1
  have hto := ho.2.2.2.2.1
  have i6 : eh_in (nI e) 6 = true := ep_in he (by decide)
  have f3 : ∀ m0, (ep_mk c m0).1 (eh_fp (nI t)) 3 = nI e := fun m0 => by rw [ep_rF0 _ _ ht, (hR.2.2.2.2.2.2.2.2.2.2.1 t ht).2.2.1, hto]
  cases hb : ep_inb p 6 (m.1 155) with
  | false =>
    refine ep_Tc_mono (ep_Tc_no hR ho (ep_L_rf m) (-1) (fun m0 => ?_) (fun c0 => ?_)) (by omega)
    · show eF_3_send (ep_mk c m0) _ _ _ = _
      unfold eF_3_send
      rw [ep_chasE hR, ep_sb, hb, ep_J, if_pos ep_bf]
    · show eF_12_send (ep_mk c0 m) _ _ _ _ = _
      unfold eF_12_send
      rw [ep_misE, ep_sb, hb, ep_J, if_pos ep_bf]
  | true =>
    by_cases hpe : p = nI e
    · refine ep_Tc_mono (ep_Tc_no hR ho (ep_L_rf m) (-1) (fun m0 => ?_) (fun c0 => ?_)) (by omega)
      · show eF_3_send (ep_mk c m0) _ _ _ = _
        unfold eF_3_send
        rw [ep_chasE hR, ep_sb, hb, ep_J, if_neg ep_bt, f3, if_pos hpe]
      · show eF_12_send (ep_mk c0 m) _ _ _ _ = _
        unfold eF_12_send
        rw [ep_misE, ep_sb, hb, ep_J, if_neg ep_bt, if_pos hpe]
    obtain ⟨M, hL, hM, hB⟩ := ep_mcanR hR ho q (n := 32) (by decide)
    cases hrb : ep_rb m (c.1 10) e (ep_u q) 1 32 with
    | false =>
      refine ep_Tc_mono (ep_Tc_no hR ho hL (-1) (fun m0 => ?_) (fun c0 => ?_)) (by omega)
      · show eF_3_send (ep_mk c m0) _ _ _ = _
        unfold eF_3_send
        rw [ep_chasE hR, ep_sb, hb, ep_J, if_neg ep_bt, f3, if_neg hpe]
        refine ep_bnd (ep_creaches hR ht he hto q 1 (n := 32) (by decide) m0) ?_
        rw [hrb, if_pos ep_bf]
      · show eF_12_send (ep_mk c0 m) _ _ _ _ = _
        unfold eF_12_send
        rw [ep_misE, ep_sb, hb, ep_J, if_neg ep_bt, if_neg hpe]
        refine ep_bnd (hM c0) ?_
        rw [hrb, if_pos ep_bf]
    | true =>
      obtain ⟨o, hoo, rfl, hE⟩ := ep_inb_t (by decide) hb
      have o6 : eh_in (nI o) 6 = true := ep_in hoo (by decide)
      have xo : eh_ix (nI o) = o := ep_ix (by omega)
      have gE := hR.2.2.2.2.2.2.2.2.2.2.2.2.2.2.2.2.1 o hoo
      have hne : o ≠ e := fun z => hpe (by rw [z])
      by_cases h2 : ¬ m.1 155 o = 2
      · refine ep_Tc_mono (ep_Tc_no hR ho hL (-2) (fun m0 => ?_) (fun c0 => ?_)) (by omega)
        · show eF_3_send (ep_mk c m0) _ _ _ = _
          unfold eF_3_send
          rw [ep_chasE hR, ep_sb, hb, ep_J, if_neg ep_bt, f3, if_neg hpe]
          refine ep_bnd (ep_creaches hR ht he hto q 1 (n := 32) (by decide) m0) ?_
          rw [hrb, if_neg ep_bt, if_pos o6, ep_rE0 _ _ hoo, gE.1, if_neg h2]
        · show eF_12_send (ep_mk c0 m) _ _ _ _ = _
          unfold eF_12_send
          rw [ep_misE, ep_sb, hb, ep_J, if_neg ep_bt, if_neg hpe]
          refine ep_bnd (hM c0) ?_
          rw [hrb, if_neg ep_bt, if_pos o6, xo, ep_rM _ _ 155 (by decide), ep_Lk hL 155 (by omega), if_neg h2]
      have h2 := Decidable.not_not.mp h2
      by_cases h11 : ¬ m.1 161 o = 0
      · refine ep_Tc_mono (ep_Tc_no hR ho hL (-5) (fun m0 => ?_) (fun c0 => ?_)) (by omega)
        · show eF_3_send (ep_mk c m0) _ _ _ = _
          unfold eF_3_send
          rw [ep_chasE hR, ep_sb, hb, ep_J, if_neg ep_bt, f3, if_neg hpe]
          refine ep_bnd (ep_creaches hR ht he hto q 1 (n := 32) (by decide) m0) ?_
          rw [hrb, if_neg ep_bt, if_pos o6, ep_rE0 _ _ hoo, gE.1, if_pos h2, gE.2.2.2.2.2.1, if_neg h11]
        · show eF_12_send (ep_mk c0 m) _ _ _ _ = _
          unfold eF_12_send
          rw [ep_misE, ep_sb, hb, ep_J, if_neg ep_bt, if_neg hpe]
          refine ep_bnd (hM c0) ?_
          rw [hrb, if_neg ep_bt, if_pos o6, xo, ep_rM _ _ 155 (by decide), ep_Lk hL 155 (by omega), if_pos h2, if_pos o6, ep_rM _ _ 161 (by decide), ep_Lk hL 161 (by omega), if_neg h11]
      have h11 := Decidable.not_not.mp h11
      have hbyte := hB hrb
      obtain ⟨g1, hg1⟩ : ∃ g1 : Nat → Int32, g1 = ep_in_ (c.2.1 11 o) 0 8 fun j => ep_bw (m.1 128) (ep_u q + 4 * j) := ⟨_, rfl⟩
      obtain ⟨g2, hg2⟩ : ∃ g2 : Nat → Int32, g2 = va_cpy (c.2.1 9 e) (c.2.1 12 o) 0 0 8 := ⟨_, rfl⟩
      have hg1b : ∀ j, j < 8 → g1 j = ep_bw (M.1 195) (4 * j) := fun j hj => by
        rw [hg1]
        unfold ep_in_
        rw [if_pos (by omega), Nat.sub_zero]
        refine ep_bw_255 fun i hi => ?_
        rw [hbyte _ (by omega), ep_nb255, Nat.add_assoc]
      have hrd : ∀ m0, eF_3_read (ep_mk c m0) q 32 (eh_ep (nI o) + 7) 8 0 = some (ep_mk (ep_cG c 11 o g1) m0) := fun m0 => by
        rw [hg1]
        exact ep_cread (c := c) (m := m) q (k := 8) (by decide) (ep_rb_u hrb) (eh_ep (nI o) + 7) 8 0 (fun g => ep_cG c 11 o g) (fun g m0 => by rw [ep_rE _ _ 7 hoo (by decide), ep_cGs]) (fun g m0 j v => by rw [ep_iE _ _ 7 _ _ hoo (by decide), ep_cGH]) (fun g => hR.1) (old := c.2.1 11 o) (ep_cGid c 11 o) (by decide) (by decide) m0
      have RM := ep_R_L hR hL
      have R2 := ep_R_mail RM hoo (v := 1) (Or.inr rfl)
      obtain ⟨c1, hc1⟩ : ∃ c1, c1 = ep_cH (ep_cG (ep_cG c 11 o g1) 12 o g2) 4 o 11 1 := ⟨_, rfl⟩
      obtain ⟨m1, hm1⟩ : ∃ m1, m1 = ep_mI (ep_mL M 162 (ep_mlf M (64 * o) e 32)) 161 o 1 := ⟨_, rfl⟩
      have R1 : ep_R N c1 m1 := by
        rw [hc1, hm1]
        refine ⟨R2.1, R2.2.1, R2.2.2.1, R2.2.2.2.1, R2.2.2.2.2.1, R2.2.2.2.2.2.1, R2.2.2.2.2.2.2.1, R2.2.2.2.2.2.2.2.1, R2.2.2.2.2.2.2.2.2.1, R2.2.2.2.2.2.2.2.2.2.1, R2.2.2.2.2.2.2.2.2.2.2.1, R2.2.2.2.2.2.2.2.2.2.2.2.1, R2.2.2.2.2.2.2.2.2.2.2.2.2.1, R2.2.2.2.2.2.2.2.2.2.2.2.2.2.1, R2.2.2.2.2.2.2.2.2.2.2.2.2.2.2.1, R2.2.2.2.2.2.2.2.2.2.2.2.2.2.2.2.1, R2.2.2.2.2.2.2.2.2.2.2.2.2.2.2.2.2.1, R2.2.2.2.2.2.2.2.2.2.2.2.2.2.2.2.2.2.1, R2.2.2.2.2.2.2.2.2.2.2.2.2.2.2.2.2.2.2.1, R2.2.2.2.2.2.2.2.2.2.2.2.2.2.2.2.2.2.2.2.1, ?_, ?_, R2.2.2.2.2.2.2.2.2.2.2.2.2.2.2.2.2.2.2.2.2.2.2.1, R2.2.2.2.2.2.2.2.2.2.2.2.2.2.2.2.2.2.2.2.2.2.2.2.1, R2.2.2.2.2.2.2.2.2.2.2.2.2.2.2.2.2.2.2.2.2.2.2.2.2.1, R2.2.2.2.2.2.2.2.2.2.2.2.2.2.2.2.2.2.2.2.2.2.2.2.2.2.1, R2.2.2.2.2.2.2.2.2.2.2.2.2.2.2.2.2.2.2.2.2.2.2.2.2.2.2.1, R2.2.2.2.2.2.2.2.2.2.2.2.2.2.2.2.2.2.2.2.2.2.2.2.2.2.2.2.1, R2.2.2.2.2.2.2.2.2.2.2.2.2.2.2.2.2.2.2.2.2.2.2.2.2.2.2.2.2.1, R2.2.2.2.2.2.2.2.2.2.2.2.2.2.2.2.2.2.2.2.2.2.2.2.2.2.2.2.2.2.1, R2.2.2.2.2.2.2.2.2.2.2.2.2.2.2.2.2.2.2.2.2.2.2.2.2.2.2.2.2.2.2.1, R2.2.2.2.2.2.2.2.2.2.2.2.2.2.2.2.2.2.2.2.2.2.2.2.2.2.2.2.2.2.2.2.1, R2.2.2.2.2.2.2.2.2.2.2.2.2.2.2.2.2.2.2.2.2.2.2.2.2.2.2.2.2.2.2.2.2.1, R2.2.2.2.2.2.2.2.2.2.2.2.2.2.2.2.2.2.2.2.2.2.2.2.2.2.2.2.2.2.2.2.2.2⟩
        · refine ep_Gd_w (e := o) RM.2.2.2.2.2.2.2.2.2.2.2.2.2.2.2.2.2.2.2.2.1 (fun j hj => ?_) (fun e' he' y => ?_) (fun e' he' y k k1 k2 => ?_)
          · rw [ep_cHi _ _ _ _ _ _ _ (by decide), ep_cGi _ _ _ _ _ _ (by decide), ep_cGs, hg1b j hj]
            show _ = ep_bw (ep_mlf M (64 * o) e 32) (64 * o + 0 + 4 * j)
            refine ep_bw_255 fun i hi => ?_
            unfold ep_mlf
            rw [if_pos (by omega), ep_nb255, show 64 * o + 0 + 4 * j + i - 64 * o = 4 * j + i by omega]
          · rw [ep_cHi _ _ _ _ _ _ _ (by decide), ep_cGi _ _ _ _ _ _ (by decide), ep_cGh _ _ _ _ _ y]
          · show ep_mlf M (64 * o) e 32 k = M.1 162 k
            unfold ep_mlf
            rw [if_neg (by omega), if_neg (by omega)]
        · refine ep_Gd_w (e := o) RM.2.2.2.2.2.2.2.2.2.2.2.2.2.2.2.2.2.2.2.2.2.1 (fun j hj => ?_) (fun e' he' y => ?_) (fun e' he' y k k1 k2 => ?_)
          · rw [ep_cHi _ _ _ _ _ _ _ (by decide), ep_cGs, hg2, ep_cpy8, if_pos (by omega), Nat.sub_zero, RM.2.2.2.2.2.2.2.2.2.2.2.2.2.2.2.2.2.2.1 e he j hj]
            show _ = ep_bw (ep_mlf M (64 * o) e 32) (64 * o + 32 + 4 * j)
            refine ep_bw_255 fun i hi => ?_
            unfold ep_mlf
            rw [if_neg (by omega), if_pos (by omega), ep_nb255, show 32 * e + (64 * o + 32 + 4 * j + i - (64 * o + 32)) = 32 * e + 0 + 4 * j + i by omega]
          · rw [ep_cHi _ _ _ _ _ _ _ (by decide), ep_cGh _ _ _ _ _ y, ep_cGi _ _ _ _ _ _ (by decide)]
          · show ep_mlf M (64 * o) e 32 k = M.1 162 k
            unfold ep_mlf
            rw [if_neg (by omega), if_neg (by omega)]
      have c1m : c1.2.1 11 o = g1 := by rw [hc1, ep_cHi _ _ _ _ _ _ _ (by decide), ep_cGi _ _ _ _ _ _ (by decide), ep_cGs]
      have m1r : m1.1 195 = M.1 195 := by rw [hm1]; rfl
      have ho1 : ep_On m1 h t e := by rw [hm1]; exact ep_On_L hL ho
      have key := ep_lock (B1 := fun (r18 : (Int32 × eh_F) → Option (eh_F)) (t15 : Int32 × eh_F) => if t15.1 < 8 then (if eh_in t15.1 8 then Option.bind (eF_9_flip t15.2 (t15.2.1 ((eh_ep (nI o)) + 7) (eh_ix t15.1))) (fun q20 => Option.bind (eF_5_note t15.2 6 (eh_fp (nI t)) (nI o) t15.1 q20) (fun q21 => eh_V ((t15.1 + 1) : Int32) (fun x22 => r18 (x22, q21)))) else none) else (some t15.2)) (B2 := fun (r16 : (Int32 × eh_F) → Option (eh_F)) (t13 : Int32 × eh_F) => if t13.1 < 8 then (Option.bind (eF_12_littleWord t13.2 195 128 (4 * t13.1)) (fun q18 => Option.bind (eF_12_happens t13.2 6 (nI h) (nI o) t13.1 q18) (fun q19 => eh_V ((t13.1 + 1) : Int32) (fun x20 => r16 (x20, q19))))) else (some t13.2)) (fun i s => (nI i, s)) (fun i s => (nI i, s)) (fun i c' m' => ep_W (N + i) c1 m1 c' m') 8 (by decide) ?_ ?_ (ep_W_rf R1)
      · obtain ⟨c2, m2, W2, l1, l2⟩ := key
        refine ⟨0, c2, m2, fun m0 => ?_, fun c0 => ?_, W2.2.2, ep_Fm_tr (m1 := m1) ⟨ho1, fun j hj => ?_, ?_⟩ (ep_Fm_W W2 ho1)⟩
        · show eF_3_send (ep_mk c m0) _ _ _ = _
          unfold eF_3_send
          rw [ep_chasE hR, ep_sb, hb, ep_J, if_neg ep_bt, f3, if_neg hpe]
          refine ep_bnd (ep_creaches hR ht he hto q 1 (n := 32) (by decide) m0) ?_
          rw [hrb, if_neg ep_bt, if_pos o6, ep_rE0 _ _ hoo, gE.1, if_pos h2, gE.2.2.2.2.2.1, if_pos h11]
          refine ep_bnd (hrd m0) ?_
          rw [show (ep_mk (ep_cG c 11 o g1) m0).1 (eh_fp (nI t)) 3 = nI e from by rw [ep_rF0 _ _ ht, ep_cGi _ _ _ _ _ _ (by decide), (hR.2.2.2.2.2.2.2.2.2.2.1 t ht).2.2.1, hto], if_pos i6, if_pos (by decide), ep_V, ep_rE _ _ 5 he (by decide), ep_rE _ _ 8 hoo (by decide), ep_wE _ _ 8 _ hoo (by decide), ep_V, ep_iE0 _ _ _ _ hoo]
          have hx : ep_cH (ep_cG (ep_cG c 11 o g1) (4 + 8) o (va_cpy ((ep_cG c 11 o g1).2.1 (4 + 5) e) ((ep_cG c 11 o g1).2.1 (4 + 8) o) (eh_ix 0) (eh_ix 0) (eh_ix 8))) 4 o 11 1 = c1 := by rw [hc1, hg2]; rfl
          rw [hx]
          exact ep_bnd (l1 m0) rfl
        · show eF_12_send (ep_mk c0 m) _ _ _ _ = _
          unfold eF_12_send
          rw [ep_misE, ep_sb, hb, ep_J, if_neg ep_bt, if_neg hpe]
          refine ep_bnd (hM c0) ?_
          rw [hrb, if_neg ep_bt, if_pos o6, xo, ep_rM _ _ 155 (by decide), ep_Lk hL 155 (by omega), if_pos h2, if_pos o6, ep_rM _ _ 161 (by decide), ep_Lk hL 161 (by omega), if_pos h11]
          refine ep_bnd (ep_mmail M he hoo c0) ?_
          rw [if_pos o6, ep_V, ep_iM _ _ _ _ _ (by decide), show eh_nz 1 = 1 by decide, ← hm1]
          exact ep_bnd (l2 c0) rfl
        · rw [hm1]; exact hL.2.1 j (by omega) (by omega)
        · rw [hm1]; exact ep_Lk hL 130 (by omega)
      · intro i c' m' hi hW
        have ho' := ep_W_On hW ho1
        obtain ⟨⟨X, Y, g, v, hc'⟩, ⟨X', Y', g', v', hm'⟩, hR'⟩ := hW
        have hW : ep_W (N + i) c1 m1 c' m' := ⟨⟨X, Y, g, v, hc'⟩, ⟨X', Y', g', v', hm'⟩, hR'⟩
        have r7 : ∀ m0, (ep_mk c' m0).1 (eh_ep (nI o) + 7) = g1 := fun m0 => by
          rw [ep_rE _ _ 7 hoo (by decide), hc', ← c1m]; rfl
        have r195 : m'.1 195 = M.1 195 := by rw [hm', ← m1r]; exact ep_mw_o _ _ _ _ _ _ (by decide)
        obtain ⟨c2, m2, n1, n2, n3⟩ := ep_note hR' (by omega) ho' 6 (nI o) (nI i) (ep_lw (M.1 195) (4 * i))
        refine ⟨c2, m2, ep_W_tr hW n3, fun m0 rec => ?_, fun c0 rec => ?_⟩
        · show (if nI i < 8 then _ else _) = _
          rw [if_pos (show nI i < 8 from nI_lt (b := 8) hi (by decide)), if_pos (ep_in hi (by decide)), r7, show eh_ix (nI i) = i from ep_ix (by omega), hg1b i hi, ep_cflip, ep_sb, ep_flip_bw, n1 m0, ep_sb, ep_V, nI_1]
        · show (if nI i < 8 then _ else _) = _
          rw [if_pos (show nI i < 8 from nI_lt (b := 8) hi (by decide)), ep_mul (a := i) (b := 4) (y := 4) rfl rfl, ep_mlittle m' 195 128 (by decide) (by omega) (by decide), ep_sb, r195, n2 c0, ep_sb, ep_V, nI_1]
      · intro c' m' _
        refine ⟨fun m0 rec => ?_, fun c0 rec => ?_⟩
        · show (if nI 8 < 8 then _ else _) = _
          rw [if_neg (by decide)]
        · show (if nI 8 < 8 then _ else _) = _
          rw [if_neg (by decide)]
theorem ep_receive_ {N : Nat} {c : ep_C} {m : ep_M} (hR : ep_R N c m) (hN : N + 100 < 2 ^ 28) {h t e : Nat} (ho : ep_On m h t e) (p : Int32) : ep_Tc (N + 65) h t e c m (fun s => eF_3_receive s (eh_fp (nI t)) p) (fun s => eF_12_receive s (nI h) (nI e) p) := by
  have ht := ho.2.1
  have he := ho.2.2.1
  have hto := ho.2.2.2.2.1
  have i6 : eh_in (nI e) 6 = true := ep_in he (by decide)
  have x6 : eh_ix (nI e) = e := ep_ix (by omega)
  have e64 : (64 : Int32) * nI e = nI (64 * e) := ep_mul (b := 64) rfl rfl
  have f3 : ∀ m0, (ep_mk c m0).1 (eh_fp (nI t)) 3 = nI e := fun m0 => by rw [ep_rF0 _ _ ht, (hR.2.2.2.2.2.2.2.2.2.2.1 t ht).2.2.1, hto]
  have gE := (hR.2.2.2.2.2.2.2.2.2.2.2.2.2.2.2.2.1 e he).2.2.2.2.2.1
  have gB := (hR.2.2.2.2.2.2.2.2.2.2.2.2.2.2.2.2.1 e he).2.2.2.2.2.2.1
  obtain ⟨M, ⟨hL, -⟩, hM⟩ := ep_mcanW hR ho p (n := 64) (by decide)
  cases hrb : ep_rb m (c.1 10) e (ep_u p) 2 64 with
  | false =>
    refine ep_Tc_mono (ep_Tc_no hR ho hL (-1) (fun m0 => ?_) (fun c0 => ?_)) (by omega)
    · show eF_3_receive (ep_mk c m0) _ _ = _
      unfold eF_3_receive
      refine ep_bnd (ep_creaches hR ht he hto p 2 (n := 64) (by decide) m0) ?_
      rw [hrb, if_pos ep_bf]
    · show eF_12_receive (ep_mk c0 m) _ _ _ = _
      unfold eF_12_receive
      refine ep_bnd (hM c0) ?_
      rw [hrb, if_pos ep_bf]
  | true =>
    have RM := ep_R_L hR hL
    have hoM := ep_On_L hL ho
    obtain ⟨c1, m1, n1, n2, n3⟩ := ep_note RM (by omega) hoM 7 (m.1 161 e) 0 0
    have ho1 := ep_W_On n3 hoM
    obtain ⟨⟨X, Y, g, v, hc1⟩, ⟨X', Y', g', v', hm1⟩, R1⟩ := n3
    have n3 : ep_W (N + 1) c M c1 m1 := ⟨⟨X, Y, g, v, hc1⟩, ⟨X', Y', g', v', hm1⟩, R1⟩
    have c12 : c1.2 = c.2 := by rw [hc1]; rfl
    have m1k : ∀ k, k ≠ 127 ∧ k ≠ 128 ∧ k ≠ 147 ∧ k ≠ 173 → m1.1 k = M.1 k := fun k hk => by rw [hm1]; exact ep_mw_o _ _ _ _ _ _ hk
    have m161 : m1.1 161 e = m.1 161 e := by rw [m1k 161 (by decide), ep_Lk hL 161 (by omega)]
    have F1 := ep_Fm_tr (ep_Fm_L hL ho) (ep_Fm_W n3 hoM)
    have c11 : ∀ m0, (ep_mk c1 m0).1 (eh_ep (nI e)) 11 = m.1 161 e := fun m0 => by rw [ep_rE0 _ _ he, c12]; exact gE
    by_cases h0 : m.1 161 e = 0
    · rw [h0] at n1 n2
      refine ⟨0, c1, m1, fun m0 => ?_, fun c0 => ?_, ep_R_mono R1 (by omega), F1⟩
      · show eF_3_receive (ep_mk c m0) _ _ = _
        unfold eF_3_receive
        refine ep_bnd (ep_creaches hR ht he hto p 2 (n := 64) (by decide) m0) ?_
        rw [hrb, if_neg ep_bt, f3, if_pos i6, ep_J, ep_rE0 _ _ he, gE, if_pos h0]
        refine ep_bnd (n1 m0) ?_
        rw [ep_J, c11, if_pos h0]
      · show eF_12_receive (ep_mk c0 m) _ _ _ = _
        unfold eF_12_receive
        refine ep_bnd (hM c0) ?_
        rw [hrb, if_neg ep_bt, if_pos i6, ep_J, x6, ep_rM _ _ 161 (by decide), ep_Lk hL 161 (by omega), if_pos h0]
        refine ep_bnd (n2 c0) ?_
        rw [if_pos i6, ep_rM _ _ 161 (by decide), m161, if_pos h0]
    · have h1 : m.1 161 e = 1 := gB.resolve_left h0
      rw [h1] at n1 n2
      have R2 := ep_R_mail R1 he (v := 0) (Or.inl rfl)
      have ho2 : ep_On (ep_mI m1 161 e 0) h t e := ho1
      have hq32 : ep_u (p + 32) = ep_u p + 32 := by
        have := ep_rb_u hrb 32 (by decide)
        exact ep_uadd (k := 32) (by omega)
      have g11 : ∀ j, j < 8 → c.2.1 11 e j = ep_bw (m1.1 162) (64 * e + 4 * j) := fun j hj => by
        rw [m1k 162 (by decide), ep_Lk hL 162 (by omega)]
        exact hR.2.2.2.2.2.2.2.2.2.2.2.2.2.2.2.2.2.2.2.2.1 e he j hj
      have g12 : ∀ j, j < 8 → c.2.1 12 e j = ep_bw (m1.1 162) (64 * e + 32 + 4 * j) := fun j hj => by
        rw [m1k 162 (by decide), ep_Lk hL 162 (by omega)]
        exact hR.2.2.2.2.2.2.2.2.2.2.2.2.2.2.2.2.2.2.2.2.2.1 e he j hj
      obtain ⟨c3, m3, W3, q2, q3⟩ := ep_wseg R2 (n := 32) (by omega) ho2 p p 0 0 32 64 (by decide) (by decide) (by decide) (by decide) (fun k hk => by have := ep_rb_u hrb k (by omega); omega) rfl (eh_ep (nI e) + 7) 8 162 384 (64 * e) (c.2.1 11 e) (fun X Y g v m0 => by rw [ep_rE _ _ 7 he (by decide)]; show (ep_cH c1 4 e 11 0).2.1 11 e = _; rw [ep_cHi _ _ _ _ _ _ _ (by decide), c12]) (by decide) (by decide) (by omega) (by decide) (fun k hk => by
        rw [Nat.zero_add]
        exact ep_row8 (b := m1.1 162) (off := 64 * e) g11 k hk)
      have ho3 := ep_W_On W3 ho2
      have m3k : m3.1 162 = m1.1 162 := by
        obtain ⟨-, ⟨A, B, C, D, z⟩, -⟩ := W3
        rw [z, ep_mw_o _ _ _ _ _ _ (by decide)]; rfl
      have c32 : ∀ e', c3.2.1 12 e' = c.2.1 12 e' := fun e' => by
        obtain ⟨⟨A, B, C, D, z⟩, -, -⟩ := W3
        rw [z]
        show (ep_cH c1 4 e 11 0).2.1 12 e' = _
        rw [ep_cHi _ _ _ _ _ _ _ (by decide), c12]
      obtain ⟨c4, m4, W4, r2, r3⟩ := ep_wseg (ep_R_W W3) (n := 32) (by omega) ho3 (p + 32) p 0 32 32 64 (by decide) (by decide) (by decide) (by decide) (fun k hk => by rw [hq32]; have := ep_rb_u hrb (32 + k) (by omega); omega) (by rw [hq32]) (eh_ep (nI e) + 8) 8 162 384 (64 * e) (c.2.1 12 e) (fun X Y g v m0 => by rw [ep_rE _ _ 8 he (by decide)]; exact c32 e) (by decide) (by decide) (by omega) (by decide) (fun k hk => by
        rw [Nat.zero_add, m3k, show 64 * e + (32 + k) = 64 * e + 32 + k by omega]
        exact ep_row8 (b := m1.1 162) (off := 64 * e + 32) g12 k hk)
      have W5 := ep_W_tr W3 W4
      have cl1 : ∀ m0, eF_3_write (ep_mk (ep_cH c1 4 e 11 0) m0) (eh_fp (nI t)) p (eh_ep (nI e) + 7) 8 32 = some (ep_mk c3 m0) := fun m0 => by
        refine (ep_cwrite_eq _ _ _ _ _ 32).trans ?_
        refine ep_bnd (v := ep_mk c3 m0) ?_ rfl
        rw [show eh_FU = 1099511627743 + 1 + 32 from rfl]
        refine (q2 m0 _).trans ?_
        exact ep_WB_end 32 _ _ _ _ (by decide) _ _
      have cl2 : ∀ m0, eF_3_write (ep_mk c3 m0) (eh_fp (nI t)) (p + 32) (eh_ep (nI e) + 8) 8 32 = some (ep_mk c4 m0) := fun m0 => by
        refine (ep_cwrite_eq _ _ _ _ _ 32).trans ?_
        refine ep_bnd (v := ep_mk c4 m0) ?_ rfl
        rw [show eh_FU = 1099511627743 + 1 + 32 from rfl]
        refine (r2 m0 _).trans ?_
        exact ep_WB_end 32 _ _ _ _ (by decide) _ _
      have ml : ∀ c0, eF_12_writeTo (ep_mk c0 (ep_mI m1 161 e 0)) (nI h) p 162 384 (nI (64 * e)) 64 = some (ep_mk c0 m4) := fun c0 => by
        refine (ep_mwrite_eq _ _ _ _ _ 64 _).trans ?_
        refine ep_bnd (v := ep_mk c0 m4) ?_ rfl
        rw [show eh_FU = 1099511627711 + 1 + 32 + 32 from rfl, q3 c0]
        show eh_loop _ _ (nI 32, _) = _
        rw [r3 c0]
        exact ep_WM_end 64 _ _ _ _ _ (by decide) _ _
      refine ⟨1, c4, m4, fun m0 => ?_, fun c0 => ?_, ep_R_mono W4.2.2 (by omega), ep_Fm_tr F1 (ep_Fm_tr (m1 := ep_mI m1 161 e 0) ⟨ho2, fun j hj => rfl, rfl⟩ (ep_Fm_W W5 ho2))⟩
      · show eF_3_receive (ep_mk c m0) _ _ = _
        unfold eF_3_receive
        refine ep_bnd (ep_creaches hR ht he hto p 2 (n := 64) (by decide) m0) ?_
        rw [hrb, if_neg ep_bt, f3, if_pos i6, ep_J, ep_rE0 _ _ he, gE, if_neg h0]
        refine ep_bnd (n1 m0) ?_
        rw [ep_J, c11, if_neg h0, ep_V, ep_iE0 _ _ _ _ he]
        refine ep_bnd (cl1 m0) ?_
        exact ep_bnd (cl2 m0) rfl
      · show eF_12_receive (ep_mk c0 m) _ _ _ = _
        unfold eF_12_receive
        refine ep_bnd (hM c0) ?_
        rw [hrb, if_neg ep_bt, if_pos i6, ep_J, x6, ep_rM _ _ 161 (by decide), ep_Lk hL 161 (by omega), if_neg h0]
        refine ep_bnd (n2 c0) ?_
        rw [if_pos i6, ep_rM _ _ 161 (by decide), m161, if_neg h0, if_pos i6, ep_V, ep_iM _ _ _ _ _ (by decide), show eh_nz 0 = 0 by decide, e64]
        exact ep_bnd (ml c0) rfl
