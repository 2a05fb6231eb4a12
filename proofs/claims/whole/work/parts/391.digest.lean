/-! the face: digests of what stands open -/
def er_sh (m : ep_M) (P : Nat → Int32) (q : Nat) : Int32 := if ep_ob (m.1 164) P q = true then m.1 128 q else 0
theorem er_cshown {N : Nat} {c : ep_C} {m : ep_M} (hR : ep_R N c m) {q : Nat} (hq : q < 131072) (m0 : ep_M) : eF_6_openByteAt (ep_mk c m0) (nI q) = some (er_sh m (c.1 10) q &&& 255) := by
  unfold eF_6_openByteAt er_sh
  rw [nI_l (by omega), ep_cisOpen hR hq, ep_sb, ep_J]
  cases ep_ob (m.1 164) (c.1 10) q with
  | false =>
    rw [if_pos ep_bf, if_neg Bool.false_ne_true]
    rfl
  | true => rw [if_neg ep_bt, ep_cbyteAt hR hq, ep_sb]; rfl
theorem er_mshown {N : Nat} {c : ep_C} {m : ep_M} (hR : ep_R N c m) {q : Nat} (hq : q < 131072) (c0 : ep_C) : eF_12_shown (ep_mk c0 m) (nI q) = some (er_sh m (c.1 10) q) := by
  unfold eF_12_shown er_sh
  rw [ep_misOpen hR hq, ep_sb, ep_J]
  cases ep_ob (m.1 164) (c.1 10) q with
  | false => rw [if_pos ep_bf]; rfl
  | true => rw [if_neg ep_bt, if_pos (ep_in hq (by decide)), ep_rM _ _ 128 (by decide), ep_ix (by omega)]; rfl
theorem er_digest (N : Nat) (p q r : Int32) : er_P N 0 (fun s => eF_11_digest s p q r) (fun s => eF_12_digest s p q r) := by
  intro c m hR
  by_cases hp : ¬ (¬ p < 0 ∧ ¬ q < 0 ∧ ¬ 4096 < q ∧ ¬ (131072 - q) < p ∧ ¬ r < 0 ∧ ¬ 7 < r)
  · refine er_id hR 0 (fun m0 => ?_) (fun c0 => ?_)
    · show eF_11_digest _ p q r = _
      unfold eF_11_digest
      rw [ep_J]
      by_cases y1 : q < 0
      · rw [if_pos y1]
      rw [if_neg y1]
      by_cases y2 : 4096 < q
      · rw [if_pos y2]
      rw [if_neg y2]
      by_cases y3 : r < 0
      · rw [if_pos y3]
      rw [if_neg y3]
      by_cases y4 : 7 < r
      · rw [if_pos y4]
      rw [if_neg y4]
      by_cases y5 : p < 0
      · rw [if_pos y5]
      rw [if_neg y5, if_pos (Decidable.byContradiction fun z => hp ⟨y5, y1, y2, z, y3, y4⟩)]
    · show eF_12_digest _ p q r = _
      unfold eF_12_digest
      rw [ep_J]
      by_cases y5 : p < 0
      · rw [if_pos y5]
      rw [if_neg y5]
      by_cases y1 : q < 0
      · rw [if_pos y1]
      rw [if_neg y1]
      by_cases y2 : 4096 < q
      · rw [if_pos y2]
      rw [if_neg y2]
      by_cases y6 : (131072 - q) < p
      · rw [if_pos y6]
      rw [if_neg y6]
      by_cases y3 : r < 0
      · rw [if_pos y3]
      rw [if_neg y3, if_pos (Decidable.byContradiction fun z => hp ⟨y5, y1, y2, y6, y3, z⟩)]
  obtain ⟨p0, q0, q1, p1, r0, r1⟩ := Decidable.not_not.mp hp
  obtain ⟨n, hn, rfl⟩ := ep_le_of (n := 4096) (by decide) q0 q1
  obtain ⟨j, hj, rfl⟩ := ep_le_of (n := 7) (by decide) r0 r1
  obtain ⟨a, ha, rfl⟩ := nI_of p0
  have han : a + n ≤ 131072 := by
    have := p1
    rw [show (131072 : Int32) = nI 131072 from rfl, pk_sub (by omega), nI_ltI (by omega) ha] at this
    omega
  obtain ⟨c1, m1, a1, b1, k1, l1, s1⟩ := ep_ssbegin c m
  obtain ⟨c2, m2, ⟨k2, l2, st, s2, ok2, n2⟩, a2, b2⟩ := ep_lock (B1 := fun (r14 : (Int32 × eh_F) → Option (eh_F)) (t10 : Int32 × eh_F) => if t10.1 < nI n then (Option.bind (eF_6_openByteAt t10.2 (nI a + t10.1)) (fun q16 => Option.bind (eF_9_feedByte t10.2 29 q16) (fun q17 => eh_V ((t10.1 + 1) : Int32) (fun x18 => r14 (x18, q17))))) else (some t10.2)) (B2 := fun (r15 : (Int32 × eh_F) → Option (eh_F)) (t10 : Int32 × eh_F) => if t10.1 < nI n then (Option.bind (eF_12_shown t10.2 (nI a + t10.1)) (fun q17 => Option.bind (eF_12_add t10.2 6 q17) (fun q18 => eh_V ((t10.1 + 1) : Int32) (fun x19 => r15 (x19, q18))))) else (some t10.2)) (fun i s => (nI i, s)) (fun i s => (nI i, s)) (fun i c' m' => ep_K c c' ∧ ep_L m m' ∧ ∃ st, ep_SS c' m' st ∧ ep_ok st ∧ st.2.2 = i) n (by omega) (by
      intro i c' m' hi ⟨hK, hL, st, hS, hok, hst⟩
      have hR' := ep_R_L (ep_R_K hR hK) hL
      obtain ⟨h', w', n', f1, f2⟩ := ep_cfeedByte hS.1 hok (by omega) (er_sh m' (c'.1 10) (a + i) &&& 255)
      obtain ⟨H, B, W, L, g1, g2, g3⟩ := ep_madd (e := 6) (by decide) hS.2 hok (by omega) (er_sh m' (c'.1 10) (a + i))
      have hpc : ep_put st (er_sh m' (c'.1 10) (a + i) &&& 255) = ep_put st (er_sh m' (c'.1 10) (a + i)) := ep_put_cong st (by rw [Int32.and_assoc]; rfl)
      rw [hpc] at f1
      refine ⟨ep_s29 c' n' h' w', ep_mS m' H B W L, ⟨ep_K_tr hK (ep_K_29 _ _ _ _), ep_L_tr hL (ep_L_mS (by decide) g3), ep_put st (er_sh m' (c'.1 10) (a + i)), ⟨f1, g2⟩, ep_put_ok hok (by omega) _, by rw [ep_put_len, hst]⟩, fun m0 rec => ?_, fun c0 rec => ?_⟩
      · show (if nI i < nI n then _ else _) = _
        rw [if_pos (nI_lt hi (by omega)), nI_add, er_cshown hR' (by omega), ep_sb, f2 _ 29 (ep_r29 c' m0).1 (ep_r29 c' m0).2.1 (ep_r29 c' m0).2.2, ep_t3_29, ep_sb, ep_V, nI_1]
      · show (if nI i < nI n then _ else _) = _
        rw [if_pos (nI_lt hi (by omega)), nI_add, er_mshown hR' (by omega), ep_sb]
        refine ep_bnd (g1 c0) ?_
        rw [ep_V, nI_1]) (by
      intro c' m' _
      refine ⟨fun m0 rec => ?_, fun c0 rec => ?_⟩
      · show (if nI n < nI n then _ else _) = _
        rw [if_neg (nI_nlt (Nat.le_refl _) (by omega))]
      · show (if nI n < nI n then _ else _) = _
        rw [if_neg (nI_nlt (Nat.le_refl _) (by omega))]) (c := c1) (m := m1) ⟨k1, l1, ep_st0, s1, ep_st0_ok, rfl⟩
  obtain ⟨c3, m3, a3, b3, k3, l3⟩ := ep_ssend s2 ok2 (by omega) 35 194 32 0 (by decide) (by decide) (by decide) (by decide)
  have cc : ∀ m0, eF_9_end (ep_mk c2 m0) 29 35 8 = some (ep_mk (ep_cL c3 35 (ep_w8 (c2.1 35) (ep_fin st) 8)) m0) := by
    intro m0
    rw [a3 m0, ep_wC1 _ _ _ _ (by decide), ep_rC1 _ _ _ (by decide)]
  have K3 : ep_K c (ep_cL c3 35 (ep_w8 (c2.1 35) (ep_fin st) 8)) := ep_K_tr k2 (ep_K_tr k3 (ep_K_35 _ _))
  have L3 : ep_L m (ep_mL m3 194 (ep_wr (m2.1 194) 0 (ep_fin st) 32)) := ep_L_tr l2 (ep_L_tr l3 (ep_L_mL _ (by decide)))
  have i8 : eh_in (nI j) 8 = true := ep_in (by omega) (by decide)
  refine ⟨ep_t8 (ep_fin st) j, _, _, fun m0 => ?_, fun c0 => ?_, ep_R_L (ep_R_K hR K3) L3⟩
  · show eF_11_digest _ (nI a) (nI n) (nI j) = _
    unfold eF_11_digest
    rw [ep_J, if_neg q0, if_neg q1, if_neg r0, if_neg r1, if_neg p0, if_neg p1, a1 m0, ep_sb]
    refine ep_bnd (a2 m0) ?_
    rw [cc m0, ep_sb, if_pos i8, ep_rC1 _ _ 35 (by decide), ep_cL1, ep_ix (by omega), ep_w8_lt _ _ _ (by omega)]
  · show eF_12_digest _ (nI a) (nI n) (nI j) = _
    unfold eF_12_digest
    rw [ep_J, if_neg p0, if_neg q0, if_neg q1, if_neg p1, if_neg r0, if_neg r1, b1 c0, ep_sb]
    refine ep_bnd (b2 c0) ?_
    refine ep_bnd (b3 c0) ?_
    rw [show (4 : Int32) * nI j = nI (4 * j) from ep_mul (b := 4) rfl rfl, ep_mbig _ _ _ (by decide) (by omega) (by decide), ep_sb, ep_mL1]
    have := ep_bw_wr (m2.1 194) 0 (ep_fin st) j (by omega)
    rw [Nat.zero_add] at this
    rw [this]
/-! is a report genuine -/
theorem er_genuine (N : Nat) (p : Int32) : er_P N 0 (fun s => eF_11_genuine s p) (fun s => eF_12_genuine s p) := by
  intro c m hR
  by_cases hp : ¬ (¬ p < 0 ∧ ¬ 130944 < p)
  · refine er_id hR 0 (fun m0 => ?_) (fun c0 => ?_)
    · show eF_11_genuine _ p = _
      unfold eF_11_genuine
      rw [ep_J]
      by_cases y1 : p < 0
      · rw [if_pos y1]
      rw [if_neg y1, if_pos (Decidable.byContradiction fun z => hp ⟨y1, z⟩)]
    · show eF_12_genuine _ p = _
      unfold eF_12_genuine
      rw [ep_J]
      by_cases y1 : p < 0
      · rw [if_pos y1]
      rw [if_neg y1, if_pos (Decidable.byContradiction fun z => hp ⟨y1, z⟩)]
  obtain ⟨p0, p1⟩ := Decidable.not_not.mp hp
  obtain ⟨a, ha, rfl⟩ := ep_le_of (n := 130944) (by decide) p0 p1
  let sh : Nat → Int32 := fun k => er_sh m (c.1 10) (a + k)
  have hcl : ∀ m0, eh_loop (fun (r11 : (Int32 × eh_F) → Option (eh_F)) (t5 : Int32 × eh_F) => if t5.1 < 32 then (Option.bind (eh_loop (fun (r18 : (Int32 × Int32) → Option (Int32)) (t13 : Int32 × Int32) => if t13.2 < 4 then (Option.bind (eF_6_openByteAt t5.2 ((nI a + (4 * t5.1)) + t13.2)) (fun q20 => eh_V (((eh_shl t13.1 8) ||| q20) : Int32) (fun x21 => eh_V ((t13.2 + 1) : Int32) (fun x22 => r18 (x21, x22))))) else (some t13.1)) eh_FU (0, 0)) (fun (e14 : Int32) => if eh_in t5.1 32 then eh_V (eh_tI t5.2 36 (eh_ix t5.1) e14) (fun s15 => eh_V ((t5.1 + 1) : Int32) (fun x16 => r11 (x16, s15))) else none)) else (some t5.2)) eh_FU (0, ep_mk c m0) = some (ep_mk (ep_cL c 36 (ep_in_ (c.1 36) 0 32 fun j => ep_bw sh (4 * j))) m0) := by
    intro m0
    refine ep_loop (fun i => (nI i, ep_mk (ep_cL c 36 (ep_in_ (c.1 36) 0 i fun j => ep_bw sh (4 * j))) m0)) 32 _ (ep_FU _ (by decide)) ?_ ?_ ?_
    · intro i hi rec
      have hR' : ep_R N (ep_cL c 36 (ep_in_ (c.1 36) 0 i fun j => ep_bw sh (4 * j))) m := ep_R_K hR (ep_K_36 _ _)
      have hin : eh_loop (fun (r18 : (Int32 × Int32) → Option (Int32)) (t13 : Int32 × Int32) => if t13.2 < 4 then (Option.bind (eF_6_openByteAt (ep_mk (ep_cL c 36 (ep_in_ (c.1 36) 0 i fun j => ep_bw sh (4 * j))) m0) ((nI a + (4 * nI i)) + t13.2)) (fun q20 => eh_V (((eh_shl t13.1 8) ||| q20) : Int32) (fun x21 => eh_V ((t13.2 + 1) : Int32) (fun x22 => r18 (x21, x22))))) else (some t13.1)) eh_FU (0, 0) = some (ep_bw sh (4 * i)) := by
        rw [← ep_pw4 sh (4 * i) 0]
        refine ep_loop (fun k => (ep_pw sh (4 * i) 0 k, nI k)) 4 _ (ep_FU _ (by decide)) ?_ ?_ rfl
        · intro k hk rec
          show (if nI k < 4 then _ else _) = _
          rw [if_pos (show nI k < 4 from nI_lt (b := 4) hk (by decide)), ep_mul (a := i) (b := 4) (y := 4) rfl rfl, nI_add, nI_add, er_cshown hR' (by omega), ep_sb, ep_V, ep_V, nI_1]
          show rec (eh_shl (ep_pw sh (4 * i) 0 k) 8 ||| (er_sh m (c.1 10) (a + 4 * i + k) &&& 255), nI (k + 1)) = _
          rw [show a + 4 * i + k = a + (4 * i + k) by omega]
          rfl
        · intro rec
          show (if nI 4 < 4 then _ else _) = _
          rw [if_neg (by decide)]
      show (if nI i < 32 then _ else _) = _
      rw [if_pos (show nI i < 32 from nI_lt (b := 32) hi (by decide))]
      refine ep_bnd hin ?_
      rw [if_pos (ep_in hi (by decide)), ep_V, ep_V, ep_ix (by omega), ep_iC1 _ _ _ _ _ (by decide), ep_cLI, ep_in_z _ _ (fun j => ep_bw sh (4 * j)) rfl, nI_1]
    · intro rec
      show (if nI 32 < 32 then _ else _) = _
      rw [if_neg (by decide)]
    · show _ = (nI 0, ep_mk (ep_cL c 36 (ep_in_ (c.1 36) 0 0 _)) m0)
      rw [ep_in_0, ep_cLid]; rfl
  have hml : ∀ c0, eh_loop (fun (r10 : (Int32 × eh_F) → Option (eh_F)) (t5 : Int32 × eh_F) => if t5.1 < 128 then (Option.bind (eF_12_shown t5.2 (nI a + t5.1)) (fun q12 => if eh_in t5.1 128 then eh_V (eh_tI t5.2 195 (eh_ix t5.1) (eh_nb (eh_nb q12))) (fun s13 => eh_V ((t5.1 + 1) : Int32) (fun x14 => r10 (x14, s13))) else none)) else (some t5.2)) eh_FU (0, ep_mk c0 m) = some (ep_mk c0 (ep_mL m 195 (ep_in_ (m.1 195) 0 128 fun k => eh_nb (eh_nb (sh k))))) := by
    intro c0
    refine ep_loop (fun i => (nI i, ep_mk c0 (ep_mL m 195 (ep_in_ (m.1 195) 0 i fun k => eh_nb (eh_nb (sh k)))))) 128 _ (ep_FU _ (by decide)) ?_ ?_ ?_
    · intro i hi rec
      have hR' : ep_R N c (ep_mL m 195 (ep_in_ (m.1 195) 0 i fun k => eh_nb (eh_nb (sh k)))) := ep_R_L hR (ep_L_mL _ (by decide))
      show (if nI i < 128 then _ else _) = _
      rw [if_pos (show nI i < 128 from nI_lt (b := 128) hi (by decide)), nI_add, er_mshown hR' (by omega), ep_sb, if_pos (ep_in hi (by decide)), ep_V, ep_V, ep_ix (by omega), ep_iM _ _ _ _ _ (by decide), ep_mLI, show er_sh (ep_mL m 195 (ep_in_ (m.1 195) 0 i fun k => eh_nb (eh_nb (sh k)))) (c.1 10) (a + i) = sh i from rfl, ep_in_z _ _ (fun k => eh_nb (eh_nb (sh k))) rfl, nI_1]
    · intro rec
      show (if nI 128 < 128 then _ else _) = _
      rw [if_neg (by decide)]
    · show _ = (nI 0, ep_mk c0 (ep_mL m 195 (ep_in_ (m.1 195) 0 0 _)))
      rw [ep_in_0, ep_mLid]; rfl
  have hbw : ∀ o, o + 4 ≤ 128 → ep_bw sh o = ep_bw ((ep_mL m 195 (ep_in_ (m.1 195) 0 128 fun k => eh_nb (eh_nb (sh k)))).1 195) o := fun o h4 => ep_bw_255 fun i hi => by
    rw [ep_mL1, ep_in_y (by omega), ep_nbnb]
  obtain ⟨c2, m2, a1, b1, K2, L2, r2, e2, f2, n2⟩ := ep_seal (c1 := ep_cL c 36 (ep_in_ (c.1 36) 0 32 fun j => ep_bw sh (4 * j))) (m1 := ep_mL m 195 (ep_in_ (m.1 195) 0 128 fun k => eh_nb (eh_nb (sh k)))) hR (ep_K_36 _ _) (ep_L_mL _ (by decide)) (fun j hj => by
    rw [ep_cL1, ep_in_y (by omega), Nat.zero_add]
    exact hbw (4 * j) (by omega))
  have hbe := ep_bears_ (c2 := c2) (m2 := m2) r2 (fun j hj => by
    rw [e2, f2, ep_cL1, ep_in_y (by omega), show 4 * (24 + j) = 96 + 4 * j by omega]
    exact hbw (96 + 4 * j) (by omega)) n2 (fun k hk => by rw [f2, ep_mL1, ep_in_y (by omega)]; exact ⟨_, rfl⟩)
  refine ⟨ep_bi (ep_all (fun k => decide (m2.1 195 (96 + k) = m2.1 194 k)) 32), c2, m2, fun m0 => ?_, fun c0 => ?_, ep_R_L (ep_R_K hR K2) L2⟩
  · show eF_11_genuine _ (nI a) = _
    unfold eF_11_genuine
    rw [ep_J, if_neg p0, if_neg p1]
    refine ep_bnd (hcl m0) ?_
    rw [a1 m0, ep_sb, hbe m0, ep_sb, if_pos (ep_bi_bo _)]
  · show eF_12_genuine _ (nI a) = _
    unfold eF_12_genuine
    rw [ep_J, if_neg p0, if_neg p1]
    refine ep_bnd (hml c0) ?_
    have hir : eF_12_isReport (ep_mk c0 (ep_mL m 195 (ep_in_ (m.1 195) 0 128 fun k => eh_nb (eh_nb (sh k))))) 195 128 = some (ep_bi (ep_all (fun k => decide (m2.1 195 (96 + k) = m2.1 194 k)) 32), ep_mk c0 m2) := by
      unfold eF_12_isReport
      rw [b1 c0, ep_sb]
      refine ep_bnd (ep_mcmp m2 c0) ?_
      rw [if_pos (ep_bi_bo _)]
    rw [hir, ep_sb, if_pos (ep_bi_bo _)]
