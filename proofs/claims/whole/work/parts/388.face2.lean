/-! the face: registers, calls, keys -/
theorem er_regz {N : Nat} {c : ep_C} {m : ep_M} (hR : ep_R N c m) (p q : Int32) : er_O c m (fun s => eF_11_registerOrZero s p q) (fun s => eF_12_register s p q) := by
  have hin := ep_inl (p := q) (n := 32) (by decide)
  by_cases hp : eh_in p 2 = true
  · obtain ⟨h, hh, rfl⟩ := ep_in_of hp (by decide)
    by_cases hq : eh_in q 32 = true
    · obtain ⟨j, hj, rfl⟩ := ep_in_of hq (by decide)
      obtain ⟨q0, q1⟩ := hin.mp hq
      refine ⟨m.1 129 (32 * h + j), fun m0 => ?_, fun c0 => ?_⟩
      · show eF_11_registerOrZero _ (nI h) (nI j) = _
        unfold eF_11_registerOrZero
        rw [er_ch, ep_sb, hp, ep_J, ep_J, if_neg ep_bt, if_neg q0, if_pos (show nI j < 32 from q1), if_pos rfl, if_pos hq, ep_rH1 _ _ hh, ep_ix (by omega), hR.2.2.2.2.2.1 h hh j hj]
      · show eF_12_register _ (nI h) (nI j) = _
        unfold eF_12_register
        rw [er_mh, ep_sb, hp, ep_J, ep_J, if_neg ep_bt, if_neg q0, if_pos (show nI j < 32 from q1), show (32 : Int32) * nI h = nI (32 * h) from ep_mul (b := 32) rfl rfl, nI_add, if_pos (ep_in (by omega) (by decide)), ep_rM _ _ 129 (by decide), ep_ix (by omega)]
    · refine ⟨0, fun m0 => ?_, fun c0 => ?_⟩
      · show eF_11_registerOrZero _ (nI h) q = _
        unfold eF_11_registerOrZero
        rw [er_ch, ep_sb, hp, ep_J, ep_J, if_neg ep_bt]
        by_cases y1 : q < 0
        · rw [if_pos y1]
        · rw [if_neg y1, if_neg (show ¬ q < 32 from fun z => hq (hin.mpr ⟨y1, z⟩))]
      · show eF_12_register _ (nI h) q = _
        unfold eF_12_register
        rw [er_mh, ep_sb, hp, ep_J, ep_J, if_neg ep_bt]
        by_cases y1 : q < 0
        · rw [if_pos y1]
        · rw [if_neg y1, if_neg (show ¬ q < 32 from fun z => hq (hin.mpr ⟨y1, z⟩))]
  · refine ⟨0, fun m0 => ?_, fun c0 => ?_⟩
    · show eF_11_registerOrZero _ p q = _
      unfold eF_11_registerOrZero
      rw [er_ch, ep_sb, er_hart hp, ep_J, ep_J, if_pos ep_bf]
    · show eF_12_register _ p q = _
      unfold eF_12_register
      rw [er_mh, ep_sb, er_hart hp, ep_J, ep_J, if_pos ep_bf]
theorem er_register {N : Nat} {c : ep_C} {m : ep_M} (hR : ep_R N c m) (p q : Int32) : er_O c m (fun s => eF_11_register s p q) (fun s => eF_12_register s p q) := by
  obtain ⟨r, h1, h2⟩ := er_regz hR p q
  exact ⟨r, fun m0 => ep_bnd (h1 m0) rfl, h2⟩
theorem er_setRegister (N : Nat) (p q v : Int32) : er_P N 0 (fun s => eF_11_setRegister s p q v) (fun s => eF_12_setRegister s p q v) := by
  intro c m hR
  obtain ⟨r, h1, h2⟩ := er_regz hR p q
  have hin := ep_inl (p := q) (n := 32) (by decide)
  by_cases hp : eh_in p 2 = true
  · obtain ⟨h, hh, rfl⟩ := ep_in_of hp (by decide)
    by_cases hq : eh_in q 32 = true
    · obtain ⟨j, hj, rfl⟩ := ep_in_of hq (by decide)
      obtain ⟨q0, q1⟩ := hin.mp hq
      have q31 : ¬ (31 : Int32) < nI j := nI_nlt (a := 31) (by omega) (by omega)
      have hmul : (32 : Int32) * nI h = nI (32 * h) := ep_mul (b := 32) rfl rfl
      have hr : r = m.1 129 (32 * h + j) := by
        have := h2 c
        have h3 : eF_12_register (ep_mk c m) (nI h) (nI j) = some (m.1 129 (32 * h + j)) := by
          unfold eF_12_register
          rw [er_mh, ep_sb, hp, ep_J, ep_J, if_neg ep_bt, if_neg q0, if_pos (show nI j < 32 from q1), hmul, nI_add, if_pos (ep_in (by omega) (by decide)), ep_rM _ _ 129 (by decide), ep_ix (by omega)]
        exact Option.some.inj (this.symm.trans h3)
      have i4 : eh_in (nI (32 * h + j)) 448 = true := ep_in (by omega) (by decide)
      have x4 : eh_ix (nI (32 * h + j)) = 32 * h + j := ep_ix (by omega)
      by_cases j0 : j = 0
      · subst j0
        refine ⟨r, c, ep_mI m 129 (32 * h + 0) 0, fun m0 => ?_, fun c0 => ?_, ?_⟩
        · show eF_11_setRegister _ (nI h) (nI 0) v = _
          unfold eF_11_setRegister
          refine ep_bnd (h1 m0) ?_
          rw [er_ch, ep_sb, hp, ep_J, if_neg ep_bt, if_neg (show ¬ (0 : Int32) < nI 0 by decide)]
        · show eF_12_setRegister _ (nI h) (nI 0) v = _
          unfold eF_12_setRegister
          rw [er_mh, ep_sb, hp, ep_J, if_neg ep_bt, if_neg q0, if_neg q31, hmul, nI_add, if_pos i4, ep_V, ep_J, if_pos (show nI 0 = 0 from rfl)]
          dsimp only
          rw [if_pos i4, ep_V, x4, ep_iM _ _ _ _ _ (by decide), ep_rM _ _ 129 (by decide), hr]
        · have : ep_mI m 129 (32 * h + 0) 0 = m := by
            unfold ep_mI
            rw [show (0 : Int32) = m.1 129 (32 * h + 0) from (hR.2.2.2.2.2.2.1 h hh).symm, ep_upd_id, ep_mLid]
          rw [this]
          exact hR
      · refine ⟨r, ep_cH c 1 h j v, ep_mI m 129 (32 * h + j) v, fun m0 => ?_, fun c0 => ?_, ep_R_hx hR hh (by omega) hj v⟩
        · show eF_11_setRegister _ (nI h) (nI j) v = _
          unfold eF_11_setRegister
          refine ep_bnd (h1 m0) ?_
          rw [er_ch, ep_sb, hp, ep_J, if_neg ep_bt, if_pos (show (0 : Int32) < nI j from (nI_ltI (a := 0) (by decide) (by omega)).mpr (by omega)), if_pos (show nI j < 32 from q1), if_pos rfl, if_pos hq, ep_V, ep_ix (by omega), ep_iH1 _ _ _ _ hh]
        · show eF_12_setRegister _ (nI h) (nI j) v = _
          unfold eF_12_setRegister
          rw [er_mh, ep_sb, hp, ep_J, if_neg ep_bt, if_neg q0, if_neg q31, hmul, nI_add, if_pos i4, ep_V, ep_J, if_neg (show ¬ nI j = 0 from fun z => j0 ((nI_eq (b := 0) (by omega) (by decide)).mp z))]
          dsimp only
          rw [if_pos i4, ep_V, x4, ep_iM _ _ _ _ _ (by decide), ep_rM _ _ 129 (by decide), hr]
    · have hr : r = 0 := by
        have := h2 c
        have h3 : eF_12_register (ep_mk c m) (nI h) q = some 0 := by
          unfold eF_12_register
          rw [er_mh, ep_sb, hp, ep_J, ep_J, if_neg ep_bt]
          by_cases y1 : q < 0
          · rw [if_pos y1]
          · rw [if_neg y1, if_neg (show ¬ q < 32 from fun z => hq (hin.mpr ⟨y1, z⟩))]
        exact Option.some.inj (this.symm.trans h3)
      subst hr
      refine er_id hR 0 (fun m0 => ?_) (fun c0 => ?_)
      · show eF_11_setRegister _ (nI h) q v = _
        unfold eF_11_setRegister
        refine ep_bnd (h1 m0) ?_
        rw [er_ch, ep_sb, hp, ep_J, if_neg ep_bt]
        by_cases y1 : 0 < q
        · have y0 : ¬ q < 0 := fun z => by
            rw [Int32.lt_iff_toInt_lt] at z y1
            omega
          rw [if_pos y1, if_neg (show ¬ q < 32 from fun z => hq (hin.mpr ⟨y0, z⟩))]
        · rw [if_neg y1]
      · show eF_12_setRegister _ (nI h) q v = _
        unfold eF_12_setRegister
        rw [er_mh, ep_sb, hp, ep_J, if_neg ep_bt]
        by_cases y1 : q < 0
        · rw [if_pos y1]
        · rw [if_neg y1]
          have : (31 : Int32) < q := by
            obtain ⟨k, hk, rfl⟩ := nI_of y1
            have : ¬ nI k < nI 32 := fun z => hq (hin.mpr ⟨y1, z⟩)
            rw [nI_ltI hk (by decide)] at this
            exact (nI_ltI (a := 31) (by decide) hk).mpr (by omega)
          rw [if_pos this]
  · have hr : r = 0 := by
      have := h2 c
      have h3 : eF_12_register (ep_mk c m) p q = some 0 := by
        unfold eF_12_register
        rw [er_mh, ep_sb, er_hart hp, ep_J, ep_J, if_pos ep_bf]
      exact Option.some.inj (this.symm.trans h3)
    subst hr
    refine er_id hR 0 (fun m0 => ?_) (fun c0 => ?_)
    · show eF_11_setRegister _ p q v = _
      unfold eF_11_setRegister
      refine ep_bnd (h1 m0) ?_
      rw [er_ch, ep_sb, er_hart hp, ep_J, if_pos ep_bf]
    · show eF_12_setRegister _ p q v = _
      unfold eF_12_setRegister
      rw [er_mh, ep_sb, er_hart hp, ep_J, if_pos ep_bf]
theorem er_inside {N : Nat} {c : ep_C} {m : ep_M} (hR : ep_R N c m) (p q : Int32) : er_O c m (fun s => eF_11_inside s p q) (fun s => eF_12_inside s p q) := by
  cases hb : ep_inb p 12 (m.1 148) with
  | false =>
    refine ⟨0, fun m0 => ?_, fun c0 => ?_⟩
    · show eF_11_inside _ p q = _
      unfold eF_11_inside
      rw [ep_chasF hR, ep_sb, hb, ep_J, if_pos ep_bf]
    · show eF_12_inside _ p q = _
      unfold eF_12_inside
      rw [ep_misT, ep_sb, hb, ep_J, ep_J, if_pos ep_bf]
  | true =>
    obtain ⟨t, ht, rfl, hT⟩ := ep_inb_t (by decide) hb
    have it : eh_in (nI t) 12 = true := ep_in ht (by decide)
    by_cases hq : ¬ (¬ q < 0 ∧ ¬ 32 < q)
    · refine ⟨0, fun m0 => ?_, fun c0 => ?_⟩
      · show eF_11_inside _ (nI t) q = _
        unfold eF_11_inside
        rw [ep_chasF hR, ep_sb, hb, ep_J, if_neg ep_bt]
        by_cases y1 : q < 0
        · rw [if_pos y1]
        · rw [if_neg y1, if_pos (Decidable.byContradiction fun z => hq ⟨y1, z⟩)]
      · show eF_12_inside _ (nI t) q = _
        unfold eF_12_inside
        rw [ep_misT, ep_sb, hb, ep_J, ep_J, if_neg ep_bt]
        by_cases y1 : q < 0
        · rw [if_pos y1]
        · rw [if_neg y1, if_pos (Decidable.byContradiction fun z => hq ⟨y1, z⟩)]
    obtain ⟨q0, q1⟩ := Decidable.not_not.mp hq
    obtain ⟨j, hj, rfl⟩ := ep_le_of (n := 32) (by decide) q0 q1
    have e2 : (2 : Int32) + nI t = nI (2 + t) := by rw [show (2 : Int32) = nI 2 from rfl, nI_add]
    by_cases j32 : j = 32
    · subst j32
      refine ⟨m.1 130 (2 + t), fun m0 => ?_, fun c0 => ?_⟩
      · show eF_11_inside _ (nI t) (nI 32) = _
        unfold eF_11_inside
        rw [ep_chasF hR, ep_sb, hb, ep_J, if_neg ep_bt, if_neg q0, if_neg q1, if_pos it, ep_J, if_pos (show nI 32 = 32 from rfl), ep_rF0 _ _ ht, (hR.2.2.2.2.2.2.2.2.2.2.1 t ht).2.1]
      · show eF_12_inside _ (nI t) (nI 32) = _
        unfold eF_12_inside
        rw [ep_misT, ep_sb, hb, ep_J, ep_J, if_neg ep_bt, if_neg q0, if_neg q1, if_pos (show nI 32 = 32 from rfl), e2, if_pos (ep_in (by omega) (by decide)), ep_rM _ _ 130 (by decide), ep_ix (by omega)]
    · have z : ¬ nI j = 32 := fun z => j32 ((nI_eq (b := 32) (by omega) (by decide)).mp z)
      refine ⟨m.1 129 (32 * (2 + t) + j), fun m0 => ?_, fun c0 => ?_⟩
      · show eF_11_inside _ (nI t) (nI j) = _
        unfold eF_11_inside
        rw [ep_chasF hR, ep_sb, hb, ep_J, if_neg ep_bt, if_neg q0, if_neg q1, if_pos it, ep_J, if_neg z, if_pos (ep_in (by omega) (by decide)), ep_rF1 _ _ ht, ep_ix (by omega), hR.2.2.2.2.2.2.2.2.2.2.2.2.1 t ht hT j (by omega)]
      · show eF_12_inside _ (nI t) (nI j) = _
        unfold eF_12_inside
        rw [ep_misT, ep_sb, hb, ep_J, ep_J, if_neg ep_bt, if_neg q0, if_neg q1, if_neg z, e2, show (32 : Int32) * nI (2 + t) = nI (32 * (2 + t)) from ep_mul (b := 32) rfl rfl, nI_add, if_pos (ep_in (by omega) (by decide)), ep_rM _ _ 129 (by decide), ep_ix (by omega)]
theorem er_place (N : Nat) (p q r : Int32) : er_P N 0 (fun s => eF_11_place s p q r) (fun s => eF_12_place s p q r) := by
  intro c m hR
  by_cases hp : ¬ (eh_in p 2 = true ∧ q &&& 3 = 0 ∧ (r = 0 ∨ r = 1))
  · refine er_id hR (-1) (fun m0 => ?_) (fun c0 => ?_)
    · show eF_11_place _ p q r = _
      unfold eF_11_place
      rw [er_ch, ep_sb, ep_J]
      by_cases y : eh_in p 2 = true
      · rw [y, if_neg ep_bt]
        by_cases y1 : r < 0
        · rw [if_pos y1]
        · rw [if_neg y1]
          by_cases y2 : 1 < r
          · rw [if_pos y2]
          · obtain ⟨k, hk, rfl⟩ := ep_le_of (n := 1) (by decide) y1 y2
            have hr : nI k = 0 ∨ nI k = 1 := by
              have : k = 0 ∨ k = 1 := by omega
              rcases this with rfl | rfl
              · exact Or.inl rfl
              · exact Or.inr rfl
            rw [if_neg y2, if_neg (fun z => hp ⟨y, z, hr⟩)]
      · rw [er_hart y, if_pos ep_bf]
    · show eF_12_place _ p q r = _
      unfold eF_12_place
      rw [er_mh, ep_sb, ep_J]
      by_cases y : eh_in p 2 = true
      · rw [y, if_neg ep_bt]
        by_cases y1 : q &&& 3 = 0
        · rw [if_pos y1, ep_J, if_neg (fun z => hp ⟨y, y1, Or.inl z⟩), if_neg (fun z => hp ⟨y, y1, Or.inr z⟩)]
        · rw [if_neg y1]
      · rw [er_hart y, if_pos ep_bf]
  obtain ⟨y, q3, hr⟩ := Decidable.not_not.mp hp
  obtain ⟨h, hh, rfl⟩ := ep_in_of y (by decide)
  have x2 : eh_ix (nI h) = h := ep_ix (by omega)
  refine ⟨0, ep_cH (ep_cH (ep_cH c 0 h 2 q) 0 h 3 r) 0 h 4 0, ep_mI (ep_mI (ep_mI m 130 h q) 131 h r) 132 h 0, fun m0 => ?_, fun c0 => ?_, ep_S132 (ep_S131 (ep_S130 hR hh q q3) hh r hr) hh 0 (Or.inl rfl)⟩
  · show eF_11_place _ (nI h) q r = _
    unfold eF_11_place
    rw [er_ch, ep_sb, ep_J, y, if_neg ep_bt, if_neg (by rcases hr with rfl | rfl <;> decide), if_neg (by rcases hr with rfl | rfl <;> decide), if_pos q3, if_pos rfl, ep_V, ep_iH0 _ _ _ _ hh, ep_V, ep_iH0 _ _ _ _ hh, ep_V, ep_iH0 _ _ _ _ hh]
  · show eF_12_place _ (nI h) q r = _
    unfold eF_12_place
    have key : (if eh_in (nI h) 14 then eh_V (eh_tI (ep_mk c0 m) 130 (eh_ix (nI h)) q) (fun s8 => if eh_in (nI h) 2 then eh_V (eh_tI s8 131 (eh_ix (nI h)) r) (fun s9 => if eh_in (nI h) 2 then eh_V (eh_tI s9 132 (eh_ix (nI h)) (eh_nz 0)) (fun s10 => some ((0 : Int32), s10)) else none) else none) else none) = some (0, ep_mk c0 (ep_mI (ep_mI (ep_mI m 130 h q) 131 h r) 132 h 0)) := by
      rw [if_pos (ep_in (by omega) (by decide)), ep_V, x2, ep_iM _ _ _ _ _ (by decide), if_pos y, ep_V, ep_iM _ _ _ _ _ (by decide), if_pos y, ep_V, ep_iM _ _ _ _ _ (by decide)]
      rfl
    rw [er_mh, ep_sb, ep_J, y, if_neg ep_bt, if_pos q3, ep_J]
    dsimp only
    rw [y] at key
    rw [key]
    rcases hr with rfl | rfl
    · rw [if_pos rfl]
    · rw [if_neg (by decide), if_pos rfl]
theorem er_setControl (N : Nat) (p q r : Int32) : er_P N 0 (fun s => eF_11_setControl s p q r) (fun s => eF_12_setControl s p q r) := by
  intro c m hR
  by_cases y : eh_in p 2 = true
  · have cm : ∀ s, eF_4_maySystemUse s q 1 = some (ep_bi (ep_wrt q)) := by
      intro s
      have := ep_cmay s q true
      rw [show (!true) = false from rfl, Bool.false_and, Bool.or_false] at this
      exact this
    cases hw : ep_wrt q with
    | false =>
      refine er_id hR (-1) (fun m0 => ?_) (fun c0 => ?_)
      · show eF_11_setControl _ p q r = _
        unfold eF_11_setControl
        rw [er_ch, ep_sb, ep_J, y, if_neg ep_bt, cm, ep_sb, hw, if_pos ep_bf]
      · show eF_12_setControl _ p q r = _
        unfold eF_12_setControl
        rw [er_mh, ep_sb, ep_J, y, if_neg ep_bt, ep_misR, ep_sb]
        cases hi : ep_isR q with
        | false => rw [if_pos ep_bf]
        | true =>
          rw [if_neg ep_bt]
          by_cases y1 : q = 3073
          · rw [if_pos y1]
          · rw [if_neg y1]
            by_cases y2 : q = 3860
            · rw [if_pos y2]
            · unfold ep_isR at hi
              rw [hw, decide_eq_false y1, decide_eq_false y2] at hi
              exact absurd hi (by decide)
    | true =>
      obtain ⟨h, hh, rfl⟩ := ep_in_of y (by decide)
      obtain ⟨c', m', h1, h2, h3⟩ := ep_writeR hR hh hw r
      have hi : ep_isR q = true := by unfold ep_isR; rw [hw]; rfl
      refine ⟨0, c', m', fun m0 => ?_, fun c0 => ?_, h3.2.2⟩
      · show eF_11_setControl _ (nI h) q r = _
        unfold eF_11_setControl
        rw [er_ch, ep_sb, ep_J, y, if_neg ep_bt, cm, ep_sb, hw, if_neg ep_bt, if_pos rfl, h1, ep_sb]
      · show eF_12_setControl _ (nI h) q r = _
        unfold eF_12_setControl
        rw [er_mh, ep_sb, ep_J, y, if_neg ep_bt, ep_misR, ep_sb, hi, if_neg ep_bt, if_neg (by rcases ep_wrt_cases hw with rfl | rfl | rfl | rfl | rfl | rfl | rfl | rfl | rfl | rfl <;> decide), if_neg (by rcases ep_wrt_cases hw with rfl | rfl | rfl | rfl | rfl | rfl | rfl | rfl | rfl | rfl <;> decide), h2, ep_sb]
  · refine er_id hR (-1) (fun m0 => ?_) (fun c0 => ?_)
    · show eF_11_setControl _ p q r = _
      unfold eF_11_setControl
      rw [er_ch, ep_sb, ep_J, er_hart y, if_pos ep_bf]
    · show eF_12_setControl _ p q r = _
      unfold eF_12_setControl
      rw [er_mh, ep_sb, ep_J, er_hart y, if_pos ep_bf]
theorem er_control {N : Nat} {c : ep_C} {m : ep_M} (hR : ep_R N c m) (p q : Int32) : er_O c m (fun s => eF_11_control s p q) (fun s => eF_12_control_2 s p q) := by
  by_cases y : eh_in p 2 = true
  · obtain ⟨h, hh, rfl⟩ := ep_in_of y (by decide)
    cases hi : ep_isR q with
    | true =>
      obtain ⟨r, h1, h2⟩ := ep_readR hR hh hi
      refine ⟨r, fun m0 => ?_, fun c0 => ?_⟩
      · show eF_11_control _ (nI h) q = _
        unfold eF_11_control
        rw [er_ch, ep_sb, ep_J, y, if_neg ep_bt, if_pos rfl, h1, ep_sb]
      · show eF_12_control_2 _ (nI h) q = _
        unfold eF_12_control_2
        rw [er_mh, ep_sb, ep_J, ep_J, y, if_neg ep_bt, ep_misR, ep_sb, hi, if_neg ep_bt, h2, ep_sb]
    | false =>
      refine ⟨0, fun m0 => ?_, fun c0 => ?_⟩
      · show eF_11_control _ (nI h) q = _
        unfold eF_11_control
        have hn : ∀ k, ep_isR k = true → ¬ q = k := fun k hk z => by rw [z, hk] at hi; exact absurd hi (by decide)
        have : eF_4_readControl (ep_mk c m0) (eh_hp (nI h)) q = some 0 := by
          unfold eF_4_readControl
          rw [if_neg (hn 256 (by decide)), if_neg (hn 260 (by decide)), if_neg (hn 261 (by decide)), if_neg (hn 320 (by decide)), if_neg (hn 321 (by decide)), if_neg (hn 322 (by decide)), if_neg (hn 323 (by decide)), if_neg (hn 324 (by decide)), if_neg (hn 333 (by decide)), if_neg (hn 384 (by decide)), if_neg (hn 3073 (by decide)), if_neg (hn 3860 (by decide))]
        rw [er_ch, ep_sb, ep_J, y, if_neg ep_bt, if_pos rfl, this, ep_sb]
      · show eF_12_control_2 _ (nI h) q = _
        unfold eF_12_control_2
        rw [er_mh, ep_sb, ep_J, ep_J, y, if_neg ep_bt, ep_misR, ep_sb, hi, if_pos ep_bf]
  · refine ⟨0, fun m0 => ?_, fun c0 => ?_⟩
    · show eF_11_control _ p q = _
      unfold eF_11_control
      rw [er_ch, ep_sb, ep_J, er_hart y, if_pos ep_bf]
    · show eF_12_control_2 _ p q = _
      unfold eF_12_control_2
      rw [er_mh, ep_sb, ep_J, ep_J, er_hart y, if_pos ep_bf]
theorem er_call (N : Nat) (hN : N + 600 < 2 ^ 28) (p f q r u v : Int32) : er_P N 264 (fun s => eF_11_call s p f q r u v) (fun s => eF_12_call s p f q r u v) := by
  intro c m hR
  have ho := er_off hR
  by_cases y : eh_in p 2 = true
  · obtain ⟨h, hh, rfl⟩ := ep_in_of y (by decide)
    have x2 : eh_ix (nI h) = h := ep_ix (by omega)
    have g5 : c.2.1 0 h 5 = m.1 144 h := (hR.2.2.2.2.2.2.2.1 h hh).2.2.2.2.1
    by_cases hz : ¬ (m.1 127 21 = 0 ∧ m.1 144 h = -1)
    · refine er_id hR (-1) (fun m0 => ?_) (fun c0 => ?_)
      · show eF_11_call _ (nI h) f q r u v = _
        unfold eF_11_call
        rw [ep_J, ep_rC1 _ _ 1 (by decide), ho]
        by_cases z1 : m.1 127 21 = 0
        · rw [if_pos z1, er_ch, ep_sb, y, if_neg ep_bt, if_pos rfl, ep_rH0 _ _ hh, g5, if_neg (fun z => hz ⟨z1, z⟩)]
        · rw [if_neg z1]
      · show eF_12_call _ (nI h) f q r u v = _
        unfold eF_12_call
        rw [er_mh, ep_sb, ep_J, ep_J, y, if_neg ep_bt, if_pos rfl, ep_rM _ _ 144 (by decide), x2]
        by_cases z1 : m.1 144 h = -1
        · rw [if_pos z1, ep_rM _ _ 127 (by decide), if_neg (fun z => hz ⟨z, z1⟩)]
        · rw [if_neg z1]
    obtain ⟨z1, z2⟩ := Decidable.not_not.mp hz
    obtain ⟨a, c', m', h1, h2, h3, -⟩ := ep_serve_ hR hN hh z2 f q r u v
    refine ⟨a, c', m', fun m0 => ?_, fun c0 => ?_, h3⟩
    · show eF_11_call _ (nI h) f q r u v = _
      unfold eF_11_call
      rw [ep_J, ep_rC1 _ _ 1 (by decide), ho, if_pos z1, er_ch, ep_sb, y, if_neg ep_bt, if_pos rfl, ep_rH0 _ _ hh, g5, if_pos z2, if_pos rfl, h1, ep_sb]
    · show eF_12_call _ (nI h) f q r u v = _
      unfold eF_12_call
      rw [er_mh, ep_sb, ep_J, ep_J, y, if_neg ep_bt, if_pos rfl, ep_rM _ _ 144 (by decide), x2, if_pos z2, ep_rM _ _ 127 (by decide), if_pos z1, h2, ep_sb]
  · refine er_id hR (-1) (fun m0 => ?_) (fun c0 => ?_)
    · show eF_11_call _ p f q r u v = _
      unfold eF_11_call
      rw [ep_J, er_ch, ep_sb, er_hart y, if_pos ep_bf]
      by_cases z : (ep_mk c m0).1 1 10 = 0
      · rw [if_pos z]
      · rw [if_neg z]
    · show eF_12_call _ p f q r u v = _
      unfold eF_12_call
      rw [er_mh, ep_sb, ep_J, ep_J, er_hart y, if_pos ep_bf]
theorem er_add (c : ep_C) (m0 : ep_M) {th n : Nat} (hth : th = 20 ∨ th = 22) (hn : n ≤ 16) (h1 : c.1 th 1 = nI n) (p : Int32) : eF_8_add (ep_mk c m0) th p = if n = 16 then some (0, ep_mk c m0) else some (1, ep_mk (ep_cI (ep_cI c (th + 1) n p) th 1 (nI (n + 1))) m0) := by
  have hrn : eh_rn th = 16 := by rcases hth with rfl | rfl <;> rfl
  have r1 : (ep_mk c m0).1 th 1 = nI n := by rw [ep_rC1 _ _ _ (by omega)]; exact h1
  unfold eF_8_add
  rw [ep_J, r1, if_neg (nI_pos (by omega)), hrn]
  by_cases y : n = 16
  · rw [if_pos y, if_neg (show ¬ nI n < Int32.ofNat 16 from nI_nlt (b := 16) (by omega) (by omega))]
  · rw [if_neg y, if_pos (show nI n < Int32.ofNat 16 from nI_lt (b := 16) (by omega) (by decide)), if_pos (ep_in (by omega) (by decide)), ep_V, ep_ix (by omega), ep_iC1 _ _ _ _ _ (by omega), ep_V, ep_rC1 _ _ _ (by omega), ep_cIn _ _ _ _ _ (by omega), h1, nI_1, ep_iC1 _ _ _ _ _ (by omega)]
theorem er_type (N : Nat) (p : Int32) : er_P N 0 (fun s => eF_11_type s p) (fun s => eF_12_type s p) := by
  intro c m hR
  by_cases hp : ¬ (¬ p < 0 ∧ ¬ 255 < p)
  · refine er_id hR (-1) (fun m0 => ?_) (fun c0 => ?_)
    · show eF_11_type _ p = _
      unfold eF_11_type
      rw [ep_J]
      by_cases y1 : p < 0
      · rw [if_pos y1]
      · rw [if_neg y1, if_pos (Decidable.byContradiction fun z => hp ⟨y1, z⟩)]
    · show eF_12_type _ p = _
      unfold eF_12_type
      rw [ep_J]
      by_cases y1 : p < 0
      · rw [if_pos y1]
      · rw [if_neg y1, if_pos (Decidable.byContradiction fun z => hp ⟨y1, z⟩)]
  obtain ⟨p0, p1⟩ := Decidable.not_not.mp hp
  have d14 : c.1 12 14 = m.1 127 67 := hR.2.2.2.2.2.2.2.2.2.2.2.2.2.2.2.2.2.2.2.2.2.2.2.2.2.2.2.2.1.2.2.2.2.2.2.2.2.1
  have e16 : ∀ n, n ≤ 16 → (nI n = 16 ↔ n = 16) := fun n hn => nI_eq (b := 16) (by omega) (by decide)
  by_cases hk : m.1 127 67 = -1
  · obtain ⟨g1, g2, n, hn, g4⟩ := hR.2.2.2.2.2.2.2.2.2.2.2.2.2.2.2.2.2.2.2.2.2.2.2.2.2.2.2.2.2.2.2.1
    have g5 : c.1 20 1 = nI n := g2.trans g4
    have ha := fun m0 => er_add c m0 (th := 20) (Or.inl rfl) hn g5 p
    by_cases y : n = 16
    · refine er_id hR (-1) (fun m0 => ?_) (fun c0 => ?_)
      · show eF_11_type _ p = _
        unfold eF_11_type
        rw [ep_J, if_neg p0, if_neg p1, ep_J, ep_rC1 _ _ 12 (by decide), d14, if_pos hk]
        dsimp only
        rw [ep_J, if_pos rfl]
        dsimp only
        rw [ha m0, if_pos y, ep_sb, if_pos rfl]
      · show eF_12_type _ p = _
        unfold eF_12_type
        rw [ep_J, if_neg p0, if_neg p1, ep_rM _ _ 127 (by decide), if_pos hk, g4, if_pos ((e16 n hn).mpr y)]
    · refine ⟨0, ep_cI (ep_cI c 21 n p) 20 1 (nI (n + 1)), ep_mI (ep_mI m 180 n p) 127 62 (nI (n + 1)), fun m0 => ?_, fun c0 => ?_, ⟨hR.1, hR.2.1, hR.2.2.1, hR.2.2.2.1, hR.2.2.2.2.1, hR.2.2.2.2.2.1, hR.2.2.2.2.2.2.1, hR.2.2.2.2.2.2.2.1, hR.2.2.2.2.2.2.2.2.1, hR.2.2.2.2.2.2.2.2.2.1, hR.2.2.2.2.2.2.2.2.2.2.1, hR.2.2.2.2.2.2.2.2.2.2.2.1, hR.2.2.2.2.2.2.2.2.2.2.2.2.1, hR.2.2.2.2.2.2.2.2.2.2.2.2.2.1, hR.2.2.2.2.2.2.2.2.2.2.2.2.2.2.1, hR.2.2.2.2.2.2.2.2.2.2.2.2.2.2.2.1, hR.2.2.2.2.2.2.2.2.2.2.2.2.2.2.2.2.1, hR.2.2.2.2.2.2.2.2.2.2.2.2.2.2.2.2.2.1, hR.2.2.2.2.2.2.2.2.2.2.2.2.2.2.2.2.2.2.1, hR.2.2.2.2.2.2.2.2.2.2.2.2.2.2.2.2.2.2.2.1, hR.2.2.2.2.2.2.2.2.2.2.2.2.2.2.2.2.2.2.2.2.1, hR.2.2.2.2.2.2.2.2.2.2.2.2.2.2.2.2.2.2.2.2.2.1, hR.2.2.2.2.2.2.2.2.2.2.2.2.2.2.2.2.2.2.2.2.2.2.1, hR.2.2.2.2.2.2.2.2.2.2.2.2.2.2.2.2.2.2.2.2.2.2.2.1, hR.2.2.2.2.2.2.2.2.2.2.2.2.2.2.2.2.2.2.2.2.2.2.2.2.1, hR.2.2.2.2.2.2.2.2.2.2.2.2.2.2.2.2.2.2.2.2.2.2.2.2.2.1, hR.2.2.2.2.2.2.2.2.2.2.2.2.2.2.2.2.2.2.2.2.2.2.2.2.2.2.1, hR.2.2.2.2.2.2.2.2.2.2.2.2.2.2.2.2.2.2.2.2.2.2.2.2.2.2.2.1, hR.2.2.2.2.2.2.2.2.2.2.2.2.2.2.2.2.2.2.2.2.2.2.2.2.2.2.2.2.1, hR.2.2.2.2.2.2.2.2.2.2.2.2.2.2.2.2.2.2.2.2.2.2.2.2.2.2.2.2.2.1, hR.2.2.2.2.2.2.2.2.2.2.2.2.2.2.2.2.2.2.2.2.2.2.2.2.2.2.2.2.2.2.1, ⟨?_, rfl, n + 1, by omega, rfl⟩, hR.2.2.2.2.2.2.2.2.2.2.2.2.2.2.2.2.2.2.2.2.2.2.2.2.2.2.2.2.2.2.2.2.1, hR.2.2.2.2.2.2.2.2.2.2.2.2.2.2.2.2.2.2.2.2.2.2.2.2.2.2.2.2.2.2.2.2.2⟩⟩
      · show eF_11_type _ p = _
        unfold eF_11_type
        rw [ep_J, if_neg p0, if_neg p1, ep_J, ep_rC1 _ _ 12 (by decide), d14, if_pos hk]
        dsimp only
        rw [ep_J, if_pos rfl]
        dsimp only
        rw [ha m0, if_neg y, ep_sb, if_neg (show ¬ (1 : Int32) = 0 by decide), ep_J, if_pos rfl]
      · show eF_12_type _ p = _
        unfold eF_12_type
        rw [ep_J, if_neg p0, if_neg p1, ep_rM _ _ 127 (by decide), if_pos hk, g4, if_neg (fun z => y ((e16 n hn).mp z)), if_pos (ep_in (by omega) (by decide)), ep_V, ep_ix (by omega), ep_iM _ _ _ _ _ (by decide), ep_V, ep_rM _ _ 127 (by decide), ep_mIn _ _ _ _ _ (by decide), g4, nI_1, ep_iM _ _ _ _ _ (by decide)]
      · show upd (c.1 21) n p = upd (m.1 180) n p
        rw [g1]
  · obtain ⟨g1, g2, n, hn, g4⟩ := hR.2.2.2.2.2.2.2.2.2.2.2.2.2.2.2.2.2.2.2.2.2.2.2.2.2.2.2.2.2.2.2.2.1
    have g5 : c.1 22 1 = nI n := g2.trans g4
    have ha := fun m0 => er_add c m0 (th := 22) (Or.inr rfl) hn g5 p
    by_cases y : n = 16
    · refine er_id hR (-1) (fun m0 => ?_) (fun c0 => ?_)
      · show eF_11_type _ p = _
        unfold eF_11_type
        rw [ep_J, if_neg p0, if_neg p1, ep_J, ep_rC1 _ _ 12 (by decide), d14, if_neg hk]
        dsimp only
        rw [ep_J, if_neg (show ¬ (1 : Int32) = 0 by decide)]
        dsimp only
        rw [ha m0, if_pos y, ep_sb, if_pos rfl]
      · show eF_12_type _ p = _
        unfold eF_12_type
        rw [ep_J, if_neg p0, if_neg p1, ep_rM _ _ 127 (by decide), if_neg hk, g4, if_pos ((e16 n hn).mpr y)]
    · refine ⟨1, ep_cI (ep_cI c 23 n p) 22 1 (nI (n + 1)), ep_mI (ep_mI m 181 n p) 127 64 (nI (n + 1)), fun m0 => ?_, fun c0 => ?_, ⟨hR.1, hR.2.1, hR.2.2.1, hR.2.2.2.1, hR.2.2.2.2.1, hR.2.2.2.2.2.1, hR.2.2.2.2.2.2.1, hR.2.2.2.2.2.2.2.1, hR.2.2.2.2.2.2.2.2.1, hR.2.2.2.2.2.2.2.2.2.1, hR.2.2.2.2.2.2.2.2.2.2.1, hR.2.2.2.2.2.2.2.2.2.2.2.1, hR.2.2.2.2.2.2.2.2.2.2.2.2.1, hR.2.2.2.2.2.2.2.2.2.2.2.2.2.1, hR.2.2.2.2.2.2.2.2.2.2.2.2.2.2.1, hR.2.2.2.2.2.2.2.2.2.2.2.2.2.2.2.1, hR.2.2.2.2.2.2.2.2.2.2.2.2.2.2.2.2.1, hR.2.2.2.2.2.2.2.2.2.2.2.2.2.2.2.2.2.1, hR.2.2.2.2.2.2.2.2.2.2.2.2.2.2.2.2.2.2.1, hR.2.2.2.2.2.2.2.2.2.2.2.2.2.2.2.2.2.2.2.1, hR.2.2.2.2.2.2.2.2.2.2.2.2.2.2.2.2.2.2.2.2.1, hR.2.2.2.2.2.2.2.2.2.2.2.2.2.2.2.2.2.2.2.2.2.1, hR.2.2.2.2.2.2.2.2.2.2.2.2.2.2.2.2.2.2.2.2.2.2.1, hR.2.2.2.2.2.2.2.2.2.2.2.2.2.2.2.2.2.2.2.2.2.2.2.1, hR.2.2.2.2.2.2.2.2.2.2.2.2.2.2.2.2.2.2.2.2.2.2.2.2.1, hR.2.2.2.2.2.2.2.2.2.2.2.2.2.2.2.2.2.2.2.2.2.2.2.2.2.1, hR.2.2.2.2.2.2.2.2.2.2.2.2.2.2.2.2.2.2.2.2.2.2.2.2.2.2.1, hR.2.2.2.2.2.2.2.2.2.2.2.2.2.2.2.2.2.2.2.2.2.2.2.2.2.2.2.1, hR.2.2.2.2.2.2.2.2.2.2.2.2.2.2.2.2.2.2.2.2.2.2.2.2.2.2.2.2.1, hR.2.2.2.2.2.2.2.2.2.2.2.2.2.2.2.2.2.2.2.2.2.2.2.2.2.2.2.2.2.1, hR.2.2.2.2.2.2.2.2.2.2.2.2.2.2.2.2.2.2.2.2.2.2.2.2.2.2.2.2.2.2.1, hR.2.2.2.2.2.2.2.2.2.2.2.2.2.2.2.2.2.2.2.2.2.2.2.2.2.2.2.2.2.2.2.1, ⟨?_, rfl, n + 1, by omega, rfl⟩, hR.2.2.2.2.2.2.2.2.2.2.2.2.2.2.2.2.2.2.2.2.2.2.2.2.2.2.2.2.2.2.2.2.2⟩⟩
      · show eF_11_type _ p = _
        unfold eF_11_type
        rw [ep_J, if_neg p0, if_neg p1, ep_J, ep_rC1 _ _ 12 (by decide), d14, if_neg hk]
        dsimp only
        rw [ep_J, if_neg (show ¬ (1 : Int32) = 0 by decide)]
        dsimp only
        rw [ha m0, if_neg y, ep_sb, if_neg (show ¬ (1 : Int32) = 0 by decide), ep_J, if_neg (show ¬ (1 : Int32) = 0 by decide)]
      · show eF_12_type _ p = _
        unfold eF_12_type
        rw [ep_J, if_neg p0, if_neg p1, ep_rM _ _ 127 (by decide), if_neg hk, g4, if_neg (fun z => y ((e16 n hn).mp z)), if_pos (ep_in (by omega) (by decide)), ep_V, ep_ix (by omega), ep_iM _ _ _ _ _ (by decide), ep_V, ep_rM _ _ 127 (by decide), ep_mIn _ _ _ _ _ (by decide), g4, nI_1, ep_iM _ _ _ _ _ (by decide)]
      · show upd (c.1 23) n p = upd (m.1 181) n p
        rw [g1]
theorem er_at {c : ep_C} {m : ep_M} {th room mz mt : Nat} (hth : th < 40) (hrn : eh_rn th = room) (hroom : room < 2000) (hmt : 127 ≤ mt) (hG : ep_Grb room (c.1 th 1) (c.1 (th + 1)) (m.1 127 mz) (m.1 mt)) (p : Int32) : er_O c m (fun s => Option.bind (eF_8_at s th p) (fun q1 => some q1)) (fun s => eh_J (fun (a2 : Int32) => some a2) (fun j1 => eh_J (fun (u4 : Unit) => j1 (-1)) (fun j3 => if p < 0 then (j3 ()) else (if p < (s.1 127 mz) then (if eh_in p room then j1 ((s.1 mt (eh_ix p)) &&& 255) else none) else (j3 ()))))) := by
  obtain ⟨g1, g2, n, hn, g4⟩ := hG
  by_cases hp : ¬ (¬ p < 0 ∧ p < nI n)
  · refine ⟨-1, fun m0 => ?_, fun c0 => ?_⟩
    · show Option.bind (eF_8_at (ep_mk c m0) th p) _ = _
      unfold eF_8_at
      rw [ep_J, ep_J, ep_rC1 _ _ th (by omega), g2, g4]
      by_cases y1 : p < 0
      · rw [if_pos y1, ep_sb]
      · rw [if_neg y1, if_neg (fun z => hp ⟨y1, z⟩), ep_sb]
    · show eh_J _ _ = _
      rw [ep_J, ep_J, ep_rM _ _ 127 (by decide), g4]
      by_cases y1 : p < 0
      · rw [if_pos y1]
      · rw [if_neg y1, if_neg (fun z => hp ⟨y1, z⟩)]
  obtain ⟨p0, p1⟩ := Decidable.not_not.mp hp
  obtain ⟨k, hk, rfl⟩ := nI_of p0
  have hkn : k < n := (nI_ltI hk (by omega)).mp p1
  have ir : eh_in (nI k) room = true := ep_in (by omega) (by omega)
  refine ⟨m.1 mt k &&& 255, fun m0 => ?_, fun c0 => ?_⟩
  · show Option.bind (eF_8_at (ep_mk c m0) th (nI k)) _ = _
    unfold eF_8_at
    rw [ep_J, ep_J, ep_rC1 _ _ th (by omega), g2, g4, if_neg p0, if_pos p1, hrn, if_pos (show nI k < Int32.ofNat room from nI_lt (by omega) (by omega)), if_pos ir, ep_rC1 _ _ (th + 1) (by omega), g1, ep_ix (by omega), ep_sb]
  · show eh_J _ _ = _
    rw [ep_J, ep_J, ep_rM _ _ 127 (by decide), g4, if_neg p0, if_pos p1, if_pos ir, ep_rM _ _ mt hmt, ep_ix (by omega)]
theorem er_panel {N : Nat} {c : ep_C} {m : ep_M} (hR : ep_R N c m) (p : Int32) : er_O c m (fun s => eF_11_panel s p) (fun s => eF_12_panel s p) :=
  er_at (th := 24) (room := 64) (by decide) rfl (by decide) (by decide) hR.2.2.2.2.2.2.2.2.2.2.2.2.2.2.2.2.2.2.2.2.2.2.2.2.2.2.2.2.2.2.2.2.2 p
theorem er_console {N : Nat} {c : ep_C} {m : ep_M} (hR : ep_R N c m) (p : Int32) : er_O c m (fun s => eF_11_console s p) (fun s => eF_12_console s p) :=
  er_at (th := 18) (room := 1024) (by decide) rfl (by decide) (by decide) hR.2.2.2.2.2.2.2.2.2.2.2.2.2.2.2.2.2.2.2.2.2.2.2.2.2.2.2.2.2.2.1 p
theorem er_line (N : Nat) {p : Int32} (hp : p = 0 ∨ p = 1) : er_P N 0 (fun s => eF_11_line s p) (fun s => eF_12_line s p) := by
  intro c m hR
  obtain ⟨d0, d1, d2, d3, d4, d5⟩ := hR.2.2.2.2.2.2.2.2.2.2.2.2.2.2.2.2.2.2.2.2.2.2.2.2.2.2.2.2.1
  have d4' : m.1 127 22 = 0 ∨ m.1 127 22 = 1 := by rw [← d3]; exact d4
  refine ⟨m.1 127 22, ep_cI c 12 1 p, ep_mI m 127 22 p, fun m0 => ?_, fun c0 => ?_, ⟨hR.1, hR.2.1, hR.2.2.1, hR.2.2.2.1, hR.2.2.2.2.1, hR.2.2.2.2.2.1, hR.2.2.2.2.2.2.1, hR.2.2.2.2.2.2.2.1, hR.2.2.2.2.2.2.2.2.1, hR.2.2.2.2.2.2.2.2.2.1, hR.2.2.2.2.2.2.2.2.2.2.1, hR.2.2.2.2.2.2.2.2.2.2.2.1, hR.2.2.2.2.2.2.2.2.2.2.2.2.1, hR.2.2.2.2.2.2.2.2.2.2.2.2.2.1, hR.2.2.2.2.2.2.2.2.2.2.2.2.2.2.1, hR.2.2.2.2.2.2.2.2.2.2.2.2.2.2.2.1, hR.2.2.2.2.2.2.2.2.2.2.2.2.2.2.2.2.1, hR.2.2.2.2.2.2.2.2.2.2.2.2.2.2.2.2.2.1, hR.2.2.2.2.2.2.2.2.2.2.2.2.2.2.2.2.2.2.1, hR.2.2.2.2.2.2.2.2.2.2.2.2.2.2.2.2.2.2.2.1, hR.2.2.2.2.2.2.2.2.2.2.2.2.2.2.2.2.2.2.2.2.1, hR.2.2.2.2.2.2.2.2.2.2.2.2.2.2.2.2.2.2.2.2.2.1, hR.2.2.2.2.2.2.2.2.2.2.2.2.2.2.2.2.2.2.2.2.2.2.1, hR.2.2.2.2.2.2.2.2.2.2.2.2.2.2.2.2.2.2.2.2.2.2.2.1, hR.2.2.2.2.2.2.2.2.2.2.2.2.2.2.2.2.2.2.2.2.2.2.2.2.1, hR.2.2.2.2.2.2.2.2.2.2.2.2.2.2.2.2.2.2.2.2.2.2.2.2.2.1, hR.2.2.2.2.2.2.2.2.2.2.2.2.2.2.2.2.2.2.2.2.2.2.2.2.2.2.1, hR.2.2.2.2.2.2.2.2.2.2.2.2.2.2.2.2.2.2.2.2.2.2.2.2.2.2.2.1, ⟨d0, d1, d2, rfl, hp, d5⟩, hR.2.2.2.2.2.2.2.2.2.2.2.2.2.2.2.2.2.2.2.2.2.2.2.2.2.2.2.2.2.1, hR.2.2.2.2.2.2.2.2.2.2.2.2.2.2.2.2.2.2.2.2.2.2.2.2.2.2.2.2.2.2.1, hR.2.2.2.2.2.2.2.2.2.2.2.2.2.2.2.2.2.2.2.2.2.2.2.2.2.2.2.2.2.2.2.1, hR.2.2.2.2.2.2.2.2.2.2.2.2.2.2.2.2.2.2.2.2.2.2.2.2.2.2.2.2.2.2.2.2.1, hR.2.2.2.2.2.2.2.2.2.2.2.2.2.2.2.2.2.2.2.2.2.2.2.2.2.2.2.2.2.2.2.2.2⟩⟩
  · show eF_11_line _ p = _
    unfold eF_11_line
    rw [ep_V, if_pos hp, ep_V, ep_rC1 _ _ 12 (by decide), d3, if_pos d4', ep_iC1 _ _ _ _ _ (by decide)]
  · show eF_12_line _ p = _
    unfold eF_12_line
    rw [ep_V, if_pos hp, ep_V, ep_rM _ _ 127 (by decide), if_pos d4', ep_iM _ _ _ _ _ (by decide)]
