/-! memory shared, offered, joined -/
theorem ep_bt : ¬ (ep_bi true = 0) := by decide
theorem ep_bf : ep_bi false = 0 := by decide
theorem ep_share_ {N : Nat} {c : ep_C} {m : ep_M} (hR : ep_R N c m) (p q r : Int32) : ep_Cp N c m (fun s => eF_10_share s p q r) (fun s => eF_12_share s 9 p q r) := by
  cases hb : ep_inb p 6 (m.1 155) with
  | false =>
    refine ep_Cp_id hR (-1) (fun m0 => ?_) (fun c0 => ?_)
    · show eF_10_share (ep_mk c m0) p q r = _
      unfold eF_10_share
      rw [ep_chasE hR, ep_sb, hb, ep_J, if_pos ep_bf]
    · show eF_12_share (ep_mk c0 m) 9 p q r = _
      unfold eF_12_share
      rw [ep_misE, ep_sb, hb, ep_J, if_pos ep_bf]
  | true =>
    cases hs : ep_spb q r with
    | false =>
      refine ep_Cp_id hR (-1) (fun m0 => ?_) (fun c0 => ?_)
      · show eF_10_share (ep_mk c m0) p q r = _
        unfold eF_10_share
        rw [ep_chasE hR, ep_sb, hb, ep_J, if_neg ep_bt, ep_cspan, ep_sb, hs, if_pos ep_bf]
      · show eF_12_share (ep_mk c0 m) 9 p q r = _
        unfold eF_12_share
        rw [ep_misE, ep_sb, hb, ep_J, if_neg ep_bt, ep_mspan, ep_sb, hs, if_pos ep_bf]
    | true =>
      obtain ⟨e, he, rfl, hE⟩ := ep_inb_t (by decide) hb
      obtain ⟨b, n, n0, -, bn, rfl, rfl⟩ := ep_spb_of hs
      have i6 : eh_in (nI e) 6 = true := ep_in he (by decide)
      have x6 : eh_ix (nI e) = e := ep_ix (by omega)
      have ge := (hR.2.2.2.2.2.2.2.2.2.2.2.2.2.2.2.2.1 e he).1
      by_cases h3 : m.1 155 e = 3
      · refine ep_Cp_id hR (-2) (fun m0 => ?_) (fun c0 => ?_)
        · show eF_10_share (ep_mk c m0) _ _ _ = _
          unfold eF_10_share
          rw [ep_chasE hR, ep_sb, hb, ep_J, if_neg ep_bt, ep_cspan, ep_sb, hs, if_neg ep_bt, if_pos i6, ep_rE0 _ _ he, ge, if_pos h3]
        · show eF_12_share (ep_mk c0 m) 9 _ _ _ = _
          unfold eF_12_share
          rw [ep_misE, ep_sb, hb, ep_J, if_neg ep_bt, ep_mspan, ep_sb, hs, if_neg ep_bt, ep_J, ep_J, if_pos rfl, if_pos i6, x6, ep_rM _ _ _ (by decide), if_pos h3]
      · obtain ⟨v, c', m', a1, a2, a3, a4⟩ := ep_giveRegion hR (s := 2) (t := -1) n0 bn (Or.inl rfl) he hE ⟨fun z => absurd z (by decide), fun _ => rfl⟩
        refine ⟨v, c', m', fun m0 => ?_, fun c0 => ?_, a3, a4⟩
        · show eF_10_share (ep_mk c m0) _ _ _ = _
          unfold eF_10_share
          rw [ep_chasE hR, ep_sb, hb, ep_J, if_neg ep_bt, ep_cspan, ep_sb, hs, if_neg ep_bt, if_pos i6, ep_rE0 _ _ he, ge, if_neg h3]
          exact ep_bnd (a1 m0) rfl
        · show eF_12_share (ep_mk c0 m) 9 _ _ _ = _
          unfold eF_12_share
          rw [ep_misE, ep_sb, hb, ep_J, if_neg ep_bt, ep_mspan, ep_sb, hs, if_neg ep_bt, ep_J, ep_J, if_pos rfl, if_pos i6, x6, ep_rM _ _ _ (by decide), if_neg h3]
          exact a2 c0
theorem ep_offer_ {N : Nat} {c : ep_C} {m : ep_M} (hR : ep_R N c m) {f : Int32} (hf : ¬ f = 9) (p q r : Int32) : ep_Cp N c m (fun s => eF_10_offer s p q r) (fun s => eF_12_share s f p q r) := by
  cases hb : ep_inb p 6 (m.1 155) with
  | false =>
    refine ep_Cp_id hR (-1) (fun m0 => ?_) (fun c0 => ?_)
    · show eF_10_offer (ep_mk c m0) p q r = _
      unfold eF_10_offer
      rw [ep_chasE hR, ep_sb, hb, ep_J, if_pos ep_bf]
    · show eF_12_share (ep_mk c0 m) f p q r = _
      unfold eF_12_share
      rw [ep_misE, ep_sb, hb, ep_J, if_pos ep_bf]
  | true =>
    cases hs : ep_spb q r with
    | false =>
      refine ep_Cp_id hR (-1) (fun m0 => ?_) (fun c0 => ?_)
      · show eF_10_offer (ep_mk c m0) p q r = _
        unfold eF_10_offer
        rw [ep_chasE hR, ep_sb, hb, ep_J, if_neg ep_bt, ep_cspan, ep_sb, hs, if_pos ep_bf]
      · show eF_12_share (ep_mk c0 m) f p q r = _
        unfold eF_12_share
        rw [ep_misE, ep_sb, hb, ep_J, if_neg ep_bt, ep_mspan, ep_sb, hs, if_pos ep_bf]
    | true =>
      obtain ⟨e, he, rfl, hE⟩ := ep_inb_t (by decide) hb
      obtain ⟨b, n, n0, -, bn, rfl, rfl⟩ := ep_spb_of hs
      have i6 : eh_in (nI e) 6 = true := ep_in he (by decide)
      have x6 : eh_ix (nI e) = e := ep_ix (by omega)
      have ge := (hR.2.2.2.2.2.2.2.2.2.2.2.2.2.2.2.2.1 e he).1
      by_cases h3 : m.1 155 e = 2
      · obtain ⟨v, c', m', a1, a2, a3, a4⟩ := ep_giveRegion hR (s := 4) (t := -1) n0 bn (Or.inr (Or.inr rfl)) he hE ⟨fun z => absurd z (by decide), fun _ => rfl⟩
        refine ⟨v, c', m', fun m0 => ?_, fun c0 => ?_, a3, a4⟩
        · show eF_10_offer (ep_mk c m0) _ _ _ = _
          unfold eF_10_offer
          rw [ep_chasE hR, ep_sb, hb, ep_J, if_neg ep_bt, ep_cspan, ep_sb, hs, if_neg ep_bt, if_pos i6, ep_rE0 _ _ he, ge, if_pos h3]
          exact ep_bnd (a1 m0) rfl
        · show eF_12_share (ep_mk c0 m) f _ _ _ = _
          unfold eF_12_share
          rw [ep_misE, ep_sb, hb, ep_J, if_neg ep_bt, ep_mspan, ep_sb, hs, if_neg ep_bt, ep_J, ep_J, if_neg hf, if_pos i6, x6, ep_rM _ _ _ (by decide), if_pos h3]
          simp only [ep_J, if_neg hf]
          exact a2 c0
      · refine ep_Cp_id hR (-2) (fun m0 => ?_) (fun c0 => ?_)
        · show eF_10_offer (ep_mk c m0) _ _ _ = _
          unfold eF_10_offer
          rw [ep_chasE hR, ep_sb, hb, ep_J, if_neg ep_bt, ep_cspan, ep_sb, hs, if_neg ep_bt, if_pos i6, ep_rE0 _ _ he, ge, if_neg h3]
        · show eF_12_share (ep_mk c0 m) f _ _ _ = _
          unfold eF_12_share
          rw [ep_misE, ep_sb, hb, ep_J, if_neg ep_bt, ep_mspan, ep_sb, hs, if_neg ep_bt, ep_J, ep_J, if_neg hf, if_pos i6, x6, ep_rM _ _ _ (by decide), if_neg h3]
theorem ep_join_ {N : Nat} {c : ep_C} {m : ep_M} (hR : ep_R N c m) (p0 p q r : Int32) : ep_Cp N c m (fun s => eF_10_join s p0 p q r) (fun s => eF_12_link s p0 p q r) := by
  cases hb : ep_inb p0 6 (m.1 155) with
  | false =>
    refine ep_Cp_id hR (-1) (fun m0 => ?_) (fun c0 => ?_)
    · show eF_10_join (ep_mk c m0) p0 p q r = _
      unfold eF_10_join
      rw [ep_chasE hR, ep_sb, hb, ep_J, if_pos ep_bf]
    · show eF_12_link (ep_mk c0 m) p0 p q r = _
      unfold eF_12_link
      rw [ep_misE, ep_sb, hb, ep_J, if_pos ep_bf]
  | true =>
    cases hb' : ep_inb p 6 (m.1 155) with
    | false =>
      refine ep_Cp_id hR (-1) (fun m0 => ?_) (fun c0 => ?_)
      · show eF_10_join (ep_mk c m0) p0 p q r = _
        unfold eF_10_join
        rw [ep_chasE hR, ep_sb, hb, ep_J, if_neg ep_bt, ep_chasE hR, ep_sb, hb', if_pos ep_bf]
      · show eF_12_link (ep_mk c0 m) p0 p q r = _
        unfold eF_12_link
        rw [ep_misE, ep_sb, hb, ep_J, if_neg ep_bt, ep_misE, ep_sb, hb', if_pos ep_bf]
    | true =>
      by_cases hpp : p0 = p
      · refine ep_Cp_id hR (-1) (fun m0 => ?_) (fun c0 => ?_)
        · show eF_10_join (ep_mk c m0) p0 p q r = _
          unfold eF_10_join
          rw [ep_chasE hR, ep_sb, hb, ep_J, if_neg ep_bt, ep_chasE hR, ep_sb, hb', if_neg ep_bt, if_pos hpp]
        · show eF_12_link (ep_mk c0 m) p0 p q r = _
          unfold eF_12_link
          rw [ep_misE, ep_sb, hb, ep_J, if_neg ep_bt, ep_misE, ep_sb, hb', if_neg ep_bt, if_pos hpp]
      cases hs : ep_spb q r with
      | false =>
        refine ep_Cp_id hR (-1) (fun m0 => ?_) (fun c0 => ?_)
        · show eF_10_join (ep_mk c m0) p0 p q r = _
          unfold eF_10_join
          rw [ep_chasE hR, ep_sb, hb, ep_J, if_neg ep_bt, ep_chasE hR, ep_sb, hb', if_neg ep_bt, if_neg hpp, ep_cspan, ep_sb, hs, if_pos ep_bf]
        · show eF_12_link (ep_mk c0 m) p0 p q r = _
          unfold eF_12_link
          rw [ep_misE, ep_sb, hb, ep_J, if_neg ep_bt, ep_misE, ep_sb, hb', if_neg ep_bt, if_neg hpp, ep_mspan, ep_sb, hs, if_pos ep_bf]
      | true =>
        obtain ⟨e, he, rfl, hE⟩ := ep_inb_t (by decide) hb
        obtain ⟨f, hf, rfl, hF⟩ := ep_inb_t (by decide) hb'
        obtain ⟨b, n, n0, -, bn, rfl, rfl⟩ := ep_spb_of hs
        have i6 : eh_in (nI e) 6 = true := ep_in he (by decide)
        have x6 : eh_ix (nI e) = e := ep_ix (by omega)
        have j6 : eh_in (nI f) 6 = true := ep_in hf (by decide)
        have y6 : eh_ix (nI f) = f := ep_ix (by omega)
        have ge := (hR.2.2.2.2.2.2.2.2.2.2.2.2.2.2.2.2.1 e he).1
        have gf := (hR.2.2.2.2.2.2.2.2.2.2.2.2.2.2.2.2.1 f hf).1
        by_cases h3 : m.1 155 e = 3 ∨ m.1 155 f = 3
        · refine ep_Cp_id hR (-2) (fun m0 => ?_) (fun c0 => ?_)
          · show eF_10_join (ep_mk c m0) _ _ _ _ = _
            unfold eF_10_join
            rw [ep_chasE hR, ep_sb, hb, ep_J, if_neg ep_bt, ep_chasE hR, ep_sb, hb', if_neg ep_bt, if_neg hpp, ep_cspan, ep_sb, hs, if_neg ep_bt, if_pos i6, ep_J, ep_rE0 _ _ he, ge, if_pos j6, ep_rE0 _ _ hf, gf]
            by_cases y : m.1 155 e = 3
            · rw [if_pos y]
            · rw [if_neg y, if_pos (h3.resolve_left y)]
          · show eF_12_link (ep_mk c0 m) _ _ _ _ = _
            unfold eF_12_link
            rw [ep_misE, ep_sb, hb, ep_J, if_neg ep_bt, ep_misE, ep_sb, hb', if_neg ep_bt, if_neg hpp, ep_mspan, ep_sb, hs, if_neg ep_bt, if_pos i6, ep_J, x6, ep_rM _ _ 155 (by decide), if_pos j6, y6]
            by_cases y : m.1 155 e = 3
            · rw [if_pos y]
            · rw [if_neg y, if_pos (h3.resolve_left y)]
        · have h1 : ¬ m.1 155 e = 3 := fun z => h3 (Or.inl z)
          have h2 : ¬ m.1 155 f = 3 := fun z => h3 (Or.inr z)
          obtain ⟨v, c', m', a1, a2, a3, a4⟩ := ep_giveRegion hR (s := 3) (t := nI f) n0 bn (Or.inr (Or.inl rfl)) he hE ⟨fun _ => ⟨f, hf, rfl, hF, fun z => hpp z.symm⟩, fun z => absurd rfl z⟩
          refine ⟨v, c', m', fun m0 => ?_, fun c0 => ?_, a3, a4⟩
          · show eF_10_join (ep_mk c m0) _ _ _ _ = _
            unfold eF_10_join
            rw [ep_chasE hR, ep_sb, hb, ep_J, if_neg ep_bt, ep_chasE hR, ep_sb, hb', if_neg ep_bt, if_neg hpp, ep_cspan, ep_sb, hs, if_neg ep_bt, if_pos i6, ep_J, ep_rE0 _ _ he, ge, if_neg h1, if_pos j6, ep_rE0 _ _ hf, gf, if_neg h2]
            exact ep_bnd (a1 m0) rfl
          · show eF_12_link (ep_mk c0 m) _ _ _ _ = _
            unfold eF_12_link
            rw [ep_misE, ep_sb, hb, ep_J, if_neg ep_bt, ep_misE, ep_sb, hb', if_neg ep_bt, if_neg hpp, ep_mspan, ep_sb, hs, if_neg ep_bt, if_pos i6, ep_J, x6, ep_rM _ _ 155 (by decide), if_neg h1, if_pos j6, y6, if_neg h2]
            exact a2 c0
