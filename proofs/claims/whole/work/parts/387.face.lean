/-! the face: what is set and what is asked -/
def er_O (c : ep_C) (m : ep_M) (f g : eh_F → Option Int32) : Prop := ∃ r, (∀ m0, f (ep_mk c m0) = some r) ∧ (∀ c0, g (ep_mk c0 m) = some r)
theorem er_ch (s : eh_F) (p : Int32) : eF_11_isHart s p = some (ep_bi (eh_in p 2)) := by
  have hin := ep_inl (p := p) (n := 2) (by decide)
  unfold eF_11_isHart
  rw [ep_J, ep_J]
  by_cases y1 : p < 0
  · rw [if_pos y1, show eh_in p 2 = false from Bool.eq_false_iff.mpr (fun z => (hin.mp z).1 y1)]
    exact if_pos (Or.inl rfl)
  · rw [if_neg y1]
    by_cases y2 : p < 2
    · rw [if_pos y2, hin.mpr ⟨y1, y2⟩]
      exact if_pos (Or.inr rfl)
    · rw [if_neg y2, show eh_in p 2 = false from Bool.eq_false_iff.mpr (fun z => y2 (hin.mp z).2)]
      exact if_pos (Or.inl rfl)
theorem er_mh (s : eh_F) (p : Int32) : eF_12_isHart s p = some (ep_bi (eh_in p 2)) := by
  unfold eF_12_isHart
  rw [ep_J, ep_J]
  by_cases y1 : p = 0
  · rw [if_pos y1, y1]
    exact if_pos (Or.inr rfl)
  · rw [if_neg y1]
    by_cases y2 : p = 1
    · rw [if_pos y2, y2]
      exact if_pos (Or.inr rfl)
    · rw [if_neg y2, show eh_in p 2 = false from Bool.eq_false_iff.mpr (fun z => by
        obtain ⟨k, hk, e⟩ := ep_in_of z (by decide)
        have : k = 0 ∨ k = 1 := by omega
        rcases this with rfl | rfl
        · exact y1 e
        · exact y2 e)]
      exact if_pos (Or.inl rfl)
/-- both sides ask whether a number names a hart -/
theorem er_hart {p : Int32} (h : ¬ eh_in p 2 = true) : eh_in p 2 = false := Bool.eq_false_iff.mpr h
theorem er_careOpen0 {r : Int32} (h : r < 0 ∨ 131052 < r) (s : eh_F) : eF_6_areOpen s r 20 = some 0 := by
  unfold eF_6_areOpen
  rw [ep_J]
  by_cases y : r < 0
  · rw [if_pos y]
  · rw [if_neg y, if_pos (show (0 : Int32) < 20 by decide), if_pos]
    obtain ⟨k, hk, rfl⟩ := nI_of y
    have h2 : 131052 < k := (nI_ltI (a := 131052) (by decide) hk).mp (h.resolve_left y)
    rw [Int32.lt_iff_toInt_lt, Int32.toInt_sub, nI_toInt hk]
    have e1 : (131072 : Int32).toInt = 131072 := by decide
    have e2 : (20 : Int32).toInt = 20 := by decide
    rw [e1, e2, Int.bmod_def]
    split <;> omega
def er_pk (p1 p2 p3 p4 p5 : Int32) : Nat → Int32
  | 0 => p1
  | 1 => p2
  | 2 => p3
  | 3 => p4
  | _ => p5
theorem er_Gm_pk {w b : Nat → Int32} (h : ep_Gm w b) (x n : Nat) (v : Nat → Int32) : ep_Gm (ep_in_ w x n v) (ep_in_ b (4 * x) (4 * n) fun k => eh_nb (eh_nb (eh_shr (v (k / 4)) (nI (8 * (k % 4)))))) := by
  unfold ep_Gm at h ⊢
  subst h
  funext j
  by_cases z : x ≤ j ∧ j < x + n
  · refine ep_ext fun i hi => ?_
    rw [ep_bit_lw _ _ _ hi]
    unfold ep_in_
    rw [if_pos z, if_pos (by omega)]
    rw [ep_bit_nbnb _ _ (by omega), ep_bit_shr _ (by omega) _ (by omega), if_pos (by omega)]
    rw [show (4 * j + i / 8 - 4 * x) / 4 = j - x by omega, show i % 8 + 8 * ((4 * j + i / 8 - 4 * x) % 4) = i by omega]
  · unfold ep_in_
    rw [if_neg z]
    unfold ep_lw
    dsimp only
    rw [if_neg (by omega), if_neg (by omega), if_neg (by omega), if_neg (by omega)]
theorem er_Gres_pk {cr mr : Nat → Int32} (h : ep_Gres cr mr) {x n : Nat} (hx : x + n ≤ 32768) : ep_Gres (ep_clrW cr x n) (ep_clrs mr (4 * x) (4 * n)) := by
  refine ep_Gres_c h (ep_Clr_W _ _ _) (ep_Clr_s _ _ _) ?_
  intro j hj
  rw [ep_touch (by omega) hj]
  constructor
  · intro ⟨k, z1, z2⟩
    rw [nI_eq (by omega) (by omega)] at z2
    exact ⟨4 * k, by omega, by omega⟩
  · intro ⟨k, z1, z2⟩
    exact ⟨j - x, by omega, by congr 1; omega⟩
theorem er_poke (N : Nat) (p p1 p2 p3 p4 p5 : Int32) : er_P N 0 (fun s => eF_11_poke s p p1 p2 p3 p4 p5) (fun s => eF_12_poke s p p1 p2 p3 p4 p5) := by
  intro c m hR
  have hr4 := ep_rem4 p
  by_cases hr : ¬ (¬ p < 0 ∧ p &&& 3 = 0 ∧ ¬ 131052 < p)
  · refine er_id hR (-1) (fun m0 => ?_) (fun c0 => ?_)
    · show eF_11_poke _ p p1 p2 p3 p4 p5 = _
      unfold eF_11_poke
      rw [ep_J]
      by_cases y3 : p &&& 3 = 0
      · have hz : p < 0 ∨ 131052 < p := by
          by_cases y1 : p < 0
          · exact Or.inl y1
          · exact Or.inr (Decidable.byContradiction fun y2 => hr ⟨y1, y3, y2⟩)
        rw [if_pos y3, er_careOpen0 hz, ep_sb, if_pos rfl]
      · rw [if_neg y3]
    · show eF_12_poke _ p p1 p2 p3 p4 p5 = _
      unfold eF_12_poke
      rw [ep_J]
      by_cases y1 : p < 0
      · rw [if_pos y1]
      · rw [if_neg y1]
        by_cases y3 : p &&& 3 = 0
        · rw [if_pos (hr4.mpr y3), if_pos (Decidable.byContradiction fun y2 => hr ⟨y1, y3, y2⟩)]
        · rw [if_neg (fun z => y3 (hr4.mp z))]
  obtain ⟨r0, r3, r1⟩ := Decidable.not_not.mp hr
  obtain ⟨a, ha, rfl⟩ := ep_le_of (n := 131052) (by decide) r0 r1
  have ha4 : a % 4 = 0 := by
    rw [ep_and3 (by omega), show (0 : Int32) = nI 0 from rfl, nI_eq (by omega) (by decide)] at r3
    exact r3
  obtain ⟨x, rfl⟩ : ∃ x, a = 4 * x := ⟨a / 4, by omega⟩
  have hco : ∀ m0, eF_6_areOpen (ep_mk c m0) (nI (4 * x)) 20 = some (ep_bi (ep_ao (m.1 164) (c.1 10) (4 * x) 20)) := fun m0 => ep_careOpen hR (n := 20) (by decide) (by omega) m0
  have hmo : ∀ c0, eF_12_areOpen (ep_mk c0 m) (nI (4 * x)) 20 = some (ep_bi (ep_ao (m.1 164) (c.1 10) (4 * x) 20)) := fun c0 => ep_mareOpen hR (n := 20) (by decide) (by omega) c0
  cases ho : ep_ao (m.1 164) (c.1 10) (4 * x) 20 with
  | false =>
    refine er_id hR (-1) (fun m0 => ?_) (fun c0 => ?_)
    · show eF_11_poke _ (nI (4 * x)) p1 p2 p3 p4 p5 = _
      unfold eF_11_poke
      rw [ep_J, if_pos r3, hco m0, ep_sb, ho, if_pos ep_bf]
    · show eF_12_poke _ (nI (4 * x)) p1 p2 p3 p4 p5 = _
      unfold eF_12_poke
      rw [ep_J, if_neg r0, if_pos (hr4.mpr r3), if_neg r1, hmo c0, ep_sb, ho, if_pos ep_bf]
  | true =>
    let v := er_pk p1 p2 p3 p4 p5
    refine ⟨0, ep_c2 c (ep_in_ (c.1 9) x 5 v) (ep_clrW (c.1 11) x 5), ep_m2 m (ep_in_ (m.1 128) (4 * x) (4 * 5) fun k => eh_nb (eh_nb (eh_shr (v (k / 4)) (nI (8 * (k % 4)))))) (ep_clrs (m.1 147) (4 * x) (4 * 5)), fun m0 => ?_, fun c0 => ?_, ⟨er_Gm_pk hR.1 x 5 v, hR.2.1, hR.2.2.1, hR.2.2.2.1, er_Gres_pk hR.2.2.2.2.1 (by omega), hR.2.2.2.2.2.1, hR.2.2.2.2.2.2.1, hR.2.2.2.2.2.2.2.1, hR.2.2.2.2.2.2.2.2.1, hR.2.2.2.2.2.2.2.2.2.1, hR.2.2.2.2.2.2.2.2.2.2.1, hR.2.2.2.2.2.2.2.2.2.2.2.1, hR.2.2.2.2.2.2.2.2.2.2.2.2.1, hR.2.2.2.2.2.2.2.2.2.2.2.2.2.1, hR.2.2.2.2.2.2.2.2.2.2.2.2.2.2.1, hR.2.2.2.2.2.2.2.2.2.2.2.2.2.2.2.1, hR.2.2.2.2.2.2.2.2.2.2.2.2.2.2.2.2.1, hR.2.2.2.2.2.2.2.2.2.2.2.2.2.2.2.2.2.1, hR.2.2.2.2.2.2.2.2.2.2.2.2.2.2.2.2.2.2.1, hR.2.2.2.2.2.2.2.2.2.2.2.2.2.2.2.2.2.2.2.1, hR.2.2.2.2.2.2.2.2.2.2.2.2.2.2.2.2.2.2.2.2.1, hR.2.2.2.2.2.2.2.2.2.2.2.2.2.2.2.2.2.2.2.2.2.1, hR.2.2.2.2.2.2.2.2.2.2.2.2.2.2.2.2.2.2.2.2.2.2.1, hR.2.2.2.2.2.2.2.2.2.2.2.2.2.2.2.2.2.2.2.2.2.2.2.1, hR.2.2.2.2.2.2.2.2.2.2.2.2.2.2.2.2.2.2.2.2.2.2.2.2.1, hR.2.2.2.2.2.2.2.2.2.2.2.2.2.2.2.2.2.2.2.2.2.2.2.2.2.1, hR.2.2.2.2.2.2.2.2.2.2.2.2.2.2.2.2.2.2.2.2.2.2.2.2.2.2.1, hR.2.2.2.2.2.2.2.2.2.2.2.2.2.2.2.2.2.2.2.2.2.2.2.2.2.2.2.1, hR.2.2.2.2.2.2.2.2.2.2.2.2.2.2.2.2.2.2.2.2.2.2.2.2.2.2.2.2.1, hR.2.2.2.2.2.2.2.2.2.2.2.2.2.2.2.2.2.2.2.2.2.2.2.2.2.2.2.2.2.1, hR.2.2.2.2.2.2.2.2.2.2.2.2.2.2.2.2.2.2.2.2.2.2.2.2.2.2.2.2.2.2.1, hR.2.2.2.2.2.2.2.2.2.2.2.2.2.2.2.2.2.2.2.2.2.2.2.2.2.2.2.2.2.2.2.1, hR.2.2.2.2.2.2.2.2.2.2.2.2.2.2.2.2.2.2.2.2.2.2.2.2.2.2.2.2.2.2.2.2.1, hR.2.2.2.2.2.2.2.2.2.2.2.2.2.2.2.2.2.2.2.2.2.2.2.2.2.2.2.2.2.2.2.2.2⟩⟩
    · have st : ∀ i, i < 5 → ∀ m0, eF_6_store (ep_mk (ep_c2 c (ep_in_ (c.1 9) x i v) (ep_clrW (c.1 11) x i)) m0) (nI (4 * x + 4 * i)) (v i) 4 = some (ep_mk (ep_c2 c (ep_in_ (c.1 9) x (i + 1) v) (ep_clrW (c.1 11) x (i + 1))) m0) := by
        intro i hi m0
        have := ep_cstore c (ep_in_ (c.1 9) x i v) (ep_clrW (c.1 11) x i) (q := 4 * x + 4 * i) (n := 4) (by omega) (Or.inr (Or.inr rfl)) (v i) m0
        rw [ep_nw4 _ (by omega), show (4 * x + 4 * i) / 4 = x + i by omega, ep_in_s] at this
        exact this
      have s0 : eF_6_store (ep_mk c m0) (nI (4 * x)) p1 4 = some (ep_mk (ep_c2 c (ep_in_ (c.1 9) x (0 + 1) v) (ep_clrW (c.1 11) x (0 + 1))) m0) := by
        have := st 0 (by decide) m0
        rw [ep_in_0, show ep_clrW (c.1 11) x 0 = c.1 11 from rfl, ep_c2_id] at this
        exact this
      show eF_11_poke _ (nI (4 * x)) p1 p2 p3 p4 p5 = _
      unfold eF_11_poke
      rw [ep_J, if_pos r3, hco m0, ep_sb, ho, if_neg ep_bt]
      refine ep_bnd s0 ?_
      rw [show (nI (4 * x) + 4 : Int32) = nI (4 * x + 4 * 1) by rw [show (4 : Int32) = nI 4 from rfl, nI_add], show (nI (4 * x) + 8 : Int32) = nI (4 * x + 4 * 2) by rw [show (8 : Int32) = nI 8 from rfl, nI_add], show (nI (4 * x) + 12 : Int32) = nI (4 * x + 4 * 3) by rw [show (12 : Int32) = nI 12 from rfl, nI_add], show (nI (4 * x) + 16 : Int32) = nI (4 * x + 4 * 4) by rw [show (16 : Int32) = nI 16 from rfl, nI_add]]
      exact ep_bnd (st 1 (by decide) m0) (ep_bnd (st 2 (by decide) m0) (ep_bnd (st 3 (by decide) m0) (ep_bnd (st 4 (by decide) m0) rfl)))
    · show eF_12_poke _ (nI (4 * x)) p1 p2 p3 p4 p5 = _
      unfold eF_12_poke
      rw [ep_J, if_neg r0, if_pos (hr4.mpr r3), if_neg r1, hmo c0, ep_sb, ho, if_neg ep_bt]
      refine ep_lp (fun i => (nI i, ep_mk c0 (ep_m2 m (ep_in_ (m.1 128) (4 * x) i fun k => eh_nb (eh_nb (eh_shr (v (k / 4)) (nI (8 * (k % 4)))))) (ep_clrs (m.1 147) (4 * x) i)))) 20 _ (by decide) ?_ ?_ ?_ rfl
      · show _ = (nI 0, ep_mk c0 (ep_m2 m (ep_in_ (m.1 128) (4 * x) 0 _) (m.1 147)))
        rw [ep_in_0, ep_m2_id]; rfl
      · intro i hi rec
        have hrm : (8 * eh_rem (nI i) 4 : Int32) = nI (8 * (i % 4)) := by
          have : ∀ i : Fin 20, (8 * eh_rem (nI i.val) 4 : Int32) = nI (8 * (i.val % 4)) := by decide
          exact this ⟨i, hi⟩
        have hk : eF_12_setByte (ep_mk c0 (ep_m2 m (ep_in_ (m.1 128) (4 * x) i fun k => eh_nb (eh_nb (eh_shr (v (k / 4)) (nI (8 * (k % 4)))))) (ep_clrs (m.1 147) (4 * x) i))) (nI (4 * x + i)) (eh_shr (v (i / 4)) (nI (8 * (i % 4)))) = some (ep_mk c0 (ep_m2 m (ep_in_ (m.1 128) (4 * x) (i + 1) fun k => eh_nb (eh_nb (eh_shr (v (k / 4)) (nI (8 * (k % 4)))))) (ep_clrs (m.1 147) (4 * x) (i + 1)))) := by
          rw [ep_msetByte _ _ _ (show 4 * x + i < 131072 by omega), ep_in_s (g := fun k => eh_nb (eh_nb (eh_shr (v (k / 4)) (nI (8 * (k % 4))))))]
          rfl
        show (if nI i < 20 then _ else _) = _
        rw [if_pos (show nI i < 20 from nI_lt (b := 20) hi (by decide)), ep_J]
        dsimp only
        rw [hrm, nI_add]
        by_cases y4 : i < 4
        · rw [if_pos (show nI i < 4 from nI_lt (b := 4) y4 (by decide))]
          rw [show i / 4 = 0 by omega] at hk
          refine ep_bnd hk ?_
          rw [ep_V, nI_1]
        · rw [if_neg (show ¬ nI i < 4 from nI_nlt (b := 4) (by omega) (by omega))]
          by_cases y8 : i < 8
          · rw [if_pos (show nI i < 8 from nI_lt (b := 8) y8 (by decide))]
            rw [show i / 4 = 1 by omega] at hk
            refine ep_bnd hk ?_
            rw [ep_V, nI_1]
          · rw [if_neg (show ¬ nI i < 8 from nI_nlt (b := 8) (by omega) (by omega))]
            by_cases y12 : i < 12
            · rw [if_pos (show nI i < 12 from nI_lt (b := 12) y12 (by decide))]
              rw [show i / 4 = 2 by omega] at hk
              refine ep_bnd hk ?_
              rw [ep_V, nI_1]
            · rw [if_neg (show ¬ nI i < 12 from nI_nlt (b := 12) (by omega) (by omega))]
              by_cases y16 : i < 16
              · rw [if_pos (show nI i < 16 from nI_lt (b := 16) y16 (by decide))]
                rw [show i / 4 = 3 by omega] at hk
                refine ep_bnd hk ?_
                rw [ep_V, nI_1]
              · rw [if_neg (show ¬ nI i < 16 from nI_nlt (b := 16) (by omega) (by omega))]
                rw [show i / 4 = 4 by omega] at hk
                refine ep_bnd hk ?_
                rw [ep_V, nI_1]
      · intro rec
        show (if nI 20 < 20 then _ else _) = _
        rw [if_neg (by decide)]
theorem er_neg {p : Int32} (h : p < 0) (s : eh_F) : eF_6_isOpen s p.toInt64 = some 0 := by
  unfold eF_6_isOpen
  rw [ep_J, if_pos]
  rw [lg_cmp_lt, Int64.lt_iff_toInt_lt, Int32.toInt_toInt64]
  exact Int32.lt_iff_toInt_lt.mp h
theorem er_big {k : Nat} (h : 131072 ≤ k) (hk : k < 2 ^ 31) (s : eh_F) : eF_6_isOpen s (nI k).toInt64 = some 0 := by
  rw [nI_l (by omega)]
  exact ep_cisOpen' h (by omega) s
theorem er_misW (s : eh_F) (p : Int32) : eF_12_isWord s p = some (ep_bi (decide (¬ p < 0 ∧ p < 131072 ∧ p &&& 3 = 0))) := by
  have hr4 := ep_rem4 p
  unfold eF_12_isWord
  rw [ep_J, ep_J]
  by_cases y1 : p < 0
  · rw [if_pos y1, decide_eq_false (fun z => z.1 y1)]
    exact if_pos (Or.inl rfl)
  · rw [if_neg y1]
    by_cases y2 : p < 131072
    · rw [if_pos y2]
      by_cases y3 : p &&& 3 = 0
      · rw [if_pos (hr4.mpr y3), decide_eq_true ⟨y1, y2, y3⟩]
        exact if_pos (Or.inr rfl)
      · rw [if_neg (fun z => y3 (hr4.mp z)), decide_eq_false (fun z => y3 z.2.2)]
        exact if_pos (Or.inl rfl)
    · rw [if_neg y2, decide_eq_false (fun z => y2 z.2.1)]
      exact if_pos (Or.inl rfl)
theorem er_word {N : Nat} {c : ep_C} {m : ep_M} (hR : ep_R N c m) (p : Int32) : er_O c m (fun s => eF_11_word s p) (fun s => eF_12_word s p) := by
  by_cases hr : ¬ (¬ p < 0 ∧ p < 131072 ∧ p &&& 3 = 0)
  · refine ⟨0, fun m0 => ?_, fun c0 => ?_⟩
    · show eF_11_word _ p = _
      unfold eF_11_word
      rw [ep_J, ep_J]
      by_cases y3 : p &&& 3 = 0
      · rw [if_pos y3]
        have : eF_6_isOpen (ep_mk c m0) p.toInt64 = some 0 := by
          by_cases y1 : p < 0
          · exact er_neg y1 _
          · obtain ⟨k, hk, rfl⟩ := nI_of y1
            refine er_big ?_ hk _
            have : ¬ nI k < nI 131072 := fun z => hr ⟨y1, z, y3⟩
            rw [nI_ltI hk (by decide)] at this
            omega
        rw [this, ep_sb, if_pos rfl]
      · rw [if_neg y3]
    · show eF_12_word _ p = _
      unfold eF_12_word
      rw [er_misW, ep_sb, decide_eq_false hr, ep_J, ep_J, if_pos ep_bf]
  have hr := Decidable.not_not.mp hr
  obtain ⟨k, hk, rfl⟩ := nI_of hr.1
  have hk2 : k < 131072 := (nI_ltI (b := 131072) hk (by decide)).mp hr.2.1
  have ha4 : k % 4 = 0 := by
    have r3 := hr.2.2
    rw [ep_and3 (by omega), show (0 : Int32) = nI 0 from rfl, nI_eq (by omega) (by decide)] at r3
    exact r3
  cases ho : ep_ob (m.1 164) (c.1 10) k with
  | false =>
    refine ⟨0, fun m0 => ?_, fun c0 => ?_⟩
    · show eF_11_word _ (nI k) = _
      unfold eF_11_word
      rw [ep_J, ep_J, if_pos hr.2.2, nI_l (by omega), ep_cisOpen hR hk2, ep_sb, ho, if_pos ep_bf]
    · show eF_12_word _ (nI k) = _
      unfold eF_12_word
      rw [er_misW, ep_sb, decide_eq_true hr, ep_J, ep_J, if_neg ep_bt, ep_misOpen hR hk2, ep_sb, ho, if_pos ep_bf]
  | true =>
    refine ⟨ep_lw (m.1 128) k, fun m0 => ?_, fun c0 => ?_⟩
    · show eF_11_word _ (nI k) = _
      unfold eF_11_word
      rw [ep_J, ep_J, if_pos hr.2.2, nI_l (by omega), ep_cisOpen hR hk2, ep_sb, ho, if_neg ep_bt, ep_cwrd hR hk2 ha4, ep_sb]
    · show eF_12_word _ (nI k) = _
      unfold eF_12_word
      rw [er_misW, ep_sb, decide_eq_true hr, ep_J, ep_J, if_neg ep_bt, ep_misOpen hR hk2, ep_sb, ho, if_neg ep_bt, ep_mlittle _ _ _ (by decide) (by omega) (by decide), ep_sb]
theorem er_inner {N : Nat} {c : ep_C} {m : ep_M} (hR : ep_R N c m) (p : Int32) : er_O c m (fun s => eF_11_inner s p) (fun s => eF_12_inner s p) := by
  by_cases hr : ¬ (¬ p < 0 ∧ p < 131072 ∧ p &&& 3 = 0)
  · refine ⟨0, fun m0 => ?_, fun c0 => ?_⟩
    · show eF_11_inner _ p = _
      unfold eF_11_inner
      rw [ep_J]
      by_cases y3 : p &&& 3 = 0
      · rw [if_pos y3, ep_cwordAt', ep_sb]
        by_cases y1 : p < 0
        · exact Or.inl y1
        · exact Or.inr (fun y2 => hr ⟨y1, y2, y3⟩)
      · rw [if_neg y3]
    · show eF_12_inner _ p = _
      unfold eF_12_inner
      rw [er_misW, ep_sb, decide_eq_false hr, ep_J, if_pos ep_bf]
  have hr := Decidable.not_not.mp hr
  obtain ⟨k, hk, rfl⟩ := nI_of hr.1
  have hk2 : k < 131072 := (nI_ltI (b := 131072) hk (by decide)).mp hr.2.1
  have ha4 : k % 4 = 0 := by
    have r3 := hr.2.2
    rw [ep_and3 (by omega), show (0 : Int32) = nI 0 from rfl, nI_eq (by omega) (by decide)] at r3
    exact r3
  refine ⟨ep_lw (m.1 128) k, fun m0 => ?_, fun c0 => ?_⟩
  · show eF_11_inner _ (nI k) = _
    unfold eF_11_inner
    rw [ep_J, if_pos hr.2.2, ep_cwrd hR hk2 ha4, ep_sb]
  · show eF_12_inner _ (nI k) = _
    unfold eF_12_inner
    rw [er_misW, ep_sb, decide_eq_true hr, ep_J, if_neg ep_bt, ep_mlittle _ _ _ (by decide) (by omega) (by decide), ep_sb]
theorem er_secret (N : Nat) (p q r : Int32) : er_P N 0 (fun s => eF_11_secret s p q r) (fun s => eF_12_secret s p q r) := by
  intro c m hR
  cases hb : ep_inb p 6 (m.1 155) with
  | false =>
    refine er_id hR (-1) (fun m0 => ?_) (fun c0 => ?_)
    · show eF_11_secret _ p q r = _
      unfold eF_11_secret
      rw [ep_chasE hR, ep_sb, hb, ep_J, if_pos ep_bf]
    · show eF_12_secret _ p q r = _
      unfold eF_12_secret
      rw [ep_misE, ep_sb, hb, ep_J, if_pos ep_bf]
  | true =>
    obtain ⟨e, he, rfl, hE⟩ := ep_inb_t (by decide) hb
    obtain ⟨w, b, n, hw, hwe, hwS, n0, bn, hB, hZ, cb, cs, hP⟩ := ep_ownR hR he hE
    have i6 : eh_in (nI e) 6 = true := ep_in he (by decide)
    have x6 : eh_ix (nI e) = e := ep_ix (by omega)
    have i12 : eh_in (nI w) 12 = true := ep_in hw (by decide)
    have xw : eh_ix (nI w) = w := ep_ix (by omega)
    by_cases hq : ¬ (¬ q < 0 ∧ q < nI (256 * n))
    · refine er_id hR (-1) (fun m0 => ?_) (fun c0 => ?_)
      · show eF_11_secret _ (nI e) q r = _
        unfold eF_11_secret
        rw [ep_chasE hR, ep_sb, hb, ep_J, if_neg ep_bt]
        by_cases y1 : q < 0
        · rw [if_pos y1]
        · rw [if_neg y1, cs, ep_sb, if_neg (fun z => hq ⟨y1, z⟩)]
      · show eF_12_secret _ (nI e) q r = _
        unfold eF_12_secret
        rw [ep_misE, ep_sb, hb, ep_J, if_neg ep_bt]
        by_cases y1 : q < 0
        · rw [if_pos y1]
        · rw [if_neg y1, if_pos i6, x6, ep_rM _ _ 156 (by decide), hwe, if_pos i12, xw, ep_rM _ _ 166 (by decide), hZ, if_neg (fun z => hq ⟨y1, z⟩)]
    obtain ⟨q0, q1⟩ := Decidable.not_not.mp hq
    by_cases hr : ¬ (¬ r < 0 ∧ ¬ 255 < r)
    · refine er_id hR (-1) (fun m0 => ?_) (fun c0 => ?_)
      · show eF_11_secret _ (nI e) q r = _
        unfold eF_11_secret
        rw [ep_chasE hR, ep_sb, hb, ep_J, if_neg ep_bt, if_neg q0, cs, ep_sb, if_pos q1, ep_J]
        by_cases y1 : r < 0
        · rw [if_pos y1]
        · rw [if_neg y1, if_pos (Decidable.byContradiction fun z => hr ⟨y1, z⟩)]
      · show eF_12_secret _ (nI e) q r = _
        unfold eF_12_secret
        rw [ep_misE, ep_sb, hb, ep_J, if_neg ep_bt, if_neg q0, if_pos i6, x6, ep_rM _ _ 156 (by decide), hwe, if_pos i12, xw, ep_rM _ _ 166 (by decide), hZ, if_pos q1]
        by_cases y1 : r < 0
        · rw [if_pos y1]
        · rw [if_neg y1, if_pos (Decidable.byContradiction fun z => hr ⟨y1, z⟩)]
    obtain ⟨r0, r1⟩ := Decidable.not_not.mp hr
    obtain ⟨k, hk, rfl⟩ := nI_of q0
    have hkn : k < 256 * n := (nI_ltI hk (by omega)).mp q1
    have hx : 256 * b + k < 131072 := by omega
    have ib : eh_in (nI (256 * b + k)) 131072 = true := ep_in hx (by decide)
    have xb : eh_ix (nI (256 * b + k)) = 256 * b + k := ep_ix (by omega)
    have hg : ep_Gm (ep_nw (c.1 9) (256 * b + k) 1 r) (upd (m.1 128) (256 * b + k) (eh_nb (eh_nb r))) := by
      have := ep_sb_word hR.1 (n := 1) (q := 256 * b + k) (Or.inl rfl) (Nat.mod_one _) r
      have e1 : ep_sb_ (m.1 128) (256 * b + k) 1 r = upd (m.1 128) (256 * b + k) (eh_nb (eh_nb r)) := by
        unfold ep_sb_
        have h2 := ep_in_s (m.1 128) (256 * b + k) 0 (fun k => eh_nb (eh_nb (eh_shr r (nI (8 * k)))))
        rw [ep_in_0, Nat.add_zero] at h2
        rw [← h2]
        show upd _ _ (eh_nb (eh_nb (eh_shr r 0))) = _
        rw [show eh_shr r 0 = r from by unfold eh_shr; refine ep_ext fun i hi => ?_; have := ep_bit_shr r (k := 0) (by decide) i hi; rw [Nat.add_zero, if_pos hi] at this; exact this]
      rw [e1] at this
      exact this
    refine ⟨m.1 128 (256 * b + k) &&& 255, ep_c2 c (ep_nw (c.1 9) (256 * b + k) 1 r) (c.1 11), ep_mI m 128 (256 * b + k) (eh_nb (eh_nb r)), fun m0 => ?_, fun c0 => ?_, ⟨hg, hR.2.1, hR.2.2.1, hR.2.2.2.1, hR.2.2.2.2.1, hR.2.2.2.2.2.1, hR.2.2.2.2.2.2.1, hR.2.2.2.2.2.2.2.1, hR.2.2.2.2.2.2.2.2.1, hR.2.2.2.2.2.2.2.2.2.1, hR.2.2.2.2.2.2.2.2.2.2.1, hR.2.2.2.2.2.2.2.2.2.2.2.1, hR.2.2.2.2.2.2.2.2.2.2.2.2.1, hR.2.2.2.2.2.2.2.2.2.2.2.2.2.1, hR.2.2.2.2.2.2.2.2.2.2.2.2.2.2.1, hR.2.2.2.2.2.2.2.2.2.2.2.2.2.2.2.1, hR.2.2.2.2.2.2.2.2.2.2.2.2.2.2.2.2.1, hR.2.2.2.2.2.2.2.2.2.2.2.2.2.2.2.2.2.1, hR.2.2.2.2.2.2.2.2.2.2.2.2.2.2.2.2.2.2.1, hR.2.2.2.2.2.2.2.2.2.2.2.2.2.2.2.2.2.2.2.1, hR.2.2.2.2.2.2.2.2.2.2.2.2.2.2.2.2.2.2.2.2.1, hR.2.2.2.2.2.2.2.2.2.2.2.2.2.2.2.2.2.2.2.2.2.1, hR.2.2.2.2.2.2.2.2.2.2.2.2.2.2.2.2.2.2.2.2.2.2.1, hR.2.2.2.2.2.2.2.2.2.2.2.2.2.2.2.2.2.2.2.2.2.2.2.1, hR.2.2.2.2.2.2.2.2.2.2.2.2.2.2.2.2.2.2.2.2.2.2.2.2.1, hR.2.2.2.2.2.2.2.2.2.2.2.2.2.2.2.2.2.2.2.2.2.2.2.2.2.1, hR.2.2.2.2.2.2.2.2.2.2.2.2.2.2.2.2.2.2.2.2.2.2.2.2.2.2.1, hR.2.2.2.2.2.2.2.2.2.2.2.2.2.2.2.2.2.2.2.2.2.2.2.2.2.2.2.1, hR.2.2.2.2.2.2.2.2.2.2.2.2.2.2.2.2.2.2.2.2.2.2.2.2.2.2.2.2.1, hR.2.2.2.2.2.2.2.2.2.2.2.2.2.2.2.2.2.2.2.2.2.2.2.2.2.2.2.2.2.1, hR.2.2.2.2.2.2.2.2.2.2.2.2.2.2.2.2.2.2.2.2.2.2.2.2.2.2.2.2.2.2.1, hR.2.2.2.2.2.2.2.2.2.2.2.2.2.2.2.2.2.2.2.2.2.2.2.2.2.2.2.2.2.2.2.1, hR.2.2.2.2.2.2.2.2.2.2.2.2.2.2.2.2.2.2.2.2.2.2.2.2.2.2.2.2.2.2.2.2.1, hR.2.2.2.2.2.2.2.2.2.2.2.2.2.2.2.2.2.2.2.2.2.2.2.2.2.2.2.2.2.2.2.2.2⟩⟩
    · show eF_11_secret _ (nI e) (nI k) r = _
      unfold eF_11_secret
      have hch : eF_6_change (ep_mk c m0) (nI (256 * b + k)) r 1 = some (ep_mk (ep_c2 c (ep_nw (c.1 9) (256 * b + k) 1 r) (c.1 11)) m0) := by
        have := ep_cchange c (c.1 9) (c.1 11) (q := 256 * b + k) (n := 1) hx (Or.inl rfl) r m0
        rw [ep_c2_id] at this
        exact this
      rw [ep_chasE hR, ep_sb, hb, ep_J, if_neg ep_bt, if_neg q0, cs, ep_sb, if_pos q1, ep_J, if_neg r0, if_neg r1, cb, ep_sb, ep_V, nI_add, ep_cbyteAt hR hx, ep_sb, hch, ep_sb]
    · show eF_12_secret _ (nI e) (nI k) r = _
      unfold eF_12_secret
      rw [ep_misE, ep_sb, hb, ep_J, if_neg ep_bt, if_neg q0, if_pos i6, x6, ep_rM _ _ 156 (by decide), hwe, if_pos i12, xw, ep_rM _ _ 166 (by decide), hZ, if_pos q1, if_neg r0, if_neg r1, if_pos i6, if_pos i12, ep_V, ep_rM _ _ 165 (by decide), hB, nI_add, if_pos ib, xb, ep_V, if_pos ib, ep_V, ep_rM _ _ 128 (by decide), ep_iM _ _ _ _ _ (by decide)]
