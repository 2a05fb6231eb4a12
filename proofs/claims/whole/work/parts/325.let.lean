theorem ep_mgatherE {m : ep_M} {h t e w : Nat} (hh : h < 2) (ht : t < 12) (he : e < 6) (hw : w < 12) (hr : m.1 144 h = nI t) (ho : m.1 149 t = nI e) (hwe : m.1 156 e = nI w) : ∃ f g r, ep_ent (ep_lE (m.1 164) (m.1 165) (m.1 166) (m.1 167) (m.1 168) (m.1 169) w (nI e)) f g r ∧ ∀ c0, eF_12_gather (ep_mk c0 m) (nI h) = some (ep_mk c0 (ep_mg m (nI (ep_lE (m.1 164) (m.1 165) (m.1 166) (m.1 167) (m.1 168) (m.1 169) w (nI e)).length) f g r)) := by
  have q1 : eh_in (nI h) 2 = true := ep_in hh (by decide)
  have q2 : eh_ix (nI h) = h := ep_ix (by omega)
  obtain ⟨sel, hsel⟩ : ∃ sel, sel = ep_sE (m.1 164) (m.1 165) (m.1 166) (m.1 167) (m.1 168) (m.1 169) (nI e) := ⟨_, rfl⟩
  have hLE : ep_lE (m.1 164) (m.1 165) (m.1 166) (m.1 167) (m.1 168) (m.1 169) w (nI e) = ep_gL sel [(m.1 165 w, m.1 166 w, 7)] 12 := by rw [hsel]; rfl
  rw [hLE]
  have key := ep_minv0 (A := ep_C) (X := (Nat → Int32) × (Nat → Int32) × (Nat → Int32)) (body := fun _ (r20 : (Int32 × eh_F) → Option (eh_F)) (t17 : Int32 × eh_F) => if t17.1 < 12 then (if eh_in t17.1 12 then eh_J (fun (s23 : eh_F) => eh_V ((t17.1 + 1) : Int32) (fun x24 => r20 (x24, s23))) (fun j22 => if 1 < (t17.2.1 164 (eh_ix t17.1)) then (Option.bind (eF_12_isOf t17.2 t17.1 (nI e)) (fun q26 => if q26 = 0 then (j22 t17.2) else (Option.bind (eF_12_isAccepted t17.2 t17.1 (nI e)) (fun q28 => if q28 = 0 then (j22 t17.2) else (if eh_in t17.1 12 then if eh_in t17.1 12 then if eh_in t17.1 12 then eh_J (fun (a31 : Int32) => Option.bind (eF_12_gate t17.2 (t17.2.1 165 (eh_ix t17.1)) (t17.2.1 166 (eh_ix t17.1)) a31) (fun q32 => j22 q32)) (fun j30 => if (t17.2.1 164 (eh_ix t17.1)) = 4 then (j30 7) else (j30 3)) else none else none else none))))) else (j22 t17.2)) else none) else (some t17.2))
    (fun c0 i x => (nI i, ep_mk c0 (ep_mg m (nI (ep_gL sel [(m.1 165 w, m.1 166 w, 7)] i).length) x.1 x.2.1 x.2.2)))
    (fun G => ∃ f g r, ep_ent (ep_gL sel [(m.1 165 w, m.1 166 w, 7)] 12) f g r ∧ ∀ c0, G c0 = some (ep_mk c0 (ep_mg m (nI (ep_gL sel [(m.1 165 w, m.1 166 w, 7)] 12).length) f g r)))
    (fun i x => ep_ent (ep_gL sel [(m.1 165 w, m.1 166 w, 7)] i) x.1 x.2.1 x.2.2) 12 (by decide) (by
      intro i x hi hp
      left
      have hl := ep_gL_len sel [(m.1 165 w, m.1 166 w, 7)] i
      simp only [List.length_singleton] at hl
      have z1 : nI i < 12 := ep_lt (b := 12) hi (by decide) rfl
      have z2 : eh_in (nI i) 12 = true := ep_in hi (by decide)
      have z3 : eh_ix (nI i) = i := ep_ix (by omega)
      cases hs : sel i with
      | none =>
        refine ⟨x, ?_, ?_⟩
        · simp only [ep_gL, hs]; exact hp
        · intro a rec
          simp only [ep_gL, hs]
          rw [hsel] at hs
          unfold ep_sE at hs
          simp (disch := first | assumption | decide) only [ep_V, ep_J, ep_sb, ep_rC1, ep_rC2, ep_rM, ep_rJ, ep_rQ, ep_wC1, ep_wC2, ep_wM, ep_iC1, ep_iC2, ep_iM, ep_wJ, ep_wQ, ep_cI1, ep_cIn, ep_cI2, ep_cL1, ep_cLn, ep_cL2, ep_cG1, ep_cGq, ep_cQ1, ep_cQ2, ep_cQq, ep_cQn, ep_mI1, ep_mIn, ep_mI2, ep_mL1, ep_mLn, ep_mL2, ep_mJ1, ep_mJ2, z1, z2, z3, if_true, ep_mg_n, nI_1, ep_misOf _ hi, ep_misAccepted _ hi, ep_bi_0]
          by_cases y0 : 1 < m.1 164 i
          · cases y1 : ep_of (m.1 164) (m.1 167) (m.1 168) i (nI e) with
            | false => simp [y0]
            | true =>
              cases y2 : ep_acc (m.1 164) (m.1 167) (m.1 168) (m.1 169) i (nI e) with
              | false => simp [y0]
              | true => simp [y0, y1, y2] at hs
          · simp [y0]
      | some en =>
        obtain ⟨e1, e2, e3⟩ := en
        refine ⟨(upd x.1 (ep_gL sel [(m.1 165 w, m.1 166 w, 7)] i).length e1, upd x.2.1 (ep_gL sel [(m.1 165 w, m.1 166 w, 7)] i).length e2, upd x.2.2 (ep_gL sel [(m.1 165 w, m.1 166 w, 7)] i).length e3), ?_, ?_⟩
        · simp only [ep_gL, hs]
          exact ep_ent_s hp e1 e2 e3
        · intro a rec
          simp only [ep_gL, hs, List.length_append, List.length_singleton]
          rw [hsel] at hs
          unfold ep_sE at hs
          by_cases y0 : 1 < m.1 164 i
          · by_cases y1 : ep_of (m.1 164) (m.1 167) (m.1 168) i (nI e) = true ∧ ep_acc (m.1 164) (m.1 167) (m.1 168) (m.1 169) i (nI e) = true
            · rw [if_pos y0, if_pos y1] at hs
              simp only [Option.some.injEq, Prod.mk.injEq] at hs
              simp (disch := first | assumption | decide) only [ep_V, ep_J, ep_sb, ep_rC1, ep_rC2, ep_rM, ep_rJ, ep_rQ, ep_wC1, ep_wC2, ep_wM, ep_iC1, ep_iC2, ep_iM, ep_wJ, ep_wQ, ep_cI1, ep_cIn, ep_cI2, ep_cL1, ep_cLn, ep_cL2, ep_cG1, ep_cGq, ep_cQ1, ep_cQ2, ep_cQq, ep_cQn, ep_mI1, ep_mIn, ep_mI2, ep_mL1, ep_mLn, ep_mL2, ep_mJ1, ep_mJ2, z1, z2, z3, if_true, ep_mg_n, nI_1, ep_misOf _ hi, ep_misAccepted _ hi, ep_bi_0, y0, y1.1, y1.2, Bool.true_eq_false, if_false]
              by_cases y4 : m.1 164 i = 4
              · rw [if_pos y4, ep_mgate m (by omega), ep_sb, hs.1, hs.2.1]
                rw [if_pos y4] at hs
                rw [hs.2.2]
              · rw [if_neg y4, ep_mgate m (by omega), ep_sb, hs.1, hs.2.1]
                rw [if_neg y4] at hs
                rw [hs.2.2]
            · rw [if_pos y0, if_neg y1] at hs; exact absurd hs (by simp)
          · rw [if_neg y0] at hs; exact absurd hs (by simp)) (by
      intro x hp
      refine ⟨fun c0 => some (ep_mk c0 (ep_mg m (nI (ep_gL sel [(m.1 165 w, m.1 166 w, 7)] 12).length) x.1 x.2.1 x.2.2)), ⟨_, _, _, hp, fun c0 => rfl⟩, fun a rec => ?_⟩
      have z1 : ¬ nI 12 < 12 := by decide
      simp only [z1, if_false]) (upd (m.1 170) 0 (m.1 165 w), upd (m.1 171) 0 (m.1 166 w), upd (m.1 172) 0 7) (ep_ent_s (l := []) (fun j hj => absurd hj (Nat.not_lt_zero j)) (m.1 165 w) (m.1 166 w) 7)
  obtain ⟨G, ⟨f, g, r, h1, h2⟩, hG⟩ := key
  refine ⟨f, g, r, h1, fun c0 => ?_⟩
  have q3 : eh_in (nI t) 12 = true := ep_in ht (by decide)
  have q4 : eh_ix (nI t) = t := ep_ix (by omega)
  have q5 : eh_in (nI e) 6 = true := ep_in he (by decide)
  have q6 : eh_ix (nI e) = e := ep_ix (by omega)
  have q7 : eh_in (nI w) 12 = true := ep_in hw (by decide)
  have q8 : eh_ix (nI w) = w := ep_ix (by omega)
  unfold eF_12_gather
  rw [ep_V, ep_iM _ _ _ _ _ (by decide), ep_mg_0, if_pos q1, ep_rM _ _ 144 (by decide), q2, ep_mg_n _ _ _ _ _ 144 (by decide) (by decide) (by decide) (by decide), hr, if_neg (ep_nI_ne_m1 (by omega)), if_pos q1, if_pos q3, q4, ep_rM _ _ 149 (by decide), ep_mg_n _ _ _ _ _ 149 (by decide) (by decide) (by decide) (by decide), ho, ep_V, if_pos q5, ep_rM _ _ 156 (by decide), ep_mg_n _ _ _ _ _ 156 (by decide) (by decide) (by decide) (by decide), q6, hwe, if_pos q7, if_pos q5, if_pos q7, q8, ep_rM _ _ 165 (by decide), ep_mg_n _ _ _ _ _ 165 (by decide) (by decide) (by decide) (by decide), ep_rM _ _ 166 (by decide), ep_mg_n _ _ _ _ _ 166 (by decide) (by decide) (by decide) (by decide)]
  refine ep_bnd (ep_mgate m (n := 0) (by decide) _ _ _ _ _ _ c0) ?_
  have := hG c0
  rw [h2 c0] at this
  exact ep_bnd this rfl
/-- entries whose spans are numbers -/
def ep_spn (l : List ep_En) : Prop := ∀ x, x ∈ l → ∃ a z, a + z ≤ 131072 ∧ x.1 = nI a ∧ x.2.1 = nI z
theorem ep_getD_mem (l : List ep_En) (j : Nat) (h : j < l.length) : l.getD j (0, 0, 0) ∈ l := by
  simp only [List.getD_eq_getElem?_getD, List.getElem?_eq_getElem h, Option.getD_some]
  exact List.getElem_mem h
/-- the answer: of the first entry that shares a byte -/
def ep_lov (q n : Nat) (x : ep_En) : Bool := decide (q < eh_ix x.1 + eh_ix x.2.1) && decide (eh_ix x.1 < q + n)
def ep_lin (q n : Nat) (right : Int32) (x : ep_En) : Bool := decide (eh_ix x.1 ≤ q) && decide (q + n ≤ eh_ix x.1 + eh_ix x.2.1) && decide (x.2.2 &&& right ≠ 0)
theorem ep_misLet {m : ep_M} {h : Nat} {l : List ep_En} {f g r : Nat → Int32} (hl : ep_spn l) (hlen : l.length ≤ 13) (he : ep_ent l f g r) {q n : Nat} (hq : q < 2 ^ 40) (hn : n < 2 ^ 20) (hn0 : 0 < n) (right : Int32) (c0 : ep_C) (hg : eF_12_gather (ep_mk c0 m) (nI h) = some (ep_mk c0 (ep_mg m (nI l.length) f g r))) (R : Bool)
    (hnone : (∀ x, x ∈ l → ep_lov q n x = false) → R = false)
    (hsome : ∀ x l1 l2, l = l1 ++ x :: l2 → ep_lov q n x = true → (∀ y, y ∈ l1 → ep_lov q n y = false) → R = ep_lin q n right x) : eF_12_isLet (ep_mk c0 m) (nI h) (lN q) (nI n) right = some (ep_bi R, ep_mk c0 (ep_mg m (nI l.length) f g r)) := by
  unfold eF_12_isLet
  rw [hg, ep_sb]
  have rd : ∀ j, j < l.length → ∃ a z, a + z ≤ 131072 ∧ f j = nI a ∧ g j = nI z ∧ l.getD j (0, 0, 0) = (nI a, nI z, r j) := by
    intro j hj
    obtain ⟨a, z, h1, h2, h3⟩ := hl _ (ep_getD_mem l j hj)
    have := he j hj
    rw [this] at h2 h3
    exact ⟨a, z, h1, h2, h3, by rw [this]; simp only at h2 h3; rw [h2, h3]⟩
  have cmp1 : ∀ a z : Nat, a + z ≤ 131072 → (lg_cmp (lN q) ((nI a + nI z).toInt64) < 0 ↔ q < a + z) := by
    intro a z h
    rw [nI_add, nI_l (by omega), ep_lgc (by omega) (by omega)]
  have cmp2 : ∀ a : Nat, a ≤ 131072 → (0 < lg_cmp (lN q + (nI n).toInt64) ((nI a).toInt64) ↔ a < q + n) := by
    intro a h
    rw [nI_l (by omega), nI_l (by omega), lN_add, lg_cmp_gt, pk_lLT (by omega) (by omega)]
  have lv : ∀ j a z, j < l.length → a + z ≤ 131072 → l.getD j (0, 0, 0) = (nI a, nI z, r j) → ep_lov q n (l.getD j (0, 0, 0)) = (decide (q < a + z) && decide (a < q + n)) := by
    intro j a z hj h e
    rw [e]
    unfold ep_lov
    simp only [show eh_ix (nI a) = a from ep_ix (by omega), show eh_ix (nI z) = z from ep_ix (by omega)]
  refine ep_lpf (fun i => nI i) l.length (fun i => !(ep_lov q n (l.getD i (0, 0, 0)))) (fun i => .inr (nI i)) (.inl ()) (by omega) rfl ?_ ?_ ?_ ?_ ?_
  · intro i hi hb rec
    obtain ⟨a, z, h1, h2, h3, h4⟩ := rd i hi
    have z1 : nI i < nI l.length := nI_lt hi (by omega)
    have z2 : eh_in (nI i) 13 = true := ep_in (by omega) (by decide)
    have z3 : eh_ix (nI i) = i := ep_ix (by omega)
    rw [lv i a z hi h1 h4] at hb
    simp (disch := first | assumption | decide) only [ep_V, ep_J, ep_sb, ep_rC1, ep_rC2, ep_rM, ep_rJ, ep_rQ, ep_wC1, ep_wC2, ep_wM, ep_iC1, ep_iC2, ep_iM, ep_wJ, ep_wQ, ep_cI1, ep_cIn, ep_cI2, ep_cL1, ep_cLn, ep_cL2, ep_cG1, ep_cGq, ep_cQ1, ep_cQ2, ep_cQq, ep_cQn, ep_mI1, ep_mIn, ep_mI2, ep_mL1, ep_mLn, ep_mL2, ep_mJ1, ep_mJ2, ep_mg_48, ep_mg_170, ep_mg_171, z1, z2, z3, if_true, h2, h3, cmp1 a z h1, cmp2 a (show a ≤ 131072 by omega), nI_1]
    by_cases y1 : q < a + z
    · by_cases y2 : a < q + n
      · simp [y1, y2] at hb
      · simp [y1, y2]
    · simp [y1]
  · intro i hi hb rec
    obtain ⟨a, z, h1, h2, h3, h4⟩ := rd i hi
    have z1 : nI i < nI l.length := nI_lt hi (by omega)
    have z2 : eh_in (nI i) 13 = true := ep_in (by omega) (by decide)
    have z3 : eh_ix (nI i) = i := ep_ix (by omega)
    rw [lv i a z hi h1 h4] at hb
    simp (disch := first | assumption | decide) only [ep_V, ep_J, ep_sb, ep_rC1, ep_rC2, ep_rM, ep_rJ, ep_rQ, ep_wC1, ep_wC2, ep_wM, ep_iC1, ep_iC2, ep_iM, ep_wJ, ep_wQ, ep_cI1, ep_cIn, ep_cI2, ep_cL1, ep_cLn, ep_cL2, ep_cG1, ep_cGq, ep_cQ1, ep_cQ2, ep_cQq, ep_cQn, ep_mI1, ep_mIn, ep_mI2, ep_mL1, ep_mLn, ep_mL2, ep_mJ1, ep_mJ2, ep_mg_48, ep_mg_170, ep_mg_171, z1, z2, z3, if_true, h2, h3, cmp1 a z h1, cmp2 a (show a ≤ 131072 by omega), nI_1]
    by_cases y1 : q < a + z
    · by_cases y2 : a < q + n
      · simp [y1, y2]
      · simp [y1, y2] at hb
    · simp [y1] at hb
  · intro rec
    have z1 : ¬ nI l.length < nI l.length := nI_nlt (Nat.le_refl _) (by omega)
    simp (disch := first | assumption | decide) only [ep_V, ep_J, ep_sb, ep_rC1, ep_rC2, ep_rM, ep_rJ, ep_rQ, ep_wC1, ep_wC2, ep_wM, ep_iC1, ep_iC2, ep_iM, ep_wJ, ep_wQ, ep_cI1, ep_cIn, ep_cI2, ep_cL1, ep_cLn, ep_cL2, ep_cG1, ep_cGq, ep_cQ1, ep_cQ2, ep_cQq, ep_cQn, ep_mI1, ep_mIn, ep_mI2, ep_mL1, ep_mLn, ep_mL2, ep_mJ1, ep_mJ2, ep_mg_48, z1, if_false]
  · intro hall
    have : R = false := hnone (fun x hx => by
      obtain ⟨j, hj, e⟩ := List.getElem_of_mem hx
      have := hall j hj
      simp only [List.getD_eq_getElem?_getD, List.getElem?_eq_getElem hj, Option.getD_some, e] at this
      simpa using this)
    rw [this]; rfl
  · intro j hj hb hprev
    obtain ⟨a, z, h1, h2, h3, h4⟩ := rd j hj
    have z2 : eh_in (nI j) 13 = true := ep_in (by omega) (by decide)
    have z3 : eh_ix (nI j) = j := ep_ix (by omega)
    have hR : R = ep_lin q n right (l.getD j (0, 0, 0)) := by
      refine hsome _ (l.take j) (l.drop (j + 1)) ?_ (by simpa using hb) ?_
      · have e1 : l.getD j (0, 0, 0) = l[j] := by simp [List.getD_eq_getElem?_getD, List.getElem?_eq_getElem hj]
        rw [e1, List.getElem_cons_drop, List.take_append_drop]
      · intro y hy
        obtain ⟨i, hi, e⟩ := List.getElem_of_mem hy
        rw [List.length_take] at hi
        have := hprev i (by omega)
        rw [List.getElem_take] at e
        simp only [List.getD_eq_getElem?_getD, List.getElem?_eq_getElem (show i < l.length by omega), Option.getD_some, e] at this
        simpa using this
    rw [h4] at hR
    unfold ep_lin at hR
    simp only [show eh_ix (nI a) = a from ep_ix (by omega), show eh_ix (nI z) = z from ep_ix (by omega)] at hR
    have cmp0 : lg_cmp (lN q) ((nI a).toInt64) < 0 ↔ q < a := by rw [nI_l (by omega), ep_lgc (by omega) (by omega)]
    have cmp3 : 0 < lg_cmp (lN q + (nI n).toInt64) ((nI a + nI z).toInt64) ↔ a + z < q + n := by rw [nI_add]; exact cmp2 (a + z) h1
    simp only [Sum.elim_inr]
    simp (disch := first | assumption | decide) only [ep_V, ep_J, ep_sb, ep_rC1, ep_rC2, ep_rM, ep_rJ, ep_rQ, ep_wC1, ep_wC2, ep_wM, ep_iC1, ep_iC2, ep_iM, ep_wJ, ep_wQ, ep_cI1, ep_cIn, ep_cI2, ep_cL1, ep_cLn, ep_cL2, ep_cG1, ep_cGq, ep_cQ1, ep_cQ2, ep_cQq, ep_cQn, ep_mI1, ep_mIn, ep_mI2, ep_mL1, ep_mLn, ep_mL2, ep_mJ1, ep_mJ2, ep_mg_48, ep_mg_170, ep_mg_171, ep_mg_172, z2, z3, if_true, h2, h3, cmp0, cmp3]
    rw [hR]
    by_cases y1 : q < a
    · simp [y1, show ¬ a ≤ q by omega, ep_bi]
    · by_cases y2 : a + z < q + n
      · simp [y1, y2, show ¬ q + n ≤ a + z by omega, ep_bi]
      · by_cases y3 : r j &&& right = 0
        · simp [y1, y2, y3, ep_bi]
        · simp [y1, y2, y3, show a ≤ q by omega, show q + n ≤ a + z by omega, ep_bi]
