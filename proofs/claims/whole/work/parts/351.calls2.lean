/-! more calls of the system -/
theorem ep_rem4 (p : Int32) : (eh_rem p 4 = 0) ↔ (p &&& 3 = 0) := by
  have h1 := ep_rem124 p (n := 4) (Or.inr (Or.inr rfl))
  rw [show nI 4 = 4 from rfl] at h1
  rw [h1, pk_and p (m := 3) 2 rfl, show (0 : Int32) = nI 0 from rfl, nI_eq (by omega) (by decide)]
  rfl
theorem ep_le_of {x : Int32} {n : Nat} (hn : n + 1 < 2 ^ 31) (h0 : ¬ x < 0) (h1 : ¬ nI n < x) : ∃ k, k ≤ n ∧ x = nI k := by
  obtain ⟨k, hk, e⟩ := nI_of h0
  subst e
  refine ⟨k, ?_, rfl⟩
  rw [nI_ltI (by omega) hk] at h1
  omega
theorem ep_askDisk {N : Nat} {c : ep_C} {m : ep_M} (hR : ep_R N c m) (p q r : Int32) : ep_Cp N c m (fun s => eF_10_askDisk s p q r) (fun s => eF_12_move s p q r) := by
  obtain ⟨d0, d1, d2, d3, d4, d5, d6, d7, d8, d9, n, d10, d11⟩ := hR.2.2.2.2.2.2.2.2.2.2.2.2.2.2.2.2.2.2.2.2.2.2.2.2.2.2.2.2.1
  obtain ⟨a1, a2, a3, a4, a5⟩ := hR.2.2.2.2.2.2.2.2.2.2.2.2.2.2.2.2.2.2.2.2.2.2.2.2.2.2.2.2.2.1
  have hr4 := ep_rem4 r
  by_cases hp : ¬ (p = 0 ∨ p = 1)
  · have p0 : ¬ p = 0 := fun z => hp (Or.inl z)
    have p1 : ¬ p = 1 := fun z => hp (Or.inr z)
    refine ep_Cp_id hR (-1) (fun m0 => ?_) (fun c0 => ?_)
    · show eF_10_askDisk (ep_mk c m0) p q r = _
      unfold eF_10_askDisk
      have : p < 0 ∨ 1 < p := by
        by_cases y : p < 0
        · exact Or.inl y
        · by_cases y2 : 1 < p
          · exact Or.inr y2
          · obtain ⟨k, hk, e⟩ := ep_le_of (n := 1) (by decide) y y2
            have : k = 0 ∨ k = 1 := by omega
            rcases this with rfl | rfl
            · exact absurd e p0
            · exact absurd e p1
      rw [ep_J]
      rcases this with y | y
      · rw [if_pos y]
      · by_cases y2 : p < 0
        · rw [if_pos y2]
        · rw [if_neg y2, if_pos y]
    · show eF_12_move (ep_mk c0 m) p q r = _
      unfold eF_12_move
      simp only [↓ep_J]
      rw [if_neg p0, if_neg p1]
  have hp : p = 0 ∨ p = 1 := Decidable.not_not.mp hp
  by_cases hq0 : q < 0
  · refine ep_Cp_id hR (-1) (fun m0 => ?_) (fun c0 => ?_)
    · show eF_10_askDisk (ep_mk c m0) p q r = _
      unfold eF_10_askDisk
      rcases hp with rfl | rfl <;> simp (decide := true) (disch := first | assumption | decide) only [↓ep_J, ↓reduceIte, hq0]
    · show eF_12_move (ep_mk c0 m) p q r = _
      unfold eF_12_move
      rcases hp with rfl | rfl <;> simp (decide := true) (disch := first | assumption | decide) only [↓ep_J, ↓reduceIte, hq0]
  by_cases hq1 : 31 < q
  · refine ep_Cp_id hR (-1) (fun m0 => ?_) (fun c0 => ?_)
    · show eF_10_askDisk (ep_mk c m0) p q r = _
      unfold eF_10_askDisk
      rcases hp with rfl | rfl <;> simp (decide := true) (disch := first | assumption | decide) only [↓ep_J, ↓reduceIte, hq0, hq1]
    · show eF_12_move (ep_mk c0 m) p q r = _
      unfold eF_12_move
      rcases hp with rfl | rfl <;> simp (decide := true) (disch := first | assumption | decide) only [↓ep_J, ↓reduceIte, hq0, hq1]
  by_cases hr0 : r < 0
  · refine ep_Cp_id hR (-1) (fun m0 => ?_) (fun c0 => ?_)
    · show eF_10_askDisk (ep_mk c m0) p q r = _
      unfold eF_10_askDisk
      by_cases y : r &&& 3 = 0
      · rcases hp with rfl | rfl <;> simp (decide := true) (disch := first | assumption | decide) only [↓ep_J, ↓reduceIte, hq0, hq1, hr0, y]
      · rcases hp with rfl | rfl <;> simp (decide := true) (disch := first | assumption | decide) only [↓ep_J, ↓reduceIte, hq0, hq1, hr0, y]
    · show eF_12_move (ep_mk c0 m) p q r = _
      unfold eF_12_move
      rcases hp with rfl | rfl <;> simp (decide := true) (disch := first | assumption | decide) only [↓ep_J, ↓reduceIte, hq0, hq1, hr0]
  by_cases hr3 : ¬ r &&& 3 = 0
  · refine ep_Cp_id hR (-1) (fun m0 => ?_) (fun c0 => ?_)
    · show eF_10_askDisk (ep_mk c m0) p q r = _
      unfold eF_10_askDisk
      rcases hp with rfl | rfl <;> simp (decide := true) (disch := first | assumption | decide) only [↓ep_J, ↓reduceIte, hq0, hq1, hr3]
    · show eF_12_move (ep_mk c0 m) p q r = _
      unfold eF_12_move
      rcases hp with rfl | rfl <;> simp (decide := true) (disch := first | assumption | decide) only [↓ep_J, ↓reduceIte, hq0, hq1, hr0, hr4, hr3]
  have hr3 : r &&& 3 = 0 := Decidable.not_not.mp hr3
  by_cases hr1 : 130816 < r
  · refine ep_Cp_id hR (-1) (fun m0 => ?_) (fun c0 => ?_)
    · show eF_10_askDisk (ep_mk c m0) p q r = _
      unfold eF_10_askDisk
      rcases hp with rfl | rfl <;> simp (decide := true) (disch := first | assumption | decide) only [↓ep_J, ↓reduceIte, hq0, hq1, hr0, hr1, hr3]
    · show eF_12_move (ep_mk c0 m) p q r = _
      unfold eF_12_move
      rcases hp with rfl | rfl <;> simp (decide := true) (disch := first | assumption | decide) only [↓ep_J, ↓reduceIte, hq0, hq1, hr0, hr4, hr3, hr1]
  have hcask : ∀ m0, eF_10_askDisk (ep_mk c m0) p q r = Option.bind (eF_0_ask (ep_mk c m0) p q r) (fun q14 => some (q14.1, q14.2)) := by
    intro m0
    unfold eF_10_askDisk
    rcases hp with rfl | rfl <;> simp (decide := true) (disch := first | assumption | decide) only [↓ep_J, ↓reduceIte, hq0, hq1, hr0, hr1, hr3]
  have hnz : eh_nz p = p := by rcases hp with rfl | rfl <;> rfl
  have d58 : m.1 127 58 = nI n := by rw [← d5]; exact d11
  by_cases hn : n < 4
  · have z1 : ¬ nI n < 0 := nI_pos (by omega)
    have z2 : nI n < 4 := ep_lt (b := 4) hn (by decide) rfl
    have z3 : eh_in (nI n) 4 = true := ep_in hn (by decide)
    have z4 : eh_ix (nI n) = n := ep_ix (by omega)
    have z5 : ¬ nI n = 4 := fun z => by have := (nI_eq (b := 4) (by omega) (by decide)).mp z; omega
    refine ⟨nI (n + 1), ep_cI (ep_cI (ep_cI (ep_cI (ep_cI c 14 n p) 15 n q) 16 n r) 17 n 0) 12 7 (nI (n + 1)), ep_mI (ep_mI (ep_mI (ep_mI (ep_mI m 176 n p) 177 n q) 178 n r) 179 n 0) 127 58 (nI (n + 1)), fun m0 => ?_, fun c0 => ?_, ⟨hR.1, hR.2.1, hR.2.2.1, hR.2.2.2.1, hR.2.2.2.2.1, hR.2.2.2.2.2.1, hR.2.2.2.2.2.2.1, hR.2.2.2.2.2.2.2.1, hR.2.2.2.2.2.2.2.2.1, hR.2.2.2.2.2.2.2.2.2.1, hR.2.2.2.2.2.2.2.2.2.2.1, hR.2.2.2.2.2.2.2.2.2.2.2.1, hR.2.2.2.2.2.2.2.2.2.2.2.2.1, hR.2.2.2.2.2.2.2.2.2.2.2.2.2.1, hR.2.2.2.2.2.2.2.2.2.2.2.2.2.2.1, hR.2.2.2.2.2.2.2.2.2.2.2.2.2.2.2.1, hR.2.2.2.2.2.2.2.2.2.2.2.2.2.2.2.2.1, hR.2.2.2.2.2.2.2.2.2.2.2.2.2.2.2.2.2.1, hR.2.2.2.2.2.2.2.2.2.2.2.2.2.2.2.2.2.2.1, hR.2.2.2.2.2.2.2.2.2.2.2.2.2.2.2.2.2.2.2.1, hR.2.2.2.2.2.2.2.2.2.2.2.2.2.2.2.2.2.2.2.2.1, hR.2.2.2.2.2.2.2.2.2.2.2.2.2.2.2.2.2.2.2.2.2.1, hR.2.2.2.2.2.2.2.2.2.2.2.2.2.2.2.2.2.2.2.2.2.2.1, hR.2.2.2.2.2.2.2.2.2.2.2.2.2.2.2.2.2.2.2.2.2.2.2.1, hR.2.2.2.2.2.2.2.2.2.2.2.2.2.2.2.2.2.2.2.2.2.2.2.2.1, hR.2.2.2.2.2.2.2.2.2.2.2.2.2.2.2.2.2.2.2.2.2.2.2.2.2.1, hR.2.2.2.2.2.2.2.2.2.2.2.2.2.2.2.2.2.2.2.2.2.2.2.2.2.2.1, hR.2.2.2.2.2.2.2.2.2.2.2.2.2.2.2.2.2.2.2.2.2.2.2.2.2.2.2.1, ⟨d0, d1, d2, d3, d4, rfl, d6, d7, d8, d9, n + 1, by omega, rfl⟩, ?_, hR.2.2.2.2.2.2.2.2.2.2.2.2.2.2.2.2.2.2.2.2.2.2.2.2.2.2.2.2.2.2.1, hR.2.2.2.2.2.2.2.2.2.2.2.2.2.2.2.2.2.2.2.2.2.2.2.2.2.2.2.2.2.2.2.1, hR.2.2.2.2.2.2.2.2.2.2.2.2.2.2.2.2.2.2.2.2.2.2.2.2.2.2.2.2.2.2.2.2.1, hR.2.2.2.2.2.2.2.2.2.2.2.2.2.2.2.2.2.2.2.2.2.2.2.2.2.2.2.2.2.2.2.2.2⟩, ⟨rfl, rfl, fun j hj => by rcases hj with rfl | rfl | rfl <;> rfl, rfl⟩⟩
    · show eF_10_askDisk (ep_mk c m0) p q r = _
      rw [hcask m0]
      have : eF_0_ask (ep_mk c m0) p q r = some (nI (n + 1), ep_mk (ep_cI (ep_cI (ep_cI (ep_cI (ep_cI c 14 n p) 15 n q) 16 n r) 17 n 0) 12 7 (nI (n + 1))) m0) := by
        unfold eF_0_ask
        simp (disch := first | assumption | decide) only [↓ep_V, ↓ep_J, ↓ep_sb, ↓reduceIte, ep_rC1, ep_rC2, ep_rM, ep_rJ, ep_rQ, ep_wC1, ep_wC2, ep_wM, ep_iC1, ep_iC2, ep_iM, ep_wJ, ep_wQ, ep_cI1, ep_cIn, ep_cI2, ep_cL1, ep_cLn, ep_cL2, ep_cG1, ep_cGq, ep_cQ1, ep_cQ2, ep_cQq, ep_cQn, ep_mI1, ep_mIn, ep_mI2, ep_mL1, ep_mLn, ep_mL2, ep_mJ1, ep_mJ2, d11, z1, z2, z3, z4, hnz, nI_1, ep_upd_eq]
      rw [this]; rfl
    · show eF_12_move (ep_mk c0 m) p q r = _
      unfold eF_12_move
      have key : (if eh_in ((ep_mk c0 m).1 127 58) 4 then eh_V (eh_tI (ep_mk c0 m) 176 (eh_ix ((ep_mk c0 m).1 127 58)) p) (fun s11 => if eh_in (s11.1 127 58) 4 then eh_V (eh_tI s11 177 (eh_ix (s11.1 127 58)) q) (fun s12 => if eh_in (s12.1 127 58) 4 then eh_V (eh_tI s12 178 (eh_ix (s12.1 127 58)) r) (fun s13 => if eh_in (s13.1 127 58) 4 then eh_V (eh_tI s13 179 (eh_ix (s13.1 127 58)) 0) (fun s14 => eh_V (eh_tI s14 127 58 ((s14.1 127 58) + 1)) (fun s15 => some ((s15.1 127 58), s15))) else none) else none) else none) else none) = some (nI (n + 1), ep_mk c0 (ep_mI (ep_mI (ep_mI (ep_mI (ep_mI m 176 n p) 177 n q) 178 n r) 179 n 0) 127 58 (nI (n + 1)))) := by
        simp (disch := first | assumption | decide) only [↓ep_V, ↓ep_J, ↓ep_sb, ↓reduceIte, ep_rC1, ep_rC2, ep_rM, ep_rJ, ep_rQ, ep_wC1, ep_wC2, ep_wM, ep_iC1, ep_iC2, ep_iM, ep_wJ, ep_wQ, ep_cI1, ep_cIn, ep_cI2, ep_cL1, ep_cLn, ep_cL2, ep_cG1, ep_cGq, ep_cQ1, ep_cQ2, ep_cQq, ep_cQn, ep_mI1, ep_mIn, ep_mI2, ep_mL1, ep_mLn, ep_mL2, ep_mJ1, ep_mJ2, d58, z3, z4, nI_1, ep_upd_eq]
      have h58 : ¬ (ep_mk c0 m).1 127 58 = 4 := by rw [ep_rM _ _ _ (by decide), d58]; exact z5
      simp only [↓ep_J]
      rw [key]
      rcases hp with rfl | rfl <;> simp (decide := true) (disch := first | assumption | decide) only [↓reduceIte, hq0, hq1, hr0, hr4, hr3, hr1, h58]
    · refine ⟨?_, ?_, ?_, ?_, ?_⟩
      · show upd (c.1 14) n p = upd (m.1 176) n p; rw [a1]
      · show upd (c.1 15) n q = upd (m.1 177) n q; rw [a2]
      · show upd (c.1 16) n r = upd (m.1 178) n r; rw [a3]
      · show upd (c.1 17) n 0 = upd (m.1 179) n 0; rw [a4]
      · intro n' i hn' hn4 hi
        have e1 : n' = n + 1 := by
          have : nI (n + 1) = nI n' := hn'
          exact ((nI_eq (by omega) (by omega)).mp this).symm
        subst e1
        show ep_bo (upd (m.1 176) n p i) ∧ (∃ x, x < 32 ∧ upd (m.1 177) n q i = nI x) ∧ ∃ x, x ≤ 32704 ∧ upd (m.1 178) n r i = nI (4 * x)
        by_cases e2 : i = n
        · subst e2
          rw [ep_upd_eq, ep_upd_eq, ep_upd_eq]
          obtain ⟨k, hk, ek⟩ := ep_le_of (n := 31) (by decide) hq0 hq1
          obtain ⟨l, hl, el⟩ := ep_le_of (n := 130816) (by decide) hr0 hr1
          refine ⟨hp, ⟨k, by omega, ek⟩, ⟨l / 4, by omega, ?_⟩⟩
          rw [el] at hr3 ⊢
          rw [ep_and3 (by omega), show (0 : Int32) = nI 0 from rfl, nI_eq (by omega) (by decide)] at hr3
          congr 1; omega
        · rw [ep_upd_ne e2, ep_upd_ne e2, ep_upd_ne e2]
          exact a5 n i d11 (by omega) (by omega)
  · have hn4 : n = 4 := by omega
    subst hn4
    refine ep_Cp_id hR (-5) (fun m0 => ?_) (fun c0 => ?_)
    · show eF_10_askDisk (ep_mk c m0) p q r = _
      rw [hcask m0]
      unfold eF_0_ask
      have z1 : ¬ nI 4 < 0 := by decide
      have z2 : ¬ nI 4 < 4 := by decide
      rw [ep_J, ep_rC1 _ _ 12 (by decide), d11, if_neg z1, if_neg z2]
      rfl
    · show eF_12_move (ep_mk c0 m) p q r = _
      unfold eF_12_move
      have h58 : (ep_mk c0 m).1 127 58 = 4 := by rw [ep_rM _ _ _ (by decide), d58]; rfl
      rcases hp with rfl | rfl <;> simp (decide := true) (disch := first | assumption | decide) only [↓ep_J, ↓reduceIte, hq0, hq1, hr0, hr4, hr3, hr1, h58]
theorem ep_measure {N : Nat} {c : ep_C} {m : ep_M} (hR : ep_R N c m) (p q : Int32) : ep_Cp N c m (fun s => Option.bind (eF_10_measure s p q) (fun q11 => some (q11, s))) (fun s => Option.bind (eF_12_isEnclave s p) (fun q49 => eh_J (fun (u51 : Unit) => some ((-1 : Int32), s)) (fun j50 => if q49 = 0 then (j50 ()) else (if q < 0 then (j50 ()) else (if 7 < q then (j50 ()) else (if eh_in p 6 then eh_J (fun (a56 : Int32) => some (a56, s)) (fun j55 => if (s.1 155 (eh_ix p)) = 1 then (j55 (-2)) else (Option.bind (eF_12_bigWord s 159 192 ((32 * p) + (4 * q))) (fun q58 => j55 q58))) else none)))))) := by
  cases hb : ep_inb p 6 (m.1 155) with
  | false =>
    refine ep_Cp_id hR (-1) (fun m0 => ?_) (fun c0 => ?_)
    · show Option.bind (eF_10_measure (ep_mk c m0) p q) _ = _
      unfold eF_10_measure
      rw [ep_chasE hR, ep_sb, hb, ep_J, if_pos (by decide)]; rfl
    · show Option.bind (eF_12_isEnclave (ep_mk c0 m) p) _ = _
      rw [ep_misE, ep_sb, hb, ep_J, if_pos (by decide)]
  | true =>
    obtain ⟨e, he, rfl, hE⟩ := ep_inb_t (by decide) hb
    have i6 : eh_in (nI e) 6 = true := ep_in he (by decide)
    have x6 : eh_ix (nI e) = e := ep_ix (by omega)
    have ge := (hR.2.2.2.2.2.2.2.2.2.2.2.2.2.2.2.2.1 e he).1
    by_cases hq0 : q < 0
    · refine ep_Cp_id hR (-1) (fun m0 => ?_) (fun c0 => ?_)
      · show Option.bind (eF_10_measure (ep_mk c m0) (nI e) q) _ = _
        unfold eF_10_measure
        rw [ep_chasE hR, ep_sb, hb, ep_J, if_neg (by decide), if_pos hq0]; rfl
      · show Option.bind (eF_12_isEnclave (ep_mk c0 m) (nI e)) _ = _
        rw [ep_misE, ep_sb, hb, ep_J, if_neg (by decide), if_pos hq0]
    · by_cases hq1 : 7 < q
      · refine ep_Cp_id hR (-1) (fun m0 => ?_) (fun c0 => ?_)
        · show Option.bind (eF_10_measure (ep_mk c m0) (nI e) q) _ = _
          unfold eF_10_measure
          rw [ep_chasE hR, ep_sb, hb, ep_J, if_neg (by decide), if_neg hq0, if_pos hq1]; rfl
        · show Option.bind (eF_12_isEnclave (ep_mk c0 m) (nI e)) _ = _
          rw [ep_misE, ep_sb, hb, ep_J, if_neg (by decide), if_neg hq0, if_pos hq1]
      · obtain ⟨k, hk, rfl⟩ := ep_le_of (n := 7) (by decide) hq0 hq1
        have q32 : (32 : Int32) * nI e = nI (32 * e) := ep_mul (b := 32) rfl rfl
        have q4 : (4 : Int32) * nI k = nI (4 * k) := ep_mul (b := 4) rfl rfl
        by_cases hl : m.1 155 e = 1
        · refine ep_Cp_id hR (-2) (fun m0 => ?_) (fun c0 => ?_)
          · show Option.bind (eF_10_measure (ep_mk c m0) (nI e) (nI k)) _ = _
            unfold eF_10_measure
            rw [ep_chasE hR, ep_sb, hb, ep_J, if_neg (by decide), if_neg hq0, if_neg hq1, if_pos i6, ep_J, ep_rE0 _ _ he, ge, if_pos hl]; rfl
          · show Option.bind (eF_12_isEnclave (ep_mk c0 m) (nI e)) _ = _
            rw [ep_misE, ep_sb, hb, ep_J, if_neg (by decide), if_neg hq0, if_neg hq1, if_pos i6, ep_J, x6, ep_rM _ _ 155 (by decide), if_pos hl]
        · refine ep_Cp_id hR (ep_bw (m.1 159) (32 * e + 4 * k)) (fun m0 => ?_) (fun c0 => ?_)
          · show Option.bind (eF_10_measure (ep_mk c m0) (nI e) (nI k)) _ = _
            unfold eF_10_measure
            rw [ep_chasE hR, ep_sb, hb, ep_J, if_neg (by decide), if_neg hq0, if_neg hq1, if_pos i6, ep_J, ep_rE0 _ _ he, ge, if_neg hl, if_pos (ep_in (by omega) (by decide)), show eh_ix (nI k) = k from ep_ix (by omega), ep_rE _ _ 5 he (by decide)]
            have := hR.2.2.2.2.2.2.2.2.2.2.2.2.2.2.2.2.2.2.1 e he k (by omega)
            rw [Nat.add_zero] at this
            rw [show 4 + 5 = 9 from rfl, this]; rfl
          · show Option.bind (eF_12_isEnclave (ep_mk c0 m) (nI e)) _ = _
            rw [ep_misE, ep_sb, hb, ep_J, if_neg (by decide), if_neg hq0, if_neg hq1, if_pos i6, ep_J, x6, ep_rM _ _ 155 (by decide), if_neg hl, q32, q4, nI_add, ep_mbig m 159 192 (by decide) (by omega) (by decide), ep_sb]
