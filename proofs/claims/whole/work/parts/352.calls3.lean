/-! an enclave's state becomes another one -/
theorem ep_R_E {N : Nat} {c : ep_C} {m : ep_M} (hR : ep_R N c m) {e : Nat} (he : e < 6) (hE : m.1 155 e ≠ 0) {v : Int32} (hv : v = 2 ∨ v = 3) (hrun : v = 3 → ∀ t, t < 12 → m.1 148 t = 2 → m.1 149 t ≠ nI e) : ep_R N (ep_cH c 4 e 5 v) (ep_mI m 155 e v) := by
  have hv0 : v ≠ 0 := by rcases hv with rfl | rfl <;> decide
  have hv1 : v ≠ 1 := by rcases hv with rfl | rfl <;> decide
  have up : ∀ e', upd (m.1 155) e v e' ≠ 0 → m.1 155 e' ≠ 0 := by
    intro e' h
    by_cases z : e' = e
    · subst z; exact hE
    · rw [ep_upd_ne z] at h; exact h
  have dn : ∀ e', m.1 155 e' ≠ 0 → upd (m.1 155) e v e' ≠ 0 := by
    intro e' h
    by_cases z : e' = e
    · subst z; rw [ep_upd_eq]; exact hv0
    · rw [ep_upd_ne z]; exact h
  refine ⟨hR.1, hR.2.1, hR.2.2.1, ?_, hR.2.2.2.2.1, hR.2.2.2.2.2.1, hR.2.2.2.2.2.2.1, hR.2.2.2.2.2.2.2.1, hR.2.2.2.2.2.2.2.2.1, hR.2.2.2.2.2.2.2.2.2.1, hR.2.2.2.2.2.2.2.2.2.2.1, hR.2.2.2.2.2.2.2.2.2.2.2.1, hR.2.2.2.2.2.2.2.2.2.2.2.2.1, hR.2.2.2.2.2.2.2.2.2.2.2.2.2.1, ?_, ?_, ?_, ?_, hR.2.2.2.2.2.2.2.2.2.2.2.2.2.2.2.2.2.2.1, hR.2.2.2.2.2.2.2.2.2.2.2.2.2.2.2.2.2.2.2.1, hR.2.2.2.2.2.2.2.2.2.2.2.2.2.2.2.2.2.2.2.2.1, hR.2.2.2.2.2.2.2.2.2.2.2.2.2.2.2.2.2.2.2.2.2.1, ?_, hR.2.2.2.2.2.2.2.2.2.2.2.2.2.2.2.2.2.2.2.2.2.2.2.1, hR.2.2.2.2.2.2.2.2.2.2.2.2.2.2.2.2.2.2.2.2.2.2.2.2.1, hR.2.2.2.2.2.2.2.2.2.2.2.2.2.2.2.2.2.2.2.2.2.2.2.2.2.1, hR.2.2.2.2.2.2.2.2.2.2.2.2.2.2.2.2.2.2.2.2.2.2.2.2.2.2.1, hR.2.2.2.2.2.2.2.2.2.2.2.2.2.2.2.2.2.2.2.2.2.2.2.2.2.2.2.1, hR.2.2.2.2.2.2.2.2.2.2.2.2.2.2.2.2.2.2.2.2.2.2.2.2.2.2.2.2.1, hR.2.2.2.2.2.2.2.2.2.2.2.2.2.2.2.2.2.2.2.2.2.2.2.2.2.2.2.2.2.1, hR.2.2.2.2.2.2.2.2.2.2.2.2.2.2.2.2.2.2.2.2.2.2.2.2.2.2.2.2.2.2.1, hR.2.2.2.2.2.2.2.2.2.2.2.2.2.2.2.2.2.2.2.2.2.2.2.2.2.2.2.2.2.2.2.1, hR.2.2.2.2.2.2.2.2.2.2.2.2.2.2.2.2.2.2.2.2.2.2.2.2.2.2.2.2.2.2.2.2.1, hR.2.2.2.2.2.2.2.2.2.2.2.2.2.2.2.2.2.2.2.2.2.2.2.2.2.2.2.2.2.2.2.2.2⟩
  · show ep_Gr (m.1 164) (m.1 165) (m.1 166) (m.1 167) (m.1 168) (c.1 10) (upd (m.1 155) e v) (m.1 156)
    obtain ⟨h1, h2, h3⟩ := hR.2.2.2.1
    refine ⟨fun k hk hs => ?_, h2, fun e' he' hE' => h3 e' he' (up e' hE')⟩
    obtain ⟨a, b, ⟨x, y1, y2, y3, y4⟩, d, f⟩ := h1 k hk hs
    exact ⟨a, b, ⟨x, y1, y2, dn x y3, y4⟩, fun z => let ⟨x, y1, y2, y3, y4⟩ := d z; ⟨x, y1, y2, dn x y3, y4⟩, f⟩
  · intro h' hh'
    rcases hR.2.2.2.2.2.2.2.2.2.2.2.2.2.2.1 h' hh' with z | ⟨t, e', z1, z2, z3, z4, z5, z6⟩
    · exact Or.inl z
    · refine Or.inr ⟨t, e', z1, z2, z3, z4, z5, ?_⟩
      show upd (m.1 155) e v e' = 2
      by_cases y : e' = e
      · subst y
        rw [ep_upd_eq]
        rcases hv with hv | hv
        · exact hv
        · exact absurd z5 (hrun hv t z1 z4)
      · rw [ep_upd_ne y]; exact z6
  · intro t ht hs
    obtain ⟨a, e', b1, b2, b3⟩ := hR.2.2.2.2.2.2.2.2.2.2.2.2.2.2.2.1 t ht hs
    exact ⟨a, e', b1, b2, dn e' b3⟩
  · intro e' he'
    obtain ⟨a5, a6, a7, a8, a9, a11, a12, a13, a14⟩ := hR.2.2.2.2.2.2.2.2.2.2.2.2.2.2.2.2.1 e' he'
    by_cases y : e' = e
    · subst y
      rw [ep_cHs]
      refine ⟨(by show upd (c.2.1 4 e') 5 v 5 = upd (m.1 155) e' v e'; rw [ep_upd_eq, ep_upd_eq]), a6, a7, a8, a9, a11, a12, ?_, ?_⟩
      · show upd (m.1 155) e' v e' = 0 ∨ upd (m.1 155) e' v e' = 1 ∨ upd (m.1 155) e' v e' = 2 ∨ upd (m.1 155) e' v e' = 3
        rw [ep_upd_eq]
        rcases hv with rfl | rfl
        · exact Or.inr (Or.inr (Or.inl rfl))
        · exact Or.inr (Or.inr (Or.inr rfl))
      · show upd (m.1 155) e' v e' = 1 → _
        rw [ep_upd_eq]
        exact fun z => absurd z hv1
    · rw [ep_cHh _ _ _ _ _ _ y]
      refine ⟨(by show c.2.1 4 e' 5 = upd (m.1 155) e v e'; rw [ep_upd_ne y]; exact a5), a6, a7, a8, a9, a11, a12, ?_, ?_⟩
      · show upd (m.1 155) e v e' = 0 ∨ upd (m.1 155) e v e' = 1 ∨ upd (m.1 155) e v e' = 2 ∨ upd (m.1 155) e v e' = 3
        rw [ep_upd_ne y]; exact a13
      · show upd (m.1 155) e v e' = 1 → _
        rw [ep_upd_ne y]; exact a14
  · intro e' he' hE'
    have g := hR.2.2.2.2.2.2.2.2.2.2.2.2.2.2.2.2.2.1 e' he' (up e' hE')
    by_cases y : e' = e
    · subst y; rw [ep_cHs]; exact g
    · rw [ep_cHh _ _ _ _ _ _ y]; exact g
  · intro e' he' hE'
    have hE2 : upd (m.1 155) e v e' = 1 := hE'
    by_cases y : e' = e
    · subst y; rw [ep_upd_eq] at hE2; exact absurd hE2 hv1
    · rw [ep_upd_ne y] at hE2
      exact hR.2.2.2.2.2.2.2.2.2.2.2.2.2.2.2.2.2.2.2.2.2.2.1 e' he' hE2
theorem ep_stop_ {N : Nat} {c : ep_C} {m : ep_M} (hR : ep_R N c m) (p : Int32) : ep_Cp N c m (fun s => eF_10_stop s p) (fun s => eF_12_stop s p) := by
  cases hb : ep_inb p 6 (m.1 155) with
  | false =>
    refine ep_Cp_id hR (-1) (fun m0 => ?_) (fun c0 => ?_)
    · show eF_10_stop (ep_mk c m0) p = _
      unfold eF_10_stop
      rw [ep_chasE hR, ep_sb, hb, if_pos (by decide)]
    · show eF_12_stop (ep_mk c0 m) p = _
      unfold eF_12_stop
      rw [ep_misE, ep_sb, hb, if_pos (by decide)]
  | true =>
    obtain ⟨e, he, rfl, hE⟩ := ep_inb_t (by decide) hb
    have i6 : eh_in (nI e) 6 = true := ep_in he (by decide)
    have x6 : eh_ix (nI e) = e := ep_ix (by omega)
    have ge := (hR.2.2.2.2.2.2.2.2.2.2.2.2.2.2.2.2.1 e he).1
    by_cases h2 : m.1 155 e = 2
    · let b : Nat → Bool := fun t => !(decide (m.1 148 t = 2) && decide (m.1 149 t = nI e))
      have cl : ∀ m0 {γ : Type} (K : Unit ⊕ Unit → Option γ) (R : Option γ), ((∀ t, t < 12 → b t = true) → K (.inl ()) = R) → ((∃ t, t < 12 ∧ b t = false) → K (.inr ()) = R) → Option.bind (eh_loop (fun (r11 : (Int32) → Option ((Unit) ⊕ (Unit))) (t5 : Int32) => if t5 < 12 then (if eh_in t5 12 then eh_J (fun (u15 : Unit) => eh_V ((t5 + 1) : Int32) (fun x16 => r11 x16)) (fun j14 => if ((ep_mk c m0).1 (eh_fp t5) 6) = 2 then (if eh_in t5 12 then if ((ep_mk c m0).1 (eh_fp t5) 3) = nI e then (some (.inr ())) else (j14 ()) else none) else (j14 ())) else none) else (some (.inl ()))) eh_FU 0) K = R := by
        intro m0 γ K R k1 k2
        refine ep_lpf (fun i => nI i) 12 b (fun _ => .inr ()) (.inl ()) (by decide) rfl ?_ ?_ ?_ k1 (fun j hj hb _ => k2 ⟨j, hj, hb⟩)
        · intro t ht hbt rec
          have z1 : nI t < 12 := ep_lt (b := 12) ht (by decide) rfl
          have z2 : eh_in (nI t) 12 = true := ep_in ht (by decide)
          have g := hR.2.2.2.2.2.2.2.2.2.2.1 t ht
          simp only [z1, z2, if_true, ↓ep_J, ep_V, nI_1]
          rw [ep_rF0 _ _ ht, g.2.2.2.2.2.1, g.2.2.1]
          simp only [b] at hbt
          by_cases y1 : m.1 148 t = 2
          · by_cases y2 : m.1 149 t = nI e
            · simp [y1, y2] at hbt
            · simp [y1, y2]
          · simp [y1]
        · intro t ht hbt rec
          have z1 : nI t < 12 := ep_lt (b := 12) ht (by decide) rfl
          have z2 : eh_in (nI t) 12 = true := ep_in ht (by decide)
          have g := hR.2.2.2.2.2.2.2.2.2.2.1 t ht
          simp only [z1, z2, if_true, ↓ep_J, ep_V, nI_1]
          rw [ep_rF0 _ _ ht, g.2.2.2.2.2.1, g.2.2.1]
          simp only [b] at hbt
          by_cases y1 : m.1 148 t = 2
          · by_cases y2 : m.1 149 t = nI e
            · simp [y1, y2]
            · simp [y1, y2] at hbt
          · simp [y1] at hbt
        · intro rec
          have z1 : ¬ nI 12 < 12 := by decide
          simp only [z1, if_false]
      have ml : ∀ c0 {γ : Type} (K : Unit ⊕ Unit → Option γ) (R : Option γ), ((∀ t, t < 12 → b t = true) → K (.inl ()) = R) → ((∃ t, t < 12 ∧ b t = false) → K (.inr ()) = R) → Option.bind (eh_loop (fun (r9 : (Int32) → Option ((Unit) ⊕ (Unit))) (t4 : Int32) => if t4 < 12 then (if eh_in t4 12 then eh_J (fun (u12 : Unit) => eh_V ((t4 + 1) : Int32) (fun x13 => r9 x13)) (fun j11 => if ((ep_mk c0 m).1 148 (eh_ix t4)) = 2 then (if eh_in t4 12 then if ((ep_mk c0 m).1 149 (eh_ix t4)) = nI e then (some (.inr ())) else (j11 ()) else none) else (j11 ())) else none) else (some (.inl ()))) eh_FU 0) K = R := by
        intro c0 γ K R k1 k2
        refine ep_lpf (fun i => nI i) 12 b (fun _ => .inr ()) (.inl ()) (by decide) rfl ?_ ?_ ?_ k1 (fun j hj hb _ => k2 ⟨j, hj, hb⟩)
        · intro t ht hbt rec
          have z1 : nI t < 12 := ep_lt (b := 12) ht (by decide) rfl
          have z2 : eh_in (nI t) 12 = true := ep_in ht (by decide)
          have z3 : eh_ix (nI t) = t := ep_ix (by omega)
          simp only [z1, z2, z3, if_true, ↓ep_J, ep_V, nI_1]
          rw [ep_rM _ _ 148 (by decide), ep_rM _ _ 149 (by decide)]
          simp only [b] at hbt
          by_cases y1 : m.1 148 t = 2
          · by_cases y2 : m.1 149 t = nI e
            · simp [y1, y2] at hbt
            · simp [y1, y2]
          · simp [y1]
        · intro t ht hbt rec
          have z1 : nI t < 12 := ep_lt (b := 12) ht (by decide) rfl
          have z2 : eh_in (nI t) 12 = true := ep_in ht (by decide)
          have z3 : eh_ix (nI t) = t := ep_ix (by omega)
          simp only [z1, z2, z3, if_true, ↓ep_J, ep_V, nI_1]
          rw [ep_rM _ _ 148 (by decide), ep_rM _ _ 149 (by decide)]
          simp only [b] at hbt
          by_cases y1 : m.1 148 t = 2
          · by_cases y2 : m.1 149 t = nI e
            · simp [y1, y2]
            · simp [y1, y2] at hbt
          · simp [y1] at hbt
        · intro rec
          have z1 : ¬ nI 12 < 12 := by decide
          simp only [z1, if_false]
      by_cases hall : ∀ t, t < 12 → b t = true
      · have hrun : ∀ t, t < 12 → m.1 148 t = 2 → m.1 149 t ≠ nI e := by
          intro t ht z1 z2
          have := hall t ht
          simp [b, z1, z2] at this
        have hne : ¬ ∃ t, t < 12 ∧ b t = false := by
          intro ⟨t, ht, z⟩
          rw [hall t ht] at z; exact absurd z (by decide)
        refine ⟨0, _, _, fun m0 => ?_, fun c0 => ?_, ep_R_E hR he hE (v := 3) (Or.inr rfl) (fun _ => hrun), ⟨rfl, rfl, fun j hj => by rcases hj with rfl | rfl | rfl <;> rfl, rfl⟩⟩
        · show eF_10_stop (ep_mk c m0) (nI e) = _
          unfold eF_10_stop
          rw [ep_chasE hR, ep_sb, hb, if_neg (by decide), if_pos i6, ep_rE0 _ _ he, ge, if_pos h2]
          refine cl m0 _ _ (fun _ => ?_) (fun z => absurd z hne)
          simp only [Sum.elim_inl]
          rw [if_pos i6, ep_V, ep_iE0 _ _ _ _ he]
        · show eF_12_stop (ep_mk c0 m) (nI e) = _
          unfold eF_12_stop
          rw [ep_misE, ep_sb, hb, if_neg (by decide), if_pos i6, x6, ep_rM _ _ 155 (by decide), if_pos h2]
          refine ml c0 _ _ (fun _ => ?_) (fun z => absurd z hne)
          simp only [Sum.elim_inl]
          rw [if_pos i6, ep_V, ep_iM _ _ _ _ _ (by decide)]
      · refine ep_Cp_id hR (-3) (fun m0 => ?_) (fun c0 => ?_)
        · show eF_10_stop (ep_mk c m0) (nI e) = _
          unfold eF_10_stop
          rw [ep_chasE hR, ep_sb, hb, if_neg (by decide), if_pos i6, ep_rE0 _ _ he, ge, if_pos h2]
          refine cl m0 _ _ (fun z => absurd z hall) (fun _ => ?_)
          rfl
        · show eF_12_stop (ep_mk c0 m) (nI e) = _
          unfold eF_12_stop
          rw [ep_misE, ep_sb, hb, if_neg (by decide), if_pos i6, x6, ep_rM _ _ 155 (by decide), if_pos h2]
          refine ml c0 _ _ (fun z => absurd z hall) (fun _ => ?_)
          rfl
    · refine ep_Cp_id hR (-2) (fun m0 => ?_) (fun c0 => ?_)
      · show eF_10_stop (ep_mk c m0) (nI e) = _
        unfold eF_10_stop
        rw [ep_chasE hR, ep_sb, hb, if_neg (by decide), if_pos i6, ep_rE0 _ _ he, ge, if_neg h2]
      · show eF_12_stop (ep_mk c0 m) (nI e) = _
        unfold eF_12_stop
        rw [ep_misE, ep_sb, hb, if_neg (by decide), if_pos i6, x6, ep_rM _ _ 155 (by decide), if_neg h2]
theorem ep_look_ {N : Nat} {c : ep_C} {m : ep_M} (hR : ep_R N c m) (p q : Int32) : ep_Cp N c m (fun s => Option.bind (eF_10_look s p q) (fun q13 => some (q13, s))) (fun s => Option.bind (eF_12_isEnclave s p) (fun q60 => eh_J (fun (u62 : Unit) => some ((-1 : Int32), s)) (fun j61 => if q60 = 0 then (j61 ()) else (if q < 0 then (j61 ()) else (if (eh_rem q 4) = 0 then (if eh_in p 6 then if eh_in (s.1 156 (eh_ix p)) 12 then if q < (s.1 166 (eh_ix (s.1 156 (eh_ix p)))) then (if eh_in p 6 then eh_J (fun (a68 : Int32) => some (a68, s)) (fun j67 => eh_J (fun (u70 : Unit) => j67 (-6)) (fun j69 => if (s.1 155 (eh_ix p)) = 1 then (j69 ()) else (if eh_in p 6 then if (s.1 157 (eh_ix p)) = 1 then (if eh_in p 6 then if eh_in (s.1 156 (eh_ix p)) 12 then Option.bind (eF_12_littleWord s 128 131072 ((s.1 165 (eh_ix (s.1 156 (eh_ix p)))) + q)) (fun q73 => j67 q73) else none else none) else (j69 ()) else none))) else none) else (j61 ()) else none else none) else (j61 ())))))) := by
  have hr4 := ep_rem4 q
  cases hb : ep_inb p 6 (m.1 155) with
  | false =>
    refine ep_Cp_id hR (-1) (fun m0 => ?_) (fun c0 => ?_)
    · show Option.bind (eF_10_look (ep_mk c m0) p q) _ = _
      unfold eF_10_look
      rw [ep_chasE hR, ep_sb, hb, ep_J, if_pos (by decide)]; rfl
    · show Option.bind (eF_12_isEnclave (ep_mk c0 m) p) _ = _
      rw [ep_misE, ep_sb, hb, ep_J, if_pos (by decide)]
  | true =>
    obtain ⟨e, he, rfl, hE⟩ := ep_inb_t (by decide) hb
    obtain ⟨w, b, n, hw, hwe, hwS, n0, bn, hB, hZ, cb, cs, hP⟩ := ep_ownR hR he hE
    have i6 : eh_in (nI e) 6 = true := ep_in he (by decide)
    have x6 : eh_ix (nI e) = e := ep_ix (by omega)
    have i12 : eh_in (nI w) 12 = true := ep_in hw (by decide)
    have x12 : eh_ix (nI w) = w := ep_ix (by omega)
    have ge := hR.2.2.2.2.2.2.2.2.2.2.2.2.2.2.2.2.1 e he
    by_cases hq0 : q < 0
    · refine ep_Cp_id hR (-1) (fun m0 => ?_) (fun c0 => ?_)
      · show Option.bind (eF_10_look (ep_mk c m0) (nI e) q) _ = _
        unfold eF_10_look
        rw [ep_chasE hR, ep_sb, hb, ep_J, if_neg (by decide)]
        by_cases y : q &&& 3 = 0
        · rw [if_pos y, ep_J, if_pos hq0]; rfl
        · rw [if_neg y]; rfl
      · show Option.bind (eF_12_isEnclave (ep_mk c0 m) (nI e)) _ = _
        rw [ep_misE, ep_sb, hb, ep_J, if_neg (by decide), if_pos hq0]
    · by_cases h3 : ¬ q &&& 3 = 0
      · refine ep_Cp_id hR (-1) (fun m0 => ?_) (fun c0 => ?_)
        · show Option.bind (eF_10_look (ep_mk c m0) (nI e) q) _ = _
          unfold eF_10_look
          rw [ep_chasE hR, ep_sb, hb, ep_J, if_neg (by decide), if_neg h3]; rfl
        · show Option.bind (eF_12_isEnclave (ep_mk c0 m) (nI e)) _ = _
          rw [ep_misE, ep_sb, hb, ep_J, if_neg (by decide), if_neg hq0, if_neg (fun z => h3 (hr4.mp z))]
      · have h3 : q &&& 3 = 0 := Decidable.not_not.mp h3
        by_cases hsz : q < nI (256 * n)
        · obtain ⟨k, hk, rfl⟩ := nI_of hq0
          have hk2 : k < 256 * n := (nI_ltI hk (by omega)).mp hsz
          have hk4 : k % 4 = 0 := by
            rw [ep_and3 (by omega), show (0 : Int32) = nI 0 from rfl, nI_eq (by omega) (by decide)] at h3
            exact h3
          have hw1 : ∀ m0, eF_6_wordAt (ep_mk c m0) (nI (256 * b) + nI k) = some (ep_lw (m.1 128) (256 * b + k)) := fun m0 => by rw [nI_add, ep_cwrd hR (by omega) (by omega)]
          by_cases hfl : m.1 157 e = 1
          · have hl1 : ¬ m.1 155 e = 1 := fun z => by have := ge.2.2.2.2.2.2.2.2 z; rw [hfl] at this; exact absurd this (by decide)
            refine ep_Cp_id hR (ep_lw (m.1 128) (256 * b + k)) (fun m0 => ?_) (fun c0 => ?_)
            · show Option.bind (eF_10_look (ep_mk c m0) (nI e) (nI k)) _ = _
              unfold eF_10_look
              rw [ep_chasE hR, ep_sb, hb, ep_J, if_neg (by decide), if_pos h3, ep_J, if_neg hq0, cs, ep_sb, if_pos hsz, if_pos i6, ep_J, ep_rE0 _ _ he, ge.2.2.1, if_pos hfl, cb, ep_sb, hw1, ep_sb]; rfl
            · show Option.bind (eF_12_isEnclave (ep_mk c0 m) (nI e)) _ = _
              rw [ep_misE, ep_sb, hb, ep_J, if_neg (by decide), if_neg hq0, if_pos (hr4.mpr h3), if_pos i6, x6, ep_rM _ _ 156 (by decide), hwe, if_pos i12, x12, ep_rM _ _ 166 (by decide), hZ, if_pos hsz, if_pos i6, ep_J, ep_J, ep_rM _ _ 155 (by decide), if_neg hl1, if_pos i6, ep_rM _ _ 157 (by decide), if_pos hfl, if_pos i6, if_pos i12, ep_rM _ _ 165 (by decide), hB, nI_add, ep_mlittle m 128 131072 (by decide) (by omega) (by decide), ep_sb]
          · refine ep_Cp_id hR (-6) (fun m0 => ?_) (fun c0 => ?_)
            · show Option.bind (eF_10_look (ep_mk c m0) (nI e) (nI k)) _ = _
              unfold eF_10_look
              rw [ep_chasE hR, ep_sb, hb, ep_J, if_neg (by decide), if_pos h3, ep_J, if_neg hq0, cs, ep_sb, if_pos hsz, if_pos i6, ep_J, ep_rE0 _ _ he, ge.2.2.1, if_neg hfl]; rfl
            · show Option.bind (eF_12_isEnclave (ep_mk c0 m) (nI e)) _ = _
              rw [ep_misE, ep_sb, hb, ep_J, if_neg (by decide), if_neg hq0, if_pos (hr4.mpr h3), if_pos i6, x6, ep_rM _ _ 156 (by decide), hwe, if_pos i12, x12, ep_rM _ _ 166 (by decide), hZ, if_pos hsz, if_pos i6, ep_J, ep_J, ep_rM _ _ 155 (by decide), if_pos i6, ep_rM _ _ 157 (by decide), if_neg hfl]
              by_cases y : m.1 155 e = 1
              · rw [if_pos y]
              · rw [if_neg y]
        · refine ep_Cp_id hR (-1) (fun m0 => ?_) (fun c0 => ?_)
          · show Option.bind (eF_10_look (ep_mk c m0) (nI e) q) _ = _
            unfold eF_10_look
            rw [ep_chasE hR, ep_sb, hb, ep_J, if_neg (by decide), if_pos h3, ep_J, if_neg hq0, cs, ep_sb, if_neg hsz]; rfl
          · show Option.bind (eF_12_isEnclave (ep_mk c0 m) (nI e)) _ = _
            rw [ep_misE, ep_sb, hb, ep_J, if_neg (by decide), if_neg hq0, if_pos (hr4.mpr h3), if_pos i6, x6, ep_rM _ _ 156 (by decide), hwe, if_pos i12, x12, ep_rM _ _ 166 (by decide), hZ, if_neg hsz]
