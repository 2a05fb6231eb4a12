/-! a thread is made -/
theorem ep_rem16 {p : Int32} (h : ¬ p < 0) : eh_rem p 16 = p &&& 15 := by
  obtain ⟨k, hk, rfl⟩ := nI_of h
  have z : eh_rem (nI k) 16 = nI (k % 16) := pk_rem (d := 16) (by omega) (by decide) (by decide)
  rw [z, pk_and _ (m := 15) 4 rfl]
  have : (nI k).toBitVec.toNat = k := by show (BitVec.ofNat 32 k).toNat = _; rw [BitVec.toNat_ofNat]; omega
  rw [this]
theorem ep_R_mkt {N : Nat} {c : ep_C} {m : ep_M} (hR : ep_R N c m) {t e : Nat} (ht : t < 12) (he : e < 6) (h0 : m.1 148 t = 0) (hE : m.1 155 e ≠ 0) (hnt : ep_nt (m.1 148) (m.1 149) e 12 < 3) {X Y G : Nat → Int32} {p1 p2 : Int32} (hX : ∀ j, j < 32 → X j = Y (32 * (2 + t) + j)) (hY : ∀ k, k < 32 * (2 + t) ∨ 32 * (2 + t) + 32 ≤ k → Y k = m.1 129 k) (hp1 : ep_al p1) (hG : G 2 = 0 ∧ G 3 = nI e ∧ G 4 = p1 ∧ G 5 = p2 ∧ G 6 = 1 ∧ G 7 = -1 ∧ G 8 = 0 ∧ G 9 = 0) (hG2 : ∀ j, j = 0 ∨ 9 < j → G j = c.2.1 2 t j) : ep_R N (ep_cH (ep_cG (ep_cG c 3 t X) 2 t G) 4 e 10 (c.2.1 4 e 10 + 1)) (ep_mL (ep_mI (ep_mI (ep_mI (ep_mI (ep_mI (ep_mI (ep_mI m 148 t 1) 149 t (nI e)) 150 t p1) 151 t p2) 152 t 0) 153 t (eh_nz 0)) 130 (2 + t) 0) 129 Y) := by
  have nz : eh_nz 0 = 0 := by decide
  have c2 : ∀ t', (ep_cH (ep_cG (ep_cG c 3 t X) 2 t G) 4 e 10 (c.2.1 4 e 10 + 1)).2.1 2 t' = if t' = t then G else c.2.1 2 t' := by
    intro t'
    rw [ep_cHi _ _ _ _ _ _ _ (by decide), ep_cGe, ep_cGi _ _ _ _ _ _ (by decide)]
  have c3 : ∀ t', (ep_cH (ep_cG (ep_cG c 3 t X) 2 t G) 4 e 10 (c.2.1 4 e 10 + 1)).2.1 3 t' = if t' = t then X else c.2.1 3 t' := by
    intro t'
    rw [ep_cHi _ _ _ _ _ _ _ (by decide), ep_cGi _ _ _ _ _ _ (by decide), ep_cGe]
  have c4 : ∀ e', (ep_cH (ep_cG (ep_cG c 3 t X) 2 t G) 4 e 10 (c.2.1 4 e 10 + 1)).2.1 4 e' = if e' = e then upd (c.2.1 4 e) 10 (c.2.1 4 e 10 + 1) else c.2.1 4 e' := by
    intro e'
    rw [ep_cHe, ep_cGi _ _ _ _ _ _ (by decide), ep_cGi _ _ _ _ _ _ (by decide), ep_cGi _ _ _ _ _ _ (by decide), ep_cGi _ _ _ _ _ _ (by decide)]
  have hrun : ∀ h', h' < 2 → m.1 144 h' ≠ nI t := by
    intro h' hh' z
    rcases hR.2.2.2.2.2.2.2.2.2.2.2.2.2.2.1 h' hh' with y | ⟨t', e', y1, y2, y3, y4, y5, y6⟩
    · rw [y] at z
      have := nI_toInt (n := t) (by omega)
      rw [← z] at this
      have h1 : (-1 : Int32).toInt = -1 := by decide
      omega
    · rw [y3, nI_eq (by omega) (by omega)] at z
      subst z
      rw [h0] at y4
      exact absurd y4 (by decide)
  refine ⟨hR.1, hR.2.1, hR.2.2.1, hR.2.2.2.1, hR.2.2.2.2.1, ?_, ?_, ?_, ?_, hR.2.2.2.2.2.2.2.2.2.1, ?_, ?_, ?_, ?_, ?_, ?_, ?_, ?_, hR.2.2.2.2.2.2.2.2.2.2.2.2.2.2.2.2.2.2.1, hR.2.2.2.2.2.2.2.2.2.2.2.2.2.2.2.2.2.2.2.1, hR.2.2.2.2.2.2.2.2.2.2.2.2.2.2.2.2.2.2.2.2.1, hR.2.2.2.2.2.2.2.2.2.2.2.2.2.2.2.2.2.2.2.2.2.1, hR.2.2.2.2.2.2.2.2.2.2.2.2.2.2.2.2.2.2.2.2.2.2.1, hR.2.2.2.2.2.2.2.2.2.2.2.2.2.2.2.2.2.2.2.2.2.2.2.1, hR.2.2.2.2.2.2.2.2.2.2.2.2.2.2.2.2.2.2.2.2.2.2.2.2.1, hR.2.2.2.2.2.2.2.2.2.2.2.2.2.2.2.2.2.2.2.2.2.2.2.2.2.1, hR.2.2.2.2.2.2.2.2.2.2.2.2.2.2.2.2.2.2.2.2.2.2.2.2.2.2.1, hR.2.2.2.2.2.2.2.2.2.2.2.2.2.2.2.2.2.2.2.2.2.2.2.2.2.2.2.1, hR.2.2.2.2.2.2.2.2.2.2.2.2.2.2.2.2.2.2.2.2.2.2.2.2.2.2.2.2.1, hR.2.2.2.2.2.2.2.2.2.2.2.2.2.2.2.2.2.2.2.2.2.2.2.2.2.2.2.2.2.1, hR.2.2.2.2.2.2.2.2.2.2.2.2.2.2.2.2.2.2.2.2.2.2.2.2.2.2.2.2.2.2.1, hR.2.2.2.2.2.2.2.2.2.2.2.2.2.2.2.2.2.2.2.2.2.2.2.2.2.2.2.2.2.2.2.1, hR.2.2.2.2.2.2.2.2.2.2.2.2.2.2.2.2.2.2.2.2.2.2.2.2.2.2.2.2.2.2.2.2.1, hR.2.2.2.2.2.2.2.2.2.2.2.2.2.2.2.2.2.2.2.2.2.2.2.2.2.2.2.2.2.2.2.2.2⟩
  · intro h' hh' j hj
    show c.2.1 1 h' j = Y (32 * h' + j)
    rw [hY _ (Or.inl (by omega))]; exact hR.2.2.2.2.2.1 h' hh' j hj
  · intro h' hh'
    show Y (32 * h') = 0
    rw [hY _ (Or.inl (by omega))]; exact hR.2.2.2.2.2.2.1 h' hh'
  · intro h' hh'
    obtain ⟨a0, a2, a3⟩ := hR.2.2.2.2.2.2.2.1 h' hh'
    exact ⟨a0, (by show c.2.1 0 h' 2 = upd (m.1 130) (2 + t) 0 h'; rw [ep_upd_ne (by omega)]; exact a2), a3⟩
  · intro h' hh'
    obtain ⟨b1, b2⟩ := hR.2.2.2.2.2.2.2.2.1 h' hh'
    exact ⟨(by show ep_al (upd (m.1 130) (2 + t) 0 h'); rw [ep_upd_ne (by omega)]; exact b1), b2⟩
  · intro t' ht'
    rw [c2]
    obtain ⟨a0, a2, a3, a4, a5, a6, a8, a9, a10, a11, a12, a13⟩ := hR.2.2.2.2.2.2.2.2.2.2.1 t' ht'
    by_cases e1 : t' = t
    · subst e1
      obtain ⟨G2, G3, G4, G5, G6, G7, G8, G9⟩ := hG
      rw [if_pos rfl]
      exact ⟨(hG2 0 (by omega)).trans a0, (by rw [G2]; show (0 : Int32) = upd (m.1 130) (2 + t') 0 (2 + t'); rw [ep_upd_eq]), (by rw [G3]; show _ = upd (m.1 149) t' (nI e) t'; rw [ep_upd_eq]), (by rw [G4]; show _ = upd (m.1 150) t' p1 t'; rw [ep_upd_eq]), (by rw [G5]; show _ = upd (m.1 151) t' p2 t'; rw [ep_upd_eq]), (by rw [G6]; show _ = upd (m.1 148) t' 1 t'; rw [ep_upd_eq]), (by rw [G8]; show _ = upd (m.1 152) t' 0 t'; rw [ep_upd_eq]), (by rw [G9]; show _ = upd (m.1 153) t' (eh_nz 0) t'; rw [ep_upd_eq, nz]), (hG2 10 (by omega)).trans a10, (hG2 11 (by omega)).trans a11, (hG2 12 (by omega)).trans a12, (hG2 13 (by omega)).trans a13⟩
    · rw [if_neg e1]
      exact ⟨a0, (by show c.2.1 2 t' 2 = upd (m.1 130) (2 + t) 0 (2 + t'); rw [ep_upd_ne (by omega)]; exact a2), (by show _ = upd (m.1 149) t (nI e) t'; rw [ep_upd_ne e1]; exact a3), (by show _ = upd (m.1 150) t p1 t'; rw [ep_upd_ne e1]; exact a4), (by show _ = upd (m.1 151) t p2 t'; rw [ep_upd_ne e1]; exact a5), (by show _ = upd (m.1 148) t 1 t'; rw [ep_upd_ne e1]; exact a6), (by show c.2.1 2 t' 8 = upd (m.1 152) t 0 t'; rw [ep_upd_ne e1]; exact a8), (by show c.2.1 2 t' 9 = upd (m.1 153) t (eh_nz 0) t'; rw [ep_upd_ne e1]; exact a9), a10, a11, a12, a13⟩
  · intro t' ht'
    obtain ⟨b1, b2, b3, b4, b5⟩ := hR.2.2.2.2.2.2.2.2.2.2.2.1 t' ht'
    by_cases e1 : t' = t
    · subst e1
      exact ⟨(by show ep_al (upd (m.1 130) (2 + t') 0 (2 + t')); rw [ep_upd_eq]; rfl), (by show ep_al (upd (m.1 152) t' 0 t'); rw [ep_upd_eq]; rfl), (by show ep_bo (upd (m.1 153) t' (eh_nz 0) t'); rw [ep_upd_eq, nz]; exact Or.inl rfl), b4, b5⟩
    · exact ⟨(by show ep_al (upd (m.1 130) (2 + t) 0 (2 + t')); rw [ep_upd_ne (by omega)]; exact b1), (by show ep_al (upd (m.1 152) t 0 t'); rw [ep_upd_ne e1]; exact b2), (by show ep_bo (upd (m.1 153) t (eh_nz 0) t'); rw [ep_upd_ne e1]; exact b3), b4, b5⟩
  · intro t' ht' hs' j hj
    have hs2 : upd (m.1 148) t 1 t' ≠ 0 := hs'
    rw [c3]
    show (if t' = t then X else c.2.1 3 t') j = Y (32 * (2 + t') + j)
    by_cases e1 : t' = t
    · subst e1
      rw [if_pos rfl]; exact hX j hj
    · rw [ep_upd_ne e1] at hs2
      rw [if_neg e1, hY _ (by omega)]; exact hR.2.2.2.2.2.2.2.2.2.2.2.2.1 t' ht' hs2 j hj
  · intro t' ht' hs'
    have hs2 : upd (m.1 148) t 1 t' ≠ 0 := hs'
    rw [c2]
    show (_ ∧ upd (m.1 148) t 1 t' ≠ 2 ∧ _) ∨ ∃ h, h < 2 ∧ _ ∧ _ ∧ upd (m.1 148) t 1 t' = 2 ∧ _
    by_cases e1 : t' = t
    · subst e1; rw [if_pos rfl, ep_upd_eq]
      exact Or.inl ⟨hG.2.2.2.2.2.1, by decide, fun h hh => hrun h hh⟩
    · rw [ep_upd_ne e1] at hs2
      rw [if_neg e1, ep_upd_ne e1]; exact hR.2.2.2.2.2.2.2.2.2.2.2.2.2.1 t' ht' hs2
  · intro h' hh'
    rcases hR.2.2.2.2.2.2.2.2.2.2.2.2.2.2.1 h' hh' with y | ⟨t', e', y1, y2, y3, y4, y5, y6⟩
    · exact Or.inl y
    · have e1 : t' ≠ t := fun z => hrun h' hh' (by rw [← z]; exact y3)
      exact Or.inr ⟨t', e', y1, y2, y3, (by show upd (m.1 148) t 1 t' = 2; rw [ep_upd_ne e1]; exact y4), (by show upd (m.1 149) t (nI e) t' = _; rw [ep_upd_ne e1]; exact y5), y6⟩
  · intro t' ht' hs'
    have hs2 : upd (m.1 148) t 1 t' ≠ 0 := hs'
    show ep_al (upd (m.1 150) t p1 t') ∧ ∃ e', e' < 6 ∧ upd (m.1 149) t (nI e) t' = nI e' ∧ m.1 155 e' ≠ 0
    by_cases e1 : t' = t
    · subst e1; rw [ep_upd_eq, ep_upd_eq]; exact ⟨hp1, e, he, rfl, hE⟩
    · rw [ep_upd_ne e1] at hs2
      rw [ep_upd_ne e1, ep_upd_ne e1]; exact hR.2.2.2.2.2.2.2.2.2.2.2.2.2.2.2.1 t' ht' hs2
  · intro e' he'
    rw [c4]
    have g := hR.2.2.2.2.2.2.2.2.2.2.2.2.2.2.2.2.1 e' he'
    by_cases e1 : e' = e
    · subst e1
      rw [if_pos rfl]
      exact g
    · rw [if_neg e1]; exact g
  · intro e' he' hE'
    rw [c4]
    have g := hR.2.2.2.2.2.2.2.2.2.2.2.2.2.2.2.2.2.1 e' he' hE'
    show _ = nI (ep_nt (upd (m.1 148) t 1) (upd (m.1 149) t (nI e)) e' 12) ∧ ep_nt (upd (m.1 148) t 1) (upd (m.1 149) t (nI e)) e' 12 ≤ 3
    by_cases e1 : e' = e
    · subst e1
      rw [if_pos rfl, ep_upd_eq, ep_nt_mk h0 12 ht, g.1, nI_1]
      exact ⟨rfl, by omega⟩
    · rw [if_neg e1, ep_nt_far (a := upd (m.1 148) t 1) (b := m.1 148) (o := upd (m.1 149) t (nI e)) (o' := m.1 149) 12]
      · exact g
      · intro t' ht'
        by_cases e2 : t' = t
        · subst e2
          rw [ep_upd_eq, ep_upd_eq, h0]
          refine ⟨fun z => absurd z.2 ?_, fun z => absurd rfl z.1⟩
          rw [nI_eq (by omega) (by omega)]
          exact fun z => e1 z.symm
        · rw [ep_upd_ne e2, ep_upd_ne e2]
theorem ep_nums3 (s : Option eh_F) (th : Nat) (a b d : Int32) : ep_cnumE s th [a, b, d] = Option.bind (Option.bind (Option.bind s fun q => eF_9_feedNumber q th a) (fun q => eF_9_feedNumber q th b)) (fun q => eF_9_feedNumber q th d) := rfl
theorem ep_mnums3 (s : Option eh_F) (e : Int32) (a b d : Int32) : ep_mnumE s e [a, b, d] = Option.bind (Option.bind (Option.bind s fun q => eF_12_addNumber q e a) (fun q => eF_12_addNumber q e b)) (fun q => eF_12_addNumber q e d) := rfl
theorem ep_bind3 {α β : Type} {x : Option α} {f g h : α → Option α} {y : α} (hz : Option.bind (Option.bind (Option.bind x f) g) h = some y) (k : α → Option β) : Option.bind x (fun q => Option.bind (f q) (fun q => Option.bind (g q) (fun q => Option.bind (h q) k))) = k y := by
  cases x with
  | none => exact absurd hz (by simp)
  | some a =>
    rw [ep_sb] at hz
    rw [ep_sb]
    cases hf : f a with
    | none => rw [hf] at hz; exact absurd hz (by simp)
    | some b =>
      rw [hf, ep_sb] at hz
      rw [ep_sb]
      cases hg : g b with
      | none => rw [hg] at hz; exact absurd hz (by simp)
      | some d =>
        rw [hg, ep_sb] at hz
        rw [ep_sb, hz, ep_sb]
theorem ep_bind3' {α β : Type} {x : α} {f g h : α → Option α} {y : α} (hz : Option.bind (Option.bind (Option.bind (some x) f) g) h = some y) (k : α → Option β) : Option.bind (f x) (fun q => Option.bind (g q) (fun q => Option.bind (h q) k)) = k y := ep_bind3 hz k
theorem ep_makeThread_ {N : Nat} {c : ep_C} {m : ep_M} (hR : ep_R N c m) (hN : N + 300 < 2 ^ 28) (p q r : Int32) : ep_Cp (N + 12) c m (fun s => eF_10_makeFibre s p q r) (fun s => eF_12_makeThread s p q r) := by
  have hRm := ep_R_mono hR (show N ≤ N + 12 by omega)
  cases hb : ep_inb p 6 (m.1 155) with
  | false =>
    refine ep_Cp_id hRm (-1) (fun m0 => ?_) (fun c0 => ?_)
    · show eF_10_makeFibre (ep_mk c m0) p q r = _
      unfold eF_10_makeFibre
      rw [ep_chasE hR, ep_sb, hb, if_pos (by decide)]
    · show eF_12_makeThread (ep_mk c0 m) p q r = _
      unfold eF_12_makeThread
      rw [ep_misE, ep_sb, hb, ep_J, if_pos (by decide)]
  | true =>
    obtain ⟨e, he, rfl, hE⟩ := ep_inb_t (by decide) hb
    have i6 : eh_in (nI e) 6 = true := ep_in he (by decide)
    have x6 : eh_ix (nI e) = e := ep_ix (by omega)
    have ge := (hR.2.2.2.2.2.2.2.2.2.2.2.2.2.2.2.2.1 e he).1
    obtain ⟨w, b, n, hw, hwe, hwS, n0, bn, hB, hZ, cb, cs, hP⟩ := ep_ownR hR he hE
    have i12 : eh_in (nI w) 12 = true := ep_in hw (by decide)
    have xw : eh_ix (nI w) = w := ep_ix (by omega)
    have bt : ¬ (ep_bi true = 0) := by decide
    have q4 := ep_rem4 q
    by_cases q1 : q < 0
    · refine ep_Cp_id hRm (-1) (fun m0 => ?_) (fun c0 => ?_)
      · show eF_10_makeFibre (ep_mk c m0) (nI e) q r = _
        unfold eF_10_makeFibre
        rw [ep_chasE hR, ep_sb, hb, cs]
        simp (decide := true) (disch := first | assumption | decide) only [bt, ↓ep_J, ↓reduceIte, i6, x6, i12, xw, ↓ep_sb, q1]
        try (repeat' split) <;> rfl
      · show eF_12_makeThread (ep_mk c0 m) (nI e) q r = _
        unfold eF_12_makeThread
        rw [ep_misE, ep_sb, hb]
        simp (decide := true) (disch := first | assumption | decide) only [bt, ↓ep_J, ↓reduceIte, i6, x6, i12, xw, ↓ep_sb, q1, q4, ep_rM, hwe, hZ]
        try (repeat' split) <;> rfl
    by_cases q2 : ¬ q &&& 3 = 0
    · refine ep_Cp_id hRm (-1) (fun m0 => ?_) (fun c0 => ?_)
      · show eF_10_makeFibre (ep_mk c m0) (nI e) q r = _
        unfold eF_10_makeFibre
        rw [ep_chasE hR, ep_sb, hb, cs]
        simp (decide := true) (disch := first | assumption | decide) only [bt, ↓ep_J, ↓reduceIte, i6, x6, i12, xw, ↓ep_sb, q1, q2]
        try (repeat' split) <;> rfl
      · show eF_12_makeThread (ep_mk c0 m) (nI e) q r = _
        unfold eF_12_makeThread
        rw [ep_misE, ep_sb, hb]
        simp (decide := true) (disch := first | assumption | decide) only [bt, ↓ep_J, ↓reduceIte, i6, x6, i12, xw, ↓ep_sb, q1, q2, q4, ep_rM, hwe, hZ]
        try (repeat' split) <;> rfl
    have q2 := Decidable.not_not.mp q2
    by_cases q3 : ¬ q < nI (256 * n)
    · refine ep_Cp_id hRm (-1) (fun m0 => ?_) (fun c0 => ?_)
      · show eF_10_makeFibre (ep_mk c m0) (nI e) q r = _
        unfold eF_10_makeFibre
        rw [ep_chasE hR, ep_sb, hb, cs]
        simp (decide := true) (disch := first | assumption | decide) only [bt, ↓ep_J, ↓reduceIte, i6, x6, i12, xw, ↓ep_sb, q1, q2, q3]
        try (repeat' split) <;> rfl
      · show eF_12_makeThread (ep_mk c0 m) (nI e) q r = _
        unfold eF_12_makeThread
        rw [ep_misE, ep_sb, hb]
        simp (decide := true) (disch := first | assumption | decide) only [bt, ↓ep_J, ↓reduceIte, i6, x6, i12, xw, ↓ep_sb, q1, q2, q3, q4, ep_rM, hwe, hZ]
        try (repeat' split) <;> rfl
    have q3 := Decidable.not_not.mp q3
    by_cases r1 : r < 0
    · refine ep_Cp_id hRm (-1) (fun m0 => ?_) (fun c0 => ?_)
      · show eF_10_makeFibre (ep_mk c m0) (nI e) q r = _
        unfold eF_10_makeFibre
        rw [ep_chasE hR, ep_sb, hb, cs]
        simp (decide := true) (disch := first | assumption | decide) only [bt, ↓ep_J, ↓reduceIte, i6, x6, i12, xw, ↓ep_sb, q1, q2, q3, r1]
        try (repeat' split) <;> rfl
      · show eF_12_makeThread (ep_mk c0 m) (nI e) q r = _
        unfold eF_12_makeThread
        rw [ep_misE, ep_sb, hb]
        simp (decide := true) (disch := first | assumption | decide) only [bt, ↓ep_J, ↓reduceIte, i6, x6, i12, xw, ↓ep_sb, q1, q2, q3, r1, q4, ep_rM, hwe, hZ]
        try (repeat' split) <;> rfl
    by_cases r2 : ¬ r &&& 15 = 0
    · refine ep_Cp_id hRm (-1) (fun m0 => ?_) (fun c0 => ?_)
      · show eF_10_makeFibre (ep_mk c m0) (nI e) q r = _
        unfold eF_10_makeFibre
        rw [ep_chasE hR, ep_sb, hb, cs]
        simp (decide := true) (disch := first | assumption | decide) only [bt, ↓ep_J, ↓reduceIte, i6, x6, i12, xw, ↓ep_sb, q1, q2, q3, r1, r2]
        try (repeat' split) <;> rfl
      · show eF_12_makeThread (ep_mk c0 m) (nI e) q r = _
        unfold eF_12_makeThread
        rw [ep_misE, ep_sb, hb]
        simp (decide := true) (disch := first | assumption | decide) only [bt, ↓ep_J, ↓reduceIte, i6, x6, i12, xw, ↓ep_sb, q1, q2, q3, r1, r2, q4, ep_rM, hwe, hZ, ep_rem16 r1]
        try (repeat' split) <;> rfl
    have r2 := Decidable.not_not.mp r2
    by_cases r3 : nI (256 * n) < r
    · refine ep_Cp_id hRm (-1) (fun m0 => ?_) (fun c0 => ?_)
      · show eF_10_makeFibre (ep_mk c m0) (nI e) q r = _
        unfold eF_10_makeFibre
        rw [ep_chasE hR, ep_sb, hb, cs]
        simp (decide := true) (disch := first | assumption | decide) only [bt, ↓ep_J, ↓reduceIte, i6, x6, i12, xw, ↓ep_sb, q1, q2, q3, r1, r2, r3]
        try (repeat' split) <;> rfl
      · show eF_12_makeThread (ep_mk c0 m) (nI e) q r = _
        unfold eF_12_makeThread
        rw [ep_misE, ep_sb, hb]
        simp (decide := true) (disch := first | assumption | decide) only [bt, ↓ep_J, ↓reduceIte, i6, x6, i12, xw, ↓ep_sb, q1, q2, q3, r1, r2, r3, q4, ep_rM, hwe, hZ, ep_rem16 r1]
        try (repeat' split) <;> rfl
    by_cases hl : ¬ m.1 155 e = 1
    · refine ep_Cp_id hRm (-2) (fun m0 => ?_) (fun c0 => ?_)
      · show eF_10_makeFibre (ep_mk c m0) (nI e) q r = _
        unfold eF_10_makeFibre
        rw [ep_chasE hR, ep_sb, hb, cs]
        simp (decide := true) (disch := first | assumption | decide) only [bt, ↓ep_J, ↓reduceIte, i6, x6, i12, xw, ↓ep_sb, q1, q2, q3, r1, r2, r3, ep_rE0 _ _ he, ge, hl]
      · show eF_12_makeThread (ep_mk c0 m) (nI e) q r = _
        unfold eF_12_makeThread
        rw [ep_misE, ep_sb, hb]
        simp (decide := true) (disch := first | assumption | decide) only [bt, ↓ep_J, ↓reduceIte, i6, x6, i12, xw, ↓ep_sb, q1, q2, q3, r1, r2, r3, q4, ep_rM, hwe, hZ, ep_rem16 r1, hl]
    have hl := Decidable.not_not.mp hl
    have gn := hR.2.2.2.2.2.2.2.2.2.2.2.2.2.2.2.2.2.1 e he hE
    have n3 : (nI (ep_nt (m.1 148) (m.1 149) e 12) = 3) ↔ ep_nt (m.1 148) (m.1 149) e 12 = 3 := nI_eq (b := 3) (by omega) (by decide)
    have n3' : (nI (ep_nt (m.1 148) (m.1 149) e 12) < 3) ↔ ep_nt (m.1 148) (m.1 149) e 12 < 3 := nI_ltI (b := 3) (by omega) (by decide)
    by_cases hful : ep_lf (m.1 148) 0 12 = -1 ∨ ep_nt (m.1 148) (m.1 149) e 12 = 3
    · refine ep_Cp_id hRm (-5) (fun m0 => ?_) (fun c0 => ?_)
      · show eF_10_makeFibre (ep_mk c m0) (nI e) q r = _
        unfold eF_10_makeFibre
        rw [ep_chasE hR, ep_sb, hb, cs]
        simp (decide := true) (disch := first | assumption | decide) only [bt, ↓ep_J, ↓reduceIte, i6, x6, i12, xw, ↓ep_sb, q1, q2, q3, r1, r2, r3, ep_rE0 _ _ he, ge, hl, ep_cfreeF hR, gn.1, n3']
        by_cases y : ep_lf (m.1 148) 0 12 = -1
        · rw [if_pos y]
        · rw [if_neg y, if_neg (by have := hful.resolve_left y; omega)]
      · show eF_12_makeThread (ep_mk c0 m) (nI e) q r = _
        unfold eF_12_makeThread
        rw [ep_misE, ep_sb, hb, ep_J, if_neg bt, if_neg q1, if_pos (q4.mpr q2), if_pos i6, x6, ep_rM _ _ 156 (by decide), hwe, if_pos i12, xw, ep_rM _ _ 166 (by decide), hZ, if_pos q3, if_neg r1, ep_rem16 r1, if_pos r2, if_pos i6, if_pos i12, if_neg r3, if_pos i6, ep_rM _ _ 155 (by decide), if_pos hl, ep_mfree _ _ _ (by decide) (by decide), ep_sb, ep_J, ep_mthreads, ep_sb]
        simp only [n3]
        by_cases y : ep_lf (m.1 148) 0 12 = -1
        · rw [if_pos y]
        · rw [if_neg y, if_pos (hful.resolve_left y)]
    have hf1 : ¬ ep_lf (m.1 148) 0 12 = -1 := fun z => hful (Or.inl z)
    have hf2 : ¬ ep_nt (m.1 148) (m.1 149) e 12 = 3 := fun z => hful (Or.inr z)
    have hf3 : ep_nt (m.1 148) (m.1 149) e 12 < 3 := by have := gn.2; omega
    obtain ⟨t, -, ht, hlf, h0⟩ := (ep_lf_of (m.1 148) 12 0).resolve_left hf1
    rw [Nat.zero_add] at ht
    have it : eh_in (nI t) 12 = true := ep_in ht (by decide)
    have xt : eh_ix (nI t) = t := ep_ix (by omega)
    have q2t : (2 : Int32) + nI t = nI (2 + t) := by rw [show (2 : Int32) = nI 2 from rfl, nI_add]
    have i2t : eh_in (nI (2 + t)) 14 = true := ep_in (by omega) (by decide)
    have x2t : eh_ix (nI (2 + t)) = 2 + t := ep_ix (by omega)
    have q32 : (32 : Int32) * nI (2 + t) = nI (32 * (2 + t)) := ep_mul (b := 32) rfl rfl
    obtain ⟨X, hXd⟩ : ∃ X : Nat → Int32, X = fun j => if j < 32 then 0 else c.2.1 3 t j := ⟨_, rfl⟩
    obtain ⟨Y, hYd⟩ : ∃ Y : Nat → Int32, Y = ep_in_ (m.1 129) (32 * (2 + t)) 32 fun _ => 0 := ⟨_, rfl⟩
    obtain ⟨G, hGd⟩ : ∃ G : Nat → Int32, G = upd (upd (upd (upd (upd (upd (upd (upd (c.2.1 2 t) 3 (nI e)) 4 q) 5 r) 6 1) 7 (-1)) 2 0) 8 0) 9 0 := ⟨_, rfl⟩
    have R1 := ep_R_mkt hR ht he h0 hE hf3 (X := X) (Y := Y) (G := G) (p1 := q) (p2 := r) (by
      intro j hj
      rw [hXd, hYd]
      unfold ep_in_
      rw [if_pos (by omega)]
      show (if j < 32 then (0 : Int32) else _) = 0
      rw [if_pos hj]) (by
      intro k hk
      rw [hYd]
      unfold ep_in_
      rw [if_neg (by omega)]) q2 (by subst hGd; exact ⟨rfl, rfl, rfl, rfl, rfl, rfl, rfl, rfl⟩) (by
      intro j hj
      subst hGd
      rw [ep_upd_ne (by omega), ep_upd_ne (by omega), ep_upd_ne (by omega), ep_upd_ne (by omega), ep_upd_ne (by omega), ep_upd_ne (by omega), ep_upd_ne (by omega), ep_upd_ne (by omega)])
    generalize hc1 : ep_cH (ep_cG (ep_cG c 3 t X) 2 t G) 4 e 10 (c.2.1 4 e 10 + 1) = c1 at R1
    generalize hm1 : ep_mL (ep_mI (ep_mI (ep_mI (ep_mI (ep_mI (ep_mI (ep_mI m 148 t 1) 149 t (nI e)) 150 t q) 151 t r) 152 t 0) 153 t (eh_nz 0)) 130 (2 + t) 0) 129 Y = m1 at R1
    obtain ⟨st, s1, s2, s3, s4, s5⟩ := R1.2.2.2.2.2.2.2.2.2.2.2.2.2.2.2.2.2.2.2.2.2.2.1 e he (by subst hm1; exact hl)
    obtain ⟨c2, m2, a1, a2, a3, a4, ⟨n5, f5, g5, a5⟩, ⟨H6, B6, W6, L6, a6⟩⟩ := ep_senums he [3, q, r] R1 ⟨s4, s5⟩ s1 s2 s3 (by show N + 4 * 3 + 4 < 2 ^ 28; omega)
    refine ⟨nI t, c2, m2, fun m0 => ?_, fun c0 => ?_, a3, ?_⟩
    · show eF_10_makeFibre (ep_mk c m0) (nI e) q r = _
      unfold eF_10_makeFibre
      rw [ep_chasE hR, ep_sb, hb, if_neg bt, cs, ep_sb, ep_J, if_pos q2, if_neg q1, if_pos q3, if_pos r2, if_neg r1, if_neg r3, if_pos i6, ep_rE0 _ _ he, ge, if_pos hl, ep_cfreeF hR, ep_sb, ep_J, if_neg hf1, gn.1, if_pos (n3'.mpr hf3), hlf, if_pos it]
      have hmk : eF_2_make (ep_mk c m0) (eh_fp (nI t)) (nI e) q r = some (ep_mk (ep_cG (ep_cG c 3 t X) 2 t G) m0) := by
        unfold eF_2_make eF_2_clear
        rw [ep_V, ep_iF0 _ _ _ _ ht, ep_V, ep_iF0 _ _ _ _ ht, ep_V, ep_iF0 _ _ _ _ ht, ep_V, ep_iF0 _ _ _ _ ht, ep_V, ep_iF0 _ _ _ _ ht, ep_fill _ _ _ _ (by decide), ep_sb, ep_wF1 _ _ _ ht, ep_rF1 _ _ ht, ep_V, ep_iF0 _ _ _ _ ht, ep_V, ep_iF0 _ _ _ _ ht, ep_V, ep_iF0 _ _ _ _ ht, ep_sb]
        congr 2
        rw [hXd, hGd]
        refine Prod.ext rfl (Prod.ext ?_ rfl)
        funext i j
        simp only [ep_cH, ep_cG, ep_ug]
        by_cases h1 : i = 2
        · subst h1
          by_cases h2 : j = t
          · subst h2
            simp
          · simp [h2]
        · by_cases h3 : i = 3
          · subst h3
            by_cases h2 : j = t
            · subst h2; simp
            · simp [h2]
          · simp [h1, h3]
      rw [hmk, ep_sb, ep_V, ep_iE0 _ _ _ _ he, ep_rE0 _ _ he, ep_cGi _ _ _ _ _ _ (by decide), ep_cGi _ _ _ _ _ _ (by decide), hc1]
      have z := a1 m0
      rw [ep_nums3] at z
      exact ep_bind3' z _
    · show eF_12_makeThread (ep_mk c0 m) (nI e) q r = _
      unfold eF_12_makeThread
      rw [ep_misE, ep_sb, hb, ep_J, if_neg bt, if_neg q1, if_pos (q4.mpr q2), if_pos i6, x6, ep_rM _ _ 156 (by decide), hwe, if_pos i12, xw, ep_rM _ _ 166 (by decide), hZ, if_pos q3, if_neg r1, ep_rem16 r1, if_pos r2, if_pos i6, if_pos i12, if_neg r3, if_pos i6, ep_rM _ _ 155 (by decide), if_pos hl, ep_mfree _ _ _ (by decide) (by decide), ep_sb, ep_J, ep_mthreads, ep_sb, if_neg hf1, if_neg (fun z => hf2 (n3.mp z)), hlf, if_pos it, xt, ep_V, ep_iM _ _ _ _ _ (by decide), if_pos it, ep_V, ep_iM _ _ _ _ _ (by decide), if_pos it, ep_V, ep_iM _ _ _ _ _ (by decide), if_pos it, ep_V, ep_iM _ _ _ _ _ (by decide), if_pos it, ep_V, ep_iM _ _ _ _ _ (by decide), if_pos it, ep_V, ep_iM _ _ _ _ _ (by decide), q2t, if_pos i2t, x2t, ep_V, ep_iM _ _ _ _ _ (by decide), q32, ep_mfl _ _ 129 (32 * (2 + t)) 32 448 _ _ 32 rfl rfl (by decide) (by omega) (by decide), ep_sb]
      have z := a2 c0
      rw [ep_mnums3] at z
      subst hm1
      rw [hYd] at z
      exact ep_bind3' z _
    · rw [a5, a6]
      subst hc1 hm1
      exact ⟨rfl, rfl, fun _ _ => rfl, rfl⟩
