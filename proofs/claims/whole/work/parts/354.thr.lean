/-! a thread's registers, place and handler become others -/
def ep_cth (c : ep_C) (t : Nat) (X : Nat → Int32) (pc hd hl : Int32) : ep_C := ep_cG (ep_cG c 3 t X) 2 t (upd (upd (upd (c.2.1 2 t) 2 pc) 8 hd) 9 hl)
def ep_mth (m : ep_M) (t : Nat) (X : Nat → Int32) (pc hd hl : Int32) : ep_M := ep_mI (ep_mI (ep_mI (ep_mL m 129 X) 130 (2 + t) pc) 152 t hd) 153 t hl
theorem ep_R_thr {N : Nat} {c : ep_C} {m : ep_M} (hR : ep_R N c m) {t : Nat} (ht : t < 12) {X Y : Nat → Int32} {pc hd hl : Int32} (hX : m.1 148 t ≠ 0 → ∀ j, j < 32 → X j = Y (32 * (2 + t) + j)) (hY : ∀ k, k < 32 * (2 + t) ∨ 32 * (2 + t) + 32 ≤ k → Y k = m.1 129 k) (hpc : ep_al pc) (hhd : ep_al hd) (hhl : ep_bo hl) : ep_R N (ep_cth c t X pc hd hl) (ep_mth m t Y pc hd hl) := by
  have c2 : ∀ t', (ep_cth c t X pc hd hl).2.1 2 t' = if t' = t then upd (upd (upd (c.2.1 2 t) 2 pc) 8 hd) 9 hl else c.2.1 2 t' := by
    intro t'
    unfold ep_cth
    rw [ep_cGe, ep_cGi _ _ _ _ _ _ (by decide)]
  have c3 : ∀ t', (ep_cth c t X pc hd hl).2.1 3 t' = if t' = t then X else c.2.1 3 t' := by
    intro t'
    unfold ep_cth
    rw [ep_cGi _ _ _ _ _ _ (by decide), ep_cGe]
  refine ⟨hR.1, hR.2.1, hR.2.2.1, hR.2.2.2.1, hR.2.2.2.2.1, ?_, ?_, ?_, ?_, hR.2.2.2.2.2.2.2.2.2.1, ?_, ?_, ?_, ?_, hR.2.2.2.2.2.2.2.2.2.2.2.2.2.2.1, hR.2.2.2.2.2.2.2.2.2.2.2.2.2.2.2.1, hR.2.2.2.2.2.2.2.2.2.2.2.2.2.2.2.2.1, hR.2.2.2.2.2.2.2.2.2.2.2.2.2.2.2.2.2.1, hR.2.2.2.2.2.2.2.2.2.2.2.2.2.2.2.2.2.2.1, hR.2.2.2.2.2.2.2.2.2.2.2.2.2.2.2.2.2.2.2.1, hR.2.2.2.2.2.2.2.2.2.2.2.2.2.2.2.2.2.2.2.2.1, hR.2.2.2.2.2.2.2.2.2.2.2.2.2.2.2.2.2.2.2.2.2.1, hR.2.2.2.2.2.2.2.2.2.2.2.2.2.2.2.2.2.2.2.2.2.2.1, hR.2.2.2.2.2.2.2.2.2.2.2.2.2.2.2.2.2.2.2.2.2.2.2.1, hR.2.2.2.2.2.2.2.2.2.2.2.2.2.2.2.2.2.2.2.2.2.2.2.2.1, hR.2.2.2.2.2.2.2.2.2.2.2.2.2.2.2.2.2.2.2.2.2.2.2.2.2.1, hR.2.2.2.2.2.2.2.2.2.2.2.2.2.2.2.2.2.2.2.2.2.2.2.2.2.2.1, hR.2.2.2.2.2.2.2.2.2.2.2.2.2.2.2.2.2.2.2.2.2.2.2.2.2.2.2.1, hR.2.2.2.2.2.2.2.2.2.2.2.2.2.2.2.2.2.2.2.2.2.2.2.2.2.2.2.2.1, hR.2.2.2.2.2.2.2.2.2.2.2.2.2.2.2.2.2.2.2.2.2.2.2.2.2.2.2.2.2.1, hR.2.2.2.2.2.2.2.2.2.2.2.2.2.2.2.2.2.2.2.2.2.2.2.2.2.2.2.2.2.2.1, hR.2.2.2.2.2.2.2.2.2.2.2.2.2.2.2.2.2.2.2.2.2.2.2.2.2.2.2.2.2.2.2.1, hR.2.2.2.2.2.2.2.2.2.2.2.2.2.2.2.2.2.2.2.2.2.2.2.2.2.2.2.2.2.2.2.2.1, hR.2.2.2.2.2.2.2.2.2.2.2.2.2.2.2.2.2.2.2.2.2.2.2.2.2.2.2.2.2.2.2.2.2⟩
  · intro h' hh' j hj
    show c.2.1 1 h' j = Y (32 * h' + j)
    rw [hY _ (Or.inl (by omega))]; exact hR.2.2.2.2.2.1 h' hh' j hj
  · intro h' hh'
    show Y (32 * h') = 0
    rw [hY _ (Or.inl (by omega))]; exact hR.2.2.2.2.2.2.1 h' hh'
  · intro h' hh'
    obtain ⟨a0, a2, a3⟩ := hR.2.2.2.2.2.2.2.1 h' hh'
    exact ⟨a0, (by show c.2.1 0 h' 2 = upd (m.1 130) (2 + t) pc h'; rw [ep_upd_ne (by omega)]; exact a2), a3⟩
  · intro h' hh'
    obtain ⟨b1, b2⟩ := hR.2.2.2.2.2.2.2.2.1 h' hh'
    exact ⟨(by show ep_al (upd (m.1 130) (2 + t) pc h'); rw [ep_upd_ne (by omega)]; exact b1), b2⟩
  · intro t' ht'
    rw [c2]
    obtain ⟨a0, a2, a3, a4, a5, a6, a8, a9, a10⟩ := hR.2.2.2.2.2.2.2.2.2.2.1 t' ht'
    by_cases e1 : t' = t
    · subst e1
      rw [if_pos rfl]
      exact ⟨a0, (by show pc = upd (m.1 130) (2 + t') pc (2 + t'); rw [ep_upd_eq]), a3, a4, a5, a6, (by show hd = upd (m.1 152) t' hd t'; rw [ep_upd_eq]), (by show hl = upd (m.1 153) t' hl t'; rw [ep_upd_eq]), a10⟩
    · rw [if_neg e1]
      exact ⟨a0, (by show c.2.1 2 t' 2 = upd (m.1 130) (2 + t) pc (2 + t'); rw [ep_upd_ne (by omega)]; exact a2), a3, a4, a5, a6, (by show c.2.1 2 t' 8 = upd (m.1 152) t hd t'; rw [ep_upd_ne e1]; exact a8), (by show c.2.1 2 t' 9 = upd (m.1 153) t hl t'; rw [ep_upd_ne e1]; exact a9), a10⟩
  · intro t' ht'
    obtain ⟨b1, b2, b3, b4, b5⟩ := hR.2.2.2.2.2.2.2.2.2.2.2.1 t' ht'
    by_cases e1 : t' = t
    · subst e1
      exact ⟨(by show ep_al (upd (m.1 130) (2 + t') pc (2 + t')); rw [ep_upd_eq]; exact hpc), (by show ep_al (upd (m.1 152) t' hd t'); rw [ep_upd_eq]; exact hhd), (by show ep_bo (upd (m.1 153) t' hl t'); rw [ep_upd_eq]; exact hhl), b4, b5⟩
    · exact ⟨(by show ep_al (upd (m.1 130) (2 + t) pc (2 + t')); rw [ep_upd_ne (by omega)]; exact b1), (by show ep_al (upd (m.1 152) t hd t'); rw [ep_upd_ne e1]; exact b2), (by show ep_bo (upd (m.1 153) t hl t'); rw [ep_upd_ne e1]; exact b3), b4, b5⟩
  · intro t' ht' hs' j hj
    rw [c3]
    show (if t' = t then X else c.2.1 3 t') j = Y (32 * (2 + t') + j)
    by_cases e1 : t' = t
    · subst e1
      rw [if_pos rfl]; exact hX hs' j hj
    · rw [if_neg e1, hY _ (by omega)]; exact hR.2.2.2.2.2.2.2.2.2.2.2.2.1 t' ht' hs' j hj
  · intro t' ht' hs'
    rw [c2]
    by_cases e1 : t' = t
    · subst e1; rw [if_pos rfl]; exact hR.2.2.2.2.2.2.2.2.2.2.2.2.2.1 t' ht' hs'
    · rw [if_neg e1]; exact hR.2.2.2.2.2.2.2.2.2.2.2.2.2.1 t' ht' hs'
theorem ep_al_base {b : Nat} {x : Int32} (hx : ep_al x) : ep_al (nI (256 * b) + x) := by
  unfold ep_al at hx ⊢
  have e : x = nI (ep_u x) := (ep_nIu x).symm
  rw [e, pk_and (nI (ep_u x)) (m := 3) 2 rfl, show (0 : Int32) = nI 0 from rfl, nI_eq (by omega) (by decide)] at hx
  rw [e, nI_add, pk_and _ (m := 3) 2 rfl, show (0 : Int32) = nI 0 from rfl]
  congr 1
  have h1 : (nI (ep_u x)).toBitVec.toNat = ep_u x % 2 ^ 32 := by show (BitVec.ofNat 32 (ep_u x)).toNat = _; rw [BitVec.toNat_ofNat]
  have h2 : (nI (256 * b + ep_u x)).toBitVec.toNat = (256 * b + ep_u x) % 2 ^ 32 := by show (BitVec.ofNat 32 _).toNat = _; rw [BitVec.toNat_ofNat]
  rw [h1] at hx
  rw [h2]
  omega
/-- the answer of a call that may begin a thread -/
def ep_Sc (N' : Nat) (h : Nat) (c : ep_C) (m : ep_M) (F G : eh_F → Option (Int32 × eh_F)) : Prop := ∃ r c' m', (∀ m0, F (ep_mk c m0) = some (r, ep_mk c' m0)) ∧ (∀ c0, G (ep_mk c0 m) = some (r, ep_mk c0 m')) ∧ ep_R N' c' m' ∧ c'.2.2 = c.2.2 ∧ c'.1 124 = c.1 124 ∧ (∀ j, j = 83 ∨ j = 85 → m'.1 127 j = m.1 127 j) ∧ ((m'.1 127 86 = m.1 127 86 ∧ m'.1 144 = m.1 144) ∨ (m'.1 127 86 = 1 ∧ m'.1 144 h ≠ -1))
theorem ep_Sc_Cp {N' h : Nat} {c : ep_C} {m : ep_M} {F G : eh_F → Option (Int32 × eh_F)} (hC : ep_Cp N' c m F G) : ep_Sc N' h c m F G := by
  obtain ⟨r, c', m', a, b, d, e1, e2, e3, e4⟩ := hC
  exact ⟨r, c', m', a, b, d, e1, e2, fun j hj => e3 j (by omega), Or.inl ⟨e3 86 (by omega), e4⟩⟩
theorem ep_enter_ {N : Nat} {c : ep_C} {m : ep_M} (hR : ep_R N c m) {h : Nat} (hh : h < 2) (hr : m.1 144 h = -1) (p q r : Int32) : ep_Sc N h c m (fun s => eF_10_enter s (eh_hp (nI h)) p q r) (fun s => eF_12_run s (nI h) 5 p q r) := by
  cases hb : ep_inb p 12 (m.1 148) with
  | false =>
    refine ep_Sc_Cp (ep_Cp_id hR (-1) (fun m0 => ?_) (fun c0 => ?_))
    · show eF_10_enter (ep_mk c m0) _ p q r = _
      unfold eF_10_enter
      rw [ep_chasF hR, ep_sb, hb, if_pos (by decide)]
    · show eF_12_run (ep_mk c0 m) _ 5 p q r = _
      unfold eF_12_run
      rw [ep_misT, ep_sb, hb, if_pos (by decide)]
  | true =>
    obtain ⟨t, ht, rfl, hst⟩ := ep_inb_t (by decide) hb
    obtain ⟨hal, e, he, hto, hE0⟩ := hR.2.2.2.2.2.2.2.2.2.2.2.2.2.2.2.1 t ht hst
    have gf := hR.2.2.2.2.2.2.2.2.2.2.1 t ht
    have ge := (hR.2.2.2.2.2.2.2.2.2.2.2.2.2.2.2.2.1 e he).1
    have i12 : eh_in (nI t) 12 = true := ep_in ht (by decide)
    have x12 : eh_ix (nI t) = t := ep_ix (by omega)
    have i6 : eh_in (nI e) 6 = true := ep_in he (by decide)
    have x6 : eh_ix (nI e) = e := ep_ix (by omega)
    have f3 : ∀ m0, (ep_mk c m0).1 (eh_fp (nI t)) 3 = nI e := fun m0 => by rw [ep_rF0 _ _ ht, gf.2.2.1, hto]
    have f6 : ∀ m0, (ep_mk c m0).1 (eh_fp (nI t)) 6 = m.1 148 t := fun m0 => by rw [ep_rF0 _ _ ht, gf.2.2.2.2.2.1]
    by_cases hok : m.1 155 e = 2 ∧ m.1 148 t = 1
    · obtain ⟨w, b, n, hw, hwe, hwS, n0, bn, hB, hZ, cb, cs, hP⟩ := ep_ownR hR he hE0
      have iw : eh_in (nI w) 12 = true := ep_in hw (by decide)
      have xw : eh_ix (nI w) = w := ep_ix (by omega)
      have hst2 : m.1 148 t ≠ 2 := by rw [hok.2]; decide
      obtain ⟨X, hXd⟩ : ∃ X : Nat → Int32, X = upd (upd (upd (fun j => if j < 32 then 0 else c.2.1 3 t j) 2 (nI (256 * b) + m.1 151 t)) 10 q) 11 r := ⟨_, rfl⟩
      obtain ⟨Y, hYd⟩ : ∃ Y : Nat → Int32, Y = upd (upd (upd (ep_in_ (m.1 129) (32 * (2 + t)) 32 fun _ => 0) (32 * (2 + t) + 2) (nI (256 * b) + m.1 151 t)) (32 * (2 + t) + 10) q) (32 * (2 + t) + 11) r := ⟨_, rfl⟩
      have hXY : ∀ j, j < 32 → X j = Y (32 * (2 + t) + j) := by
        intro j hj
        rw [hXd, hYd]
        unfold upd ep_in_
        by_cases z1 : j = 11
        · subst z1; simp
        · by_cases z2 : j = 10
          · subst z2; simp
          · by_cases z3 : j = 2
            · subst z3; simp
            · simp [z1, z2, z3, hj]
      have hYo : ∀ k, k < 32 * (2 + t) ∨ 32 * (2 + t) + 32 ≤ k → Y k = m.1 129 k := by
        intro k hk
        rw [hYd, ep_upd_ne (by omega), ep_upd_ne (by omega), ep_upd_ne (by omega)]
        unfold ep_in_
        rw [if_neg (by omega)]
      have R1 := ep_R_thr hR ht (X := X) (Y := Y) (pc := nI (256 * b) + m.1 150 t) (hd := 0) (hl := 0) (fun _ => hXY) hYo (ep_al_base hal) rfl (Or.inl rfl)
      obtain ⟨B1, B2, B3⟩ := ep_begin_ R1 (h := h) (t := t) (e := e) hh ht he hr hst hst2 hto hok.1
      refine ⟨nI t, _, _, fun m0 => ?_, fun c0 => ?_, B3, rfl, rfl, fun j hj => by rcases hj with rfl | rfl <;> rfl, Or.inr ⟨rfl, ?_⟩⟩
      · show eF_10_enter (ep_mk c m0) _ (nI t) q r = _
        unfold eF_10_enter
        rw [ep_chasF hR, ep_sb, hb, if_neg (by decide), if_pos i12, f3, if_pos i6, ep_J, ep_rE0 _ _ he, ge, if_pos hok.1, f6, if_pos hok.2, cb, ep_sb]
        have he1 : eF_2_enter (ep_mk c m0) (eh_fp (nI t)) (nI (256 * b)) q r = some (ep_mk (ep_cth c t X (nI (256 * b) + m.1 150 t) 0 0) m0) := by
          unfold eF_2_enter eF_2_clear
          rw [ep_fill _ _ _ _ (by decide), ep_sb, ep_wF1 _ _ _ ht, ep_rF1 _ _ ht]
          simp (disch := first | assumption | decide) only [↓ep_V, ↓ep_sb, ep_iF0 _ _ _ _ ht, ep_iF1 _ _ _ _ ht, ep_rF0 _ _ ht, ep_cHs, ep_cHi, ep_cGi, ep_upd_ne, gf.2.2.2.1, gf.2.2.2.2.1]
          congr 2
          rw [hXd]
          unfold ep_cth
          refine Prod.ext rfl (Prod.ext ?_ rfl)
          funext i j
          simp only [ep_cH, ep_cG, ep_ug]
          by_cases h1 : i = 2
          · subst h1
            by_cases h2 : j = t
            · subst h2
              simp
              funext k
              unfold upd
              by_cases k1 : k = 2 <;> by_cases k2 : k = 8 <;> by_cases k3 : k = 9 <;> simp [k1, k2, k3] <;> omega
            · simp [h2]
          · by_cases h3 : i = 3
            · subst h3
              by_cases h2 : j = t
              · subst h2; simp
              · simp [h2]
            · simp [h1, h3]
        refine ep_bnd he1 ?_
        exact ep_bnd (B1 m0) rfl
      · show eF_12_run (ep_mk c0 m) _ 5 (nI t) q r = _
        have q32 : (32 : Int32) * (2 + nI t) = nI (32 * (2 + t)) := by rw [show (2 : Int32) = nI 2 from rfl, nI_add]; exact ep_mul (b := 32) rfl rfl
        have q2t : (2 : Int32) + nI t = nI (2 + t) := by rw [show (2 : Int32) = nI 2 from rfl, nI_add]
        have p2 : nI (32 * (2 + t)) + 2 = nI (32 * (2 + t) + 2) := ep_addn _ 2
        have p10 : nI (32 * (2 + t)) + 10 = nI (32 * (2 + t) + 10) := ep_addn _ 10
        have p11 : nI (32 * (2 + t)) + 11 = nI (32 * (2 + t) + 11) := ep_addn _ 11
        have k2 : eh_in (nI (32 * (2 + t) + 2)) 448 = true := ep_in (by omega) (by decide)
        have k10 : eh_in (nI (32 * (2 + t) + 10)) 448 = true := ep_in (by omega) (by decide)
        have k11 : eh_in (nI (32 * (2 + t) + 11)) 448 = true := ep_in (by omega) (by decide)
        have kt : eh_in (nI (2 + t)) 14 = true := ep_in (by omega) (by decide)
        have y2 : eh_ix (nI (32 * (2 + t) + 2)) = 32 * (2 + t) + 2 := ep_ix (by omega)
        have y10 : eh_ix (nI (32 * (2 + t) + 10)) = 32 * (2 + t) + 10 := ep_ix (by omega)
        have y11 : eh_ix (nI (32 * (2 + t) + 11)) = 32 * (2 + t) + 11 := ep_ix (by omega)
        have yt : eh_ix (nI (2 + t)) = 2 + t := ep_ix (by omega)
        have hloop : eh_loop (fun (r24 : (Int32 × eh_F) → Option (eh_F)) (t15 : Int32 × eh_F) => if t15.1 < 32 then (if eh_in (nI (32 * (2 + t)) + t15.1) 448 then eh_V (eh_tI t15.2 129 (eh_ix (nI (32 * (2 + t)) + t15.1)) 0) (fun s26 => eh_V ((t15.1 + 1) : Int32) (fun x27 => r24 (x27, s26))) else none) else (some t15.2)) eh_FU (0, ep_mk c0 m) = some (ep_mk c0 (ep_mL m 129 (ep_in_ (m.1 129) (32 * (2 + t)) 32 fun _ => 0))) := by
          refine ep_loop (fun i => (nI i, ep_mk c0 (ep_mL m 129 (ep_in_ (m.1 129) (32 * (2 + t)) i fun _ => 0)))) 32 _ (ep_FU _ (by decide)) ?_ ?_ ?_
          · intro i hi rec
            have z1 : nI i < 32 := ep_lt (b := 32) hi (by decide) rfl
            have z2 : eh_in (nI (32 * (2 + t) + i)) 448 = true := ep_in (by omega) (by decide)
            have z3 : eh_ix (nI (32 * (2 + t) + i)) = 32 * (2 + t) + i := ep_ix (by omega)
            simp only [z1, if_true, nI_add, z2, z3, ep_V, nI_1]
            rw [ep_iM _ _ _ _ _ (by decide), ep_mLI, ← ep_in_s (m.1 129) (32 * (2 + t)) i]
          · intro rec
            have z1 : ¬ nI 32 < 32 := by decide
            simp only [z1, if_false]
          · rw [ep_in_0, ep_mLid]; rfl
        unfold eF_12_run
        rw [ep_misT, ep_sb, hb, if_neg (by decide), if_pos i12, ep_V, x12, ep_rM _ _ 149 (by decide), hto, ep_J, if_pos (show (5 : Int32) = 5 from rfl), if_pos i12, ep_rM _ _ 148 (by decide), if_pos hok.2]
        dsimp only
        rw [if_pos i6, ep_J, x6, ep_rM _ _ 155 (by decide), if_pos hok.1, if_neg (by decide), ep_V, q32, ep_J, if_pos rfl]
        refine ep_bnd hloop ?_
        rw [q2t]
        simp (disch := first | assumption | decide) only [↓ep_V, ↓reduceIte, i6, x6, ep_rM, ep_mLn, hwe, iw, xw, i12, x12, p2, p10, p11, k2, k10, k11, kt, y2, y10, y11, yt, ep_iM, ep_mIn, hB, show eh_nz 0 = 0 from rfl]
        refine ep_bnd ((congrArg (fun z => eF_12_enter (ep_mk c0 z) (nI h) (nI t)) ?_).trans (B2 c0)) rfl
        rw [hYd]
        unfold ep_mth
        refine Prod.ext ?_ rfl
        funext a
        simp only [ep_mI, ep_mL, ep_uf]
        by_cases h1 : a = 153 <;> by_cases h2 : a = 152 <;> by_cases h3 : a = 130 <;> by_cases h4 : a = 129 <;> simp [h1, h2, h3, h4]
      · show upd (m.1 144) h (nI t) h ≠ -1
        rw [ep_upd_eq]; exact ep_nI_ne_m1 (by omega)
    · refine ep_Sc_Cp (ep_Cp_id hR (-2) (fun m0 => ?_) (fun c0 => ?_))
      · show eF_10_enter (ep_mk c m0) _ (nI t) q r = _
        unfold eF_10_enter
        rw [ep_chasF hR, ep_sb, hb, if_neg (by decide), if_pos i12, f3, if_pos i6, ep_J, ep_rE0 _ _ he, ge, f6]
        by_cases y1 : m.1 155 e = 2
        · rw [if_pos y1, if_neg (fun z => hok ⟨y1, z⟩)]
        · rw [if_neg y1]
      · show eF_12_run (ep_mk c0 m) _ 5 (nI t) q r = _
        unfold eF_12_run
        rw [ep_misT, ep_sb, hb, if_neg (by decide), if_pos i12, ep_V, x12, ep_rM _ _ 149 (by decide), hto, ep_J, if_pos (show (5 : Int32) = 5 from rfl), if_pos i12, ep_rM _ _ 148 (by decide)]
        by_cases y2 : m.1 148 t = 1
        · rw [if_pos y2]
          dsimp only
          rw [if_pos i6, ep_J, x6, ep_rM _ _ 155 (by decide), if_neg (fun z => hok ⟨z, y2⟩)]
        · rw [if_neg y2]
          dsimp only
          rw [if_pos i6, ep_J, x6, ep_rM _ _ 155 (by decide), if_pos rfl]
          by_cases y1 : m.1 155 e = 2
          · rw [if_pos y1]
          · rw [if_neg y1]
