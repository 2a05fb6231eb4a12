/-! changes of memory, reservations and events alone -/
def ep_cw (c : ep_C) (X Y f : Nat → Int32) (v : Int32) : ep_C := (ep_uf (ep_uf (ep_uf (ep_uf c.1 9 X) 11 Y) 38 f) 1 (upd (c.1 1) 11 v), c.2)
def ep_mw (m : ep_M) (X Y f : Nat → Int32) (v : Int32) : ep_M := (ep_uf (ep_uf (ep_uf (ep_uf m.1 128 X) 147 Y) 173 f) 127 (upd (m.1 127) 50 v), m.2)
theorem ep_upd_upd (f : Nat → Int32) (k : Nat) (a b : Int32) : upd (upd f k a) k b = upd f k b := by
  funext j; unfold upd; by_cases h : j = k <;> simp [h]
theorem ep_cw_id (c : ep_C) : ep_cw c (c.1 9) (c.1 11) (c.1 38) (c.1 1 11) = c := by
  refine Prod.ext ?_ rfl
  funext a
  simp only [ep_cw, ep_uf]
  by_cases h1 : a = 1
  · subst h1; simp [ep_upd_id]
  · by_cases h2 : a = 38 <;> by_cases h3 : a = 11 <;> by_cases h4 : a = 9 <;> simp [h1, h2, h3, h4]
theorem ep_mw_id (m : ep_M) : ep_mw m (m.1 128) (m.1 147) (m.1 173) (m.1 127 50) = m := by
  refine Prod.ext ?_ rfl
  funext a
  simp only [ep_mw, ep_uf]
  by_cases h1 : a = 127
  · subst h1; simp [ep_upd_id]
  · by_cases h2 : a = 173 <;> by_cases h3 : a = 147 <;> by_cases h4 : a = 128 <;> simp [h1, h2, h3, h4]
theorem ep_cw_cw (c : ep_C) (X Y f X' Y' f' : Nat → Int32) (v v' : Int32) : ep_cw (ep_cw c X Y f v) X' Y' f' v' = ep_cw c X' Y' f' v' := by
  refine Prod.ext ?_ rfl
  funext a
  simp only [ep_cw, ep_uf]
  by_cases h1 : a = 1
  · subst h1; simp [ep_upd_upd]
  · by_cases h2 : a = 38 <;> by_cases h3 : a = 11 <;> by_cases h4 : a = 9 <;> simp [h1, h2, h3, h4]
theorem ep_mw_mw (c : ep_M) (X Y f X' Y' f' : Nat → Int32) (v v' : Int32) : ep_mw (ep_mw c X Y f v) X' Y' f' v' = ep_mw c X' Y' f' v' := by
  refine Prod.ext ?_ rfl
  funext a
  simp only [ep_mw, ep_uf]
  by_cases h1 : a = 127
  · subst h1; simp [ep_upd_upd]
  · by_cases h2 : a = 173 <;> by_cases h3 : a = 147 <;> by_cases h4 : a = 128 <;> simp [h1, h2, h3, h4]
theorem ep_c2_cw (c : ep_C) (X Y : Nat → Int32) : ep_c2 c X Y = ep_cw c X Y (c.1 38) (c.1 1 11) := by
  refine Prod.ext ?_ rfl
  funext a
  simp only [ep_cw, ep_c2, ep_uf]
  by_cases h1 : a = 1
  · subst h1; simp [ep_upd_id]
  · by_cases h2 : a = 38 <;> by_cases h3 : a = 11 <;> by_cases h4 : a = 9 <;> simp [h1, h2, h3, h4]
theorem ep_m2_mw (m : ep_M) (X Y : Nat → Int32) : ep_m2 m X Y = ep_mw m X Y (m.1 173) (m.1 127 50) := by
  refine Prod.ext ?_ rfl
  funext a
  simp only [ep_mw, ep_m2, ep_uf]
  by_cases h1 : a = 127
  · subst h1; simp [ep_upd_id]
  · by_cases h2 : a = 173 <;> by_cases h3 : a = 147 <;> by_cases h4 : a = 128 <;> simp [h1, h2, h3, h4]
/-- both sides changed so, and still fit -/
def ep_W (N : Nat) (c : ep_C) (m : ep_M) (c' : ep_C) (m' : ep_M) : Prop := (∃ X Y f v, c' = ep_cw c X Y f v) ∧ (∃ X Y f v, m' = ep_mw m X Y f v) ∧ ep_R N c' m'
theorem ep_W_rf {N : Nat} {c : ep_C} {m : ep_M} (hR : ep_R N c m) : ep_W N c m c m := ⟨⟨_, _, _, _, (ep_cw_id c).symm⟩, ⟨_, _, _, _, (ep_mw_id m).symm⟩, hR⟩
theorem ep_W_tr {N N' : Nat} {c c1 c2 : ep_C} {m m1 m2 : ep_M} (h1 : ep_W N c m c1 m1) (h2 : ep_W N' c1 m1 c2 m2) : ep_W N' c m c2 m2 := by
  obtain ⟨⟨X, Y, f, v, e1⟩, ⟨X', Y', f', v', e2⟩, -⟩ := h1
  obtain ⟨⟨A, B, g, w, e3⟩, ⟨A', B', g', w', e4⟩, h⟩ := h2
  exact ⟨⟨A, B, g, w, by rw [e3, e1, ep_cw_cw]⟩, ⟨A', B', g', w', by rw [e4, e2, ep_mw_mw]⟩, h⟩
theorem ep_R_mono {N N' : Nat} {c : ep_C} {m : ep_M} (hR : ep_R N c m) (h : N ≤ N') : ep_R N' c m := ⟨hR.1, hR.2.1, hR.2.2.1, hR.2.2.2.1, hR.2.2.2.2.1, hR.2.2.2.2.2.1, hR.2.2.2.2.2.2.1, hR.2.2.2.2.2.2.2.1, hR.2.2.2.2.2.2.2.2.1, hR.2.2.2.2.2.2.2.2.2.1, hR.2.2.2.2.2.2.2.2.2.2.1, hR.2.2.2.2.2.2.2.2.2.2.2.1, hR.2.2.2.2.2.2.2.2.2.2.2.2.1, hR.2.2.2.2.2.2.2.2.2.2.2.2.2.1, hR.2.2.2.2.2.2.2.2.2.2.2.2.2.2.1, hR.2.2.2.2.2.2.2.2.2.2.2.2.2.2.2.1, hR.2.2.2.2.2.2.2.2.2.2.2.2.2.2.2.2.1, hR.2.2.2.2.2.2.2.2.2.2.2.2.2.2.2.2.2.1, hR.2.2.2.2.2.2.2.2.2.2.2.2.2.2.2.2.2.2.1, hR.2.2.2.2.2.2.2.2.2.2.2.2.2.2.2.2.2.2.2.1, hR.2.2.2.2.2.2.2.2.2.2.2.2.2.2.2.2.2.2.2.2.1, hR.2.2.2.2.2.2.2.2.2.2.2.2.2.2.2.2.2.2.2.2.2.1, (fun e he hE => let ⟨st, h1, h2, h3, h4⟩ := hR.2.2.2.2.2.2.2.2.2.2.2.2.2.2.2.2.2.2.2.2.2.2.1 e he hE; ⟨st, h1, h2, Nat.le_trans h3 h, h4⟩), (let ⟨h1, h2, n, h3, h4⟩ := hR.2.2.2.2.2.2.2.2.2.2.2.2.2.2.2.2.2.2.2.2.2.2.2.1; ⟨h1, h2, n, Nat.le_trans h3 h, h4⟩), (let ⟨h1, h2, h3, n, h4, h5, h6, h7⟩ := hR.2.2.2.2.2.2.2.2.2.2.2.2.2.2.2.2.2.2.2.2.2.2.2.2.1; ⟨h1, h2, h3, n, h4, h5, fun i hi => let ⟨v, hv, e⟩ := h6 i hi; ⟨v, Nat.le_trans hv h, e⟩, h7⟩), hR.2.2.2.2.2.2.2.2.2.2.2.2.2.2.2.2.2.2.2.2.2.2.2.2.2.1, hR.2.2.2.2.2.2.2.2.2.2.2.2.2.2.2.2.2.2.2.2.2.2.2.2.2.2.1, hR.2.2.2.2.2.2.2.2.2.2.2.2.2.2.2.2.2.2.2.2.2.2.2.2.2.2.2.1, hR.2.2.2.2.2.2.2.2.2.2.2.2.2.2.2.2.2.2.2.2.2.2.2.2.2.2.2.2.1, hR.2.2.2.2.2.2.2.2.2.2.2.2.2.2.2.2.2.2.2.2.2.2.2.2.2.2.2.2.2.1, hR.2.2.2.2.2.2.2.2.2.2.2.2.2.2.2.2.2.2.2.2.2.2.2.2.2.2.2.2.2.2.1, hR.2.2.2.2.2.2.2.2.2.2.2.2.2.2.2.2.2.2.2.2.2.2.2.2.2.2.2.2.2.2.2.1, hR.2.2.2.2.2.2.2.2.2.2.2.2.2.2.2.2.2.2.2.2.2.2.2.2.2.2.2.2.2.2.2.2.1, hR.2.2.2.2.2.2.2.2.2.2.2.2.2.2.2.2.2.2.2.2.2.2.2.2.2.2.2.2.2.2.2.2.2⟩
theorem ep_W_R {N N' : Nat} {c : ep_C} {m : ep_M} (hR : ep_R N c m) {X Y f X' Y' f' : Nat → Int32} {v v' : Int32} (h1 : ep_Gm X X') (h2 : ep_Gres Y Y') (h3 : ep_Gev N' v v' f f') (hN : N ≤ N') : ep_W N' c m (ep_cw c X Y f v) (ep_mw m X' Y' f' v') := by
  have hR' := ep_R_mono hR hN
  exact ⟨⟨_, _, _, _, rfl⟩, ⟨_, _, _, _, rfl⟩, ⟨h1, (hR').2.1, (hR').2.2.1, (hR').2.2.2.1, h2, (hR').2.2.2.2.2.1, (hR').2.2.2.2.2.2.1, (hR').2.2.2.2.2.2.2.1, (hR').2.2.2.2.2.2.2.2.1, (hR').2.2.2.2.2.2.2.2.2.1, (hR').2.2.2.2.2.2.2.2.2.2.1, (hR').2.2.2.2.2.2.2.2.2.2.2.1, (hR').2.2.2.2.2.2.2.2.2.2.2.2.1, (hR').2.2.2.2.2.2.2.2.2.2.2.2.2.1, (hR').2.2.2.2.2.2.2.2.2.2.2.2.2.2.1, (hR').2.2.2.2.2.2.2.2.2.2.2.2.2.2.2.1, (hR').2.2.2.2.2.2.2.2.2.2.2.2.2.2.2.2.1, (hR').2.2.2.2.2.2.2.2.2.2.2.2.2.2.2.2.2.1, (hR').2.2.2.2.2.2.2.2.2.2.2.2.2.2.2.2.2.2.1, (hR').2.2.2.2.2.2.2.2.2.2.2.2.2.2.2.2.2.2.2.1, (hR').2.2.2.2.2.2.2.2.2.2.2.2.2.2.2.2.2.2.2.2.1, (hR').2.2.2.2.2.2.2.2.2.2.2.2.2.2.2.2.2.2.2.2.2.1, (hR').2.2.2.2.2.2.2.2.2.2.2.2.2.2.2.2.2.2.2.2.2.2.1, h3, (hR').2.2.2.2.2.2.2.2.2.2.2.2.2.2.2.2.2.2.2.2.2.2.2.2.1, (hR').2.2.2.2.2.2.2.2.2.2.2.2.2.2.2.2.2.2.2.2.2.2.2.2.2.1, (hR').2.2.2.2.2.2.2.2.2.2.2.2.2.2.2.2.2.2.2.2.2.2.2.2.2.2.1, (hR').2.2.2.2.2.2.2.2.2.2.2.2.2.2.2.2.2.2.2.2.2.2.2.2.2.2.2.1, (hR').2.2.2.2.2.2.2.2.2.2.2.2.2.2.2.2.2.2.2.2.2.2.2.2.2.2.2.2.1, (hR').2.2.2.2.2.2.2.2.2.2.2.2.2.2.2.2.2.2.2.2.2.2.2.2.2.2.2.2.2.1, (hR').2.2.2.2.2.2.2.2.2.2.2.2.2.2.2.2.2.2.2.2.2.2.2.2.2.2.2.2.2.2.1, (hR').2.2.2.2.2.2.2.2.2.2.2.2.2.2.2.2.2.2.2.2.2.2.2.2.2.2.2.2.2.2.2.1, (hR').2.2.2.2.2.2.2.2.2.2.2.2.2.2.2.2.2.2.2.2.2.2.2.2.2.2.2.2.2.2.2.2.1, (hR').2.2.2.2.2.2.2.2.2.2.2.2.2.2.2.2.2.2.2.2.2.2.2.2.2.2.2.2.2.2.2.2.2⟩⟩
theorem ep_p2 (a : Nat) : nI a + 2 = nI (a + 2) := ep_addn a 2
theorem ep_p3 (a : Nat) : nI a + 3 = nI (a + 3) := ep_addn a 3
theorem ep_p4 (a : Nat) : nI a + 4 = nI (a + 4) := ep_addn a 4
theorem ep_p5 (a : Nat) : nI a + 5 = nI (a + 5) := ep_addn a 5
theorem ep_p6 (a : Nat) : nI a + 6 = nI (a + 6) := ep_addn a 6
theorem ep_p7 (a : Nat) : nI a + 7 = nI (a + 7) := ep_addn a 7
theorem ep_p8 (a : Nat) : nI a + 8 = nI (a + 8) := ep_addn a 8
theorem ep_p12 (a : Nat) : nI a + 12 = nI (a + 12) := ep_addn a 12
theorem ep_p16 (a : Nat) : nI a + 16 = nI (a + 16) := ep_addn a 16
theorem ep_p20 (a : Nat) : nI a + 20 = nI (a + 20) := ep_addn a 20
theorem ep_p32 (a : Nat) : nI a + 32 = nI (a + 32) := ep_addn a 32
theorem ep_p64 (a : Nat) : nI a + 64 = nI (a + 64) := ep_addn a 64
theorem ep_p96 (a : Nat) : nI a + 96 = nI (a + 96) := ep_addn a 96
/-- the words of an event -/
def ep_ev8 (f : Nat → Int32) (n : Nat) (a b c d e p q r : Int32) : Nat → Int32 := upd (upd (upd (upd (upd (upd (upd (upd f (8 * n) a) (8 * n + 1) b) (8 * n + 2) c) (8 * n + 3) d) (8 * n + 4) e) (8 * n + 5) p) (8 * n + 6) q) (8 * n + 7) r
theorem ep_cnote {c : ep_C} {n : Nat} (hn : n < 2 ^ 30) (hc : c.1 1 11 = nI n) {t : Nat} (ht : t < 12) (sort p q r : Int32) (m0 : ep_M) : eF_5_note (ep_mk c m0) sort (eh_fp (nI t)) p q r = some (ep_mk (ep_cw c (c.1 9) (c.1 11) (if n < 1000 then ep_ev8 (c.1 38) n sort (c.1 12 0) (c.2.1 2 t 7) (c.2.1 2 t 0) (c.2.1 2 t 3) p q r else c.1 38) (nI (n + 1))) m0) := by
  have q0 : ¬ nI n < 0 := nI_pos (by omega)
  unfold eF_5_note
  by_cases h : n < 1000
  · have q1 : nI n < 1000 := ep_lt (b := 1000) h (by decide) rfl
    have q2 : nI n * 8 = nI (8 * n) := by rw [show (8 : Int32) = nI 8 from rfl, pk_mul]; congr 1; omega
    have i0 : eh_in (nI (8 * n)) 8000 = true := ep_in (by omega) (by decide)
    have i1 : eh_in (nI (8 * n + 1)) 8000 = true := ep_in (by omega) (by decide)
    have i2 : eh_in (nI (8 * n + 2)) 8000 = true := ep_in (by omega) (by decide)
    have i3 : eh_in (nI (8 * n + 3)) 8000 = true := ep_in (by omega) (by decide)
    have i4 : eh_in (nI (8 * n + 4)) 8000 = true := ep_in (by omega) (by decide)
    have i5 : eh_in (nI (8 * n + 5)) 8000 = true := ep_in (by omega) (by decide)
    have i6 : eh_in (nI (8 * n + 6)) 8000 = true := ep_in (by omega) (by decide)
    have i7 : eh_in (nI (8 * n + 7)) 8000 = true := ep_in (by omega) (by decide)
    have x0 : eh_ix (nI (8 * n)) = 8 * n := ep_ix (by omega)
    have x1 : eh_ix (nI (8 * n + 1)) = 8 * n + 1 := ep_ix (by omega)
    have x2 : eh_ix (nI (8 * n + 2)) = 8 * n + 2 := ep_ix (by omega)
    have x3 : eh_ix (nI (8 * n + 3)) = 8 * n + 3 := ep_ix (by omega)
    have x4 : eh_ix (nI (8 * n + 4)) = 8 * n + 4 := ep_ix (by omega)
    have x5 : eh_ix (nI (8 * n + 5)) = 8 * n + 5 := ep_ix (by omega)
    have x6 : eh_ix (nI (8 * n + 6)) = 8 * n + 6 := ep_ix (by omega)
    have x7 : eh_ix (nI (8 * n + 7)) = 8 * n + 7 := ep_ix (by omega)
    simp (disch := first | assumption | decide) only [↓ep_V, ↓ep_J, ↓ep_sb, ↓reduceIte, ep_rC1, ep_rC2, ep_rM, ep_rJ, ep_rQ, ep_wC1, ep_wC2, ep_wM, ep_iC1, ep_iC2, ep_iM, ep_wJ, ep_wQ, ep_cI1, ep_cIn, ep_cI2, ep_cL1, ep_cLn, ep_cL2, ep_cG1, ep_cGq, ep_cQ1, ep_cQ2, ep_cQq, ep_cQn, ep_mI1, ep_mIn, ep_mI2, ep_mL1, ep_mLn, ep_mL2, ep_mJ1, ep_mJ2, hc, q0, q1, q2, if_true, if_false, ep_p2, ep_p3, ep_p4, ep_p5, ep_p6, ep_p7, i0, i1, i2, i3, i4, i5, i6, i7, x0, x1, x2, x3, x4, x5, x6, x7, ep_rF0 _ _ ht, h, nI_1]
    congr 2
    refine Prod.ext ?_ rfl
    funext a
    simp only [ep_cw, ep_cI, ep_cL, ep_uf, ep_ev8]
    by_cases h1 : a = 1
    · subst h1; simp
    · by_cases h2 : a = 38 <;> by_cases h3 : a = 11 <;> by_cases h4 : a = 9 <;> simp [h1, h2, h3, h4]
  · have q1 : ¬ nI n < 1000 := ep_nlt (b := 1000) (by omega) (by omega) rfl
    simp (disch := first | assumption | decide) only [↓ep_V, ↓ep_J, ↓ep_sb, ↓reduceIte, ep_rC1, ep_rC2, ep_rM, ep_rJ, ep_rQ, ep_wC1, ep_wC2, ep_wM, ep_iC1, ep_iC2, ep_iM, ep_wJ, ep_wQ, ep_cI1, ep_cIn, ep_cI2, ep_cL1, ep_cLn, ep_cL2, ep_cG1, ep_cGq, ep_cQ1, ep_cQ2, ep_cQq, ep_cQn, ep_mI1, ep_mIn, ep_mI2, ep_mL1, ep_mLn, ep_mL2, ep_mJ1, ep_mJ2, hc, q0, q1, if_false, h, nI_1]
    congr 2
    refine Prod.ext ?_ rfl
    funext a
    simp only [ep_cw, ep_cI, ep_cL, ep_uf]
    by_cases h1 : a = 1
    · subst h1; simp
    · by_cases h2 : a = 38 <;> by_cases h3 : a = 11 <;> by_cases h4 : a = 9 <;> simp [h1, h2, h3, h4]
theorem ep_mhappens {m : ep_M} {n : Nat} (hn : n < 2 ^ 30) (hc : m.1 127 50 = nI n) {h t : Nat} (hh : h < 2) (ht : t < 12) (hr : m.1 144 h = nI t) (sort p q r : Int32) (c0 : ep_C) : eF_12_happens (ep_mk c0 m) sort (nI h) p q r = some (ep_mk c0 (ep_mw m (m.1 128) (m.1 147) (if n < 1000 then ep_ev8 (m.1 173) n sort (m.1 127 20) (nI h) (nI t) (m.1 149 t) p q r else m.1 173) (nI (n + 1)))) := by
  have j1 : eh_in (nI h) 2 = true := ep_in hh (by decide)
  have j2 : eh_ix (nI h) = h := ep_ix (by omega)
  have j3 : eh_in (nI t) 12 = true := ep_in ht (by decide)
  have j4 : eh_ix (nI t) = t := ep_ix (by omega)
  unfold eF_12_happens
  by_cases h : n < 1000
  · have q1 : nI n < 1000 := ep_lt (b := 1000) h (by decide) rfl
    have q2 : (8 : Int32) * nI n = nI (8 * n) := ep_mul (b := 8) rfl rfl
    have i0 : eh_in (nI (8 * n)) 8000 = true := ep_in (by omega) (by decide)
    have i1 : eh_in (nI (8 * n + 1)) 8000 = true := ep_in (by omega) (by decide)
    have i2 : eh_in (nI (8 * n + 2)) 8000 = true := ep_in (by omega) (by decide)
    have i3 : eh_in (nI (8 * n + 3)) 8000 = true := ep_in (by omega) (by decide)
    have i4 : eh_in (nI (8 * n + 4)) 8000 = true := ep_in (by omega) (by decide)
    have i5 : eh_in (nI (8 * n + 5)) 8000 = true := ep_in (by omega) (by decide)
    have i6 : eh_in (nI (8 * n + 6)) 8000 = true := ep_in (by omega) (by decide)
    have i7 : eh_in (nI (8 * n + 7)) 8000 = true := ep_in (by omega) (by decide)
    have x0 : eh_ix (nI (8 * n)) = 8 * n := ep_ix (by omega)
    have x1 : eh_ix (nI (8 * n + 1)) = 8 * n + 1 := ep_ix (by omega)
    have x2 : eh_ix (nI (8 * n + 2)) = 8 * n + 2 := ep_ix (by omega)
    have x3 : eh_ix (nI (8 * n + 3)) = 8 * n + 3 := ep_ix (by omega)
    have x4 : eh_ix (nI (8 * n + 4)) = 8 * n + 4 := ep_ix (by omega)
    have x5 : eh_ix (nI (8 * n + 5)) = 8 * n + 5 := ep_ix (by omega)
    have x6 : eh_ix (nI (8 * n + 6)) = 8 * n + 6 := ep_ix (by omega)
    have x7 : eh_ix (nI (8 * n + 7)) = 8 * n + 7 := ep_ix (by omega)
    simp (disch := first | assumption | decide) only [↓ep_V, ↓ep_J, ↓ep_sb, ↓reduceIte, ep_rC1, ep_rC2, ep_rM, ep_rJ, ep_rQ, ep_wC1, ep_wC2, ep_wM, ep_iC1, ep_iC2, ep_iM, ep_wJ, ep_wQ, ep_cI1, ep_cIn, ep_cI2, ep_cL1, ep_cLn, ep_cL2, ep_cG1, ep_cGq, ep_cQ1, ep_cQ2, ep_cQq, ep_cQn, ep_mI1, ep_mIn, ep_mI2, ep_mL1, ep_mLn, ep_mL2, ep_mJ1, ep_mJ2, hc, q1, q2, if_true, ep_p2, ep_p3, ep_p4, ep_p5, ep_p6, ep_p7, i0, i1, i2, i3, i4, i5, i6, i7, x0, x1, x2, x3, x4, x5, x6, x7, j1, j2, hr, j3, j4, h, nI_1]
    congr 2
    refine Prod.ext ?_ rfl
    funext a
    simp only [ep_mw, ep_mI, ep_mL, ep_uf, ep_ev8]
    by_cases h1 : a = 127
    · subst h1; simp
    · by_cases h2 : a = 173 <;> by_cases h3 : a = 147 <;> by_cases h4 : a = 128 <;> simp [h1, h2, h3, h4]
  · have q1 : ¬ nI n < 1000 := ep_nlt (b := 1000) (by omega) (by omega) rfl
    simp (disch := first | assumption | decide) only [↓ep_V, ↓ep_J, ↓ep_sb, ↓reduceIte, ep_rC1, ep_rC2, ep_rM, ep_rJ, ep_rQ, ep_wC1, ep_wC2, ep_wM, ep_iC1, ep_iC2, ep_iM, ep_wJ, ep_wQ, ep_cI1, ep_cIn, ep_cI2, ep_cL1, ep_cLn, ep_cL2, ep_cG1, ep_cGq, ep_cQ1, ep_cQ2, ep_cQq, ep_cQn, ep_mI1, ep_mIn, ep_mI2, ep_mL1, ep_mLn, ep_mL2, ep_mJ1, ep_mJ2, hc, q1, if_false, h, nI_1]
    congr 2
    refine Prod.ext ?_ rfl
    funext a
    simp only [ep_mw, ep_mI, ep_mL, ep_uf]
    by_cases h1 : a = 127
    · subst h1; simp
    · by_cases h2 : a = 173 <;> by_cases h3 : a = 147 <;> by_cases h4 : a = 128 <;> simp [h1, h2, h3, h4]
/-- a thread that runs -/
def ep_On (m : ep_M) (h t e : Nat) : Prop := h < 2 ∧ t < 12 ∧ e < 6 ∧ m.1 144 h = nI t ∧ m.1 149 t = nI e ∧ m.1 155 e = 2 ∧ m.1 148 t = 2
theorem ep_On_of {N : Nat} {c : ep_C} {m : ep_M} (hR : ep_R N c m) {h : Nat} (hh : h < 2) (hr : m.1 144 h ≠ -1) : ∃ t e, ep_On m h t e := by
  rcases hR.2.2.2.2.2.2.2.2.2.2.2.2.2.2.1 h hh with z | ⟨t, e, h1, h2, h3, h4, h5, h6⟩
  · exact absurd z hr
  · exact ⟨t, e, hh, h1, h2, h3, h5, h6, h4⟩
theorem ep_On_f {N : Nat} {c : ep_C} {m : ep_M} (hR : ep_R N c m) {h t e : Nat} (ho : ep_On m h t e) : c.2.1 2 t 7 = nI h := by
  obtain ⟨h1, h2, h3, h4, h5, h6, h7⟩ := ho
  rcases hR.2.2.2.2.2.2.2.2.2.2.2.2.2.1 t h2 (by rw [h7]; decide) with ⟨_, z, _⟩ | ⟨h', z1, z2, z3, z4, z5⟩
  · exact absurd h7 z
  · rw [z2, z5 h h1 h4]
theorem ep_note {N : Nat} {c : ep_C} {m : ep_M} (hR : ep_R N c m) (hN : N < 2 ^ 28) {h t e : Nat} (ho : ep_On m h t e) (sort p q r : Int32) : ∃ c' m', (∀ m0, eF_5_note (ep_mk c m0) sort (eh_fp (nI t)) p q r = some (ep_mk c' m0)) ∧ (∀ c0, eF_12_happens (ep_mk c0 m) sort (nI h) p q r = some (ep_mk c0 m')) ∧ ep_W (N + 1) c m c' m' := by
  obtain ⟨g1, g2, n, g3, g4⟩ := hR.2.2.2.2.2.2.2.2.2.2.2.2.2.2.2.2.2.2.2.2.2.2.2.1
  have hf := hR.2.2.2.2.2.2.2.2.2.2.1 t ho.2.1
  refine ⟨_, _, fun m0 => ep_cnote (n := n) (by omega) (by rw [g2]; exact g4) ho.2.1 sort p q r m0, fun c0 => ep_mhappens (n := n) (by omega) g4 ho.1 ho.2.1 ho.2.2.2.1 sort p q r c0, ?_⟩
  refine ep_W_R hR hR.1 hR.2.2.2.2.1 ?_ (by omega)
  refine ⟨?_, rfl, n + 1, by omega, rfl⟩
  rw [g1, ep_On_f hR ho, hf.1, hf.2.2.1, hR.2.2.2.2.2.2.2.2.2.2.2.2.2.2.2.2.2.2.2.2.2.2.2.2.2.2.2.2.1.1]
