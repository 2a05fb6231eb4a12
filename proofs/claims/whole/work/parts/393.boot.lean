/-! a restart -/
def er_fl (f : Nat → Int32) (n : Nat) (v : Int32) : Nat → Int32 := ep_in_ f 0 n fun _ => v
theorem er_fl0 (f : Nat → Int32) (v : Int32) : er_fl f 0 v = f := ep_in_0 _ _ _
theorem er_fls (f : Nat → Int32) (n : Nat) (v : Int32) : upd (er_fl f n v) n v = er_fl f (n + 1) v := ep_in_z _ _ (fun _ => v) rfl
theorem er_fly {f : Nat → Int32} {n j : Nat} {v : Int32} (h : j < n) : er_fl f n v j = v := ep_in_y h
theorem er_fln {f : Nat → Int32} {n j : Nat} {v : Int32} (h : n ≤ j) : er_fl f n v j = f j := ep_in_i _ _ _ h
theorem er_fillC (c : ep_C) (m0 : ep_M) {k n : Nat} (hk : k < 41) (hn : n < 1000000) (v : Int32) : eF_23_fill (ep_mk c m0) k n v = some (ep_mk (ep_cL c k (er_fl (c.1 k) n v)) m0) := by
  unfold eF_23_fill
  rw [ep_V]
  refine ep_lp (fun i => (nI i, ep_mk (ep_cL c k (er_fl (c.1 k) i v)) m0)) n _ hn ?_ ?_ ?_ rfl
  · show _ = (nI 0, ep_mk (ep_cL c k (er_fl (c.1 k) 0 v)) m0)
    rw [er_fl0, ep_cLid]; rfl
  · intro i hi rec
    show (if nI i < nI n then _ else _) = _
    rw [if_pos (nI_lt hi (by omega)), if_pos (ep_in hi (by omega)), ep_V, ep_V, ep_ix (by omega), ep_iC1 _ _ _ _ _ hk, ep_cLI, er_fls, nI_1]
  · intro rec
    show (if nI n < nI n then _ else _) = _
    rw [if_neg (nI_nlt (Nat.le_refl _) (by omega))]
theorem er_cGid (c : ep_C) (i h : Nat) : ep_cG c i h (c.2.1 i h) = c := by
  refine Prod.ext rfl (Prod.ext ?_ rfl)
  funext a b
  simp only [ep_cG, ep_ug]
  by_cases h1 : a = i
  · by_cases h2 : b = h
    · subst h1 h2; simp
    · simp [h2]
  · simp [h1]
theorem er_cGH (c : ep_C) (i h : Nat) (f : Nat → Int32) (j : Nat) (v : Int32) : ep_cH (ep_cG c i h f) i h j v = ep_cG c i h (upd f j v) := by
  unfold ep_cH
  rw [ep_cGs, ep_cGG]
theorem er_fillX (c : ep_C) (m0 : ep_M) {h : Nat} (hh : h < 2) (v : Int32) : eF_23_fill (ep_mk c m0) (eh_hp (nI h) + 1) 32 v = some (ep_mk (ep_cG c 1 h (er_fl (c.2.1 1 h) 32 v)) m0) := by
  unfold eF_23_fill
  rw [ep_V]
  refine ep_lp (fun i => (nI i, ep_mk (ep_cG c 1 h (er_fl (c.2.1 1 h) i v)) m0)) 32 _ (by decide) ?_ ?_ ?_ rfl
  · show _ = (nI 0, ep_mk (ep_cG c 1 h (er_fl (c.2.1 1 h) 0 v)) m0)
    rw [er_fl0, er_cGid]; rfl
  · intro i hi rec
    show (if nI i < nI 32 then _ else _) = _
    rw [if_pos (nI_lt hi (by omega)), if_pos (ep_in hi (by omega)), ep_V, ep_V, ep_ix (by omega), ep_iH1 _ _ _ _ hh, er_cGH, er_fls, nI_1]
  · intro rec
    show (if nI 32 < nI 32 then _ else _) = _
    rw [if_neg (nI_nlt (Nat.le_refl _) (by omega))]
def er_hr (f : Nat → Int32) : Nat → Int32 := upd (upd (upd (upd (upd (upd (upd (upd (upd (upd (upd (upd (upd (upd (upd (upd (upd f 2 0) 3 1) 4 0) 5 (-1)) 6 0) 7 0) 8 0) 9 0) 10 0) 11 0) 12 0) 13 0) 14 0) 15 0) 16 0) 17 (-1)) 18 0
theorem er_hrs (c : ep_C) (m0 : ep_M) {h : Nat} (hh : h < 2) : eF_4_restart (ep_mk c m0) (eh_hp (nI h)) = some (ep_mk (ep_cG (ep_cG c 1 h (er_fl (c.2.1 1 h) 32 0)) 0 h (er_hr (c.2.1 0 h))) m0) := by
  unfold eF_4_restart
  rw [er_fillX c m0 hh, ep_sb]
  have e1 : ∀ v, ep_cH (ep_cG c 1 h (er_fl (c.2.1 1 h) 32 0)) 0 h 2 v = ep_cG (ep_cG c 1 h (er_fl (c.2.1 1 h) 32 0)) 0 h (upd (c.2.1 0 h) 2 v) := fun v => rfl
  simp only [ep_V, ep_iH0 _ _ _ _ hh, e1, er_cGH]
  rfl
def er_F1 (F : Nat → Nat → Nat → Int32) (n : Nat) : Nat → Nat → Nat → Int32 := fun i h => if i = 0 ∧ h < n then er_hr (F 0 h) else if i = 1 ∧ h < n then er_fl (F 1 h) 32 0 else F i h
def er_F2 (F : Nat → Nat → Nat → Int32) (n : Nat) : Nat → Nat → Nat → Int32 := fun i h => if i = 2 ∧ h < n then upd (F 2 h) 6 0 else F i h
def er_F4 (F : Nat → Nat → Nat → Int32) (n : Nat) : Nat → Nat → Nat → Int32 := fun i h => if i = 4 ∧ h < n then upd (upd (F 4 h) 5 0) 8 0 else F i h
theorem er_F1_0 (F : Nat → Nat → Nat → Int32) : er_F1 F 0 = F := by funext i h; simp [er_F1]
theorem er_F2_0 (F : Nat → Nat → Nat → Int32) : er_F2 F 0 = F := by funext i h; simp [er_F2]
theorem er_F4_0 (F : Nat → Nat → Nat → Int32) : er_F4 F 0 = F := by funext i h; simp [er_F4]
theorem er_F1_s (a : Nat → Nat → Int32) (F : Nat → Nat → Nat → Int32) (q : Nat → Nat) (n : Nat) : ep_cG (ep_cG (a, er_F1 F n, q) 1 n (er_fl (er_F1 F n 1 n) 32 0)) 0 n (er_hr (er_F1 F n 0 n)) = (a, er_F1 F (n + 1), q) := by
  refine Prod.ext rfl (Prod.ext ?_ rfl)
  funext i h
  simp only [ep_cG, ep_ug, er_F1]
  by_cases h0 : i = 0
  · subst h0
    by_cases h2 : h = n
    · subst h2; simp
    · by_cases h3 : h < n
      · simp [h2, h3, show h < n + 1 by omega]
      · simp [h2, h3, show ¬ h < n + 1 by omega]
  · by_cases h1 : i = 1
    · subst h1
      by_cases h2 : h = n
      · subst h2; simp
      · by_cases h3 : h < n
        · simp [h2, h3, show h < n + 1 by omega]
        · simp [h2, h3, show ¬ h < n + 1 by omega]
    · simp [h0, h1]
theorem er_F2_s (a : Nat → Nat → Int32) (F : Nat → Nat → Nat → Int32) (q : Nat → Nat) (n : Nat) : ep_cH (a, er_F2 F n, q) 2 n 6 0 = (a, er_F2 F (n + 1), q) := by
  refine Prod.ext rfl (Prod.ext ?_ rfl)
  funext i h
  simp only [ep_cH, ep_cG, ep_ug, er_F2]
  by_cases h1 : i = 2
  · subst h1
    by_cases h2 : h = n
    · subst h2; simp
    · by_cases h3 : h < n
      · simp [h2, h3, show h < n + 1 by omega]
      · simp [h2, h3, show ¬ h < n + 1 by omega]
  · simp [h1]
theorem er_F4_s (a : Nat → Nat → Int32) (F : Nat → Nat → Nat → Int32) (q : Nat → Nat) (n : Nat) : ep_cH (ep_cH (a, er_F4 F n, q) 4 n 5 0) 4 n 8 0 = (a, er_F4 F (n + 1), q) := by
  refine Prod.ext rfl (Prod.ext ?_ rfl)
  funext i h
  simp only [ep_cH, ep_cG, ep_ug, er_F4]
  by_cases h1 : i = 4
  · subst h1
    by_cases h2 : h = n
    · subst h2; simp
    · by_cases h3 : h < n
      · simp [h2, h3, show h < n + 1 by omega]
      · simp [h2, h3, show ¬ h < n + 1 by omega]
  · simp [h1]
def er_G (F : Nat → Nat → Nat → Int32) : Nat → Nat → Nat → Int32 := er_F4 (er_F2 (er_F1 F 2) 12) 6
theorem er_G0 (F : Nat → Nat → Nat → Int32) {h : Nat} (hh : h < 2) : er_G F 0 h = er_hr (F 0 h) := by simp [er_G, er_F4, er_F2, er_F1, hh]
theorem er_G1 (F : Nat → Nat → Nat → Int32) {h : Nat} (hh : h < 2) : er_G F 1 h = er_fl (F 1 h) 32 0 := by simp [er_G, er_F4, er_F2, er_F1, hh]
theorem er_G2 (F : Nat → Nat → Nat → Int32) {h : Nat} (hh : h < 12) : er_G F 2 h = upd (F 2 h) 6 0 := by simp [er_G, er_F4, er_F2, er_F1, hh]
theorem er_G4 (F : Nat → Nat → Nat → Int32) {h : Nat} (hh : h < 6) : er_G F 4 h = upd (upd (F 4 h) 5 0) 8 0 := by simp [er_G, er_F4, er_F2, er_F1, hh]
theorem er_Gi (F : Nat → Nat → Nat → Int32) {i : Nat} (hi : 4 < i) (h : Nat) : er_G F i h = F i h := by simp [er_G, er_F4, er_F2, er_F1, show ¬ i = 4 by omega, show ¬ i = 2 by omega, show ¬ i = 1 by omega, show ¬ i = 0 by omega]
def er_cf (k n : Nat) (v : Int32) (d : ep_C) : ep_C := ep_cL d k (er_fl (d.1 k) n v)
def er_c0 (c : ep_C) : ep_C := ep_cI (ep_cI (ep_cI (ep_cI (ep_cI (ep_cI (ep_cI (ep_cI (ep_cI (ep_cI (er_cf 11 2 (-1) (er_cf 3 12 0 (er_cf 10 512 (-1) (er_cf 9 32768 0 c)))) 12 0 0) 12 1 0) 12 7 0) 12 8 0) 12 9 0) 18 1 0) 20 1 0) 12 14 (-1)) 22 1 0) 24 1 0
def er_c1 (c : ep_C) : ep_C := ((er_c0 c).1, er_G c.2.1, c.2.2)
def er_cA (c : ep_C) : ep_C := ep_cI (ep_cI (er_cf 34 8 0 (er_c1 c)) 1 10 0) 1 11 0
theorem er_c0_2 (c : ep_C) : (er_c0 c).2 = c.2 := by
  unfold er_c0 er_cf
  simp only [ep_cI2, ep_cL2]
theorem er_c0_e (c : ep_C) : er_c0 c = ((er_c0 c).1, c.2.1, c.2.2) := Prod.ext rfl (er_c0_2 c)
theorem er_crst (c : ep_C) (m0 : ep_M) (v : Int32) : eF_5_restart (ep_mk c m0) v = Option.bind (eF_9_beginKeyed (ep_mk (er_cA c) m0) 29 37 8) (fun q12 => Option.bind (eF_9_feedNumber q12 29 v) (fun q13 => Option.bind (eF_9_endKeyed q13 29 37 8 33 8) (fun q14 => some q14))) := by
  have h1 : eF_6_clear (ep_mk c m0) = some (ep_mk (er_cf 11 2 (-1) (er_cf 3 12 0 (er_cf 10 512 (-1) (er_cf 9 32768 0 c)))) m0) := by
    unfold eF_6_clear
    rw [er_fillC _ _ (by decide) (by decide), ep_sb]
    refine ep_bnd (er_fillC (er_cf 9 32768 0 c) m0 (by decide) (by decide) _) ?_
    refine ep_bnd (er_fillC (er_cf 10 512 (-1) (er_cf 9 32768 0 c)) m0 (by decide) (by decide) _) ?_
    refine ep_bnd (er_fillC (er_cf 3 12 0 (er_cf 10 512 (-1) (er_cf 9 32768 0 c))) m0 (by decide) (by decide) _) ?_
    rfl
  have h2 : ∀ d : ep_C, eF_0_restart (ep_mk d m0) = some (ep_mk (ep_cI (ep_cI (ep_cI (ep_cI (ep_cI (ep_cI (ep_cI (ep_cI (ep_cI (ep_cI d 12 0 0) 12 1 0) 12 7 0) 12 8 0) 12 9 0) 18 1 0) 20 1 0) 12 14 (-1)) 22 1 0) 24 1 0) m0) := by
    intro d
    unfold eF_0_restart eF_8_clear
    simp only [ep_V, ep_iC1 _ _ _ _ _ (show 12 < 41 by decide), ep_iC1 _ _ _ _ _ (show 18 < 41 by decide), ep_iC1 _ _ _ _ _ (show 20 < 41 by decide), ep_sb, ep_cgpath]
  have h3 : ep_cI (ep_cI (ep_cI (ep_cI (ep_cI (ep_cI (ep_cI (ep_cI (ep_cI (ep_cI (er_cf 11 2 (-1) (er_cf 3 12 0 (er_cf 10 512 (-1) (er_cf 9 32768 0 c)))) 12 0 0) 12 1 0) 12 7 0) 12 8 0) 12 9 0) 18 1 0) 20 1 0) 12 14 (-1)) 22 1 0) 24 1 0 = ((er_c0 c).1, c.2.1, c.2.2) := er_c0_e c
  unfold eF_5_restart
  rw [h1, ep_sb, h2, ep_sb, h3]
  generalize hA : (er_c0 c).1 = A
  refine ep_lp (fun i => (nI i, ep_mk (A, er_F1 c.2.1 i, c.2.2) m0)) 2 (ep_mk (A, er_F1 c.2.1 2, c.2.2) m0) (by decide) ?_ ?_ ?_ ?_
  · show _ = (nI 0, ep_mk (A, er_F1 c.2.1 0, c.2.2) m0)
    rw [er_F1_0]; rfl
  · intro i hi rec
    show (if nI i < 2 then _ else _) = _
    rw [if_pos (show nI i < 2 from nI_lt (b := 2) hi (by decide)), if_pos (ep_in hi (by decide)), er_hrs _ _ hi, ep_sb, ep_V, nI_1]
    show rec (nI (i + 1), ep_mk (ep_cG (ep_cG (A, er_F1 c.2.1 i, c.2.2) 1 i (er_fl (er_F1 c.2.1 i 1 i) 32 0)) 0 i (er_hr (er_F1 c.2.1 i 0 i))) m0) = _
    rw [er_F1_s]
  · intro rec
    show (if nI 2 < 2 then _ else _) = _
    rw [if_neg (by decide)]
  refine ep_lp (fun i => (nI i, ep_mk (A, er_F2 (er_F1 c.2.1 2) i, c.2.2) m0)) 12 (ep_mk (A, er_F2 (er_F1 c.2.1 2) 12, c.2.2) m0) (by decide) ?_ ?_ ?_ ?_
  · show _ = (nI 0, ep_mk (A, er_F2 (er_F1 c.2.1 2) 0, c.2.2) m0)
    rw [er_F2_0]; rfl
  · intro i hi rec
    show (if nI i < 12 then _ else _) = _
    rw [if_pos (show nI i < 12 from nI_lt (b := 12) hi (by decide)), if_pos (ep_in hi (by decide)), ep_V, ep_V, ep_iF0 _ _ _ _ hi, er_F2_s, nI_1]
  · intro rec
    show (if nI 12 < 12 then _ else _) = _
    rw [if_neg (by decide)]
  refine ep_lp (fun i => (nI i, ep_mk (A, er_F4 (er_F2 (er_F1 c.2.1 2) 12) i, c.2.2) m0)) 6 (ep_mk (A, er_G c.2.1, c.2.2) m0) (by decide) ?_ ?_ ?_ ?_
  · show _ = (nI 0, ep_mk (A, er_F4 (er_F2 (er_F1 c.2.1 2) 12) 0, c.2.2) m0)
    rw [er_F4_0]; rfl
  · intro i hi rec
    have i6 : eh_in (nI i) 6 = true := ep_in hi (by decide)
    have wE : ∀ (d : ep_C) (j : Nat) (u : Int32), eh_tI (ep_mk d m0) (eh_ep (nI i)) j u = ep_mk (ep_cH d 4 i j u) m0 := fun d j u => ep_iE d m0 0 j u hi (by decide)
    show (if nI i < 6 then _ else _) = _
    rw [if_pos (show nI i < 6 from nI_lt (b := 6) hi (by decide)), if_pos i6, ep_V, wE, if_pos i6, ep_V, wE, ep_V, er_F4_s, nI_1]
  · intro rec
    show (if nI 6 < 6 then _ else _) = _
    rw [if_neg (by decide)]
    rfl
  have h4 : (A, er_G c.2.1, c.2.2) = er_c1 c := by unfold er_c1; rw [hA]
  rw [h4]
  refine ep_bnd (er_fillC (er_c1 c) m0 (by decide) (by decide) _) ?_
  rw [ep_V, ep_iC1 _ _ _ _ _ (by decide), ep_V, ep_iC1 _ _ _ _ _ (by decide)]
  rfl
