/-! a state in two halves: the class's cells (literal ones, and families of cells), the reference's -/
abbrev ep_C : Type := (Nat → Nat → Int32) × (Nat → Nat → Nat → Int32) × (Nat → Nat)
abbrev ep_M : Type := (Nat → Nat → Int32) × (Nat → Int64)
def ep_mk (c : ep_C) (m : ep_M) : eh_F := (fun k => if k < 41 then c.1 k else if k < 45 then c.2.1 ((k - 41) % 2) ((k - 41) / 2) else if k < 69 then c.2.1 (2 + (k - 45) % 2) ((k - 45) / 2) else if k < 123 then c.2.1 (4 + (k - 69) % 9) ((k - 69) / 9) else if k < 127 then c.1 k else m.1 k, fun k => if k = 190 then m.2 else fun _ => 0, c.2.2)
def ep_uf (L : Nat → Nat → Int32) (k : Nat) (f : Nat → Int32) : Nat → Nat → Int32 := fun a => if a = k then f else L a
def ep_ug (F : Nat → Nat → Nat → Int32) (i h : Nat) (f : Nat → Int32) : Nat → Nat → Nat → Int32 := fun a b => if a = i then (if b = h then f else F a b) else F a b
def ep_cL (c : ep_C) (k : Nat) (f : Nat → Int32) : ep_C := (ep_uf c.1 k f, c.2)
def ep_cI (c : ep_C) (k j : Nat) (v : Int32) : ep_C := ep_cL c k (upd (c.1 k) j v)
def ep_cG (c : ep_C) (i h : Nat) (f : Nat → Int32) : ep_C := (c.1, ep_ug c.2.1 i h f, c.2.2)
def ep_cH (c : ep_C) (i h j : Nat) (v : Int32) : ep_C := ep_cG c i h (upd (c.2.1 i h) j v)
def ep_cQ (c : ep_C) (j q : Nat) : ep_C := (c.1, c.2.1, eh_uN c.2.2 j q)
def ep_mL (m : ep_M) (k : Nat) (f : Nat → Int32) : ep_M := (ep_uf m.1 k f, m.2)
def ep_mI (m : ep_M) (k j : Nat) (v : Int32) : ep_M := ep_mL m k (upd (m.1 k) j v)
def ep_mJ (m : ep_M) (j : Nat) (v : Int64) : ep_M := (m.1, vp_updL m.2 j v)
theorem ep_cL1 (c : ep_C) (k : Nat) (f : Nat → Int32) : (ep_cL c k f).1 k = f := by simp [ep_cL, ep_uf]
theorem ep_cLn (c : ep_C) (k a : Nat) (f : Nat → Int32) (h : a ≠ k) : (ep_cL c k f).1 a = c.1 a := by simp [ep_cL, ep_uf, h]
theorem ep_cL2 (c : ep_C) (k : Nat) (f : Nat → Int32) : (ep_cL c k f).2 = c.2 := rfl
theorem ep_cI1 (c : ep_C) (k j : Nat) (v : Int32) : (ep_cI c k j v).1 k = upd (c.1 k) j v := ep_cL1 c k _
theorem ep_cIn (c : ep_C) (k a j : Nat) (v : Int32) (h : a ≠ k) : (ep_cI c k j v).1 a = c.1 a := ep_cLn c k a _ h
theorem ep_cI2 (c : ep_C) (k j : Nat) (v : Int32) : (ep_cI c k j v).2 = c.2 := rfl
theorem ep_cG1 (c : ep_C) (i h : Nat) (f : Nat → Int32) : (ep_cG c i h f).1 = c.1 := rfl
theorem ep_cGq (c : ep_C) (i h : Nat) (f : Nat → Int32) : (ep_cG c i h f).2.2 = c.2.2 := rfl
theorem ep_cGs (c : ep_C) (i h : Nat) (f : Nat → Int32) : (ep_cG c i h f).2.1 i h = f := by simp [ep_cG, ep_ug]
theorem ep_cGi (c : ep_C) (i h a b : Nat) (f : Nat → Int32) (q : a ≠ i) : (ep_cG c i h f).2.1 a b = c.2.1 a b := by simp [ep_cG, ep_ug, q]
theorem ep_cGh (c : ep_C) (i h b : Nat) (f : Nat → Int32) (q : b ≠ h) : (ep_cG c i h f).2.1 i b = c.2.1 i b := by simp [ep_cG, ep_ug, q]
theorem ep_cGe (c : ep_C) (i h b : Nat) (f : Nat → Int32) : (ep_cG c i h f).2.1 i b = if b = h then f else c.2.1 i b := by simp [ep_cG, ep_ug]
theorem ep_cH1 (c : ep_C) (i h j : Nat) (v : Int32) : (ep_cH c i h j v).1 = c.1 := rfl
theorem ep_cHq (c : ep_C) (i h j : Nat) (v : Int32) : (ep_cH c i h j v).2.2 = c.2.2 := rfl
theorem ep_cHs (c : ep_C) (i h j : Nat) (v : Int32) : (ep_cH c i h j v).2.1 i h = upd (c.2.1 i h) j v := ep_cGs c i h _
theorem ep_cHi (c : ep_C) (i h a b j : Nat) (v : Int32) (q : a ≠ i) : (ep_cH c i h j v).2.1 a b = c.2.1 a b := ep_cGi c i h a b _ q
theorem ep_cHh (c : ep_C) (i h b j : Nat) (v : Int32) (q : b ≠ h) : (ep_cH c i h j v).2.1 i b = c.2.1 i b := ep_cGh c i h b _ q
theorem ep_cHe (c : ep_C) (i h b j : Nat) (v : Int32) : (ep_cH c i h j v).2.1 i b = if b = h then upd (c.2.1 i h) j v else c.2.1 i b := ep_cGe c i h b _
theorem ep_cQ1 (c : ep_C) (j q : Nat) : (ep_cQ c j q).1 = c.1 := rfl
theorem ep_cQ2 (c : ep_C) (j q : Nat) : (ep_cQ c j q).2.1 = c.2.1 := rfl
theorem ep_cQq (c : ep_C) (j q : Nat) : (ep_cQ c j q).2.2 j = q := by simp [ep_cQ, eh_uN]
theorem ep_cQn (c : ep_C) (j q a : Nat) (h : a ≠ j) : (ep_cQ c j q).2.2 a = c.2.2 a := by simp [ep_cQ, eh_uN, h]
theorem ep_mL1 (m : ep_M) (k : Nat) (f : Nat → Int32) : (ep_mL m k f).1 k = f := by simp [ep_mL, ep_uf]
theorem ep_mLn (m : ep_M) (k a : Nat) (f : Nat → Int32) (h : a ≠ k) : (ep_mL m k f).1 a = m.1 a := by simp [ep_mL, ep_uf, h]
theorem ep_mL2 (m : ep_M) (k : Nat) (f : Nat → Int32) : (ep_mL m k f).2 = m.2 := rfl
theorem ep_mI1 (m : ep_M) (k j : Nat) (v : Int32) : (ep_mI m k j v).1 k = upd (m.1 k) j v := ep_mL1 m k _
theorem ep_mIn (m : ep_M) (k a j : Nat) (v : Int32) (h : a ≠ k) : (ep_mI m k j v).1 a = m.1 a := ep_mLn m k a _ h
theorem ep_mI2 (m : ep_M) (k j : Nat) (v : Int32) : (ep_mI m k j v).2 = m.2 := rfl
theorem ep_mJ1 (m : ep_M) (j : Nat) (v : Int64) : (ep_mJ m j v).1 = m.1 := rfl
theorem ep_mJ2 (m : ep_M) (j : Nat) (v : Int64) : (ep_mJ m j v).2 = vp_updL m.2 j v := rfl
/-! reading -/
theorem ep_rC1 (c : ep_C) (m : ep_M) (k : Nat) (h : k < 41) : (ep_mk c m).1 k = c.1 k := by simp only [ep_mk, h, if_true]
theorem ep_rC2 (c : ep_C) (m : ep_M) (k : Nat) (h1 : 123 ≤ k) (h2 : k < 127) : (ep_mk c m).1 k = c.1 k := by
  simp only [ep_mk, show ¬ k < 41 by omega, show ¬ k < 45 by omega, show ¬ k < 69 by omega, show ¬ k < 123 by omega, h2, if_false, if_true]
theorem ep_rM (c : ep_C) (m : ep_M) (k : Nat) (h : 127 ≤ k) : (ep_mk c m).1 k = m.1 k := by
  simp only [ep_mk, show ¬ k < 41 by omega, show ¬ k < 45 by omega, show ¬ k < 69 by omega, show ¬ k < 123 by omega, show ¬ k < 127 by omega, if_false]
theorem ep_rJ (c : ep_C) (m : ep_M) : (ep_mk c m).2.1 190 = m.2 := rfl
theorem ep_rQ (c : ep_C) (m : ep_M) : (ep_mk c m).2.2 = c.2.2 := rfl
theorem ep_rG2 (c : ep_C) (m : ep_M) (i h : Nat) (hi : i < 2) (hh : h < 2) : (ep_mk c m).1 (41 + 2 * h + i) = c.2.1 i h := by
  have e1 : (41 + 2 * h + i - 41) % 2 = i := by omega
  have e2 : (41 + 2 * h + i - 41) / 2 = h := by omega
  simp only [ep_mk, show ¬ 41 + 2 * h + i < 41 by omega, show 41 + 2 * h + i < 45 by omega, if_false, if_true, e1, e2]
theorem ep_rG12 (c : ep_C) (m : ep_M) (i h : Nat) (hi : i < 2) (hh : h < 12) : (ep_mk c m).1 (45 + 2 * h + i) = c.2.1 (2 + i) h := by
  have e1 : (45 + 2 * h + i - 45) % 2 = i := by omega
  have e2 : (45 + 2 * h + i - 45) / 2 = h := by omega
  simp only [ep_mk, show ¬ 45 + 2 * h + i < 41 by omega, show ¬ 45 + 2 * h + i < 45 by omega, show 45 + 2 * h + i < 69 by omega, if_false, if_true, e1, e2]
theorem ep_rG6 (c : ep_C) (m : ep_M) (i h : Nat) (hi : i < 9) (hh : h < 6) : (ep_mk c m).1 (69 + 9 * h + i) = c.2.1 (4 + i) h := by
  have e1 : (69 + 9 * h + i - 69) % 9 = i := by omega
  have e2 : (69 + 9 * h + i - 69) / 9 = h := by omega
  simp only [ep_mk, show ¬ 69 + 9 * h + i < 41 by omega, show ¬ 69 + 9 * h + i < 45 by omega, show ¬ 69 + 9 * h + i < 69 by omega, show 69 + 9 * h + i < 123 by omega, if_false, if_true, e1, e2]
theorem ep_hp {h : Nat} (hh : h < 2) : eh_hp (nI h) = 41 + 2 * h := by unfold eh_hp; rw [nI_clamp (by omega)]
theorem ep_fp {h : Nat} (hh : h < 12) : eh_fp (nI h) = 45 + 2 * h := by unfold eh_fp; rw [nI_clamp (by omega)]
theorem ep_ep {h : Nat} (hh : h < 6) : eh_ep (nI h) = 69 + 9 * h := by unfold eh_ep; rw [nI_clamp (by omega)]
/-! writing -/
theorem ep_wC (c : ep_C) (m : ep_M) (k : Nat) (f : Nat → Int32) (h : k < 41 ∨ (123 ≤ k ∧ k < 127)) : eh_tF (ep_mk c m) k f = ep_mk (ep_cL c k f) m := by
  refine Prod.ext ?_ rfl
  funext a
  show (if a = k then f else (ep_mk c m).1 a) = (ep_mk (ep_cL c k f) m).1 a
  by_cases ha : a = k
  · subst ha
    rw [if_pos rfl]
    rcases h with h | h
    · rw [ep_rC1 _ _ _ h, ep_cL1]
    · rw [ep_rC2 _ _ _ h.1 h.2, ep_cL1]
  · rw [if_neg ha]
    simp only [ep_mk, ep_cL2, ep_cLn _ _ _ _ ha]
theorem ep_wC1 (c : ep_C) (m : ep_M) (k : Nat) (f : Nat → Int32) (h : k < 41) : eh_tF (ep_mk c m) k f = ep_mk (ep_cL c k f) m := ep_wC c m k f (Or.inl h)
theorem ep_wC2 (c : ep_C) (m : ep_M) (k : Nat) (f : Nat → Int32) (h1 : 123 ≤ k) (h2 : k < 127) : eh_tF (ep_mk c m) k f = ep_mk (ep_cL c k f) m := ep_wC c m k f (Or.inr ⟨h1, h2⟩)
theorem ep_wM (c : ep_C) (m : ep_M) (k : Nat) (f : Nat → Int32) (h : 127 ≤ k) : eh_tF (ep_mk c m) k f = ep_mk c (ep_mL m k f) := by
  refine Prod.ext ?_ rfl
  funext a
  show (if a = k then f else (ep_mk c m).1 a) = (ep_mk c (ep_mL m k f)).1 a
  by_cases ha : a = k
  · subst ha
    rw [if_pos rfl, ep_rM _ _ _ h, ep_mL1]
  · rw [if_neg ha]
    simp only [ep_mk, ep_mLn _ _ _ _ ha]
theorem ep_wG2 (c : ep_C) (m : ep_M) (i h : Nat) (f : Nat → Int32) (hi : i < 2) (hh : h < 2) : eh_tF (ep_mk c m) (41 + 2 * h + i) f = ep_mk (ep_cG c i h f) m := by
  refine Prod.ext ?_ rfl
  funext a
  show (if a = 41 + 2 * h + i then f else (ep_mk c m).1 a) = (ep_mk (ep_cG c i h f) m).1 a
  by_cases ha : a = 41 + 2 * h + i
  · subst ha
    rw [if_pos rfl, ep_rG2 _ _ _ _ hi hh, ep_cGs]
  · rw [if_neg ha]
    simp only [ep_mk, ep_cG1]
    split
    · rfl
    · split
      · by_cases q : (a - 41) % 2 = i
        · rw [q, ep_cGh _ _ _ _ _ (by omega)]
        · rw [ep_cGi _ _ _ _ _ _ q]
      · split
        · rw [ep_cGi _ _ _ _ _ _ (by omega)]
        · split
          · rw [ep_cGi _ _ _ _ _ _ (by omega)]
          · rfl
theorem ep_wG12 (c : ep_C) (m : ep_M) (i h : Nat) (f : Nat → Int32) (hi : i < 2) (hh : h < 12) : eh_tF (ep_mk c m) (45 + 2 * h + i) f = ep_mk (ep_cG c (2 + i) h f) m := by
  refine Prod.ext ?_ rfl
  funext a
  show (if a = 45 + 2 * h + i then f else (ep_mk c m).1 a) = (ep_mk (ep_cG c (2 + i) h f) m).1 a
  by_cases ha : a = 45 + 2 * h + i
  · subst ha
    rw [if_pos rfl, ep_rG12 _ _ _ _ hi hh, ep_cGs]
  · rw [if_neg ha]
    simp only [ep_mk, ep_cG1]
    split
    · rfl
    · split
      · rw [ep_cGi _ _ _ _ _ _ (by omega)]
      · split
        · by_cases q : 2 + (a - 45) % 2 = 2 + i
          · rw [q, ep_cGh _ _ _ _ _ (by omega)]
          · rw [ep_cGi _ _ _ _ _ _ q]
        · split
          · rw [ep_cGi _ _ _ _ _ _ (by omega)]
          · rfl
theorem ep_wG6 (c : ep_C) (m : ep_M) (i h : Nat) (f : Nat → Int32) (hi : i < 9) (hh : h < 6) : eh_tF (ep_mk c m) (69 + 9 * h + i) f = ep_mk (ep_cG c (4 + i) h f) m := by
  refine Prod.ext ?_ rfl
  funext a
  show (if a = 69 + 9 * h + i then f else (ep_mk c m).1 a) = (ep_mk (ep_cG c (4 + i) h f) m).1 a
  by_cases ha : a = 69 + 9 * h + i
  · subst ha
    rw [if_pos rfl, ep_rG6 _ _ _ _ hi hh, ep_cGs]
  · rw [if_neg ha]
    simp only [ep_mk, ep_cG1]
    split
    · rfl
    · split
      · rw [ep_cGi _ _ _ _ _ _ (by omega)]
      · split
        · rw [ep_cGi _ _ _ _ _ _ (by omega)]
        · split
          · by_cases q : 4 + (a - 69) % 9 = 4 + i
            · rw [q, ep_cGh _ _ _ _ _ (by omega)]
            · rw [ep_cGi _ _ _ _ _ _ q]
          · rfl
theorem ep_iC1 (c : ep_C) (m : ep_M) (k j : Nat) (v : Int32) (h : k < 41) : eh_tI (ep_mk c m) k j v = ep_mk (ep_cI c k j v) m := by
  unfold eh_tI; rw [ep_wC1 _ _ _ _ h, ep_rC1 _ _ _ h]; rfl
theorem ep_iC2 (c : ep_C) (m : ep_M) (k j : Nat) (v : Int32) (h1 : 123 ≤ k) (h2 : k < 127) : eh_tI (ep_mk c m) k j v = ep_mk (ep_cI c k j v) m := by
  unfold eh_tI; rw [ep_wC2 _ _ _ _ h1 h2, ep_rC2 _ _ _ h1 h2]; rfl
theorem ep_iM (c : ep_C) (m : ep_M) (k j : Nat) (v : Int32) (h : 127 ≤ k) : eh_tI (ep_mk c m) k j v = ep_mk c (ep_mI m k j v) := by
  unfold eh_tI; rw [ep_wM _ _ _ _ h, ep_rM _ _ _ h]; rfl
theorem ep_wJ (c : ep_C) (m : ep_M) (j : Nat) (v : Int64) : eh_tJ (ep_mk c m) 190 j v = ep_mk c (ep_mJ m j v) := by
  refine Prod.ext rfl (Prod.ext ?_ rfl)
  funext a
  show (if a = 190 then vp_updL m.2 j v else (if a = 190 then m.2 else fun _ => 0)) = (if a = 190 then vp_updL m.2 j v else fun _ => 0)
  by_cases h : a = 190
  · rw [if_pos h, if_pos h]
  · rw [if_neg h, if_neg h, if_neg h]
theorem ep_wQ (c : ep_C) (m : ep_M) (j q : Nat) : eh_tQ (ep_mk c m) j q = ep_mk (ep_cQ c j q) m := rfl
/-! harts, fibres, enclaves by their numbers -/
theorem ep_rH0 (c : ep_C) (m : ep_M) {h : Nat} (hh : h < 2) : (ep_mk c m).1 (eh_hp (nI h)) = c.2.1 0 h := by rw [ep_hp hh]; exact ep_rG2 c m 0 h (by decide) hh
theorem ep_rH1 (c : ep_C) (m : ep_M) {h : Nat} (hh : h < 2) : (ep_mk c m).1 (eh_hp (nI h) + 1) = c.2.1 1 h := by rw [ep_hp hh]; exact ep_rG2 c m 1 h (by decide) hh
theorem ep_rF0 (c : ep_C) (m : ep_M) {h : Nat} (hh : h < 12) : (ep_mk c m).1 (eh_fp (nI h)) = c.2.1 2 h := by rw [ep_fp hh]; exact ep_rG12 c m 0 h (by decide) hh
theorem ep_rF1 (c : ep_C) (m : ep_M) {h : Nat} (hh : h < 12) : (ep_mk c m).1 (eh_fp (nI h) + 1) = c.2.1 3 h := by rw [ep_fp hh]; exact ep_rG12 c m 1 h (by decide) hh
theorem ep_rE (c : ep_C) (m : ep_M) {h : Nat} (i : Nat) (hh : h < 6) (hi : i < 9) : (ep_mk c m).1 (eh_ep (nI h) + i) = c.2.1 (4 + i) h := by rw [ep_ep hh]; exact ep_rG6 c m i h hi hh
theorem ep_rE0 (c : ep_C) (m : ep_M) {h : Nat} (hh : h < 6) : (ep_mk c m).1 (eh_ep (nI h)) = c.2.1 4 h := ep_rE c m 0 hh (by decide)
theorem ep_wH0 (c : ep_C) (m : ep_M) {h : Nat} (f : Nat → Int32) (hh : h < 2) : eh_tF (ep_mk c m) (eh_hp (nI h)) f = ep_mk (ep_cG c 0 h f) m := by rw [ep_hp hh]; exact ep_wG2 c m 0 h f (by decide) hh
theorem ep_wH1 (c : ep_C) (m : ep_M) {h : Nat} (f : Nat → Int32) (hh : h < 2) : eh_tF (ep_mk c m) (eh_hp (nI h) + 1) f = ep_mk (ep_cG c 1 h f) m := by rw [ep_hp hh]; exact ep_wG2 c m 1 h f (by decide) hh
theorem ep_wF0 (c : ep_C) (m : ep_M) {h : Nat} (f : Nat → Int32) (hh : h < 12) : eh_tF (ep_mk c m) (eh_fp (nI h)) f = ep_mk (ep_cG c 2 h f) m := by rw [ep_fp hh]; exact ep_wG12 c m 0 h f (by decide) hh
theorem ep_wF1 (c : ep_C) (m : ep_M) {h : Nat} (f : Nat → Int32) (hh : h < 12) : eh_tF (ep_mk c m) (eh_fp (nI h) + 1) f = ep_mk (ep_cG c 3 h f) m := by rw [ep_fp hh]; exact ep_wG12 c m 1 h f (by decide) hh
theorem ep_wE (c : ep_C) (m : ep_M) {h : Nat} (i : Nat) (f : Nat → Int32) (hh : h < 6) (hi : i < 9) : eh_tF (ep_mk c m) (eh_ep (nI h) + i) f = ep_mk (ep_cG c (4 + i) h f) m := by rw [ep_ep hh]; exact ep_wG6 c m i h f hi hh
theorem ep_wE0 (c : ep_C) (m : ep_M) {h : Nat} (f : Nat → Int32) (hh : h < 6) : eh_tF (ep_mk c m) (eh_ep (nI h)) f = ep_mk (ep_cG c 4 h f) m := ep_wE c m 0 f hh (by decide)
theorem ep_iH0 (c : ep_C) (m : ep_M) {h : Nat} (j : Nat) (v : Int32) (hh : h < 2) : eh_tI (ep_mk c m) (eh_hp (nI h)) j v = ep_mk (ep_cH c 0 h j v) m := by unfold eh_tI; rw [ep_wH0 _ _ _ hh, ep_rH0 _ _ hh]; rfl
theorem ep_iH1 (c : ep_C) (m : ep_M) {h : Nat} (j : Nat) (v : Int32) (hh : h < 2) : eh_tI (ep_mk c m) (eh_hp (nI h) + 1) j v = ep_mk (ep_cH c 1 h j v) m := by unfold eh_tI; rw [ep_wH1 _ _ _ hh, ep_rH1 _ _ hh]; rfl
theorem ep_iF0 (c : ep_C) (m : ep_M) {h : Nat} (j : Nat) (v : Int32) (hh : h < 12) : eh_tI (ep_mk c m) (eh_fp (nI h)) j v = ep_mk (ep_cH c 2 h j v) m := by unfold eh_tI; rw [ep_wF0 _ _ _ hh, ep_rF0 _ _ hh]; rfl
theorem ep_iF1 (c : ep_C) (m : ep_M) {h : Nat} (j : Nat) (v : Int32) (hh : h < 12) : eh_tI (ep_mk c m) (eh_fp (nI h) + 1) j v = ep_mk (ep_cH c 3 h j v) m := by unfold eh_tI; rw [ep_wF1 _ _ _ hh, ep_rF1 _ _ hh]; rfl
theorem ep_iE (c : ep_C) (m : ep_M) {h : Nat} (i j : Nat) (v : Int32) (hh : h < 6) (hi : i < 9) : eh_tI (ep_mk c m) (eh_ep (nI h) + i) j v = ep_mk (ep_cH c (4 + i) h j v) m := by unfold eh_tI; rw [ep_wE _ _ _ _ hh hi, ep_rE _ _ _ hh hi]; rfl
theorem ep_iE0 (c : ep_C) (m : ep_M) {h : Nat} (j : Nat) (v : Int32) (hh : h < 6) : eh_tI (ep_mk c m) (eh_ep (nI h)) j v = ep_mk (ep_cH c 4 h j v) m := by unfold eh_tI; rw [ep_wE0 _ _ _ hh, ep_rE0 _ _ hh]; rfl
/-! updates one upon another -/
theorem ep_mLL (m : ep_M) (k : Nat) (f g : Nat → Int32) : ep_mL (ep_mL m k f) k g = ep_mL m k g := by
  refine Prod.ext ?_ rfl
  funext a
  show (if a = k then g else (if a = k then f else m.1 a)) = if a = k then g else m.1 a
  by_cases h : a = k <;> simp [h]
theorem ep_cLL (m : ep_C) (k : Nat) (f g : Nat → Int32) : ep_cL (ep_cL m k f) k g = ep_cL m k g := by
  refine Prod.ext ?_ rfl
  funext a
  show (if a = k then g else (if a = k then f else m.1 a)) = if a = k then g else m.1 a
  by_cases h : a = k <;> simp [h]
theorem ep_mLid (m : ep_M) (k : Nat) : ep_mL m k (m.1 k) = m := by
  refine Prod.ext ?_ rfl
  funext a
  show (if a = k then m.1 k else m.1 a) = m.1 a
  by_cases h : a = k <;> simp [h]
theorem ep_cLid (m : ep_C) (k : Nat) : ep_cL m k (m.1 k) = m := by
  refine Prod.ext ?_ rfl
  funext a
  show (if a = k then m.1 k else m.1 a) = m.1 a
  by_cases h : a = k <;> simp [h]
theorem ep_mLI (m : ep_M) (k j : Nat) (f : Nat → Int32) (v : Int32) : ep_mI (ep_mL m k f) k j v = ep_mL m k (upd f j v) := by
  unfold ep_mI; rw [ep_mL1, ep_mLL]
theorem ep_cLI (m : ep_C) (k j : Nat) (f : Nat → Int32) (v : Int32) : ep_cI (ep_cL m k f) k j v = ep_cL m k (upd f j v) := by
  unfold ep_cI; rw [ep_cL1, ep_cLL]
theorem ep_cGG (c : ep_C) (i h : Nat) (f g : Nat → Int32) : ep_cG (ep_cG c i h f) i h g = ep_cG c i h g := by
  refine Prod.ext rfl (Prod.ext ?_ rfl)
  funext a b
  show (if a = i then (if b = h then g else (if a = i then (if b = h then f else c.2.1 a b) else c.2.1 a b)) else (if a = i then (if b = h then f else c.2.1 a b) else c.2.1 a b)) = if a = i then (if b = h then g else c.2.1 a b) else c.2.1 a b
  by_cases q : a = i <;> by_cases r : b = h <;> simp [q, r]
theorem ep_cGid (c : ep_C) (i h : Nat) : ep_cG c i h (c.2.1 i h) = c := by
  refine Prod.ext rfl (Prod.ext ?_ rfl)
  funext a b
  show (if a = i then (if b = h then c.2.1 i h else c.2.1 a b) else c.2.1 a b) = c.2.1 a b
  by_cases q : a = i <;> by_cases r : b = h <;> simp [q, r]
theorem ep_cGH (c : ep_C) (i h j : Nat) (f : Nat → Int32) (v : Int32) : ep_cH (ep_cG c i h f) i h j v = ep_cG c i h (upd f j v) := by
  unfold ep_cH; rw [ep_cGs, ep_cGG]
