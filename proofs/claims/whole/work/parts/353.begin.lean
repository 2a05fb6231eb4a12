/-! a thread begins to run -/
def ep_cbg (c : ep_C) (h t : Nat) (sl : Int32) : ep_C := ep_cI (ep_cG (ep_cG c 2 t (upd (upd (c.2.1 2 t) 6 2) 7 (nI h))) 0 h (upd (upd (upd (upd (c.2.1 0 h) 5 (nI t)) 4 0) 7 sl) 8 0)) 11 h (-1)
def ep_mbg (m : ep_M) (h t : Nat) (sl : Int32) : ep_M := ep_mI (ep_mI (ep_mI (ep_mI (ep_mI (ep_mI (ep_mI m 148 t 2) 144 h (nI t)) 132 h 0) 145 h sl) 146 h 0) 147 h (-1)) 127 86 1
theorem ep_R_begin {N : Nat} {c : ep_C} {m : ep_M} (hR : ep_R N c m) {h t e : Nat} (hh : h < 2) (ht : t < 12) (he : e < 6) (hr : m.1 144 h = -1) (hst : m.1 148 t ≠ 0) (hst2 : m.1 148 t ≠ 2) (hto : m.1 149 t = nI e) (hE : m.1 155 e = 2) (sl : Int32) : ep_R N (ep_cbg c h t sl) (ep_mbg m h t sl) := by
  have hnr : ∀ h', h' < 2 → m.1 144 h' ≠ nI t := by
    intro h' hh' z
    rcases hR.2.2.2.2.2.2.2.2.2.2.2.2.2.1 t ht hst with ⟨_, _, y⟩ | ⟨_, _, _, _, y, _⟩
    · exact y h' hh' z
    · exact hst2 y
  have c0e : ∀ h', (ep_cbg c h t sl).2.1 0 h' = if h' = h then upd (upd (upd (upd (c.2.1 0 h) 5 (nI t)) 4 0) 7 sl) 8 0 else c.2.1 0 h' := by
    intro h'
    show (ep_cG (ep_cG c 2 t _) 0 h _).2.1 0 h' = _
    rw [ep_cGe, ep_cGi _ _ _ _ _ _ (by decide)]
  have c2e : ∀ t', (ep_cbg c h t sl).2.1 2 t' = if t' = t then upd (upd (c.2.1 2 t) 6 2) 7 (nI h) else c.2.1 2 t' := by
    intro t'
    show (ep_cG (ep_cG c 2 t _) 0 h _).2.1 2 t' = _
    rw [ep_cGi _ _ _ _ _ _ (by decide), ep_cGe]
  refine ⟨hR.1, hR.2.1, hR.2.2.1, hR.2.2.2.1, ?_, hR.2.2.2.2.2.1, hR.2.2.2.2.2.2.1, ?_, ?_, ?_, ?_, hR.2.2.2.2.2.2.2.2.2.2.2.1, ?_, ?_, ?_, ?_, hR.2.2.2.2.2.2.2.2.2.2.2.2.2.2.2.2.1, ?_, hR.2.2.2.2.2.2.2.2.2.2.2.2.2.2.2.2.2.2.1, hR.2.2.2.2.2.2.2.2.2.2.2.2.2.2.2.2.2.2.2.1, hR.2.2.2.2.2.2.2.2.2.2.2.2.2.2.2.2.2.2.2.2.1, hR.2.2.2.2.2.2.2.2.2.2.2.2.2.2.2.2.2.2.2.2.2.1, hR.2.2.2.2.2.2.2.2.2.2.2.2.2.2.2.2.2.2.2.2.2.2.1, hR.2.2.2.2.2.2.2.2.2.2.2.2.2.2.2.2.2.2.2.2.2.2.2.1, hR.2.2.2.2.2.2.2.2.2.2.2.2.2.2.2.2.2.2.2.2.2.2.2.2.1, hR.2.2.2.2.2.2.2.2.2.2.2.2.2.2.2.2.2.2.2.2.2.2.2.2.2.1, hR.2.2.2.2.2.2.2.2.2.2.2.2.2.2.2.2.2.2.2.2.2.2.2.2.2.2.1, hR.2.2.2.2.2.2.2.2.2.2.2.2.2.2.2.2.2.2.2.2.2.2.2.2.2.2.2.1, hR.2.2.2.2.2.2.2.2.2.2.2.2.2.2.2.2.2.2.2.2.2.2.2.2.2.2.2.2.1, hR.2.2.2.2.2.2.2.2.2.2.2.2.2.2.2.2.2.2.2.2.2.2.2.2.2.2.2.2.2.1, hR.2.2.2.2.2.2.2.2.2.2.2.2.2.2.2.2.2.2.2.2.2.2.2.2.2.2.2.2.2.2.1, hR.2.2.2.2.2.2.2.2.2.2.2.2.2.2.2.2.2.2.2.2.2.2.2.2.2.2.2.2.2.2.2.1, hR.2.2.2.2.2.2.2.2.2.2.2.2.2.2.2.2.2.2.2.2.2.2.2.2.2.2.2.2.2.2.2.2.1, hR.2.2.2.2.2.2.2.2.2.2.2.2.2.2.2.2.2.2.2.2.2.2.2.2.2.2.2.2.2.2.2.2.2⟩
  · intro h' hh'
    show (upd (c.1 11) h (-1) h' = -1 ∧ upd (m.1 147) h (-1) h' = -1) ∨ ∃ j, j < 32768 ∧ upd (c.1 11) h (-1) h' = nI j ∧ upd (m.1 147) h (-1) h' = nI (4 * j)
    by_cases e1 : h' = h
    · subst e1; rw [ep_upd_eq, ep_upd_eq]; exact Or.inl ⟨rfl, rfl⟩
    · rw [ep_upd_ne e1, ep_upd_ne e1]; exact hR.2.2.2.2.1 h' hh'
  · intro h' hh'
    rw [c0e]
    obtain ⟨a0, a2, a3, a4, a5, a6, a9⟩ := hR.2.2.2.2.2.2.2.1 h' hh'
    by_cases e1 : h' = h
    · subst e1
      rw [if_pos rfl]
      exact ⟨a0, a2, a3, (by show (0 : Int32) = upd (m.1 132) h' 0 h'; rw [ep_upd_eq]), (by show nI t = upd (m.1 144) h' (nI t) h'; rw [ep_upd_eq]), a6, a9⟩
    · rw [if_neg e1]
      exact ⟨a0, a2, a3, (by show c.2.1 0 h' 4 = upd (m.1 132) h 0 h'; rw [ep_upd_ne e1]; exact a4), (by show c.2.1 0 h' 5 = upd (m.1 144) h (nI t) h'; rw [ep_upd_ne e1]; exact a5), a6, a9⟩
  · intro h' hh'
    obtain ⟨b1, b2, b3, b4⟩ := hR.2.2.2.2.2.2.2.2.1 h' hh'
    refine ⟨b1, b2, ?_, b4⟩
    show ep_bo (upd (m.1 132) h 0 h')
    by_cases e1 : h' = h
    · subst e1; rw [ep_upd_eq]; exact Or.inl rfl
    · rw [ep_upd_ne e1]; exact b3
  · intro h' hh' hr'
    have hr2 : upd (m.1 144) h (nI t) h' ≠ -1 := hr'
    rw [c0e]
    show _ = upd (m.1 145) h sl h' ∧ _ = upd (m.1 146) h 0 h'
    by_cases e1 : h' = h
    · subst e1; rw [if_pos rfl]; exact ⟨(by show sl = upd (m.1 145) h' sl h'; rw [ep_upd_eq]), (by show (0 : Int32) = upd (m.1 146) h' 0 h'; rw [ep_upd_eq])⟩
    · rw [ep_upd_ne e1] at hr2
      rw [if_neg e1, ep_upd_ne e1, ep_upd_ne e1]
      exact hR.2.2.2.2.2.2.2.2.2.1 h' hh' hr2
  · intro t' ht'
    rw [c2e]
    obtain ⟨a0, a2, a3, a4, a5, a6, a8⟩ := hR.2.2.2.2.2.2.2.2.2.2.1 t' ht'
    by_cases e1 : t' = t
    · subst e1
      rw [if_pos rfl]
      exact ⟨a0, a2, a3, a4, a5, (by show (2 : Int32) = upd (m.1 148) t' 2 t'; rw [ep_upd_eq]), a8⟩
    · rw [if_neg e1]
      exact ⟨a0, a2, a3, a4, a5, (by show c.2.1 2 t' 6 = upd (m.1 148) t 2 t'; rw [ep_upd_ne e1]; exact a6), a8⟩
  · intro t' ht' hs' j hj
    have hs2' : upd (m.1 148) t 2 t' ≠ 0 := hs'
    refine hR.2.2.2.2.2.2.2.2.2.2.2.2.1 t' ht' ?_ j hj
    by_cases e1 : t' = t
    · subst e1; exact hst
    · rw [ep_upd_ne e1] at hs2'; exact hs2'
  · intro t' ht' hs'
    have hs2' : upd (m.1 148) t 2 t' ≠ 0 := hs'
    rw [c2e]
    show ((if t' = t then upd (upd (c.2.1 2 t) 6 2) 7 (nI h) else c.2.1 2 t') 7 = -1 ∧ upd (m.1 148) t 2 t' ≠ 2 ∧ ∀ h', h' < 2 → upd (m.1 144) h (nI t) h' ≠ nI t') ∨ ∃ h', h' < 2 ∧ (if t' = t then upd (upd (c.2.1 2 t) 6 2) 7 (nI h) else c.2.1 2 t') 7 = nI h' ∧ upd (m.1 144) h (nI t) h' = nI t' ∧ upd (m.1 148) t 2 t' = 2 ∧ ∀ h'', h'' < 2 → upd (m.1 144) h (nI t) h'' = nI t' → h'' = h'
    by_cases e1 : t' = t
    · subst e1
      right
      rw [if_pos rfl]
      refine ⟨h, hh, rfl, by rw [ep_upd_eq], by rw [ep_upd_eq], fun h'' hh'' hz => ?_⟩
      by_cases e2 : h'' = h
      · exact e2
      · rw [ep_upd_ne e2] at hz; exact absurd hz (hnr h'' hh'')
    · rw [if_neg e1]
      rw [ep_upd_ne e1] at hs2' ⊢
      have hne : nI t ≠ nI t' := fun z => e1 ((nI_eq (by omega) (by omega)).mp z).symm
      rcases hR.2.2.2.2.2.2.2.2.2.2.2.2.2.1 t' ht' hs2' with ⟨z1, z2, z3⟩ | ⟨h1, z1, z2, z3, z4, z5⟩
      · left
        refine ⟨z1, z2, fun h' hh' => ?_⟩
        by_cases e2 : h' = h
        · subst e2; rw [ep_upd_eq]; exact hne
        · rw [ep_upd_ne e2]; exact z3 h' hh'
      · right
        have hne1 : h1 ≠ h := by
          intro z; subst z
          rw [hr] at z3
          exact absurd z3.symm (ep_nI_ne_m1 (by omega))
        refine ⟨h1, z1, z2, by rw [ep_upd_ne hne1]; exact z3, z4, fun h'' hh'' hz => ?_⟩
        by_cases e2 : h'' = h
        · subst e2; rw [ep_upd_eq] at hz; exact absurd hz hne
        · rw [ep_upd_ne e2] at hz; exact z5 h'' hh'' hz
  · intro h' hh'
    show upd (m.1 144) h (nI t) h' = -1 ∨ ∃ t' e', t' < 12 ∧ e' < 6 ∧ upd (m.1 144) h (nI t) h' = nI t' ∧ upd (m.1 148) t 2 t' = 2 ∧ m.1 149 t' = nI e' ∧ m.1 155 e' = 2
    by_cases e1 : h' = h
    · subst e1
      right
      exact ⟨t, e, ht, he, by rw [ep_upd_eq], by rw [ep_upd_eq], hto, hE⟩
    · rw [ep_upd_ne e1]
      rcases hR.2.2.2.2.2.2.2.2.2.2.2.2.2.2.1 h' hh' with z | ⟨t1, e2, z1, z2, z3, z4, z5, z6⟩
      · exact Or.inl z
      · right
        have hne : t1 ≠ t := by
          intro z; subst z; exact hst2 z4
        exact ⟨t1, e2, z1, z2, z3, by rw [ep_upd_ne hne]; exact z4, z5, z6⟩
  · intro t' ht' hs'
    have hs2' : upd (m.1 148) t 2 t' ≠ 0 := hs'
    refine hR.2.2.2.2.2.2.2.2.2.2.2.2.2.2.2.1 t' ht' ?_
    by_cases e1 : t' = t
    · subst e1; exact hst
    · rw [ep_upd_ne e1] at hs2'; exact hs2'
  · intro e' he' hE'
    show c.2.1 4 e' 10 = nI (ep_nt (upd (m.1 148) t 2) (m.1 149) e' 12) ∧ ep_nt (upd (m.1 148) t 2) (m.1 149) e' 12 ≤ 3
    have z := hR.2.2.2.2.2.2.2.2.2.2.2.2.2.2.2.2.2.1 e' he' hE'
    suffices hz : ep_nt (m.1 148) (m.1 149) e' 12 = ep_nt (upd (m.1 148) t 2) (m.1 149) e' 12 by rw [← hz]; exact z
    apply ep_nt_cong
    intro t' _
    by_cases e1 : t' = t
    · subst e1; rw [ep_upd_eq]; exact ⟨fun _ => by decide, fun _ => hst⟩
    · rw [ep_upd_ne e1]
theorem ep_begin_ {N : Nat} {c : ep_C} {m : ep_M} (hR : ep_R N c m) {h t e : Nat} (hh : h < 2) (ht : t < 12) (he : e < 6) (hr : m.1 144 h = -1) (hst : m.1 148 t ≠ 0) (hst2 : m.1 148 t ≠ 2) (hto : m.1 149 t = nI e) (hE : m.1 155 e = 2) : (∀ m0, eF_5_begin (ep_mk c m0) (eh_hp (nI h)) (eh_fp (nI t)) = some (ep_mk (ep_cbg c h t (m.1 143 h)) m0)) ∧ (∀ c0, eF_12_enter (ep_mk c0 m) (nI h) (nI t) = some (ep_mk c0 (ep_mbg m h t (m.1 143 h)))) ∧ ep_R N (ep_cbg c h t (m.1 143 h)) (ep_mbg m h t (m.1 143 h)) := by
  have hR' := ep_R_begin hR hh ht he hr hst hst2 hto hE (m.1 143 h)
  have f0 := (hR.2.2.2.2.2.2.2.2.2.2.1 t ht).1
  have gh := hR.2.2.2.2.2.2.2.1 h hh
  have g6 : c.2.1 0 h 6 = m.1 143 h := gh.2.2.2.2.2.1
  refine ⟨fun m0 => ?_, fun c0 => ?_, hR'⟩
  · unfold eF_5_begin
    simp (disch := first | assumption | decide) only [↓ep_V, ep_iF0 _ _ _ _ ht, ep_iH0 _ _ _ _ hh, ep_rH0 _ _ hh, ep_rF0 _ _ ht, ep_cHs, ep_cHi, ep_upd_ne, gh.1, f0, g6, ep_cunres _ hh, ↓ep_sb]
    congr 2
    unfold ep_cbg
    refine Prod.ext rfl (Prod.ext ?_ rfl)
    funext i j
    simp only [ep_cI, ep_cL, ep_cH, ep_cG, ep_ug]
    by_cases h1 : i = 2
    · subst h1
      by_cases h2 : j = t
      · subst h2; simp
      · simp [h2]
    · by_cases h3 : i = 0
      · subst h3
        by_cases h2 : j = h
        · subst h2; simp
        · simp [h2]
      · simp [h1, h3]
  · have j1 : eh_in (nI h) 2 = true := ep_in hh (by decide)
    have j2 : eh_ix (nI h) = h := ep_ix (by omega)
    have j3 : eh_in (nI t) 12 = true := ep_in ht (by decide)
    have j4 : eh_ix (nI t) = t := ep_ix (by omega)
    unfold eF_12_enter
    simp (disch := first | assumption | decide) only [↓ep_V, ↓reduceIte, j1, j2, j3, j4, ep_rM, ep_iM, ep_mIn, show eh_nz 0 = 0 from rfl]
    rfl
