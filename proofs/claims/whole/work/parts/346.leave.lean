/-! a thread ceases to run -/
def ep_cease (c : ep_C) (h t : Nat) (st why val : Int32) : ep_C := ep_cI (ep_cH (ep_cH (ep_cH (ep_cH (ep_cH (ep_cH c 2 t 6 st) 2 t 7 (-1)) 0 h 5 (-1)) 1 h 10 why) 1 h 11 val) 1 h 12 (nI t)) 11 h (-1)
def ep_lve (m : ep_M) (h t : Nat) (st why val : Int32) : ep_M := ep_mI (ep_mI (ep_mI (ep_mI (ep_mI (ep_mI m 148 t st) 144 h (-1)) 147 h (-1)) 129 (32 * h + 10) why) 129 (32 * h + 11) val) 129 (32 * h + 12) (nI t)
theorem ep_cease_0 (c : ep_C) (h t : Nat) (st why val : Int32) (h' : Nat) : (ep_cease c h t st why val).2.1 0 h' = if h' = h then upd (c.2.1 0 h) 5 (-1) else c.2.1 0 h' := by
  unfold ep_cease
  show (ep_cH (ep_cH (ep_cH (ep_cH (ep_cH (ep_cH c 2 t 6 st) 2 t 7 (-1)) 0 h 5 (-1)) 1 h 10 why) 1 h 11 val) 1 h 12 (nI t)).2.1 0 h' = _
  rw [ep_cHi _ _ _ _ _ _ _ (by decide), ep_cHi _ _ _ _ _ _ _ (by decide), ep_cHi _ _ _ _ _ _ _ (by decide), ep_cHe, ep_cHi _ _ _ _ _ _ _ (by decide), ep_cHi _ _ _ _ _ _ _ (by decide), ep_cHi _ _ _ _ _ _ _ (by decide), ep_cHi _ _ _ _ _ _ _ (by decide)]
theorem ep_cease_1 (c : ep_C) (h t : Nat) (st why val : Int32) (h' : Nat) : (ep_cease c h t st why val).2.1 1 h' = if h' = h then upd (upd (upd (c.2.1 1 h) 10 why) 11 val) 12 (nI t) else c.2.1 1 h' := by
  unfold ep_cease
  show (ep_cH (ep_cH (ep_cH (ep_cH (ep_cH (ep_cH c 2 t 6 st) 2 t 7 (-1)) 0 h 5 (-1)) 1 h 10 why) 1 h 11 val) 1 h 12 (nI t)).2.1 1 h' = _
  by_cases e : h' = h
  · subst e
    rw [if_pos rfl, ep_cHs, ep_cHs, ep_cHs, ep_cHi _ _ _ _ _ _ _ (by decide), ep_cHi _ _ _ _ _ _ _ (by decide), ep_cHi _ _ _ _ _ _ _ (by decide)]
  · rw [if_neg e, ep_cHh _ _ _ _ _ _ e, ep_cHh _ _ _ _ _ _ e, ep_cHh _ _ _ _ _ _ e, ep_cHi _ _ _ _ _ _ _ (by decide), ep_cHi _ _ _ _ _ _ _ (by decide), ep_cHi _ _ _ _ _ _ _ (by decide)]
theorem ep_cease_2 (c : ep_C) (h t : Nat) (st why val : Int32) (t' : Nat) : (ep_cease c h t st why val).2.1 2 t' = if t' = t then upd (upd (c.2.1 2 t) 6 st) 7 (-1) else c.2.1 2 t' := by
  unfold ep_cease
  show (ep_cH (ep_cH (ep_cH (ep_cH (ep_cH (ep_cH c 2 t 6 st) 2 t 7 (-1)) 0 h 5 (-1)) 1 h 10 why) 1 h 11 val) 1 h 12 (nI t)).2.1 2 t' = _
  rw [ep_cHi _ _ _ _ _ _ _ (by decide), ep_cHi _ _ _ _ _ _ _ (by decide), ep_cHi _ _ _ _ _ _ _ (by decide), ep_cHi _ _ _ _ _ _ _ (by decide)]
  by_cases e : t' = t
  · subst e
    rw [if_pos rfl, ep_cHs, ep_cHs]
  · rw [if_neg e, ep_cHh _ _ _ _ _ _ e, ep_cHh _ _ _ _ _ _ e]
theorem ep_nt_cong {a b o : Nat → Int32} {e : Nat} : ∀ n, (∀ t, t < n → (a t ≠ 0 ↔ b t ≠ 0)) → ep_nt a o e n = ep_nt b o e n
  | 0, _ => rfl
  | n + 1, h => by
    unfold ep_nt
    rw [ep_nt_cong n (fun t ht => h t (by omega))]
    have := h n (by omega)
    by_cases z : a n ≠ 0
    · simp only [z, this.mp z, ne_eq, not_false_eq_true]
    · have z2 : ¬ b n ≠ 0 := fun y => z (this.mpr y)
      simp only [z, z2, false_and]
theorem ep_R_leave {N : Nat} {c : ep_C} {m : ep_M} (hR : ep_R N c m) {h t e : Nat} (ho : ep_On m h t e) {st : Int32} (hs : st ≠ 0) (hs2 : st ≠ 2) (why val : Int32) : ep_R N (ep_cease c h t st why val) (ep_lve m h t st why val) := by
  obtain ⟨hh, ht, he, hr, hto, hE, hst⟩ := ho
  have hone : ∀ h', h' < 2 → m.1 144 h' = nI t → h' = h := by
    intro h' hh' hr'
    rcases hR.2.2.2.2.2.2.2.2.2.2.2.2.2.1 t ht (by rw [hst]; decide) with ⟨_, z, _⟩ | ⟨h2, z1, z2, z3, z4, z5⟩
    · exact absurd hst z
    · rw [z5 h' hh' hr', z5 h hh hr]
  refine ⟨hR.1, hR.2.1, hR.2.2.1, hR.2.2.2.1, ?_, ?_, ?_, ?_, hR.2.2.2.2.2.2.2.2.1, ?_, ?_, hR.2.2.2.2.2.2.2.2.2.2.2.1, ?_, ?_, ?_, ?_, hR.2.2.2.2.2.2.2.2.2.2.2.2.2.2.2.2.1, ?_, hR.2.2.2.2.2.2.2.2.2.2.2.2.2.2.2.2.2.2.1, hR.2.2.2.2.2.2.2.2.2.2.2.2.2.2.2.2.2.2.2.1, hR.2.2.2.2.2.2.2.2.2.2.2.2.2.2.2.2.2.2.2.2.1, hR.2.2.2.2.2.2.2.2.2.2.2.2.2.2.2.2.2.2.2.2.2.1, hR.2.2.2.2.2.2.2.2.2.2.2.2.2.2.2.2.2.2.2.2.2.2.1, hR.2.2.2.2.2.2.2.2.2.2.2.2.2.2.2.2.2.2.2.2.2.2.2.1, hR.2.2.2.2.2.2.2.2.2.2.2.2.2.2.2.2.2.2.2.2.2.2.2.2.1, hR.2.2.2.2.2.2.2.2.2.2.2.2.2.2.2.2.2.2.2.2.2.2.2.2.2.1, hR.2.2.2.2.2.2.2.2.2.2.2.2.2.2.2.2.2.2.2.2.2.2.2.2.2.2.1, hR.2.2.2.2.2.2.2.2.2.2.2.2.2.2.2.2.2.2.2.2.2.2.2.2.2.2.2.1, hR.2.2.2.2.2.2.2.2.2.2.2.2.2.2.2.2.2.2.2.2.2.2.2.2.2.2.2.2.1, hR.2.2.2.2.2.2.2.2.2.2.2.2.2.2.2.2.2.2.2.2.2.2.2.2.2.2.2.2.2.1, hR.2.2.2.2.2.2.2.2.2.2.2.2.2.2.2.2.2.2.2.2.2.2.2.2.2.2.2.2.2.2.1, hR.2.2.2.2.2.2.2.2.2.2.2.2.2.2.2.2.2.2.2.2.2.2.2.2.2.2.2.2.2.2.2.1, hR.2.2.2.2.2.2.2.2.2.2.2.2.2.2.2.2.2.2.2.2.2.2.2.2.2.2.2.2.2.2.2.2.1, hR.2.2.2.2.2.2.2.2.2.2.2.2.2.2.2.2.2.2.2.2.2.2.2.2.2.2.2.2.2.2.2.2.2⟩
  · -- res
    intro h' hh'
    show (upd (c.1 11) h (-1) h' = -1 ∧ upd (m.1 147) h (-1) h' = -1) ∨ ∃ j, j < 32768 ∧ upd (c.1 11) h (-1) h' = nI j ∧ upd (m.1 147) h (-1) h' = nI (4 * j)
    by_cases e1 : h' = h
    · subst e1; rw [ep_upd_eq, ep_upd_eq]; exact Or.inl ⟨rfl, rfl⟩
    · rw [ep_upd_ne e1, ep_upd_ne e1]; exact hR.2.2.2.2.1 h' hh'
  · -- hx
    intro h' hh' j hj
    rw [ep_cease_1]
    show _ = upd (upd (upd (m.1 129) (32 * h + 10) why) (32 * h + 11) val) (32 * h + 12) (nI t) (32 * h' + j)
    have g := hR.2.2.2.2.2.1 h' hh' j hj
    by_cases e1 : h' = h
    · subst e1
      rw [if_pos rfl]
      unfold upd
      by_cases z1 : j = 12
      · subst z1; simp
      · by_cases z2 : j = 11
        · subst z2; simp
        · by_cases z3 : j = 10
          · subst z3; simp
          · simp [z1, z2, z3, g]
    · rw [if_neg e1, ep_upd_ne (by omega), ep_upd_ne (by omega), ep_upd_ne (by omega)]; exact g
  · -- x0
    intro h' hh'
    show upd (upd (upd (m.1 129) (32 * h + 10) why) (32 * h + 11) val) (32 * h + 12) (nI t) (32 * h') = 0
    rw [ep_upd_ne (by omega), ep_upd_ne (by omega), ep_upd_ne (by omega)]
    exact hR.2.2.2.2.2.2.1 h' hh'
  · -- h
    intro h' hh'
    rw [ep_cease_0]
    obtain ⟨a0, a2, a3, a4, a5, a6⟩ := hR.2.2.2.2.2.2.2.1 h' hh'
    by_cases e1 : h' = h
    · subst e1
      rw [if_pos rfl]
      exact ⟨a0, a2, a3, a4, (by show (-1 : Int32) = upd (m.1 144) h' (-1) h'; rw [ep_upd_eq]), a6⟩
    · rw [if_neg e1]
      exact ⟨a0, a2, a3, a4, (by show c.2.1 0 h' 5 = upd (m.1 144) h (-1) h'; rw [ep_upd_ne e1]; exact a5), a6⟩
  · -- rd
    intro h' hh' hr'
    have hr2 : upd (m.1 144) h (-1) h' ≠ -1 := hr'
    by_cases e1 : h' = h
    · subst e1; rw [ep_upd_eq] at hr2; exact absurd rfl hr2
    · rw [ep_upd_ne e1] at hr2
      rw [ep_cease_0, if_neg e1]
      exact hR.2.2.2.2.2.2.2.2.2.1 h' hh' hr2
  · -- f
    intro t' ht'
    rw [ep_cease_2]
    obtain ⟨a0, a2, a3, a4, a5, a6, a8⟩ := hR.2.2.2.2.2.2.2.2.2.2.1 t' ht'
    by_cases e1 : t' = t
    · subst e1
      rw [if_pos rfl]
      exact ⟨a0, a2, a3, a4, a5, (by show st = upd (m.1 148) t' st t'; rw [ep_upd_eq]), a8⟩
    · rw [if_neg e1]
      exact ⟨a0, a2, a3, a4, a5, (by show c.2.1 2 t' 6 = upd (m.1 148) t st t'; rw [ep_upd_ne e1]; exact a6), a8⟩
  · -- fx
    intro t' ht' hs' j hj
    have hs2' : upd (m.1 148) t st t' ≠ 0 := hs'
    show c.2.1 3 t' j = upd (upd (upd (m.1 129) (32 * h + 10) why) (32 * h + 11) val) (32 * h + 12) (nI t) (32 * (2 + t') + j)
    rw [ep_upd_ne (by omega), ep_upd_ne (by omega), ep_upd_ne (by omega)]
    refine hR.2.2.2.2.2.2.2.2.2.2.2.2.1 t' ht' ?_ j hj
    by_cases e1 : t' = t
    · subst e1; rw [hst]; decide
    · rw [ep_upd_ne e1] at hs2'; exact hs2'
  · -- fh
    intro t' ht' hs'
    have hs2' : upd (m.1 148) t st t' ≠ 0 := hs'
    rw [ep_cease_2]
    show ((if t' = t then upd (upd (c.2.1 2 t) 6 st) 7 (-1) else c.2.1 2 t') 7 = -1 ∧ upd (m.1 148) t st t' ≠ 2 ∧ ∀ h', h' < 2 → upd (m.1 144) h (-1) h' ≠ nI t') ∨ ∃ h', h' < 2 ∧ (if t' = t then upd (upd (c.2.1 2 t) 6 st) 7 (-1) else c.2.1 2 t') 7 = nI h' ∧ upd (m.1 144) h (-1) h' = nI t' ∧ upd (m.1 148) t st t' = 2 ∧ ∀ h'', h'' < 2 → upd (m.1 144) h (-1) h'' = nI t' → h'' = h'
    by_cases e1 : t' = t
    · subst e1
      left
      rw [if_pos rfl, ep_upd_eq, ep_upd_eq]
      refine ⟨rfl, hs2, fun h' hh' => ?_⟩
      by_cases e2 : h' = h
      · subst e2; rw [ep_upd_eq]; exact fun z => ep_nI_ne_m1 (by omega) z.symm
      · rw [ep_upd_ne e2]; exact fun z => e2 (hone h' hh' z)
    · rw [if_neg e1]
      rw [ep_upd_ne e1] at hs2' ⊢
      rcases hR.2.2.2.2.2.2.2.2.2.2.2.2.2.1 t' ht' hs2' with ⟨z1, z2, z3⟩ | ⟨h1, z1, z2, z3, z4, z5⟩
      · left
        refine ⟨z1, z2, fun h' hh' => ?_⟩
        by_cases e2 : h' = h
        · subst e2; rw [ep_upd_eq]; exact fun z => ep_nI_ne_m1 (by omega) z.symm
        · rw [ep_upd_ne e2]; exact z3 h' hh'
      · right
        have hne : h1 ≠ h := by
          intro z; subst z
          rw [hr] at z3
          exact e1 ((nI_eq (by omega) (by omega)).mp z3).symm
        refine ⟨h1, z1, z2, by rw [ep_upd_ne hne]; exact z3, z4, fun h'' hh'' hz => ?_⟩
        by_cases e2 : h'' = h
        · subst e2; rw [ep_upd_eq] at hz; exact absurd hz.symm (ep_nI_ne_m1 (by omega))
        · rw [ep_upd_ne e2] at hz; exact z5 h'' hh'' hz
  · -- ru
    intro h' hh'
    show upd (m.1 144) h (-1) h' = -1 ∨ ∃ t' e', t' < 12 ∧ e' < 6 ∧ upd (m.1 144) h (-1) h' = nI t' ∧ upd (m.1 148) t st t' = 2 ∧ m.1 149 t' = nI e' ∧ m.1 155 e' = 2
    by_cases e1 : h' = h
    · subst e1; left; rw [ep_upd_eq]
    · rw [ep_upd_ne e1]
      rcases hR.2.2.2.2.2.2.2.2.2.2.2.2.2.2.1 h' hh' with z | ⟨t1, e2, z1, z2, z3, z4, z5, z6⟩
      · exact Or.inl z
      · right
        have hne : t1 ≠ t := by
          intro z; subst z; exact e1 (hone h' hh' z3)
        exact ⟨t1, e2, z1, z2, z3, by rw [ep_upd_ne hne]; exact z4, z5, z6⟩
  · -- t
    intro t' ht' hs'
    have hs2' : upd (m.1 148) t st t' ≠ 0 := hs'
    refine hR.2.2.2.2.2.2.2.2.2.2.2.2.2.2.2.1 t' ht' ?_
    by_cases e1 : t' = t
    · subst e1; rw [hst]; decide
    · rw [ep_upd_ne e1] at hs2'; exact hs2'
  · -- en
    intro e' he' hE'
    show c.2.1 4 e' 10 = nI (ep_nt (upd (m.1 148) t st) (m.1 149) e' 12) ∧ ep_nt (upd (m.1 148) t st) (m.1 149) e' 12 ≤ 3
    have z := hR.2.2.2.2.2.2.2.2.2.2.2.2.2.2.2.2.2.1 e' he' hE'
    suffices hz : ep_nt (m.1 148) (m.1 149) e' 12 = ep_nt (upd (m.1 148) t st) (m.1 149) e' 12 by rw [← hz]; exact z
    apply ep_nt_cong
    intro t' _
    by_cases e1 : t' = t
    · subst e1; rw [ep_upd_eq, hst]; exact ⟨fun _ => hs, fun _ => by decide⟩
    · rw [ep_upd_ne e1]
theorem ep_leave_ {N : Nat} {c : ep_C} {m : ep_M} (hR : ep_R N c m) {h t e : Nat} (ho : ep_On m h t e) {st : Int32} (hs : st ≠ 0) (hs2 : st ≠ 2) (why val : Int32) : (∀ m0, eF_5_cease (ep_mk c m0) (eh_hp (nI h)) (eh_fp (nI t)) st why val = some (ep_mk (ep_cease c h t st why val) m0)) ∧ (∀ c0, eF_12_leave (ep_mk c0 m) (nI h) st why val = some (ep_mk c0 (ep_lve m h t st why val))) ∧ ep_R N (ep_cease c h t st why val) (ep_lve m h t st why val) := by
  have hR' := ep_R_leave hR ho hs hs2 why val
  obtain ⟨hh, ht, he, hr, hto, hE, hst⟩ := ho
  have f0 := (hR.2.2.2.2.2.2.2.2.2.2.1 t ht).1
  have h0 := (hR.2.2.2.2.2.2.2.1 h hh).1
  have j1 : eh_in (nI h) 2 = true := ep_in hh (by decide)
  have j2 : eh_ix (nI h) = h := ep_ix (by omega)
  have j3 : eh_in (nI t) 12 = true := ep_in ht (by decide)
  have j4 : eh_ix (nI t) = t := ep_ix (by omega)
  refine ⟨fun m0 => ?_, fun c0 => ?_, hR'⟩
  · unfold eF_5_cease
    rw [ep_V, ep_iF0 _ _ _ _ ht, ep_V, ep_iF0 _ _ _ _ ht, ep_V, ep_iH0 _ _ _ _ hh, ep_V, ep_iH1 _ _ _ _ hh, ep_V, ep_iH1 _ _ _ _ hh, ep_V, ep_rF0 _ _ ht]
    have e1 : (ep_cH (ep_cH (ep_cH (ep_cH (ep_cH c 2 t 6 st) 2 t 7 (-1)) 0 h 5 (-1)) 1 h 10 why) 1 h 11 val).2.1 2 t 0 = nI t := by
      rw [ep_cHi _ _ _ _ _ _ _ (by decide), ep_cHi _ _ _ _ _ _ _ (by decide), ep_cHi _ _ _ _ _ _ _ (by decide), ep_cHs, ep_cHs]
      exact f0
    rw [e1, ep_iH1 _ _ _ _ hh, ep_rH0 _ _ hh]
    have e2 : (ep_cH (ep_cH (ep_cH (ep_cH (ep_cH (ep_cH c 2 t 6 st) 2 t 7 (-1)) 0 h 5 (-1)) 1 h 10 why) 1 h 11 val) 1 h 12 (nI t)).2.1 0 h 0 = nI h := by
      rw [ep_cHi _ _ _ _ _ _ _ (by decide), ep_cHi _ _ _ _ _ _ _ (by decide), ep_cHi _ _ _ _ _ _ _ (by decide), ep_cHs, ep_cHi _ _ _ _ _ _ _ (by decide), ep_cHi _ _ _ _ _ _ _ (by decide)]
      exact h0
    rw [e2, ep_cunres _ hh, ep_sb]
    rfl
  · have q32 : (32 : Int32) * nI h = nI (32 * h) := ep_mul (b := 32) rfl rfl
    have p10 : nI (32 * h) + 10 = nI (32 * h + 10) := ep_addn _ 10
    have p11 : nI (32 * h) + 11 = nI (32 * h + 11) := ep_addn _ 11
    have p12 : nI (32 * h) + 12 = nI (32 * h + 12) := ep_addn _ 12
    have i10 : eh_in (nI (32 * h + 10)) 448 = true := ep_in (by omega) (by decide)
    have i11 : eh_in (nI (32 * h + 11)) 448 = true := ep_in (by omega) (by decide)
    have i12 : eh_in (nI (32 * h + 12)) 448 = true := ep_in (by omega) (by decide)
    have x10 : eh_ix (nI (32 * h + 10)) = 32 * h + 10 := ep_ix (by omega)
    have x11 : eh_ix (nI (32 * h + 11)) = 32 * h + 11 := ep_ix (by omega)
    have x12 : eh_ix (nI (32 * h + 12)) = 32 * h + 12 := ep_ix (by omega)
    unfold eF_12_leave
    simp (disch := first | assumption | decide) only [↓ep_V, ↓reduceIte, j1, j2, j3, j4, ep_rM, hr, ep_iM, q32, p10, p11, p12, i10, i11, i12, x10, x11, x12]
    rfl
