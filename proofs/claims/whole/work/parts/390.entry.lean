/-! the face: the entries of a hart -/
def er_pt (x : ep_En) (q : Int32) : Int32 := if q = 0 then x.1 else if q = 1 then x.2.1 else x.2.2
def er_d : ep_En := (-1, -1, -1)
theorem er_gL_len (sel : Nat → Option ep_En) (l0 : List ep_En) {k : Nat} : ∀ n, k ≤ n → (ep_gL sel l0 k).length ≤ (ep_gL sel l0 n).length
  | 0, h => by rw [show k = 0 by omega]; exact Nat.le_refl _
  | n + 1, h => by
    by_cases e : k = n + 1
    · rw [e]; exact Nat.le_refl _
    · have := er_gL_len sel l0 (k := k) n (by omega)
      conv => rhs; unfold ep_gL
      split
      · exact this
      · rw [List.length_append]; omega
theorem er_gL_get (sel : Nat → Option ep_En) (l0 : List ep_En) {k a : Nat} (ha : a < (ep_gL sel l0 k).length) : ∀ n, k ≤ n → (ep_gL sel l0 n).getD a er_d = (ep_gL sel l0 k).getD a er_d
  | 0, h => by rw [show k = 0 by omega]
  | n + 1, h => by
    by_cases e : k = n + 1
    · rw [e]
    · have := er_gL_get sel l0 ha n (by omega)
      have hl := er_gL_len sel l0 (k := k) n (by omega)
      conv => lhs; unfold ep_gL
      split
      · exact this
      · rw [← this]
        simp only [List.getD_eq_getElem?_getD]
        rw [List.getElem?_append_left (by omega)]
theorem er_get_end (l : List ep_En) (x : ep_En) : (l ++ [x]).getD l.length er_d = x := by
  simp [List.getD_eq_getElem?_getD]
theorem er_get_out {l : List ep_En} {a : Nat} (h : l.length ≤ a) : l.getD a er_d = er_d := by
  simp [List.getD_eq_getElem?_getD, List.getElem?_eq_none h]
theorem er_get_in {l : List ep_En} {a : Nat} (h : a < l.length) (d : ep_En) : l.getD a er_d = l.getD a d := by
  simp [List.getD_eq_getElem?_getD, List.getElem?_eq_getElem h]
theorem er_cpart (c : ep_C) (m0 : ep_M) {k : Nat} (hk : k < 12) (q z : Int32) : eF_6_entryPart (ep_mk c m0) (nI k) q z = some (er_pt (c.1 4 k, c.1 5 k, z) q) := by
  unfold eF_6_entryPart er_pt
  rw [ep_J]
  dsimp only
  by_cases y0 : q = 0
  · rw [if_pos y0, if_pos y0, if_pos (ep_in hk (by decide)), ep_rC1 _ _ 4 (by decide), ep_ix (by omega)]
  · rw [if_neg y0, if_neg y0]
    by_cases y1 : q = 1
    · rw [if_pos y1, if_pos y1, if_pos (ep_in hk (by decide)), ep_rC1 _ _ 5 (by decide), ep_ix (by omega)]
    · rw [if_neg y1, if_neg y1]
abbrev er_SB (s : eh_F) (p0 : Int32) : ((Int32 × Int32) → Option ((Int32) ⊕ (Int32))) → (Int32 × Int32) → Option ((Int32) ⊕ (Int32)) := fun (r11 : (Int32 × Int32) → Option ((Int32) ⊕ (Int32))) (t1 : Int32 × Int32) => if t1.2 < 12 then (if eh_in t1.2 12 then eh_J (fun (a14 : Int32) => eh_V ((t1.2 + 1) : Int32) (fun x15 => r11 (a14, x15))) (fun j13 => if (s.1 3 (eh_ix t1.2)) = 0 then (j13 t1.1) else (if eh_in t1.2 12 then if (s.1 3 (eh_ix t1.2)) = 2 then (j13 t1.1) else (if t1.1 = p0 then (some (.inr t1.2)) else (eh_V ((t1.1 + 1) : Int32) (fun x19 => j13 x19))) else none)) else none) else (some (.inl t1.1))
theorem er_sysL (c : ep_C) (m0 : ep_M) {a : Nat} (ha : a < 2 ^ 31) (q : Int32) : ∀ (r k n : Nat), k + r = 12 → r < n → (ep_gL (ep_sS (c.1 3) (c.1 4) (c.1 5)) [] k).length ≤ a → Option.bind (eh_loop (er_SB (ep_mk c m0) (nI a)) n (nI (ep_gL (ep_sS (c.1 3) (c.1 4) (c.1 5)) [] k).length, nI k)) (Sum.elim (fun (e2 : Int32) => if e2 = nI a then (eh_J (fun (a5 : Int32) => some a5) (fun j4 => if q = 0 then (j4 0) else (if q = 1 then (j4 131072) else (j4 7)))) else (some (-1))) (fun (e8 : Int32) => Option.bind (eF_6_entryPart (ep_mk c m0) e8 q 0) (fun q9 => some q9))) = some (er_pt ((ep_lS (c.1 3) (c.1 4) (c.1 5)).getD a er_d) q)
  | 0, k, n + 1, hk, _, hl => by
    have : k = 12 := by omega
    subst this
    rw [ep_loopS]
    show Option.bind (if nI 12 < 12 then _ else _) _ = _
    rw [if_neg (by decide), ep_sb]
    have hlen := ep_gL_len (ep_sS (c.1 3) (c.1 4) (c.1 5)) [] 12
    rw [List.length_nil] at hlen
    show (if nI (ep_gL (ep_sS (c.1 3) (c.1 4) (c.1 5)) [] 12).length = nI a then _ else _) = _
    unfold ep_lS
    by_cases y : (ep_gL (ep_sS (c.1 3) (c.1 4) (c.1 5)) [] 12).length = a
    · rw [if_pos (by rw [y]), ← y, er_get_end, ep_J]
      unfold er_pt
      by_cases y0 : q = 0
      · rw [if_pos y0, if_pos y0]
      · rw [if_neg y0, if_neg y0]
        by_cases y1 : q = 1
        · rw [if_pos y1, if_pos y1]
        · rw [if_neg y1, if_neg y1]
    · rw [if_neg (fun z => y ((nI_eq (by omega) (by omega)).mp z)), er_get_out (by rw [List.length_append, List.length_singleton]; omega)]
      unfold er_pt er_d
      simp
  | r + 1, k, n + 1, hk, hr, hl => by
    have hk2 : k < 12 := by omega
    have i12 : eh_in (nI k) 12 = true := ep_in hk2 (by decide)
    have x12 : eh_ix (nI k) = k := ep_ix (by omega)
    have hlen := ep_gL_len (ep_sS (c.1 3) (c.1 4) (c.1 5)) [] k
    rw [List.length_nil] at hlen
    rw [ep_loopS]
    show Option.bind (if nI k < 12 then _ else _) _ = _
    rw [if_pos (show nI k < 12 from nI_lt (b := 12) hk2 (by decide)), if_pos i12, ep_J, ep_rC1 _ _ 3 (by decide), x12]
    dsimp only
    have hstep : ep_gL (ep_sS (c.1 3) (c.1 4) (c.1 5)) [] (k + 1) = match ep_sS (c.1 3) (c.1 4) (c.1 5) k with | none => ep_gL (ep_sS (c.1 3) (c.1 4) (c.1 5)) [] k | some e => ep_gL (ep_sS (c.1 3) (c.1 4) (c.1 5)) [] k ++ [e] := rfl
    by_cases y0 : c.1 3 k = 0
    · have hs : ep_gL (ep_sS (c.1 3) (c.1 4) (c.1 5)) [] (k + 1) = ep_gL (ep_sS (c.1 3) (c.1 4) (c.1 5)) [] k := by
        rw [hstep]; unfold ep_sS; rw [if_pos y0]
      rw [if_pos y0, ep_V, nI_1]
      have := er_sysL c m0 ha q r (k + 1) n (by omega) (by omega) (by rw [hs]; exact hl)
      rw [hs] at this
      exact this
    rw [if_neg y0, if_pos i12]
    by_cases y2 : c.1 3 k = 2
    · have hs : ep_gL (ep_sS (c.1 3) (c.1 4) (c.1 5)) [] (k + 1) = ep_gL (ep_sS (c.1 3) (c.1 4) (c.1 5)) [] k := by
        rw [hstep]; unfold ep_sS; rw [if_neg y0, if_pos y2]
      rw [if_pos y2, ep_V, nI_1]
      have := er_sysL c m0 ha q r (k + 1) n (by omega) (by omega) (by rw [hs]; exact hl)
      rw [hs] at this
      exact this
    rw [if_neg y2]
    have hs : ep_gL (ep_sS (c.1 3) (c.1 4) (c.1 5)) [] (k + 1) = ep_gL (ep_sS (c.1 3) (c.1 4) (c.1 5)) [] k ++ [(c.1 4 k, c.1 5 k, 0)] := by
      rw [hstep]; unfold ep_sS; rw [if_neg y0, if_neg y2]
    by_cases y : (ep_gL (ep_sS (c.1 3) (c.1 4) (c.1 5)) [] k).length = a
    · rw [if_pos (by rw [y]), ep_sb]
      show Option.bind (eF_6_entryPart (ep_mk c m0) (nI k) q 0) _ = _
      rw [er_cpart c m0 hk2, ep_sb]
      have h1 := er_gL_get (ep_sS (c.1 3) (c.1 4) (c.1 5)) [] (k := k + 1) (a := a) (by rw [hs, List.length_append, List.length_singleton]; omega) 12 (by omega)
      have h2 : (ep_lS (c.1 3) (c.1 4) (c.1 5)).getD a er_d = (ep_gL (ep_sS (c.1 3) (c.1 4) (c.1 5)) [] 12).getD a er_d := by
        have h3 := er_gL_len (ep_sS (c.1 3) (c.1 4) (c.1 5)) [] (k := k + 1) 12 (by omega)
        rw [hs, List.length_append, List.length_singleton] at h3
        unfold ep_lS
        simp only [List.getD_eq_getElem?_getD]
        rw [List.getElem?_append_left (by omega)]
      rw [h2, h1, hs, ← y, er_get_end]
    · rw [if_neg (fun z => y ((nI_eq (by omega) (by omega)).mp z)), ep_V, nI_1, ep_V, nI_1]
      have := er_sysL c m0 ha q r (k + 1) n (by omega) (by omega) (by rw [hs, List.length_append, List.length_singleton]; omega)
      rw [hs, List.length_append, List.length_singleton] at this
      exact this
theorem er_sys (c : ep_C) (m0 : ep_M) {a : Nat} (ha : a < 2 ^ 31) (q : Int32) : eF_6_entryOfSystem (ep_mk c m0) (nI a) q = some (er_pt ((ep_lS (c.1 3) (c.1 4) (c.1 5)).getD a er_d) q) :=
  er_sysL c m0 ha q 12 0 eh_FU (by omega) (ep_FU _ (by decide)) (Nat.zero_le _)
/-! an enclave's -/
abbrev er_EB (s : eh_F) (p0 p1 : Int32) : ((Int32 × Int32) → Option ((Unit) ⊕ (Int32))) → (Int32 × Int32) → Option ((Unit) ⊕ (Int32)) := fun (r7 : (Int32 × Int32) → Option ((Unit) ⊕ (Int32))) (t1 : Int32 × Int32) => if t1.2 < 12 then (if eh_in t1.2 12 then eh_J (fun (a10 : Int32) => eh_V ((t1.2 + 1) : Int32) (fun x11 => r7 (a10, x11))) (fun j9 => if (s.1 3 (eh_ix t1.2)) = 0 then (j9 t1.1) else (Option.bind (eF_6_rightsIn s t1.2 p0) (fun q13 => if q13 = 0 then (j9 t1.1) else (if eh_in t1.2 12 then eh_J (fun (a16 : Int32) => eh_J (fun (a18 : Int32) => if p1 = a18 then (some (.inr t1.2)) else (eh_J (fun (a21 : Int32) => eh_V ((t1.1 + a21) : Int32) (fun x22 => j9 x22)) (fun j20 => if a16 = 0 then (j20 1) else (j20 0)))) (fun j17 => if a16 = 0 then (j17 t1.1) else (j17 0))) (fun j15 => if (s.1 3 (eh_ix t1.2)) = 1 then (j15 1) else (j15 0)) else none)))) else none) else (some (.inl ()))
theorem er_enL {c : ep_C} (m0 : ep_M) {E W : Nat → Int32} (hG : ep_Gr (c.1 3) (c.1 4) (c.1 5) (c.1 6) (c.1 7) (c.1 10) E W) {e w a : Nat} (he : e < 6) (hw : w < 12) (hwe : W e = nI w) (hwS : c.1 3 w = 1) (hwO : c.1 6 w = nI e) (ha : a < 2 ^ 31) (q : Int32) {sel : Nat → Option ep_En} (hsel : sel = ep_sE (c.1 3) (c.1 4) (c.1 5) (c.1 6) (c.1 7) (c.1 8) (nI e)) {l0 : List ep_En} (hl0 : l0 = [(c.1 4 w, c.1 5 w, 7)]) : ∀ (r k n : Nat), k + r = 12 → r < n → (a = 0 → k ≤ w) → (a ≠ 0 → (ep_gL sel l0 k).length ≤ a) → Option.bind (eh_loop (er_EB (ep_mk c m0) (nI e) (nI a)) n (nI (ep_gL sel l0 k).length, nI k)) (Sum.elim (fun (e2 : Unit) => some (-1)) (fun (e3 : Int32) => Option.bind (eF_6_rightsIn (ep_mk c m0) e3 (nI e)) (fun q4 => Option.bind (eF_6_entryPart (ep_mk c m0) e3 q q4) (fun q5 => some q5)))) = some (er_pt ((ep_gL sel l0 12).getD a er_d) q)
  | 0, k, n + 1, hk, _, h0, hl => by
    have : k = 12 := by omega
    subst this
    have a0 : a ≠ 0 := fun z => by have := h0 z; omega
    rw [ep_loopS]
    show Option.bind (if nI 12 < 12 then _ else _) _ = _
    rw [if_neg (by decide), ep_sb, er_get_out (hl a0)]
    show some (-1) = _
    unfold er_pt er_d
    simp
  | r + 1, k, n + 1, hk, hr, h0, hl => by
    have hk2 : k < 12 := by omega
    have i12 : eh_in (nI k) 12 = true := ep_in hk2 (by decide)
    have x12 : eh_ix (nI k) = k := ep_ix (by omega)
    have hlen := ep_gL_len sel l0 k
    rw [hl0, List.length_singleton, ← hl0] at hlen
    have hlen1 : 1 ≤ (ep_gL sel l0 k).length := by
      have := er_gL_len sel l0 (k := 0) k (Nat.zero_le _)
      rw [show ep_gL sel l0 0 = l0 from rfl, hl0, List.length_singleton, ← hl0] at this
      exact this
    have ih := er_enL m0 hG he hw hwe hwS hwO ha q hsel hl0 r (k + 1) n (by omega) (by omega)
    have hstep : ep_gL sel l0 (k + 1) = match sel k with | none => ep_gL sel l0 k | some e => ep_gL sel l0 k ++ [e] := rfl
    rw [ep_loopS]
    show Option.bind (if nI k < 12 then _ else _) _ = _
    rw [if_pos (show nI k < 12 from nI_lt (b := 12) hk2 (by decide)), if_pos i12, ep_J, ep_rC1 _ _ 3 (by decide), x12]
    dsimp only
    have skip : sel k = none → k ≠ w → Option.bind (eh_loop (er_EB (ep_mk c m0) (nI e) (nI a)) n (nI (ep_gL sel l0 k).length, nI (k + 1))) (Sum.elim (fun (e2 : Unit) => some (-1)) (fun (e3 : Int32) => Option.bind (eF_6_rightsIn (ep_mk c m0) e3 (nI e)) (fun q4 => Option.bind (eF_6_entryPart (ep_mk c m0) e3 q q4) (fun q5 => some q5)))) = some (er_pt ((ep_gL sel l0 12).getD a er_d) q) := by
      intro hn hkw
      have hs : ep_gL sel l0 (k + 1) = ep_gL sel l0 k := by rw [hstep, hn]
      rw [hs] at ih
      exact ih (fun z => by have := h0 z; omega) hl
    by_cases y0 : c.1 3 k = 0
    · rw [if_pos y0, ep_V, nI_1]
      refine skip ?_ (fun z => by rw [z, hwS] at y0; exact absurd y0 (by decide))
      rw [hsel]; unfold ep_sE; rw [y0, if_neg (by decide)]
    rw [if_neg y0, ep_crightsIn c hk2, ep_sb]
    by_cases y1 : c.1 3 k = 1
    · have hri := ep_ri_1 hG (c.1 8) hk2 he y1
      have hn : sel k = none := by rw [hsel]; unfold ep_sE; rw [y1, if_neg (by decide)]
      by_cases yo : c.1 6 k = nI e
      · have hkw : k = w := by
          obtain ⟨e', he', h1, -, h2⟩ := (hG.1 k hk2 y0).2.2.1
          have : e' = e := (nI_eq (by omega) (by omega)).mp (h1.symm.trans yo)
          subst this
          have := (h2 y1).symm.trans hwe
          exact (nI_eq (by omega) (by omega)).mp this
        rw [if_pos yo] at hri
        rw [hri, if_neg (show ¬ (7 : Int32) = 0 by decide), if_pos i12, ep_J, if_pos y1]
        dsimp only
        rw [ep_J, if_neg (show ¬ (1 : Int32) = 0 by decide)]
        dsimp only
        by_cases a0 : a = 0
        · rw [if_pos (show nI a = 0 by rw [a0]; rfl), ep_sb]
          show Option.bind (eF_6_rightsIn (ep_mk c m0) (nI k) (nI e)) _ = _
          rw [ep_crightsIn c hk2, ep_sb, hri, er_cpart c m0 hk2, ep_sb]
          have h1 := er_gL_get sel l0 (k := 0) (a := a) (by rw [show ep_gL sel l0 0 = l0 from rfl, hl0, List.length_singleton]; omega) 12 (by omega)
          rw [h1, show ep_gL sel l0 0 = l0 from rfl, hl0, a0, hkw]
          rfl
        · rw [if_neg (show ¬ nI a = 0 from fun z => a0 ((nI_eq (b := 0) (by omega) (by decide)).mp z)), ep_J, if_neg (show ¬ (1 : Int32) = 0 by decide)]
          dsimp only
          rw [ep_V, Int32.add_zero, ep_V, nI_1]
          have hs : ep_gL sel l0 (k + 1) = ep_gL sel l0 k := by rw [hstep, hn]
          rw [hs] at ih
          exact ih (fun z => absurd z a0) hl
      · rw [if_neg yo] at hri
        rw [hri, if_pos rfl, ep_V, nI_1]
        exact skip hn (fun z => yo (by rw [z]; exact hwO))
    · have hri := ep_ri_2 hG (c.1 8) hk2 he y0 y1
      have kw : k ≠ w := fun z => y1 (by rw [z]; exact hwS)
      have h1l : (1 : Int32) < c.1 3 k := by
        rcases (hG.1 k hk2 y0).1 with z | z | z | z
        · exact absurd z y1
        · rw [z]; decide
        · rw [z]; decide
        · rw [z]; decide
      by_cases yc : ep_of (c.1 3) (c.1 6) (c.1 7) k (nI e) = true ∧ ep_acc (c.1 3) (c.1 6) (c.1 7) (c.1 8) k (nI e) = true
      · rw [if_pos yc] at hri
        have hne : ¬ (if c.1 3 k = 4 then (7 : Int32) else 3) = 0 := by split <;> decide
        have hsk : sel k = some (c.1 4 k, c.1 5 k, if c.1 3 k = 4 then 7 else 3) := by rw [hsel]; unfold ep_sE; rw [if_pos h1l, if_pos yc]
        have hs : ep_gL sel l0 (k + 1) = ep_gL sel l0 k ++ [(c.1 4 k, c.1 5 k, if c.1 3 k = 4 then 7 else 3)] := by rw [hstep, hsk]
        rw [hri, if_neg hne, if_pos i12, ep_J, if_neg y1]
        dsimp only
        rw [ep_J, if_pos rfl]
        dsimp only
        by_cases y : a = (ep_gL sel l0 k).length
        · rw [if_pos (by rw [y]), ep_sb]
          show Option.bind (eF_6_rightsIn (ep_mk c m0) (nI k) (nI e)) _ = _
          rw [ep_crightsIn c hk2, ep_sb, hri, er_cpart c m0 hk2, ep_sb]
          have h1 := er_gL_get sel l0 (k := k + 1) (a := a) (by rw [hs, List.length_append, List.length_singleton]; omega) 12 (by omega)
          rw [h1, hs, y, er_get_end]
        · rw [if_neg (show ¬ nI a = nI (ep_gL sel l0 k).length from fun z => y ((nI_eq (by omega) (by omega)).mp z)), ep_J, if_pos rfl]
          dsimp only
          rw [ep_V, nI_1, ep_V, nI_1]
          rw [hs, List.length_append, List.length_singleton] at ih
          exact ih (fun z => by have := h0 z; omega) (fun z => by have := hl z; omega)
      · rw [if_neg yc] at hri
        rw [hri, if_pos rfl, ep_V, nI_1]
        refine skip ?_ kw
        rw [hsel]; unfold ep_sE; rw [if_pos h1l, if_neg yc]
theorem er_en {c : ep_C} (m0 : ep_M) {E W : Nat → Int32} (hG : ep_Gr (c.1 3) (c.1 4) (c.1 5) (c.1 6) (c.1 7) (c.1 10) E W) {e w a : Nat} (he : e < 6) (hw : w < 12) (hwe : W e = nI w) (hwS : c.1 3 w = 1) (hwO : c.1 6 w = nI e) (ha : a < 2 ^ 31) (q : Int32) : eF_6_entryOfEnclave (ep_mk c m0) (nI e) (nI a) q = some (er_pt ((ep_lE (c.1 3) (c.1 4) (c.1 5) (c.1 6) (c.1 7) (c.1 8) w (nI e)).getD a er_d) q) :=
  er_enL m0 hG he hw hwe hwS hwO ha q (sel := _) rfl (l0 := _) rfl 12 0 eh_FU (by omega) (ep_FU _ (by decide)) (fun _ => Nat.zero_le _) (fun z => by show 1 ≤ a; omega)
/-- the law's fourth kind: the reference writes down what it gathered -/
def er_V (N : Nat) (c : ep_C) (m : ep_M) (f : eh_F → Option Int32) (g : eh_F → Option (Int32 × eh_F)) : Prop := ∃ r m', (∀ m0, f (ep_mk c m0) = some r) ∧ (∀ c0, g (ep_mk c0 m) = some (r, ep_mk c0 m')) ∧ ep_R N c m'
theorem er_mentry {m : ep_M} {h : Nat} (hh : h < 2) {l : List ep_En} {f g r : Nat → Int32} (hl : l.length ≤ 13) (hent : ep_ent l f g r) (hga : ∀ c0, eF_12_gather (ep_mk c0 m) (nI h) = some (ep_mk c0 (ep_mg m (nI l.length) f g r))) (p q : Int32) (c0 : ep_C) : eF_12_entry (ep_mk c0 m) (nI h) p q = some (if ¬ p < 0 ∧ ¬ q < 0 ∧ ¬ 2 < q then er_pt (l.getD (eh_ix p) er_d) q else -1, ep_mk c0 (ep_mg m (nI l.length) f g r)) := by
  unfold eF_12_entry
  rw [er_mh, ep_sb, show eh_in (nI h) 2 = true from ep_in hh (by decide), if_neg ep_bt, hga c0, ep_sb, ep_J]
  by_cases y1 : p < 0
  · rw [if_pos y1, if_neg (fun z => z.1 y1)]
  rw [if_neg y1, ep_rM _ _ 127 (by decide), ep_mg_48]
  obtain ⟨a, ha, rfl⟩ := nI_of y1
  rw [show eh_ix (nI a) = a from ep_ix ha]
  by_cases y2 : nI a < nI l.length
  · have hal := (nI_ltI ha (by omega)).mp y2
    have i13 : eh_in (nI a) 13 = true := ep_in (by omega) (by decide)
    rw [if_pos y2, ep_J, if_pos i13, if_pos i13, if_pos i13, ep_rM _ _ 170 (by decide), ep_mg_170, ep_rM _ _ 171 (by decide), ep_mg_171, ep_rM _ _ 172 (by decide), ep_mg_172, er_get_in hal (0, 0, 0), hent a hal]
    dsimp only
    by_cases q0 : q = 0
    · rw [if_pos q0, q0, if_pos ⟨y1, by decide, by decide⟩]; rfl
    · rw [if_neg q0]
      by_cases q1 : q = 1
      · rw [if_pos q1, q1, if_pos ⟨y1, by decide, by decide⟩]; rfl
      · rw [if_neg q1]
        by_cases q2 : q = 2
        · rw [if_pos q2, q2, if_pos ⟨y1, by decide, by decide⟩]; rfl
        · rw [if_neg q2, if_neg]
          intro ⟨_, z1, z2⟩
          obtain ⟨k, hk, rfl⟩ := ep_le_of (n := 2) (by decide) z1 z2
          have : k = 0 ∨ k = 1 ∨ k = 2 := by omega
          rcases this with rfl | rfl | rfl
          · exact q0 rfl
          · exact q1 rfl
          · exact q2 rfl
  · have hal : l.length ≤ a := by
      rw [nI_ltI ha (by omega)] at y2
      omega
    rw [if_neg y2, er_get_out hal]
    have : ∀ q : Int32, er_pt er_d q = -1 := by
      intro q
      unfold er_pt er_d
      simp
    rw [this]
    split <;> rfl
theorem er_entry {N : Nat} {c : ep_C} {m : ep_M} (hR : ep_R N c m) (p q r : Int32) : er_V N c m (fun s => eF_11_entry s p q r) (fun s => eF_12_entry s p q r) := by
  obtain ⟨r3, r4, r5, r6, r7, r8⟩ := hR.2.2.1
  by_cases y : eh_in p 2 = true
  · obtain ⟨h, hh, rfl⟩ := ep_in_of y (by decide)
    have g5 : c.2.1 0 h 5 = m.1 144 h := (hR.2.2.2.2.2.2.2.1 h hh).2.2.2.2.1
    -- the class, once the entries are known
    have hcl : ∀ l : List ep_En, (∀ a, a < 2 ^ 31 → ∀ m0, eh_V (((ep_mk c m0).1 (eh_hp (nI h)) 5) : Int32) (fun x9 => Option.bind (eF_5_hasFibre (ep_mk c m0) x9) (fun q10 => if q10 = 0 then (Option.bind (eF_6_entryOfSystem (ep_mk c m0) (nI a) r) (fun q12 => some q12)) else (if eh_in x9 12 then Option.bind (eF_6_entryOfEnclave (ep_mk c m0) ((ep_mk c m0).1 (eh_fp x9) 3) (nI a) r) (fun q14 => some q14) else none))) = some (er_pt (l.getD a er_d) r)) → ∀ m0, eF_11_entry (ep_mk c m0) (nI h) q r = some (if ¬ q < 0 ∧ ¬ r < 0 ∧ ¬ 2 < r then er_pt (l.getD (eh_ix q) er_d) r else -1) := by
      intro l hl m0
      unfold eF_11_entry
      rw [er_ch, ep_sb, y, ep_J, if_neg ep_bt]
      by_cases y1 : q < 0
      · rw [if_pos y1, if_neg (fun z => z.1 y1)]
      rw [if_neg y1]
      by_cases y2 : r < 0
      · rw [if_pos y2, if_neg (fun z => z.2.1 y2)]
      rw [if_neg y2]
      by_cases y3 : 2 < r
      · rw [if_pos y3, if_neg (fun z => z.2.2 y3)]
      rw [if_neg y3, if_pos rfl, if_pos ⟨y1, y2, y3⟩]
      obtain ⟨a, ha, rfl⟩ := nI_of y1
      rw [hl a ha m0, show eh_ix (nI a) = a from ep_ix ha]
    rcases hR.2.2.2.2.2.2.2.2.2.2.2.2.2.2.1 h hh with hr | ⟨t, e, ht, he, hr, hs, ho, hE⟩
    · obtain ⟨f, g, rr, h1, h2⟩ := ep_mgatherS hh hr
      have hlen : (ep_lS (m.1 164) (m.1 165) (m.1 166)).length ≤ 13 := by
        unfold ep_lS
        have := ep_gL_len (ep_sS (m.1 164) (m.1 165) (m.1 166)) [] 12
        rw [List.length_append, List.length_singleton]
        rw [List.length_nil] at this
        omega
      refine ⟨_, _, hcl (ep_lS (m.1 164) (m.1 165) (m.1 166)) ?_, er_mentry hh hlen h1 h2 q r, ep_R_L hR (ep_L_mg _ _ _ _)⟩
      intro a ha m0
      rw [ep_V, ep_rH0 _ _ hh, g5, hr, ep_chasF hR, ep_sb, show ep_inb (-1) 12 (m.1 148) = false from by unfold ep_inb; rw [show eh_in (-1) 12 = false by decide, Bool.false_and], if_pos ep_bf, er_sys c m0 ha, ep_sb, r3, r4, r5]
    · have hE0 : m.1 155 e ≠ 0 := by rw [hE]; decide
      obtain ⟨w, hw, hwe, hwS, hwO⟩ := hR.2.2.2.1.2.2 e he hE0
      obtain ⟨f, g, rr, h1, h2⟩ := ep_mgatherE hh ht he hw hr ho hwe
      have hlen : (ep_lE (m.1 164) (m.1 165) (m.1 166) (m.1 167) (m.1 168) (m.1 169) w (nI e)).length ≤ 13 := by
        unfold ep_lE
        have := ep_gL_len (ep_sE (m.1 164) (m.1 165) (m.1 166) (m.1 167) (m.1 168) (m.1 169) (nI e)) [(m.1 165 w, m.1 166 w, 7)] 12
        rw [List.length_singleton] at this
        omega
      refine ⟨_, _, hcl (ep_lE (m.1 164) (m.1 165) (m.1 166) (m.1 167) (m.1 168) (m.1 169) w (nI e)) ?_, er_mentry hh hlen h1 h2 q r, ep_R_L hR (ep_L_mg _ _ _ _)⟩
      intro a ha m0
      have it : eh_in (nI t) 12 = true := ep_in ht (by decide)
      have hib : ep_inb (nI t) 12 (m.1 148) = true := by rw [ep_inb_nI ht (by decide), hs]; decide
      have hgr : ep_Gr (c.1 3) (c.1 4) (c.1 5) (c.1 6) (c.1 7) (c.1 10) (m.1 155) (m.1 156) := by rw [r3, r4, r5, r6, r7]; exact hR.2.2.2.1
      rw [ep_V, ep_rH0 _ _ hh, g5, hr, ep_chasF hR, ep_sb, hib, if_neg ep_bt, if_pos it, ep_rF0 _ _ ht, (hR.2.2.2.2.2.2.2.2.2.2.1 t ht).2.2.1, ho, er_en m0 hgr he hw hwe (by rw [r3]; exact hwS) (by rw [r6]; exact hwO) ha, ep_sb, r3, r4, r5, r6, r7, r8]
  · refine ⟨-1, m, fun m0 => ?_, fun c0 => ?_, hR⟩
    · show eF_11_entry _ p q r = _
      unfold eF_11_entry
      rw [er_ch, ep_sb, ep_J, er_hart y, if_pos ep_bf]
    · show eF_12_entry _ p q r = _
      unfold eF_12_entry
      rw [er_mh, ep_sb, er_hart y, if_pos ep_bf]
