/-! gates: what the reference gathers, and rights -/
abbrev ep_En : Type := Int32 × Int32 × Int32
def ep_mg (m : ep_M) (n : Int32) (f g r : Nat → Int32) : ep_M := (ep_uf (ep_uf (ep_uf (ep_uf m.1 127 (upd (m.1 127) 48 n)) 170 f) 171 g) 172 r, m.2)
theorem ep_mg_48 (m : ep_M) (n : Int32) (f g r : Nat → Int32) : (ep_mg m n f g r).1 127 48 = n := by simp [ep_mg, ep_uf, upd]
theorem ep_mg_170 (m : ep_M) (n : Int32) (f g r : Nat → Int32) : (ep_mg m n f g r).1 170 = f := rfl
theorem ep_mg_171 (m : ep_M) (n : Int32) (f g r : Nat → Int32) : (ep_mg m n f g r).1 171 = g := rfl
theorem ep_mg_172 (m : ep_M) (n : Int32) (f g r : Nat → Int32) : (ep_mg m n f g r).1 172 = r := rfl
theorem ep_mg_n (m : ep_M) (n : Int32) (f g r : Nat → Int32) (k : Nat) (h : k ≠ 127) (h1 : k ≠ 170) (h2 : k ≠ 171) (h3 : k ≠ 172) : (ep_mg m n f g r).1 k = m.1 k := by simp [ep_mg, ep_uf, h, h1, h2, h3]
theorem ep_mg_0 (m : ep_M) (n : Int32) : ep_mI m 127 48 n = ep_mg m n (m.1 170) (m.1 171) (m.1 172) := by
  refine Prod.ext ?_ rfl
  funext a
  simp only [ep_mg, ep_mI, ep_mL, ep_uf]
  by_cases h1 : a = 127 <;> by_cases h2 : a = 170 <;> by_cases h3 : a = 171 <;> by_cases h4 : a = 172 <;> simp [h1, h2, h3, h4]
theorem ep_mg_mg (m : ep_M) (n n' : Int32) (f g r f' g' r' : Nat → Int32) : ep_mg (ep_mg m n f g r) n' f' g' r' = ep_mg m n' f' g' r' := by
  refine Prod.ext ?_ rfl
  funext a
  simp only [ep_mg, ep_uf]
  by_cases h1 : a = 127
  · subst h1; simp; funext j; by_cases hj : j = 48 <;> simp [upd, hj]
  · by_cases h2 : a = 170 <;> by_cases h3 : a = 171 <;> by_cases h4 : a = 172 <;> simp [h1, h2, h3, h4]
theorem ep_mgate (m : ep_M) {n : Nat} (hn : n < 13) (f g r : Nat → Int32) (x y z : Int32) (c0 : ep_C) : eF_12_gate (ep_mk c0 (ep_mg m (nI n) f g r)) x y z = some (ep_mk c0 (ep_mg m (nI (n + 1)) (upd f n x) (upd g n y) (upd r n z))) := by
  have q1 : eh_in (nI n) 13 = true := ep_in hn (by decide)
  have q2 : eh_ix (nI n) = n := ep_ix (by omega)
  unfold eF_12_gate
  simp (disch := first | assumption | decide) only [ep_V, ep_J, ep_sb, ep_rC1, ep_rC2, ep_rM, ep_rJ, ep_rQ, ep_wC1, ep_wC2, ep_wM, ep_iC1, ep_iC2, ep_iM, ep_wJ, ep_wQ, ep_cI1, ep_cIn, ep_cI2, ep_cL1, ep_cLn, ep_cL2, ep_cG1, ep_cGq, ep_cQ1, ep_cQ2, ep_cQq, ep_cQn, ep_mI1, ep_mIn, ep_mI2, ep_mL1, ep_mLn, ep_mL2, ep_mJ1, ep_mJ2, ep_mg_48, q1, q2, if_true, nI_1]
  congr 2
  refine Prod.ext ?_ rfl
  funext a
  simp only [ep_mg, ep_mI, ep_mL, ep_uf]
  by_cases h1 : a = 127
  · subst h1; simp; funext j; by_cases hj : j = 48 <;> simp [upd, hj]
  · by_cases h2 : a = 170 <;> by_cases h3 : a = 171 <;> by_cases h4 : a = 172 <;> simp [h1, h2, h3, h4]
def ep_ent (l : List ep_En) (f g r : Nat → Int32) : Prop := ∀ j, j < l.length → l.getD j (0, 0, 0) = (f j, g j, r j)
theorem ep_ent_s {l : List ep_En} {f g r : Nat → Int32} (h : ep_ent l f g r) (x y z : Int32) : ep_ent (l ++ [(x, y, z)]) (upd f l.length x) (upd g l.length y) (upd r l.length z) := by
  intro j hj
  rw [List.length_append, List.length_singleton] at hj
  simp only [List.getD_eq_getElem?_getD]
  by_cases g : j = l.length
  · subst g
    rw [List.getElem?_append_right (Nat.le_refl _)]
    simp [upd]
  · rw [List.getElem?_append_left (by omega)]
    have := h j (by omega)
    simp only [List.getD_eq_getElem?_getD] at this
    rw [this]
    simp [upd, g]
/-- entries that a choice of regions gives -/
def ep_gL (sel : Nat → Option ep_En) (l0 : List ep_En) : Nat → List ep_En
  | 0 => l0
  | n + 1 => match sel n with
    | none => ep_gL sel l0 n
    | some e => ep_gL sel l0 n ++ [e]
theorem ep_gL_len (sel : Nat → Option ep_En) (l0 : List ep_En) : ∀ n, (ep_gL sel l0 n).length ≤ l0.length + n
  | 0 => Nat.le_refl _
  | n + 1 => by
    have := ep_gL_len sel l0 n
    unfold ep_gL
    split
    · omega
    · rw [List.length_append, List.length_singleton]; omega
theorem ep_gL_mem (sel : Nat → Option ep_En) (l0 : List ep_En) (x : ep_En) : ∀ n, x ∈ ep_gL sel l0 n ↔ x ∈ l0 ∨ ∃ k, k < n ∧ sel k = some x
  | 0 => ⟨Or.inl, fun h => h.elim id (fun ⟨k, hk, _⟩ => absurd hk (Nat.not_lt_zero k))⟩
  | n + 1 => by
    have ih := ep_gL_mem sel l0 x n
    unfold ep_gL
    split
    · rename_i hs
      rw [ih]
      constructor
      · intro h
        rcases h with h | ⟨k, hk, h⟩
        · exact Or.inl h
        · exact Or.inr ⟨k, by omega, h⟩
      · intro h
        rcases h with h | ⟨k, hk, h⟩
        · exact Or.inl h
        · by_cases g : k = n
          · subst g; rw [hs] at h; exact absurd h (by simp)
          · exact Or.inr ⟨k, by omega, h⟩
    · rename_i e hs
      rw [List.mem_append, List.mem_singleton, ih]
      constructor
      · intro h
        rcases h with (h | ⟨k, hk, h⟩) | h
        · exact Or.inl h
        · exact Or.inr ⟨k, by omega, h⟩
        · exact Or.inr ⟨n, by omega, by rw [h]; exact hs⟩
      · intro h
        rcases h with h | ⟨k, hk, h⟩
        · exact Or.inl (Or.inl h)
        · by_cases g : k = n
          · subst g; rw [hs] at h; exact Or.inr (Option.some.inj h).symm
          · exact Or.inl (Or.inr ⟨k, by omega, h⟩)
def ep_of (S O T : Nat → Int32) (k : Nat) (e : Int32) : Bool := decide (O k = e) || (decide (S k = 3) && decide (T k = e))
def ep_acc (S O T A : Nat → Int32) (k : Nat) (e : Int32) : Bool := (decide (O k = e) && decide (A k &&& 1 ≠ 0)) || (decide (S k = 3) && decide (T k = e) && decide (A k &&& 2 ≠ 0))
theorem ep_misOf (m : ep_M) {k : Nat} (hk : k < 12) (e : Int32) (c0 : ep_C) : eF_12_isOf (ep_mk c0 m) (nI k) e = some (ep_bi (ep_of (m.1 164) (m.1 167) (m.1 168) k e)) := by
  have q1 : eh_in (nI k) 12 = true := ep_in hk (by decide)
  have q2 : eh_ix (nI k) = k := ep_ix (by omega)
  unfold eF_12_isOf ep_of
  simp (disch := first | assumption | decide) only [ep_V, ep_J, ep_sb, ep_rC1, ep_rC2, ep_rM, ep_rJ, ep_rQ, ep_wC1, ep_wC2, ep_wM, ep_iC1, ep_iC2, ep_iM, ep_wJ, ep_wQ, ep_cI1, ep_cIn, ep_cI2, ep_cL1, ep_cLn, ep_cL2, ep_cG1, ep_cGq, ep_cQ1, ep_cQ2, ep_cQq, ep_cQn, ep_mI1, ep_mIn, ep_mI2, ep_mL1, ep_mLn, ep_mL2, ep_mJ1, ep_mJ2, q1, q2, if_true]
  by_cases z1 : m.1 167 k = e
  · simp [z1, ep_bi]
  · by_cases z2 : m.1 164 k = 3
    · by_cases z3 : m.1 168 k = e
      · simp [z1, z2, z3, ep_bi]
      · simp [z1, z2, z3, ep_bi]
    · simp [z1, z2, ep_bi]
theorem ep_misAccepted (m : ep_M) {k : Nat} (hk : k < 12) (e : Int32) (c0 : ep_C) : eF_12_isAccepted (ep_mk c0 m) (nI k) e = some (ep_bi (ep_acc (m.1 164) (m.1 167) (m.1 168) (m.1 169) k e)) := by
  have q1 : eh_in (nI k) 12 = true := ep_in hk (by decide)
  have q2 : eh_ix (nI k) = k := ep_ix (by omega)
  unfold eF_12_isAccepted ep_acc
  simp (disch := first | assumption | decide) only [ep_V, ep_J, ep_sb, ep_rC1, ep_rC2, ep_rM, ep_rJ, ep_rQ, ep_wC1, ep_wC2, ep_wM, ep_iC1, ep_iC2, ep_iM, ep_wJ, ep_wQ, ep_cI1, ep_cIn, ep_cI2, ep_cL1, ep_cLn, ep_cL2, ep_cG1, ep_cGq, ep_cQ1, ep_cQ2, ep_cQq, ep_cQn, ep_mI1, ep_mIn, ep_mI2, ep_mL1, ep_mLn, ep_mL2, ep_mJ1, ep_mJ2, q1, q2, if_true]
  by_cases z1 : m.1 167 k = e <;> by_cases z4 : m.1 169 k &&& 1 = 0 <;> by_cases z2 : m.1 164 k = 3 <;> by_cases z3 : m.1 168 k = e <;> by_cases z5 : m.1 169 k &&& 2 = 0 <;> simp [z1, z2, z3, z4, z5, ep_bi]
/-- entries of the system -/
def ep_sS (S B Z : Nat → Int32) (k : Nat) : Option ep_En := if S k = 0 then none else if S k = 2 then none else some (B k, Z k, 0)
/-- entries of enclave e, its own region aside -/
def ep_sE (S B Z O T A : Nat → Int32) (e : Int32) (k : Nat) : Option ep_En := if 1 < S k then (if ep_of S O T k e = true ∧ ep_acc S O T A k e = true then some (B k, Z k, if S k = 4 then 7 else 3) else none) else none
def ep_lS (S B Z : Nat → Int32) : List ep_En := ep_gL (ep_sS S B Z) [] 12 ++ [(0, 131072, 7)]
def ep_lE (S B Z O T A : Nat → Int32) (w : Nat) (e : Int32) : List ep_En := ep_gL (ep_sE S B Z O T A e) [(B w, Z w, 7)] 12
theorem ep_mgatherS {m : ep_M} {h : Nat} (hh : h < 2) (hr : m.1 144 h = -1) : ∃ f g r, ep_ent (ep_lS (m.1 164) (m.1 165) (m.1 166)) f g r ∧ ∀ c0, eF_12_gather (ep_mk c0 m) (nI h) = some (ep_mk c0 (ep_mg m (nI (ep_lS (m.1 164) (m.1 165) (m.1 166)).length) f g r)) := by
  have q1 : eh_in (nI h) 2 = true := ep_in hh (by decide)
  have q2 : eh_ix (nI h) = h := ep_ix (by omega)
  have key := ep_minv0 (A := ep_C) (X := (Nat → Int32) × (Nat → Int32) × (Nat → Int32)) (body := fun _ (r7 : (Int32 × eh_F) → Option (eh_F)) (t3 : Int32 × eh_F) => if t3.1 < 12 then (if eh_in t3.1 12 then eh_J (fun (s10 : eh_F) => eh_V ((t3.1 + 1) : Int32) (fun x11 => r7 (x11, s10))) (fun j9 => if (t3.2.1 164 (eh_ix t3.1)) = 0 then (j9 t3.2) else (if eh_in t3.1 12 then if (t3.2.1 164 (eh_ix t3.1)) = 2 then (j9 t3.2) else (if eh_in t3.1 12 then if eh_in t3.1 12 then Option.bind (eF_12_gate t3.2 (t3.2.1 165 (eh_ix t3.1)) (t3.2.1 166 (eh_ix t3.1)) 0) (fun q14 => j9 q14) else none else none) else none)) else none) else (some t3.2))
    (fun c0 i x => (nI i, ep_mk c0 (ep_mg m (nI (ep_gL (ep_sS (m.1 164) (m.1 165) (m.1 166)) [] i).length) x.1 x.2.1 x.2.2)))
    (fun G => ∃ f g r, ep_ent (ep_gL (ep_sS (m.1 164) (m.1 165) (m.1 166)) [] 12) f g r ∧ ∀ c0, G c0 = some (ep_mk c0 (ep_mg m (nI (ep_gL (ep_sS (m.1 164) (m.1 165) (m.1 166)) [] 12).length) f g r)))
    (fun i x => ep_ent (ep_gL (ep_sS (m.1 164) (m.1 165) (m.1 166)) [] i) x.1 x.2.1 x.2.2) 12 (by decide) (by
      intro i x hi hp
      left
      have hl := ep_gL_len (ep_sS (m.1 164) (m.1 165) (m.1 166)) [] i
      simp only [List.length_nil] at hl
      have z1 : nI i < 12 := ep_lt (b := 12) hi (by decide) rfl
      have z2 : eh_in (nI i) 12 = true := ep_in hi (by decide)
      have z3 : eh_ix (nI i) = i := ep_ix (by omega)
      cases hs : ep_sS (m.1 164) (m.1 165) (m.1 166) i with
      | none =>
        refine ⟨x, ?_, ?_⟩
        · simp only [ep_gL, hs]; exact hp
        · intro a rec
          simp only [ep_gL, hs]
          simp (disch := first | assumption | decide) only [ep_V, ep_J, ep_sb, ep_rC1, ep_rC2, ep_rM, ep_rJ, ep_rQ, ep_wC1, ep_wC2, ep_wM, ep_iC1, ep_iC2, ep_iM, ep_wJ, ep_wQ, ep_cI1, ep_cIn, ep_cI2, ep_cL1, ep_cLn, ep_cL2, ep_cG1, ep_cGq, ep_cQ1, ep_cQ2, ep_cQq, ep_cQn, ep_mI1, ep_mIn, ep_mI2, ep_mL1, ep_mLn, ep_mL2, ep_mJ1, ep_mJ2, z1, z2, z3, if_true, ep_mg_n, nI_1]
          unfold ep_sS at hs
          by_cases y1 : m.1 164 i = 0
          · simp [y1]
          · by_cases y2 : m.1 164 i = 2
            · simp [y2]
            · simp [y1, y2] at hs
      | some e =>
        obtain ⟨e1, e2, e3⟩ := e
        refine ⟨(upd x.1 (ep_gL (ep_sS (m.1 164) (m.1 165) (m.1 166)) [] i).length e1, upd x.2.1 (ep_gL (ep_sS (m.1 164) (m.1 165) (m.1 166)) [] i).length e2, upd x.2.2 (ep_gL (ep_sS (m.1 164) (m.1 165) (m.1 166)) [] i).length e3), ?_, ?_⟩
        · simp only [ep_gL, hs]
          exact ep_ent_s hp e1 e2 e3
        · intro a rec
          simp only [ep_gL, hs, List.length_append, List.length_singleton]
          unfold ep_sS at hs
          by_cases y1 : m.1 164 i = 0
          · simp [y1] at hs
          · by_cases y2 : m.1 164 i = 2
            · simp [y1, y2] at hs
            · simp [y1, y2] at hs
              simp (disch := first | assumption | decide) only [ep_V, ep_J, ep_sb, ep_rC1, ep_rC2, ep_rM, ep_rJ, ep_rQ, ep_wC1, ep_wC2, ep_wM, ep_iC1, ep_iC2, ep_iM, ep_wJ, ep_wQ, ep_cI1, ep_cIn, ep_cI2, ep_cL1, ep_cLn, ep_cL2, ep_cG1, ep_cGq, ep_cQ1, ep_cQ2, ep_cQq, ep_cQn, ep_mI1, ep_mIn, ep_mI2, ep_mL1, ep_mLn, ep_mL2, ep_mJ1, ep_mJ2, z1, z2, z3, if_true, ep_mg_n, nI_1, y1, y2, if_false]
              rw [ep_mgate m (by omega), ep_sb, hs.1, hs.2.1, hs.2.2]) (by
      intro x hp
      refine ⟨fun c0 => some (ep_mk c0 (ep_mg m (nI (ep_gL (ep_sS (m.1 164) (m.1 165) (m.1 166)) [] 12).length) x.1 x.2.1 x.2.2)), ⟨_, _, _, hp, fun c0 => rfl⟩, fun a rec => ?_⟩
      have z1 : ¬ nI 12 < 12 := by decide
      simp only [z1, if_false]) (m.1 170, m.1 171, m.1 172) (fun j hj => absurd hj (Nat.not_lt_zero j))
  obtain ⟨G, ⟨f, g, r, h1, h2⟩, hG⟩ := key
  have hl := ep_gL_len (ep_sS (m.1 164) (m.1 165) (m.1 166)) [] 12
  simp only [List.length_nil] at hl
  refine ⟨_, _, _, ep_ent_s h1 0 131072 7, fun c0 => ?_⟩
  unfold eF_12_gather
  rw [ep_V, ep_iM _ _ _ _ _ (by decide), ep_mg_0, if_pos q1, ep_rM _ _ _ (by decide), q2, ep_mg_n _ _ _ _ _ _ (by decide) (by decide) (by decide) (by decide), hr, if_pos rfl]
  have := hG c0
  rw [h2 c0] at this
  refine ep_bnd this ?_
  rw [ep_mgate m (by omega), ep_sb]
  unfold ep_lS
  rw [List.length_append, List.length_singleton]
