/-! the disk's channel -/
theorem ep_in_i (f : Nat → Int32) (i : Nat) (g : Nat → Int32) {j : Nat} (h : i ≤ j) : ep_in_ f 0 i g j = f j := by
  unfold ep_in_; rw [if_neg (by omega)]
theorem ep_in_n {f : Nat → Int32} {a n : Nat} {g : Nat → Int32} {j : Nat} (h : j < a ∨ a + n ≤ j) : ep_in_ f a n g j = f j := by
  unfold ep_in_; rw [if_neg (by omega)]
theorem ep_in_y {f : Nat → Int32} {n : Nat} {g : Nat → Int32} {j : Nat} (h : j < n) : ep_in_ f 0 n g j = g j := by
  unfold ep_in_; rw [if_pos (by omega)]; rfl
theorem ep_in_z (f : Nat → Int32) (n : Nat) (g : Nat → Int32) {v : Int32} (h : v = g n) : upd (ep_in_ f 0 n g) n v = ep_in_ f 0 (n + 1) g := by
  have := ep_in_s f 0 n g
  rw [Nat.zero_add] at this
  rw [h, this]
theorem ep_cages (c : ep_C) (m0 : ep_M) {n : Nat} (hn : n ≤ 4) (h7 : c.1 12 7 = nI n) : eh_loop (fun (r11 : (Int32 × eh_F) → Option (eh_F)) (t1 : Int32 × eh_F) => if t1.1 < (t1.2.1 12 7) then (if t1.1 < 4 then (if eh_in t1.1 4 then if eh_in t1.1 4 then eh_V (eh_tI t1.2 17 (eh_ix t1.1) ((t1.2.1 17 (eh_ix t1.1)) + 1)) (fun s14 => eh_V ((t1.1 + 1) : Int32) (fun x15 => r11 (x15, s14))) else none else none) else (some t1.2)) else (some t1.2)) eh_FU (0, ep_mk c m0) = some (ep_mk (ep_cL c 17 (ep_in_ (c.1 17) 0 n fun j => c.1 17 j + 1)) m0) := by
  refine ep_loop (fun i => (nI i, ep_mk (ep_cL c 17 (ep_in_ (c.1 17) 0 i fun j => c.1 17 j + 1)) m0)) n _ (ep_FU _ (by omega)) ?_ ?_ ?_
  · intro i hi rec
    have i4 : eh_in (nI i) 4 = true := ep_in (by omega) (by decide)
    have x4 : eh_ix (nI i) = i := ep_ix (by omega)
    show (if nI i < (ep_mk (ep_cL c 17 _) m0).1 12 7 then _ else _) = _
    rw [ep_rC1 _ _ 12 (by decide), ep_cLn _ _ _ _ (by decide), h7, if_pos (nI_lt hi (by omega)), if_pos (show nI i < 4 from nI_lt (b := 4) (by omega) (by decide)), if_pos i4, if_pos i4, ep_V, ep_V, x4, ep_rC1 _ _ 17 (by decide), ep_cL1, ep_iC1 _ _ _ _ _ (by decide), ep_cLI, ep_in_i _ _ _ (Nat.le_refl i), ep_in_z _ _ (fun j => c.1 17 j + 1) rfl, nI_1]
  · intro rec
    show (if nI n < (ep_mk (ep_cL c 17 _) m0).1 12 7 then _ else _) = _
    rw [ep_rC1 _ _ 12 (by decide), ep_cLn _ _ _ _ (by decide), h7, if_neg (nI_nlt (Nat.le_refl _) (by omega))]
  · show _ = (nI 0, ep_mk (ep_cL c 17 (ep_in_ (c.1 17) 0 0 _)) m0)
    rw [ep_in_0, ep_cLid]; rfl
theorem ep_mages (m : ep_M) (c0 : ep_C) {n : Nat} (hn : n ≤ 4) (h7 : m.1 127 58 = nI n) : eh_loop (fun (r37 : (Int32 × eh_F) → Option (eh_F)) (t1 : Int32 × eh_F) => if t1.1 < (t1.2.1 127 58) then (if eh_in t1.1 4 then if eh_in t1.1 4 then eh_V (eh_tI t1.2 179 (eh_ix t1.1) ((t1.2.1 179 (eh_ix t1.1)) + 1)) (fun s39 => eh_V ((t1.1 + 1) : Int32) (fun x40 => r37 (x40, s39))) else none else none) else (some t1.2)) eh_FU (0, ep_mk c0 m) = some (ep_mk c0 (ep_mL m 179 (ep_in_ (m.1 179) 0 n fun j => m.1 179 j + 1))) := by
  refine ep_loop (fun i => (nI i, ep_mk c0 (ep_mL m 179 (ep_in_ (m.1 179) 0 i fun j => m.1 179 j + 1)))) n _ (ep_FU _ (by omega)) ?_ ?_ ?_
  · intro i hi rec
    have i4 : eh_in (nI i) 4 = true := ep_in (by omega) (by decide)
    have x4 : eh_ix (nI i) = i := ep_ix (by omega)
    show (if nI i < (ep_mk c0 (ep_mL m 179 _)).1 127 58 then _ else _) = _
    rw [ep_rM _ _ 127 (by decide), ep_mLn _ _ _ _ (by decide), h7, if_pos (nI_lt hi (by omega)), if_pos i4, if_pos i4, ep_V, ep_V, x4, ep_rM _ _ 179 (by decide), ep_mL1, ep_iM _ _ _ _ _ (by decide), ep_mLI, ep_in_i _ _ _ (Nat.le_refl i), ep_in_z _ _ (fun j => m.1 179 j + 1) rfl, nI_1]
  · intro rec
    show (if nI n < (ep_mk c0 (ep_mL m 179 _)).1 127 58 then _ else _) = _
    rw [ep_rM _ _ 127 (by decide), ep_mLn _ _ _ _ (by decide), h7, if_neg (nI_nlt (Nat.le_refl _) (by omega))]
  · show _ = (nI 0, ep_mk c0 (ep_mL m 179 (ep_in_ (m.1 179) 0 0 _)))
    rw [ep_in_0, ep_mLid]; rfl
/-! four cells at once -/
def ep_cd4 (c : ep_C) (A B C D : Nat → Int32) : ep_C := ep_cL (ep_cL (ep_cL (ep_cL c 14 A) 15 B) 16 C) 17 D
def ep_md4 (m : ep_M) (A B C D : Nat → Int32) : ep_M := ep_mL (ep_mL (ep_mL (ep_mL m 176 A) 177 B) 178 C) 179 D
theorem ep_cd4_14 (c : ep_C) (A B C D : Nat → Int32) (j : Nat) (v : Int32) : ep_cI (ep_cd4 c A B C D) 14 j v = ep_cd4 c (upd A j v) B C D := by
  refine Prod.ext ?_ rfl
  funext a
  simp only [ep_cd4, ep_cI, ep_cL, ep_uf]
  by_cases h1 : a = 14 <;> by_cases h2 : a = 15 <;> by_cases h3 : a = 16 <;> by_cases h4 : a = 17 <;> simp [h1, h2, h3, h4]
theorem ep_cd4_15 (c : ep_C) (A B C D : Nat → Int32) (j : Nat) (v : Int32) : ep_cI (ep_cd4 c A B C D) 15 j v = ep_cd4 c A (upd B j v) C D := by
  refine Prod.ext ?_ rfl
  funext a
  simp only [ep_cd4, ep_cI, ep_cL, ep_uf]
  by_cases h1 : a = 14 <;> by_cases h2 : a = 15 <;> by_cases h3 : a = 16 <;> by_cases h4 : a = 17 <;> simp [h1, h2, h3, h4]
theorem ep_cd4_16 (c : ep_C) (A B C D : Nat → Int32) (j : Nat) (v : Int32) : ep_cI (ep_cd4 c A B C D) 16 j v = ep_cd4 c A B (upd C j v) D := by
  refine Prod.ext ?_ rfl
  funext a
  simp only [ep_cd4, ep_cI, ep_cL, ep_uf]
  by_cases h1 : a = 14 <;> by_cases h2 : a = 15 <;> by_cases h3 : a = 16 <;> by_cases h4 : a = 17 <;> simp [h1, h2, h3, h4]
theorem ep_cd4_17 (c : ep_C) (A B C D : Nat → Int32) (j : Nat) (v : Int32) : ep_cI (ep_cd4 c A B C D) 17 j v = ep_cd4 c A B C (upd D j v) := by
  unfold ep_cd4; rw [ep_cLI]
theorem ep_md4_14 (c : ep_M) (A B C D : Nat → Int32) (j : Nat) (v : Int32) : ep_mI (ep_md4 c A B C D) 176 j v = ep_md4 c (upd A j v) B C D := by
  refine Prod.ext ?_ rfl
  funext a
  simp only [ep_md4, ep_mI, ep_mL, ep_uf]
  by_cases h1 : a = 176 <;> by_cases h2 : a = 177 <;> by_cases h3 : a = 178 <;> by_cases h4 : a = 179 <;> simp [h1, h2, h3, h4]
theorem ep_md4_15 (c : ep_M) (A B C D : Nat → Int32) (j : Nat) (v : Int32) : ep_mI (ep_md4 c A B C D) 177 j v = ep_md4 c A (upd B j v) C D := by
  refine Prod.ext ?_ rfl
  funext a
  simp only [ep_md4, ep_mI, ep_mL, ep_uf]
  by_cases h1 : a = 176 <;> by_cases h2 : a = 177 <;> by_cases h3 : a = 178 <;> by_cases h4 : a = 179 <;> simp [h1, h2, h3, h4]
theorem ep_md4_16 (c : ep_M) (A B C D : Nat → Int32) (j : Nat) (v : Int32) : ep_mI (ep_md4 c A B C D) 178 j v = ep_md4 c A B (upd C j v) D := by
  refine Prod.ext ?_ rfl
  funext a
  simp only [ep_md4, ep_mI, ep_mL, ep_uf]
  by_cases h1 : a = 176 <;> by_cases h2 : a = 177 <;> by_cases h3 : a = 178 <;> by_cases h4 : a = 179 <;> simp [h1, h2, h3, h4]
theorem ep_md4_17 (c : ep_M) (A B C D : Nat → Int32) (j : Nat) (v : Int32) : ep_mI (ep_md4 c A B C D) 179 j v = ep_md4 c A B C (upd D j v) := by
  unfold ep_md4; rw [ep_mLI]
theorem ep_cd4_r (c : ep_C) (A B C D : Nat → Int32) : (ep_cd4 c A B C D).1 14 = A ∧ (ep_cd4 c A B C D).1 15 = B ∧ (ep_cd4 c A B C D).1 16 = C ∧ (ep_cd4 c A B C D).1 17 = D ∧ (ep_cd4 c A B C D).1 12 = c.1 12 := ⟨rfl, rfl, rfl, rfl, rfl⟩
theorem ep_md4_r (c : ep_M) (A B C D : Nat → Int32) : (ep_md4 c A B C D).1 176 = A ∧ (ep_md4 c A B C D).1 177 = B ∧ (ep_md4 c A B C D).1 178 = C ∧ (ep_md4 c A B C D).1 179 = D ∧ (ep_md4 c A B C D).1 127 = c.1 127 := ⟨rfl, rfl, rfl, rfl, rfl⟩
theorem ep_cd4_id (c : ep_C) : ep_cd4 c (c.1 14) (c.1 15) (c.1 16) (c.1 17) = c := by
  unfold ep_cd4
  rw [ep_cLid]
  rw [show c.1 15 = (c).1 15 from rfl, ep_cLid, ep_cLid, ep_cLid]
theorem ep_md4_id (c : ep_M) : ep_md4 c (c.1 176) (c.1 177) (c.1 178) (c.1 179) = c := by
  unfold ep_md4
  rw [ep_mLid, ep_mLid, ep_mLid, ep_mLid]
def ep_shf (f : Nat → Int32) (n : Nat) : Nat → Int32 := ep_in_ f 0 n fun j => f (j + 1)
def ep_shz (f : Nat → Int32) (n : Nat) : Nat → Int32 := ep_in_ f 0 n fun j => eh_nz (f (j + 1))
theorem ep_shf0 (f : Nat → Int32) : ep_shf f 0 = f := ep_in_0 _ _ _
theorem ep_shz0 (f : Nat → Int32) : ep_shz f 0 = f := ep_in_0 _ _ _
theorem ep_shf1 (f : Nat → Int32) (i : Nat) : upd (ep_shf f i) i (ep_shf f i (i + 1)) = ep_shf f (i + 1) := by
  unfold ep_shf
  exact ep_in_z _ _ (fun j => f (j + 1)) (ep_in_i _ _ _ (by omega))
theorem ep_shz1 (f : Nat → Int32) (i : Nat) : upd (ep_shz f i) i (eh_nz (ep_shz f i (i + 1))) = ep_shz f (i + 1) := by
  unfold ep_shz
  exact ep_in_z _ _ (fun j => eh_nz (f (j + 1))) (congrArg eh_nz (ep_in_i _ _ _ (by omega)))
def ep_cdf (c : ep_C) (n : Nat) : ep_C := ep_cd4 (ep_cI c 12 7 (nI n)) (ep_shz (c.1 14) n) (ep_shf (c.1 15) n) (ep_shf (c.1 16) n) (ep_shf (c.1 17) n)
def ep_mdf (m : ep_M) (n : Nat) : ep_M := ep_md4 (ep_mI m 127 58 (nI n)) (ep_shf (m.1 176) n) (ep_shf (m.1 177) n) (ep_shf (m.1 178) n) (ep_shf (m.1 179) n)
theorem ep_cdrop1 (c : ep_C) (m0 : ep_M) {n : Nat} (hn : n + 1 ≤ 4) (h7 : c.1 12 7 = nI (n + 1)) : eF_0_dropFirst (ep_mk c m0) = some (ep_mk (ep_cdf c n) m0) := by
  unfold eF_0_dropFirst
  rw [ep_V, ep_rC1 _ _ 12 (by decide), h7, show nI (n + 1) - 1 = nI n from (pk_sub (a := n + 1) (b := 1) (by omega)), ep_iC1 _ _ _ _ _ (by decide)]
  refine ep_lp (fun i => (nI i, ep_mk (ep_cd4 (ep_cI c 12 7 (nI n)) (ep_shz (c.1 14) i) (ep_shf (c.1 15) i) (ep_shf (c.1 16) i) (ep_shf (c.1 17) i)) m0)) n _ (by omega) ?_ ?_ ?_ rfl
  · show _ = (nI 0, ep_mk (ep_cd4 (ep_cI c 12 7 (nI n)) (ep_shz (c.1 14) 0) (ep_shf (c.1 15) 0) (ep_shf (c.1 16) 0) (ep_shf (c.1 17) 0)) m0)
    rw [ep_shz0, ep_shf0, ep_shf0, ep_shf0]
    have := ep_cd4_id (ep_cI c 12 7 (nI n))
    rw [show (ep_cI c 12 7 (nI n)).1 14 = c.1 14 from rfl, show (ep_cI c 12 7 (nI n)).1 15 = c.1 15 from rfl, show (ep_cI c 12 7 (nI n)).1 16 = c.1 16 from rfl, show (ep_cI c 12 7 (nI n)).1 17 = c.1 17 from rfl] at this
    rw [this]; rfl
  · intro i hi rec
    have i4 : eh_in (nI i) 4 = true := ep_in (by omega) (by decide)
    have x4 : eh_ix (nI i) = i := ep_ix (by omega)
    have j4 : eh_in (nI (i + 1)) 4 = true := ep_in (by omega) (by decide)
    have y4 : eh_ix (nI (i + 1)) = i + 1 := ep_ix (by omega)
    have h12 : ∀ A B C D, (ep_mk (ep_cd4 (ep_cI c 12 7 (nI n)) A B C D) m0).1 12 7 = nI n := fun A B C D => rfl
    show (if nI i < (ep_mk (ep_cd4 (ep_cI c 12 7 (nI n)) _ _ _ _) m0).1 12 7 then _ else _) = _
    rw [h12, if_pos (nI_lt hi (by omega)), nI_1, if_pos (show nI (i + 1) < 4 from nI_lt (b := 4) (by omega) (by decide))]
    rw [if_pos j4, if_pos i4, ep_V, ep_rC1 _ _ 14 (by decide), x4, y4, (ep_cd4_r _ _ _ _ _).1, ep_iC1 _ _ _ _ _ (by decide), ep_cd4_14, ep_shz1]
    rw [if_pos j4, if_pos i4, ep_V, ep_rC1 _ _ 15 (by decide), (ep_cd4_r _ _ _ _ _).2.1, ep_iC1 _ _ _ _ _ (by decide), ep_cd4_15, ep_shf1]
    rw [if_pos j4, if_pos i4, ep_V, ep_rC1 _ _ 16 (by decide), (ep_cd4_r _ _ _ _ _).2.2.1, ep_iC1 _ _ _ _ _ (by decide), ep_cd4_16, ep_shf1]
    rw [if_pos j4, if_pos i4, ep_V, ep_rC1 _ _ 17 (by decide), (ep_cd4_r _ _ _ _ _).2.2.2.1, ep_iC1 _ _ _ _ _ (by decide), ep_cd4_17, ep_shf1, ep_V]
  · intro rec
    have h12 : ∀ A B C D, (ep_mk (ep_cd4 (ep_cI c 12 7 (nI n)) A B C D) m0).1 12 7 = nI n := fun A B C D => rfl
    show (if nI n < (ep_mk (ep_cd4 (ep_cI c 12 7 (nI n)) _ _ _ _) m0).1 12 7 then _ else _) = _
    rw [h12, if_neg (nI_nlt (Nat.le_refl _) (by omega))]
    rfl
theorem ep_mdrop1 (m : ep_M) (c0 : ep_C) {n : Nat} (hn : n + 1 ≤ 4) : Option.bind (eh_loop (fun (r18 : (Int32 × eh_F) → Option (eh_F)) (t15 : Int32 × eh_F) => if t15.1 < (t15.2.1 127 58) then (if eh_in (t15.1 + 1) 4 then if eh_in t15.1 4 then eh_V (eh_tI t15.2 176 (eh_ix t15.1) (t15.2.1 176 (eh_ix (t15.1 + 1)))) (fun s20 => if eh_in (t15.1 + 1) 4 then if eh_in t15.1 4 then eh_V (eh_tI s20 177 (eh_ix t15.1) (s20.1 177 (eh_ix (t15.1 + 1)))) (fun s21 => if eh_in (t15.1 + 1) 4 then if eh_in t15.1 4 then eh_V (eh_tI s21 178 (eh_ix t15.1) (s21.1 178 (eh_ix (t15.1 + 1)))) (fun s22 => if eh_in (t15.1 + 1) 4 then if eh_in t15.1 4 then eh_V (eh_tI s22 179 (eh_ix t15.1) (s22.1 179 (eh_ix (t15.1 + 1)))) (fun s23 => eh_V ((t15.1 + 1) : Int32) (fun x24 => r18 (x24, s23))) else none else none) else none else none) else none else none) else none else none) else (some t15.2)) eh_FU (0, ep_mk c0 (ep_mI m 127 58 (nI n)))) (fun (e16 : eh_F) => some e16) = some (ep_mk c0 (ep_mdf m n)) := by
  refine ep_lp (fun i => (nI i, ep_mk c0 (ep_md4 (ep_mI m 127 58 (nI n)) (ep_shf (m.1 176) i) (ep_shf (m.1 177) i) (ep_shf (m.1 178) i) (ep_shf (m.1 179) i)))) n _ (by omega) ?_ ?_ ?_ rfl
  · show _ = (nI 0, ep_mk c0 (ep_md4 (ep_mI m 127 58 (nI n)) (ep_shf (m.1 176) 0) (ep_shf (m.1 177) 0) (ep_shf (m.1 178) 0) (ep_shf (m.1 179) 0)))
    rw [ep_shf0, ep_shf0, ep_shf0, ep_shf0]
    have := ep_md4_id (ep_mI m 127 58 (nI n))
    rw [show (ep_mI m 127 58 (nI n)).1 176 = m.1 176 from rfl, show (ep_mI m 127 58 (nI n)).1 177 = m.1 177 from rfl, show (ep_mI m 127 58 (nI n)).1 178 = m.1 178 from rfl, show (ep_mI m 127 58 (nI n)).1 179 = m.1 179 from rfl] at this
    rw [this]; rfl
  · intro i hi rec
    have i4 : eh_in (nI i) 4 = true := ep_in (by omega) (by decide)
    have x4 : eh_ix (nI i) = i := ep_ix (by omega)
    have j4 : eh_in (nI (i + 1)) 4 = true := ep_in (by omega) (by decide)
    have y4 : eh_ix (nI (i + 1)) = i + 1 := ep_ix (by omega)
    have h12 : ∀ A B C D, (ep_mk c0 (ep_md4 (ep_mI m 127 58 (nI n)) A B C D)).1 127 58 = nI n := fun A B C D => rfl
    show (if nI i < (ep_mk c0 (ep_md4 (ep_mI m 127 58 (nI n)) _ _ _ _)).1 127 58 then _ else _) = _
    rw [h12, if_pos (nI_lt hi (by omega)), nI_1]
    rw [if_pos j4, if_pos i4, ep_V, ep_rM _ _ 176 (by decide), x4, y4, (ep_md4_r _ _ _ _ _).1, ep_iM _ _ _ _ _ (by decide), ep_md4_14, ep_shf1]
    rw [if_pos j4, if_pos i4, ep_V, ep_rM _ _ 177 (by decide), (ep_md4_r _ _ _ _ _).2.1, ep_iM _ _ _ _ _ (by decide), ep_md4_15, ep_shf1]
    rw [if_pos j4, if_pos i4, ep_V, ep_rM _ _ 178 (by decide), (ep_md4_r _ _ _ _ _).2.2.1, ep_iM _ _ _ _ _ (by decide), ep_md4_16, ep_shf1]
    rw [if_pos j4, if_pos i4, ep_V, ep_rM _ _ 179 (by decide), (ep_md4_r _ _ _ _ _).2.2.2.1, ep_iM _ _ _ _ _ (by decide), ep_md4_17, ep_shf1, ep_V]
  · intro rec
    have h12 : ∀ A B C D, (ep_mk c0 (ep_md4 (ep_mI m 127 58 (nI n)) A B C D)).1 127 58 = nI n := fun A B C D => rfl
    show (if nI n < (ep_mk c0 (ep_md4 (ep_mI m 127 58 (nI n)) _ _ _ _)).1 127 58 then _ else _) = _
    rw [h12, if_neg (nI_nlt (Nat.le_refl _) (by omega))]
    rfl
theorem ep_R_df {N : Nat} {c : ep_C} {m : ep_M} (hR : ep_R N c m) {n : Nat} (hn : n + 1 ≤ 4) (h7 : c.1 12 7 = nI (n + 1)) : ep_R N (ep_cdf c n) (ep_mdf m n) := by
  obtain ⟨d0, d1, d2, d3, d4, d5, d6, d7, d8, d9, n', d10, d11⟩ := hR.2.2.2.2.2.2.2.2.2.2.2.2.2.2.2.2.2.2.2.2.2.2.2.2.2.2.2.2.1
  obtain ⟨a1, a2, a3, a4, a5⟩ := hR.2.2.2.2.2.2.2.2.2.2.2.2.2.2.2.2.2.2.2.2.2.2.2.2.2.2.2.2.2.1
  refine ⟨hR.1, hR.2.1, hR.2.2.1, hR.2.2.2.1, hR.2.2.2.2.1, hR.2.2.2.2.2.1, hR.2.2.2.2.2.2.1, hR.2.2.2.2.2.2.2.1, hR.2.2.2.2.2.2.2.2.1, hR.2.2.2.2.2.2.2.2.2.1, hR.2.2.2.2.2.2.2.2.2.2.1, hR.2.2.2.2.2.2.2.2.2.2.2.1, hR.2.2.2.2.2.2.2.2.2.2.2.2.1, hR.2.2.2.2.2.2.2.2.2.2.2.2.2.1, hR.2.2.2.2.2.2.2.2.2.2.2.2.2.2.1, hR.2.2.2.2.2.2.2.2.2.2.2.2.2.2.2.1, hR.2.2.2.2.2.2.2.2.2.2.2.2.2.2.2.2.1, hR.2.2.2.2.2.2.2.2.2.2.2.2.2.2.2.2.2.1, hR.2.2.2.2.2.2.2.2.2.2.2.2.2.2.2.2.2.2.1, hR.2.2.2.2.2.2.2.2.2.2.2.2.2.2.2.2.2.2.2.1, hR.2.2.2.2.2.2.2.2.2.2.2.2.2.2.2.2.2.2.2.2.1, hR.2.2.2.2.2.2.2.2.2.2.2.2.2.2.2.2.2.2.2.2.2.1, hR.2.2.2.2.2.2.2.2.2.2.2.2.2.2.2.2.2.2.2.2.2.2.1, hR.2.2.2.2.2.2.2.2.2.2.2.2.2.2.2.2.2.2.2.2.2.2.2.1, hR.2.2.2.2.2.2.2.2.2.2.2.2.2.2.2.2.2.2.2.2.2.2.2.2.1, hR.2.2.2.2.2.2.2.2.2.2.2.2.2.2.2.2.2.2.2.2.2.2.2.2.2.1, hR.2.2.2.2.2.2.2.2.2.2.2.2.2.2.2.2.2.2.2.2.2.2.2.2.2.2.1, hR.2.2.2.2.2.2.2.2.2.2.2.2.2.2.2.2.2.2.2.2.2.2.2.2.2.2.2.1, ⟨d0, d1, d2, d3, d4, rfl, d6, d7, d8, d9, n, by omega, rfl⟩, ?_, hR.2.2.2.2.2.2.2.2.2.2.2.2.2.2.2.2.2.2.2.2.2.2.2.2.2.2.2.2.2.2.1, hR.2.2.2.2.2.2.2.2.2.2.2.2.2.2.2.2.2.2.2.2.2.2.2.2.2.2.2.2.2.2.2.1, hR.2.2.2.2.2.2.2.2.2.2.2.2.2.2.2.2.2.2.2.2.2.2.2.2.2.2.2.2.2.2.2.2.1, hR.2.2.2.2.2.2.2.2.2.2.2.2.2.2.2.2.2.2.2.2.2.2.2.2.2.2.2.2.2.2.2.2.2⟩
  refine ⟨?_, ?_, ?_, ?_, ?_⟩
  · show ep_shz (c.1 14) n = ep_shf (m.1 176) n
    rw [a1]
    funext j
    unfold ep_shz ep_shf ep_in_
    by_cases z : 0 ≤ j ∧ j < 0 + n
    · rw [if_pos z, if_pos z]
      show eh_nz (m.1 176 (j - 0 + 1)) = m.1 176 (j - 0 + 1)
      rcases (a5 (n + 1) (j - 0 + 1) h7 hn (by omega)).1 with y | y
      · rw [y]; rfl
      · rw [y]; rfl
    · rw [if_neg z, if_neg z]
  · show ep_shf (c.1 15) n = ep_shf (m.1 177) n
    rw [a2]
  · show ep_shf (c.1 16) n = ep_shf (m.1 178) n
    rw [a3]
  · show ep_shf (c.1 17) n = ep_shf (m.1 179) n
    rw [a4]
  · intro n2 i hn2 hn4 hi
    have e1 : n2 = n := by
      have : nI n = nI n2 := hn2
      exact ((nI_eq (by omega) (by omega)).mp this).symm
    subst e1
    show ep_bo (ep_shf (m.1 176) n2 i) ∧ (∃ x, x < 32 ∧ ep_shf (m.1 177) n2 i = nI x) ∧ ∃ x, x ≤ 32704 ∧ ep_shf (m.1 178) n2 i = nI (4 * x)
    unfold ep_shf
    rw [ep_in_y hi, ep_in_y hi, ep_in_y hi]
    exact a5 (n2 + 1) (i + 1) h7 hn (by omega)
/-! the copy -/
theorem ep_Gm_cp {w b w2 b2 : Nat → Int32} (h : ep_Gm w b) (h2 : ep_Gm w2 b2) (p q : Nat) {v : Int32 → Int32} (hv : ∀ x, v x &&& 255 = x &&& 255) : ep_Gm (ep_in_ w p 64 fun j => w2 (q + j)) (ep_in_ b (4 * p) 256 fun k => v (b2 (4 * q + k))) := by
  unfold ep_Gm at h h2 ⊢
  subst h h2
  funext j
  unfold ep_in_
  dsimp only
  by_cases z : p ≤ j ∧ j < p + 64
  · rw [if_pos z]
    unfold ep_lw
    dsimp only
    rw [if_pos (by omega), if_pos (by omega), if_pos (by omega), if_pos (by omega), hv, hv, hv, hv]
    rw [show 4 * q + (4 * j - 4 * p) = 4 * (q + (j - p)) by omega, show 4 * q + (4 * j + 1 - 4 * p) = 4 * (q + (j - p)) + 1 by omega, show 4 * q + (4 * j + 2 - 4 * p) = 4 * (q + (j - p)) + 2 by omega, show 4 * q + (4 * j + 3 - 4 * p) = 4 * (q + (j - p)) + 3 by omega]
  · rw [if_neg z]
    unfold ep_lw
    dsimp only
    rw [if_neg (by omega), if_neg (by omega), if_neg (by omega), if_neg (by omega)]
theorem ep_Gres_cp {cr mr : Nat → Int32} (h : ep_Gres cr mr) {x : Nat} (hx : x ≤ 32704) : ep_Gres (ep_clrW cr x 64) (ep_clrs mr (4 * x) 256) := by
  refine ep_Gres_c h (ep_Clr_W _ _ _) (ep_Clr_s _ _ _) ?_
  intro j hj
  rw [ep_touch (by omega) hj]
  constructor
  · intro ⟨k, z1, z2⟩
    rw [nI_eq (by omega) (by omega)] at z2
    exact ⟨4 * k, by omega, by omega⟩
  · intro ⟨k, z1, z2⟩
    exact ⟨j - x, by omega, by congr 1; omega⟩
def ep_cin (c : ep_C) (x y : Nat) : ep_C := ep_c2 c (ep_in_ (c.1 9) x 64 fun j => c.1 13 (64 * y + j)) (ep_clrW (c.1 11) x 64)
def ep_cout (c : ep_C) (x y : Nat) : ep_C := ep_cL c 13 (ep_in_ (c.1 13) (64 * y) 64 fun j => c.1 9 (x + j))
def ep_min_ (m : ep_M) (x y : Nat) : ep_M := ep_m2 m (ep_in_ (m.1 128) (4 * x) 256 fun k => eh_nb (eh_nb (m.1 175 (256 * y + k)))) (ep_clrs (m.1 147) (4 * x) 256)
def ep_mout (m : ep_M) (x y : Nat) : ep_M := ep_mL m 175 (ep_in_ (m.1 175) (256 * y) 256 fun k => eh_nb (m.1 128 (4 * x + k)))
abbrev ep_KB (x1 x2 : Int32) : ((Int32 × eh_F) → Option (eh_F)) → (Int32 × eh_F) → Option (eh_F) := fun (r10 : (Int32 × eh_F) → Option (eh_F)) (t7 : Int32 × eh_F) => if t7.1 < 64 then (if (x2 + t7.1) < (Int32.ofNat 2048) then (eh_J (fun (s14 : eh_F) => eh_V ((t7.1 + 1) : Int32) (fun x15 => r10 (x15, s14))) (fun j13 => if (t7.2.1 14 0) = 0 then (if eh_in (x2 + t7.1) 2048 then Option.bind (eF_6_store t7.2 (x1 + (4 * t7.1)) (t7.2.1 13 (eh_ix (x2 + t7.1))) 4) (fun q17 => j13 q17) else none) else (Option.bind (eF_6_wordAt t7.2 (x1 + (4 * t7.1))) (fun q18 => if eh_in (x2 + t7.1) 2048 then eh_V (eh_tI t7.2 13 (eh_ix (x2 + t7.1)) q18) (fun s19 => j13 s19) else none)))) else (some t7.2)) else (some t7.2)
theorem ep_KB0 (c : ep_C) (m0 : ep_M) {x y : Nat} (hx : x ≤ 32704) (hy : y < 32) (h0 : c.1 14 0 = 0) : eh_loop (ep_KB (nI (4 * x)) (nI (64 * y))) eh_FU (0, ep_mk c m0) = some (ep_mk (ep_cin c x y) m0) := by
  refine ep_loop (fun i => (nI i, ep_mk (ep_c2 c (ep_in_ (c.1 9) x i fun j => c.1 13 (64 * y + j)) (ep_clrW (c.1 11) x i)) m0)) 64 _ (ep_FU _ (by decide)) ?_ ?_ ?_
  · intro i hi rec
    have i4 : eh_in (nI (64 * y + i)) 2048 = true := ep_in (by omega) (by decide)
    have x4 : eh_ix (nI (64 * y + i)) = 64 * y + i := ep_ix (by omega)
    unfold ep_KB
    show (if nI i < 64 then _ else _) = _
    rw [if_pos (show nI i < 64 from nI_lt (b := 64) hi (by decide)), nI_add, if_pos (show nI (64 * y + i) < Int32.ofNat 2048 from nI_lt (b := 2048) (by omega) (by decide)), ep_J, ep_rC1 _ _ 14 (by decide), ep_c2_n _ _ _ _ (by decide) (by decide), if_pos h0, if_pos i4, x4, ep_rC1 _ _ 13 (by decide), ep_c2_n _ _ _ _ (by decide) (by decide), ep_mul (a := i) (b := 4) (y := 4) rfl rfl, nI_add]
    rw [show eF_6_store (ep_mk (ep_c2 c (ep_in_ (c.1 9) x i fun j => c.1 13 (64 * y + j)) (ep_clrW (c.1 11) x i)) m0) (nI (4 * x + 4 * i)) (c.1 13 (64 * y + i)) 4 = _ from ep_cstore c _ _ (q := 4 * x + 4 * i) (n := 4) (by omega) (Or.inr (Or.inr rfl)) _ m0, ep_sb]
    dsimp only
    rw [ep_V, nI_1, ep_nw4 _ (by omega), show (4 * x + 4 * i) / 4 = x + i by omega, ep_in_s (g := fun j => c.1 13 (64 * y + j))]
    rfl
  · intro rec
    unfold ep_KB
    show (if nI 64 < 64 then _ else _) = _
    rw [if_neg (by decide)]
    rfl
  · show _ = (nI 0, ep_mk (ep_c2 c (ep_in_ (c.1 9) x 0 _) (c.1 11)) m0)
    rw [ep_in_0, ep_c2_id]; rfl
theorem ep_KB1 (c : ep_C) (m0 : ep_M) {x y : Nat} (hx : x ≤ 32704) (hy : y < 32) (h0 : c.1 14 0 = 1) : eh_loop (ep_KB (nI (4 * x)) (nI (64 * y))) eh_FU (0, ep_mk c m0) = some (ep_mk (ep_cout c x y) m0) := by
  refine ep_loop (fun i => (nI i, ep_mk (ep_cL c 13 (ep_in_ (c.1 13) (64 * y) i fun j => c.1 9 (x + j))) m0)) 64 _ (ep_FU _ (by decide)) ?_ ?_ ?_
  · intro i hi rec
    have i4 : eh_in (nI (64 * y + i)) 2048 = true := ep_in (by omega) (by decide)
    have x4 : eh_ix (nI (64 * y + i)) = 64 * y + i := ep_ix (by omega)
    unfold ep_KB
    show (if nI i < 64 then _ else _) = _
    rw [if_pos (show nI i < 64 from nI_lt (b := 64) hi (by decide)), nI_add, if_pos (show nI (64 * y + i) < Int32.ofNat 2048 from nI_lt (b := 2048) (by omega) (by decide)), ep_J, ep_rC1 _ _ 14 (by decide), ep_cLn _ _ _ _ (by decide), if_neg (by rw [h0]; decide), ep_mul (a := i) (b := 4) (y := 4) rfl rfl, nI_add, ep_cwordAt _ (by omega), ep_sb, if_pos i4, x4]
    dsimp only
    rw [ep_V, ep_V, nI_1, ep_iC1 _ _ _ _ _ (by decide), ep_cLI, ep_cLn _ _ _ _ (by decide), show (4 * x + 4 * i) / 4 = x + i by omega, ep_in_s (g := fun j => c.1 9 (x + j))]
  · intro rec
    unfold ep_KB
    show (if nI 64 < 64 then _ else _) = _
    rw [if_neg (by decide)]
    rfl
  · show _ = (nI 0, ep_mk (ep_cL c 13 (ep_in_ (c.1 13) (64 * y) 0 _)) m0)
    rw [ep_in_0, ep_cLid]; rfl
abbrev ep_KM (q7 : Int32) : ((Int32 × eh_F) → Option (eh_F)) → (Int32 × eh_F) → Option (eh_F) := fun (r27 : (Int32 × eh_F) → Option (eh_F)) (t8 : Int32 × eh_F) => if t8.1 < 256 then (if q7 = 0 then (some t8.2) else (eh_J (fun (s31 : eh_F) => eh_V ((t8.1 + 1) : Int32) (fun x32 => r27 (x32, s31))) (fun j30 => if (t8.2.1 176 0) = 0 then (if eh_in ((256 * (t8.2.1 177 0)) + t8.1) 8192 then Option.bind (eF_12_setByte t8.2 ((t8.2.1 178 0) + t8.1) (t8.2.1 175 (eh_ix ((256 * (t8.2.1 177 0)) + t8.1)))) (fun q34 => j30 q34) else none) else (if eh_in ((t8.2.1 178 0) + t8.1) 131072 then if eh_in ((256 * (t8.2.1 177 0)) + t8.1) 8192 then eh_V (eh_tI t8.2 175 (eh_ix ((256 * (t8.2.1 177 0)) + t8.1)) (eh_nb (t8.2.1 128 (eh_ix ((t8.2.1 178 0) + t8.1))))) (fun s35 => j30 s35) else none else none)))) else (some t8.2)
theorem ep_KM0 (m : ep_M) (c0 : ep_C) {x y : Nat} (hx : x ≤ 32704) (hy : y < 32) (h0 : m.1 176 0 = 0) (h1 : m.1 177 0 = nI y) (h2 : m.1 178 0 = nI (4 * x)) {q : Int32} (hq : q ≠ 0) : eh_loop (ep_KM q) eh_FU (0, ep_mk c0 m) = some (ep_mk c0 (ep_min_ m x y)) := by
  refine ep_loop (fun i => (nI i, ep_mk c0 (ep_m2 m (ep_in_ (m.1 128) (4 * x) i fun k => eh_nb (eh_nb (m.1 175 (256 * y + k)))) (ep_clrs (m.1 147) (4 * x) i)))) 256 _ (ep_FU _ (by decide)) ?_ ?_ ?_
  · intro i hi rec
    have i4 : eh_in (nI (256 * y + i)) 8192 = true := ep_in (by omega) (by decide)
    have x4 : eh_ix (nI (256 * y + i)) = 256 * y + i := ep_ix (by omega)
    unfold ep_KM
    show (if nI i < 256 then _ else _) = _
    rw [if_pos (show nI i < 256 from nI_lt (b := 256) hi (by decide)), if_neg hq, ep_J, ep_rM _ _ 176 (by decide), ep_m2_n _ _ _ _ (by decide) (by decide), if_pos h0, ep_rM _ _ 177 (by decide), ep_m2_n _ _ _ _ (by decide) (by decide), h1, ep_rM _ _ 178 (by decide), ep_m2_n _ _ _ _ (by decide) (by decide), h2, ep_mul (a := y) (b := 256) (y := 256) rfl rfl, nI_add, nI_add, if_pos i4, x4, ep_rM _ _ 175 (by decide), ep_m2_n _ _ _ _ (by decide) (by decide), ep_msetByte _ _ _ (show 4 * x + i < 131072 by omega), ep_sb]
    dsimp only
    rw [ep_V, nI_1, ep_in_s (g := fun k => eh_nb (eh_nb (m.1 175 (256 * y + k))))]
    rfl
  · intro rec
    unfold ep_KM
    show (if nI 256 < 256 then _ else _) = _
    rw [if_neg (by decide)]
    rfl
  · show _ = (nI 0, ep_mk c0 (ep_m2 m (ep_in_ (m.1 128) (4 * x) 0 _) (m.1 147)))
    rw [ep_in_0, ep_m2_id]; rfl
theorem ep_KM1 (m : ep_M) (c0 : ep_C) {x y : Nat} (hx : x ≤ 32704) (hy : y < 32) (h0 : m.1 176 0 = 1) (h1 : m.1 177 0 = nI y) (h2 : m.1 178 0 = nI (4 * x)) {q : Int32} (hq : q ≠ 0) : eh_loop (ep_KM q) eh_FU (0, ep_mk c0 m) = some (ep_mk c0 (ep_mout m x y)) := by
  refine ep_loop (fun i => (nI i, ep_mk c0 (ep_mL m 175 (ep_in_ (m.1 175) (256 * y) i fun k => eh_nb (m.1 128 (4 * x + k)))))) 256 _ (ep_FU _ (by decide)) ?_ ?_ ?_
  · intro i hi rec
    have i4 : eh_in (nI (256 * y + i)) 8192 = true := ep_in (by omega) (by decide)
    have x4 : eh_ix (nI (256 * y + i)) = 256 * y + i := ep_ix (by omega)
    have j4 : eh_in (nI (4 * x + i)) 131072 = true := ep_in (by omega) (by decide)
    have y4 : eh_ix (nI (4 * x + i)) = 4 * x + i := ep_ix (by omega)
    unfold ep_KM
    show (if nI i < 256 then _ else _) = _
    rw [if_pos (show nI i < 256 from nI_lt (b := 256) hi (by decide)), if_neg hq, ep_J, ep_rM _ _ 176 (by decide), ep_mLn _ _ _ _ (by decide), if_neg (by rw [h0]; decide), ep_rM _ _ 178 (by decide), ep_mLn _ _ _ _ (by decide), h2, nI_add, if_pos j4, y4, ep_rM _ _ 177 (by decide), ep_mLn _ _ _ _ (by decide), h1, ep_mul (a := y) (b := 256) (y := 256) rfl rfl, nI_add, if_pos i4, x4, ep_rM _ _ 128 (by decide), ep_mLn _ _ _ _ (by decide)]
    dsimp only
    rw [ep_V, ep_V, nI_1, ep_iM _ _ _ _ _ (by decide), ep_mLI, ep_in_s (g := fun k => eh_nb (m.1 128 (4 * x + k)))]
  · intro rec
    unfold ep_KM
    show (if nI 256 < 256 then _ else _) = _
    rw [if_neg (by decide)]
    rfl
  · show _ = (nI 0, ep_mk c0 (ep_mL m 175 (ep_in_ (m.1 175) (256 * y) 0 _)))
    rw [ep_in_0, ep_mLid]; rfl
theorem ep_KMz (s : eh_F) : eh_loop (ep_KM 0) eh_FU (0, s) = some s := by
  rw [show eh_FU = (eh_FU - 1) + 1 from rfl, ep_loopS]
  unfold ep_KM
  show (if (0 : Int32) < 256 then _ else _) = _
  rw [if_pos (by decide), if_pos rfl]
