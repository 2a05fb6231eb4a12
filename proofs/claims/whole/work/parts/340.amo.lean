/-! instructions that reckon in memory -/
theorem ep_cput {c : ep_C} {m : ep_M} {h xi xj w : Nat} (hX : ep_X c m h xi xj w) (x v : Int32) (m0 : ep_M) : eF_7_put (ep_mk c m0) x v = some (ep_mk (if ep_fd x = 0 then c else ep_cH c xi xj (ep_fd x) v) m0) := by
  have hd := ep_fd_l x
  obtain ⟨hw, h1, h2, h3, h4, h5, -⟩ := hX
  unfold eF_7_put
  by_cases hz : ep_fd x = 0
  · rw [ep_V, ep_fd_c, ep_J, hz, if_pos (show nI 0 = 0 from rfl), if_pos rfl]
  · rw [ep_V, ep_fd_c, ep_J, if_neg (nI_ne0 (by omega) (by omega)), ep_rQ, if_pos h1, if_pos (ep_in hd (by decide)), show eh_ix (nI (ep_fd x)) = ep_fd x from ep_ix (by omega), ep_V, h3, if_neg hz]
theorem ep_mset {c : ep_C} {m : ep_M} {h xi xj w : Nat} (hX : ep_X c m h xi xj w) (x v : Int32) (c0 : ep_C) : eF_12_set (ep_mk c0 m) (nI h) (nI (ep_fd x)) v = some (ep_mk c0 (if ep_fd x = 0 then m else ep_mI m 129 (32 * w + ep_fd x) v)) := by
  have hd := ep_fd_l x
  obtain ⟨hw, h1, h2, h3, h4, h5, -⟩ := hX
  unfold eF_12_set
  by_cases hz : ep_fd x = 0
  · rw [ep_J, hz, if_neg (show ¬ (0 : Int32) < nI 0 by decide), if_pos rfl]
  · rw [ep_J, if_pos (show (0 : Int32) < nI (ep_fd x) from (nI_ltI (a := 0) (by decide) (by omega)).mpr (by omega)), h5, ep_sb, show (32 : Int32) * nI w = nI (32 * w) from ep_mul (b := 32) rfl rfl, nI_add, if_pos (ep_in (by omega) (by decide)), show eh_ix (nI (32 * w + ep_fd x)) = 32 * w + ep_fd x from ep_ix (by omega), ep_V, ep_iM _ _ _ _ _ (by decide), if_neg hz]
theorem ep_Yput {N : Nat} {c : ep_C} {m : ep_M} (hR : ep_R N c m) {h xi xj w : Nat} (hX : ep_X c m h xi xj w) (x v : Int32) : ep_Y N c m (if ep_fd x = 0 then c else ep_cH c xi xj (ep_fd x) v) (if ep_fd x = 0 then m else ep_mI m 129 (32 * w + ep_fd x) v) := by
  by_cases hz : ep_fd x = 0
  · rw [if_pos hz, if_pos hz]; exact ep_Y_rf hR
  · rw [if_neg hz, if_neg hz]; exact ep_Y_set hR hX (by omega) (ep_fd_l x) v
theorem ep_ldv4 (b : Nat → Int32) (q : Nat) : ep_ldv b q 4 = ep_lw b q := by
  apply ep_ext; intro i hi
  rw [ep_bit_ldv _ _ 4 (by decide) _ hi, ep_bit_lw _ _ _ hi]; simp [hi]
def ep_jn (k : Nat) (a b : Int32) : Int32 := if k = 0 then a + b else if k = 4 then a ^^^ b else if k = 8 then a ||| b else if k = 12 then a &&& b else if k = 16 then (if a < b then a else b) else if k = 20 then (if a < b then b else a) else if k = 24 then (if ep_bl a b = true then a else b) else if k = 28 then (if ep_bl a b = true then b else a) else b
def ep_kn (k : Nat) : Prop := k = 0 ∨ k = 1 ∨ k = 4 ∨ k = 8 ∨ k = 12 ∨ k = 16 ∨ k = 20 ∨ k = 24 ∨ k = 28
theorem ep_ccomb (s : eh_F) {k : Nat} (hk : ep_kn k) (a b : Int32) : eF_7_combined s (nI k) a b = some (ep_jn k a b) := by
  unfold eF_7_combined ep_jn
  rw [ep_cbelow, ep_sb, ep_J]
  rcases hk with rfl | rfl | rfl | rfl | rfl | rfl | rfl | rfl | rfl
  · simp (decide := true) (disch := first | assumption | decide) only [↓reduceIte]
  · simp (decide := true) (disch := first | assumption | decide) only [↓reduceIte]
  · simp (decide := true) (disch := first | assumption | decide) only [↓reduceIte]
  · simp (decide := true) (disch := first | assumption | decide) only [↓reduceIte]
  · simp (decide := true) (disch := first | assumption | decide) only [↓reduceIte]
  · simp (decide := true) (disch := first | assumption | decide) only [↓reduceIte, ↓ep_J]
    by_cases z : a < b <;> simp [z]
  · simp (decide := true) (disch := first | assumption | decide) only [↓reduceIte, ↓ep_J]
    by_cases z : a < b <;> simp [z]
  · simp (decide := true) (disch := first | assumption | decide) only [↓reduceIte, ↓ep_J]
    cases z : ep_bl a b <;> rfl
  · simp (decide := true) (disch := first | assumption | decide) only [↓reduceIte, ↓ep_J]
    cases z : ep_bl a b <;> rfl
theorem ep_mjoin (s : eh_F) {k : Nat} (hk : ep_kn k) (a b : Int32) : eF_12_joined s (nI k) a b = some (ep_jn k a b) := by
  unfold eF_12_joined ep_jn
  rw [ep_mcmpU, ep_J]
  rcases hk with rfl | rfl | rfl | rfl | rfl | rfl | rfl | rfl | rfl
  · simp (decide := true) (disch := first | assumption | decide) only [↓reduceIte]
  · simp (decide := true) (disch := first | assumption | decide) only [↓reduceIte]
  · simp (decide := true) (disch := first | assumption | decide) only [↓reduceIte]
  · simp (decide := true) (disch := first | assumption | decide) only [↓reduceIte]
  · simp (decide := true) (disch := first | assumption | decide) only [↓reduceIte]
  · simp (decide := true) (disch := first | assumption | decide) only [↓reduceIte]
    congr 1
    by_cases z : a < b
    · have : ¬ b < a := by rw [Int32.lt_iff_toInt_lt] at z ⊢; omega
      rw [if_pos z, if_neg this]
    · by_cases z2 : b < a
      · rw [if_neg z, if_pos z2]
      · rw [if_neg z, if_neg z2]
        apply Int32.toInt_inj.mp
        rw [Int32.lt_iff_toInt_lt] at z z2
        omega
  · simp (decide := true) (disch := first | assumption | decide) only [↓reduceIte]
  · simp (decide := true) (disch := first | assumption | decide) only [↓reduceIte, ↓ep_sb, ↓ep_J]
    cases z : ep_bl a b with
    | true => rfl
    | false => by_cases z2 : a = b <;> simp [z2] <;> decide
  · simp (decide := true) (disch := first | assumption | decide) only [↓reduceIte, ↓ep_sb, ↓ep_J]
    cases z : ep_bl a b with
    | true => rfl
    | false =>
      by_cases z2 : a = b
      · simp [z2]
      · simp [z2]
theorem ep_kind (x : Int32) : eh_ushr x 27 = nI (ep_u x / 134217728) := ep_ushrU x (k := 27) (by decide)
theorem ep_how (x : Int32) : eh_shr (nI (ep_fg x)) 2 = nI (ep_u x / 134217728) := by
  rw [show (2 : Int32) = nI 2 from rfl, ep_shrn (by have := ep_fg_l x; omega) (by decide)]
  congr 1
  unfold ep_fg
  omega
theorem ep_R_res {N : Nat} {c : ep_C} {m : ep_M} (hR : ep_R N c m) {h : Nat} {a b : Int32} (hab : (a = -1 ∧ b = -1) ∨ ∃ j, j < 32768 ∧ a = nI j ∧ b = nI (4 * j)) : ep_R N (ep_cI c 11 h a) (ep_mI m 147 h b) := by
  refine ⟨hR.1, hR.2.1, hR.2.2.1, hR.2.2.2.1, ?_, hR.2.2.2.2.2.1, hR.2.2.2.2.2.2.1, hR.2.2.2.2.2.2.2.1, hR.2.2.2.2.2.2.2.2.1, hR.2.2.2.2.2.2.2.2.2.1, hR.2.2.2.2.2.2.2.2.2.2.1, hR.2.2.2.2.2.2.2.2.2.2.2.1, hR.2.2.2.2.2.2.2.2.2.2.2.2.1, hR.2.2.2.2.2.2.2.2.2.2.2.2.2.1, hR.2.2.2.2.2.2.2.2.2.2.2.2.2.2.1, hR.2.2.2.2.2.2.2.2.2.2.2.2.2.2.2.1, hR.2.2.2.2.2.2.2.2.2.2.2.2.2.2.2.2.1, hR.2.2.2.2.2.2.2.2.2.2.2.2.2.2.2.2.2.1, hR.2.2.2.2.2.2.2.2.2.2.2.2.2.2.2.2.2.2.1, hR.2.2.2.2.2.2.2.2.2.2.2.2.2.2.2.2.2.2.2.1, hR.2.2.2.2.2.2.2.2.2.2.2.2.2.2.2.2.2.2.2.2.1, hR.2.2.2.2.2.2.2.2.2.2.2.2.2.2.2.2.2.2.2.2.2.1, hR.2.2.2.2.2.2.2.2.2.2.2.2.2.2.2.2.2.2.2.2.2.2.1, hR.2.2.2.2.2.2.2.2.2.2.2.2.2.2.2.2.2.2.2.2.2.2.2.1, hR.2.2.2.2.2.2.2.2.2.2.2.2.2.2.2.2.2.2.2.2.2.2.2.2.1, hR.2.2.2.2.2.2.2.2.2.2.2.2.2.2.2.2.2.2.2.2.2.2.2.2.2.1, hR.2.2.2.2.2.2.2.2.2.2.2.2.2.2.2.2.2.2.2.2.2.2.2.2.2.2.1, hR.2.2.2.2.2.2.2.2.2.2.2.2.2.2.2.2.2.2.2.2.2.2.2.2.2.2.2.1, hR.2.2.2.2.2.2.2.2.2.2.2.2.2.2.2.2.2.2.2.2.2.2.2.2.2.2.2.2.1, hR.2.2.2.2.2.2.2.2.2.2.2.2.2.2.2.2.2.2.2.2.2.2.2.2.2.2.2.2.2.1, hR.2.2.2.2.2.2.2.2.2.2.2.2.2.2.2.2.2.2.2.2.2.2.2.2.2.2.2.2.2.2.1, hR.2.2.2.2.2.2.2.2.2.2.2.2.2.2.2.2.2.2.2.2.2.2.2.2.2.2.2.2.2.2.2.1, hR.2.2.2.2.2.2.2.2.2.2.2.2.2.2.2.2.2.2.2.2.2.2.2.2.2.2.2.2.2.2.2.2.1, hR.2.2.2.2.2.2.2.2.2.2.2.2.2.2.2.2.2.2.2.2.2.2.2.2.2.2.2.2.2.2.2.2.2⟩
  intro k hk
  show (upd (c.1 11) h a k = -1 ∧ upd (m.1 147) h b k = -1) ∨ ∃ j, j < 32768 ∧ upd (c.1 11) h a k = nI j ∧ upd (m.1 147) h b k = nI (4 * j)
  by_cases e : k = h
  · subst e; rw [ep_upd_eq, ep_upd_eq]; exact hab
  · rw [ep_upd_ne e, ep_upd_ne e]; exact hR.2.2.2.2.1 k hk
theorem ep_hnum {N : Nat} {c : ep_C} {m : ep_M} (hR : ep_R N c m) {h : Nat} (hP : ep_Pr c m h) (m0 : ep_M) : eh_okH ((ep_mk c m0).2.2 4) = true ∧ (ep_mk c m0).1 ((ep_mk c m0).2.2 4) 0 = nI h := by
  rw [ep_rQ, hP.2.1]
  exact ⟨ep_okH hP.1, by rw [ep_rH0 _ _ hP.1]; exact (hR.2.2.2.2.2.2.2.1 h hP.1).1⟩
theorem ep_cunres (c : ep_C) {h : Nat} (hh : h < 2) (m0 : ep_M) : eF_6_unreserve (ep_mk c m0) (nI h) = some (ep_mk (ep_cI c 11 h (-1)) m0) := by
  unfold eF_6_unreserve
  rw [if_pos (ep_in hh (by decide)), show eh_ix (nI h) = h from ep_ix (by omega), ep_V, ep_iC1 _ _ _ _ _ (by decide)]
theorem ep_cres (c : ep_C) {h q : Nat} (hh : h < 2) (hq : q < 131072) (m0 : ep_M) : eF_6_reserve (ep_mk c m0) (nI h) (nI q) = some (ep_mk (ep_cI c 11 h (nI (q / 4))) m0) := by
  have q4 : eh_shr (nI q) 2 = nI (q / 4) := by rw [show (2 : Int32) = nI 2 from rfl, ep_shrn (by omega) (by decide)]
  unfold eF_6_reserve
  rw [if_pos (ep_in hh (by decide)), show eh_ix (nI h) = h from ep_ix (by omega), ep_V, ep_iC1 _ _ _ _ _ (by decide), q4]
theorem ep_cisres (c : ep_C) {h q : Nat} (hh : h < 2) (hq : q < 131072) (m0 : ep_M) : eF_6_isReserved (ep_mk c m0) (nI h) (nI q) = some (ep_bi (decide (c.1 11 h = nI (q / 4)))) := by
  have q4 : eh_shr (nI q) 2 = nI (q / 4) := by rw [show (2 : Int32) = nI 2 from rfl, ep_shrn (by omega) (by decide)]
  unfold eF_6_isReserved
  rw [if_pos (ep_in hh (by decide)), show eh_ix (nI h) = h from ep_ix (by omega), ep_J, ep_rC1 _ _ _ (by decide), q4]
  by_cases z : c.1 11 h = nI (q / 4) <;> simp [z, ep_bi]
theorem ep_amo {N : Nat} {c : ep_C} {m : ep_M} (hR : ep_R N c m) (hN : N < 2 ^ 28) {h : Nat} {pc : Int32} (hQ : ep_Q c m h pc) {xi xj w : Nat} (hX : ep_X c m h xi xj w) (x : Int32) : ∃ c' m', (∀ m0, eF_7_reckonInMemory (ep_mk c m0) x = some (ep_mk c' m0)) ∧ (∀ c0, eF_12_atomic (ep_mk c0 m) (nI h) x (nI (ep_fd x)) (nI (ep_ff x)) (nI (ep_fb x)) (nI (ep_u x / 134217728)) (m.1 129 (32 * w + ep_fa x)) (m.1 129 (32 * w + ep_fb x)) = some (ep_mk c0 m')) ∧ ep_D (N + 1) c' m' h (m.1 144 h) := by
  have hf := ep_ff_l x
  have hfb := ep_fb_l x
  have hr2 := ep_right hX x
  have hl2 := ep_left hX x
  have hh := hQ.1.1
  have j1 : eh_in (nI h) 2 = true := ep_in hh (by decide)
  have j2 : eh_ix (nI h) = h := ep_ix (by omega)
  generalize hl : m.1 129 (32 * w + ep_fa x) = l at hl2
  generalize hr : m.1 129 (32 * w + ep_fb x) = r at hr2
  have hk32 : ep_u x / 134217728 < 32 := by have := ep_u_lt x; omega
  have hkind := ep_kind x
  generalize ep_u x / 134217728 = k at hk32 hkind ⊢
  have e2 : (nI (ep_ff x) = 2) ↔ ep_ff x = 2 := nI_eq (b := 2) (by omega) (by decide)
  have k2 : (nI k = 2) ↔ k = 2 := nI_eq (b := 2) (by omega) (by decide)
  have k3 : (nI k = 3) ↔ k = 3 := nI_eq (b := 3) (by omega) (by decide)
  have b0 : (nI (ep_fb x) = 0) ↔ ep_fb x = 0 := nI_eq (b := 0) (by omega) (by decide)
  have kc : ∀ {α : Type} (A B : α), (if nI k < 5 then A else (if (nI k &&& 3) = 0 then A else B)) = if (k < 5 ∨ k % 4 = 0) then A else B := by
    intro α A B
    have z1 : (nI k < 5) ↔ k < 5 := nI_ltI (b := 5) (by omega) (by decide)
    have z2 : (nI k &&& 3 = 0) ↔ k % 4 = 0 := by rw [ep_and3 (by omega)]; exact nI_eq (b := 0) (by omega) (by decide)
    by_cases y1 : k < 5
    · rw [if_pos (z1.mpr y1), if_pos (Or.inl y1)]
    · rw [if_neg (fun y => y1 (z1.mp y))]
      by_cases y2 : k % 4 = 0
      · rw [if_pos (z2.mpr y2), if_pos (Or.inr y2)]
      · rw [if_neg (fun y => y2 (z2.mp y)), if_neg (fun y => y.elim y1 y2)]
  have km : ∀ {α : Type} (A B : α), (if nI k < 5 then A else (if nI k = 8 then A else (if nI k = 12 then A else (if nI k = 16 then A else (if nI k = 20 then A else (if nI k = 24 then A else (if nI k = 28 then A else B))))))) = if (k < 5 ∨ k % 4 = 0) then A else B := by
    intro α A B
    have z1 : (nI k < 5) ↔ k < 5 := nI_ltI (b := 5) (by omega) (by decide)
    have z8 : (nI k = 8) ↔ k = 8 := nI_eq (b := 8) (by omega) (by decide)
    have z12 : (nI k = 12) ↔ k = 12 := nI_eq (b := 12) (by omega) (by decide)
    have z16 : (nI k = 16) ↔ k = 16 := nI_eq (b := 16) (by omega) (by decide)
    have z20 : (nI k = 20) ↔ k = 20 := nI_eq (b := 20) (by omega) (by decide)
    have z24 : (nI k = 24) ↔ k = 24 := nI_eq (b := 24) (by omega) (by decide)
    have z28 : (nI k = 28) ↔ k = 28 := nI_eq (b := 28) (by omega) (by decide)
    simp only [z1, z8, z12, z16, z20, z24, z28]
    by_cases y : k < 5 ∨ k % 4 = 0
    · rw [if_pos y]
      have : k < 5 ∨ k = 8 ∨ k = 12 ∨ k = 16 ∨ k = 20 ∨ k = 24 ∨ k = 28 := by omega
      rcases this with y | y | y | y | y | y | y <;> simp [y]
    · rw [if_neg y, if_neg (by omega), if_neg (by omega), if_neg (by omega), if_neg (by omega), if_neg (by omega), if_neg (by omega), if_neg (by omega)]
  by_cases hbad : ¬ ep_ff x = 2 ∨ ¬ (k < 5 ∨ k % 4 = 0) ∨ (k = 2 ∧ ¬ ep_fb x = 0)
  · obtain ⟨i1, i2, i3⟩ := ep_ill hR hQ x
    refine ⟨_, _, fun m0 => ?_, fun c0 => ?_, ep_D_mono i3 (by omega)⟩
    · unfold eF_7_reckonInMemory
      rw [ep_V, hkind, ep_ff_c, ep_fb_c]
      simp only [↓ep_J, k2, e2, b0]
      simp only [kc]
      by_cases y1 : ep_ff x = 2
      · by_cases y2 : k < 5 ∨ k % 4 = 0
        · have y3 := (hbad.resolve_left (fun z => z y1)).resolve_left (fun z => z y2)
          simp (decide := true) (disch := first | assumption | decide) only [↓reduceIte, y1, y2, y3.1, y3.2]
          exact ep_bnd (i1 m0) rfl
        · by_cases y4 : k = 2
          · exact absurd (Or.inl (by omega)) y2
          · simp (decide := true) (disch := first | assumption | decide) only [↓reduceIte, y1, y2, y4]
            exact ep_bnd (i1 m0) rfl
      · by_cases y4 : k = 2
        · by_cases y2 : k < 5 ∨ k % 4 = 0 <;> simp (decide := true) (disch := first | assumption | decide) only [↓reduceIte, y1, y2, y4] <;> exact ep_bnd (i1 m0) rfl
        · by_cases y2 : k < 5 ∨ k % 4 = 0 <;> simp (decide := true) (disch := first | assumption | decide) only [↓reduceIte, y1, y2, y4] <;> exact ep_bnd (i1 m0) rfl
    · unfold eF_12_atomic
      simp only [↓ep_J, k2, e2, b0]
      simp only [km]
      by_cases y1 : ep_ff x = 2
      · by_cases y2 : k < 5 ∨ k % 4 = 0
        · have y3 := (hbad.resolve_left (fun z => z y1)).resolve_left (fun z => z y2)
          simp (decide := true) (disch := first | assumption | decide) only [↓reduceIte, y1, y2, y3.1, y3.2]
          exact ep_bnd (i2 c0) rfl
        · simp (decide := true) (disch := first | assumption | decide) only [↓reduceIte, y1, y2]
          exact ep_bnd (i2 c0) rfl
      · by_cases y2 : k < 5 ∨ k % 4 = 0 <;> simp (decide := true) (disch := first | assumption | decide) only [↓reduceIte, y1, y2] <;> exact ep_bnd (i2 c0) rfl
  · have hff : ep_ff x = 2 := by
      by_cases y : ep_ff x = 2
      · exact y
      · exact absurd (Or.inl y) hbad
    have hkn : k < 5 ∨ k % 4 = 0 := by
      by_cases y : k < 5 ∨ k % 4 = 0
      · exact y
      · exact absurd (Or.inr (Or.inl y)) hbad
    have hb2 : k = 2 → ep_fb x = 0 := by
      intro y
      by_cases z : ep_fb x = 0
      · exact z
      · exact absurd (Or.inr (Or.inr ⟨y, z⟩)) hbad
    obtain ⟨st, hst⟩ : ∃ st, st = !decide (k = 2) := ⟨_, rfl⟩
    have hcu : ∀ m0, eF_7_reckonInMemory (ep_mk c m0) x = Option.bind (eF_7_locate (ep_mk c m0) l 4 (ep_acs (if st = true then 2 else 1))) (fun q16 => if q16.1 < 0 then (some q16.2) else (Option.bind (eF_7_rightOf q16.2 x) (fun q18 => if k = 2 then (Option.bind (eF_6_wordAt q16.2 q16.1) (fun q39 => Option.bind (eF_7_put q16.2 x q39) (fun q40 => if eh_okH (q40.2.2 4) then Option.bind (eF_6_reserve q40 (q40.1 (q40.2.2 4) 0) q16.1) (fun q42 => some q42) else none))) else if k = 3 then (if eh_okH (q16.2.2.2 4) then Option.bind (eF_6_isReserved q16.2 (q16.2.1 (q16.2.2.2 4) 0) q16.1) (fun q24 => eh_J (fun (s26 : eh_F) => if eh_okH (s26.2.2 4) then Option.bind (eF_6_unreserve s26 (s26.1 (s26.2.2 4) 0)) (fun q28 => eh_J (fun (a30 : Int32) => Option.bind (eF_7_put q28 x a30) (fun q31 => some q31)) (fun j29 => if q24 = 0 then (j29 1) else (j29 0))) else none) (fun j25 => if q24 = 0 then (j25 q16.2) else (Option.bind (eF_7_keep q16.2 q16.1 q18 4) (fun q34 => j25 q34)))) else none) else (Option.bind (eF_6_wordAt q16.2 q16.1) (fun q35 => Option.bind (eF_7_combined q16.2 (nI k) q35 q18) (fun q36 => Option.bind (eF_7_keep q16.2 q16.1 q36 4) (fun q37 => Option.bind (eF_7_put q37 x q35) (fun q38 => some q38)))))))) := by
      intro m0
      unfold eF_7_reckonInMemory
      rw [ep_V, hkind, ep_ff_c, ep_fb_c, hl2]
      simp only [↓ep_J, k2, k3, e2, b0]
      simp only [kc]
      by_cases y : k = 2
      · subst hst
        simp (decide := true) (disch := first | assumption | decide) only [↓reduceIte, hff, hkn, y, hb2 y, ↓ep_sb, decide_true, Bool.not_true, ep_acs]
        rfl
      · subst hst
        simp (decide := true) (disch := first | assumption | decide) only [↓reduceIte, hff, hkn, y, ↓ep_sb, decide_false, Bool.not_false, ep_acs]
        rfl
    have hmu : ∀ c0, eF_12_atomic (ep_mk c0 m) (nI h) x (nI (ep_fd x)) (nI (ep_ff x)) (nI (ep_fb x)) (nI k) l r = Option.bind (eF_12_load (ep_mk c0 m) (nI h) l 4 (ep_bi st)) (fun q12 => if (q12.2.1 127 83) = (-1) then (Option.bind (eF_12_locate q12.2 (nI h) l 4 (nI (if st = true then 2 else 1))) (fun q16 => if k = 2 then (eh_V (eh_tI q16.2 147 h q16.1) (fun s20 => Option.bind (eF_12_set s20 (nI h) (nI (ep_fd x)) q12.1) (fun q21 => some q21))) else (if k = 3 then (eh_J (fun (a24 : Int32) => eh_J (fun (s26 : eh_F) => eh_V (eh_tI s26 147 h (-1)) (fun s27 => eh_J (fun (a29 : Int32) => Option.bind (eF_12_set s27 (nI h) (nI (ep_fd x)) a29) (fun q30 => some q30)) (fun j28 => if a24 = 0 then (j28 1) else (j28 0)))) (fun j25 => if a24 = 0 then (j25 q16.2) else (Option.bind (eF_12_storeAt q16.2 (nI h) q16.1 4 r) (fun q33 => j25 q33)))) (fun j23 => if (q16.2.1 147 h) = q16.1 then (j23 1) else (j23 0))) else (Option.bind (eF_12_joined q16.2 (nI k) q12.1 r) (fun q35 => Option.bind (eF_12_storeAt q16.2 (nI h) q16.1 4 q35) (fun q36 => Option.bind (eF_12_set q36 (nI h) (nI (ep_fd x)) q12.1) (fun q37 => some q37))))))) else (some q12.2)) := by
      intro c0
      unfold eF_12_atomic
      simp only [↓ep_J, k2, k3, e2, b0, j1, j2, if_true]
      simp only [km]
      by_cases y : k = 2
      · subst hst
        simp (decide := true) (disch := first | assumption | decide) only [↓reduceIte, hff, hkn, y, hb2 y, decide_true, Bool.not_true]
        rfl
      · subst hst
        simp (decide := true) (disch := first | assumption | decide) only [↓reduceIte, hff, hkn, y, decide_false, Bool.not_false]
        rfl
    clear kc km hkind
    have n4 : ep_n124 4 := Or.inr (Or.inr rfl)
    rcases ep_mload hR hQ n4 st l with ⟨q, n', f, g, r', h1, h2, h3, h4⟩ | ⟨y, n', f, g, r', h1, h3, h4⟩
    · have hR1 := ep_R_mg hR n' f g r'
      have hQ1 := ep_Q_mg hQ n' f g r'
      have hf83 : ∀ c0, (ep_mk c0 (ep_mg m n' f g r')).1 127 83 = -1 := fun c0 => by rw [ep_rM _ _ _ (by decide)]; exact hQ.2.2.2.2.2.2.1
      obtain ⟨q2, n2, f2, g2, r2, h5, h6⟩ : ∃ q2 n2 f2 g2 r2, q2 = q ∧ ∀ c0, eF_12_locate (ep_mk c0 (ep_mg m n' f g r')) (nI h) l (nI 4) (nI (if st = true then 2 else 1)) = some (nI q2, ep_mk c0 (ep_mg m n2 f2 g2 r2)) := by
        have ha : ep_u l % 4 = 0 := by
          by_cases z : ep_u l % 4 = 0
          · exact z
          · exfalso
            have hmk : ¬ l &&& (nI 4 - 1) = 0 := by
              rw [ep_mskn n4, show (0 : Int32) = nI 0 from rfl, nI_eq (by omega) (by decide)]
              exact z
            have := h3 m
            unfold eF_7_locate at this
            rw [if_neg hmk, ep_J] at this
            have hx : ∀ a, Option.bind (eF_7_fail (ep_mk c m) a l) (fun q21 => some ((-1 : Int32), q21)) = some (-1, ep_mk (ep_cF c a l) m) := fun a => by rw [ep_cfail, ep_sb]
            dsimp only at this
            rw [hx, hx] at this
            split at this
            · have := congrArg Prod.fst (Option.some.inj this)
              exact ep_nI_ne_m1 (by omega) this.symm
            · have := congrArg Prod.fst (Option.some.inj this)
              exact ep_nI_ne_m1 (by omega) this.symm
        rcases ep_locate hR1 hQ1.1 hQ1.2.2.2.2.2.2.1 (nc := 4) (nm := 4) (way := if st = true then 2 else 1) (by cases st <;> decide) n4 n4 l ha ha with ⟨q2, n2, f2, g2, r2, g1, g3, g4, g5⟩ | ⟨y, n2, f2, g2, r2, g1, g4, g5⟩
        · simp only [ep_mg_mg] at g5
          refine ⟨q2, n2, f2, g2, r2, ?_, g5⟩
          have := (h3 m).symm.trans (g4 m)
          exact ((nI_eq (by omega) (by omega)).mp (congrArg Prod.fst (Option.some.inj this))).symm
        · have := (h3 m).symm.trans (g4 m)
          exact absurd (congrArg Prod.fst (Option.some.inj this)) (ep_nI_ne_m1 (by omega))
      subst h5
      have hR2 := ep_R_mg hR n2 f2 g2 r2
      have hQ2 := ep_Q_mg hQ n2 f2 g2 r2
      have hX2 : ep_X c (ep_mg m n2 f2 g2 r2) h xi xj w := ⟨hX.1, hX.2.1, hX.2.2.1, hX.2.2.2.1, hX.2.2.2.2.1, fun c0 => by
        obtain ⟨a, b, w', hx⟩ := ep_Xof hR2 hQ2.1
        have e := hX.2.2.2.2.2.2
        have e' := hx.2.2.2.2.2.2
        have hw := hx.2.2.2.2.2.1 c0
        rw [hw]
        have q1 := hX.2.2.2.2.2.1 c0
        unfold eF_12_who at hw q1
        rw [ep_rM _ _ _ (by decide)] at hw q1
        exact hw.symm.trans q1, hX.2.2.2.2.2.2⟩
      have hwd : ∀ m0, eF_6_wordAt (ep_mk c m0) (nI q2) = some (ep_ldv (m.1 128) q2 4) := fun m0 => by rw [ep_cwrd hR h1 h2, ep_ldv4]
      generalize ep_ldv (m.1 128) q2 4 = was at h4 hwd
      by_cases y2 : k = 2
      · have hab : (nI (q2 / 4) = -1 ∧ nI q2 = -1) ∨ ∃ j, j < 32768 ∧ nI (q2 / 4) = nI j ∧ nI q2 = nI (4 * j) := Or.inr ⟨q2 / 4, by omega, rfl, by congr 1; omega⟩
        have hR3 := ep_R_res hR2 (h := h) hab
        have hQ3 : ep_Q (ep_cI c 11 h (nI (q2 / 4))) (ep_mI (ep_mg m n2 f2 g2 r2) 147 h (nI q2)) h pc := hQ2
        obtain ⟨xi', xj', w', hX3⟩ := ep_Xof hR3 hQ3.1
        obtain ⟨xi1, xj1, w1, hX1⟩ := ep_Xof hR2 hQ2.1
        have same : xi1 = xi' ∧ xj1 = xj' ∧ w1 = w' := by
          have a := hX3.2.2.2.2.2.1 c
          have b := hX1.2.2.2.2.2.1 c
          unfold eF_12_who at a b
          rw [ep_rM _ _ _ (by decide)] at a b
          have hw : w1 = w' := by
            have := b.symm.trans a
            exact (nI_eq (by have := hX1.1; omega) (by have := hX3.1; omega)).mp (Option.some.inj this)
          rcases hX1.2.2.2.2.2.2 with ⟨a1, a2, a3, a4⟩ | ⟨a1, a2, a3, a4⟩ <;> rcases hX3.2.2.2.2.2.2 with ⟨b1, b2, b3, b4⟩ | ⟨b1, b2, b3, b4⟩
          · exact ⟨by omega, by omega, hw⟩
          · omega
          · omega
          · exact ⟨by omega, by omega, hw⟩
        obtain ⟨s1, s2, s3⟩ := same
        subst s1; subst s2; subst s3
        refine ⟨_, _, fun m0 => ?_, fun c0 => ?_, ep_D_mono (ep_D_Y (ep_Yput hR3 hX3 x was) hQ3) (by omega)⟩
        · rw [hcu m0]
          refine ep_bnd (h3 m0) ?_
          rw [if_neg (nI_pos (by omega))]
          refine ep_bnd (hr2 m0) ?_
          rw [if_pos y2]
          refine ep_bnd (hwd m0) ?_
          refine ep_bnd (ep_cput hX1 x was m0) ?_
          have hY := ep_Yput hR2 hX1 x was
          have hn := ep_hnum hY.2.2 (ep_Pr_Y hY hQ2.1) m0
          rw [if_pos hn.1, hn.2]
          refine ep_bnd (ep_cres _ hh h1 m0) ?_
          congr 2
          by_cases z : ep_fd x = 0
          · rw [if_pos z, if_pos z]
          · rw [if_neg z, if_neg z]; rfl
        · rw [hmu c0]
          refine ep_bnd (h4 c0) ?_
          rw [if_pos (hf83 c0)]
          refine ep_bnd (h6 c0) ?_
          rw [if_pos y2, ep_V, ep_iM _ _ _ _ _ (by decide)]
          exact ep_bnd (ep_mset hX3 x was c0) rfl
      · by_cases y3 : k = 3
        · have hres := hR.2.2.2.2.1 h hh
          have hiff : (c.1 11 h = nI (q2 / 4)) ↔ (m.1 147 h = nI q2) := by
            rcases hres with ⟨z1, z2⟩ | ⟨j, z0, z1, z2⟩
            · rw [z1, z2]
              exact ⟨fun z => absurd z.symm (ep_nI_ne_m1 (by omega)), fun z => absurd z.symm (ep_nI_ne_m1 (by omega))⟩
            · rw [z1, z2, nI_eq (by omega) (by omega), nI_eq (by omega) (by omega)]
              omega
          by_cases yr : m.1 147 h = nI q2
          · obtain ⟨c1, m1, u1, u2, u3⟩ := ep_keep hR2 hN hQ2.1 n4 h2 h1 r
            have hR3 := ep_R_res u3.2.2 (h := h) (a := -1) (b := -1) (Or.inl ⟨rfl, rfl⟩)
            have hQ3 : ep_Q (ep_cI c1 11 h (-1)) (ep_mI m1 147 h (-1)) h pc := ep_Q_W u3 hQ2
            obtain ⟨c', m', p1, p2, p3⟩ := ep_putD hR3 hQ3 x 0
            refine ⟨c', m', fun m0 => ?_, fun c0 => ?_, ep_D_r (congrFun (ep_W_144 u3) h) p3⟩
            · rw [hcu m0]
              refine ep_bnd (h3 m0) ?_
              rw [if_neg (nI_pos (by omega))]
              refine ep_bnd (hr2 m0) ?_
              have hn := ep_hnum hR2 hQ2.1 m0
              rw [if_neg y2, if_pos y3, if_pos hn.1, hn.2]
              refine ep_bnd (ep_cisres c hh h1 m0) ?_
              have hn1 := ep_hnum u3.2.2 (ep_Pr_W u3 hQ2.1) m0
              rw [ep_J, decide_eq_true (hiff.mpr yr), if_neg (by decide)]
              refine ep_bnd (u1 m0) ?_
              dsimp only
              rw [if_pos hn1.1, hn1.2]
              refine ep_bnd (ep_cunres c1 hh m0) ?_
              rw [ep_J, if_neg (by decide)]
              exact ep_bnd (p1 m0) rfl
            · rw [hmu c0]
              refine ep_bnd (h4 c0) ?_
              rw [if_pos (hf83 c0)]
              refine ep_bnd (h6 c0) ?_
              rw [if_neg y2, if_pos y3, ep_J, if_pos (show (ep_mk c0 (ep_mg m n2 f2 g2 r2)).1 147 h = nI q2 from by rw [ep_rM _ _ _ (by decide)]; exact yr)]
              dsimp only
              rw [ep_J, if_neg (by decide)]
              refine ep_bnd (u2 c0) ?_
              dsimp only
              rw [ep_V, ep_iM _ _ _ _ _ (by decide), ep_J, if_neg (by decide)]
              exact ep_bnd (p2 c0) rfl
          · have hR3 := ep_R_res hR2 (h := h) (a := -1) (b := -1) (Or.inl ⟨rfl, rfl⟩)
            have hQ3 : ep_Q (ep_cI c 11 h (-1)) (ep_mI (ep_mg m n2 f2 g2 r2) 147 h (-1)) h pc := hQ2
            obtain ⟨c', m', p1, p2, p3⟩ := ep_putD hR3 hQ3 x 1
            refine ⟨c', m', fun m0 => ?_, fun c0 => ?_, ep_D_mono p3 (by omega)⟩
            · rw [hcu m0]
              refine ep_bnd (h3 m0) ?_
              rw [if_neg (nI_pos (by omega))]
              refine ep_bnd (hr2 m0) ?_
              have hn := ep_hnum hR2 hQ2.1 m0
              rw [if_neg y2, if_pos y3, if_pos hn.1, hn.2]
              refine ep_bnd (ep_cisres c hh h1 m0) ?_
              rw [ep_J, decide_eq_false (fun z => yr (hiff.mp z)), if_pos (by decide)]
              dsimp only
              rw [if_pos hn.1, hn.2]
              refine ep_bnd (ep_cunres c hh m0) ?_
              rw [ep_J, if_pos (by decide)]
              exact ep_bnd (p1 m0) rfl
            · rw [hmu c0]
              refine ep_bnd (h4 c0) ?_
              rw [if_pos (hf83 c0)]
              refine ep_bnd (h6 c0) ?_
              rw [if_neg y2, if_pos y3, ep_J, if_neg (show ¬ (ep_mk c0 (ep_mg m n2 f2 g2 r2)).1 147 h = nI q2 from by rw [ep_rM _ _ _ (by decide)]; exact yr)]
              dsimp only
              rw [ep_J, if_pos rfl]
              dsimp only
              rw [ep_V, ep_iM _ _ _ _ _ (by decide), ep_J, if_pos rfl]
              exact ep_bnd (p2 c0) rfl
        · have hkn2 : ep_kn k := by unfold ep_kn; omega
          obtain ⟨c1, m1, u1, u2, u3⟩ := ep_keep hR2 hN hQ2.1 n4 h2 h1 (ep_jn k was r)
          have hQ3 := ep_Q_W u3 hQ2
          obtain ⟨c', m', p1, p2, p3⟩ := ep_putD u3.2.2 hQ3 x was
          refine ⟨c', m', fun m0 => ?_, fun c0 => ?_, ep_D_r (congrFun (ep_W_144 u3) h) p3⟩
          · rw [hcu m0]
            refine ep_bnd (h3 m0) ?_
            rw [if_neg (nI_pos (by omega))]
            refine ep_bnd (hr2 m0) ?_
            rw [if_neg y2, if_neg y3]
            refine ep_bnd (hwd m0) ?_
            refine ep_bnd (ep_ccomb _ hkn2 was r) ?_
            refine ep_bnd (u1 m0) ?_
            exact ep_bnd (p1 m0) rfl
          · rw [hmu c0]
            refine ep_bnd (h4 c0) ?_
            rw [if_pos (hf83 c0)]
            refine ep_bnd (h6 c0) ?_
            rw [if_neg y2, if_neg y3]
            refine ep_bnd (ep_mjoin _ hkn2 was r) ?_
            refine ep_bnd (u2 c0) ?_
            exact ep_bnd (p2 c0) rfl
    · refine ⟨_, _, fun m0 => ?_, fun c0 => ?_, ep_D_mono (ep_D_F (ep_R_mg hR n' f g r') (ep_Q_mg hQ n' f g r') h1 l) (by omega)⟩
      · rw [hcu m0]
        refine ep_bnd (h3 m0) ?_
        rw [if_pos (show (-1 : Int32) < 0 by decide)]
      · rw [hmu c0]
        refine ep_bnd (h4 c0) ?_
        rw [if_neg (show ¬ (ep_mk c0 (ep_mF (ep_mg m n' f g r') y l)).1 127 83 = -1 from by rw [ep_rM _ _ _ (by decide)]; exact h1)]
