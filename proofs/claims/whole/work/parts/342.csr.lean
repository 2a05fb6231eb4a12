/-! what is pending -/
theorem ep_band (x : Int32) {k : Nat} (hk : k < 32) {b : Int32} (hb : ∀ i, i < 32 → ep_bit b i = decide (i = k)) : x &&& b = 0 ↔ ep_bit x k = false := by
  constructor
  · intro h
    have := congrArg (fun z => ep_bit z k) h
    simp only [ep_bit_and, ep_bit_0, hb k hk] at this
    simpa using this
  · intro h
    apply ep_ext; intro i hi
    rw [ep_bit_and, hb i hi, ep_bit_0]
    by_cases e : i = k
    · subst e; simp [h]
    · simp [e]
theorem ep_b2 (i : Nat) (hi : i < 32) : ep_bit 2 i = decide (i = 1) := (by decide : ∀ i : Fin 32, ep_bit 2 i.val = decide (i.val = 1)) ⟨i, hi⟩
theorem ep_b32 (i : Nat) (hi : i < 32) : ep_bit 32 i = decide (i = 5) := (by decide : ∀ i : Fin 32, ep_bit 32 i.val = decide (i.val = 5)) ⟨i, hi⟩
theorem ep_b256 (i : Nat) (hi : i < 32) : ep_bit 256 i = decide (i = 8) := (by decide : ∀ i : Fin 32, ep_bit 256 i.val = decide (i.val = 8)) ⟨i, hi⟩
theorem ep_b512 (i : Nat) (hi : i < 32) : ep_bit 512 i = decide (i = 9) := (by decide : ∀ i : Fin 32, ep_bit 512 i.val = decide (i.val = 9)) ⟨i, hi⟩
theorem ep_b1 (i : Nat) (hi : i < 32) : ep_bit 1 i = decide (i = 0) := (by decide : ∀ i : Fin 32, ep_bit 1 i.val = decide (i.val = 0)) ⟨i, hi⟩
theorem ep_b546 (i : Nat) (hi : i < 32) : ep_bit 546 i = decide (i = 1 ∨ i = 5 ∨ i = 9) := (by decide : ∀ i : Fin 32, ep_bit 546 i.val = decide (i.val = 1 ∨ i.val = 5 ∨ i.val = 9)) ⟨i, hi⟩
theorem ep_due0 {d : Int32} (h : d &&& 546 = d) : d = 0 ↔ (d &&& 512 = 0 ∧ d &&& 2 = 0 ∧ d &&& 32 = 0) := by
  rw [ep_band d (k := 9) (by decide) ep_b512, ep_band d (k := 1) (by decide) ep_b2, ep_band d (k := 5) (by decide) ep_b32]
  constructor
  · intro z; subst z; exact ⟨ep_bit_0 _, ep_bit_0 _, ep_bit_0 _⟩
  · intro ⟨a, b, c⟩
    apply ep_ext; intro i hi
    rw [← h, ep_bit_and, ep_b546 i hi, ep_bit_0]
    by_cases e1 : i = 1
    · subst e1; simp [b]
    · by_cases e5 : i = 5
      · subst e5; simp [c]
      · by_cases e9 : i = 9
        · subst e9; simp [a]
        · simp [e1, e5, e9]
theorem ep_pendp {N : Nat} {c : ep_C} {m : ep_M} (hR : ep_R N c m) {h : Nat} (hh : h < 2) : ∃ P, P &&& 546 = P ∧ (∀ m0, eF_4_pending (ep_mk c m0) (eh_hp (nI h)) = some P) ∧ (∀ c0, eF_12_pending (ep_mk c0 m) (nI h) = some P) := by
  have g := hR.2.2.2.2.2.2.2.1 h hh
  have g16 : c.2.1 0 h 16 = m.1 140 h := g.2.2.2.2.2.2.2.2.2.2.2.2.2.1
  have g17 : c.2.1 0 h 17 = m.1 141 h := g.2.2.2.2.2.2.2.2.2.2.2.2.2.2.1
  have hs := (hR.2.2.2.2.2.2.2.2.1 h hh).2.2.2.2.2
  obtain ⟨d0, -, -, d1, d1b, -, d8, -⟩ := hR.2.2.2.2.2.2.2.2.2.2.2.2.2.2.2.2.2.2.2.2.2.2.2.2.2.2.2.2.1
  obtain ⟨-, k1, -⟩ := hR.2.2.2.2.2.2.2.2.2.2.2.2.2.2.2.2.2.2.2.2.2.2.2.2.2.2.2.2.2.2.2.1
  have j1 : eh_in (nI h) 2 = true := ep_in hh (by decide)
  have j2 : eh_ix (nI h) = h := ep_ix (by omega)
  obtain ⟨W, hW⟩ : ∃ W : Bool, W = (!decide (m.1 127 22 = 0) || decide (0 < m.1 127 59) || decide (0 < m.1 127 62)) := ⟨_, rfl⟩
  have hwc : ∀ m0, eF_0_wantsTheSystem (ep_mk c m0) = some (ep_bi W) := by
    intro m0
    unfold eF_0_wantsTheSystem
    rw [hW]
    simp only [↓ep_J]
    rw [ep_rC1 _ _ 12 (by decide), ep_rC1 _ _ 20 (by decide), d1, d8, k1]
    by_cases y1 : m.1 127 22 = 0
    · by_cases y2 : 0 < m.1 127 59
      · simp [y1, y2, ep_bi]
      · by_cases y3 : 0 < m.1 127 62
        · simp [y1, y2, y3, ep_bi]
        · simp [y1, y2, y3, ep_bi]
    · simp [y1, ep_bi]
  refine ⟨(m.1 140 h ||| (if ep_bl (m.1 127 20) (m.1 141 h) = true then 0 else 32)) ||| (if W = true then 512 else 0), ?_, fun m0 => ?_, fun c0 => ?_⟩
  · rcases hs with y | y <;> rw [y] <;> cases ep_bl (m.1 127 20) (m.1 141 h) <;> cases W <;> decide
  · unfold eF_4_pending
    rw [ep_cbelow, ep_sb, hwc m0]
    simp only [↓ep_J, ↓ep_sb]
    rw [ep_rC1 _ _ 12 (by decide), ep_rH0 _ _ hh, g16, g17, d0]
    cases ep_bl (m.1 127 20) (m.1 141 h) <;> cases W <;> rfl
  · unfold eF_12_pending
    rw [ep_mcmpU, if_pos j1, ep_sb]
    simp only [↓ep_J, j1, j2, if_true]
    rw [ep_rM _ _ 127 (by decide), ep_rM _ _ 141 (by decide), ep_rM _ _ 140 (by decide), hW]
    cases hb : ep_bl (m.1 127 20) (m.1 141 h) with
    | true =>
      by_cases y1 : m.1 127 22 = 0
      · by_cases y2 : 0 < m.1 127 59
        · simp [y1, y2]
        · by_cases y3 : 0 < m.1 127 62 <;> simp [y1, y2, y3]
      · simp [y1]
    | false =>
      have hz : ¬ (if false = true then (-1 : Int32) else if m.1 127 20 = m.1 141 h then 0 else 1) < 0 := by rw [if_neg (by decide)]; split <;> decide
      rw [if_neg hz]
      by_cases y1 : m.1 127 22 = 0
      · by_cases y2 : 0 < m.1 127 59
        · simp [y1, y2]
        · by_cases y3 : 0 < m.1 127 62 <;> simp [y1, y2, y3]
      · simp [y1]
/-! control registers by their numbers -/
def ep_wrt (v : Int32) : Bool := decide (v = 256) || decide (v = 260) || decide (v = 261) || decide (v = 320) || decide (v = 321) || decide (v = 322) || decide (v = 323) || decide (v = 324) || decide (v = 333) || decide (v = 384)
def ep_isR (v : Int32) : Bool := ep_wrt v || decide (v = 3073) || decide (v = 3860)
theorem ep_wrt_cases {v : Int32} (h : ep_wrt v = true) : v = 256 ∨ v = 260 ∨ v = 261 ∨ v = 320 ∨ v = 321 ∨ v = 322 ∨ v = 323 ∨ v = 324 ∨ v = 333 ∨ v = 384 := by
  unfold ep_wrt at h
  simpa only [Bool.or_eq_true, decide_eq_true_eq, or_assoc] using h
theorem ep_isR_cases {v : Int32} (h : ep_isR v = true) : v = 256 ∨ v = 260 ∨ v = 261 ∨ v = 320 ∨ v = 321 ∨ v = 322 ∨ v = 323 ∨ v = 324 ∨ v = 333 ∨ v = 384 ∨ v = 3073 ∨ v = 3860 := by
  unfold ep_isR ep_wrt at h
  simpa only [Bool.or_eq_true, decide_eq_true_eq, or_assoc] using h
theorem ep_cmay (s : eh_F) (v : Int32) (wr : Bool) : eF_4_maySystemUse s v (ep_bi wr) = some (ep_bi (ep_wrt v || (!wr && (decide (v = 3073) || decide (v = 3860))))) := by
  unfold eF_4_maySystemUse
  simp only [↓ep_J]
  by_cases hw : ep_wrt v = true
  · rw [hw, Bool.true_or, ep_bi_t]
    rcases ep_wrt_cases hw with rfl | rfl | rfl | rfl | rfl | rfl | rfl | rfl | rfl | rfl <;> rfl
  · have hw' : ep_wrt v = false := by simpa using hw
    rw [hw', Bool.false_or]
    unfold ep_wrt at hw'
    simp only [Bool.or_eq_false_iff, decide_eq_false_iff_not] at hw'
    obtain ⟨⟨⟨⟨⟨⟨⟨⟨⟨n1, n2⟩, n3⟩, n4⟩, n5⟩, n6⟩, n7⟩, n8⟩, n9⟩, n10⟩ := hw'
    simp only [n1, n2, n3, n4, n5, n6, n7, n8, n9, n10, if_false]
    by_cases y1 : v = 3073
    · subst y1; cases wr <;> rfl
    · by_cases y2 : v = 3860
      · subst y2; cases wr <;> rfl
      · simp [y1, y2, ep_bi]
theorem ep_misR (s : eh_F) (v : Int32) : eF_12_isRegister s v = some (ep_bi (ep_isR v)) := by
  unfold eF_12_isRegister
  simp only [↓ep_J]
  by_cases hw : ep_isR v = true
  · rw [hw, ep_bi_t]
    have := ep_isR_cases hw
    rcases this with rfl | rfl | rfl | rfl | rfl | rfl | rfl | rfl | rfl | rfl | rfl | rfl <;> rfl
  · have hw' : ep_isR v = false := by simpa using hw
    rw [hw', ep_bi_f]
    unfold ep_isR ep_wrt at hw'
    simp only [Bool.or_eq_false_iff, decide_eq_false_iff_not] at hw'
    obtain ⟨⟨⟨⟨⟨⟨⟨⟨⟨⟨⟨n1, n2⟩, n3⟩, n4⟩, n5⟩, n6⟩, n7⟩, n8⟩, n9⟩, n10⟩, n11⟩, n12⟩ := hw'
    have hr : v < 320 ∨ 324 < v := by
      by_cases y : v < 320
      · exact Or.inl y
      · by_cases y2 : 324 < v
        · exact Or.inr y2
        · exfalso
          rw [Int32.lt_iff_toInt_lt] at y y2
          have e1 : (320 : Int32).toInt = 320 := by decide
          have e2 : (324 : Int32).toInt = 324 := by decide
          rw [← Int32.toInt_inj] at n4 n5 n6 n7 n8
          have f4 : (320 : Int32).toInt = 320 := by decide
          have f5 : (321 : Int32).toInt = 321 := by decide
          have f6 : (322 : Int32).toInt = 322 := by decide
          have f7 : (323 : Int32).toInt = 323 := by decide
          omega
    simp only [n1, n2, n3, n9, n10, n11, n12, if_false]
    rcases hr with y | y
    · simp [y]
    · by_cases y2 : v < 320
      · simp [y2]
      · simp [y, y2]
theorem ep_readR {N : Nat} {c : ep_C} {m : ep_M} (hR : ep_R N c m) {h : Nat} (hh : h < 2) {v : Int32} (hv : ep_isR v = true) : ∃ r, (∀ m0, eF_4_readControl (ep_mk c m0) (eh_hp (nI h)) v = some r) ∧ (∀ c0, eF_12_readRegister (ep_mk c0 m) (nI h) v = some r) := by
  obtain ⟨a0, a2, a3, a4, a5, a6, a9, a10, a11, a12, a13, a14, a15, a16, a17, a18⟩ := hR.2.2.2.2.2.2.2.1 h hh
  obtain ⟨P, -, p1, p2⟩ := ep_pendp hR hh
  have d0 := hR.2.2.2.2.2.2.2.2.2.2.2.2.2.2.2.2.2.2.2.2.2.2.2.2.2.2.2.2.1.1
  have j1 : eh_in (nI h) 2 = true := ep_in hh (by decide)
  have j2 : eh_ix (nI h) = h := ep_ix (by omega)
  have this := ep_isR_cases hv
  have cr : ∀ m0 j, (ep_mk c m0).1 (eh_hp (nI h)) j = c.2.1 0 h j := fun m0 j => by rw [ep_rH0 _ _ hh]
  have mr : ∀ c0 k, 127 ≤ k → (ep_mk c0 m).1 k h = m.1 k h := fun c0 k hk => by rw [ep_rM _ _ _ hk]
  rcases this with rfl | rfl | rfl | rfl | rfl | rfl | rfl | rfl | rfl | rfl | rfl | rfl
  · refine ⟨m.1 133 h, fun m0 => ?_, fun c0 => ?_⟩
    · unfold eF_4_readControl; simp (decide := true) (disch := first | assumption | decide) only [↓reduceIte]; rw [cr, a9]
    · unfold eF_12_readRegister; simp (decide := true) (disch := first | assumption | decide) only [↓reduceIte, j1, j2]; rw [mr _ _ (by decide)]
  · refine ⟨m.1 134 h, fun m0 => ?_, fun c0 => ?_⟩
    · unfold eF_4_readControl; simp (decide := true) (disch := first | assumption | decide) only [↓reduceIte]; rw [cr, a10]
    · unfold eF_12_readRegister; simp (decide := true) (disch := first | assumption | decide) only [↓reduceIte, j1, j2]; rw [mr _ _ (by decide)]
  · refine ⟨m.1 135 h, fun m0 => ?_, fun c0 => ?_⟩
    · unfold eF_4_readControl; simp (decide := true) (disch := first | assumption | decide) only [↓reduceIte]; rw [cr, a11]
    · unfold eF_12_readRegister; simp (decide := true) (disch := first | assumption | decide) only [↓reduceIte, j1, j2]; rw [mr _ _ (by decide)]
  · refine ⟨m.1 136 h, fun m0 => ?_, fun c0 => ?_⟩
    · unfold eF_4_readControl; simp (decide := true) (disch := first | assumption | decide) only [↓reduceIte]; rw [cr, a12]
    · unfold eF_12_readRegister; simp (decide := true) (disch := first | assumption | decide) only [↓reduceIte, j1, j2]; rw [mr _ _ (by decide)]
  · refine ⟨m.1 137 h, fun m0 => ?_, fun c0 => ?_⟩
    · unfold eF_4_readControl; simp (decide := true) (disch := first | assumption | decide) only [↓reduceIte]; rw [cr, a13]
    · unfold eF_12_readRegister; simp (decide := true) (disch := first | assumption | decide) only [↓reduceIte, j1, j2]; rw [mr _ _ (by decide)]
  · refine ⟨m.1 138 h, fun m0 => ?_, fun c0 => ?_⟩
    · unfold eF_4_readControl; simp (decide := true) (disch := first | assumption | decide) only [↓reduceIte]; rw [cr, a14]
    · unfold eF_12_readRegister; simp (decide := true) (disch := first | assumption | decide) only [↓reduceIte, j1, j2]; rw [mr _ _ (by decide)]
  · refine ⟨m.1 139 h, fun m0 => ?_, fun c0 => ?_⟩
    · unfold eF_4_readControl; simp (decide := true) (disch := first | assumption | decide) only [↓reduceIte]; rw [cr, a15]
    · unfold eF_12_readRegister; simp (decide := true) (disch := first | assumption | decide) only [↓reduceIte, j1, j2]; rw [mr _ _ (by decide)]
  · refine ⟨P, fun m0 => ?_, fun c0 => ?_⟩
    · unfold eF_4_readControl; simp (decide := true) (disch := first | assumption | decide) only [↓reduceIte]; exact ep_bnd (p1 m0) rfl
    · unfold eF_12_readRegister; simp (decide := true) (disch := first | assumption | decide) only [↓reduceIte]; exact ep_bnd (p2 c0) rfl
  · refine ⟨m.1 141 h, fun m0 => ?_, fun c0 => ?_⟩
    · unfold eF_4_readControl; simp (decide := true) (disch := first | assumption | decide) only [↓reduceIte]; rw [cr, a17]
    · unfold eF_12_readRegister; simp (decide := true) (disch := first | assumption | decide) only [↓reduceIte, j1, j2]; rw [mr _ _ (by decide)]
  · refine ⟨m.1 142 h, fun m0 => ?_, fun c0 => ?_⟩
    · unfold eF_4_readControl; simp (decide := true) (disch := first | assumption | decide) only [↓reduceIte]; rw [cr, a18]
    · unfold eF_12_readRegister; simp (decide := true) (disch := first | assumption | decide) only [↓reduceIte, j1, j2]; rw [mr _ _ (by decide)]
  · refine ⟨m.1 127 20, fun m0 => ?_, fun c0 => ?_⟩
    · unfold eF_4_readControl; simp (decide := true) (disch := first | assumption | decide) only [↓reduceIte]; rw [ep_rC1 _ _ _ (by decide), d0]
    · unfold eF_12_readRegister; simp (decide := true) (disch := first | assumption | decide) only [↓reduceIte]; rw [ep_rM _ _ _ (by decide)]
  · refine ⟨nI h, fun m0 => ?_, fun c0 => ?_⟩
    · unfold eF_4_readControl; simp (decide := true) (disch := first | assumption | decide) only [↓reduceIte]; rw [cr, a0]
    · unfold eF_12_readRegister; simp (decide := true) (disch := first | assumption | decide) only [↓reduceIte]
/-- fields of one hart changed -/
def ep_Z (N : Nat) (h : Nat) (c : ep_C) (m : ep_M) (c' : ep_C) (m' : ep_M) : Prop := (∃ f, c' = ep_cG c 0 h f) ∧ (m'.2 = m.2 ∧ ∀ k, k < 130 ∨ 143 ≤ k → m'.1 k = m.1 k) ∧ ep_R N c' m'
theorem ep_Z_1 {N h : Nat} {c : ep_C} {m : ep_M} (j k : Nat) (v u : Int32) (hk : 130 ≤ k ∧ k < 143) (hR : ep_R N (ep_cH c 0 h j v) (ep_mI m k h u)) : ep_Z N h c m (ep_cH c 0 h j v) (ep_mI m k h u) :=
  ⟨⟨_, rfl⟩, ⟨rfl, fun a ha => ep_mIn m k a h u (by omega)⟩, hR⟩
theorem ep_Z_tr {N N' h : Nat} {c c1 c2 : ep_C} {m m1 m2 : ep_M} (h1 : ep_Z N h c m c1 m1) (h2 : ep_Z N' h c1 m1 c2 m2) : ep_Z N' h c m c2 m2 := by
  obtain ⟨⟨f, rfl⟩, ⟨e1, e2⟩, -⟩ := h1
  obtain ⟨⟨g, rfl⟩, ⟨e3, e4⟩, hR⟩ := h2
  exact ⟨⟨g, ep_cGG c 0 h f g⟩, ⟨e3.trans e1, fun k hk => (e4 k hk).trans (e2 k hk)⟩, hR⟩
theorem ep_alm4 (v : Int32) : ep_al (v &&& (-4)) := by
  unfold ep_al
  rw [Int32.and_assoc]
  exact Int32.and_zero
theorem ep_sf2 (v : Int32) : v &&& 2 = 0 ∨ v &&& 2 = 2 := by
  obtain ⟨j, hj, e⟩ : ∃ j : Nat, j < 2 ^ 2 ∧ v &&& 3 = nI j := pk_andE v (m := 3) 2 rfl
  have : v &&& 2 = (v &&& 3) &&& 2 := by rw [Int32.and_assoc]; rfl
  rw [this, e]
  have : j = 0 ∨ j = 1 ∨ j = 2 ∨ j = 3 := by omega
  rcases this with rfl | rfl | rfl | rfl <;> decide
theorem ep_writeR {N : Nat} {c : ep_C} {m : ep_M} (hR : ep_R N c m) {h : Nat} (hh : h < 2) {v : Int32} (hv : ep_wrt v = true) (u : Int32) : ∃ c' m', (∀ m0, eF_4_writeControl (ep_mk c m0) (eh_hp (nI h)) v u = some (ep_mk c' m0)) ∧ (∀ c0, eF_12_writeRegister (ep_mk c0 m) (nI h) v u = some (ep_mk c0 m')) ∧ ep_Z N h c m c' m' := by
  have j1 : eh_in (nI h) 2 = true := ep_in hh (by decide)
  have j2 : eh_ix (nI h) = h := ep_ix (by omega)
  have cw : ∀ m0 j x, eh_tI (ep_mk c m0) (eh_hp (nI h)) j x = ep_mk (ep_cH c 0 h j x) m0 := fun m0 j x => ep_iH0 _ _ _ _ hh
  have mw : ∀ c0 k x, 127 ≤ k → eh_tI (ep_mk c0 m) k h x = ep_mk c0 (ep_mI m k h x) := fun c0 k x hk => ep_iM _ _ _ _ _ hk
  rcases ep_wrt_cases hv with rfl | rfl | rfl | rfl | rfl | rfl | rfl | rfl | rfl | rfl
  · refine ⟨_, _, fun m0 => ?_, fun c0 => ?_, ep_Z_1 9 133 (u &&& 786722) _ (by decide) (ep_S133 hR hh _)⟩
    · unfold eF_4_writeControl; simp (decide := true) (disch := first | assumption | decide) only [↓ep_J, ↓ep_V, ↓reduceIte, cw]
    · unfold eF_12_writeRegister; simp (decide := true) (disch := first | assumption | decide) only [↓ep_J, ↓ep_V, ↓reduceIte, j1, j2, mw]
  · refine ⟨_, _, fun m0 => ?_, fun c0 => ?_, ep_Z_1 10 134 (u &&& 546) _ (by decide) (ep_S134 hR hh _)⟩
    · unfold eF_4_writeControl; simp (decide := true) (disch := first | assumption | decide) only [↓ep_J, ↓ep_V, ↓reduceIte, cw]
    · unfold eF_12_writeRegister; simp (decide := true) (disch := first | assumption | decide) only [↓ep_J, ↓ep_V, ↓reduceIte, j1, j2, mw]
  · refine ⟨_, _, fun m0 => ?_, fun c0 => ?_, ep_Z_1 11 135 (u &&& (-4)) _ (by decide) (ep_S135 hR hh _ (ep_alm4 u))⟩
    · unfold eF_4_writeControl; simp (decide := true) (disch := first | assumption | decide) only [↓ep_J, ↓ep_V, ↓reduceIte, cw]
    · unfold eF_12_writeRegister; simp (decide := true) (disch := first | assumption | decide) only [↓ep_J, ↓ep_V, ↓reduceIte, j1, j2, mw]
  · refine ⟨_, _, fun m0 => ?_, fun c0 => ?_, ep_Z_1 12 136 u _ (by decide) (ep_S136 hR hh _)⟩
    · unfold eF_4_writeControl; simp (decide := true) (disch := first | assumption | decide) only [↓ep_J, ↓ep_V, ↓reduceIte, cw]
    · unfold eF_12_writeRegister; simp (decide := true) (disch := first | assumption | decide) only [↓ep_J, ↓ep_V, ↓reduceIte, j1, j2, mw]
  · refine ⟨_, _, fun m0 => ?_, fun c0 => ?_, ep_Z_1 13 137 (u &&& (-4)) _ (by decide) (ep_S137 hR hh _ (ep_alm4 u))⟩
    · unfold eF_4_writeControl; simp (decide := true) (disch := first | assumption | decide) only [↓ep_J, ↓ep_V, ↓reduceIte, cw]
    · unfold eF_12_writeRegister; simp (decide := true) (disch := first | assumption | decide) only [↓ep_J, ↓ep_V, ↓reduceIte, j1, j2, mw]
  · refine ⟨_, _, fun m0 => ?_, fun c0 => ?_, ep_Z_1 14 138 u _ (by decide) (ep_S138 hR hh _)⟩
    · unfold eF_4_writeControl; simp (decide := true) (disch := first | assumption | decide) only [↓ep_J, ↓ep_V, ↓reduceIte, cw]
    · unfold eF_12_writeRegister; simp (decide := true) (disch := first | assumption | decide) only [↓ep_J, ↓ep_V, ↓reduceIte, j1, j2, mw]
  · refine ⟨_, _, fun m0 => ?_, fun c0 => ?_, ep_Z_1 15 139 u _ (by decide) (ep_S139 hR hh _)⟩
    · unfold eF_4_writeControl; simp (decide := true) (disch := first | assumption | decide) only [↓ep_J, ↓ep_V, ↓reduceIte, cw]
    · unfold eF_12_writeRegister; simp (decide := true) (disch := first | assumption | decide) only [↓ep_J, ↓ep_V, ↓reduceIte, j1, j2, mw]
  · refine ⟨_, _, fun m0 => ?_, fun c0 => ?_, ep_Z_1 16 140 (u &&& 2) _ (by decide) (ep_S140 hR hh _ (ep_sf2 u))⟩
    · unfold eF_4_writeControl; simp (decide := true) (disch := first | assumption | decide) only [↓ep_J, ↓ep_V, ↓reduceIte, cw]
    · unfold eF_12_writeRegister; simp (decide := true) (disch := first | assumption | decide) only [↓ep_J, ↓ep_V, ↓reduceIte, j1, j2, mw]
  · refine ⟨_, _, fun m0 => ?_, fun c0 => ?_, ep_Z_1 17 141 u _ (by decide) (ep_S141 hR hh _)⟩
    · unfold eF_4_writeControl; simp (decide := true) (disch := first | assumption | decide) only [↓ep_J, ↓ep_V, ↓reduceIte, cw]
    · unfold eF_12_writeRegister; simp (decide := true) (disch := first | assumption | decide) only [↓ep_J, ↓ep_V, ↓reduceIte, j1, j2, mw]
  · refine ⟨_, _, fun m0 => ?_, fun c0 => ?_, ep_Z_1 18 142 (u &&& (-2143289345)) _ (by decide) (ep_S142 hR hh _)⟩
    · unfold eF_4_writeControl; simp (decide := true) (disch := first | assumption | decide) only [↓ep_J, ↓ep_V, ↓reduceIte, cw]
    · unfold eF_12_writeRegister; simp (decide := true) (disch := first | assumption | decide) only [↓ep_J, ↓ep_V, ↓reduceIte, j1, j2, mw]
