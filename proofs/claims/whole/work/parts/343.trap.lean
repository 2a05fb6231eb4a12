/-! traps, and what leaves them -/
theorem ep_sh1 (s : Int32) : eh_shr s 1 &&& 1 = if s &&& 2 = 0 then 0 else 1 := by
  have hb := ep_band s (k := 1) (by decide) ep_b2
  apply ep_ext; intro i hi
  rw [ep_bit_and, ep_b1 i hi, show (1 : Int32) = nI 1 from rfl, ep_bit_shr _ (by decide) _ hi]
  by_cases e : i = 0
  · subst e
    by_cases z : s &&& 2 = 0
    · rw [if_pos z]; simp [hb.mp z, ep_bit_0]
    · rw [if_neg z]
      have : ep_bit s 1 = true := by
        cases y : ep_bit s 1 with
        | true => rfl
        | false => exact absurd (hb.mpr y) z
      simp [this]; decide
  · simp [e]
    by_cases z : s &&& 2 = 0
    · rw [if_pos z, ep_bit_0]
    · rw [if_neg z, show nI 1 = (1 : Int32) from rfl, ep_b1 i hi]; simp [e]
theorem ep_sh5 (s : Int32) : eh_shr s 5 &&& 1 = if s &&& 32 = 0 then 0 else 1 := by
  have hb := ep_band s (k := 5) (by decide) ep_b32
  apply ep_ext; intro i hi
  rw [ep_bit_and, ep_b1 i hi, show (5 : Int32) = nI 5 from rfl, ep_bit_shr _ (by decide) _ hi]
  by_cases e : i = 0
  · subst e
    by_cases z : s &&& 32 = 0
    · rw [if_pos z]; simp [hb.mp z, ep_bit_0]
    · rw [if_neg z]
      have : ep_bit s 5 = true := by
        cases y : ep_bit s 5 with
        | true => rfl
        | false => exact absurd (hb.mpr y) z
      simp [this]; decide
  · simp [e]
    by_cases z : s &&& 32 = 0
    · rw [if_pos z, ep_bit_0]
    · rw [if_neg z, ep_b1 i hi]; simp [e]
theorem ep_sh8b (s : Int32) : eh_shr s 8 &&& 1 = if s &&& 256 = 0 then 0 else 1 := by
  have hb := ep_band s (k := 8) (by decide) ep_b256
  apply ep_ext; intro i hi
  rw [ep_bit_and, ep_b1 i hi, show (8 : Int32) = nI 8 from rfl, ep_bit_shr _ (by decide) _ hi]
  by_cases e : i = 0
  · subst e
    by_cases z : s &&& 256 = 0
    · rw [if_pos z]; simp [hb.mp z, ep_bit_0]
    · rw [if_neg z]
      have : ep_bit s 8 = true := by
        cases y : ep_bit s 8 with
        | true => rfl
        | false => exact absurd (hb.mpr y) z
      simp [this]; decide
  · simp [e]
    by_cases z : s &&& 256 = 0
    · rw [if_pos z, ep_bit_0]
    · rw [if_neg z, ep_b1 i hi]; simp [e]
theorem ep_trap_ {N : Nat} {c : ep_C} {m : ep_M} (hR : ep_R N c m) {h : Nat} (hh : h < 2) (p0 p1 : Int32) : ∃ c' m', (∀ m0, eF_4_trap (ep_mk c m0) (eh_hp (nI h)) p0 p1 = some (ep_mk c' m0)) ∧ (∀ c0, eF_12_trap (ep_mk c0 m) (nI h) p0 p1 = some (ep_mk c0 m')) ∧ ep_Z N h c m c' m' := by
  obtain ⟨a0, a2, a3, a4, a5, a6, a9, a10, a11, a12, a13, a14, a15, a16, a17, a18⟩ := hR.2.2.2.2.2.2.2.1 h hh
  obtain ⟨b1, b2, b3, b4, b5, b6⟩ := hR.2.2.2.2.2.2.2.2.1 h hh
  have j1 : eh_in (nI h) 2 = true := ep_in hh (by decide)
  have j14 : eh_in (nI h) 14 = true := ep_in (by omega) (by decide)
  have j2 : eh_ix (nI h) = h := ep_ix (by omega)
  obtain ⟨sv, hsv⟩ : ∃ sv, sv = ((m.1 133 h &&& (-291)) ||| (if m.1 133 h &&& 2 = 0 then (0 : Int32) else 32)) ||| (if m.1 131 h = 1 then (256 : Int32) else 0) := ⟨_, rfl⟩
  have R1 := ep_S137 hR hh (m.1 130 h) b1
  have R2 := ep_S138 R1 hh p0
  have R3 := ep_S139 R2 hh p1
  have R4 := ep_S133 R3 hh sv
  have R5 := ep_S131 R4 hh 1 (Or.inr rfl)
  have R6 := ep_S130 R5 hh (m.1 135 h) b4
  have Z1 := ep_Z_1 13 137 (m.1 130 h) (m.1 130 h) (by decide) R1
  have Z2 := ep_Z_tr Z1 (ep_Z_1 14 138 p0 p0 (by decide) R2)
  have Z3 := ep_Z_tr Z2 (ep_Z_1 15 139 p1 p1 (by decide) R3)
  have Z4 := ep_Z_tr Z3 (ep_Z_1 9 133 sv sv (by decide) R4)
  have Z5 := ep_Z_tr Z4 (ep_Z_1 3 131 1 1 (by decide) R5)
  have Z6 := ep_Z_tr Z5 (ep_Z_1 2 130 (m.1 135 h) (m.1 135 h) (by decide) R6)
  refine ⟨_, _, fun m0 => ?_, fun c0 => ?_, Z6⟩
  · unfold eF_4_trap
    simp (disch := first | assumption | decide) only [↓ep_V, ↓ep_J, ep_iH0 _ _ _ _ hh, ep_rH0 _ _ hh, ep_cHs, ep_upd_ne, a2, a3, a9, a11]
    rw [hsv]
    by_cases z1 : m.1 133 h &&& 2 = 0
    · by_cases z2 : m.1 131 h = 1
      · simp only [z1, z2, if_true]
      · simp only [z1, z2, if_true, if_false]
    · by_cases z2 : m.1 131 h = 1
      · simp only [z1, z2, if_true, if_false]
      · simp only [z1, z2, if_false]
  · unfold eF_12_trap
    have hsv' : ((m.1 133 h &&& (-291)) ||| eh_shl (eh_shr (m.1 133 h) 1 &&& 1) 5) ||| eh_shl (m.1 131 h) 8 = sv := by
      rw [hsv, ep_sh1]
      rcases b2 with z2 | z2 <;> rw [z2] <;> by_cases z1 : m.1 133 h &&& 2 = 0
      · rw [if_pos z1, if_pos z1]; rfl
      · rw [if_neg z1, if_neg z1]; rfl
      · rw [if_pos z1, if_pos z1]; rfl
      · rw [if_neg z1, if_neg z1]; rfl
    simp (disch := first | assumption | decide) only [↓ep_V, ↓reduceIte, j1, j2, j14, ep_iM, ep_rM, ep_mI1, ep_mIn, hsv']
theorem ep_ltrap {N : Nat} {c : ep_C} {m : ep_M} (hR : ep_R N c m) {h : Nat} (hh : h < 2) : ∃ c' m', (∀ m0, eF_4_leaveTrap (ep_mk c m0) (eh_hp (nI h)) = some (ep_mk c' m0)) ∧ (∀ c0, (eh_V (eh_tI (ep_mk c0 m) 131 h ((eh_shr ((ep_mk c0 m).1 133 h) 8) &&& 1)) (fun s28 => eh_V (((eh_shr (s28.1 133 h) 5) &&& 1) : Int32) (fun x29 => eh_V (eh_tI s28 133 h ((((s28.1 133 h) &&& (-259)) ||| (eh_shl x29 1)) ||| 32)) (fun s30 => some s30)))) = some (ep_mk c0 m')) ∧ ep_Z N h c m c' m' := by
  obtain ⟨a0, a2, a3, a4, a5, a6, a9, a10, a11, a12, a13, a14, a15, a16, a17, a18⟩ := hR.2.2.2.2.2.2.2.1 h hh
  obtain ⟨mv, hmv⟩ : ∃ mv : Int32, mv = if m.1 133 h &&& 256 = 0 then 0 else 1 := ⟨_, rfl⟩
  obtain ⟨sv, hsv⟩ : ∃ sv, sv = ((m.1 133 h &&& (-291)) ||| (if m.1 133 h &&& 32 = 0 then (0 : Int32) else 2)) ||| 32 := ⟨_, rfl⟩
  have R1 := ep_S131 hR hh mv (by rw [hmv]; by_cases z : m.1 133 h &&& 256 = 0 <;> simp [z, ep_bo])
  have R2 := ep_S133 R1 hh sv
  have Z1 := ep_Z_1 3 131 mv mv (by decide) R1
  have Z2 := ep_Z_tr Z1 (ep_Z_1 9 133 sv sv (by decide) R2)
  refine ⟨_, _, fun m0 => ?_, fun c0 => ?_, Z2⟩
  · unfold eF_4_leaveTrap
    simp (disch := first | assumption | decide) only [↓ep_V, ↓ep_J, ep_iH0 _ _ _ _ hh, ep_rH0 _ _ hh, ep_cHs, ep_upd_ne, a9]
    rw [hsv, hmv]
    by_cases z1 : m.1 133 h &&& 256 = 0
    · by_cases z2 : m.1 133 h &&& 32 = 0
      · simp only [z1, z2, if_true]
      · simp only [z1, z2, if_true, if_false]
    · by_cases z2 : m.1 133 h &&& 32 = 0
      · simp only [z1, z2, if_true, if_false]
      · simp only [z1, z2, if_false]
  · have hsv' : ((m.1 133 h &&& (-259)) ||| eh_shl (eh_shr (m.1 133 h) 5 &&& 1) 1) ||| 32 = sv := by
      rw [hsv, ep_sh5]
      have e : ∀ y : Int32, ((m.1 133 h &&& (-259)) ||| y) ||| 32 = ((m.1 133 h &&& (-291)) ||| y) ||| 32 := by
        intro y
        apply ep_ext; intro i hi
        have n1 : ∀ i : Fin 32, ep_bit (-259) i.val = decide (i.val ≠ 1 ∧ i.val ≠ 8) := by decide
        have n2 : ∀ i : Fin 32, ep_bit (-291) i.val = decide (i.val ≠ 1 ∧ i.val ≠ 8 ∧ i.val ≠ 5) := by decide
        simp only [ep_bit_or, ep_bit_and, n1 ⟨i, hi⟩, n2 ⟨i, hi⟩, ep_b32 i hi]
        by_cases z : i = 5
        · simp [z]
        · simp [z]
      rw [e]
      by_cases z1 : m.1 133 h &&& 32 = 0
      · rw [if_pos z1, if_pos z1]; rfl
      · rw [if_neg z1, if_neg z1]; rfl
    have hmv' : eh_shr (m.1 133 h) 8 &&& 1 = mv := by rw [ep_sh8b, hmv]
    simp (disch := first | assumption | decide) only [↓ep_V, ep_iM, ep_rM, ep_mI1, ep_mIn, hmv', hsv']
/-- whoever runs stays after a hart's fields changed -/
theorem ep_Pr_m {c : ep_C} {m m' : ep_M} {h : Nat} (hP : ep_Pr c m h) (e1 : m'.1 144 = m.1 144) (e2 : m'.1 149 = m.1 149) (e3 : m'.1 155 = m.1 155) (e4 : m'.1 148 = m.1 148) : ep_Pr c m' h := by
  obtain ⟨h1, h2, h3⟩ := hP
  refine ⟨h1, h2, ?_⟩
  rw [e1]
  rcases h3 with h3 | ⟨t, e, ho, h4⟩
  · exact Or.inl h3
  · refine Or.inr ⟨t, e, ?_, h4⟩
    unfold ep_On at ho ⊢
    rw [e1, e2, e3, e4]; exact ho
theorem ep_Pr_Z {N h : Nat} {c c' : ep_C} {m m' : ep_M} (hZ : ep_Z N h c m c' m') {h' : Nat} (hP : ep_Pr c m h') : ep_Pr c' m' h' := by
  obtain ⟨⟨f, rfl⟩, ⟨-, e⟩, -⟩ := hZ
  exact ep_Pr_m (c := ep_cG c 0 h f) hP (e 144 (by omega)) (e 149 (by omega)) (e 155 (by omega)) (e 148 (by omega))
theorem ep_Q_Z {N h : Nat} {c c' : ep_C} {m m' : ep_M} (hZ : ep_Z N h c m c' m') {h' : Nat} {pc : Int32} (hQ : ep_Q c m h' pc) : ep_Q c' m' h' pc := by
  have hP := ep_Pr_Z hZ hQ.1
  obtain ⟨⟨f, rfl⟩, ⟨-, e⟩, -⟩ := hZ
  obtain ⟨-, q⟩ := hQ
  refine ⟨hP, ?_⟩
  rw [e 127 (by omega)]
  exact q
theorem ep_inS {N : Nat} {c : ep_C} {m : ep_M} (hR : ep_R N c m) {h : Nat} (hP : ep_Pr c m h) : ∃ b : Bool, (b = true → m.1 144 h = -1 ∧ c.1 124 6 = 0 ∧ m.1 131 h = 1) ∧ (b = false → m.1 144 h ≠ -1 ∨ m.1 131 h = 0) ∧ (∀ {α : Type} (m0 : ep_M) (A : Int32 → Option α), eh_J A (fun j2 => eh_J (fun (u16 : Unit) => j2 0) (fun j15 => if ((ep_mk c m0).1 124 6) = 0 then (if eh_okH ((ep_mk c m0).2.2 4) then if ((ep_mk c m0).1 ((ep_mk c m0).2.2 4) 3) = 1 then (j2 1) else (j15 ()) else none) else (j15 ()))) = A (ep_bi b)) ∧ (∀ {α : Type} (c0 : ep_C) (A : Int32 → Option α), eh_J A (fun j4 => eh_J (fun (u34 : Unit) => j4 0) (fun j33 => if ((ep_mk c0 m).1 144 h) = (-1) then (if ((ep_mk c0 m).1 131 h) = 1 then (j4 1) else (j33 ())) else (j33 ()))) = A (ep_bi b)) := by
  obtain ⟨hh, hq4, hcase⟩ := hP
  have a3 := (hR.2.2.2.2.2.2.2.1 h hh).2.2.1
  have b2 := (hR.2.2.2.2.2.2.2.2.1 h hh).2.1
  have ok : ∀ m0, eh_okH ((ep_mk c m0).2.2 4) = true := fun m0 => by rw [ep_rQ, hq4]; exact ep_okH hh
  have e3 : ∀ m0, (ep_mk c m0).1 ((ep_mk c m0).2.2 4) 3 = m.1 131 h := fun m0 => by rw [ep_rQ, hq4, ep_rH0 _ _ hh]; exact a3
  have e6 : ∀ m0, (ep_mk c m0).1 124 6 = c.1 124 6 := fun m0 => by rw [ep_rC2 _ _ _ (by decide) (by decide)]
  have m144 : ∀ c0, (ep_mk c0 m).1 144 h = m.1 144 h := fun c0 => by rw [ep_rM _ _ _ (by decide)]
  have m131 : ∀ c0, (ep_mk c0 m).1 131 h = m.1 131 h := fun c0 => by rw [ep_rM _ _ _ (by decide)]
  rcases hcase with ⟨hr, h6, h7⟩ | ⟨t, e, ho, h6, h5, h7⟩
  · by_cases y : m.1 131 h = 1
    · refine ⟨true, fun _ => ⟨hr, h6, y⟩, fun z => absurd z (by decide), fun m0 A => ?_, fun c0 A => ?_⟩
      · rw [ep_J, ep_J, e6, h6, if_pos rfl, if_pos (ok m0), e3, if_pos y]; rfl
      · rw [ep_J, ep_J, m144, hr, if_pos rfl, m131, if_pos y]; rfl
    · refine ⟨false, fun z => absurd z (by decide), fun _ => Or.inr (b2.resolve_right y), fun m0 A => ?_, fun c0 A => ?_⟩
      · rw [ep_J, ep_J, e6, h6, if_pos rfl, if_pos (ok m0), e3, if_neg y]; rfl
      · rw [ep_J, ep_J, m144, hr, if_pos rfl, m131, if_neg y]; rfl
  · have hne : ¬ m.1 144 h = -1 := by rw [ho.2.2.2.1]; exact ep_nI_ne_m1 (by have := ho.2.1; omega)
    refine ⟨false, fun z => absurd z (by decide), fun _ => Or.inl hne, fun m0 A => ?_, fun c0 A => ?_⟩
    · rw [ep_J, ep_J, e6, h6, if_neg (by decide)]; rfl
    · rw [ep_J, ep_J, m144, if_neg hne]; rfl
