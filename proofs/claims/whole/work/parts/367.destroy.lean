/-! an enclave is destroyed -/
def ep_c4 (c : ep_C) (X3 X9 X10 X11 : Nat → Int32) : ep_C := (ep_uf (ep_uf (ep_uf (ep_uf c.1 3 X3) 9 X9) 10 X10) 11 X11, c.2)
def ep_m4 (m : ep_M) (Y1 Y2 Y3 Y4 : Nat → Int32) : ep_M := (ep_uf (ep_uf (ep_uf (ep_uf m.1 128 Y1) 147 Y2) 148 Y3) 164 Y4, m.2)
theorem ep_c4_id (c : ep_C) : ep_c4 c (c.1 3) (c.1 9) (c.1 10) (c.1 11) = c := by
  refine Prod.ext ?_ rfl
  funext a
  simp only [ep_c4, ep_uf]
  by_cases h1 : a = 11 <;> by_cases h2 : a = 10 <;> by_cases h3 : a = 9 <;> by_cases h4 : a = 3 <;> simp [h1, h2, h3, h4]
theorem ep_m4_id (m : ep_M) : ep_m4 m (m.1 128) (m.1 147) (m.1 148) (m.1 164) = m := by
  refine Prod.ext ?_ rfl
  funext a
  simp only [ep_m4, ep_uf]
  by_cases h1 : a = 164 <;> by_cases h2 : a = 148 <;> by_cases h3 : a = 147 <;> by_cases h4 : a = 128 <;> simp [h1, h2, h3, h4]
theorem ep_ctb_c4 (c : ep_C) (X3 X9 X10 X11 : Nat → Int32) (k b n : Nat) (s : Int32) : ep_ctb (ep_c4 c X3 X9 X10 X11) k b n s = ep_c4 c (upd X3 k 0) (if s = 2 then X9 else ep_in_ X9 (64 * b) (64 * n) fun _ => 0) (ep_in_ X10 b n fun _ => -1) (if s = 2 then X11 else ep_wcl X11 (nI (64 * b)) (nI (64 * b + 64 * n)) 2) := by
  unfold ep_ctb
  by_cases y : s = 2
  · rw [if_pos y, if_pos y, if_pos y]
    refine Prod.ext ?_ rfl
    funext a
    simp only [ep_c4, ep_cI, ep_cL, ep_uf]
    by_cases h1 : a = 11 <;> by_cases h2 : a = 10 <;> by_cases h3 : a = 9 <;> by_cases h4 : a = 3 <;> simp [h1, h2, h3, h4]
  · rw [if_neg y, if_neg y, if_neg y]
    refine Prod.ext ?_ rfl
    funext a
    simp only [ep_c4, ep_cI, ep_cL, ep_cwp, ep_c2, ep_uf]
    by_cases h1 : a = 11 <;> by_cases h2 : a = 10 <;> by_cases h3 : a = 9 <;> by_cases h4 : a = 3 <;> simp [h1, h2, h3, h4]
theorem ep_mtb_m4 (m : ep_M) (Y1 Y2 Y3 Y4 : Nat → Int32) (k b n : Nat) (s : Int32) : ep_mtb (ep_m4 m Y1 Y2 Y3 Y4) k b n s = ep_m4 m (if s = 2 then Y1 else ep_in_ Y1 (256 * b) (256 * n) fun _ => 0) (if s = 2 then Y2 else ep_clrs Y2 (256 * b) (256 * n)) Y3 (upd Y4 k 0) := by
  unfold ep_mtb
  by_cases y : s = 2
  · rw [if_pos y, if_pos y, if_pos y]
    refine Prod.ext ?_ rfl
    funext a
    simp only [ep_m4, ep_mI, ep_mL, ep_uf]
    by_cases h1 : a = 164 <;> by_cases h2 : a = 148 <;> by_cases h3 : a = 147 <;> by_cases h4 : a = 128 <;> simp [h1, h2, h3, h4]
  · rw [if_neg y, if_neg y, if_neg y]
    refine Prod.ext ?_ rfl
    funext a
    simp only [ep_m4, ep_mI, ep_mL, ep_mwp, ep_m2, ep_uf]
    by_cases h1 : a = 164 <;> by_cases h2 : a = 148 <;> by_cases h3 : a = 147 <;> by_cases h4 : a = 128 <;> simp [h1, h2, h3, h4]
theorem ep_m4_I (m : ep_M) (Y1 Y2 Y3 Y4 : Nat → Int32) (i : Nat) (v : Int32) : ep_mI (ep_m4 m Y1 Y2 Y3 Y4) 148 i v = ep_m4 m Y1 Y2 (upd Y3 i v) Y4 := by
  refine Prod.ext ?_ rfl
  funext a
  simp only [ep_m4, ep_mI, ep_mL, ep_uf]
  by_cases h1 : a = 164 <;> by_cases h2 : a = 148 <;> by_cases h3 : a = 147 <;> by_cases h4 : a = 128 <;> simp [h1, h2, h3, h4]
def ep_hit (m : ep_M) (e k : Nat) : Bool := !decide (m.1 164 k = 0) && ep_of (m.1 164) (m.1 167) (m.1 168) k (nI e)
def ep_sz (m : ep_M) (e i : Nat) : Nat → Int32 := fun k => if k < i ∧ ep_hit m e k = true then 0 else m.1 164 k
def ep_tz (m : ep_M) (e i : Nat) : Nat → Int32 := fun t => if t < i ∧ m.1 149 t = nI e then 0 else m.1 148 t
theorem ep_sz_0 (m : ep_M) (e : Nat) : ep_sz m e 0 = m.1 164 := by
  funext k; unfold ep_sz; rw [if_neg (fun z => Nat.not_lt_zero _ z.1)]
theorem ep_tz_0 (m : ep_M) (e : Nat) : ep_tz m e 0 = m.1 148 := by
  funext k; unfold ep_tz; rw [if_neg (fun z => Nat.not_lt_zero _ z.1)]
theorem ep_sz_i (m : ep_M) (e i : Nat) : ep_sz m e i i = m.1 164 i := by
  unfold ep_sz; rw [if_neg (fun z => Nat.lt_irrefl _ z.1)]
theorem ep_tz_i (m : ep_M) (e i : Nat) : ep_tz m e i i = m.1 148 i := by
  unfold ep_tz; rw [if_neg (fun z => Nat.lt_irrefl _ z.1)]
theorem ep_sz_y {m : ep_M} {e i : Nat} (h : ep_hit m e i = true) : upd (ep_sz m e i) i 0 = ep_sz m e (i + 1) := by
  funext k
  unfold upd ep_sz
  by_cases z : k = i
  · rw [if_pos z, if_pos ⟨by omega, by rw [z]; exact h⟩]
  · rw [if_neg z]
    by_cases w : k < i ∧ ep_hit m e k = true
    · rw [if_pos w, if_pos ⟨by have := w.1; omega, w.2⟩]
    · rw [if_neg w, if_neg (fun q => w ⟨by have := q.1; omega, q.2⟩)]
theorem ep_sz_n {m : ep_M} {e i : Nat} (h : ep_hit m e i = false) : ep_sz m e (i + 1) = ep_sz m e i := by
  funext k
  unfold ep_sz
  by_cases w : k < i ∧ ep_hit m e k = true
  · rw [if_pos w, if_pos ⟨by have := w.1; omega, w.2⟩]
  · rw [if_neg w, if_neg]
    intro q
    by_cases z : k = i
    · rw [z, h] at q; exact absurd q.2 (by decide)
    · exact w ⟨by have := q.1; omega, q.2⟩
theorem ep_tz_s (m : ep_M) (e i : Nat) : upd (ep_tz m e i) i (if m.1 149 i = nI e then 0 else m.1 148 i) = ep_tz m e (i + 1) := by
  funext k
  unfold upd ep_tz
  by_cases z : k = i
  · subst z
    rw [if_pos rfl]
    by_cases w : m.1 149 k = nI e
    · rw [if_pos w, if_pos ⟨by omega, w⟩]
    · rw [if_neg w, if_neg (fun q => w q.2)]
  · rw [if_neg z]
    by_cases w : k < i ∧ m.1 149 k = nI e
    · rw [if_pos w, if_pos ⟨by have := w.1; omega, w.2⟩]
    · rw [if_neg w, if_neg (fun q => w ⟨by have := q.1; omega, q.2⟩)]
theorem ep_side0 {S O T : Nat → Int32} {k e : Nat} (he : e < 6) (hT : S k ≠ 3 → T k = -1) : ((if O k = nI e then (1 : Int32) else if T k = nI e then 2 else 0) = 0) ↔ ep_of S O T k (nI e) = false := by
  unfold ep_of
  by_cases a : O k = nI e
  · simp [a]
  · by_cases b : T k = nI e
    · have s3 : S k = 3 := Decidable.byContradiction fun z => by
        have := hT z
        rw [b] at this
        exact ep_nI_ne_m1 (by omega) this
      simp [a, b, s3]
    · simp [a, b]
theorem ep_dloop {N : Nat} {c : ep_C} {m : ep_M} (hR : ep_R N c m) {e : Nat} (he : e < 6) : ∃ c1 m1, (∃ X9 X10 X11 Y1 Y2, c1 = ep_c4 c (ep_sz m e 12) X9 X10 X11 ∧ m1 = ep_m4 m Y1 Y2 (ep_tz m e 12) (ep_sz m e 12) ∧ ep_Gm X9 Y1 ∧ ep_Gres X11 Y2 ∧ ep_Gr2 (ep_sz m e 12) (m.1 165) (m.1 166) (m.1 167) (m.1 168) X10 (m.1 155) (m.1 156)) ∧ (∀ m0, eh_loop (fun (r26 : (Int32 × eh_F) → Option (eh_F)) (t5 : Int32 × eh_F) => if t5.1 < 12 then (if eh_in t5.1 12 then eh_J (fun (s29 : eh_F) => eh_V ((t5.1 + 1) : Int32) (fun x30 => r26 (x30, s29))) (fun j28 => if (t5.2.1 3 (eh_ix t5.1)) = 0 then (j28 t5.2) else (Option.bind (eF_6_sideOf t5.2 t5.1 (nI e)) (fun q32 => if q32 = 0 then (j28 t5.2) else (Option.bind (eF_6_takeBack t5.2 t5.1) (fun q34 => j28 q34))))) else none) else (some t5.2)) eh_FU (nI 0, ep_mk c m0) = some (ep_mk c1 m0)) ∧ (∀ c0, eh_loop (fun (r12 : (Int32 × eh_F) → Option (eh_F)) (t4 : Int32 × eh_F) => if t4.1 < 12 then (if eh_in t4.1 12 then eh_J (fun (s15 : eh_F) => if eh_in t4.1 12 then eh_J (fun (a17 : Int32) => if eh_in t4.1 12 then eh_V (eh_tI s15 148 (eh_ix t4.1) a17) (fun s18 => eh_V ((t4.1 + 1) : Int32) (fun x19 => r12 (x19, s18))) else none) (fun j16 => if (s15.1 149 (eh_ix t4.1)) = nI e then (j16 0) else (if eh_in t4.1 12 then j16 (s15.1 148 (eh_ix t4.1)) else none)) else none) (fun j14 => if (t4.2.1 164 (eh_ix t4.1)) = 0 then (j14 t4.2) else (Option.bind (eF_12_isOf t4.2 t4.1 (nI e)) (fun q22 => if q22 = 0 then (j14 t4.2) else (Option.bind (eF_12_drop t4.2 t4.1) (fun q24 => j14 q24))))) else none) else (some t4.2)) eh_FU (nI 0, ep_mk c0 m) = some (ep_mk c0 m1)) := by
  obtain ⟨r3, r4, r5, r6, r7, r8⟩ := hR.2.2.1
  refine ep_lock (fun i s => (nI i, s)) (fun i s => (nI i, s)) (fun i c' m' => ∃ X9 X10 X11 Y1 Y2, c' = ep_c4 c (ep_sz m e i) X9 X10 X11 ∧ m' = ep_m4 m Y1 Y2 (ep_tz m e i) (ep_sz m e i) ∧ ep_Gm X9 Y1 ∧ ep_Gres X11 Y2 ∧ ep_Gr2 (ep_sz m e i) (m.1 165) (m.1 166) (m.1 167) (m.1 168) X10 (m.1 155) (m.1 156)) 12 (by decide) ?_ ?_ ?_
  · rintro i c' m' hi ⟨X9, X10, X11, Y1, Y2, rfl, rfl, g1, g2, g3⟩
    have z1 : nI i < 12 := nI_lt (b := 12) hi (by decide)
    have z2 : eh_in (nI i) 12 = true := ep_in hi (by decide)
    have z3 : eh_ix (nI i) = i := ep_ix (by omega)
    have tail : ∀ (c0 : ep_C) (rec : Int32 × eh_F → Option eh_F) (M : ep_M), M.1 149 i = m.1 149 i → M.1 148 i = m.1 148 i → (if eh_in (nI i) 12 = true then eh_J (fun (a17 : Int32) => if eh_in (nI i) 12 = true then eh_V (eh_tI (ep_mk c0 M) 148 i a17) (fun s18 => eh_V ((nI i + 1) : Int32) (fun x19 => rec (x19, s18))) else none) (fun j16 => if ((ep_mk c0 M).1 149 i) = nI e then (j16 0) else (if eh_in (nI i) 12 = true then j16 ((ep_mk c0 M).1 148 i) else none)) else none) = rec (nI (i + 1), ep_mk c0 (ep_mI M 148 i (if m.1 149 i = nI e then 0 else m.1 148 i))) := by
      intro c0 rec M h1 h2
      rw [if_pos z2, ep_J, ep_rM _ _ 149 (by decide), ep_rM _ _ 148 (by decide), h1, h2]
      by_cases w : m.1 149 i = nI e
      · rw [if_pos w, if_pos w]
        dsimp only
        rw [if_pos z2, ep_V, ep_iM _ _ _ _ _ (by decide), ep_V, nI_1]
      · rw [if_neg w, if_neg w, if_pos z2]
        dsimp only
        rw [if_pos z2, ep_V, ep_iM _ _ _ _ _ (by decide), ep_V, nI_1]
    have cs3 : (ep_c4 c (ep_sz m e i) X9 X10 X11).1 3 i = m.1 164 i := ep_sz_i m e i
    have ms4 : (ep_m4 m Y1 Y2 (ep_tz m e i) (ep_sz m e i)).1 164 i = m.1 164 i := ep_sz_i m e i
    have c6 : (ep_c4 c (ep_sz m e i) X9 X10 X11).1 6 = m.1 167 := r6
    have c7 : (ep_c4 c (ep_sz m e i) X9 X10 X11).1 7 = m.1 168 := r7
    have mof : ep_of ((ep_m4 m Y1 Y2 (ep_tz m e i) (ep_sz m e i)).1 164) ((ep_m4 m Y1 Y2 (ep_tz m e i) (ep_sz m e i)).1 167) ((ep_m4 m Y1 Y2 (ep_tz m e i) (ep_sz m e i)).1 168) i (nI e) = ep_of (m.1 164) (m.1 167) (m.1 168) i (nI e) := by
      unfold ep_of
      rw [ms4]
      rfl
    have hT : m.1 164 i ≠ 0 → m.1 164 i ≠ 3 → m.1 168 i = -1 := fun h0 => (hR.2.2.2.1.1 i hi h0).2.2.2.2
    cases hh : ep_hit m e i with
    | false =>
      refine ⟨_, _, ⟨X9, X10, X11, Y1, Y2, rfl, rfl, g1, g2, ?_⟩, fun m0 rec => ?_, fun c0 rec => ?_⟩
      · rw [ep_sz_n hh]; exact g3
      · show (if nI i < 12 then _ else _) = _
        rw [if_pos z1, if_pos z2, z3, ep_J, ep_rC1 _ _ 3 (by decide), cs3, ep_sz_n hh]
        by_cases s0 : m.1 164 i = 0
        · rw [if_pos s0]
          simp only [ep_V, nI_1]
        · have hof : ep_of (m.1 164) (m.1 167) (m.1 168) i (nI e) = false := by
            unfold ep_hit at hh
            simpa [s0] using hh
          rw [if_neg s0, ep_csideOf _ hi, ep_sb, c6, c7, if_pos ((ep_side0 he (hT s0)).mpr hof)]
          simp only [ep_V, nI_1]
      · show (if nI i < 12 then _ else _) = _
        rw [if_pos z1, if_pos z2, z3, ep_J, ep_rM _ _ 164 (by decide), ms4, ep_sz_n hh]
        by_cases s0 : m.1 164 i = 0
        · rw [if_pos s0]
          refine Eq.trans (tail c0 rec _ rfl (ep_tz_i m e i)) ?_
          rw [ep_m4_I, ep_tz_s]
        · have hof : ep_of (m.1 164) (m.1 167) (m.1 168) i (nI e) = false := by
            unfold ep_hit at hh
            simpa [s0] using hh
          rw [if_neg s0, ep_misOf _ hi, ep_sb, mof, hof, if_pos ep_bf]
          refine Eq.trans (tail c0 rec _ rfl (ep_tz_i m e i)) ?_
          rw [ep_m4_I, ep_tz_s]
    | true =>
      have hof : ep_of (m.1 164) (m.1 167) (m.1 168) i (nI e) = true := by
        unfold ep_hit at hh
        rw [Bool.and_eq_true] at hh
        exact hh.2
      have s0 : ¬ m.1 164 i = 0 := by
        unfold ep_hit at hh
        rw [Bool.and_eq_true] at hh
        simpa using hh.1
      obtain ⟨-, ⟨b, n, n0, bn, hB, hZ, hP⟩, -⟩ := g3.1 i hi (by rw [ep_sz_i]; exact s0)
      have hnf : ¬ ((if m.1 167 i = nI e then (1 : Int32) else if m.1 168 i = nI e then 2 else 0) = 0) := fun z => by
        rw [ep_side0 he (hT s0), hof] at z
        exact absurd z (by decide)
      refine ⟨_, _, ⟨if m.1 164 i = 2 then X9 else ep_in_ X9 (64 * b) (64 * n) fun _ => 0, ep_in_ X10 b n fun _ => -1, if m.1 164 i = 2 then X11 else ep_wcl X11 (nI (64 * b)) (nI (64 * b + 64 * n)) 2, if m.1 164 i = 2 then Y1 else ep_in_ Y1 (256 * b) (256 * n) fun _ => 0, if m.1 164 i = 2 then Y2 else ep_clrs Y2 (256 * b) (256 * n), rfl, rfl, ?_, ?_, ?_⟩, fun m0 rec => ?_, fun c0 rec => ?_⟩
      · by_cases y : m.1 164 i = 2
        · rw [if_pos y, if_pos y]; exact g1
        · rw [if_neg y, if_neg y]; exact ep_Gm_z g1 b n
      · by_cases y : m.1 164 i = 2
        · rw [if_pos y, if_pos y]; exact g2
        · rw [if_neg y, if_neg y]; exact ep_Gres_z g2 bn
      · rw [← ep_sz_y hh]
        exact ep_Gr2_drop g3 hi (by rw [ep_sz_i]; exact s0) hB hZ hP
      · show (if nI i < 12 then _ else _) = _
        rw [if_pos z1, if_pos z2, z3, ep_J, ep_rC1 _ _ 3 (by decide), cs3, if_neg s0, ep_csideOf _ hi, ep_sb, c6, c7, if_neg hnf, ep_ctake _ _ hi bn (by show c.1 4 i = _; rw [r4]; exact hB) (by show c.1 5 i = _; rw [r5]; exact hZ), ep_sb, cs3, ep_ctb_c4, ep_sz_y hh]
        simp only [ep_V, nI_1]
      · show (if nI i < 12 then _ else _) = _
        rw [if_pos z1, if_pos z2, z3, ep_J, ep_rM _ _ 164 (by decide), ms4, if_neg s0, ep_misOf _ hi, ep_sb, mof, hof, if_neg ep_bt, ep_mdrop_ _ _ hi bn (by show m.1 165 i = _; exact hB) (by show m.1 166 i = _; exact hZ), ep_sb, ms4, ep_mtb_m4, ep_sz_y hh]
        refine Eq.trans (tail c0 rec _ rfl (ep_tz_i m e i)) ?_
        rw [ep_m4_I, ep_tz_s]
  · intro c' m' _
    refine ⟨fun m0 rec => ?_, fun c0 rec => ?_⟩
    · show (if nI 12 < 12 then _ else _) = _
      rw [if_neg (by decide)]
    · show (if nI 12 < 12 then _ else _) = _
      rw [if_neg (by decide)]
  · refine ⟨c.1 9, c.1 10, c.1 11, m.1 128, m.1 147, ?_, ?_, hR.1, hR.2.2.2.2.1, ?_⟩
    · rw [ep_sz_0, ← r3, ep_c4_id]
    · rw [ep_sz_0, ep_tz_0, ep_m4_id]
    · rw [ep_sz_0]; exact ep_Gr2_of hR.2.2.2.1
/-- an enclave's threads are no more -/
def ep_ct (c : ep_C) (b : Nat → Bool) (i : Nat) : ep_C := (c.1, fun a t => if a = 2 then (if t < i ∧ b t = true then upd (c.2.1 2 t) 6 0 else c.2.1 2 t) else c.2.1 a t, c.2.2)
theorem ep_ct_0 (c : ep_C) (b : Nat → Bool) : ep_ct c b 0 = c := by
  refine Prod.ext rfl (Prod.ext ?_ rfl)
  funext a t
  show (if a = 2 then (if t < 0 ∧ b t = true then _ else _) else _) = _
  rw [if_neg (fun z : t < 0 ∧ b t = true => Nat.not_lt_zero _ z.1)]
  by_cases h : a = 2
  · rw [if_pos h, h]
  · rw [if_neg h]
theorem ep_ct_2 (c : ep_C) (b : Nat → Bool) (i t : Nat) : (ep_ct c b i).2.1 2 t = if t < i ∧ b t = true then upd (c.2.1 2 t) 6 0 else c.2.1 2 t := rfl
theorem ep_ct_y {c : ep_C} {b : Nat → Bool} {i : Nat} (h : b i = true) : ep_cH (ep_ct c b i) 2 i 6 0 = ep_ct c b (i + 1) := by
  refine Prod.ext rfl (Prod.ext ?_ rfl)
  funext a t
  by_cases ha : a = 2
  · subst ha
    rw [ep_cHe, ep_ct_2, ep_ct_2, ep_ct_2, if_neg (show ¬ (i < i ∧ b i = true) from fun z => Nat.lt_irrefl _ z.1)]
    by_cases z : t = i
    · subst z; rw [if_pos rfl, if_pos ⟨by omega, h⟩]
    · rw [if_neg z]
      by_cases w : t < i ∧ b t = true
      · rw [if_pos w, if_pos ⟨by have := w.1; omega, w.2⟩]
      · rw [if_neg w, if_neg (fun q => w ⟨by have := q.1; omega, q.2⟩)]
  · rw [ep_cHi _ _ _ _ _ _ _ ha]
    show (if a = 2 then _ else _) = (if a = 2 then _ else _)
    rw [if_neg ha, if_neg ha]
theorem ep_ct_n {c : ep_C} {b : Nat → Bool} {i : Nat} (h : ¬ b i = true) : ep_ct c b i = ep_ct c b (i + 1) := by
  refine Prod.ext rfl (Prod.ext ?_ rfl)
  funext a t
  by_cases ha : a = 2
  · subst ha
    rw [ep_ct_2, ep_ct_2]
    by_cases w : t < i ∧ b t = true
    · rw [if_pos w, if_pos ⟨by have := w.1; omega, w.2⟩]
    · rw [if_neg w, if_neg]
      intro q
      by_cases z : t = i
      · rw [z] at q; exact h q.2
      · exact w ⟨by have := q.1; omega, q.2⟩
  · show (if a = 2 then _ else _) = (if a = 2 then _ else _)
    rw [if_neg ha, if_neg ha]
theorem ep_cthreads (c : ep_C) (m0 : ep_M) (p : Int32) (F : Nat → Int32) (hF : ∀ t, t < 12 → c.2.1 2 t 3 = F t) : eh_loop (fun (r16 : (Int32 × eh_F) → Option (eh_F)) (t7 : Int32 × eh_F) => if t7.1 < 12 then (if eh_in t7.1 12 then eh_J (fun (s20 : eh_F) => eh_V ((t7.1 + 1) : Int32) (fun x21 => r16 (x21, s20))) (fun j19 => if (t7.2.1 (eh_fp t7.1) 3) = p then (if eh_in t7.1 12 then eh_V (eh_tI t7.2 (eh_fp t7.1) 6 0) (fun s24 => j19 s24) else none) else (j19 t7.2)) else none) else (some t7.2)) eh_FU (0, ep_mk c m0) = some (ep_mk (ep_ct c (fun t => decide (F t = p)) 12) m0) := by
  refine ep_loop (fun i => (nI i, ep_mk (ep_ct c (fun t => decide (F t = p)) i) m0)) 12 _ (ep_FU _ (by decide)) ?_ ?_ ?_
  · intro i hi rec
    have z1 : nI i < 12 := nI_lt (b := 12) hi (by decide)
    have z2 : eh_in (nI i) 12 = true := ep_in hi (by decide)
    have f3 : (ep_ct c (fun t => decide (F t = p)) i).2.1 2 i 3 = F i := by
      rw [ep_ct_2, if_neg (fun z => Nat.lt_irrefl _ z.1)]; exact hF i hi
    show (if nI i < 12 then _ else _) = _
    rw [if_pos z1, if_pos z2, ep_J, ep_rF0 _ _ hi, f3]
    by_cases y : F i = p
    · rw [if_pos y, if_pos z2]
      simp only [ep_V, nI_1]
      rw [ep_iF0 _ _ _ _ hi, ep_ct_y (by simp [y])]
    · rw [if_neg y]
      simp only [ep_V, nI_1]
      rw [ep_ct_n (by simp [y])]
  · intro rec
    show (if nI 12 < 12 then _ else _) = _
    rw [if_neg (by decide)]
  · show _ = (nI 0, ep_mk (ep_ct c _ 0) m0)
    rw [ep_ct_0]
    rfl
theorem ep_R_path {N : Nat} {c : ep_C} {m : ep_M} (hR : ep_R N c m) {v : Int32} (hv : v = -1 ∨ ∃ e, e < 6 ∧ v = nI e) : ep_R N (ep_cI (ep_cI (ep_cI c 12 14 v) 22 1 0) 24 1 0) (ep_mI (ep_mI (ep_mI m 127 67 v) 127 64 0) 127 66 0) := by
  obtain ⟨d0, d1, d2, d3, d4, d5, d6, d7, d8, d9, d10⟩ := hR.2.2.2.2.2.2.2.2.2.2.2.2.2.2.2.2.2.2.2.2.2.2.2.2.2.2.2.2.1
  exact ⟨hR.1, hR.2.1, hR.2.2.1, hR.2.2.2.1, hR.2.2.2.2.1, hR.2.2.2.2.2.1, hR.2.2.2.2.2.2.1, hR.2.2.2.2.2.2.2.1, hR.2.2.2.2.2.2.2.2.1, hR.2.2.2.2.2.2.2.2.2.1, hR.2.2.2.2.2.2.2.2.2.2.1, hR.2.2.2.2.2.2.2.2.2.2.2.1, hR.2.2.2.2.2.2.2.2.2.2.2.2.1, hR.2.2.2.2.2.2.2.2.2.2.2.2.2.1, hR.2.2.2.2.2.2.2.2.2.2.2.2.2.2.1, hR.2.2.2.2.2.2.2.2.2.2.2.2.2.2.2.1, hR.2.2.2.2.2.2.2.2.2.2.2.2.2.2.2.2.1, hR.2.2.2.2.2.2.2.2.2.2.2.2.2.2.2.2.2.1, hR.2.2.2.2.2.2.2.2.2.2.2.2.2.2.2.2.2.2.1, hR.2.2.2.2.2.2.2.2.2.2.2.2.2.2.2.2.2.2.2.1, hR.2.2.2.2.2.2.2.2.2.2.2.2.2.2.2.2.2.2.2.2.1, hR.2.2.2.2.2.2.2.2.2.2.2.2.2.2.2.2.2.2.2.2.2.1, hR.2.2.2.2.2.2.2.2.2.2.2.2.2.2.2.2.2.2.2.2.2.2.1, hR.2.2.2.2.2.2.2.2.2.2.2.2.2.2.2.2.2.2.2.2.2.2.2.1, hR.2.2.2.2.2.2.2.2.2.2.2.2.2.2.2.2.2.2.2.2.2.2.2.2.1, hR.2.2.2.2.2.2.2.2.2.2.2.2.2.2.2.2.2.2.2.2.2.2.2.2.2.1, hR.2.2.2.2.2.2.2.2.2.2.2.2.2.2.2.2.2.2.2.2.2.2.2.2.2.2.1, hR.2.2.2.2.2.2.2.2.2.2.2.2.2.2.2.2.2.2.2.2.2.2.2.2.2.2.2.1, ⟨d0, d1, d2, d3, d4, d5, d6, d7, rfl, hv, d10⟩, hR.2.2.2.2.2.2.2.2.2.2.2.2.2.2.2.2.2.2.2.2.2.2.2.2.2.2.2.2.2.1, hR.2.2.2.2.2.2.2.2.2.2.2.2.2.2.2.2.2.2.2.2.2.2.2.2.2.2.2.2.2.2.1, hR.2.2.2.2.2.2.2.2.2.2.2.2.2.2.2.2.2.2.2.2.2.2.2.2.2.2.2.2.2.2.2.1, ⟨hR.2.2.2.2.2.2.2.2.2.2.2.2.2.2.2.2.2.2.2.2.2.2.2.2.2.2.2.2.2.2.2.2.1.1, rfl, 0, by decide, rfl⟩, ⟨hR.2.2.2.2.2.2.2.2.2.2.2.2.2.2.2.2.2.2.2.2.2.2.2.2.2.2.2.2.2.2.2.2.2.1, rfl, 0, by decide, rfl⟩⟩
theorem ep_cgpath (c : ep_C) (v : Int32) (m0 : ep_M) : eF_0_givePath (ep_mk c m0) v = some (ep_mk (ep_cI (ep_cI (ep_cI c 12 14 v) 22 1 0) 24 1 0) m0) := by
  unfold eF_0_givePath eF_8_clear
  simp (disch := first | assumption | decide) only [↓ep_V, ↓ep_J, ↓ep_sb, ↓reduceIte, ep_rC1, ep_rC2, ep_rM, ep_rJ, ep_rQ, ep_wC1, ep_wC2, ep_wM, ep_iC1, ep_iC2, ep_iM, ep_wJ, ep_wQ, ep_cI1, ep_cIn, ep_cI2, ep_cL1, ep_cLn, ep_cL2, ep_cG1, ep_cGq, ep_cQ1, ep_cQ2, ep_cQq, ep_cQn, ep_mI1, ep_mIn, ep_mI2, ep_mL1, ep_mLn, ep_mL2, ep_mJ1, ep_mJ2]
theorem ep_mcpath (m : ep_M) (v : Int32) (c0 : ep_C) : eF_12_clearPath (ep_mk c0 m) v = some (ep_mk c0 (ep_mI (ep_mI (ep_mI m 127 67 v) 127 64 0) 127 66 0)) := by
  unfold eF_12_clearPath
  simp (disch := first | assumption | decide) only [↓ep_V, ↓ep_J, ↓ep_sb, ↓reduceIte, ep_rC1, ep_rC2, ep_rM, ep_rJ, ep_rQ, ep_wC1, ep_wC2, ep_wM, ep_iC1, ep_iC2, ep_iM, ep_wJ, ep_wQ, ep_cI1, ep_cIn, ep_cI2, ep_cL1, ep_cLn, ep_cL2, ep_cG1, ep_cGq, ep_cQ1, ep_cQ2, ep_cQq, ep_cQn, ep_mI1, ep_mIn, ep_mI2, ep_mL1, ep_mLn, ep_mL2, ep_mJ1, ep_mJ2]
theorem ep_R_dest {N : Nat} {c : ep_C} {m : ep_M} (hR : ep_R N c m) {e : Nat} (he : e < 6) (hE : m.1 155 e ≠ 2) {X9 X10 X11 Y1 Y2 : Nat → Int32} (g1 : ep_Gm X9 Y1) (g2 : ep_Gres X11 Y2) (g3 : ep_Gr2 (ep_sz m e 12) (m.1 165) (m.1 166) (m.1 167) (m.1 168) X10 (m.1 155) (m.1 156)) : ep_R N (ep_cH (ep_ct (ep_c4 c (ep_sz m e 12) X9 X10 X11) (fun t => decide (m.1 149 t = nI e)) 12) 4 e 5 0) (ep_mI (ep_m4 m Y1 Y2 (ep_tz m e 12) (ep_sz m e 12)) 155 e 0) := by
  have tzn : ∀ t, t < 12 → ep_tz m e 12 t ≠ 0 → m.1 148 t ≠ 0 ∧ m.1 149 t ≠ nI e ∧ ep_tz m e 12 t = m.1 148 t := by
    intro t ht h
    unfold ep_tz at h ⊢
    by_cases w : t < 12 ∧ m.1 149 t = nI e
    · rw [if_pos w] at h; exact absurd rfl h
    · rw [if_neg w] at h ⊢; exact ⟨h, fun z => w ⟨ht, z⟩, rfl⟩
  have szn : ∀ k, k < 12 → ep_sz m e 12 k ≠ 0 → ep_sz m e 12 k = m.1 164 k ∧ ep_of (m.1 164) (m.1 167) (m.1 168) k (nI e) = false := by
    intro k hk h
    unfold ep_sz at h ⊢
    by_cases w : k < 12 ∧ ep_hit m e k = true
    · rw [if_pos w] at h; exact absurd rfl h
    · rw [if_neg w] at h ⊢
      refine ⟨rfl, ?_⟩
      have : ¬ ep_hit m e k = true := fun z => w ⟨hk, z⟩
      unfold ep_hit at this
      simpa [h] using this
  have ofn : ∀ {k}, ep_of (m.1 164) (m.1 167) (m.1 168) k (nI e) = false → m.1 167 k ≠ nI e ∧ (m.1 164 k = 3 → m.1 168 k ≠ nI e) := by
    intro k h
    unfold ep_of at h
    refine ⟨fun z => ?_, fun z1 z2 => ?_⟩
    · simp [z] at h
    · simp [z1, z2] at h
  have ene : ∀ {x : Int32} {e'}, x = nI e' → x ≠ nI e → e' ≠ e := fun h1 h2 z => h2 (by rw [h1, z])
  have c2 : ∀ t, (ep_cH (ep_ct (ep_c4 c (ep_sz m e 12) X9 X10 X11) (fun t => decide (m.1 149 t = nI e)) 12) 4 e 5 0).2.1 2 t = if t < 12 ∧ decide (m.1 149 t = nI e) = true then upd (c.2.1 2 t) 6 0 else c.2.1 2 t := by
    intro t
    rw [ep_cHi _ _ _ _ _ _ _ (by decide), ep_ct_2]
    rfl
  have c4 : ∀ e', (ep_cH (ep_ct (ep_c4 c (ep_sz m e 12) X9 X10 X11) (fun t => decide (m.1 149 t = nI e)) 12) 4 e 5 0).2.1 4 e' = if e' = e then upd (c.2.1 4 e) 5 0 else c.2.1 4 e' := by
    intro e'
    rw [ep_cHe]
    rfl
  have rg : ep_Gr (ep_sz m e 12) (m.1 165) (m.1 166) (m.1 167) (m.1 168) X10 (upd (m.1 155) e 0) (m.1 156) := by
    refine ⟨fun k hk hs => ?_, g3.2, fun e' he' hE' => ?_⟩
    · obtain ⟨a1, a2, ⟨x, x1, x2, x3, x4⟩, a3, a4⟩ := g3.1 k hk hs
      obtain ⟨s1, s2⟩ := szn k hk hs
      obtain ⟨o1, o2⟩ := ofn s2
      refine ⟨a1, a2, ⟨x, x1, x2, ?_, x4⟩, fun z => ?_, a4⟩
      · rw [ep_upd_ne (ene x2 o1)]; exact x3
      · obtain ⟨y, y1, y2, y3, y4⟩ := a3 z
        refine ⟨y, y1, y2, ?_, y4⟩
        rw [ep_upd_ne (ene y2 (o2 (by rw [← s1]; exact z)))]; exact y3
    · have y : e' ≠ e := fun z => by rw [z, ep_upd_eq] at hE'; exact hE' rfl
      rw [ep_upd_ne y] at hE'
      obtain ⟨w, w1, w2, w3, w4⟩ := hR.2.2.2.1.2.2 e' he' hE'
      refine ⟨w, w1, w2, ?_, w4⟩
      have : ep_hit m e w = false := by
        unfold ep_hit ep_of
        have o1 : ¬ m.1 167 w = nI e := fun z => y ((nI_eq (by omega) (by omega)).mp (w4.symm.trans z))
        simp [w3, o1]
      unfold ep_sz
      rw [if_neg (fun z => by rw [this] at z; exact absurd z.2 (by decide))]
      exact w3
  refine ⟨g1, hR.2.1, ⟨rfl, hR.2.2.1.2⟩, rg, g2, hR.2.2.2.2.2.1, hR.2.2.2.2.2.2.1, hR.2.2.2.2.2.2.2.1, hR.2.2.2.2.2.2.2.2.1, hR.2.2.2.2.2.2.2.2.2.1, ?_, hR.2.2.2.2.2.2.2.2.2.2.2.1, ?_, ?_, ?_, ?_, ?_, ?_, hR.2.2.2.2.2.2.2.2.2.2.2.2.2.2.2.2.2.2.1, hR.2.2.2.2.2.2.2.2.2.2.2.2.2.2.2.2.2.2.2.1, hR.2.2.2.2.2.2.2.2.2.2.2.2.2.2.2.2.2.2.2.2.1, hR.2.2.2.2.2.2.2.2.2.2.2.2.2.2.2.2.2.2.2.2.2.1, ?_, hR.2.2.2.2.2.2.2.2.2.2.2.2.2.2.2.2.2.2.2.2.2.2.2.1, hR.2.2.2.2.2.2.2.2.2.2.2.2.2.2.2.2.2.2.2.2.2.2.2.2.1, hR.2.2.2.2.2.2.2.2.2.2.2.2.2.2.2.2.2.2.2.2.2.2.2.2.2.1, hR.2.2.2.2.2.2.2.2.2.2.2.2.2.2.2.2.2.2.2.2.2.2.2.2.2.2.1, hR.2.2.2.2.2.2.2.2.2.2.2.2.2.2.2.2.2.2.2.2.2.2.2.2.2.2.2.1, hR.2.2.2.2.2.2.2.2.2.2.2.2.2.2.2.2.2.2.2.2.2.2.2.2.2.2.2.2.1, hR.2.2.2.2.2.2.2.2.2.2.2.2.2.2.2.2.2.2.2.2.2.2.2.2.2.2.2.2.2.1, hR.2.2.2.2.2.2.2.2.2.2.2.2.2.2.2.2.2.2.2.2.2.2.2.2.2.2.2.2.2.2.1, hR.2.2.2.2.2.2.2.2.2.2.2.2.2.2.2.2.2.2.2.2.2.2.2.2.2.2.2.2.2.2.2.1, hR.2.2.2.2.2.2.2.2.2.2.2.2.2.2.2.2.2.2.2.2.2.2.2.2.2.2.2.2.2.2.2.2.1, hR.2.2.2.2.2.2.2.2.2.2.2.2.2.2.2.2.2.2.2.2.2.2.2.2.2.2.2.2.2.2.2.2.2⟩
  · intro t ht
    rw [c2]
    obtain ⟨a0, a2, a3, a4, a5, a6, a8⟩ := hR.2.2.2.2.2.2.2.2.2.2.1 t ht
    by_cases w : m.1 149 t = nI e
    · rw [if_pos ⟨ht, by simp [w]⟩]
      refine ⟨a0, a2, a3, a4, a5, ?_, a8⟩
      show (0 : Int32) = ep_tz m e 12 t
      unfold ep_tz
      rw [if_pos ⟨ht, w⟩]
    · rw [if_neg (fun z => w (by simpa using z.2))]
      refine ⟨a0, a2, a3, a4, a5, ?_, a8⟩
      show c.2.1 2 t 6 = ep_tz m e 12 t
      unfold ep_tz
      rw [if_neg (fun z => w z.2)]
      exact a6
  · intro t ht hs
    exact hR.2.2.2.2.2.2.2.2.2.2.2.2.1 t ht (tzn t ht hs).1
  · intro t ht hs
    have hs' : ep_tz m e 12 t ≠ 0 := hs
    obtain ⟨n1, n2, n3⟩ := tzn t ht hs'
    rw [c2, if_neg (fun z => n2 (by simpa using z.2))]
    show (_ ∧ ep_tz m e 12 t ≠ 2 ∧ _) ∨ ∃ h, h < 2 ∧ _ ∧ _ ∧ ep_tz m e 12 t = 2 ∧ _
    rw [n3]
    exact hR.2.2.2.2.2.2.2.2.2.2.2.2.2.1 t ht n1
  · intro h' hh'
    rcases hR.2.2.2.2.2.2.2.2.2.2.2.2.2.2.1 h' hh' with y | ⟨t', e', y1, y2, y3, y4, y5, y6⟩
    · exact Or.inl y
    · have ne : e' ≠ e := fun z => hE (by rw [← z]; exact y6)
      refine Or.inr ⟨t', e', y1, y2, y3, ?_, y5, ?_⟩
      · show ep_tz m e 12 t' = 2
        unfold ep_tz
        rw [if_neg]
        · exact y4
        · intro z
          rw [y5, nI_eq (by omega) (by omega)] at z
          exact ne z.2
      · show upd (m.1 155) e 0 e' = 2
        rw [ep_upd_ne ne]; exact y6
  · intro t ht hs
    have hs' : ep_tz m e 12 t ≠ 0 := hs
    obtain ⟨n1, n2, n3⟩ := tzn t ht hs'
    obtain ⟨a, e', b1, b2, b3⟩ := hR.2.2.2.2.2.2.2.2.2.2.2.2.2.2.2.1 t ht n1
    refine ⟨a, e', b1, b2, ?_⟩
    show upd (m.1 155) e 0 e' ≠ 0
    rw [ep_upd_ne (ene b2 n2)]; exact b3
  · intro e' he'
    rw [c4]
    obtain ⟨a5, a6, a7, a8, a9, a11, a12, a13, a14⟩ := hR.2.2.2.2.2.2.2.2.2.2.2.2.2.2.2.2.1 e' he'
    show _ = upd (m.1 155) e 0 e' ∧ _ ∧ _ ∧ _ ∧ _ ∧ _ ∧ _ ∧ (upd (m.1 155) e 0 e' = 0 ∨ upd (m.1 155) e 0 e' = 1 ∨ upd (m.1 155) e 0 e' = 2 ∨ upd (m.1 155) e 0 e' = 3) ∧ (upd (m.1 155) e 0 e' = 1 → _)
    by_cases y : e' = e
    · subst y
      rw [if_pos rfl, ep_upd_eq, ep_upd_eq]
      exact ⟨rfl, a6, a7, a8, a9, a11, a12, Or.inl rfl, fun z => absurd z (by decide)⟩
    · rw [if_neg y, ep_upd_ne y]
      exact ⟨a5, a6, a7, a8, a9, a11, a12, a13, a14⟩
  · intro e' he' hE'
    have hE2 : upd (m.1 155) e 0 e' ≠ 0 := hE'
    have y : e' ≠ e := fun z => by rw [z, ep_upd_eq] at hE2; exact hE2 rfl
    rw [ep_upd_ne y] at hE2
    rw [c4, if_neg y]
    have g := hR.2.2.2.2.2.2.2.2.2.2.2.2.2.2.2.2.2.1 e' he' hE2
    have z : ep_nt (ep_tz m e 12) (m.1 149) e' 12 = ep_nt (m.1 148) (m.1 149) e' 12 := by
      refine ep_nt_far 12 fun t ht => ?_
      by_cases w : m.1 149 t = nI e'
      · have w2 : ¬ m.1 149 t = nI e := fun q => y ((nI_eq (by omega) (by omega)).mp (w.symm.trans q))
        unfold ep_tz
        rw [if_neg (fun q => w2 q.2)]
      · exact ⟨fun q => absurd q.2 w, fun q => absurd q.2 w⟩
    show _ = nI (ep_nt (ep_tz m e 12) (m.1 149) e' 12) ∧ ep_nt (ep_tz m e 12) (m.1 149) e' 12 ≤ 3
    rw [z]
    exact g
  · intro e' he' hE'
    have hE2 : upd (m.1 155) e 0 e' = 1 := hE'
    have y : e' ≠ e := fun z => by rw [z, ep_upd_eq] at hE2; exact absurd hE2 (by decide)
    rw [ep_upd_ne y] at hE2
    exact hR.2.2.2.2.2.2.2.2.2.2.2.2.2.2.2.2.2.2.2.2.2.2.1 e' he' hE2
theorem ep_destroy_ {N : Nat} {c : ep_C} {m : ep_M} (hR : ep_R N c m) (p : Int32) : ep_Cp N c m (fun s => eF_10_destroy s p) (fun s => eF_12_destroy s p) := by
  cases hb : ep_inb p 6 (m.1 155) with
  | false =>
    refine ep_Cp_id hR (-1) (fun m0 => ?_) (fun c0 => ?_)
    · show eF_10_destroy (ep_mk c m0) p = _
      unfold eF_10_destroy
      rw [ep_chasE hR, ep_sb, hb, if_pos ep_bf]
    · show eF_12_destroy (ep_mk c0 m) p = _
      unfold eF_12_destroy
      rw [ep_misE, ep_sb, hb, if_pos ep_bf]
  | true =>
    obtain ⟨e, he, rfl, hE⟩ := ep_inb_t (by decide) hb
    have i6 : eh_in (nI e) 6 = true := ep_in he (by decide)
    have x6 : eh_ix (nI e) = e := ep_ix (by omega)
    have ge := (hR.2.2.2.2.2.2.2.2.2.2.2.2.2.2.2.2.1 e he).1
    by_cases h2 : m.1 155 e = 2
    · refine ep_Cp_id hR (-2) (fun m0 => ?_) (fun c0 => ?_)
      · show eF_10_destroy (ep_mk c m0) (nI e) = _
        unfold eF_10_destroy
        rw [ep_chasE hR, ep_sb, hb, if_neg ep_bt, if_pos i6, ep_rE0 _ _ he, ge, if_pos h2]
      · show eF_12_destroy (ep_mk c0 m) (nI e) = _
        unfold eF_12_destroy
        rw [ep_misE, ep_sb, hb, if_neg ep_bt, if_pos i6, x6, ep_rM _ _ 155 (by decide), if_pos h2]
    · obtain ⟨c1, m1, ⟨X9, X10, X11, Y1, Y2, rfl, rfl, g1, g2, g3⟩, l1, l2⟩ := ep_dloop hR he
      have R1 := ep_R_dest hR he h2 g1 g2 g3
      have hF : ∀ t, t < 12 → (ep_c4 c (ep_sz m e 12) X9 X10 X11).2.1 2 t 3 = m.1 149 t := fun t ht => (hR.2.2.2.2.2.2.2.2.2.2.1 t ht).2.2.1
      have d14 : c.1 12 14 = m.1 127 67 := hR.2.2.2.2.2.2.2.2.2.2.2.2.2.2.2.2.2.2.2.2.2.2.2.2.2.2.2.2.1.2.2.2.2.2.2.2.2.1
      by_cases hp : m.1 127 67 = nI e
      · refine ⟨0, _, _, fun m0 => ?_, fun c0 => ?_, ep_R_path R1 (Or.inl rfl), ⟨rfl, rfl, fun j hj => by rcases hj with rfl | rfl | rfl <;> rfl, rfl⟩⟩
        · show eF_10_destroy (ep_mk c m0) (nI e) = _
          unfold eF_10_destroy
          rw [ep_chasE hR, ep_sb, hb, if_neg ep_bt, if_pos i6, ep_rE0 _ _ he, ge, if_neg h2]
          refine ep_bnd (l1 m0) ?_
          refine ep_bnd (ep_cthreads _ m0 (nI e) (m.1 149) hF) ?_
          rw [if_pos i6, ep_V, ep_iE0 _ _ _ _ he, ep_J, ep_rC1 _ _ 12 (by decide)]
          rw [show (ep_cH (ep_ct (ep_c4 c (ep_sz m e 12) X9 X10 X11) (fun t => decide (m.1 149 t = nI e)) 12) 4 e 5 0).1 12 14 = nI e from d14.trans hp, if_pos rfl, ep_cgpath, ep_sb]
        · show eF_12_destroy (ep_mk c0 m) (nI e) = _
          unfold eF_12_destroy
          rw [ep_misE, ep_sb, hb, if_neg ep_bt, if_pos i6, x6, ep_rM _ _ 155 (by decide), if_neg h2]
          refine ep_bnd (l2 c0) ?_
          rw [if_pos i6, ep_V, ep_iM _ _ _ _ _ (by decide), ep_J, ep_rM _ _ 127 (by decide)]
          rw [show (ep_mI (ep_m4 m Y1 Y2 (ep_tz m e 12) (ep_sz m e 12)) 155 e 0).1 127 67 = nI e from hp, if_pos rfl, ep_mcpath, ep_sb]
      · refine ⟨0, _, _, fun m0 => ?_, fun c0 => ?_, R1, ⟨rfl, rfl, fun j hj => rfl, rfl⟩⟩
        · show eF_10_destroy (ep_mk c m0) (nI e) = _
          unfold eF_10_destroy
          rw [ep_chasE hR, ep_sb, hb, if_neg ep_bt, if_pos i6, ep_rE0 _ _ he, ge, if_neg h2]
          refine ep_bnd (l1 m0) ?_
          refine ep_bnd (ep_cthreads _ m0 (nI e) (m.1 149) hF) ?_
          rw [if_pos i6, ep_V, ep_iE0 _ _ _ _ he, ep_J, ep_rC1 _ _ 12 (by decide)]
          rw [show (ep_cH (ep_ct (ep_c4 c (ep_sz m e 12) X9 X10 X11) (fun t => decide (m.1 149 t = nI e)) 12) 4 e 5 0).1 12 14 = m.1 127 67 from d14, if_neg hp]
        · show eF_12_destroy (ep_mk c0 m) (nI e) = _
          unfold eF_12_destroy
          rw [ep_misE, ep_sb, hb, if_neg ep_bt, if_pos i6, x6, ep_rM _ _ 155 (by decide), if_neg h2]
          refine ep_bnd (l2 c0) ?_
          rw [if_pos i6, ep_V, ep_iM _ _ _ _ _ (by decide), ep_J, ep_rM _ _ 127 (by decide)]
          rw [show (ep_mI (ep_m4 m Y1 Y2 (ep_tz m e 12) (ep_sz m e 12)) 155 e 0).1 127 67 = m.1 127 67 from rfl, if_neg hp]
