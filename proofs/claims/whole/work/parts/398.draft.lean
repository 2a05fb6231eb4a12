/-! an enclave is destroyed -/
def ep_c4 (c : ep_C) (X3 X9 X10 X11 : Nat → Int32) : ep_C := (ep_uf (ep_uf (ep_uf (ep_uf c.1 3 X3) 9 X9) 10 X10) 11 X11, c.2)
def ep_m4 (m : ep_M) (Y1 Y2 Y3 Y4 : Nat → Int32) : ep_M := (ep_uf (ep_uf (ep_uf (ep_uf m.1 128 Y1) 147 Y2) 148 Y3) 164 Y4, m.2)
theorem ep_c4_id (c : ep_C) : ep_c4 c (c.1 3) (c.1 9) (c.1 10) (c.1 11) = c := by
  refine Prod.ext ?_ rfl
  funext a
  simp only [ep_c4, ep_uf]
  by_cases h1 : a = 11 <;> by_cases h2 : a = 10 <;> by_cases h3 : a = 9 <;> by_cases h4 : a = 3 <;> simp [h1, h2, h3, h4]
theorem ep_m4_id (m : ep_M) : ep_m4 m (m.1 128) (m.1 147) (m.1 148) (m.1 164) = m := by
  refine Prod.ext ?_ rfl
  funext a
  simp only [ep_m4, ep_uf]
  by_cases h1 : a = 164 <;> by_cases h2 : a = 148 <;> by_cases h3 : a = 147 <;> by_cases h4 : a = 128 <;> simp [h1, h2, h3, h4]
theorem ep_ctb_c4 (c : ep_C) (X3 X9 X10 X11 : Nat → Int32) (k b n : Nat) (s : Int32) : ep_ctb (ep_c4 c X3 X9 X10 X11) k b n s = ep_c4 c (upd X3 k 0) (if s = 2 then X9 else ep_in_ X9 (64 * b) (64 * n) fun _ => 0) (ep_in_ X10 b n fun _ => -1) (if s = 2 then X11 else ep_wcl X11 (nI (64 * b)) (nI (64 * b + 64 * n)) 2) := by
  unfold ep_ctb
  by_cases y : s = 2
  · rw [if_pos y, if_pos y, if_pos y]
    refine Prod.ext ?_ rfl
    funext a
    simp only [ep_c4, ep_cI, ep_cL, ep_uf]
    by_cases h1 : a = 11 <;> by_cases h2 : a = 10 <;> by_cases h3 : a = 9 <;> by_cases h4 : a = 3 <;> simp [h1, h2, h3, h4]
  · rw [if_neg y, if_neg y, if_neg y]
    refine Prod.ext ?_ rfl
    funext a
    simp only [ep_c4, ep_cI, ep_cL, ep_cwp, ep_c2, ep_uf]
    by_cases h1 : a = 11 <;> by_cases h2 : a = 10 <;> by_cases h3 : a = 9 <;> by_cases h4 : a = 3 <;> simp [h1, h2, h3, h4]
theorem ep_mtb_m4 (m : ep_M) (Y1 Y2 Y3 Y4 : Nat → Int32) (k b n : Nat) (s : Int32) : ep_mtb (ep_m4 m Y1 Y2 Y3 Y4) k b n s = ep_m4 m (if s = 2 then Y1 else ep_in_ Y1 (256 * b) (256 * n) fun _ => 0) (if s = 2 then Y2 else ep_clrs Y2 (256 * b) (256 * n)) Y3 (upd Y4 k 0) := by
  unfold ep_mtb
  by_cases y : s = 2
  · rw [if_pos y, if_pos y, if_pos y]
    refine Prod.ext ?_ rfl
    funext a
    simp only [ep_m4, ep_mI, ep_mL, ep_uf]
    by_cases h1 : a = 164 <;> by_cases h2 : a = 148 <;> by_cases h3 : a = 147 <;> by_cases h4 : a = 128 <;> simp [h1, h2, h3, h4]
  · rw [if_neg y, if_neg y, if_neg y]
    refine Prod.ext ?_ rfl
    funext a
    simp only [ep_m4, ep_mI, ep_mL, ep_mwp, ep_m2, ep_uf]
    by_cases h1 : a = 164 <;> by_cases h2 : a = 148 <;> by_cases h3 : a = 147 <;> by_cases h4 : a = 128 <;> simp [h1, h2, h3, h4]
theorem ep_m4_I (m : ep_M) (Y1 Y2 Y3 Y4 : Nat → Int32) (i : Nat) (v : Int32) : ep_mI (ep_m4 m Y1 Y2 Y3 Y4) 148 i v = ep_m4 m Y1 Y2 (upd Y3 i v) Y4 := by
  refine Prod.ext ?_ rfl
  funext a
  simp only [ep_m4, ep_mI, ep_mL, ep_uf]
  by_cases h1 : a = 164 <;> by_cases h2 : a = 148 <;> by_cases h3 : a = 147 <;> by_cases h4 : a = 128 <;> simp [h1, h2, h3, h4]
def ep_hit (m : ep_M) (e k : Nat) : Bool := !decide (m.1 164 k = 0) && ep_of (m.1 164) (m.1 167) (m.1 168) k (nI e)
def ep_sz (m : ep_M) (e i : Nat) : Nat → Int32 := fun k => if k < i ∧ ep_hit m e k = true then 0 else m.1 164 k
def ep_tz (m : ep_M) (e i : Nat) : Nat → Int32 := fun t => if t < i ∧ m.1 149 t = nI e then 0 else m.1 148 t
theorem ep_sz_0 (m : ep_M) (e : Nat) : ep_sz m e 0 = m.1 164 := by
  funext k; unfold ep_sz; rw [if_neg (fun z => Nat.not_lt_zero _ z.1)]
theorem ep_tz_0 (m : ep_M) (e : Nat) : ep_tz m e 0 = m.1 148 := by
  funext k; unfold ep_tz; rw [if_neg (fun z => Nat.not_lt_zero _ z.1)]
theorem ep_sz_i (m : ep_M) (e i : Nat) : ep_sz m e i i = m.1 164 i := by
  unfold ep_sz; rw [if_neg (fun z => Nat.lt_irrefl _ z.1)]
theorem ep_tz_i (m : ep_M) (e i : Nat) : ep_tz m e i i = m.1 148 i := by
  unfold ep_tz; rw [if_neg (fun z => Nat.lt_irrefl _ z.1)]
theorem ep_sz_y {m : ep_M} {e i : Nat} (h : ep_hit m e i = true) : upd (ep_sz m e i) i 0 = ep_sz m e (i + 1) := by
  funext k
  unfold upd ep_sz
  by_cases z : k = i
  · rw [if_pos z, if_pos ⟨by omega, by rw [z]; exact h⟩]
  · rw [if_neg z]
    by_cases w : k < i ∧ ep_hit m e k = true
    · rw [if_pos w, if_pos ⟨by have := w.1; omega, w.2⟩]
    · rw [if_neg w, if_neg (fun q => w ⟨by have := q.1; omega, q.2⟩)]
theorem ep_sz_n {m : ep_M} {e i : Nat} (h : ep_hit m e i = false) : ep_sz m e (i + 1) = ep_sz m e i := by
  funext k
  unfold ep_sz
  by_cases w : k < i ∧ ep_hit m e k = true
  · rw [if_pos w, if_pos ⟨by have := w.1; omega, w.2⟩]
  · rw [if_neg w, if_neg]
    intro q
    by_cases z : k = i
    · rw [z, h] at q; exact absurd q.2 (by decide)
    · exact w ⟨by have := q.1; omega, q.2⟩
theorem ep_tz_s (m : ep_M) (e i : Nat) : upd (ep_tz m e i) i (if m.1 149 i = nI e then 0 else m.1 148 i) = ep_tz m e (i + 1) := by
  funext k
  unfold upd ep_tz
  by_cases z : k = i
  · subst z
    rw [if_pos rfl]
    by_cases w : m.1 149 k = nI e
    · rw [if_pos w, if_pos ⟨by omega, w⟩]
    · rw [if_neg w, if_neg (fun q => w q.2)]
  · rw [if_neg z]
    by_cases w : k < i ∧ m.1 149 k = nI e
    · rw [if_pos w, if_pos ⟨by have := w.1; omega, w.2⟩]
    · rw [if_neg w, if_neg (fun q => w ⟨by have := q.1; omega, q.2⟩)]
theorem ep_side0 {S O T : Nat → Int32} {k e : Nat} (he : e < 6) (hT : S k ≠ 3 → T k = -1) : ((if O k = nI e then (1 : Int32) else if T k = nI e then 2 else 0) = 0) ↔ ep_of S O T k (nI e) = false := by
  unfold ep_of
  by_cases a : O k = nI e
  · simp [a]
  · by_cases b : T k = nI e
    · have s3 : S k = 3 := Decidable.byContradiction fun z => by
        have := hT z
        rw [b] at this
        exact ep_nI_ne_m1 (by omega) this
      simp [a, b, s3]
    · simp [a, b]
theorem ep_dloop {N : Nat} {c : ep_C} {m : ep_M} (hR : ep_R N c m) {e : Nat} (he : e < 6) : ∃ c1 m1, (∃ X9 X10 X11 Y1 Y2, c1 = ep_c4 c (ep_sz m e 12) X9 X10 X11 ∧ m1 = ep_m4 m Y1 Y2 (ep_tz m e 12) (ep_sz m e 12) ∧ ep_Gm X9 Y1 ∧ ep_Gres X11 Y2 ∧ ep_Gr2 (ep_sz m e 12) (m.1 165) (m.1 166) (m.1 167) (m.1 168) X10 (m.1 155) (m.1 156)) ∧ (∀ m0, eh_loop (fun (r26 : (Int32 × eh_F) → Option (eh_F)) (t5 : Int32 × eh_F) => if t5.1 < 12 then (if eh_in t5.1 12 then eh_J (fun (s29 : eh_F) => eh_V ((t5.1 + 1) : Int32) (fun x30 => r26 (x30, s29))) (fun j28 => if (t5.2.1 3 (eh_ix t5.1)) = 0 then (j28 t5.2) else (Option.bind (eF_6_sideOf t5.2 t5.1 (nI e)) (fun q32 => if q32 = 0 then (j28 t5.2) else (Option.bind (eF_6_takeBack t5.2 t5.1) (fun q34 => j28 q34))))) else none) else (some t5.2)) eh_FU (nI 0, ep_mk c m0) = some (ep_mk c1 m0)) ∧ (∀ c0, eh_loop (fun (r12 : (Int32 × eh_F) → Option (eh_F)) (t4 : Int32 × eh_F) => if t4.1 < 12 then (if eh_in t4.1 12 then eh_J (fun (s15 : eh_F) => if eh_in t4.1 12 then eh_J (fun (a17 : Int32) => if eh_in t4.1 12 then eh_V (eh_tI s15 148 (eh_ix t4.1) a17) (fun s18 => eh_V ((t4.1 + 1) : Int32) (fun x19 => r12 (x19, s18))) else none) (fun j16 => if (s15.1 149 (eh_ix t4.1)) = nI e then (j16 0) else (if eh_in t4.1 12 then j16 (s15.1 148 (eh_ix t4.1)) else none)) else none) (fun j14 => if (t4.2.1 164 (eh_ix t4.1)) = 0 then (j14 t4.2) else (Option.bind (eF_12_isOf t4.2 t4.1 (nI e)) (fun q22 => if q22 = 0 then (j14 t4.2) else (Option.bind (eF_12_drop t4.2 t4.1) (fun q24 => j14 q24))))) else none) else (some t4.2)) eh_FU (nI 0, ep_mk c0 m) = some (ep_mk c0 m1)) := by
  obtain ⟨r3, r4, r5, r6, r7, r8⟩ := hR.2.2.1
  refine ep_lock (fun i s => (nI i, s)) (fun i s => (nI i, s)) (fun i c' m' => ∃ X9 X10 X11 Y1 Y2, c' = ep_c4 c (ep_sz m e i) X9 X10 X11 ∧ m' = ep_m4 m Y1 Y2 (ep_tz m e i) (ep_sz m e i) ∧ ep_Gm X9 Y1 ∧ ep_Gres X11 Y2 ∧ ep_Gr2 (ep_sz m e i) (m.1 165) (m.1 166) (m.1 167) (m.1 168) X10 (m.1 155) (m.1 156)) 12 (by decide) ?_ ?_ ?_
  · rintro i c' m' hi ⟨X9, X10, X11, Y1, Y2, rfl, rfl, g1, g2, g3⟩
    have z1 : nI i < 12 := nI_lt (b := 12) hi (by decide)
    have z2 : eh_in (nI i) 12 = true := ep_in hi (by decide)
    have z3 : eh_ix (nI i) = i := ep_ix (by omega)
    have tail : ∀ (c0 : ep_C) (rec : Int32 × eh_F → Option eh_F) (M : ep_M), M.1 149 i = m.1 149 i → M.1 148 i = m.1 148 i → (if eh_in (nI i) 12 = true then eh_J (fun (a17 : Int32) => if eh_in (nI i) 12 = true then eh_V (eh_tI (ep_mk c0 M) 148 i a17) (fun s18 => eh_V ((nI i + 1) : Int32) (fun x19 => rec (x19, s18))) else none) (fun j16 => if ((ep_mk c0 M).1 149 i) = nI e then (j16 0) else (if eh_in (nI i) 12 = true then j16 ((ep_mk c0 M).1 148 i) else none)) else none) = rec (nI (i + 1), ep_mk c0 (ep_mI M 148 i (if m.1 149 i = nI e then 0 else m.1 148 i))) := by
      intro c0 rec M h1 h2
      rw [if_pos z2, ep_J, ep_rM _ _ 149 (by decide), ep_rM _ _ 148 (by decide), h1, h2]
      by_cases w : m.1 149 i = nI e
      · rw [if_pos w, if_pos w]
        dsimp only
        rw [if_pos z2, ep_V, ep_iM _ _ _ _ _ (by decide), ep_V, nI_1]
      · rw [if_neg w, if_neg w, if_pos z2]
        dsimp only
        rw [if_pos z2, ep_V, ep_iM _ _ _ _ _ (by decide), ep_V, nI_1]
    have cs3 : (ep_c4 c (ep_sz m e i) X9 X10 X11).1 3 i = m.1 164 i := ep_sz_i m e i
    have ms4 : (ep_m4 m Y1 Y2 (ep_tz m e i) (ep_sz m e i)).1 164 i = m.1 164 i := ep_sz_i m e i
    have c6 : (ep_c4 c (ep_sz m e i) X9 X10 X11).1 6 = m.1 167 := r6
    have c7 : (ep_c4 c (ep_sz m e i) X9 X10 X11).1 7 = m.1 168 := r7
    have mof : ep_of ((ep_m4 m Y1 Y2 (ep_tz m e i) (ep_sz m e i)).1 164) ((ep_m4 m Y1 Y2 (ep_tz m e i) (ep_sz m e i)).1 167) ((ep_m4 m Y1 Y2 (ep_tz m e i) (ep_sz m e i)).1 168) i (nI e) = ep_of (m.1 164) (m.1 167) (m.1 168) i (nI e) := by
      unfold ep_of
      rw [ms4]
      rfl
    have hT : m.1 164 i ≠ 0 → m.1 164 i ≠ 3 → m.1 168 i = -1 := fun h0 => (hR.2.2.2.1.1 i hi h0).2.2.2.2
    cases hh : ep_hit m e i with
    | false =>
      refine ⟨_, _, ⟨X9, X10, X11, Y1, Y2, rfl, rfl, g1, g2, ?_⟩, fun m0 rec => ?_, fun c0 rec => ?_⟩
      · rw [ep_sz_n hh]; exact g3
      · show (if nI i < 12 then _ else _) = _
        rw [if_pos z1, if_pos z2, z3, ep_J, ep_rC1 _ _ 3 (by decide), cs3, ep_sz_n hh]
        by_cases s0 : m.1 164 i = 0
        · rw [if_pos s0]
          simp only [ep_V, nI_1]
        · have hof : ep_of (m.1 164) (m.1 167) (m.1 168) i (nI e) = false := by
            unfold ep_hit at hh
            simpa [s0] using hh
          rw [if_neg s0, ep_csideOf _ hi, ep_sb, c6, c7, if_pos ((ep_side0 he (hT s0)).mpr hof)]
          simp only [ep_V, nI_1]
      · show (if nI i < 12 then _ else _) = _
        rw [if_pos z1, if_pos z2, z3, ep_J, ep_rM _ _ 164 (by decide), ms4, ep_sz_n hh]
        by_cases s0 : m.1 164 i = 0
        · rw [if_pos s0]
          refine Eq.trans (tail c0 rec _ rfl (ep_tz_i m e i)) ?_
          rw [ep_m4_I, ep_tz_s]
        · have hof : ep_of (m.1 164) (m.1 167) (m.1 168) i (nI e) = false := by
            unfold ep_hit at hh
            simpa [s0] using hh
          rw [if_neg s0, ep_misOf _ hi, ep_sb, mof, hof, if_pos ep_bf]
          refine Eq.trans (tail c0 rec _ rfl (ep_tz_i m e i)) ?_
          rw [ep_m4_I, ep_tz_s]
    | true =>
      have hof : ep_of (m.1 164) (m.1 167) (m.1 168) i (nI e) = true := by
        unfold ep_hit at hh
        rw [Bool.and_eq_true] at hh
        exact hh.2
      have s0 : ¬ m.1 164 i = 0 := by
        unfold ep_hit at hh
        rw [Bool.and_eq_true] at hh
        simpa using hh.1
      obtain ⟨-, ⟨b, n, n0, bn, hB, hZ, hP⟩, -⟩ := g3.1 i hi (by rw [ep_sz_i]; exact s0)
      have hnf : ¬ ((if m.1 167 i = nI e then (1 : Int32) else if m.1 168 i = nI e then 2 else 0) = 0) := fun z => by
        rw [ep_side0 he (hT s0), hof] at z
        exact absurd z (by decide)
      refine ⟨_, _, ⟨if m.1 164 i = 2 then X9 else ep_in_ X9 (64 * b) (64 * n) fun _ => 0, ep_in_ X10 b n fun _ => -1, if m.1 164 i = 2 then X11 else ep_wcl X11 (nI (64 * b)) (nI (64 * b + 64 * n)) 2, if m.1 164 i = 2 then Y1 else ep_in_ Y1 (256 * b) (256 * n) fun _ => 0, if m.1 164 i = 2 then Y2 else ep_clrs Y2 (256 * b) (256 * n), rfl, rfl, ?_, ?_, ?_⟩, fun m0 rec => ?_, fun c0 rec => ?_⟩
      · by_cases y : m.1 164 i = 2
        · rw [if_pos y, if_pos y]; exact g1
        · rw [if_neg y, if_neg y]; exact ep_Gm_z g1 b n
      · by_cases y : m.1 164 i = 2
        · rw [if_pos y, if_pos y]; exact g2
        · rw [if_neg y, if_neg y]; exact ep_Gres_z g2 bn
      · rw [← ep_sz_y hh]
        exact ep_Gr2_drop g3 hi (by rw [ep_sz_i]; exact s0) hB hZ hP
      · show (if nI i < 12 then _ else _) = _
        rw [if_pos z1, if_pos z2, z3, ep_J, ep_rC1 _ _ 3 (by decide), cs3, if_neg s0, ep_csideOf _ hi, ep_sb, c6, c7, if_neg hnf, ep_ctake _ _ hi bn (by show c.1 4 i = _; rw [r4]; exact hB) (by show c.1 5 i = _; rw [r5]; exact hZ), ep_sb, cs3, ep_ctb_c4, ep_sz_y hh]
        simp only [ep_V, nI_1]
      · show (if nI i < 12 then _ else _) = _
        rw [if_pos z1, if_pos z2, z3, ep_J, ep_rM _ _ 164 (by decide), ms4, if_neg s0, ep_misOf _ hi, ep_sb, mof, hof, if_neg ep_bt, ep_mdrop_ _ _ hi bn (by show m.1 165 i = _; exact hB) (by show m.1 166 i = _; exact hZ), ep_sb, ms4, ep_mtb_m4, ep_sz_y hh]
        refine Eq.trans (tail c0 rec _ rfl (ep_tz_i m e i)) ?_
        rw [ep_m4_I, ep_tz_s]
  · intro c' m' _
    refine ⟨fun m0 rec => ?_, fun c0 rec => ?_⟩
    · show (if nI 12 < 12 then _ else _) = _
      rw [if_neg (by decide)]
    · show (if nI 12 < 12 then _ else _) = _
      rw [if_neg (by decide)]
  · refine ⟨c.1 9, c.1 10, c.1 11, m.1 128, m.1 147, ?_, ?_, hR.1, hR.2.2.2.2.1, ?_⟩
    · rw [ep_sz_0, ← r3, ep_c4_id]
    · rw [ep_sz_0, ep_tz_0, ep_m4_id]
    · rw [ep_sz_0]; exact ep_Gr2_of hR.2.2.2.1
/-- an enclave's threads are no more -/
def ep_ct (c : ep_C) (b : Nat → Bool) (i : Nat) : ep_C := (c.1, fun a t => if a = 2 then (if t < i ∧ b t = true then upd (c.2.1 2 t) 6 0 else c.2.1 2 t) else c.2.1 a t, c.2.2)
theorem ep_ct_0 (c : ep_C) (b : Nat → Bool) : ep_ct c b 0 = c := by
  refine Prod.ext rfl (Prod.ext ?_ rfl)
  funext a t
  show (if a = 2 then (if t < 0 ∧ b t = true then _ else _) else _) = _
  rw [if_neg (fun z : t < 0 ∧ b t = true => Nat.not_lt_zero _ z.1)]
  by_cases h : a = 2
  · rw [if_pos h, h]
  · rw [if_neg h]
theorem ep_ct_2 (c : ep_C) (b : Nat → Bool) (i t : Nat) : (ep_ct c b i).2.1 2 t = if t < i ∧ b t = true then upd (c.2.1 2 t) 6 0 else c.2.1 2 t := rfl
theorem ep_ct_y {c : ep_C} {b : Nat → Bool} {i : Nat} (h : b i = true) : ep_cH (ep_ct c b i) 2 i 6 0 = ep_ct c b (i + 1) := by
  refine Prod.ext rfl (Prod.ext ?_ rfl)
  funext a t
  by_cases ha : a = 2
  · subst ha
    rw [ep_cHe, ep_ct_2, ep_ct_2, ep_ct_2, if_neg (show ¬ (i < i ∧ b i = true) from fun z => Nat.lt_irrefl _ z.1)]
    by_cases z : t = i
    · subst z; rw [if_pos rfl, if_pos ⟨by omega, h⟩]
    · rw [if_neg z]
      by_cases w : t < i ∧ b t = true
      · rw [if_pos w, if_pos ⟨by have := w.1; omega, w.2⟩]
      · rw [if_neg w, if_neg (fun q => w ⟨by have := q.1; omega, q.2⟩)]
  · rw [ep_cHi _ _ _ _ _ _ _ ha]
    show (if a = 2 then _ else _) = (if a = 2 then _ else _)
    rw [if_neg ha, if_neg ha]
theorem ep_ct_n {c : ep_C} {b : Nat → Bool} {i : Nat} (h : ¬ b i = true) : ep_ct c b i = ep_ct c b (i + 1) := by
  refine Prod.ext rfl (Prod.ext ?_ rfl)
  funext a t
  by_cases ha : a = 2
  · subst ha
    rw [ep_ct_2, ep_ct_2]
    by_cases w : t < i ∧ b t = true
    · rw [if_pos w, if_pos ⟨by have := w.1; omega, w.2⟩]
    · rw [if_neg w, if_neg]
      intro q
      by_cases z : t = i
      · rw [z] at q; exact h q.2
      · exact w ⟨by have := q.1; omega, q.2⟩
  · show (if a = 2 then _ else _) = (if a = 2 then _ else _)
    rw [if_neg ha, if_neg ha]
theorem ep_cthreads (c : ep_C) (m0 : ep_M) (p : Int32) (F : Nat → Int32) (hF : ∀ t, t < 12 → c.2.1 2 t 3 = F t) : eh_loop (fun (r16 : (Int32 × eh_F) → Option (eh_F)) (t7 : Int32 × eh_F) => if t7.1 < 12 then (if eh_in t7.1 12 then eh_J (fun (s20 : eh_F) => eh_V ((t7.1 + 1) : Int32) (fun x21 => r16 (x21, s20))) (fun j19 => if (t7.2.1 (eh_fp t7.1) 3) = p then (if eh_in t7.1 12 then eh_V (eh_tI t7.2 (eh_fp t7.1) 6 0) (fun s24 => j19 s24) else none) else (j19 t7.2)) else none) else (some t7.2)) eh_FU (0, ep_mk c m0) = some (ep_mk (ep_ct c (fun t => decide (F t = p)) 12) m0) := by
  refine ep_loop (fun i => (nI i, ep_mk (ep_ct c (fun t => decide (F t = p)) i) m0)) 12 _ (ep_FU _ (by decide)) ?_ ?_ ?_
  · intro i hi rec
    have z1 : nI i < 12 := nI_lt (b := 12) hi (by decide)
    have z2 : eh_in (nI i) 12 = true := ep_in hi (by decide)
    have f3 : (ep_ct c (fun t => decide (F t = p)) i).2.1 2 i 3 = F i := by
      rw [ep_ct_2, if_neg (fun z => Nat.lt_irrefl _ z.1)]; exact hF i hi
    show (if nI i < 12 then _ else _) = _
    rw [if_pos z1, if_pos z2, ep_J, ep_rF0 _ _ hi, f3]
    by_cases y : F i = p
    · rw [if_pos y, if_pos z2]
      simp only [ep_V, nI_1]
      rw [ep_iF0 _ _ _ _ hi, ep_ct_y (by simp [y])]
    · rw [if_neg y]
      simp only [ep_V, nI_1]
      rw [ep_ct_n (by simp [y])]
  · intro rec
    show (if nI 12 < 12 then _ else _) = _
    rw [if_neg (by decide)]
  · show _ = (nI 0, ep_mk (ep_ct c _ 0) m0)
    rw [ep_ct_0]
    rfl
theorem ep_R_path {N : Nat} {c : ep_C} {m : ep_M} (hR : ep_R N c m) {v : Int32} (hv : v = -1 ∨ ∃ e, e < 6 ∧ v = nI e) : ep_R N (ep_cI (ep_cI (ep_cI c 12 14 v) 22 1 0) 24 1 0) (ep_mI (ep_mI (ep_mI m 127 67 v) 127 64 0) 127 66 0) := by
  obtain ⟨d0, d1, d2, d3, d4, d5, d6, d7, d8, d9, d10⟩ := hR.2.2.2.2.2.2.2.2.2.2.2.2.2.2.2.2.2.2.2.2.2.2.2.2.2.2.2.2.1
  exact ⟨hR.1, hR.2.1, hR.2.2.1, hR.2.2.2.1, hR.2.2.2.2.1, hR.2.2.2.2.2.1, hR.2.2.2.2.2.2.1, hR.2.2.2.2.2.2.2.1, hR.2.2.2.2.2.2.2.2.1, hR.2.2.2.2.2.2.2.2.2.1, hR.2.2.2.2.2.2.2.2.2.2.1, hR.2.2.2.2.2.2.2.2.2.2.2.1, hR.2.2.2.2.2.2.2.2.2.2.2.2.1, hR.2.2.2.2.2.2.2.2.2.2.2.2.2.1, hR.2.2.2.2.2.2.2.2.2.2.2.2.2.2.1, hR.2.2.2.2.2.2.2.2.2.2.2.2.2.2.2.1, hR.2.2.2.2.2.2.2.2.2.2.2.2.2.2.2.2.1, hR.2.2.2.2.2.2.2.2.2.2.2.2.2.2.2.2.2.1, hR.2.2.2.2.2.2.2.2.2.2.2.2.2.2.2.2.2.2.1, hR.2.2.2.2.2.2.2.2.2.2.2.2.2.2.2.2.2.2.2.1, hR.2.2.2.2.2.2.2.2.2.2.2.2.2.2.2.2.2.2.2.2.1, hR.2.2.2.2.2.2.2.2.2.2.2.2.2.2.2.2.2.2.2.2.2.1, hR.2.2.2.2.2.2.2.2.2.2.2.2.2.2.2.2.2.2.2.2.2.2.1, hR.2.2.2.2.2.2.2.2.2.2.2.2.2.2.2.2.2.2.2.2.2.2.2.1, hR.2.2.2.2.2.2.2.2.2.2.2.2.2.2.2.2.2.2.2.2.2.2.2.2.1, hR.2.2.2.2.2.2.2.2.2.2.2.2.2.2.2.2.2.2.2.2.2.2.2.2.2.1, hR.2.2.2.2.2.2.2.2.2.2.2.2.2.2.2.2.2.2.2.2.2.2.2.2.2.2.1, hR.2.2.2.2.2.2.2.2.2.2.2.2.2.2.2.2.2.2.2.2.2.2.2.2.2.2.2.1, ⟨d0, d1, d2, d3, d4, d5, d6, d7, rfl, hv, d10⟩, hR.2.2.2.2.2.2.2.2.2.2.2.2.2.2.2.2.2.2.2.2.2.2.2.2.2.2.2.2.2.1, hR.2.2.2.2.2.2.2.2.2.2.2.2.2.2.2.2.2.2.2.2.2.2.2.2.2.2.2.2.2.2.1, hR.2.2.2.2.2.2.2.2.2.2.2.2.2.2.2.2.2.2.2.2.2.2.2.2.2.2.2.2.2.2.2.1, ⟨hR.2.2.2.2.2.2.2.2.2.2.2.2.2.2.2.2.2.2.2.2.2.2.2.2.2.2.2.2.2.2.2.2.1.1, rfl, 0, by decide, rfl⟩, ⟨hR.2.2.2.2.2.2.2.2.2.2.2.2.2.2.2.2.2.2.2.2.2.2.2.2.2.2.2.2.2.2.2.2.2.1, rfl, 0, by decide, rfl⟩⟩
theorem ep_cgpath (c : ep_C) (v : Int32) (m0 : ep_M) : eF_0_givePath (ep_mk c m0) v = some (ep_mk (ep_cI (ep_cI (ep_cI c 12 14 v) 22 1 0) 24 1 0) m0) := by
  unfold eF_0_givePath eF_8_clear
  simp (disch := first | assumption | decide) only [↓ep_V, ↓ep_J, ↓ep_sb, ↓reduceIte, ep_rC1, ep_rC2, ep_rM, ep_rJ, ep_rQ, ep_wC1, ep_wC2, ep_wM, ep_iC1, ep_iC2, ep_iM, ep_wJ, ep_wQ, ep_cI1, ep_cIn, ep_cI2, ep_cL1, ep_cLn, ep_cL2, ep_cG1, ep_cGq, ep_cQ1, ep_cQ2, ep_cQq, ep_cQn, ep_mI1, ep_mIn, ep_mI2, ep_mL1, ep_mLn, ep_mL2, ep_mJ1, ep_mJ2]
theorem ep_mcpath (m : ep_M) (v : Int32) (c0 : ep_C) : eF_12_clearPath (ep_mk c0 m) v = some (ep_mk c0 (ep_mI (ep_mI (ep_mI m 127 67 v) 127 64 0) 127 66 0)) := by
  unfold eF_12_clearPath
  simp (disch := first | assumption | decide) only [↓ep_V, ↓ep_J, ↓ep_sb, ↓reduceIte, ep_rC1, ep_rC2, ep_rM, ep_rJ, ep_rQ, ep_wC1, ep_wC2, ep_wM, ep_iC1, ep_iC2, ep_iM, ep_wJ, ep_wQ, ep_cI1, ep_cIn, ep_cI2, ep_cL1, ep_cLn, ep_cL2, ep_cG1, ep_cGq, ep_cQ1, ep_cQ2, ep_cQq, ep_cQn, ep_mI1, ep_mIn, ep_mI2, ep_mL1, ep_mLn, ep_mL2, ep_mJ1, ep_mJ2]
theorem ep_R_dest {N : Nat} {c : ep_C} {m : ep_M} (hR : ep_R N c m) {e : Nat} (he : e < 6) (hE : m.1 155 e ≠ 2) {X9 X10 X11 Y1 Y2 : Nat → Int32} (g1 : ep_Gm X9 Y1) (g2 : ep_Gres X11 Y2) (g3 : ep_Gr2 (ep_sz m e 12) (m.1 165) (m.1 166) (m.1 167) (m.1 168) X10 (m.1 155) (m.1 156)) : ep_R N (ep_cH (ep_ct (ep_c4 c (ep_sz m e 12) X9 X10 X11) (fun t => decide (m.1 149 t = nI e)) 12) 4 e 5 0) (ep_mI (ep_m4 m Y1 Y2 (ep_tz m e 12) (ep_sz m e 12)) 155 e 0) := by
  have tzn : ∀ t, t < 12 → ep_tz m e 12 t ≠ 0 → m.1 148 t ≠ 0 ∧ m.1 149 t ≠ nI e ∧ ep_tz m e 12 t = m.1 148 t := by
    intro t ht h
    unfold ep_tz at h ⊢
    by_cases w : t < 12 ∧ m.1 149 t = nI e
    · rw [if_pos w] at h; exact absurd rfl h
    · rw [if_neg w] at h ⊢; exact ⟨h, fun z => w ⟨ht, z⟩, rfl⟩
  have szn : ∀ k, k < 12 → ep_sz m e 12 k ≠ 0 → ep_sz m e 12 k = m.1 164 k ∧ ep_of (m.1 164) (m.1 167) (m.1 168) k (nI e) = false := by
    intro k hk h
    unfold ep_sz at h ⊢
    by_cases w : k < 12 ∧ ep_hit m e k = true
    · rw [if_pos w] at h; exact absurd rfl h
    · rw [if_neg w] at h ⊢
      refine ⟨rfl, ?_⟩
      have : ¬ ep_hit m e k = true := fun z => w ⟨hk, z⟩
      unfold ep_hit at this
      simpa [h] using this
  have ofn : ∀ {k}, ep_of (m.1 164) (m.1 167) (m.1 168) k (nI e) = false → m.1 167 k ≠ nI e ∧ (m.1 164 k = 3 → m.1 168 k ≠ nI e) := by
    intro k h
    unfold ep_of at h
    refine ⟨fun z => ?_, fun z1 z2 => ?_⟩
    · simp [z] at h
    · simp [z1, z2] at h
  have ene : ∀ {x : Int32} {e'}, x = nI e' → x ≠ nI e → e' ≠ e := fun h1 h2 z => h2 (by rw [h1, z])
  have c2 : ∀ t, (ep_cH (ep_ct (ep_c4 c (ep_sz m e 12) X9 X10 X11) (fun t => decide (m.1 149 t = nI e)) 12) 4 e 5 0).2.1 2 t = if t < 12 ∧ decide (m.1 149 t = nI e) = true then upd (c.2.1 2 t) 6 0 else c.2.1 2 t := by
    intro t
    rw [ep_cHi _ _ _ _ _ _ _ (by decide), ep_ct_2]
    rfl
  have c4 : ∀ e', (ep_cH (ep_ct (ep_c4 c (ep_sz m e 12) X9 X10 X11) (fun t => decide (m.1 149 t = nI e)) 12) 4 e 5 0).2.1 4 e' = if e' = e then upd (c.2.1 4 e) 5 0 else c.2.1 4 e' := by
    intro e'
    rw [ep_cHe]
    rfl
  have rg : ep_Gr (ep_sz m e 12) (m.1 165) (m.1 166) (m.1 167) (m.1 168) X10 (upd (m.1 155) e 0) (m.1 156) := by
    refine ⟨fun k hk hs => ?_, g3.2, fun e' he' hE' => ?_⟩
    · obtain ⟨a1, a2, ⟨x, x1, x2, x3, x4⟩, a3, a4⟩ := g3.1 k hk hs
      obtain ⟨s1, s2⟩ := szn k hk hs
      obtain ⟨o1, o2⟩ := ofn s2
      refine ⟨a1, a2, ⟨x, x1, x2, ?_, x4⟩, fun z => ?_, a4⟩
      · rw [ep_upd_ne (ene x2 o1)]; exact x3
      · obtain ⟨y, y1, y2, y3, y4⟩ := a3 z
        refine ⟨y, y1, y2, ?_, y4⟩
        rw [ep_upd_ne (ene y2 (o2 (by rw [← s1]; exact z)))]; exact y3
    · have y : e' ≠ e := fun z => by rw [z, ep_upd_eq] at hE'; exact hE' rfl
      rw [ep_upd_ne y] at hE'
      obtain ⟨w, w1, w2, w3, w4⟩ := hR.2.2.2.1.2.2 e' he' hE'
      refine ⟨w, w1, w2, ?_, w4⟩
      have : ep_hit m e w = false := by
        unfold ep_hit ep_of
        have o1 : ¬ m.1 167 w = nI e := fun z => y ((nI_eq (by omega) (by omega)).mp (w4.symm.trans z))
        simp [w3, o1]
      unfold ep_sz
      rw [if_neg (fun z => by rw [this] at z; exact absurd z.2 (by decide))]
      exact w3
  refine ⟨g1, hR.2.1, ⟨rfl, hR.2.2.1.2⟩, rg, g2, hR.2.2.2.2.2.1, hR.2.2.2.2.2.2.1, hR.2.2.2.2.2.2.2.1, hR.2.2.2.2.2.2.2.2.1, hR.2.2.2.2.2.2.2.2.2.1, ?_, hR.2.2.2.2.2.2.2.2.2.2.2.1, ?_, ?_, ?_, ?_, ?_, ?_, hR.2.2.2.2.2.2.2.2.2.2.2.2.2.2.2.2.2.2.1, hR.2.2.2.2.2.2.2.2.2.2.2.2.2.2.2.2.2.2.2.1, hR.2.2.2.2.2.2.2.2.2.2.2.2.2.2.2.2.2.2.2.2.1, hR.2.2.2.2.2.2.2.2.2.2.2.2.2.2.2.2.2.2.2.2.2.1, ?_, hR.2.2.2.2.2.2.2.2.2.2.2.2.2.2.2.2.2.2.2.2.2.2.2.1, hR.2.2.2.2.2.2.2.2.2.2.2.2.2.2.2.2.2.2.2.2.2.2.2.2.1, hR.2.2.2.2.2.2.2.2.2.2.2.2.2.2.2.2.2.2.2.2.2.2.2.2.2.1, hR.2.2.2.2.2.2.2.2.2.2.2.2.2.2.2.2.2.2.2.2.2.2.2.2.2.2.1, hR.2.2.2.2.2.2.2.2.2.2.2.2.2.2.2.2.2.2.2.2.2.2.2.2.2.2.2.1, hR.2.2.2.2.2.2.2.2.2.2.2.2.2.2.2.2.2.2.2.2.2.2.2.2.2.2.2.2.1, hR.2.2.2.2.2.2.2.2.2.2.2.2.2.2.2.2.2.2.2.2.2.2.2.2.2.2.2.2.2.1, hR.2.2.2.2.2.2.2.2.2.2.2.2.2.2.2.2.2.2.2.2.2.2.2.2.2.2.2.2.2.2.1, hR.2.2.2.2.2.2.2.2.2.2.2.2.2.2.2.2.2.2.2.2.2.2.2.2.2.2.2.2.2.2.2.1, hR.2.2.2.2.2.2.2.2.2.2.2.2.2.2.2.2.2.2.2.2.2.2.2.2.2.2.2.2.2.2.2.2.1, hR.2.2.2.2.2.2.2.2.2.2.2.2.2.2.2.2.2.2.2.2.2.2.2.2.2.2.2.2.2.2.2.2.2⟩
  · intro t ht
    rw [c2]
    obtain ⟨a0, a2, a3, a4, a5, a6, a8⟩ := hR.2.2.2.2.2.2.2.2.2.2.1 t ht
    by_cases w : m.1 149 t = nI e
    · rw [if_pos ⟨ht, by simp [w]⟩]
      refine ⟨a0, a2, a3, a4, a5, ?_, a8⟩
      show (0 : Int32) = ep_tz m e 12 t
      unfold ep_tz
      rw [if_pos ⟨ht, w⟩]
    · rw [if_neg (fun z => w (by simpa using z.2))]
      refine ⟨a0, a2, a3, a4, a5, ?_, a8⟩
      show c.2.1 2 t 6 = ep_tz m e 12 t
      unfold ep_tz
      rw [if_neg (fun z => w z.2)]
      exact a6
  · intro t ht hs
    exact hR.2.2.2.2.2.2.2.2.2.2.2.2.1 t ht (tzn t ht hs).1
  · intro t ht hs
    have hs' : ep_tz m e 12 t ≠ 0 := hs
    obtain ⟨n1, n2, n3⟩ := tzn t ht hs'
    rw [c2, if_neg (fun z => n2 (by simpa using z.2))]
    show (_ ∧ ep_tz m e 12 t ≠ 2 ∧ _) ∨ ∃ h, h < 2 ∧ _ ∧ _ ∧ ep_tz m e 12 t = 2 ∧ _
    rw [n3]
    exact hR.2.2.2.2.2.2.2.2.2.2.2.2.2.1 t ht n1
  · intro h' hh'
    rcases hR.2.2.2.2.2.2.2.2.2.2.2.2.2.2.1 h' hh' with y | ⟨t', e', y1, y2, y3, y4, y5, y6⟩
    · exact Or.inl y
    · have ne : e' ≠ e := fun z => hE (by rw [← z]; exact y6)
      refine Or.inr ⟨t', e', y1, y2, y3, ?_, y5, ?_⟩
      · show ep_tz m e 12 t' = 2
        unfold ep_tz
        rw [if_neg]
        · exact y4
        · intro z
          rw [y5, nI_eq (by omega) (by omega)] at z
          exact ne z.2
      · show upd (m.1 155) e 0 e' = 2
        rw [ep_upd_ne ne]; exact y6
  · intro t ht hs
    have hs' : ep_tz m e 12 t ≠ 0 := hs
    obtain ⟨n1, n2, n3⟩ := tzn t ht hs'
    obtain ⟨a, e', b1, b2, b3⟩ := hR.2.2.2.2.2.2.2.2.2.2.2.2.2.2.2.1 t ht n1
    refine ⟨a, e', b1, b2, ?_⟩
    show upd (m.1 155) e 0 e' ≠ 0
    rw [ep_upd_ne (ene b2 n2)]; exact b3
  · intro e' he'
    rw [c4]
    obtain ⟨a5, a6, a7, a8, a9, a11, a12, a13, a14⟩ := hR.2.2.2.2.2.2.2.2.2.2.2.2.2.2.2.2.1 e' he'
    show _ = upd (m.1 155) e 0 e' ∧ _ ∧ _ ∧ _ ∧ _ ∧ _ ∧ _ ∧ (upd (m.1 155) e 0 e' = 0 ∨ upd (m.1 155) e 0 e' = 1 ∨ upd (m.1 155) e 0 e' = 2 ∨ upd (m.1 155) e 0 e' = 3) ∧ (upd (m.1 155) e 0 e' = 1 → _)
    by_cases y : e' = e
    · subst y
      rw [if_pos rfl, ep_upd_eq, ep_upd_eq]
      exact ⟨rfl, a6, a7, a8, a9, a11, a12, Or.inl rfl, fun z => absurd z (by decide)⟩
    · rw [if_neg y, ep_upd_ne y]
      exact ⟨a5, a6, a7, a8, a9, a11, a12, a13, a14⟩
  · intro e' he' hE'
    have hE2 : upd (m.1 155) e 0 e' ≠ 0 := hE'
    have y : e' ≠ e := fun z => by rw [z, ep_upd_eq] at hE2; exact hE2 rfl
    rw [ep_upd_ne y] at hE2
    rw [c4, if_neg y]
    have g := hR.2.2.2.2.2.2.2.2.2.2.2.2.2.2.2.2.2.1 e' he' hE2
    have z : ep_nt (ep_tz m e 12) (m.1 149) e' 12 = ep_nt (m.1 148) (m.1 149) e' 12 := by
      refine ep_nt_far 12 fun t ht => ?_
      by_cases w : m.1 149 t = nI e'
      · have w2 : ¬ m.1 149 t = nI e := fun q => y ((nI_eq (by omega) (by omega)).mp (w.symm.trans q))
        unfold ep_tz
        rw [if_neg (fun q => w2 q.2)]
      · exact ⟨fun q => absurd q.2 w, fun q => absurd q.2 w⟩
    show _ = nI (ep_nt (ep_tz m e 12) (m.1 149) e' 12) ∧ ep_nt (ep_tz m e 12) (m.1 149) e' 12 ≤ 3
    rw [z]
    exact g
  · intro e' he' hE'
    have hE2 : upd (m.1 155) e 0 e' = 1 := hE'
    have y : e' ≠ e := fun z => by rw [z, ep_upd_eq] at hE2; exact absurd hE2 (by decide)
    rw [ep_upd_ne y] at hE2
    exact hR.2.2.2.2.2.2.2.2.2.2.2.2.2.2.2.2.2.2.2.2.2.2.1 e' he' hE2
theorem ep_destroy_ {N : Nat} {c : ep_C} {m : ep_M} (hR : ep_R N c m) (p : Int32) : ep_Cp N c m (fun s => eF_10_destroy s p) (fun s => eF_12_destroy s p) := by
  cases hb : ep_inb p 6 (m.1 155) with
  | false =>
    refine ep_Cp_id hR (-1) (fun m0 => ?_) (fun c0 => ?_)
    · show eF_10_destroy (ep_mk c m0) p = _
      unfold eF_10_destroy
      rw [ep_chasE hR, ep_sb, hb, if_pos ep_bf]
    · show eF_12_destroy (ep_mk c0 m) p = _
      unfold eF_12_destroy
      rw [ep_misE, ep_sb, hb, if_pos ep_bf]
  | true =>
    obtain ⟨e, he, rfl, hE⟩ := ep_inb_t (by decide) hb
    have i6 : eh_in (nI e) 6 = true := ep_in he (by decide)
    have x6 : eh_ix (nI e) = e := ep_ix (by omega)
    have ge := (hR.2.2.2.2.2.2.2.2.2.2.2.2.2.2.2.2.1 e he).1
    by_cases h2 : m.1 155 e = 2
    · refine ep_Cp_id hR (-2) (fun m0 => ?_) (fun c0 => ?_)
      · show eF_10_destroy (ep_mk c m0) (nI e) = _
        unfold eF_10_destroy
        rw [ep_chasE hR, ep_sb, hb, if_neg ep_bt, if_pos i6, ep_rE0 _ _ he, ge, if_pos h2]
      · show eF_12_destroy (ep_mk c0 m) (nI e) = _
        unfold eF_12_destroy
        rw [ep_misE, ep_sb, hb, if_neg ep_bt, if_pos i6, x6, ep_rM _ _ 155 (by decide), if_pos h2]
    · obtain ⟨c1, m1, ⟨X9, X10, X11, Y1, Y2, rfl, rfl, g1, g2, g3⟩, l1, l2⟩ := ep_dloop hR he
      have R1 := ep_R_dest hR he h2 g1 g2 g3
      have hF : ∀ t, t < 12 → (ep_c4 c (ep_sz m e 12) X9 X10 X11).2.1 2 t 3 = m.1 149 t := fun t ht => (hR.2.2.2.2.2.2.2.2.2.2.1 t ht).2.2.1
      have d14 : c.1 12 14 = m.1 127 67 := hR.2.2.2.2.2.2.2.2.2.2.2.2.2.2.2.2.2.2.2.2.2.2.2.2.2.2.2.2.1.2.2.2.2.2.2.2.2.1
      by_cases hp : m.1 127 67 = nI e
      · refine ⟨0, _, _, fun m0 => ?_, fun c0 => ?_, ep_R_path R1 (Or.inl rfl), ⟨rfl, rfl, fun j hj => by rcases hj with rfl | rfl | rfl <;> rfl, rfl⟩⟩
        · show eF_10_destroy (ep_mk c m0) (nI e) = _
          unfold eF_10_destroy
          rw [ep_chasE hR, ep_sb, hb, if_neg ep_bt, if_pos i6, ep_rE0 _ _ he, ge, if_neg h2]
          refine ep_bnd (l1 m0) ?_
          refine ep_bnd (ep_cthreads _ m0 (nI e) (m.1 149) hF) ?_
          rw [if_pos i6, ep_V, ep_iE0 _ _ _ _ he, ep_J, ep_rC1 _ _ 12 (by decide)]
          rw [show (ep_cH (ep_ct (ep_c4 c (ep_sz m e 12) X9 X10 X11) (fun t => decide (m.1 149 t = nI e)) 12) 4 e 5 0).1 12 14 = nI e from d14.trans hp, if_pos rfl, ep_cgpath, ep_sb]
        · show eF_12_destroy (ep_mk c0 m) (nI e) = _
          unfold eF_12_destroy
          rw [ep_misE, ep_sb, hb, if_neg ep_bt, if_pos i6, x6, ep_rM _ _ 155 (by decide), if_neg h2]
          refine ep_bnd (l2 c0) ?_
          rw [if_pos i6, ep_V, ep_iM _ _ _ _ _ (by decide), ep_J, ep_rM _ _ 127 (by decide)]
          rw [show (ep_mI (ep_m4 m Y1 Y2 (ep_tz m e 12) (ep_sz m e 12)) 155 e 0).1 127 67 = nI e from hp, if_pos rfl, ep_mcpath, ep_sb]
      · refine ⟨0, _, _, fun m0 => ?_, fun c0 => ?_, R1, ⟨rfl, rfl, fun j hj => rfl, rfl⟩⟩
        · show eF_10_destroy (ep_mk c m0) (nI e) = _
          unfold eF_10_destroy
          rw [ep_chasE hR, ep_sb, hb, if_neg ep_bt, if_pos i6, ep_rE0 _ _ he, ge, if_neg h2]
          refine ep_bnd (l1 m0) ?_
          refine ep_bnd (ep_cthreads _ m0 (nI e) (m.1 149) hF) ?_
          rw [if_pos i6, ep_V, ep_iE0 _ _ _ _ he, ep_J, ep_rC1 _ _ 12 (by decide)]
          rw [show (ep_cH (ep_ct (ep_c4 c (ep_sz m e 12) X9 X10 X11) (fun t => decide (m.1 149 t = nI e)) 12) 4 e 5 0).1 12 14 = m.1 127 67 from d14, if_neg hp]
        · show eF_12_destroy (ep_mk c0 m) (nI e) = _
          unfold eF_12_destroy
          rw [ep_misE, ep_sb, hb, if_neg ep_bt, if_pos i6, x6, ep_rM _ _ 155 (by decide), if_neg h2]
          refine ep_bnd (l2 c0) ?_
          rw [if_pos i6, ep_V, ep_iM _ _ _ _ _ (by decide), ep_J, ep_rM _ _ 127 (by decide)]
          rw [show (ep_mI (ep_m4 m Y1 Y2 (ep_tz m e 12) (ep_sz m e 12)) 155 e 0).1 127 67 = m.1 127 67 from rfl, if_neg hp]
/-! a page is loaded -/
theorem ep_careOpen0 {r : Int32} (h : r < 0 ∨ 130816 < r) (s : eh_F) : eF_6_areOpen s r 256 = some 0 := by
  unfold eF_6_areOpen
  rw [ep_J]
  by_cases y : r < 0
  · rw [if_pos y]
  · rw [if_neg y, if_pos (show (0 : Int32) < 256 by decide), if_pos]
    obtain ⟨k, hk, rfl⟩ := nI_of y
    have h2 : 130816 < k := (nI_ltI (a := 130816) (by decide) hk).mp (h.resolve_left y)
    rw [Int32.lt_iff_toInt_lt, Int32.toInt_sub, nI_toInt hk]
    have e1 : (131072 : Int32).toInt = 131072 := by decide
    have e2 : (256 : Int32).toInt = 256 := by decide
    rw [e1, e2, Int.bmod_def]
    split <;> omega
theorem ep_lw4 (b : Nat → Int32) (o : Nat) : ((List.range 4).map fun i => eh_shr (ep_lw b o) (nI (8 * i))).map (· &&& 255) = [b o &&& 255, b (o + 1) &&& 255, b (o + 2) &&& 255, b (o + 3) &&& 255] := by
  have h4 : ∀ i, i < 4 → eh_shr (ep_lw b o) (nI (8 * i)) &&& 255 = b (o + i) &&& 255 := by
    intro i hi
    rw [ep_b8]
    intro j hj
    rw [ep_bit_shr _ (by omega) _ (by omega), if_pos (by omega), ep_bit_lw _ _ _ (by omega), show (j + 8 * i) / 8 = i by omega, show (j + 8 * i) % 8 = j by omega]
  show [eh_shr (ep_lw b o) (nI (8 * 0)) &&& 255, eh_shr (ep_lw b o) (nI (8 * 1)) &&& 255, eh_shr (ep_lw b o) (nI (8 * 2)) &&& 255, eh_shr (ep_lw b o) (nI (8 * 3)) &&& 255] = _
  rw [h4 0 (by decide), h4 1 (by decide), h4 2 (by decide), h4 3 (by decide)]
  rfl
theorem ep_puts_lw (b : Nat → Int32) (a i : Nat) (st : ep_St) : ep_puts (ep_puts st ((List.range (4 * i)).map fun k => b (a + k))) ((List.range 4).map fun j => eh_shr (ep_lw b (a + 4 * i)) (nI (8 * j))) = ep_puts st ((List.range (4 * (i + 1))).map fun k => b (a + k)) := by
  rw [ep_range4, ep_puts_ap]
  refine ep_puts_cong _ ?_
  rw [ep_lw4]
  rfl
theorem ep_nw4 (X : Nat → Int32) {q : Nat} (hq : q % 4 = 0) (v : Int32) : ep_nw X q 4 v = upd X (q / 4) v := by
  unfold ep_nw
  refine congrArg (upd X (q / 4)) (ep_ext fun i hi => ?_)
  have hm : ep_mask 4 q = -1 := rfl
  rw [hm, hq, show ((-1 : Int32) ^^^ (-1)) = 0 by decide, ep_bit_or, ep_bit_and, ep_bit_and, ep_bit_0, ep_bit_m1 i hi, Nat.mul_zero, ep_bit_shl _ (by decide) i hi]
  simp
def ep_clrW (f : Nat → Int32) (a : Nat) : Nat → Nat → Int32
  | 0 => f
  | k + 1 => ep_clr (ep_clrW f a k) (nI (a + k))
theorem ep_Clr_W (f : Nat → Int32) (a : Nat) : ∀ n, ep_Clr f (ep_clrW f a n) (fun x => ∃ k, k < n ∧ x = nI (a + k))
  | 0 => ep_Clr_c (ep_Clr_0 f) (fun x => ⟨fun z => z.elim, fun ⟨k, h, _⟩ => absurd h (Nat.not_lt_zero k)⟩)
  | n + 1 => by
    refine ep_Clr_c (ep_Clr_t (ep_Clr_W f a n) (ep_Clr_1 _ (nI (a + n)))) (fun x => ?_)
    constructor
    · intro z
      rcases z with ⟨k, hk, z⟩ | z
      · exact ⟨k, by omega, z⟩
      · exact ⟨n, by omega, z⟩
    · intro ⟨k, hk, z⟩
      by_cases y : k = n
      · subst y; exact Or.inr z
      · exact Or.inl ⟨k, by omega, z⟩
theorem ep_cse_2 (c : ep_C) (e : Nat) (n n' : Int32) (f g f' g' : Nat → Int32) : ep_cse (ep_cse c e n f g) e n' f' g' = ep_cse c e n' f' g' := by
  refine Prod.ext rfl (Prod.ext ?_ rfl)
  funext i j
  simp only [ep_cse, ep_cH, ep_cG, ep_ug]
  by_cases h1 : i = 7
  · subst h1; by_cases h2 : j = e <;> simp [h2]
  · by_cases h3 : i = 6
    · subst h3; by_cases h2 : j = e <;> simp [h2]
    · by_cases h4 : i = 5
      · subst h4
        by_cases h2 : j = e
        · subst h2; simp [ep_upd_upd]
        · simp [h2]
      · simp [h1, h3, h4]
theorem ep_c2_cse (c : ep_C) (X Y f g : Nat → Int32) (e : Nat) (n : Int32) : ep_c2 (ep_cse c e n f g) X Y = ep_cse (ep_c2 c X Y) e n f g := rfl
/-- the class's loop -/
theorem ep_cload {c : ep_C} {b : Nat → Int32} (hm : ep_Gm (c.1 9) b) {e a T : Nat} {st : ep_St} (he : e < 6) (hS : ep_Rc (c.2.1 6 e) (c.2.1 7 e) (c.2.1 5 e 3) st) (hk : ep_ok st) (hal : st.2.2 % 4 = 0) (hn : st.2.2 + 300 < 2 ^ 28) (ha : a + 256 ≤ 131072) (ha4 : a % 4 = 0) (hT : T < 512) (hd : ∀ k, k < 256 → (a + k) / 256 ≠ T) : ∃ n f g, ep_Rc f g n (ep_puts st ((List.range 256).map fun k => b (a + k))) ∧ ∀ m0, eh_loop (fun (r22 : (Int32 × eh_F) → Option (eh_F)) (t19 : Int32 × eh_F) => if t19.1 < 256 then (Option.bind (eF_6_wordAt t19.2 (nI a + t19.1)) (fun q24 => Option.bind (eF_6_store t19.2 (nI (256 * T) + t19.1) q24 4) (fun q25 => Option.bind (eF_9_feedNumber q25 ((eh_ep (nI e)) + 1) q24) (fun q26 => eh_V ((t19.1 + 4) : Int32) (fun x27 => r22 (x27, q26)))))) else (some t19.2)) eh_FU (nI (4 * 0), ep_mk c m0) = some (ep_mk (ep_cse (ep_c2 c (ep_in_ (c.1 9) (64 * T) 64 fun j => c.1 9 (a / 4 + j)) (ep_clrW (c.1 11) (64 * T) 64)) e n f g) m0) := by
  have key := ep_minv0 (A := ep_M) (X := Int32 × (Nat → Int32) × (Nat → Int32)) (body := fun _ (r22 : (Int32 × eh_F) → Option (eh_F)) (t19 : Int32 × eh_F) => if t19.1 < 256 then (Option.bind (eF_6_wordAt t19.2 (nI a + t19.1)) (fun q24 => Option.bind (eF_6_store t19.2 (nI (256 * T) + t19.1) q24 4) (fun q25 => Option.bind (eF_9_feedNumber q25 ((eh_ep (nI e)) + 1) q24) (fun q26 => eh_V ((t19.1 + 4) : Int32) (fun x27 => r22 (x27, q26)))))) else (some t19.2)) (fun m0 i x => (nI (4 * i), ep_mk (ep_cse (ep_c2 c (ep_in_ (c.1 9) (64 * T) i fun j => c.1 9 (a / 4 + j)) (ep_clrW (c.1 11) (64 * T) i)) e x.1 x.2.1 x.2.2) m0)) (fun G => ∃ n f g, ep_Rc f g n (ep_puts st ((List.range 256).map fun k => b (a + k))) ∧ ∀ m0, G m0 = some (ep_mk (ep_cse (ep_c2 c (ep_in_ (c.1 9) (64 * T) 64 fun j => c.1 9 (a / 4 + j)) (ep_clrW (c.1 11) (64 * T) 64)) e n f g) m0)) (fun i x => ep_Rc x.2.1 x.2.2 x.1 (ep_puts st ((List.range (4 * i)).map fun k => b (a + k)))) 64 (by decide) ?_ ?_ (c.2.1 5 e 3, c.2.1 6 e, c.2.1 7 e) hS
  · obtain ⟨G, ⟨n, f, g, h1, h2⟩, h3⟩ := key
    refine ⟨n, f, g, h1, fun m0 => ?_⟩
    rw [← h2, ← h3]
    show _ = eh_loop _ _ (nI (4 * 0), ep_mk (ep_cse (ep_c2 c (ep_in_ (c.1 9) (64 * T) 0 _) (c.1 11)) e (c.2.1 5 e 3) (c.2.1 6 e) (c.2.1 7 e)) m0)
    rw [ep_in_0, ep_c2_id]
    have : ep_cse c e (c.2.1 5 e 3) (c.2.1 6 e) (c.2.1 7 e) = c := by
      refine Prod.ext rfl (Prod.ext ?_ rfl)
      funext i j
      simp only [ep_cse, ep_cH, ep_cG, ep_ug]
      by_cases h2 : j = e
      · subst h2
        by_cases h1 : i = 7
        · subst h1; simp
        · by_cases h3 : i = 6
          · subst h3; simp
          · by_cases h4 : i = 5
            · subst h4; simp [ep_upd_id]
            · simp [h1, h3, h4]
      · by_cases h1 : i = 7
        · subst h1; simp [h2]
        · by_cases h3 : i = 6
          · subst h3; simp [h2]
          · by_cases h4 : i = 5
            · subst h4; simp [h2]
            · simp [h1, h3, h4]
    rw [this]
  · intro i x hi hp
    left
    have hb := hm
    unfold ep_Gm at hb
    have hl : (ep_puts st ((List.range (4 * i)).map fun k => b (a + k))).2.2 = st.2.2 + 4 * i := by rw [ep_puts_len, ep_range_len]
    obtain ⟨f', g', n', p1, p2⟩ := ep_cfeedNumber hp (ep_puts_ok _ hk (by rw [ep_range_len]; omega)) (by rw [hl]; omega) (by rw [hl]; omega) (ep_lw b (a + 4 * i))
    refine ⟨(n', f', g'), ?_, fun m0 rec => ?_⟩
    · rw [ep_puts_lw] at p1; exact p1
    · have z1 : nI (4 * i) < 256 := nI_lt (b := 256) (by omega) (by decide)
      have hw : ∀ m0, eF_6_wordAt (ep_mk (ep_cse (ep_c2 c (ep_in_ (c.1 9) (64 * T) i fun j => c.1 9 (a / 4 + j)) (ep_clrW (c.1 11) (64 * T) i)) e x.1 x.2.1 x.2.2) m0) (nI (a + 4 * i)) = some (ep_lw b (a + 4 * i)) := by
        intro m0
        rw [ep_cwordAt _ (by omega)]
        show some (ep_in_ (c.1 9) (64 * T) i (fun j => c.1 9 (a / 4 + j)) ((a + 4 * i) / 4)) = _
        unfold ep_in_
        rw [if_neg (by have := hd (4 * i) (by omega); omega), hb, show 4 * ((a + 4 * i) / 4) = a + 4 * i by omega]
      show (if nI (4 * i) < 256 then _ else _) = _
      rw [if_pos z1, nI_add, hw m0, ep_sb, nI_add]
      have hst : eF_6_store (ep_mk (ep_cse (ep_c2 c (ep_in_ (c.1 9) (64 * T) i fun j => c.1 9 (a / 4 + j)) (ep_clrW (c.1 11) (64 * T) i)) e x.1 x.2.1 x.2.2) m0) (nI (256 * T + 4 * i)) (ep_lw b (a + 4 * i)) 4 = some (ep_mk (ep_cse (ep_c2 c (ep_in_ (c.1 9) (64 * T) (i + 1) fun j => c.1 9 (a / 4 + j)) (ep_clrW (c.1 11) (64 * T) (i + 1))) e x.1 x.2.1 x.2.2) m0) := by
        have := ep_cstore (ep_cse c e x.1 x.2.1 x.2.2) (ep_in_ (c.1 9) (64 * T) i fun j => c.1 9 (a / 4 + j)) (ep_clrW (c.1 11) (64 * T) i) (q := 256 * T + 4 * i) (n := 4) (by omega) (Or.inr (Or.inr rfl)) (ep_lw b (a + 4 * i)) m0
        rw [ep_nw4 _ (by omega), show (256 * T + 4 * i) / 4 = 64 * T + i by omega, show ep_lw b (a + 4 * i) = (fun j => c.1 9 (a / 4 + j)) i from by rw [hb]; show _ = ep_lw b (4 * (a / 4 + i)); rw [show 4 * (a / 4 + i) = a + 4 * i by omega], ep_in_s, ep_c2_cse] at this
        rw [show ep_lw b (a + 4 * i) = (fun j => c.1 9 (a / 4 + j)) i from by rw [hb]; show _ = ep_lw b (4 * (a / 4 + i)); rw [show 4 * (a / 4 + i) = a + 4 * i by omega]]
        exact this
      rw [hst, ep_sb, p2 _ _ (by rw [(ep_re _ _ he).1]; exact (ep_cse_5 _ _ _ _ _).2.1) (by rw [(ep_re _ _ he).2.1]; exact (ep_cse_5 _ _ _ _ _).2.2) (by rw [(ep_re _ _ he).2.2]; exact (ep_cse_5 _ _ _ _ _).1), ep_sb, ep_V, ep_t3_e _ _ he, ep_cse_2, ep_p4]
      rfl
  · intro x hp
    refine ⟨fun m0 => some (ep_mk (ep_cse (ep_c2 c (ep_in_ (c.1 9) (64 * T) 64 fun j => c.1 9 (a / 4 + j)) (ep_clrW (c.1 11) (64 * T) 64)) e x.1 x.2.1 x.2.2) m0), ⟨x.1, x.2.1, x.2.2, hp, fun m0 => rfl⟩, fun m0 rec => ?_⟩
    show (if nI (4 * 64) < 256 then _ else _) = _
    rw [if_neg (by decide)]
/-- the reference's loop -/
theorem ep_mload_ (m : ep_M) {e w a b pg : Nat} (he : e < 6) (hw : w < 12) (hwe : m.1 156 e = nI w) (hB : m.1 165 w = nI (256 * b)) (ha : a + 256 ≤ 131072) (hT : b + pg < 512) (hd : ∀ k, k < 256 → (a + k) / 256 ≠ b + pg) (c0 : ep_C) : eh_loop (fun (r19 : (Int32 × eh_F) → Option (eh_F)) (t16 : Int32 × eh_F) => if t16.1 < 256 then (if eh_in (nI e) 6 then if eh_in (t16.2.1 156 (eh_ix (nI e))) 12 then if eh_in (nI a + t16.1) 131072 then Option.bind (eF_12_setByte t16.2 (((t16.2.1 165 (eh_ix (t16.2.1 156 (eh_ix (nI e))))) + (256 * nI pg)) + t16.1) (t16.2.1 128 (eh_ix (nI a + t16.1)))) (fun q21 => eh_V ((t16.1 + 1) : Int32) (fun x22 => r19 (x22, q21))) else none else none else none) else (some t16.2)) eh_FU (0, ep_mk c0 m) = some (ep_mk c0 (ep_m2 m (ep_in_ (m.1 128) (256 * (b + pg)) 256 fun k => eh_nb (eh_nb (m.1 128 (a + k)))) (ep_clrs (m.1 147) (256 * (b + pg)) 256))) := by
  have i6 : eh_in (nI e) 6 = true := ep_in he (by decide)
  have x6 : eh_ix (nI e) = e := ep_ix (by omega)
  have iw : eh_in (nI w) 12 = true := ep_in hw (by decide)
  have xw : eh_ix (nI w) = w := ep_ix (by omega)
  refine ep_loop (fun i => (nI i, ep_mk c0 (ep_m2 m (ep_in_ (m.1 128) (256 * (b + pg)) i fun k => eh_nb (eh_nb (m.1 128 (a + k)))) (ep_clrs (m.1 147) (256 * (b + pg)) i)))) 256 _ (ep_FU _ (by decide)) ?_ ?_ ?_
  · intro i hi rec
    have z1 : nI i < 256 := nI_lt (b := 256) hi (by decide)
    show (if nI i < 256 then _ else _) = _
    rw [if_pos z1, if_pos i6, x6, ep_rM _ _ 156 (by decide), ep_m2_n _ _ _ _ (by decide) (by decide), hwe, if_pos iw, xw, nI_add, if_pos (ep_in (show a + i < 131072 by omega) (by decide)), ep_rM _ _ 165 (by decide), ep_m2_n _ _ _ _ (by decide) (by decide), hB, ep_mul (a := pg) (b := 256) (y := 256) rfl rfl, nI_add, nI_add, show eh_ix (nI (a + i)) = a + i from ep_ix (by omega), ep_rM _ _ 128 (by decide), ep_m2_128, ep_msetByte _ _ _ (show 256 * b + 256 * pg + i < 131072 by omega), ep_sb, ep_V, nI_1]
    have hv : ep_in_ (m.1 128) (256 * (b + pg)) i (fun k => eh_nb (eh_nb (m.1 128 (a + k)))) (a + i) = m.1 128 (a + i) := by
      unfold ep_in_
      rw [if_neg (by have := hd i hi; omega)]
    rw [hv, show 256 * b + 256 * pg + i = 256 * (b + pg) + i by omega, ep_in_s (g := fun k => eh_nb (eh_nb (m.1 128 (a + k))))]
    rfl
  · intro rec
    show (if nI 256 < 256 then _ else _) = _
    rw [if_neg (by decide)]
  · show _ = (nI 0, ep_mk c0 (ep_m2 m (ep_in_ (m.1 128) (256 * (b + pg)) 0 _) (m.1 147)))
    rw [ep_in_0, ep_m2_id]
    rfl
theorem ep_Gm_l {w b : Nat → Int32} (h : ep_Gm w b) (T a : Nat) (ha : a % 4 = 0) : ep_Gm (ep_in_ w (64 * T) 64 fun j => w (a / 4 + j)) (ep_in_ b (256 * T) 256 fun k => eh_nb (eh_nb (b (a + k)))) := by
  unfold ep_Gm at h ⊢
  subst h
  funext j
  unfold ep_in_
  dsimp only
  by_cases z : 64 * T ≤ j ∧ j < 64 * T + 64
  · rw [if_pos z]
    unfold ep_lw
    dsimp only
    rw [if_pos (by omega), if_pos (by omega), if_pos (by omega), if_pos (by omega), ep_nbnb, ep_nbnb, ep_nbnb, ep_nbnb]
    rw [show a + (4 * j - 256 * T) = 4 * (a / 4 + (j - 64 * T)) by omega, show a + (4 * j + 1 - 256 * T) = 4 * (a / 4 + (j - 64 * T)) + 1 by omega, show a + (4 * j + 2 - 256 * T) = 4 * (a / 4 + (j - 64 * T)) + 2 by omega, show a + (4 * j + 3 - 256 * T) = 4 * (a / 4 + (j - 64 * T)) + 3 by omega]
  · rw [if_neg z]
    unfold ep_lw
    dsimp only
    rw [if_neg (by omega), if_neg (by omega), if_neg (by omega), if_neg (by omega)]
theorem ep_Gres_l {cr mr : Nat → Int32} (h : ep_Gres cr mr) {T : Nat} (hT : T < 512) : ep_Gres (ep_clrW cr (64 * T) 64) (ep_clrs mr (256 * T) 256) := by
  refine ep_Gres_c h (ep_Clr_W _ _ _) (ep_Clr_s _ _ _) ?_
  intro j hj
  rw [ep_touch (by omega) hj]
  constructor
  · intro ⟨k, z1, z2⟩
    rw [nI_eq (by omega) (by omega)] at z2
    exact ⟨4 * k, by omega, by omega⟩
  · intro ⟨k, z1, z2⟩
    exact ⟨j - 64 * T, by omega, by congr 1; omega⟩
theorem ep_load_ {N : Nat} {c : ep_C} {m : ep_M} (hR : ep_R N c m) (hN : N + 600 < 2 ^ 28) (p q r : Int32) : ep_Cp (N + 264) c m (fun s => eF_10_load s p q r) (fun s => eF_12_loadPage s p q r) := by
  have hRm := ep_R_mono hR (show N ≤ N + 264 by omega)
  cases hb : ep_inb p 6 (m.1 155) with
  | false =>
    refine ep_Cp_id hRm (-1) (fun m0 => ?_) (fun c0 => ?_)
    · show eF_10_load (ep_mk c m0) p q r = _
      unfold eF_10_load
      rw [ep_chasE hR, ep_sb, hb, ep_J, if_pos ep_bf]
    · show eF_12_loadPage (ep_mk c0 m) p q r = _
      unfold eF_12_loadPage
      rw [ep_misE, ep_sb, hb, ep_J, if_pos ep_bf]
  | true =>
    obtain ⟨e, he, rfl, hE⟩ := ep_inb_t (by decide) hb
    obtain ⟨w, b, n, hw, hwe, hwS, n0, bn, hB, hZ, cb, cs, hP⟩ := ep_ownR hR he hE
    have i6 : eh_in (nI e) 6 = true := ep_in he (by decide)
    have x6 : eh_ix (nI e) = e := ep_ix (by omega)
    have i12 : eh_in (nI w) 12 = true := ep_in hw (by decide)
    have xw : eh_ix (nI w) = w := ep_ix (by omega)
    have ge := (hR.2.2.2.2.2.2.2.2.2.2.2.2.2.2.2.2.1 e he).1
    have hdv : nI (256 * n) / 256 = nI n := (ep_divn (a := 256 * n) (d := 256) (by omega) (by decide) (by decide)).trans (by rw [Nat.mul_div_cancel_left _ (by decide)])
    by_cases hq0 : q < 0
    · refine ep_Cp_id hRm (-1) (fun m0 => ?_) (fun c0 => ?_)
      · show eF_10_load (ep_mk c m0) (nI e) q r = _
        unfold eF_10_load
        rw [ep_chasE hR, ep_sb, hb, ep_J, if_neg ep_bt, if_pos hq0]
      · show eF_12_loadPage (ep_mk c0 m) (nI e) q r = _
        unfold eF_12_loadPage
        rw [ep_misE, ep_sb, hb, ep_J, if_neg ep_bt, if_pos hq0]
    by_cases hq1 : ¬ q < nI n
    · refine ep_Cp_id hRm (-1) (fun m0 => ?_) (fun c0 => ?_)
      · show eF_10_load (ep_mk c m0) (nI e) q r = _
        unfold eF_10_load
        rw [ep_chasE hR, ep_sb, hb, ep_J, if_neg ep_bt, if_neg hq0, cs, ep_sb, hdv, if_neg hq1]
      · show eF_12_loadPage (ep_mk c0 m) (nI e) q r = _
        unfold eF_12_loadPage
        rw [ep_misE, ep_sb, hb, ep_J, if_neg ep_bt, if_neg hq0, if_pos i6, x6, ep_rM _ _ 156 (by decide), hwe, if_pos i12, xw, ep_rM _ _ 166 (by decide), hZ, hdv, if_neg hq1]
    have hq1 := Decidable.not_not.mp hq1
    have hr4 := ep_rem4 r
    by_cases hr : ¬ (¬ r < 0 ∧ r &&& 3 = 0 ∧ ¬ 130816 < r)
    · refine ep_Cp_id hRm (-1) (fun m0 => ?_) (fun c0 => ?_)
      · show eF_10_load (ep_mk c m0) (nI e) q r = _
        unfold eF_10_load
        rw [ep_chasE hR, ep_sb, hb, ep_J, if_neg ep_bt, if_neg hq0, cs, ep_sb, hdv, if_pos hq1, ep_J]
        by_cases y3 : r &&& 3 = 0
        · have hz : r < 0 ∨ 130816 < r := by
            by_cases y1 : r < 0
            · exact Or.inl y1
            · exact Or.inr (Decidable.byContradiction fun y2 => hr ⟨y1, y3, y2⟩)
          rw [if_pos y3, ep_careOpen0 hz, ep_sb, if_pos rfl]
        · rw [if_neg y3]
      · show eF_12_loadPage (ep_mk c0 m) (nI e) q r = _
        unfold eF_12_loadPage
        rw [ep_misE, ep_sb, hb, ep_J, if_neg ep_bt, if_neg hq0, if_pos i6, x6, ep_rM _ _ 156 (by decide), hwe, if_pos i12, xw, ep_rM _ _ 166 (by decide), hZ, hdv, if_pos hq1]
        by_cases y1 : r < 0
        · rw [if_pos y1]
        · rw [if_neg y1]
          by_cases y3 : r &&& 3 = 0
          · rw [if_pos (hr4.mpr y3), if_pos (Decidable.byContradiction fun y2 => hr ⟨y1, y3, y2⟩)]
          · rw [if_neg (fun z => y3 (hr4.mp z))]
    obtain ⟨r0, r3, r1⟩ := Decidable.not_not.mp hr
    obtain ⟨a, ha, rfl⟩ := ep_le_of (n := 130816) (by decide) r0 r1
    have ha4 : a % 4 = 0 := by
      rw [ep_and3 (by omega), show (0 : Int32) = nI 0 from rfl, nI_eq (by omega) (by decide)] at r3
      exact r3
    cases ho : ep_ao (m.1 164) (c.1 10) a 256 with
    | false =>
      refine ep_Cp_id hRm (-1) (fun m0 => ?_) (fun c0 => ?_)
      · show eF_10_load (ep_mk c m0) (nI e) q (nI a) = _
        unfold eF_10_load
        rw [ep_chasE hR, ep_sb, hb, ep_J, if_neg ep_bt, if_neg hq0, cs, ep_sb, hdv, if_pos hq1, ep_J, if_pos r3, show (256 : Int32) = nI 256 from rfl, ep_careOpen hR (by decide) (by omega), ep_sb, ho, if_pos ep_bf]
      · show eF_12_loadPage (ep_mk c0 m) (nI e) q (nI a) = _
        unfold eF_12_loadPage
        rw [ep_misE, ep_sb, hb, ep_J, if_neg ep_bt, if_neg hq0, if_pos i6, x6, ep_rM _ _ 156 (by decide), hwe, if_pos i12, xw, ep_rM _ _ 166 (by decide), hZ, hdv, if_pos hq1, if_neg r0, if_pos (hr4.mpr r3), if_neg r1, show eF_12_areOpen (ep_mk c0 m) (nI a) 256 = _ from ep_mareOpen hR (n := 256) (by decide) (by omega) c0, ep_sb, ho, if_pos ep_bf]
    | true =>
      by_cases hl : ¬ m.1 155 e = 1
      · refine ep_Cp_id hRm (-2) (fun m0 => ?_) (fun c0 => ?_)
        · show eF_10_load (ep_mk c m0) (nI e) q (nI a) = _
          unfold eF_10_load
          rw [ep_chasE hR, ep_sb, hb, ep_J, if_neg ep_bt, if_neg hq0, cs, ep_sb, hdv, if_pos hq1, ep_J, if_pos r3, show eF_6_areOpen (ep_mk c m0) (nI a) 256 = _ from ep_careOpen hR (n := 256) (by decide) (by omega) m0, ep_sb, ho, if_neg ep_bt, if_pos i6, ep_rE0 _ _ he, ge, if_neg hl]
        · show eF_12_loadPage (ep_mk c0 m) (nI e) q (nI a) = _
          unfold eF_12_loadPage
          rw [ep_misE, ep_sb, hb, ep_J, if_neg ep_bt, if_neg hq0, if_pos i6, x6, ep_rM _ _ 156 (by decide), hwe, if_pos i12, xw, ep_rM _ _ 166 (by decide), hZ, hdv, if_pos hq1, if_neg r0, if_pos (hr4.mpr r3), if_neg r1, show eF_12_areOpen (ep_mk c0 m) (nI a) 256 = _ from ep_mareOpen hR (n := 256) (by decide) (by omega) c0, ep_sb, ho, if_neg ep_bt, if_pos i6, ep_rM _ _ 155 (by decide), if_neg hl]
      have hl := Decidable.not_not.mp hl
      obtain ⟨pg, hpg, rfl⟩ := nI_of hq0
      have hpn : pg < n := (nI_ltI hpg (by omega)).mp hq1
      have hPT : c.1 10 (b + pg) = nI w := (hP (b + pg) (by omega)).mpr ⟨by omega, by omega⟩
      have hd : ∀ k, k < 256 → (a + k) / 256 ≠ b + pg := by
        intro k hk z
        have h1 := ep_all_iff.mp ho ((a + k) / 256 - a / 256) (by omega)
        rw [show 256 * (a / 256 + ((a + k) / 256 - a / 256)) = 256 * (b + pg) by omega] at h1
        unfold ep_ob at h1
        rw [Nat.mul_div_cancel_left _ (by decide), hPT, xw, hwS] at h1
        have h2 : ¬ nI w < 0 := nI_pos (by omega)
        simp [h2] at h1
      obtain ⟨st, s1, s2, s3, s4, s5⟩ := hR.2.2.2.2.2.2.2.2.2.2.2.2.2.2.2.2.2.2.2.2.2.2.1 e he hl
      obtain ⟨c1, m1, a1, a2, a3, a4, ⟨n5, f5, g5, a5⟩, ⟨H6, B6, W6, L6, a6⟩⟩ := ep_senums he [2, nI pg] hR ⟨s4, s5⟩ s1 s2 s3 (by show N + 4 * 2 + 4 < 2 ^ 28; omega)
      have hk1 := ep_puts_ok (ep_nums [2, nI pg]) s1 (by rw [ep_nums_len]; show st.2.2 + 4 * 2 < 2 ^ 28; omega)
      have hl1 : (ep_puts st (ep_nums [2, nI pg])).2.2 = st.2.2 + 8 := by rw [ep_puts_len, ep_nums_len]; rfl
      have c1m : c1.1 = c.1 := by rw [a5]; rfl
      have m1m : ∀ k, k ≠ 188 → k ≠ 189 → k ≠ 191 → m1.1 k = m.1 k := fun k x y z => by rw [a6]; exact ep_mSn m H6 B6 W6 L6 k x y z
      obtain ⟨nn, f, g, d1, d2⟩ := ep_cload (c := c1) (b := m1.1 128) a3.1 he a4.1 hk1 (by omega) (by omega) (show a + 256 ≤ 131072 by omega) ha4 (show b + pg < 512 by omega) hd
      obtain ⟨H, B, W, L, b1, b2, b3⟩ := ep_maddBytes (e := e) (by omega) a4.2 hk1 128 131072 a 256 (by omega) (by decide) (by decide) (by decide) (by decide) (by omega) (by decide)
      have hk2 := ep_puts_ok ((List.range 256).map fun i => m1.1 128 (a + i)) hk1 (by rw [ep_range_len]; omega)
      have hl2 : (ep_puts (ep_puts st (ep_nums [2, nI pg])) ((List.range 256).map fun i => m1.1 128 (a + i))).2.2 = st.2.2 + 264 := by rw [ep_puts_len, ep_range_len, hl1]
      have R2 := ep_R_cse (N' := N + 264) (W := W) a3 he (by show N + 4 * 2 ≤ _; omega) hk2 (by omega) (by omega) d1 b2 b3
      have R3 : ep_R (N + 264) (ep_c2 (ep_cse c1 e nn f g) (ep_in_ (c1.1 9) (64 * (b + pg)) 64 fun j => c1.1 9 (a / 4 + j)) (ep_clrW (c1.1 11) (64 * (b + pg)) 64)) (ep_m2 (ep_mS m1 H B W L) (ep_in_ (m1.1 128) (256 * (b + pg)) 256 fun k => eh_nb (eh_nb (m1.1 128 (a + k)))) (ep_clrs (m1.1 147) (256 * (b + pg)) 256)) :=
        ⟨ep_Gm_l a3.1 (b + pg) a ha4, R2.2.1, R2.2.2.1, R2.2.2.2.1, ep_Gres_l a3.2.2.2.2.1 (by omega), R2.2.2.2.2.2.1, R2.2.2.2.2.2.2.1, R2.2.2.2.2.2.2.2.1, R2.2.2.2.2.2.2.2.2.1, R2.2.2.2.2.2.2.2.2.2.1, R2.2.2.2.2.2.2.2.2.2.2.1, R2.2.2.2.2.2.2.2.2.2.2.2.1, R2.2.2.2.2.2.2.2.2.2.2.2.2.1, R2.2.2.2.2.2.2.2.2.2.2.2.2.2.1, R2.2.2.2.2.2.2.2.2.2.2.2.2.2.2.1, R2.2.2.2.2.2.2.2.2.2.2.2.2.2.2.2.1, R2.2.2.2.2.2.2.2.2.2.2.2.2.2.2.2.2.1, R2.2.2.2.2.2.2.2.2.2.2.2.2.2.2.2.2.2.1, R2.2.2.2.2.2.2.2.2.2.2.2.2.2.2.2.2.2.2.1, R2.2.2.2.2.2.2.2.2.2.2.2.2.2.2.2.2.2.2.2.1, R2.2.2.2.2.2.2.2.2.2.2.2.2.2.2.2.2.2.2.2.2.1, R2.2.2.2.2.2.2.2.2.2.2.2.2.2.2.2.2.2.2.2.2.2.1, R2.2.2.2.2.2.2.2.2.2.2.2.2.2.2.2.2.2.2.2.2.2.2.1, R2.2.2.2.2.2.2.2.2.2.2.2.2.2.2.2.2.2.2.2.2.2.2.2.1, R2.2.2.2.2.2.2.2.2.2.2.2.2.2.2.2.2.2.2.2.2.2.2.2.2.1, R2.2.2.2.2.2.2.2.2.2.2.2.2.2.2.2.2.2.2.2.2.2.2.2.2.2.1, R2.2.2.2.2.2.2.2.2.2.2.2.2.2.2.2.2.2.2.2.2.2.2.2.2.2.2.1, R2.2.2.2.2.2.2.2.2.2.2.2.2.2.2.2.2.2.2.2.2.2.2.2.2.2.2.2.1, R2.2.2.2.2.2.2.2.2.2.2.2.2.2.2.2.2.2.2.2.2.2.2.2.2.2.2.2.2.1, R2.2.2.2.2.2.2.2.2.2.2.2.2.2.2.2.2.2.2.2.2.2.2.2.2.2.2.2.2.2.1, R2.2.2.2.2.2.2.2.2.2.2.2.2.2.2.2.2.2.2.2.2.2.2.2.2.2.2.2.2.2.2.1, R2.2.2.2.2.2.2.2.2.2.2.2.2.2.2.2.2.2.2.2.2.2.2.2.2.2.2.2.2.2.2.2.1, R2.2.2.2.2.2.2.2.2.2.2.2.2.2.2.2.2.2.2.2.2.2.2.2.2.2.2.2.2.2.2.2.2.1, R2.2.2.2.2.2.2.2.2.2.2.2.2.2.2.2.2.2.2.2.2.2.2.2.2.2.2.2.2.2.2.2.2.2⟩
      refine ⟨0, _, _, fun m0 => ?_, fun c0 => ?_, R3, ?_⟩
      · show eF_10_load (ep_mk c m0) (nI e) (nI pg) (nI a) = _
        unfold eF_10_load
        rw [ep_chasE hR, ep_sb, hb, ep_J, if_neg ep_bt, if_neg hq0, cs, ep_sb, hdv, if_pos hq1, ep_J, if_pos r3, show eF_6_areOpen (ep_mk c m0) (nI a) 256 = _ from ep_careOpen hR (n := 256) (by decide) (by omega) m0, ep_sb, ho, if_neg ep_bt, if_pos i6, ep_rE0 _ _ he, ge, if_pos hl, cb, ep_sb, ep_V, show nI pg * 256 = nI (256 * pg) from by rw [Int32.mul_comm]; exact ep_mul rfl rfl, nI_add, show 256 * b + 256 * pg = 256 * (b + pg) by omega]
        have z := a1 m0
        rw [ep_nums2, ep_sb] at z
        cases hz : eF_9_feedNumber (ep_mk c m0) (eh_ep (nI e) + 1) 2 with
        | none => rw [hz] at z; exact absurd z (by simp)
        | some s1 =>
          rw [hz, ep_sb] at z
          rw [ep_sb, z, ep_sb]
          exact ep_bnd (d2 m0) rfl
      · show eF_12_loadPage (ep_mk c0 m) (nI e) (nI pg) (nI a) = _
        unfold eF_12_loadPage
        rw [ep_misE, ep_sb, hb, ep_J, if_neg ep_bt, if_neg hq0, if_pos i6, ep_rM _ _ 156 (by decide), show m.1 156 (eh_ix (nI e)) = nI w from by rw [x6]; exact hwe, if_pos i12, xw, ep_rM _ _ 166 (by decide), hZ, hdv, if_pos hq1, if_neg r0, if_pos (hr4.mpr r3), if_neg r1, show eF_12_areOpen (ep_mk c0 m) (nI a) 256 = _ from ep_mareOpen hR (n := 256) (by decide) (by omega) c0, ep_sb, ho, if_neg ep_bt, if_pos i6, ep_rM _ _ 155 (by decide), show m.1 155 (eh_ix (nI e)) = 1 from by rw [x6]; exact hl, if_pos rfl]
        have z := a2 c0
        rw [ep_mnums2, ep_sb] at z
        cases hz : eF_12_addNumber (ep_mk c0 m) (nI e) 2 with
        | none => rw [hz] at z; exact absurd z (by simp)
        | some s1 =>
          rw [hz, ep_sb] at z
          rw [ep_sb, z, ep_sb, show eF_12_addBytes (ep_mk c0 m1) (nI e) 128 131072 (nI a) 256 = _ from b1 c0, ep_sb]
          refine ep_bnd (ep_mload_ (ep_mS m1 H B W L) he hw (by show m1.1 156 e = _; rw [m1m 156 (by decide) (by decide) (by decide)]; exact hwe) (by show m1.1 165 w = _; rw [m1m 165 (by decide) (by decide) (by decide)]; exact hB) (show a + 256 ≤ 131072 by omega) (show b + pg < 512 by omega) hd c0) ?_
          rfl
      · rw [a5, a6]
        exact ⟨rfl, rfl, fun _ _ => rfl, rfl⟩
/-! the first of a row is taken -/
def ep_sh (f : Nat → Int32) (n : Nat) : Nat → Int32 := fun j => if j < n then f (j + 1) else f j
theorem ep_sh_0 (f : Nat → Int32) : ep_sh f 0 = f := by
  funext j; unfold ep_sh; rw [if_neg (Nat.not_lt_zero _)]
theorem ep_sh_s (f : Nat → Int32) (i : Nat) : upd (ep_sh f i) i (ep_sh f i (i + 1)) = ep_sh f (i + 1) := by
  funext j
  unfold upd ep_sh
  rw [if_neg (show ¬ i + 1 < i by omega)]
  by_cases h : j = i
  · rw [if_pos h, if_pos (by omega), h]
  · rw [if_neg h]
    by_cases h2 : j < i
    · rw [if_pos h2, if_pos (by omega)]
    · rw [if_neg h2, if_neg (by omega)]
theorem ep_cpy_sh (f : Nat → Int32) (n : Nat) : va_cpy f f 1 0 n = ep_sh f n := by
  funext k
  unfold va_cpy ep_sh
  by_cases h : k < n
  · rw [if_pos h, if_pos ⟨Nat.zero_le _, by omega⟩]
    congr 1
    omega
  · rw [if_neg h, if_neg (fun z => h (by have := z.2; omega))]
theorem ep_ctake0 {c : ep_C} {th : Nat} (hth : th + 1 < 41) (h1 : c.1 th 1 = nI 0) (v : Int32) (m0 : ep_M) : eF_8_takeFirst (ep_mk c m0) th v = some (v, ep_mk c m0) := by
  unfold eF_8_takeFirst
  rw [ep_J, ep_rC1 _ _ th (by omega), h1, if_neg (by decide)]
theorem ep_ctake1 {c : ep_C} {th n : Nat} (hth : th + 1 < 41) (hrn : eh_rn th = 16) (hn : 0 < n) (hn2 : n ≤ 16) (h1 : c.1 th 1 = nI n) (v : Int32) (m0 : ep_M) : eF_8_takeFirst (ep_mk c m0) th v = some (c.1 (th + 1) 0, ep_mk (ep_cL (ep_cI c th 1 (nI (n - 1))) (th + 1) (ep_sh (c.1 (th + 1)) (n - 1))) m0) := by
  have q1 : (0 : Int32) < nI n := nI_lt (a := 0) hn (by omega)
  have q2 : ¬ Int32.ofNat 16 < nI n := nI_nlt (a := 16) (b := n) hn2 (by decide)
  have q3 : nI n - 1 = nI (n - 1) := pk_sub (a := n) (b := 1) (by omega)
  have q4 : eh_cok 1 0 (nI (n - 1)) 16 16 = true := by
    unfold eh_cok
    rw [nI_toInt (show n - 1 < 2 ^ 31 by omega), show (1 : Int32).toInt = 1 by decide, show (0 : Int32).toInt = 0 by decide]
    simp only [Bool.and_eq_true, decide_eq_true_eq]
    omega
  have q5 : (ep_mk (ep_cI c th 1 (nI (n - 1))) m0).1 th 1 = nI (n - 1) := by rw [ep_rC1 _ _ th (by omega), ep_cI1, ep_upd_eq]
  have q6 : (ep_mk (ep_cI c th 1 (nI (n - 1))) m0).1 (th + 1) = c.1 (th + 1) := by rw [ep_rC1 _ _ (th + 1) hth, ep_cIn _ _ _ _ _ (by omega)]
  unfold eF_8_takeFirst
  rw [ep_J, ep_rC1 _ _ th (by omega), h1, if_pos q1, hrn, if_neg q2, if_pos (show eh_in 0 16 = true by decide), ep_V, ep_rC1 _ _ (th + 1) hth, ep_V, q3, ep_iC1 _ _ _ _ _ (by omega), q5, if_pos q4, ep_V, q6, show eh_ix (nI (n - 1)) = n - 1 from ep_ix (by omega), show eh_ix 1 = 1 from rfl, show eh_ix 0 = 0 from rfl, ep_cpy_sh, ep_wC1 _ _ _ _ hth]
theorem ep_mshift {m : ep_M} {p z k : Nat} (hp : 127 < p) (hk : k < 16) (hz : m.1 127 z = nI k) (c0 : ep_C) : eh_loop (fun (r7 : (Int32 × eh_F) → Option (eh_F)) (t4 : Int32 × eh_F) => if t4.1 < (t4.2.1 127 z) then (if eh_in (t4.1 + 1) 16 then if eh_in t4.1 16 then eh_V (eh_tI t4.2 p (eh_ix t4.1) (t4.2.1 p (eh_ix (t4.1 + 1)))) (fun s9 => eh_V ((t4.1 + 1) : Int32) (fun x10 => r7 (x10, s9))) else none else none) else (some t4.2)) eh_FU (0, ep_mk c0 m) = some (ep_mk c0 (ep_mL m p (ep_sh (m.1 p) k))) := by
  have hz' : ∀ g, (ep_mk c0 (ep_mL m p g)).1 127 z = nI k := fun g => by rw [ep_rM _ _ _ (by decide), ep_mLn _ _ _ _ (by omega), hz]
  refine ep_loop (fun i => (nI i, ep_mk c0 (ep_mL m p (ep_sh (m.1 p) i)))) k _ (ep_FU _ (by omega)) ?_ ?_ ?_
  · intro i hi rec
    have z1 : nI i < nI k := nI_lt hi (by omega)
    have hpp : ∀ g, (ep_mk c0 (ep_mL m p g)).1 p = g := fun g => by rw [ep_rM _ _ _ (by omega), ep_mL1]
    show (if nI i < (ep_mk c0 (ep_mL m p (ep_sh (m.1 p) i))).1 127 z then _ else _) = _
    rw [hz', if_pos z1, nI_1, if_pos (ep_in (show i + 1 < 16 by omega) (by decide)), if_pos (ep_in (show i < 16 by omega) (by decide)), ep_V, ep_V, show eh_ix (nI i) = i from ep_ix (by omega), show eh_ix (nI (i + 1)) = i + 1 from ep_ix (by omega), hpp, ep_iM _ _ _ _ _ (by omega), ep_mLI, ep_sh_s]
  · intro rec
    show (if nI k < (ep_mk c0 (ep_mL m p (ep_sh (m.1 p) k))).1 127 z then _ else _) = _
    rw [hz', if_neg (nI_nlt (Nat.le_refl _) (by omega))]
  · show _ = (nI 0, ep_mk c0 (ep_mL m p (ep_sh (m.1 p) 0)))
    rw [ep_sh_0, ep_mLid]
    rfl
theorem ep_key_ {N : Nat} {c : ep_C} {m : ep_M} (hR : ep_R N c m) : ep_Cp N c m (fun s => eF_8_takeFirst s 20 256) (fun s => eF_12_key s) := by
  obtain ⟨g1, g2, n, g3, g4⟩ := hR.2.2.2.2.2.2.2.2.2.2.2.2.2.2.2.2.2.2.2.2.2.2.2.2.2.2.2.2.2.2.2.1
  by_cases hn : n = 0
  · subst hn
    refine ep_Cp_id hR 256 (fun m0 => ?_) (fun c0 => ?_)
    · exact ep_ctake0 (by decide) (g2.trans g4) 256 m0
    · show eF_12_key (ep_mk c0 m) = _
      unfold eF_12_key
      rw [ep_rM _ _ 127 (by decide), g4, if_pos (show nI 0 = 0 from rfl)]
  · have q0 : ¬ nI n = 0 := fun z => hn ((nI_eq (b := 0) (by omega) (by decide)).mp z)
    have q3 : nI n - 1 = nI (n - 1) := pk_sub (a := n) (b := 1) (by omega)
    refine ⟨m.1 180 0, ep_cL (ep_cI c 20 1 (nI (n - 1))) 21 (ep_sh (c.1 21) (n - 1)), ep_mL (ep_mI m 127 62 (nI (n - 1))) 180 (ep_sh (m.1 180) (n - 1)), fun m0 => ?_, fun c0 => ?_, ⟨hR.1, hR.2.1, hR.2.2.1, hR.2.2.2.1, hR.2.2.2.2.1, hR.2.2.2.2.2.1, hR.2.2.2.2.2.2.1, hR.2.2.2.2.2.2.2.1, hR.2.2.2.2.2.2.2.2.1, hR.2.2.2.2.2.2.2.2.2.1, hR.2.2.2.2.2.2.2.2.2.2.1, hR.2.2.2.2.2.2.2.2.2.2.2.1, hR.2.2.2.2.2.2.2.2.2.2.2.2.1, hR.2.2.2.2.2.2.2.2.2.2.2.2.2.1, hR.2.2.2.2.2.2.2.2.2.2.2.2.2.2.1, hR.2.2.2.2.2.2.2.2.2.2.2.2.2.2.2.1, hR.2.2.2.2.2.2.2.2.2.2.2.2.2.2.2.2.1, hR.2.2.2.2.2.2.2.2.2.2.2.2.2.2.2.2.2.1, hR.2.2.2.2.2.2.2.2.2.2.2.2.2.2.2.2.2.2.1, hR.2.2.2.2.2.2.2.2.2.2.2.2.2.2.2.2.2.2.2.1, hR.2.2.2.2.2.2.2.2.2.2.2.2.2.2.2.2.2.2.2.2.1, hR.2.2.2.2.2.2.2.2.2.2.2.2.2.2.2.2.2.2.2.2.2.1, hR.2.2.2.2.2.2.2.2.2.2.2.2.2.2.2.2.2.2.2.2.2.2.1, hR.2.2.2.2.2.2.2.2.2.2.2.2.2.2.2.2.2.2.2.2.2.2.2.1, hR.2.2.2.2.2.2.2.2.2.2.2.2.2.2.2.2.2.2.2.2.2.2.2.2.1, hR.2.2.2.2.2.2.2.2.2.2.2.2.2.2.2.2.2.2.2.2.2.2.2.2.2.1, hR.2.2.2.2.2.2.2.2.2.2.2.2.2.2.2.2.2.2.2.2.2.2.2.2.2.2.1, hR.2.2.2.2.2.2.2.2.2.2.2.2.2.2.2.2.2.2.2.2.2.2.2.2.2.2.2.1, hR.2.2.2.2.2.2.2.2.2.2.2.2.2.2.2.2.2.2.2.2.2.2.2.2.2.2.2.2.1, hR.2.2.2.2.2.2.2.2.2.2.2.2.2.2.2.2.2.2.2.2.2.2.2.2.2.2.2.2.2.1, hR.2.2.2.2.2.2.2.2.2.2.2.2.2.2.2.2.2.2.2.2.2.2.2.2.2.2.2.2.2.2.1, ?_, hR.2.2.2.2.2.2.2.2.2.2.2.2.2.2.2.2.2.2.2.2.2.2.2.2.2.2.2.2.2.2.2.2.1, hR.2.2.2.2.2.2.2.2.2.2.2.2.2.2.2.2.2.2.2.2.2.2.2.2.2.2.2.2.2.2.2.2.2⟩, ⟨rfl, rfl, fun j hj => by rcases hj with rfl | rfl | rfl <;> rfl, rfl⟩⟩
    · refine (ep_ctake1 (th := 20) (by decide) rfl (by omega) g3 (g2.trans g4) 256 m0).trans ?_
      rw [g1]
    · show eF_12_key (ep_mk c0 m) = _
      unfold eF_12_key
      rw [ep_rM _ _ 127 (by decide), g4, if_neg q0, ep_V, ep_rM _ _ 180 (by decide), ep_V, q3, ep_iM _ _ _ _ _ (by decide)]
      exact ep_bnd (ep_mshift (m := ep_mI m 127 62 (nI (n - 1))) (p := 180) (z := 62) (by decide) (by omega) (by rw [ep_mI1, ep_upd_eq]) c0) rfl
    · exact ⟨by show ep_sh (c.1 21) _ = ep_sh (m.1 180) _; rw [g1], rfl, n - 1, by omega, rfl⟩
/-! the system's calls, all of them -/
theorem ep_Sc_c {N' h : Nat} {c : ep_C} {m : ep_M} {F G F' G' : eh_F → Option (Int32 × eh_F)} (hS : ep_Sc N' h c m F G) (h1 : ∀ s, F' s = F s) (h2 : ∀ s, G' s = G s) : ep_Sc N' h c m F' G' := by
  obtain ⟨r, c', m', a, b, d⟩ := hS
  exact ⟨r, c', m', fun m0 => (h1 _).trans (a m0), fun c0 => (h2 _).trans (b c0), d⟩
theorem ep_Sc_mono {N N' h : Nat} {c : ep_C} {m : ep_M} {F G : eh_F → Option (Int32 × eh_F)} (hS : ep_Sc N h c m F G) (hN : N ≤ N') : ep_Sc N' h c m F G := by
  obtain ⟨r, c', m', a, b, d, e⟩ := hS
  exact ⟨r, c', m', a, b, ep_R_mono d hN, e⟩
theorem ep_beta {α β : Type} (x : Option (α × β)) : Option.bind x (fun q => some (q.1, q.2)) = x := by cases x <;> rfl
theorem ep_asked_ {N : Nat} {c : ep_C} {m : ep_M} (hR : ep_R N c m) (hN : N + 600 < 2 ^ 28) {h : Nat} (hh : h < 2) (hr : m.1 144 h = -1) (f p q r u : Int32) : ep_Sc (N + 264) h c m (fun x => if f < 12 then eF_10_answerOfEnclaves x (eh_hp (nI h)) f p q r u else eF_10_answerOfMachine x (eh_hp (nI h)) f p q r) (fun x => eF_12_asked x (nI h) f p q r u) := by
  by_cases h1 : f = 1
  · subst h1
    refine ep_Sc_c (ep_Sc_mono (ep_Sc_Cp (ep_create_ hR (by omega) p q)) (by omega)) (fun x => ?_) (fun x => ?_)
    · show (if (1 : Int32) < 12 then _ else _) = _
      rw [if_pos (by decide)]
      unfold eF_10_answerOfEnclaves
      rw [if_pos rfl]
      try exact ep_beta _
      try rfl
    · show eF_12_asked x (nI h) 1 p q r u = _
      unfold eF_12_asked
      rw [ep_J, ep_J, if_pos rfl]
      try exact ep_beta _
      try rfl
  by_cases h2 : f = 2
  · subst h2
    refine ep_Sc_c (ep_Sc_mono (ep_Sc_Cp (ep_load_ hR hN p q r)) (by omega)) (fun x => ?_) (fun x => ?_)
    · show (if (2 : Int32) < 12 then _ else _) = _
      rw [if_pos (by decide)]
      unfold eF_10_answerOfEnclaves
      rw [if_neg (by decide), if_pos rfl]
      try exact ep_beta _
      try rfl
    · show eF_12_asked x (nI h) 2 p q r u = _
      unfold eF_12_asked
      rw [ep_J, ep_J, if_neg (by decide), if_pos rfl]
      try exact ep_beta _
      try rfl
  by_cases h3 : f = 3
  · subst h3
    refine ep_Sc_c (ep_Sc_mono (ep_Sc_Cp (ep_makeThread_ hR (by omega) p q r)) (by omega)) (fun x => ?_) (fun x => ?_)
    · show (if (3 : Int32) < 12 then _ else _) = _
      rw [if_pos (by decide)]
      unfold eF_10_answerOfEnclaves
      rw [if_neg (by decide), if_neg (by decide), if_pos rfl]
      try exact ep_beta _
      try rfl
    · show eF_12_asked x (nI h) 3 p q r u = _
      unfold eF_12_asked
      rw [ep_J, ep_J, if_neg (by decide), if_neg (by decide), if_pos rfl]
      try exact ep_beta _
      try rfl
  by_cases h4 : f = 4
  · subst h4
    refine ep_Sc_c (ep_Sc_mono (ep_Sc_Cp (ep_finalise_ hR (by omega) p q)) (by omega)) (fun x => ?_) (fun x => ?_)
    · show (if (4 : Int32) < 12 then _ else _) = _
      rw [if_pos (by decide)]
      unfold eF_10_answerOfEnclaves
      rw [if_neg (by decide), if_neg (by decide), if_neg (by decide), if_pos rfl]
      try exact ep_beta _
      try rfl
    · show eF_12_asked x (nI h) 4 p q r u = _
      unfold eF_12_asked
      rw [ep_J, ep_J, if_neg (by decide), if_neg (by decide), if_neg (by decide), if_pos rfl]
      try exact ep_beta _
      try rfl
  by_cases h5 : f = 5
  · subst h5
    refine ep_Sc_c (ep_Sc_mono (ep_enter_ hR hh hr p q r) (by omega)) (fun x => ?_) (fun x => ?_)
    · show (if (5 : Int32) < 12 then _ else _) = _
      rw [if_pos (by decide)]
      unfold eF_10_answerOfEnclaves
      rw [if_neg (by decide), if_neg (by decide), if_neg (by decide), if_neg (by decide), if_pos rfl]
      try exact ep_beta _
      try rfl
    · show eF_12_asked x (nI h) 5 p q r u = _
      unfold eF_12_asked
      rw [ep_J, ep_J, if_neg (by decide), if_neg (by decide), if_neg (by decide), if_neg (by decide), if_pos rfl]
      try exact ep_beta _
      try rfl
  by_cases h6 : f = 6
  · subst h6
    refine ep_Sc_c (ep_Sc_mono (ep_resume_ hR hh hr p q r) (by omega)) (fun x => ?_) (fun x => ?_)
    · show (if (6 : Int32) < 12 then _ else _) = _
      rw [if_pos (by decide)]
      unfold eF_10_answerOfEnclaves
      rw [if_neg (by decide), if_neg (by decide), if_neg (by decide), if_neg (by decide), if_neg (by decide), if_pos rfl]
      try exact ep_beta _
      try rfl
    · show eF_12_asked x (nI h) 6 p q r u = _
      unfold eF_12_asked
      rw [ep_J, ep_J, if_neg (by decide), if_neg (by decide), if_neg (by decide), if_neg (by decide), if_neg (by decide), if_pos rfl]
      try exact ep_beta _
      try rfl
  by_cases h7 : f = 7
  · subst h7
    refine ep_Sc_c (ep_Sc_mono (ep_Sc_Cp (ep_stop_ hR p)) (by omega)) (fun x => ?_) (fun x => ?_)
    · show (if (7 : Int32) < 12 then _ else _) = _
      rw [if_pos (by decide)]
      unfold eF_10_answerOfEnclaves
      rw [if_neg (by decide), if_neg (by decide), if_neg (by decide), if_neg (by decide), if_neg (by decide), if_neg (by decide), if_pos rfl]
      try exact ep_beta _
      try rfl
    · show eF_12_asked x (nI h) 7 p q r u = _
      unfold eF_12_asked
      rw [ep_J, ep_J, if_neg (by decide), if_neg (by decide), if_neg (by decide), if_neg (by decide), if_neg (by decide), if_neg (by decide), if_pos rfl]
      try exact ep_beta _
      try rfl
  by_cases h8 : f = 8
  · subst h8
    refine ep_Sc_c (ep_Sc_mono (ep_Sc_Cp (ep_destroy_ hR p)) (by omega)) (fun x => ?_) (fun x => ?_)
    · show (if (8 : Int32) < 12 then _ else _) = _
      rw [if_pos (by decide)]
      unfold eF_10_answerOfEnclaves
      rw [if_neg (by decide), if_neg (by decide), if_neg (by decide), if_neg (by decide), if_neg (by decide), if_neg (by decide), if_neg (by decide), if_pos rfl]
      try exact ep_beta _
      try rfl
    · show eF_12_asked x (nI h) 8 p q r u = _
      unfold eF_12_asked
      rw [ep_J, ep_J, if_neg (by decide), if_neg (by decide), if_neg (by decide), if_neg (by decide), if_neg (by decide), if_neg (by decide), if_neg (by decide), if_pos rfl]
      try exact ep_beta _
      try rfl
  by_cases h9 : f = 9
  · subst h9
    refine ep_Sc_c (ep_Sc_mono (ep_Sc_Cp (ep_share_ hR p q r)) (by omega)) (fun x => ?_) (fun x => ?_)
    · show (if (9 : Int32) < 12 then _ else _) = _
      rw [if_pos (by decide)]
      unfold eF_10_answerOfEnclaves
      rw [if_neg (by decide), if_neg (by decide), if_neg (by decide), if_neg (by decide), if_neg (by decide), if_neg (by decide), if_neg (by decide), if_neg (by decide), if_pos rfl]
      try exact ep_beta _
      try rfl
    · show eF_12_asked x (nI h) 9 p q r u = _
      unfold eF_12_asked
      rw [ep_J, ep_J, if_neg (by decide), if_neg (by decide), if_neg (by decide), if_neg (by decide), if_neg (by decide), if_neg (by decide), if_neg (by decide), if_neg (by decide), if_pos rfl]
      try exact ep_beta _
      try rfl
  by_cases h10 : f = 10
  · subst h10
    refine ep_Sc_c (ep_Sc_mono (ep_Sc_Cp (ep_join_ hR p q r u)) (by omega)) (fun x => ?_) (fun x => ?_)
    · show (if (10 : Int32) < 12 then _ else _) = _
      rw [if_pos (by decide)]
      unfold eF_10_answerOfEnclaves
      rw [if_neg (by decide), if_neg (by decide), if_neg (by decide), if_neg (by decide), if_neg (by decide), if_neg (by decide), if_neg (by decide), if_neg (by decide), if_neg (by decide), if_pos rfl]
      try exact ep_beta _
      try rfl
    · show eF_12_asked x (nI h) 10 p q r u = _
      unfold eF_12_asked
      rw [ep_J, ep_J, if_neg (by decide), if_neg (by decide), if_neg (by decide), if_neg (by decide), if_neg (by decide), if_neg (by decide), if_neg (by decide), if_neg (by decide), if_neg (by decide), if_pos rfl]
      try exact ep_beta _
      try rfl
  by_cases h11 : f = 11
  · subst h11
    refine ep_Sc_c (ep_Sc_mono (ep_Sc_Cp (ep_drop_ hR p)) (by omega)) (fun x => ?_) (fun x => ?_)
    · show (if (11 : Int32) < 12 then _ else _) = _
      rw [if_pos (by decide)]
      unfold eF_10_answerOfEnclaves
      rw [if_neg (by decide), if_neg (by decide), if_neg (by decide), if_neg (by decide), if_neg (by decide), if_neg (by decide), if_neg (by decide), if_neg (by decide), if_neg (by decide), if_neg (by decide), if_pos rfl]
      try exact ep_beta _
      try rfl
    · show eF_12_asked x (nI h) 11 p q r u = _
      unfold eF_12_asked
      rw [ep_J, ep_J, if_neg (by decide), if_neg (by decide), if_neg (by decide), if_neg (by decide), if_neg (by decide), if_neg (by decide), if_neg (by decide), if_neg (by decide), if_neg (by decide), if_neg (by decide), if_pos rfl]
      try exact ep_beta _
      try rfl
  by_cases h12 : f = 12
  · subst h12
    refine ep_Sc_c (ep_Sc_mono (ep_Sc_Cp (ep_putOut hR p)) (by omega)) (fun x => ?_) (fun x => ?_)
    · show (if (12 : Int32) < 12 then _ else _) = _
      rw [if_neg (by decide)]
      unfold eF_10_answerOfMachine
      rw [if_pos rfl]
      try exact ep_beta _
      try rfl
    · show eF_12_asked x (nI h) 12 p q r u = _
      unfold eF_12_asked
      rw [ep_J, ep_J, if_neg (by decide), if_neg (by decide), if_neg (by decide), if_neg (by decide), if_neg (by decide), if_neg (by decide), if_neg (by decide), if_neg (by decide), if_neg (by decide), if_neg (by decide), if_neg (by decide), if_pos rfl]
      try exact ep_beta _
      try rfl
  by_cases h13 : f = 13
  · subst h13
    refine ep_Sc_c (ep_Sc_mono (ep_Sc_Cp (ep_signal hR p)) (by omega)) (fun x => ?_) (fun x => ?_)
    · show (if (13 : Int32) < 12 then _ else _) = _
      rw [if_neg (by decide)]
      unfold eF_10_answerOfMachine
      rw [if_neg (by decide), if_pos rfl]
      try exact ep_beta _
      try rfl
    · show eF_12_asked x (nI h) 13 p q r u = _
      unfold eF_12_asked
      rw [ep_J, ep_J, if_neg (by decide), if_neg (by decide), if_neg (by decide), if_neg (by decide), if_neg (by decide), if_neg (by decide), if_neg (by decide), if_neg (by decide), if_neg (by decide), if_neg (by decide), if_neg (by decide), if_neg (by decide), if_pos rfl]
      try exact ep_beta _
      try rfl
  by_cases h14 : f = 14
  · subst h14
    refine ep_Sc_c (ep_Sc_mono (ep_Sc_Cp (ep_askDisk hR p q r)) (by omega)) (fun x => ?_) (fun x => ?_)
    · show (if (14 : Int32) < 12 then _ else _) = _
      rw [if_neg (by decide)]
      unfold eF_10_answerOfMachine
      rw [if_neg (by decide), if_neg (by decide), if_pos rfl]
      try exact ep_beta _
      try rfl
    · show eF_12_asked x (nI h) 14 p q r u = _
      unfold eF_12_asked
      rw [ep_J, ep_J, if_neg (by decide), if_neg (by decide), if_neg (by decide), if_neg (by decide), if_neg (by decide), if_neg (by decide), if_neg (by decide), if_neg (by decide), if_neg (by decide), if_neg (by decide), if_neg (by decide), if_neg (by decide), if_neg (by decide), if_pos rfl]
      try exact ep_beta _
      try rfl
  by_cases h15 : f = 15
  · subst h15
    refine ep_Sc_c (ep_Sc_mono (ep_Sc_Cp (ep_tell hR)) (by omega)) (fun x => ?_) (fun x => ?_)
    · show (if (15 : Int32) < 12 then _ else _) = _
      rw [if_neg (by decide)]
      unfold eF_10_answerOfMachine
      rw [if_neg (by decide), if_neg (by decide), if_neg (by decide), if_pos rfl]
      try exact ep_beta _
      try rfl
    · show eF_12_asked x (nI h) 15 p q r u = _
      unfold eF_12_asked
      rw [ep_J, ep_J, if_neg (by decide), if_neg (by decide), if_neg (by decide), if_neg (by decide), if_neg (by decide), if_neg (by decide), if_neg (by decide), if_neg (by decide), if_neg (by decide), if_neg (by decide), if_neg (by decide), if_neg (by decide), if_neg (by decide), if_neg (by decide), if_pos rfl]
      try exact ep_beta _
      try rfl
  by_cases h16 : f = 16
  · subst h16
    refine ep_Sc_c (ep_Sc_mono (ep_Sc_Cp (ep_measure hR p q)) (by omega)) (fun x => ?_) (fun x => ?_)
    · show (if (16 : Int32) < 12 then _ else _) = _
      rw [if_neg (by decide)]
      unfold eF_10_answerOfMachine
      rw [if_neg (by decide), if_neg (by decide), if_neg (by decide), if_neg (by decide), if_pos rfl]
      try exact ep_beta _
      try rfl
    · show eF_12_asked x (nI h) 16 p q r u = _
      unfold eF_12_asked
      rw [ep_J, ep_J, if_neg (by decide), if_neg (by decide), if_neg (by decide), if_neg (by decide), if_neg (by decide), if_neg (by decide), if_neg (by decide), if_neg (by decide), if_neg (by decide), if_neg (by decide), if_neg (by decide), if_neg (by decide), if_neg (by decide), if_neg (by decide), if_neg (by decide), if_pos rfl]
      try exact ep_beta _
      try rfl
  by_cases h17 : f = 17
  · subst h17
    refine ep_Sc_c (ep_Sc_mono (ep_Sc_Cp (ep_look_ hR p q)) (by omega)) (fun x => ?_) (fun x => ?_)
    · show (if (17 : Int32) < 12 then _ else _) = _
      rw [if_neg (by decide)]
      unfold eF_10_answerOfMachine
      rw [if_neg (by decide), if_neg (by decide), if_neg (by decide), if_neg (by decide), if_neg (by decide), if_pos rfl]
      try exact ep_beta _
      try rfl
    · show eF_12_asked x (nI h) 17 p q r u = _
      unfold eF_12_asked
      rw [ep_J, ep_J, if_neg (by decide), if_neg (by decide), if_neg (by decide), if_neg (by decide), if_neg (by decide), if_neg (by decide), if_neg (by decide), if_neg (by decide), if_neg (by decide), if_neg (by decide), if_neg (by decide), if_neg (by decide), if_neg (by decide), if_neg (by decide), if_neg (by decide), if_neg (by decide), if_pos rfl]
      try exact ep_beta _
      try rfl
  by_cases h18 : f = 18
  · subst h18
    refine ep_Sc_c (ep_Sc_mono (ep_Sc_Cp (ep_goOff hR)) (by omega)) (fun x => ?_) (fun x => ?_)
    · show (if (18 : Int32) < 12 then _ else _) = _
      rw [if_neg (by decide)]
      unfold eF_10_answerOfMachine
      rw [if_neg (by decide), if_neg (by decide), if_neg (by decide), if_neg (by decide), if_neg (by decide), if_neg (by decide), if_pos rfl]
      try exact ep_beta _
      try rfl
    · show eF_12_asked x (nI h) 18 p q r u = _
      unfold eF_12_asked
      rw [ep_J, ep_J, if_neg (by decide), if_neg (by decide), if_neg (by decide), if_neg (by decide), if_neg (by decide), if_neg (by decide), if_neg (by decide), if_neg (by decide), if_neg (by decide), if_neg (by decide), if_neg (by decide), if_neg (by decide), if_neg (by decide), if_neg (by decide), if_neg (by decide), if_neg (by decide), if_neg (by decide), if_pos rfl]
      try exact ep_beta _
      try rfl
  by_cases h19 : f = 19
  · subst h19
    refine ep_Sc_c (ep_Sc_mono (ep_Sc_Cp (ep_setSlice hR hh p)) (by omega)) (fun x => ?_) (fun x => ?_)
    · show (if (19 : Int32) < 12 then _ else _) = _
      rw [if_neg (by decide)]
      unfold eF_10_answerOfMachine
      rw [if_neg (by decide), if_neg (by decide), if_neg (by decide), if_neg (by decide), if_neg (by decide), if_neg (by decide), if_neg (by decide), if_pos rfl]
      try exact ep_beta _
      try rfl
    · show eF_12_asked x (nI h) 19 p q r u = _
      unfold eF_12_asked
      rw [ep_J, ep_J, if_neg (by decide), if_neg (by decide), if_neg (by decide), if_neg (by decide), if_neg (by decide), if_neg (by decide), if_neg (by decide), if_neg (by decide), if_neg (by decide), if_neg (by decide), if_neg (by decide), if_neg (by decide), if_neg (by decide), if_neg (by decide), if_neg (by decide), if_neg (by decide), if_neg (by decide), if_neg (by decide), if_pos rfl]
      try exact ep_beta _
      try rfl
  by_cases h20 : f = 20
  · subst h20
    refine ep_Sc_c (ep_Sc_mono (ep_Sc_Cp (ep_offer_ hR (f := 20) (by decide) p q r)) (by omega)) (fun x => ?_) (fun x => ?_)
    · show (if (20 : Int32) < 12 then _ else _) = _
      rw [if_neg (by decide)]
      unfold eF_10_answerOfMachine
      rw [if_neg (by decide), if_neg (by decide), if_neg (by decide), if_neg (by decide), if_neg (by decide), if_neg (by decide), if_neg (by decide), if_neg (by decide), if_pos rfl]
      try exact ep_beta _
      try rfl
    · show eF_12_asked x (nI h) 20 p q r u = _
      unfold eF_12_asked
      rw [ep_J, ep_J, if_neg (by decide), if_neg (by decide), if_neg (by decide), if_neg (by decide), if_neg (by decide), if_neg (by decide), if_neg (by decide), if_neg (by decide), if_neg (by decide), if_neg (by decide), if_neg (by decide), if_neg (by decide), if_neg (by decide), if_neg (by decide), if_neg (by decide), if_neg (by decide), if_neg (by decide), if_neg (by decide), if_neg (by decide), if_pos rfl]
      try exact ep_beta _
      try rfl
  by_cases h21 : f = 21
  · subst h21
    refine ep_Sc_c (ep_Sc_mono (ep_Sc_Cp (ep_key_ hR)) (by omega)) (fun x => ?_) (fun x => ?_)
    · show (if (21 : Int32) < 12 then _ else _) = _
      rw [if_neg (by decide)]
      unfold eF_10_answerOfMachine
      rw [if_neg (by decide), if_neg (by decide), if_neg (by decide), if_neg (by decide), if_neg (by decide), if_neg (by decide), if_neg (by decide), if_neg (by decide), if_neg (by decide), if_pos rfl]
      try exact ep_beta _
      try rfl
    · show eF_12_asked x (nI h) 21 p q r u = _
      unfold eF_12_asked
      rw [ep_J, ep_J, if_neg (by decide), if_neg (by decide), if_neg (by decide), if_neg (by decide), if_neg (by decide), if_neg (by decide), if_neg (by decide), if_neg (by decide), if_neg (by decide), if_neg (by decide), if_neg (by decide), if_neg (by decide), if_neg (by decide), if_neg (by decide), if_neg (by decide), if_neg (by decide), if_neg (by decide), if_neg (by decide), if_neg (by decide), if_neg (by decide), if_pos rfl]
      try exact ep_beta _
      try rfl
  refine ep_Sc_Cp (ep_Cp_id (ep_R_mono hR (by omega)) (-1) (fun m0 => ?_) (fun c0 => ?_))
  · show (if f < 12 then _ else _) = _
    by_cases y : f < 12
    · rw [if_pos y]
      unfold eF_10_answerOfEnclaves
      rw [if_neg h1, if_neg h2, if_neg h3, if_neg h4, if_neg h5, if_neg h6, if_neg h7, if_neg h8, if_neg h9, if_neg h10, if_neg h11]
    · rw [if_neg y]
      unfold eF_10_answerOfMachine
      rw [if_neg h12, if_neg h13, if_neg h14, if_neg h15, if_neg h16, if_neg h17, if_neg h18, if_neg h19, if_neg h20, if_neg h21]
  · show eF_12_asked (ep_mk c0 m) (nI h) f p q r u = _
    unfold eF_12_asked
    rw [ep_J, ep_J, if_neg h1, if_neg h2, if_neg h3, if_neg h4, if_neg h5, if_neg h6, if_neg h7, if_neg h8, if_neg h9, if_neg h10, if_neg h11, if_neg h12, if_neg h13, if_neg h14, if_neg h15, if_neg h16, if_neg h17, if_neg h18, if_neg h19, if_neg h20, if_neg h21]
def ep_chd_ (f : Int32) : Bool := (!decide (f < 1) && !decide (11 < f)) || decide (f = 19) || decide (f = 20)
theorem ep_ch2 {α : Type} (f : Int32) (X Y : α) : (eh_J (fun (_ : Unit) => X) (fun j11 => eh_J (fun (_ : Unit) => if f = 19 then (j11 ()) else (if f = 20 then (j11 ()) else Y)) (fun j13 => if f < 1 then (j13 ()) else (if 11 < f then (j13 ()) else (j11 ()))))) = if ep_chd_ f = true then X else Y := by
  simp only [ep_J]
  unfold ep_chd_
  by_cases y1 : f < 1
  · by_cases y3 : f = 19
    · simp [y1, y3]
    · by_cases y4 : f = 20
      · simp [y1, y4]
      · simp [y1, y3, y4]
  · by_cases y2 : 11 < f
    · by_cases y3 : f = 19
      · simp [y2, y3]
      · by_cases y4 : f = 20
        · simp [y2, y4]
        · simp [y1, y2, y3, y4]
    · simp [y1, y2]
theorem ep_bnd8 {α β : Type} {x : Option α} {f1 f2 f3 f4 f5 f6 f7 : α → Option α} {v : α} (K : α → Option β) (h : Option.bind x (fun a => Option.bind (f1 a) (fun a => Option.bind (f2 a) (fun a => Option.bind (f3 a) (fun a => Option.bind (f4 a) (fun a => Option.bind (f5 a) (fun a => Option.bind (f6 a) f7)))))) = some v) : Option.bind x (fun a => Option.bind (f1 a) (fun a => Option.bind (f2 a) (fun a => Option.bind (f3 a) (fun a => Option.bind (f4 a) (fun a => Option.bind (f5 a) (fun a => Option.bind (f6 a) (fun a => Option.bind (f7 a) K))))))) = K v := by
  have h2 := congrArg (fun o => Option.bind o K) h
  simp only [Option.bind_assoc] at h2
  exact h2
theorem ep_serve_ {N : Nat} {c : ep_C} {m : ep_M} (hR : ep_R N c m) (hN : N + 600 < 2 ^ 28) {h : Nat} (hh : h < 2) (hr : m.1 144 h = -1) (f p q r u : Int32) : ∃ a c' m', (∀ m0, eF_10_serve (ep_mk c m0) (eh_hp (nI h)) f p q r u = some (a, ep_mk c' m0)) ∧ (∀ c0, eF_12_systemCall (ep_mk c0 m) (nI h) f p q r u = some (a, ep_mk c0 m')) ∧ ep_R (N + 264) c' m' ∧ c'.2.2 = c.2.2 ∧ c'.1 124 = c.1 124 ∧ (∀ j, j = 83 ∨ j = 85 → m'.1 127 j = m.1 127 j) ∧ ((m'.1 127 86 = 0 ∧ m'.1 144 = m.1 144) ∨ (m'.1 127 86 = 1 ∧ m'.1 144 h ≠ -1)) := by
  have R0 : ep_R N c (ep_mI m 127 86 0) := ⟨hR.1, hR.2.1, hR.2.2.1, hR.2.2.2.1, hR.2.2.2.2.1, hR.2.2.2.2.2.1, hR.2.2.2.2.2.2.1, hR.2.2.2.2.2.2.2.1, hR.2.2.2.2.2.2.2.2.1, hR.2.2.2.2.2.2.2.2.2.1, hR.2.2.2.2.2.2.2.2.2.2.1, hR.2.2.2.2.2.2.2.2.2.2.2.1, hR.2.2.2.2.2.2.2.2.2.2.2.2.1, hR.2.2.2.2.2.2.2.2.2.2.2.2.2.1, hR.2.2.2.2.2.2.2.2.2.2.2.2.2.2.1, hR.2.2.2.2.2.2.2.2.2.2.2.2.2.2.2.1, hR.2.2.2.2.2.2.2.2.2.2.2.2.2.2.2.2.1, hR.2.2.2.2.2.2.2.2.2.2.2.2.2.2.2.2.2.1, hR.2.2.2.2.2.2.2.2.2.2.2.2.2.2.2.2.2.2.1, hR.2.2.2.2.2.2.2.2.2.2.2.2.2.2.2.2.2.2.2.1, hR.2.2.2.2.2.2.2.2.2.2.2.2.2.2.2.2.2.2.2.2.1, hR.2.2.2.2.2.2.2.2.2.2.2.2.2.2.2.2.2.2.2.2.2.1, hR.2.2.2.2.2.2.2.2.2.2.2.2.2.2.2.2.2.2.2.2.2.2.1, hR.2.2.2.2.2.2.2.2.2.2.2.2.2.2.2.2.2.2.2.2.2.2.2.1, hR.2.2.2.2.2.2.2.2.2.2.2.2.2.2.2.2.2.2.2.2.2.2.2.2.1, hR.2.2.2.2.2.2.2.2.2.2.2.2.2.2.2.2.2.2.2.2.2.2.2.2.2.1, hR.2.2.2.2.2.2.2.2.2.2.2.2.2.2.2.2.2.2.2.2.2.2.2.2.2.2.1, hR.2.2.2.2.2.2.2.2.2.2.2.2.2.2.2.2.2.2.2.2.2.2.2.2.2.2.2.1, hR.2.2.2.2.2.2.2.2.2.2.2.2.2.2.2.2.2.2.2.2.2.2.2.2.2.2.2.2.1, hR.2.2.2.2.2.2.2.2.2.2.2.2.2.2.2.2.2.2.2.2.2.2.2.2.2.2.2.2.2.1, hR.2.2.2.2.2.2.2.2.2.2.2.2.2.2.2.2.2.2.2.2.2.2.2.2.2.2.2.2.2.2.1, hR.2.2.2.2.2.2.2.2.2.2.2.2.2.2.2.2.2.2.2.2.2.2.2.2.2.2.2.2.2.2.2.1, hR.2.2.2.2.2.2.2.2.2.2.2.2.2.2.2.2.2.2.2.2.2.2.2.2.2.2.2.2.2.2.2.2.1, hR.2.2.2.2.2.2.2.2.2.2.2.2.2.2.2.2.2.2.2.2.2.2.2.2.2.2.2.2.2.2.2.2.2⟩
  obtain ⟨a, c1, m1, A, B, R1, q1, q2, q3, q4⟩ := ep_asked_ R0 hN hh hr f p q r u
  have q3' : ∀ j, j = 83 ∨ j = 85 → m1.1 127 j = m.1 127 j := fun j hj => by
    rw [q3 j hj]
    rcases hj with rfl | rfl <;> rfl
  have q4' : (m1.1 127 86 = 0 ∧ m1.1 144 = m.1 144) ∨ (m1.1 127 86 = 1 ∧ m1.1 144 h ≠ -1) := by
    rcases q4 with z | z
    · exact Or.inl ⟨z.1.trans rfl, z.2⟩
    · exact Or.inr z
  have cA : ∀ m0, eF_10_serve (ep_mk c m0) (eh_hp (nI h)) f p q r u = if ep_chd_ f = true then (if a < 0 then some (a, ep_mk c1 m0) else Option.bind (eF_5_chain (ep_mk c1 m0) f p q r u) (fun q10 => some (a, q10))) else some (a, ep_mk c1 m0) := by
    intro m0
    have z : (if f < 12 then eF_10_answerOfEnclaves (ep_mk c m0) (eh_hp (nI h)) f p q r u else eF_10_answerOfMachine (ep_mk c m0) (eh_hp (nI h)) f p q r) = some (a, ep_mk c1 m0) := A m0
    unfold eF_10_serve
    rw [ep_J]
    have fin : (eh_J (fun (a5 : Int32) => eh_J (fun (s7 : eh_F) => some (a, s7)) (fun j6 => if a5 = 0 then (j6 (ep_mk c1 m0)) else (if a < 0 then (j6 (ep_mk c1 m0)) else (Option.bind (eF_5_chain (ep_mk c1 m0) f p q r u) (fun q10 => j6 q10))))) (fun j4 => eh_J (fun (u12 : Unit) => j4 1) (fun j11 => eh_J (fun (u14 : Unit) => if f = 19 then (j11 ()) else (if f = 20 then (j11 ()) else (j4 0))) (fun j13 => if f < 1 then (j13 ()) else (if 11 < f then (j13 ()) else (j11 ())))))) = if ep_chd_ f = true then (if a < 0 then some (a, ep_mk c1 m0) else Option.bind (eF_5_chain (ep_mk c1 m0) f p q r u) (fun q10 => some (a, q10))) else some (a, ep_mk c1 m0) := by
      rw [ep_J, ep_ch2]
      by_cases y : ep_chd_ f = true
      · rw [if_pos y, if_pos y]; rfl
      · rw [if_neg y, if_neg y]; rfl
    by_cases y : f < 12
    · rw [if_pos y] at z
      rw [if_pos y, z]
      exact fin
    · rw [if_neg y] at z
      rw [if_neg y, z]
      exact fin
  have cB : ∀ c0, eF_12_systemCall (ep_mk c0 m) (nI h) f p q r u = if a < 0 then some (a, ep_mk c0 m1) else (if ep_chd_ f = true then Option.bind (eF_12_begin (ep_mk c0 m1) 6) (fun q8 => Option.bind (eF_12_addBytes q8 6 187 32 0 32) (fun q9 => Option.bind (eF_12_addNumber q9 6 f) (fun q10 => Option.bind (eF_12_addNumber q10 6 p) (fun q11 => Option.bind (eF_12_addNumber q11 6 q) (fun q12 => Option.bind (eF_12_addNumber q12 6 r) (fun q13 => Option.bind (eF_12_addNumber q13 6 u) (fun q14 => Option.bind (eF_12_finish q14 6 187 32 0) (fun q15 => some (a, q15))))))))) else some (a, ep_mk c0 m1)) := by
    intro c0
    unfold eF_12_systemCall
    rw [ep_V, ep_iM _ _ _ _ _ (by decide)]
    refine ep_bnd (B c0) ?_
    rw [ep_J]
    by_cases y : a < 0
    · rw [if_pos y, if_pos y]
    · rw [if_neg y, if_neg y, ep_ch2]
  by_cases y1 : a < 0
  · refine ⟨a, c1, m1, fun m0 => ?_, fun c0 => ?_, R1, q1, q2, q3', q4'⟩
    · rw [cA]
      by_cases y2 : ep_chd_ f = true
      · rw [if_pos y2, if_pos y1]
      · rw [if_neg y2]
    · rw [cB, if_pos y1]
  · by_cases y2 : ep_chd_ f = true
    · obtain ⟨c2, m2, d1, d2, R2, d3⟩ := ep_chain R1 f p q r u
      refine ⟨a, c2, m2, fun m0 => ?_, fun c0 => ?_, R2, d3.1.trans q1, d3.2.1.trans q2, fun j hj => (d3.2.2.1 j (by omega)).trans (q3' j hj), ?_⟩
      · rw [cA, if_pos y2, if_neg y1, d1, ep_sb]
      · rw [cB, if_neg y1, if_pos y2]
        exact ep_bnd8 (fun q15 => some (a, q15)) (d2 c0)
      · rw [d3.2.2.1 86 (by omega), d3.2.2.2]
        exact q4'
    · refine ⟨a, c1, m1, fun m0 => ?_, fun c0 => ?_, R1, q1, q2, q3', q4'⟩
      · rw [cA, if_neg y2]
      · rw [cB, if_neg y1, if_neg y2]
/-! keyed digests, of both sides at once -/
theorem ep_map_app {A B F : Nat → Int32} (n : Nat) : ∀ k, (∀ j, j < n → F j = A j) → (∀ i, i < k → F (n + i) = B i) → (List.range (n + k)).map F = (List.range n).map A ++ (List.range k).map B
  | 0, h1, _ => by
    rw [Nat.add_zero, ep_map_eq h1]
    simp
  | k + 1, h1, h2 => by
    rw [show n + (k + 1) = (n + k) + 1 from rfl, List.range_succ, List.map_append, ep_map_app n k h1 (fun i hi => h2 i (by omega)), List.range_succ, List.map_append, ← List.append_assoc]
    congr 1
    show [F (n + k)] = [B k]
    rw [h2 k (by omega)]
theorem ep_map_255 (n : Nat) (f : Nat → Int32) : ((List.range n).map f).map (· &&& 255) = (List.range n).map fun i => f i &&& 255 := by
  rw [List.map_map]
  rfl
theorem ep_hmac_cong (K : Nat → Int32) {l l' : List Int32} (h : l.map (· &&& 255) = l'.map (· &&& 255)) : ep_hmac K l = ep_hmac K l' := by
  rw [ep_hmac_eq, ep_hmac_eq, ep_puts_cong _ h]
theorem ep_puts_0 (st : ep_St) : ep_puts st [] = st := rfl
def ep_KS (c : ep_C) (m : ep_M) (KB : Nat → Int32) (l : List Int32) : Prop := ep_Rc (c.1 30) (c.1 31) (c.1 29 3) (ep_puts (ep_key KB 54) l) ∧ m.1 127 79 = nI l.length ∧ ((List.range l.length).map fun k => m.1 192 k &&& 255) = l.map (· &&& 255) ∧ l.length ≤ 256 ∧ l.length % 4 = 0
theorem ep_ks_ok (KB : Nat → Int32) {l : List Int32} (hl : l.length ≤ 256) : ep_ok (ep_puts (ep_key KB 54) l) := ep_puts_ok l (ep_key_ok KB 54) (by rw [ep_key_len]; omega)
theorem ep_ks_len (KB : Nat → Int32) (l : List Int32) : (ep_puts (ep_key KB 54) l).2.2 = 64 + l.length := by rw [ep_puts_len, ep_key_len]
theorem ep_ksbegin (c : ep_C) (m : ep_M) (p : Nat) (f KB : Nat → Int32) (hp : p ≠ 29 ∧ p ≠ 30 ∧ p ≠ 31) (hrd : ∀ m0, (ep_mk c m0).1 p = f) (hw : ∀ j, j < 8 → f j = ep_bw KB (4 * j)) : ∃ c' m', (∀ m0, eF_9_beginKeyed (ep_mk c m0) 29 p 8 = some (ep_mk c' m0)) ∧ (∀ c0, eh_tI (ep_mk c0 m) 127 79 0 = ep_mk c0 m') ∧ ep_K c c' ∧ ep_L m m' ∧ ep_KS c' m' KB [] := by
  obtain ⟨h', w', a, b⟩ := ep_cbeginKeyed KB (c.1 30) (c.1 31)
  refine ⟨ep_s29 c (nI 64) h' w', ep_mI m 127 79 0, fun m0 => ?_, fun c0 => ep_iM _ _ _ _ _ (by decide), ep_K_29 _ _ _ _, ep_L_79 0, by rw [ep_puts_0]; exact a, ?_, rfl, by decide, rfl⟩
  · rw [b _ 29 p hp.1 hp.2.1 hp.2.2 (fun j hj => by rw [hrd]; exact hw j hj) (ep_r29 c m0).1 (ep_r29 c m0).2.1, ep_t3_29]
  · rw [ep_mI1, ep_upd_eq]; rfl
theorem ep_ksnum {c : ep_C} {m : ep_M} {KB : Nat → Int32} {l : List Int32} (hS : ep_KS c m KB l) (hl : l.length + 4 ≤ 256) (v : Int32) : ∃ c' m', (∀ m0, eF_9_feedNumber (ep_mk c m0) 29 v = some (ep_mk c' m0)) ∧ (∀ c0, eF_12_say (ep_mk c0 m) v = some (ep_mk c0 m')) ∧ ep_K c c' ∧ ep_L m m' ∧ ep_KS c' m' KB (l ++ (List.range 4).map fun i => eh_shr v (nI (8 * i))) := by
  obtain ⟨h1, h2, h3, h4, h5⟩ := hS
  obtain ⟨h', w', n', a, b⟩ := ep_cfeedNumber h1 (ep_ks_ok KB h4) (by rw [ep_ks_len]; omega) (by rw [ep_ks_len]; omega) v
  refine ⟨ep_s29 c n' h' w', _, fun m0 => ?_, fun c0 => ep_msay h2 hl v c0, ep_K_29 _ _ _ _, ep_L_tr (ep_L_mL _ (by decide)) (ep_L_79 _), ?_, ?_, ?_, ?_, ?_⟩
  · rw [b _ 29 (ep_r29 c m0).1 (ep_r29 c m0).2.1 (ep_r29 c m0).2.2, ep_t3_29]
  · rw [ep_puts_ap]; exact a
  · rw [ep_mI1, ep_upd_eq, List.length_append, ep_numlen]
  · rw [List.length_append, ep_numlen, List.map_append, ← h3, ep_map_255]
    refine ep_map_app _ 4 (fun j hj => ?_) (fun i hi => ?_)
    · rw [ep_mIn _ _ 192 _ _ (by decide), ep_mL1]
      unfold ep_in_
      rw [if_neg (by omega)]
    · rw [ep_mIn _ _ 192 _ _ (by decide), ep_mL1]
      unfold ep_in_
      rw [if_pos (by omega), Nat.add_sub_cancel_left, ep_nbnb]
  · rw [List.length_append, ep_numlen]; exact hl
  · rw [List.length_append, ep_numlen]; omega
theorem ep_kswords {c : ep_C} {m : ep_M} {KB : Nat → Int32} {l : List Int32} (hS : ep_KS c m KB l) (k : Nat) (hl : l.length + 4 * k ≤ 256) (p np pm npm off : Nat) (f : Nat → Int32) (hp : p ≠ 29 ∧ p ≠ 30 ∧ p ≠ 31) (hrd : ∀ m0, (ep_mk c m0).1 p = f) (hnp : k ≤ np ∧ np < 1000) (hpm : 127 ≤ pm ∧ pm ≠ 192) (hin : off + 4 * k ≤ npm) (hnpm : npm < 1000000) (hw : ∀ j, j < k → f j = ep_bw (m.1 pm) (off + 4 * j)) : ∃ c' m', (∀ m0, eF_9_feedWords (ep_mk c m0) 29 p np (nI k) = some (ep_mk c' m0)) ∧ (∀ c0, eF_12_sayBytes (ep_mk c0 m) pm npm (nI off) (nI (4 * k)) = some (ep_mk c0 m')) ∧ ep_K c c' ∧ ep_L m m' ∧ ep_KS c' m' KB (l ++ (List.range (4 * k)).map fun i => m.1 pm (off + i)) := by
  obtain ⟨h1, h2, h3, h4, h5⟩ := hS
  obtain ⟨h', w', n', a, b⟩ := ep_cfeedWords h1 (ep_ks_ok KB h4) (by rw [ep_ks_len]; omega) f k (by omega) (by rw [ep_ks_len]; omega)
  refine ⟨ep_s29 c n' h' w', _, fun m0 => ?_, fun c0 => ep_msayBytes h2 pm npm off (4 * k) hl hpm.1 hpm.2 hin hnpm c0, ep_K_29 _ _ _ _, ep_L_tr (ep_L_mL _ (by decide)) (ep_L_79 _), ?_, ?_, ?_, ?_, ?_⟩
  · rw [b _ 29 p np hp.1 hp.2.1 hp.2.2 hnp.1 hnp.2 (fun i hi => by rw [hrd]) (ep_r29 c m0).1 (ep_r29 c m0).2.1 (ep_r29 c m0).2.2, ep_t3_29]
  · rw [ep_puts_ap]
    have := ep_puts_bw (f := fun i => m.1 pm (off + i)) (g := f) k (fun j hj => by
      rw [hw j hj]; unfold ep_bw; simp only [Nat.add_assoc]) (ep_puts (ep_key KB 54) l)
    rw [this]; exact a
  · rw [ep_mI1, ep_upd_eq, List.length_append, ep_range_len]
  · rw [List.length_append, ep_range_len, List.map_append, ← h3, ep_map_255]
    refine ep_map_app _ (4 * k) (fun j hj => ?_) (fun i hi => ?_)
    · rw [ep_mIn _ _ 192 _ _ (by decide), ep_mL1]
      unfold ep_in_
      rw [if_neg (by omega)]
    · rw [ep_mIn _ _ 192 _ _ (by decide), ep_mL1]
      unfold ep_in_
      rw [if_pos (by omega), Nat.add_sub_cancel_left, ep_nb255]
  · rw [List.length_append, ep_range_len]; exact hl
  · rw [List.length_append, ep_range_len]; omega
theorem ep_ksend {c : ep_C} {m : ep_M} {l : List Int32} (p out pk : Nat) (f : Nat → Int32) (hS : ep_KS c m (m.1 pk) l) (hp : p ≠ 29 ∧ p ≠ 30 ∧ p ≠ 31 ∧ p ≠ 32) (ho : out ≠ 29 ∧ out ≠ 30 ∧ out ≠ 31 ∧ out ≠ 32) (hrd : ∀ m0, (ep_mk c m0).1 p = f) (hw : ∀ j, j < 8 → f j = ep_bw (m.1 pk) (4 * j)) (hpk : 127 ≤ pk ∧ pk ≠ 188 ∧ pk ≠ 189 ∧ pk ≠ 191 ∧ pk ≠ 193) : ∃ T c1 m1, (∀ m0, eF_9_endKeyed (ep_mk c m0) 29 p 8 out 8 = some (eh_tF (ep_mk c1 m0) out (ep_w8 ((ep_mk c m0).1 out) T 8))) ∧ (∀ c0, eF_12_keyed (ep_mk c0 m) pk 32 = some (ep_mk c0 m1)) ∧ ep_K c c1 ∧ ep_L m m1 ∧ m1.1 194 = ep_wr (m.1 194) 0 T 32 := by
  obtain ⟨h1, h2, h3, h4, h5⟩ := hS
  obtain ⟨h', w', n', a⟩ := ep_cendKeyed h1 (ep_ks_ok (m.1 pk) h4) (m.1 pk)
  obtain ⟨H, B, W, L, R, b, b2⟩ := ep_mkeyed (m := m) pk hpk.1 hpk.2.1 hpk.2.2.1 hpk.2.2.2.1 hpk.2.2.2.2 h2 h4
  have hT : ep_hmac (m.1 pk) ((List.range l.length).map (m.1 192)) = ep_hmac (m.1 pk) l := ep_hmac_cong _ (by rw [ep_map_255]; exact h3)
  rw [hT] at b
  refine ⟨ep_hmac (m.1 pk) l, ep_cL (ep_s29 c n' h' w') 32 (ep_w8 (c.1 32) (ep_fin (ep_puts (ep_key (m.1 pk) 54) l)) 8), _, fun m0 => ?_, b, ?_, ?_, rfl⟩
  · rw [a _ 29 p out hp.1 hp.2.1 hp.2.2.1 hp.2.2.2 ho.1 ho.2.1 ho.2.2.1 ho.2.2.2 (fun j hj => by rw [hrd]; exact hw j hj) (ep_r29 c m0).1 (ep_r29 c m0).2.1 (ep_r29 c m0).2.2, ep_t3_29, ep_wC1 _ _ _ _ (by decide), ep_rC1 _ _ (29 + 3) (by decide), ep_hmac_eq]
  · refine ep_K_tr (ep_K_29 c n' h' w') ⟨rfl, fun k a1 a2 a3 a4 a5 a6 a7 => ep_cLn _ _ _ _ a4⟩
  · exact ep_L_tr (ep_L_tr (ep_L_tr (ep_L_mS (by decide) b2) (ep_L_mL _ (by decide))) (ep_L_mL _ (by decide))) (ep_L_79 0)
/-! what a thread reaches -/
def ep_rb (m : ep_M) (P : Nat → Int32) (e u : Nat) (acc : Int32) (n : Nat) : Bool := ep_all (fun k => decide (u + k < 131072) && decide (ep_rq (m.1 164) (m.1 167) (m.1 168) (m.1 169) P (nI e) (u + k) &&& acc ≠ 0)) n
theorem ep_rb_u {m : ep_M} {P : Nat → Int32} {e u : Nat} {acc : Int32} {n : Nat} (h : ep_rb m P e u acc n = true) : ∀ k, k < n → u + k < 131072 := by
  intro k hk
  have := ep_all_iff.mp h k hk
  rw [Bool.and_eq_true, decide_eq_true_eq] at this
  exact this.1
theorem ep_rb_f {m : ep_M} {P : Nat → Int32} {e u : Nat} {acc : Int32} {i n : Nat} (h : ep_rb m P e u acc i = false) (hi : i ≤ n) : ep_rb m P e u acc n = false := by
  rw [Bool.eq_false_iff] at h ⊢
  intro z
  exact h (ep_all_iff.mpr fun j hj => ep_all_iff.mp z j (by omega))
theorem ep_uadd {x : Int32} {k : Nat} (h : ep_u x + k < 4294967296) : ep_u (x + nI k) = ep_u x + k := by
  unfold ep_u at h ⊢
  have h1 : (nI k).toBitVec.toNat = k % 2 ^ 32 := by show (BitVec.ofNat 32 k).toNat = _; rw [BitVec.toNat_ofNat]
  rw [Int32.toBitVec_add, BitVec.toNat_add, h1]
  omega
theorem ep_addu (x : Int32) (k : Nat) : x + nI k = nI (ep_u x + k) := by
  rw [← nI_add]
  congr 1
  exact (ep_nIu x).symm
theorem ep_creaches {N : Nat} {c : ep_C} {m : ep_M} (hR : ep_R N c m) {t e : Nat} (ht : t < 12) (he : e < 6) (hto : m.1 149 t = nI e) (addr acc : Int32) {n : Nat} (hn : n < 1000) (m0 : ep_M) : eF_3_reaches (ep_mk c m0) (eh_fp (nI t)) addr (nI n) acc = some (ep_bi (ep_rb m (c.1 10) e (ep_u addr) acc n)) := by
  have f3 : (ep_mk c m0).1 (eh_fp (nI t)) 3 = nI e := by rw [ep_rF0 _ _ ht, (hR.2.2.2.2.2.2.2.2.2.2.1 t ht).2.2.1, hto]
  have hul := ep_u_lt addr
  have hr : ∀ i, i < n → eF_6_rightsAt (ep_mk c m0) ((addr.toInt64 &&& 4294967295) + (nI i).toInt64) (nI e) = some (if ep_u addr + i < 131072 then ep_rq (m.1 164) (m.1 167) (m.1 168) (m.1 169) (c.1 10) (nI e) (ep_u addr + i) else 0) := by
    intro i hi
    rw [ep_low32, nI_l (by omega), lN_add]
    exact ep_crightsE hR he (q := ep_u addr + i) (by omega) m0
  unfold eF_3_reaches
  rw [f3]
  refine ep_lpf (fun i => nI i) n (fun k => decide (ep_u addr + k < 131072) && decide (ep_rq (m.1 164) (m.1 167) (m.1 168) (m.1 169) (c.1 10) (nI e) (ep_u addr + k) &&& acc ≠ 0)) (fun _ => .inr ()) (.inl ()) (by omega) rfl ?_ ?_ ?_ ?_ ?_
  · intro i hi hb rec
    rw [Bool.and_eq_true, decide_eq_true_eq, decide_eq_true_eq] at hb
    show (if nI i < nI n then _ else _) = _
    rw [if_pos (nI_lt hi (by omega)), hr i hi, ep_sb, if_pos hb.1, if_neg hb.2, ep_V, nI_1]
  · intro i hi hb rec
    show (if nI i < nI n then _ else _) = _
    rw [if_pos (nI_lt hi (by omega)), hr i hi, ep_sb, if_pos]
    by_cases y : ep_u addr + i < 131072
    · rw [if_pos y]
      simpa [y] using hb
    · rw [if_neg y, Int32.zero_and]
  · intro rec
    show (if nI n < nI n then _ else _) = _
    rw [if_neg (nI_nlt (Nat.le_refl _) (by omega))]
  · intro h
    have : ep_rb m (c.1 10) e (ep_u addr) acc n = true := ep_all_iff.mpr h
    rw [this]; rfl
  · intro j hj hb _
    have : ep_rb m (c.1 10) e (ep_u addr) acc n = false := by
      rw [Bool.eq_false_iff]
      intro z
      have := ep_all_iff.mp z j hj
      rw [hb] at this
      exact absurd this (by decide)
    rw [this]; rfl
theorem ep_On_L {m M : ep_M} (hL : ep_L m M) {h t e : Nat} (ho : ep_On m h t e) : ep_On M h t e := by
  obtain ⟨a, b, d, e1, e2, e3, e4⟩ := ho
  have g := hL.1
  refine ⟨a, b, d, ?_, ?_, ?_, ?_⟩
  · rw [g 144 (by decide) (by decide) (by decide) (by decide) (by decide) (by decide) (by decide) (by decide) (by decide) (by decide) (by decide)]; exact e1
  · rw [g 149 (by decide) (by decide) (by decide) (by decide) (by decide) (by decide) (by decide) (by decide) (by decide) (by decide) (by decide)]; exact e2
  · rw [g 155 (by decide) (by decide) (by decide) (by decide) (by decide) (by decide) (by decide) (by decide) (by decide) (by decide) (by decide)]; exact e3
  · rw [g 148 (by decide) (by decide) (by decide) (by decide) (by decide) (by decide) (by decide) (by decide) (by decide) (by decide) (by decide)]; exact e4
theorem ep_Lk {m M : ep_M} (hL : ep_L m M) (k : Nat) (hk : k < 170 ∧ k ≠ 127 ∨ 172 < k ∧ k < 188) : M.1 k = m.1 k := hL.1 k (by omega) (by omega) (by omega) (by omega) (by omega) (by omega) (by omega) (by omega) (by omega) (by omega) (by omega)
/-- one byte -/
theorem ep_mlet1 {N : Nat} {c : ep_C} {m M : ep_M} (hR : ep_R N c m) (hL : ep_L m M) {h t e : Nat} (ho : ep_On m h t e) {q : Nat} (hq : q < 2 ^ 40) (acc : Int32) : ∃ n f g r, ∀ c0, eF_12_isLet (ep_mk c0 M) (nI h) (lN q) 1 acc = some (ep_bi (decide (q < 131072) && decide (ep_rq (m.1 164) (m.1 167) (m.1 168) (m.1 169) (c.1 10) (nI e) q &&& acc ≠ 0)), ep_mk c0 (ep_mg M n f g r)) := by
  have hR' := ep_R_L hR hL
  obtain ⟨a, b, d, e1, e2, e3, e4⟩ := ep_On_L hL ho
  obtain ⟨n, f, g, r, hl⟩ := ep_mLetE hR' a b d e1 e2 (by rw [e3]; decide) (n := 1) (Or.inl rfl) (Nat.mod_one q) hq acc
  rw [ep_Lk hL 164 (by omega), ep_Lk hL 167 (by omega), ep_Lk hL 168 (by omega), ep_Lk hL 169 (by omega)] at hl
  exact ⟨n, f, g, r, hl⟩
theorem ep_at {m : ep_M} {P : Nat → Int32} {e : Nat} {addr acc : Int32} {i : Nat} (h : ep_rb m P e (ep_u addr) acc i = true) (hi : i < 1000) : (addr + nI i).toInt64 &&& 4294967295 = lN (ep_u addr + i) ∧ ep_u addr + i < 2 ^ 40 := by
  have hul := ep_u_lt addr
  refine ⟨?_, by omega⟩
  rw [ep_low32]
  show lN (ep_u (addr + nI i)) = _
  by_cases z : i = 0
  · subst z
    rw [show addr + nI 0 = addr from Int32.add_zero addr, Nat.add_zero]
  · have := ep_rb_u h 0 (by omega)
    rw [ep_uadd (by omega)]
theorem ep_mcanW {N : Nat} {c : ep_C} {m : ep_M} (hR : ep_R N c m) {h t e : Nat} (ho : ep_On m h t e) (addr : Int32) {n : Nat} (hn : n < 1000) : ∃ M, ep_L m M ∧ ∀ c0, eF_12_canWrite (ep_mk c0 m) (nI h) addr (nI n) = some (ep_bi (ep_rb m (c.1 10) e (ep_u addr) 2 n), ep_mk c0 M) := by
  have key := ep_minv0 (A := ep_C) (X := Bool × ep_M) (body := fun _ (r5 : (Int32 × Int32 × eh_F) → Option (Int32 × eh_F)) (t1 : Int32 × Int32 × eh_F) => if t1.2.1 < nI n then (if t1.1 = 0 then (some (t1.1, t1.2.2)) else (Option.bind (eF_12_isLet t1.2.2 (nI h) (((addr + t1.2.1).toInt64) &&& 4294967295) 1 2) (fun q8 => eh_V ((t1.2.1 + 1) : Int32) (fun x9 => r5 (q8.1, x9, q8.2))))) else (some (t1.1, t1.2.2))) (fun c0 i x => (ep_bi x.1, nI i, ep_mk c0 x.2)) (fun G => ∃ M, ep_L m M ∧ ∀ c0, G c0 = some (ep_bi (ep_rb m (c.1 10) e (ep_u addr) 2 n), ep_mk c0 M)) (fun i x => x.1 = ep_rb m (c.1 10) e (ep_u addr) 2 i ∧ ep_L m x.2) n (by omega) ?_ ?_ (true, m) ⟨rfl, ep_L_rf m⟩
  · obtain ⟨G, ⟨M, h1, h2⟩, h3⟩ := key
    refine ⟨M, h1, fun c0 => ?_⟩
    unfold eF_12_canWrite
    refine ep_bnd ((h3 c0).trans (h2 c0)) ?_
    rw [if_pos (ep_bi_bo _)]
  · rintro i ⟨b, M⟩ hi ⟨p1, p2⟩
    dsimp only at p1 p2
    cases b with
    | false =>
      right
      refine ⟨fun c0 => some (ep_bi (ep_rb m (c.1 10) e (ep_u addr) 2 n), ep_mk c0 M), ⟨M, p2, fun c0 => rfl⟩, fun c0 rec => ?_⟩
      show (if nI i < nI n then (if ep_bi false = 0 then some (ep_bi false, ep_mk c0 M) else _) else _) = _
      rw [if_pos (nI_lt hi (by omega)), if_pos ep_bf, ep_rb_f p1.symm (by omega)]
    | true =>
      left
      obtain ⟨a1, a2⟩ := ep_at p1.symm (by omega)
      obtain ⟨n', f, g, r, hl⟩ := ep_mlet1 hR p2 ho a2 2
      refine ⟨(decide (ep_u addr + i < 131072) && decide (ep_rq (m.1 164) (m.1 167) (m.1 168) (m.1 169) (c.1 10) (nI e) (ep_u addr + i) &&& 2 ≠ 0), ep_mg M n' f g r), ⟨?_, ep_L_tr p2 (ep_L_mg n' f g r)⟩, fun c0 rec => ?_⟩
      · show _ = (ep_rb m (c.1 10) e (ep_u addr) 2 i && _)
        rw [← p1, Bool.true_and]
      · show (if nI i < nI n then (if ep_bi true = 0 then _ else _) else _) = _
        rw [if_pos (nI_lt hi (by omega)), if_neg ep_bt, a1, hl c0, ep_sb, ep_V, nI_1]
  · rintro ⟨b, M⟩ ⟨p1, p2⟩
    dsimp only at p1 p2
    refine ⟨fun c0 => some (ep_bi (ep_rb m (c.1 10) e (ep_u addr) 2 n), ep_mk c0 M), ⟨M, p2, fun c0 => rfl⟩, fun c0 rec => ?_⟩
    show (if nI n < nI n then _ else some (ep_bi b, ep_mk c0 M)) = _
    rw [if_neg (nI_nlt (Nat.le_refl _) (by omega)), p1]
theorem ep_mcanR {N : Nat} {c : ep_C} {m : ep_M} (hR : ep_R N c m) {h t e : Nat} (ho : ep_On m h t e) (addr : Int32) {n : Nat} (hn : n ≤ 128) : ∃ M, ep_L m M ∧ (∀ c0, eF_12_canRead (ep_mk c0 m) (nI h) addr (nI n) = some (ep_bi (ep_rb m (c.1 10) e (ep_u addr) 1 n), ep_mk c0 M)) ∧ (ep_rb m (c.1 10) e (ep_u addr) 1 n = true → ∀ k, k < n → M.1 195 k = eh_nb (m.1 128 (ep_u addr + k))) := by
  have key := ep_minv0 (A := ep_C) (X := Bool × ep_M) (body := fun _ (r5 : (Int32 × Int32 × eh_F) → Option (Int32 × eh_F)) (t1 : Int32 × Int32 × eh_F) => if t1.2.1 < nI n then (if t1.1 = 0 then (some (t1.1, t1.2.2)) else (eh_V ((((addr + t1.2.1).toInt64) &&& 4294967295) : Int64) (fun x8 => Option.bind (eF_12_isLet t1.2.2 (nI h) x8 1 1) (fun q9 => eh_J (fun (s11 : eh_F) => eh_V ((t1.2.1 + 1) : Int32) (fun x12 => r5 (q9.1, x12, s11))) (fun j10 => if q9.1 = 0 then (j10 q9.2) else (if eh_in (x8.toInt32) 131072 then if eh_in t1.2.1 128 then eh_V (eh_tI q9.2 195 (eh_ix t1.2.1) (eh_nb (q9.2.1 128 (eh_ix (x8.toInt32))))) (fun s14 => j10 s14) else none else none)))))) else (some (t1.1, t1.2.2))) (fun c0 i x => (ep_bi x.1, nI i, ep_mk c0 x.2)) (fun G => ∃ M, ep_L m M ∧ (∀ c0, G c0 = some (ep_bi (ep_rb m (c.1 10) e (ep_u addr) 1 n), ep_mk c0 M)) ∧ (ep_rb m (c.1 10) e (ep_u addr) 1 n = true → ∀ k, k < n → M.1 195 k = eh_nb (m.1 128 (ep_u addr + k)))) (fun i x => x.1 = ep_rb m (c.1 10) e (ep_u addr) 1 i ∧ ep_L m x.2 ∧ (x.1 = true → ∀ k, k < i → x.2.1 195 k = eh_nb (m.1 128 (ep_u addr + k)))) n (by omega) ?_ ?_ (true, m) ⟨rfl, ep_L_rf m, fun _ k hk => absurd hk (Nat.not_lt_zero k)⟩
  · obtain ⟨G, ⟨M, h1, h2, h4⟩, h3⟩ := key
    refine ⟨M, h1, fun c0 => ?_, h4⟩
    unfold eF_12_canRead
    refine ep_bnd ((h3 c0).trans (h2 c0)) ?_
    rw [if_pos (ep_bi_bo _)]
  · rintro i ⟨b, M⟩ hi ⟨p1, p2, p3⟩
    dsimp only at p1 p2 p3
    cases b with
    | false =>
      right
      refine ⟨fun c0 => some (ep_bi (ep_rb m (c.1 10) e (ep_u addr) 1 n), ep_mk c0 M), ⟨M, p2, fun c0 => rfl, fun z => ?_⟩, fun c0 rec => ?_⟩
      · rw [ep_rb_f p1.symm (by omega)] at z; exact absurd z (by decide)
      · show (if nI i < nI n then (if ep_bi false = 0 then some (ep_bi false, ep_mk c0 M) else _) else _) = _
        rw [if_pos (nI_lt hi (by omega)), if_pos ep_bf, ep_rb_f p1.symm (by omega)]
    | true =>
      left
      obtain ⟨a1, a2⟩ := ep_at p1.symm (by omega)
      obtain ⟨n', f, g, r, hl⟩ := ep_mlet1 hR p2 ho a2 1
      cases hb : (decide (ep_u addr + i < 131072) && decide (ep_rq (m.1 164) (m.1 167) (m.1 168) (m.1 169) (c.1 10) (nI e) (ep_u addr + i) &&& 1 ≠ 0)) with
      | false =>
        refine ⟨(false, ep_mg M n' f g r), ⟨?_, ep_L_tr p2 (ep_L_mg n' f g r), fun z => absurd z (by decide)⟩, fun c0 rec => ?_⟩
        · show _ = (ep_rb m (c.1 10) e (ep_u addr) 1 i && _)
          rw [hb, Bool.and_false]
        · show (if nI i < nI n then (if ep_bi true = 0 then _ else _) else _) = _
          rw [if_pos (nI_lt hi (by omega)), if_neg ep_bt, ep_V, a1, hl c0, ep_sb, hb, ep_J, if_pos ep_bf]
          simp only [ep_V, nI_1]
      | true =>
        have hu : ep_u addr + i < 131072 := by
          rw [Bool.and_eq_true, decide_eq_true_eq] at hb
          exact hb.1
        refine ⟨(true, ep_mI (ep_mg M n' f g r) 195 i (eh_nb (m.1 128 (ep_u addr + i)))), ⟨?_, ep_L_tr p2 (ep_L_tr (ep_L_mg n' f g r) (ep_L_mL _ (by decide))), fun _ k hk => ?_⟩, fun c0 rec => ?_⟩
        · show _ = (ep_rb m (c.1 10) e (ep_u addr) 1 i && _)
          rw [hb, ← p1]; rfl
        · show (ep_mI (ep_mg M n' f g r) 195 i (eh_nb (m.1 128 (ep_u addr + i)))).1 195 k = _
          rw [ep_mI1]
          by_cases y : k = i
          · rw [y, ep_upd_eq]
          · rw [ep_upd_ne y]
            exact p3 rfl k (by omega)
        · show (if nI i < nI n then (if ep_bi true = 0 then _ else _) else _) = _
          rw [if_pos (nI_lt hi (by omega)), if_neg ep_bt, ep_V, a1, hl c0, ep_sb, hb, ep_J, if_neg ep_bt, lN_i, if_pos (ep_in hu (by decide)), if_pos (ep_in (show i < 128 by omega) (by decide)), ep_V, show eh_ix (nI i) = i from ep_ix (by omega), show eh_ix (nI (ep_u addr + i)) = ep_u addr + i from ep_ix (by omega), ep_rM _ _ 128 (by decide), show (ep_mg M n' f g r).1 128 = m.1 128 from ep_Lk p2 128 (by omega), ep_iM _ _ _ _ _ (by decide)]
          simp only [ep_V, nI_1]
  · rintro ⟨b, M⟩ ⟨p1, p2, p3⟩
    dsimp only at p1 p2 p3
    refine ⟨fun c0 => some (ep_bi (ep_rb m (c.1 10) e (ep_u addr) 1 n), ep_mk c0 M), ⟨M, p2, fun c0 => rfl, fun z => p3 (p1.trans z)⟩, fun c0 rec => ?_⟩
    show (if nI n < nI n then _ else some (ep_bi b, ep_mk c0 M)) = _
    rw [if_neg (nI_nlt (Nat.le_refl _) (by omega)), p1]
/-! bytes read and written for a thread -/
theorem ep_nw1 (X : Nat → Int32) (q : Nat) {v v' : Int32} (h : v &&& 255 = v' &&& 255) : ep_nw X q 1 v = ep_nw X q 1 v' := by
  unfold ep_nw
  refine congrArg (upd X (q / 4)) ?_
  congr 1
  refine ep_ext fun i hi => ?_
  rw [ep_bit_and, ep_bit_and, ep_bit_mask (n := 1) (Or.inl rfl) (Nat.mod_one q) i hi, ep_bit_shl _ (by omega) i hi, ep_bit_shl _ (by omega) i hi]
  by_cases z : 8 * (q % 4) ≤ i ∧ i < 8 * (q % 4) + 8 * 1
  · rw [ep_b8.mp h (i - 8 * (q % 4)) (by omega)]
  · simp only [z, decide_false, Bool.and_false]
theorem ep_csF1 {N : Nat} {c : ep_C} {m : ep_M} (hR : ep_R N c m) {q : Nat} (hq : q < 131072) {v v' : Int32} (h : v &&& 255 = v' &&& 255) (th : Nat) (m0 : ep_M) : eF_5_storeFor (ep_mk c m0) th (nI q) v 1 = eF_5_storeFor (ep_mk c m0) th (nI q) v' 1 := by
  have e1 : ∀ w, eF_6_store (ep_mk c m0) (nI q) w 1 = some (ep_mk (ep_c2 c (ep_nw (c.1 9) q 1 w) (ep_clr (c.1 11) (nI (q / 4)))) m0) := fun w => by
    have := ep_cstore c (c.1 9) (c.1 11) (n := 1) hq (Or.inl rfl) w m0
    rw [ep_c2_id] at this
    exact this
  unfold eF_5_storeFor
  rw [e1 v, e1 v', ep_nw1 (c.1 9) q h]
  simp only [ep_J, if_neg (show ¬ (1 : Int32) = 4 by decide), if_neg (show ¬ (1 : Int32) = 2 by decide), h]
theorem ep_storeFor1 {N : Nat} {c : ep_C} {m : ep_M} (hR : ep_R N c m) (hN : N < 2 ^ 28) {q h t e : Nat} (ho : ep_On m h t e) (hq : q < 131072) {v v' : Int32} (hv : v &&& 255 = v' &&& 255) : ∃ c' m', (∀ m0, eF_5_storeFor (ep_mk c m0) (eh_fp (nI t)) (nI q) v 1 = some (ep_mk c' m0)) ∧ (∀ c0, eF_12_storeAt (ep_mk c0 m) (nI h) (nI q) 1 v' = some (ep_mk c0 m')) ∧ ep_W (N + 1) c m c' m' := by
  obtain ⟨c', m', a, b, d⟩ := ep_storeFor hR hN ho (n := 1) (Or.inl rfl) (Nat.mod_one q) hq v'
  exact ⟨c', m', fun m0 => (ep_csF1 hR hq hv _ m0).trans (a m0), b, d⟩
theorem ep_bw_byte (b : Nat → Int32) (o k : Nat) : eh_ushr (ep_bw b (o + 4 * (k / 4))) (nI (24 - 8 * (k % 4))) &&& 255 = b (o + k) &&& 255 := by
  rw [ep_b8]
  intro i hi
  rw [ep_bit_ushr _ (by omega), ep_bit_bw _ _ _ (by omega)]
  have : k % 4 = 0 ∨ k % 4 = 1 ∨ k % 4 = 2 ∨ k % 4 = 3 := by omega
  rcases this with z | z | z | z
  · rw [z, if_neg (by omega), if_neg (by omega), if_neg (by omega), show o + 4 * (k / 4) = o + k by omega]
    congr 1
  · rw [z, if_neg (by omega), if_neg (by omega), if_pos (by omega), show o + 4 * (k / 4) + 1 = o + k by omega]
    congr 1
  · rw [z, if_neg (by omega), if_pos (by omega), show o + 4 * (k / 4) + 2 = o + k by omega]
    congr 1
  · rw [z, if_pos (by omega), show o + 4 * (k / 4) + 3 = o + k by omega]
    congr 1
theorem ep_cw_o (c : ep_C) (X Y f : Nat → Int32) (v : Int32) (k : Nat) (hk : k ≠ 1 ∧ k ≠ 9 ∧ k ≠ 11 ∧ k ≠ 38) : (ep_cw c X Y f v).1 k = c.1 k := by
  obtain ⟨a, b, d, e⟩ := hk
  simp [ep_cw, ep_uf, a, b, d, e]
theorem ep_mw_o (m : ep_M) (X Y f : Nat → Int32) (v : Int32) (k : Nat) (hk : k ≠ 127 ∧ k ≠ 128 ∧ k ≠ 147 ∧ k ≠ 173) : (ep_mw m X Y f v).1 k = m.1 k := by
  obtain ⟨a, b, d, e⟩ := hk
  simp [ep_mw, ep_uf, a, b, d, e]
theorem ep_write_ {N : Nat} {c : ep_C} {m : ep_M} (hR : ep_R N c m) {n : Nat} (hN : N + n < 2 ^ 28) {h t e : Nat} (ho : ep_On m h t e) (addr : Int32) (hn : n ≤ 128) (hu : ∀ k, k < n → ep_u addr + k < 131072) (p np pm npm off : Nat) (f : Nat → Int32) (hrd : ∀ X Y g v m0, (ep_mk (ep_cw c X Y g v) m0).1 p = f) (hnp : n ≤ 4 * np ∧ np < 1000) (hpm : 127 < pm ∧ pm ≠ 128 ∧ pm ≠ 147 ∧ pm ≠ 173) (hin : off + n ≤ npm) (hnpm : npm < 1000000) (hb : ∀ k, k < n → eh_ushr (f (k / 4)) (nI (24 - 8 * (k % 4))) &&& 255 = m.1 pm (off + k) &&& 255) : ∃ c' m', (∀ m0, eF_3_write (ep_mk c m0) (eh_fp (nI t)) addr p np (nI n) = some (ep_mk c' m0)) ∧ (∀ c0, eF_12_writeTo (ep_mk c0 m) (nI h) addr pm npm (nI off) (nI n) = some (ep_mk c0 m')) ∧ ep_W (N + n) c m c' m' := by
  have key := ep_lock (B1 := fun (r4 : (Int32 × eh_F) → Option (eh_F)) (t1 : Int32 × eh_F) => if t1.1 < nI n then (if (t1.1 / 4) < (Int32.ofNat np) then (if eh_in (t1.1 / 4) np then Option.bind (eF_5_storeFor t1.2 (eh_fp (nI t)) (addr + t1.1) ((eh_ushr (t1.2.1 p (eh_ix (t1.1 / 4))) (24 - (8 * (t1.1 &&& 3)))) &&& 255) 1) (fun q7 => eh_V ((t1.1 + 1) : Int32) (fun x8 => r4 (x8, q7))) else none) else (some t1.2)) else (some t1.2)) (B2 := fun (r4 : (Int32 × eh_F) → Option (eh_F)) (t1 : Int32 × eh_F) => if t1.1 < nI n then (if eh_in (nI off + t1.1) npm then Option.bind (eF_12_storeAt t1.2 (nI h) (addr + t1.1) 1 (t1.2.1 pm (eh_ix (nI off + t1.1)))) (fun q6 => eh_V ((t1.1 + 1) : Int32) (fun x7 => r4 (x7, q6))) else none) else (some t1.2)) (fun i s => (nI i, s)) (fun i s => (nI i, s)) (fun i c' m' => ep_W (N + i) c m c' m') n (by omega) ?_ ?_ (ep_W_rf hR)
  · obtain ⟨c', m', hW, l1, l2⟩ := key
    refine ⟨c', m', fun m0 => ?_, fun c0 => ?_, hW⟩
    · unfold eF_3_write
      exact ep_bnd (l1 m0) rfl
    · unfold eF_12_writeTo
      exact ep_bnd (l2 c0) rfl
  · intro i c1 m1 hi hW
    have ho1 := ep_W_On hW ho
    have hui := hu i hi
    obtain ⟨⟨X, Y, g, v, hc1⟩, ⟨X', Y', g', v', hm1⟩, hR1⟩ := hW
    have hW : ep_W (N + i) c m c1 m1 := ⟨⟨X, Y, g, v, hc1⟩, ⟨X', Y', g', v', hm1⟩, hR1⟩
    have hmp : m1.1 pm = m.1 pm := by rw [hm1]; exact ep_mw_o _ _ _ _ _ _ ⟨by omega, hpm.2⟩
    have hcp : ∀ m0, (ep_mk c1 m0).1 p = f := fun m0 => by rw [hc1]; exact hrd X Y g v m0
    have hv : (eh_ushr (f (i / 4)) (nI (24 - 8 * (i % 4))) &&& 255) &&& 255 = m1.1 pm (off + i) &&& 255 := by rw [ep_255, hmp]; exact hb i hi
    obtain ⟨c2, m2, a, b, d⟩ := ep_storeFor1 hR1 (by omega) ho1 hui hv
    refine ⟨c2, m2, ep_W_tr hW d, fun m0 rec => ?_, fun c0 rec => ?_⟩
    · have z1 : nI i / 4 = nI (i / 4) := ep_divn (a := i) (d := 4) (by omega) (by decide) (by decide)
      have z2 : nI (i / 4) < Int32.ofNat np := nI_lt (b := np) (by omega) (by omega)
      have z3 : (24 : Int32) - 8 * (nI i &&& 3) = nI (24 - 8 * (i % 4)) := by
        rw [ep_and3 (by omega), ep_mul (a := i % 4) (b := 8) (y := 8) rfl rfl]
        exact pk_sub (a := 24) (by omega)
      show (if nI i < nI n then _ else _) = _
      rw [if_pos (nI_lt hi (by omega)), z1, if_pos z2, if_pos (ep_in (show i / 4 < np by omega) (by omega)), show eh_ix (nI (i / 4)) = i / 4 from ep_ix (by omega), hcp, z3, ep_addu, a m0, ep_sb, ep_V, nI_1]
    · show (if nI i < nI n then _ else _) = _
      rw [if_pos (nI_lt hi (by omega)), nI_add, if_pos (ep_in (show off + i < npm by omega) (by omega)), show eh_ix (nI (off + i)) = off + i from ep_ix (by omega), ep_rM _ _ pm (by omega), ep_addu, b c0, ep_sb, ep_V, nI_1]
  · intro c1 m1 _
    refine ⟨fun m0 rec => ?_, fun c0 rec => ?_⟩
    · show (if nI n < nI n then _ else _) = _
      rw [if_neg (nI_nlt (Nat.le_refl _) (by omega))]
    · show (if nI n < nI n then _ else _) = _
      rw [if_neg (nI_nlt (Nat.le_refl _) (by omega))]
/-- words out of bytes -/
def ep_pw (b : Nat → Int32) (o : Nat) (x : Int32) : Nat → Int32
  | 0 => x
  | r + 1 => eh_shl (ep_pw b o x r) 8 ||| (b (o + r) &&& 255)
theorem ep_pw4 (b : Nat → Int32) (o : Nat) (x : Int32) : ep_pw b o x 4 = ep_bw b o := by
  refine ep_ext fun i hi => ?_
  have s8 : ∀ (y : Int32) (j : Nat), j < 32 → ep_bit (eh_shl y 8) j = (decide (8 ≤ j) && ep_bit y (j - 8)) := fun y j hj => ep_bit_shl y (k := 8) (by decide) j hj
  have e1 : ep_pw b o x 4 = eh_shl (eh_shl (eh_shl (eh_shl x 8 ||| (b (o + 0) &&& 255)) 8 ||| (b (o + 1) &&& 255)) 8 ||| (b (o + 2) &&& 255)) 8 ||| (b (o + 3) &&& 255) := rfl
  rw [e1, ep_bit_bw _ _ _ hi]
  by_cases h1 : i < 8
  · rw [if_pos h1, ep_bit_or, s8 _ _ hi, ep_bit_and, ep_bit_255]
    simp [h1, show ¬ 8 ≤ i by omega]
  · rw [if_neg h1, ep_bit_or, s8 _ _ hi, ep_bit_and, ep_bit_255, ep_bit_or, s8 _ _ (by omega), ep_bit_and, ep_bit_255]
    by_cases h2 : i < 16
    · rw [if_pos h2]
      simp [h1, show 8 ≤ i by omega, show ¬ 8 ≤ i - 8 by omega, show i - 8 < 8 by omega]
    · rw [if_neg h2, ep_bit_or, s8 _ _ (by omega), ep_bit_and, ep_bit_255]
      by_cases h3 : i < 24
      · rw [if_pos h3]
        simp [h1, show 8 ≤ i by omega, show 8 ≤ i - 8 by omega, show ¬ i - 8 < 8 by omega, show ¬ 8 ≤ i - 8 - 8 by omega, show i - 8 - 8 < 8 by omega, show i - 8 - 8 = i - 16 by omega, show ¬ 8 ≤ i - 16 by omega, show i - 16 < 8 by omega]
      · rw [if_neg h3, ep_bit_or, s8 _ _ (by omega), ep_bit_and, ep_bit_255]
        simp [h1, show 8 ≤ i by omega, show 8 ≤ i - 8 by omega, show ¬ i - 8 < 8 by omega, show 8 ≤ i - 8 - 8 by omega, show ¬ i - 8 - 8 < 8 by omega, show ¬ 8 ≤ i - 8 - 8 - 8 by omega, show i - 8 - 8 - 8 < 8 by omega, show i - 8 - 8 - 8 = i - 24 by omega, show ¬ 8 ≤ i - 24 by omega, show i - 24 < 8 by omega]
def ep_rd (b old : Nat → Int32) (u fr i : Nat) : Nat → Int32 := fun j => if j = fr + i / 4 then ep_pw b (u + 4 * (i / 4)) (old j) (i % 4) else if fr ≤ j ∧ j < fr + i / 4 then ep_bw b (u + 4 * (j - fr)) else old j
theorem ep_rd_0 (b old : Nat → Int32) (u fr : Nat) : ep_rd b old u fr 0 = old := by
  funext j
  unfold ep_rd
  by_cases h : j = fr + 0 / 4
  · rw [if_pos h]; rfl
  · rw [if_neg h, if_neg (by omega)]
theorem ep_rd_s (b old : Nat → Int32) (u fr i : Nat) : upd (ep_rd b old u fr i) (fr + i / 4) (eh_shl (ep_rd b old u fr i (fr + i / 4)) 8 ||| (b (u + i) &&& 255)) = ep_rd b old u fr (i + 1) := by
  have e0 : ep_rd b old u fr i (fr + i / 4) = ep_pw b (u + 4 * (i / 4)) (old (fr + i / 4)) (i % 4) := by
    unfold ep_rd; rw [if_pos rfl]
  have e1 : eh_shl (ep_pw b (u + 4 * (i / 4)) (old (fr + i / 4)) (i % 4)) 8 ||| (b (u + i) &&& 255) = ep_pw b (u + 4 * (i / 4)) (old (fr + i / 4)) (i % 4 + 1) := by
    show _ = eh_shl _ 8 ||| (b (u + 4 * (i / 4) + i % 4) &&& 255)
    rw [show u + 4 * (i / 4) + i % 4 = u + i by omega]
  rw [e0, e1]
  funext j
  by_cases h3 : i % 4 = 3
  · have d1 : (i + 1) / 4 = i / 4 + 1 := by omega
    have d2 : (i + 1) % 4 = 0 := by omega
    rw [h3, ep_pw4]
    unfold upd
    by_cases h : j = fr + i / 4
    · rw [if_pos h]
      unfold ep_rd
      rw [if_neg (by omega), if_pos (by omega), show j - fr = i / 4 by omega]
    · rw [if_neg h]
      unfold ep_rd
      rw [if_neg h, d1, d2]
      by_cases h5 : j = fr + (i / 4 + 1)
      · rw [if_pos h5, if_neg (by omega)]; rfl
      · rw [if_neg h5]
        by_cases h6 : fr ≤ j ∧ j < fr + i / 4
        · rw [if_pos h6, if_pos (by omega)]
        · rw [if_neg h6, if_neg (by omega)]
  · have d1 : (i + 1) / 4 = i / 4 := by omega
    have d2 : (i + 1) % 4 = i % 4 + 1 := by omega
    unfold upd
    by_cases h : j = fr + i / 4
    · rw [if_pos h]
      unfold ep_rd
      rw [d1, d2, if_pos h, h]
    · rw [if_neg h]
      unfold ep_rd
      rw [d1, d2, if_neg h, if_neg h]
theorem ep_rd_n (b old : Nat → Int32) (u fr k : Nat) : ep_rd b old u fr (4 * k) = ep_in_ old fr k fun j => ep_bw b (u + 4 * j) := by
  funext j
  unfold ep_rd ep_in_
  rw [show 4 * k / 4 = k by omega, show 4 * k % 4 = 0 by omega]
  by_cases h : j = fr + k
  · rw [if_pos h, if_neg (by omega)]; rfl
  · rw [if_neg h]
/-- the class's read into a row -/
theorem ep_cread {N : Nat} {c : ep_C} {m : ep_M} (hR : ep_R N c m) (addr : Int32) {k : Nat} (hk : k ≤ 32) (hu : ∀ i, i < 4 * k → ep_u addr + i < 131072) (p np fr : Nat) (U : (Nat → Int32) → ep_C) (hrd : ∀ g m0, (ep_mk (U g) m0).1 p = g) (hwr : ∀ g m0 j v, eh_tI (ep_mk (U g) m0) p j v = ep_mk (U (upd g j v)) m0) (hU : ∀ g, ep_R N (U g) m) {old : Nat → Int32} (h0 : U old = c) (hin : fr + k ≤ np) (hnp : np < 1000) (m0 : ep_M) : eF_3_read (ep_mk c m0) addr (nI (4 * k)) p np (nI fr) = some (ep_mk (U (ep_in_ old fr k fun j => ep_bw (m.1 128) (ep_u addr + 4 * j))) m0) := by
  unfold eF_3_read
  refine ep_lp (fun i => (nI i, ep_mk (U (ep_rd (m.1 128) old (ep_u addr) fr i)) m0)) (4 * k) (ep_mk (U (ep_in_ old fr k fun j => ep_bw (m.1 128) (ep_u addr + 4 * j))) m0) (by omega) ?_ ?_ ?_ rfl
  · show _ = (nI 0, ep_mk (U (ep_rd (m.1 128) old (ep_u addr) fr 0)) m0)
    rw [ep_rd_0, h0]
    rfl
  · intro i hi rec
    have z1 : nI i / 4 = nI (i / 4) := ep_divn (a := i) (d := 4) (by omega) (by decide) (by decide)
    have z2 : nI (fr + i / 4) < Int32.ofNat np := nI_lt (b := np) (by omega) (by omega)
    have z3 : eh_in (nI (fr + i / 4)) np = true := ep_in (by omega) (by omega)
    show (if nI i < nI (4 * k) then _ else _) = _
    rw [if_pos (nI_lt hi (by omega)), z1, nI_add, if_pos z2, ep_V, if_pos z3, ep_addu, ep_cbyteAt (hU _) (hu i hi), ep_sb, if_pos z3, ep_V, ep_V, show eh_ix (nI (fr + i / 4)) = fr + i / 4 from ep_ix (by omega), hrd, hwr, ep_rd_s, nI_1]
  · intro rec
    show (if nI (4 * k) < nI (4 * k) then _ else _) = _
    rw [if_neg (nI_nlt (Nat.le_refl _) (by omega)), ep_rd_n]
/-! calls of a thread: digests, keys, numbers -/
def ep_Fm (m m' : ep_M) (h t e : Nat) : Prop := ep_On m' h t e ∧ (∀ j, j = 83 ∨ j = 85 → m'.1 127 j = m.1 127 j) ∧ m'.1 130 = m.1 130
def ep_Tc (N' h t e : Nat) (c : ep_C) (m : ep_M) (F G : eh_F → Option (Int32 × eh_F)) : Prop := ∃ r c' m', (∀ m0, F (ep_mk c m0) = some (r, ep_mk c' m0)) ∧ (∀ c0, G (ep_mk c0 m) = some (r, ep_mk c0 m')) ∧ ep_R N' c' m' ∧ ep_Fm m m' h t e
theorem ep_Fm_rf {m : ep_M} {h t e : Nat} (ho : ep_On m h t e) : ep_Fm m m h t e := ⟨ho, fun _ _ => rfl, rfl⟩
theorem ep_Fm_L {m M : ep_M} (hL : ep_L m M) {h t e : Nat} (ho : ep_On m h t e) : ep_Fm m M h t e := ⟨ep_On_L hL ho, fun j hj => hL.2.1 j (by omega) (by omega), ep_Lk hL 130 (by omega)⟩
theorem ep_Fm_W {N : Nat} {c c' : ep_C} {m m' : ep_M} (hW : ep_W N c m c' m') {h t e : Nat} (ho : ep_On m h t e) : ep_Fm m m' h t e := by
  refine ⟨ep_W_On hW ho, ?_, ?_⟩
  · obtain ⟨-, ⟨X, Y, f, v, rfl⟩, -⟩ := hW
    intro j hj
    rcases hj with rfl | rfl <;> rfl
  · obtain ⟨-, ⟨X, Y, f, v, rfl⟩, -⟩ := hW
    rfl
theorem ep_Fm_tr {m m1 m2 : ep_M} {h t e : Nat} (h1 : ep_Fm m m1 h t e) (h2 : ep_Fm m1 m2 h t e) : ep_Fm m m2 h t e := ⟨h2.1, fun j hj => (h2.2.1 j hj).trans (h1.2.1 j hj), h2.2.2.trans h1.2.2⟩
theorem ep_Tc_mono {N N' h t e : Nat} {c : ep_C} {m : ep_M} {F G : eh_F → Option (Int32 × eh_F)} (hS : ep_Tc N h t e c m F G) (hN : N ≤ N') : ep_Tc N' h t e c m F G := by
  obtain ⟨r, c', m', a, b, d, e⟩ := hS
  exact ⟨r, c', m', a, b, ep_R_mono d hN, e⟩
theorem ep_Tc_no {N h t e : Nat} {c : ep_C} {m M : ep_M} (hR : ep_R N c m) (ho : ep_On m h t e) (hL : ep_L m M) {F G : eh_F → Option (Int32 × eh_F)} (r : Int32) (h1 : ∀ m0, F (ep_mk c m0) = some (r, ep_mk c m0)) (h2 : ∀ c0, G (ep_mk c0 m) = some (r, ep_mk c0 M)) : ep_Tc N h t e c m F G := ⟨r, c, M, h1, h2, ep_R_L hR hL, ep_Fm_L hL ho⟩
theorem ep_row8 {f b : Nat → Int32} {off : Nat} (h : ∀ j, j < 8 → f j = ep_bw b (off + 4 * j)) : ∀ k, k < 32 → eh_ushr (f (k / 4)) (nI (24 - 8 * (k % 4))) &&& 255 = b (off + k) &&& 255 := by
  intro k hk
  rw [h (k / 4) (by omega)]
  exact ep_bw_byte b off k
theorem ep_digest_ {N : Nat} {c : ep_C} {m : ep_M} (hR : ep_R N c m) (hN : N + 100 < 2 ^ 28) {h t e : Nat} (ho : ep_On m h t e) (addr : Int32) (p pm npm off : Nat) (O : Int32) (hO : O = nI off) (f : Nat → Int32) (hrd : ∀ X Y g v m0, (ep_mk (ep_cw c X Y g v) m0).1 p = f) (hpm : 147 < pm ∧ (pm < 170 ∨ 173 < pm ∧ pm < 188)) (hin : off + 32 ≤ npm) (hnpm : npm < 1000000) (hw : ∀ j, j < 8 → f j = ep_bw (m.1 pm) (off + 4 * j)) : ep_Tc (N + 32) h t e c m (fun s => eF_3_giveDigest s (eh_fp (nI t)) addr p 8) (fun s => Option.bind (eF_12_canWrite s (nI h) addr 32) (fun q48 => if q48.1 = 0 then (some ((-1 : Int32), q48.2)) else (Option.bind (eF_12_writeTo q48.2 (nI h) addr pm npm O 32) (fun q50 => some (0, q50))))) := by
  subst hO
  have ht := ho.2.1
  have he := ho.2.2.1
  have hto := ho.2.2.2.2.1
  obtain ⟨M, hL, hM⟩ := ep_mcanW hR ho addr (n := 32) (by decide)
  cases hb : ep_rb m (c.1 10) e (ep_u addr) 2 32 with
  | false =>
    refine ep_Tc_mono (ep_Tc_no hR ho hL (-1) (fun m0 => ?_) (fun c0 => ?_)) (by omega)
    · show eF_3_giveDigest (ep_mk c m0) _ _ _ _ = _
      unfold eF_3_giveDigest
      refine ep_bnd (ep_creaches hR ht he hto addr 2 (n := 32) (by decide) m0) ?_
      rw [hb, if_pos ep_bf]
    · refine ep_bnd (hM c0) ?_
      rw [hb, if_pos ep_bf]
  | true =>
    obtain ⟨c', m', w1, w2, w3⟩ := ep_write_ (ep_R_L hR hL) (n := 32) (by omega) (ep_On_L hL ho) addr (by decide) (ep_rb_u hb) p 8 pm npm off f hrd ⟨by decide, by decide⟩ ⟨by omega, by omega, by omega, by omega⟩ hin hnpm (ep_row8 (by rw [ep_Lk hL pm (by omega)]; exact hw))
    refine ⟨0, c', m', fun m0 => ?_, fun c0 => ?_, w3.2.2, ep_Fm_tr (ep_Fm_L hL ho) (ep_Fm_W w3 (ep_On_L hL ho))⟩
    · show eF_3_giveDigest (ep_mk c m0) _ _ _ _ = _
      unfold eF_3_giveDigest
      refine ep_bnd (ep_creaches hR ht he hto addr 2 (n := 32) (by decide) m0) ?_
      rw [hb, if_neg ep_bt]
      exact ep_bnd (w1 m0) rfl
    · refine ep_bnd (hM c0) ?_
      rw [hb, if_neg ep_bt]
      exact ep_bnd (w2 c0) rfl
theorem ep_K1 {c c' : ep_C} (h : ep_K c c') (k : Nat) (hk : k ≠ 29 ∧ k ≠ 30 ∧ k ≠ 31 ∧ k ≠ 32 ∧ k ≠ 35 ∧ k ≠ 36 ∧ k ≠ 126) : c'.1 k = c.1 k := h.2 k hk.1 hk.2.1 hk.2.2.1 hk.2.2.2.1 hk.2.2.2.2.1 hk.2.2.2.2.2.1 hk.2.2.2.2.2.2
theorem ep_K33 {c c' : ep_C} (h : ep_K c c') (m0 : ep_M) : (ep_mk c' m0).1 33 = c.1 33 := by rw [ep_rC1 _ _ _ (by decide)]; exact ep_K1 h 33 (by decide)
theorem ep_Kf {c c' : ep_C} (h : ep_K c c') {t : Nat} (ht : t < 12) (m0 : ep_M) : (ep_mk c' m0).1 (eh_fp (nI t)) = c.2.1 2 t := by rw [ep_rF0 _ _ ht, h.1]
theorem ep_KE {c c' : ep_C} (h : ep_K c c') {e : Nat} (i : Nat) (he : e < 6) (hi : i < 9) (m0 : ep_M) : (ep_mk c' m0).1 (eh_ep (nI e) + i) = c.2.1 (4 + i) e := by rw [ep_rE _ _ _ he hi, h.1]
theorem ep_K_126 (c : ep_C) (f : Nat → Int32) : ep_K c (ep_cL c 126 f) := ⟨rfl, fun k _ _ _ _ _ _ a7 => ep_cLn _ _ _ _ a7⟩
theorem ep_K_35 (c : ep_C) (f : Nat → Int32) : ep_K c (ep_cL c 35 f) := ⟨rfl, fun k _ _ _ _ a5 _ _ => ep_cLn _ _ _ _ a5⟩
theorem ep_K_36 (c : ep_C) (f : Nat → Int32) : ep_K c (ep_cL c 36 f) := ⟨rfl, fun k _ _ _ _ _ a6 _ => ep_cLn _ _ _ _ a6⟩
theorem ep_en_ne {e : Nat} (i j : Nat) (hj : j < 41 ∨ 123 ≤ j) (he : e < 6) (hi : i < 9) : eh_ep (nI e) + i ≠ j := by rw [ep_ep he]; omega
/-- the end of a keyed digest that is written out -/
theorem ep_key_out {N n : Nat} {c c4 : ep_C} {m M m4 : ep_M} (hR : ep_R N c m) (hN : N + n < 2 ^ 28) {h t e : Nat} (ho : ep_On m h t e) (hL : ep_L m m4) (hK : ep_K c c4) {l : List Int32} (hS : ep_KS c4 m4 (m4.1 186) l) (addr : Int32) (hn : n ≤ 32) (hu : ∀ k, k < n → ep_u addr + k < 131072) : ∃ c5 m5 c6 m6, (∀ m0, eF_9_endKeyed (ep_mk c4 m0) 29 33 8 126 8 = some (ep_mk c5 m0)) ∧ (∀ c0, eF_12_keyed (ep_mk c0 m4) 186 32 = some (ep_mk c0 m5)) ∧ (∀ m0, eF_3_write (ep_mk c5 m0) (eh_fp (nI t)) addr 126 8 (nI n) = some (ep_mk c6 m0)) ∧ (∀ c0, eF_12_writeTo (ep_mk c0 m5) (nI h) addr 194 32 0 (nI n) = some (ep_mk c0 m6)) ∧ ep_R (N + n) c6 m6 ∧ ep_Fm m m6 h t e ∧ ep_K c c5 ∧ ep_L m m5 := by
  obtain ⟨T, c5, m5, a, b, d1, d2, d3⟩ := ep_ksend (c := c4) (m := m4) 33 126 186 (c.1 33) hS (by decide) (by decide) (ep_K33 hK) (fun j hj => by rw [ep_Lk hL 186 (by omega)]; exact hR.2.2.2.2.2.2.2.2.2.2.2.2.2.2.2.2.2.2.2.2.2.2.2.2.2.1 j hj) (by decide)
  have hK5 : ep_K c (ep_cL c5 126 (ep_w8 (c4.1 126) T 8)) := ep_K_tr (ep_K_tr hK d1) (ep_K_126 _ _)
  have hL5 := ep_L_tr hL d2
  obtain ⟨c6, m6, w1, w2, w3⟩ := ep_write_ (ep_R_L (ep_R_K hR hK5) hL5) (n := n) hN (ep_On_L hL5 ho) addr (by omega) hu 126 8 194 32 0 (ep_w8 (c4.1 126) T 8) (fun X Y g v m0 => by rw [ep_rC2 _ _ _ (by decide) (by decide), ep_cw_o _ _ _ _ _ _ (by decide), ep_cL1]) ⟨by omega, by decide⟩ (by decide) (by omega) (by decide) (fun k hk => by
    refine ep_row8 (b := m5.1 194) (off := 0) (fun j hj => ?_) k (by omega)
    rw [ep_w8_lt _ _ _ hj, d3]
    exact (ep_bw_wr _ 0 T j hj).symm)
  refine ⟨_, m5, c6, m6, fun m0 => ?_, b, w1, w2, w3.2.2, ep_Fm_tr (ep_Fm_L hL5 ho) (ep_Fm_W w3 (ep_On_L hL5 ho)), hK5, hL5⟩
  rw [a m0, ep_wC2 _ _ _ _ (by decide) (by decide), ep_rC2 _ _ 126 (by decide) (by decide)]
theorem ep_giveKey_ {N : Nat} {c : ep_C} {m : ep_M} (hR : ep_R N c m) (hN : N + 100 < 2 ^ 28) {h t e : Nat} (ho : ep_On m h t e) (p q : Int32) : ep_Tc (N + 32) h t e c m (fun s => eF_3_giveKey s (eh_fp (nI t)) p q) (fun s => Option.bind (eF_12_canWrite s (nI h) q 32) (fun q14 => if q14.1 = 0 then (some ((-1 : Int32), q14.2)) else (eh_V (eh_tI q14.2 127 79 0) (fun s16 => Option.bind (eF_12_say s16 6) (fun q17 => Option.bind (eF_12_sayBytes q17 159 192 (32 * nI e) 32) (fun q18 => Option.bind (eF_12_say q18 p) (fun q19 => Option.bind (eF_12_keyed q19 186 32) (fun q20 => Option.bind (eF_12_writeTo q20 (nI h) q 194 32 0 32) (fun q21 => some (0, q21)))))))))) := by
  have ht := ho.2.1
  have he := ho.2.2.1
  have hto := ho.2.2.2.2.1
  have i6 : eh_in (nI e) 6 = true := ep_in he (by decide)
  have e32 : (32 : Int32) * nI e = nI (32 * e) := ep_mul (b := 32) rfl rfl
  obtain ⟨M, hL, hM⟩ := ep_mcanW hR ho q (n := 32) (by decide)
  cases hb : ep_rb m (c.1 10) e (ep_u q) 2 32 with
  | false =>
    refine ep_Tc_mono (ep_Tc_no hR ho hL (-1) (fun m0 => ?_) (fun c0 => ?_)) (by omega)
    · show eF_3_giveKey (ep_mk c m0) _ _ _ = _
      unfold eF_3_giveKey
      refine ep_bnd (ep_creaches hR ht he hto q 2 (n := 32) (by decide) m0) ?_
      rw [hb, if_pos ep_bf]
    · refine ep_bnd (hM c0) ?_
      rw [hb, if_pos ep_bf]
  | true =>
    obtain ⟨c1, m1, a1, b1, k1, l1, s1⟩ := ep_ksbegin c M 33 (c.1 33) (m.1 186) (by decide) (fun m0 => ep_rC1 _ _ _ (by decide)) hR.2.2.2.2.2.2.2.2.2.2.2.2.2.2.2.2.2.2.2.2.2.2.2.2.2.1
    obtain ⟨c2, m2, a2, b2, k2, l2, s2⟩ := ep_ksnum s1 (by decide) 6
    have K2 := ep_K_tr k1 k2
    have L2 := ep_L_tr hL (ep_L_tr l1 l2)
    obtain ⟨c3, m3, a3, b3, k3, l3, s3⟩ := ep_kswords s2 8 (by show 0 + 4 + 4 * 8 ≤ 256; decide) (eh_ep (nI e) + 5) 8 159 192 (32 * e) (c.2.1 9 e) ⟨ep_en_ne 5 29 (by decide) he (by decide), ep_en_ne 5 30 (by decide) he (by decide), ep_en_ne 5 31 (by decide) he (by decide)⟩ (ep_KE K2 5 he (by decide)) (by decide) (by decide) (by omega) (by decide) (by
      intro j hj
      rw [ep_Lk L2 159 (by omega)]
      exact hR.2.2.2.2.2.2.2.2.2.2.2.2.2.2.2.2.2.2.1 e he j hj)
    obtain ⟨c4, m4, a4, b4, k4, l4, s4⟩ := ep_ksnum s3 (by simp) p
    have K4 := ep_K_tr K2 (ep_K_tr k3 k4)
    have L4 := ep_L_tr L2 (ep_L_tr l3 l4)
    obtain ⟨c5, m5, c6, m6, a5, b5, a6, b6, R6, F6, -, -⟩ := ep_key_out (M := M) (n := 32) hR (by omega) ho L4 K4 (by rw [ep_Lk L4 186 (by omega)]; exact s4) q (by decide) (ep_rb_u hb)
    refine ⟨0, c6, m6, fun m0 => ?_, fun c0 => ?_, R6, F6⟩
    · show eF_3_giveKey (ep_mk c m0) _ _ _ = _
      unfold eF_3_giveKey
      refine ep_bnd (ep_creaches hR ht he hto q 2 (n := 32) (by decide) m0) ?_
      rw [hb, if_neg ep_bt, a1 m0, ep_sb, a2 m0, ep_sb, ep_Kf K2 ht, (hR.2.2.2.2.2.2.2.2.2.2.1 t ht).2.2.1, hto, if_pos i6]
      refine ep_bnd (a3 m0) ?_
      rw [a4 m0, ep_sb, a5 m0, ep_sb]
      exact ep_bnd (a6 m0) rfl
    · refine ep_bnd (hM c0) ?_
      rw [hb, if_neg ep_bt, ep_V, b1 c0, b2 c0, ep_sb, e32]
      refine ep_bnd (b3 c0) ?_
      rw [b4 c0, ep_sb, b5 c0, ep_sb]
      exact ep_bnd (b6 c0) rfl
