theorem ep_useC {N : Nat} {c : ep_C} {m : ep_M} (hR : ep_R N c m) {h : Nat} {pc : Int32} (hQ : ep_Q c m h pc) {xi xj w : Nat} (hX : ep_X c m h xi xj w) (x : Int32) (b : Bool) (hb4 : ∀ {α : Type} (c0 : ep_C) (A : Int32 → Option α), eh_J A (fun j4 => eh_J (fun (u34 : Unit) => j4 0) (fun j33 => if ((ep_mk c0 m).1 144 h) = (-1) then (if ((ep_mk c0 m).1 131 h) = 1 then (j4 1) else (j33 ())) else (j33 ()))) = A (ep_bi b)) : ∃ c' m', (∀ m0, eF_7_useControl (ep_mk c m0) x (nI (ep_ff x)) (ep_bi b) = some (ep_mk c' m0)) ∧ (∀ c0, eF_12_registers (ep_mk c0 m) (nI h) x (nI (ep_fd x)) (nI (ep_ff x)) (nI (ep_fa x)) (m.1 129 (32 * w + ep_fa x)) = some (ep_mk c0 m')) ∧ ep_D N c' m' h (m.1 144 h) := by
  have hf := ep_ff_l x
  have hfa := ep_fa_l x
  have hh := hQ.1.1
  have hq4 := hQ.1.2.1
  have j1 : eh_in (nI h) 2 = true := ep_in hh (by decide)
  have j2 : eh_ix (nI h) = h := ep_ix (by omega)
  have ok : ∀ m0, eh_okH ((ep_mk c m0).2.2 4) = true := fun m0 => by rw [ep_rQ, hq4]; exact ep_okH hh
  have q4 : ∀ m0, (ep_mk c m0).2.2 4 = eh_hp (nI h) := fun m0 => by rw [ep_rQ, hq4]
  have hxx : ∀ m0, eh_okX ((ep_mk c m0).2.2 7) = true := fun m0 => by rw [ep_rQ]; exact hX.2.1
  have hxr : ∀ m0, (ep_mk c m0).1 ((ep_mk c m0).2.2 7) (ep_fa x) = m.1 129 (32 * w + ep_fa x) := fun m0 => by rw [ep_rQ, hX.2.2.1, hX.2.2.2.2.1 _ hfa]
  have i32 : eh_in (nI (ep_fa x)) 32 = true := ep_in hfa (by decide)
  have ixa : eh_ix (nI (ep_fa x)) = ep_fa x := ep_ix (by omega)
  generalize m.1 129 (32 * w + ep_fa x) = l at hxr ⊢
  generalize hcn : eh_ushr x 20 = cn
  obtain ⟨wr, hwr⟩ : ∃ wr, wr = (decide (ep_ff x % 4 = 1) || !decide (ep_fa x = 0)) := ⟨_, rfl⟩
  have f3 : nI (ep_ff x) &&& 3 = nI (ep_ff x % 4) := ep_and3 (by omega)
  have k1 : (nI (ep_ff x % 4) = 1) ↔ ep_ff x % 4 = 1 := nI_eq (b := 1) (by omega) (by decide)
  have k2 : (nI (ep_ff x % 4) = 2) ↔ ep_ff x % 4 = 2 := nI_eq (b := 2) (by omega) (by decide)
  have z0 : (nI (ep_fa x) = 0) ↔ ep_fa x = 0 := nI_eq (b := 0) (by omega) (by decide)
  have wrr : ∀ {α : Type} (A : Int32 → Option α), (if nI (ep_ff x % 4) = 1 then A 1 else (if nI (ep_fa x) = 0 then A 0 else A 1)) = A (ep_bi wr) := by
    intro α A
    rw [hwr]
    simp only [k1, z0]
    by_cases y1 : ep_ff x % 4 = 1
    · simp [y1, ep_bi]
    · by_cases y2 : ep_fa x = 0
      · simp [y1, y2, ep_bi]
      · simp [y1, y2, ep_bi]
  obtain ⟨num, hnum⟩ : ∃ num, num = if 4 < nI (ep_ff x) then nI (ep_fa x) else l := ⟨_, rfl⟩
  by_cases hal : ep_isR cn = true ∧ ¬ (wr = true ∧ (cn = 3073 ∨ cn = 3860)) ∧ (b = true ∨ cn = 3073)
  · obtain ⟨al1, al2, al3⟩ := hal
    obtain ⟨r, r1, r2⟩ := ep_readR hR hh al1
    obtain ⟨val, hval⟩ : ∃ val, val = if ep_ff x % 4 = 1 then num else if ep_ff x % 4 = 2 then r ||| num else r &&& (num ^^^ (-1)) := ⟨_, rfl⟩
    have hmay : ∀ m0 {α : Type} (A : Int32 → Option α), (if ep_bi b = 0 then (eh_J (fun (u28 : Unit) => A 0) (fun j27 => if cn = 3073 then (if ep_bi wr = 0 then (A 1) else (j27 ())) else (j27 ()))) else (Option.bind (eF_4_maySystemUse (ep_mk c m0) cn (ep_bi wr)) (fun q31 => A q31))) = A 1 := by
      intro m0 α A
      rw [ep_cmay, ep_sb, ep_J]
      cases b with
      | true =>
        rw [if_neg (by decide)]
        have : (ep_wrt cn || (!wr && (decide (cn = 3073) || decide (cn = 3860)))) = true := by
          unfold ep_isR at al1
          cases wr with
          | true =>
            have : ¬ (cn = 3073 ∨ cn = 3860) := fun z => al2 ⟨rfl, z⟩
            have t1 : ¬ cn = 3073 := fun z => this (Or.inl z)
            have t2 : ¬ cn = 3860 := fun z => this (Or.inr z)
            simp [t1, t2] at al1
            simp [al1]
          | false => simpa [Bool.or_assoc] using al1
        rw [this]; rfl
      | false =>
        have hc : cn = 3073 := al3.resolve_left (by decide)
        have hw0 : wr = false := by
          cases wr with
          | false => rfl
          | true => exact absurd ⟨rfl, Or.inl hc⟩ al2
        rw [if_pos (by decide), if_pos hc, hw0, if_pos (by decide)]
    have hcu : ∀ m0, eF_7_useControl (ep_mk c m0) x (nI (ep_ff x)) (ep_bi b) = eh_J (fun (s14 : eh_F) => Option.bind (eF_7_put s14 x r) (fun q15 => some q15)) (fun j13 => if ep_bi wr = 0 then (j13 (ep_mk c m0)) else (Option.bind (eF_4_writeControl (ep_mk c m0) (eh_hp (nI h)) cn val) (fun q21 => j13 q21))) := by
      intro m0
      unfold eF_7_useControl
      rw [ep_V, ep_V, hcn, ep_fa_c, f3, ep_J, ep_J]
      refine (wrr _).trans ?_
      rw [ep_J]
      refine (hmay m0 _).trans ?_
      rw [if_neg (by decide), ep_J]
      by_cases y : 4 < nI (ep_ff x)
      · rw [if_pos y, show nI (ep_fa x) = num from by rw [hnum, if_pos y]]
        dsimp only
        rw [if_pos (ok m0), q4, r1 m0, ep_sb, ep_J, ep_J]
        cases wr with
        | false => rw [if_pos (by decide), if_pos (by decide)]
        | true =>
          rw [if_neg (by decide), if_neg (by decide), ep_V, if_pos (ep_okH hh), ep_J, hval]
          simp only [k1, k2]
          by_cases y1 : ep_ff x % 4 = 1
          · rw [if_pos y1, if_pos y1]
          · by_cases y2 : ep_ff x % 4 = 2
            · rw [if_neg y1, if_pos y2, if_neg y1, if_pos y2]
            · rw [if_neg y1, if_neg y2, if_neg y1, if_neg y2]
      · rw [if_neg y, if_pos (hxx m0), if_pos i32, ixa, hxr m0, show l = num from by rw [hnum, if_neg y]]
        dsimp only
        rw [if_pos (ok m0), q4, r1 m0, ep_sb, ep_J, ep_J]
        cases wr with
        | false => rw [if_pos (by decide), if_pos (by decide)]
        | true =>
          rw [if_neg (by decide), if_neg (by decide), ep_V, if_pos (ep_okH hh), ep_J, hval]
          simp only [k1, k2]
          by_cases y1 : ep_ff x % 4 = 1
          · rw [if_pos y1, if_pos y1]
          · by_cases y2 : ep_ff x % 4 = 2
            · rw [if_neg y1, if_pos y2, if_neg y1, if_pos y2]
            · rw [if_neg y1, if_neg y2, if_neg y1, if_neg y2]
    have hmu : ∀ c0, eF_12_registers (ep_mk c0 m) (nI h) x (nI (ep_fd x)) (nI (ep_ff x)) (nI (ep_fa x)) l = eh_J (fun (s19 : eh_F) => Option.bind (eF_12_set s19 (nI h) (nI (ep_fd x)) r) (fun q20 => some q20)) (fun j18 => if ep_bi wr = 0 then (j18 (ep_mk c0 m)) else (Option.bind (eF_12_writeRegister (ep_mk c0 m) (nI h) cn val) (fun q24 => j18 q24))) := by
      intro c0
      unfold eF_12_registers
      rw [ep_V, hcn, f3, ep_J, ep_J]
      refine (wrr _).trans ?_
      rw [if_pos j1, j2]
      simp only [j1, if_true]
      refine (hb4 c0 _).trans ?_
      rw [ep_misR, ep_sb, al1, ep_J, if_neg (by decide), ep_J]
      have hj : ∀ {α : Type} (A B : Option α), (if ep_bi wr = 0 then A else (if cn = 3073 then B else (if cn = 3860 then B else A))) = A := by
        intro α A B
        cases wr with
        | false => rw [if_pos (by decide)]
        | true =>
          have : ¬ (cn = 3073 ∨ cn = 3860) := fun z => al2 ⟨rfl, z⟩
          rw [if_neg (by decide), if_neg (fun z => this (Or.inl z)), if_neg (fun z => this (Or.inr z))]
      refine (hj _ _).trans ?_
      rw [ep_J]
      have hj2 : ∀ {α : Type} (A B : Option α), (if ep_bi b = 0 then (if cn = 3073 then A else B) else A) = A := by
        intro α A B
        cases b with
        | true => rw [if_neg (by decide)]
        | false => rw [if_pos (by decide), if_pos (al3.resolve_left (by decide))]
      refine (hj2 _ _).trans ?_
      rw [r2 c0, ep_sb, ep_J]
      by_cases y : 4 < nI (ep_ff x)
      · rw [if_pos y, show nI (ep_fa x) = num from by rw [hnum, if_pos y]]
        dsimp only
        cases wr with
        | false => rfl
        | true =>
          rw [hval]
          simp only [↓ep_J, k1, k2, show ¬ ep_bi true = 0 from by decide, if_false]
          by_cases y1 : ep_ff x % 4 = 1
          · simp only [y1, if_true]
          · by_cases y2 : ep_ff x % 4 = 2
            · simp only [y2, if_true]
              simp
            · simp only [y1, y2, if_false]
      · rw [if_neg y, show l = num from by rw [hnum, if_neg y]]
        dsimp only
        cases wr with
        | false => rfl
        | true =>
          rw [hval]
          simp only [↓ep_J, k1, k2, show ¬ ep_bi true = 0 from by decide, if_false]
          by_cases y1 : ep_ff x % 4 = 1
          · simp only [y1, if_true]
          · by_cases y2 : ep_ff x % 4 = 2
            · simp only [y2, if_true]
              simp
            · simp only [y1, y2, if_false]
    cases hwb : wr with
    | false =>
      obtain ⟨c', m', p1, p2, p3⟩ := ep_putD hR hQ x r
      refine ⟨c', m', fun m0 => ?_, fun c0 => ?_, p3⟩
      · rw [hcu m0, ep_J, hwb, if_pos (by decide)]
        exact ep_bnd (p1 m0) rfl
      · rw [hmu c0, ep_J, hwb, if_pos (by decide)]
        exact ep_bnd (p2 c0) rfl
    | true =>
      have hwt : ep_wrt cn = true := by
        unfold ep_isR at al1
        have : ¬ (cn = 3073 ∨ cn = 3860) := fun z => al2 ⟨hwb, z⟩
        have t1 : ¬ cn = 3073 := fun z => this (Or.inl z)
        have t2 : ¬ cn = 3860 := fun z => this (Or.inr z)
        simpa [t1, t2] using al1
      obtain ⟨c1, m1, w1, w2, w3⟩ := ep_writeR hR hh hwt val
      have hQ1 := ep_Q_Z w3 hQ
      obtain ⟨c', m', p1, p2, p3⟩ := ep_putD w3.2.2 hQ1 x r
      refine ⟨c', m', fun m0 => ?_, fun c0 => ?_, ep_D_r (congrFun (w3.2.1.2 144 (by omega)) h) p3⟩
      · rw [hcu m0, ep_J, hwb, if_neg (by decide)]
        refine ep_bnd (w1 m0) ?_
        exact ep_bnd (p1 m0) rfl
      · rw [hmu c0, ep_J, hwb, if_neg (by decide)]
        refine ep_bnd (w2 c0) ?_
        exact ep_bnd (p2 c0) rfl
  · obtain ⟨i1, i2, i3⟩ := ep_ill hR hQ x
    refine ⟨_, _, fun m0 => ?_, fun c0 => ?_, i3⟩
    · unfold eF_7_useControl
      rw [ep_V, ep_V, hcn, ep_fa_c, f3, ep_J, ep_J]
      refine (wrr _).trans ?_
      rw [ep_J]
      have hmay : ∀ {α : Type} (A : Int32 → Option α), (if ep_bi b = 0 then (eh_J (fun (u28 : Unit) => A 0) (fun j27 => if cn = 3073 then (if ep_bi wr = 0 then (A 1) else (j27 ())) else (j27 ()))) else (Option.bind (eF_4_maySystemUse (ep_mk c m0) cn (ep_bi wr)) (fun q31 => A q31))) = A 0 := by
        intro α A
        rw [ep_cmay, ep_sb, ep_J]
        cases b with
        | true =>
          rw [if_neg (by decide)]
          have : (ep_wrt cn || (!wr && (decide (cn = 3073) || decide (cn = 3860)))) = false := by
            cases hz : (ep_wrt cn || (!wr && (decide (cn = 3073) || decide (cn = 3860)))) with
            | false => rfl
            | true =>
              exfalso
              apply hal
              refine ⟨?_, ?_, Or.inl rfl⟩
              · unfold ep_isR
                cases hw : ep_wrt cn with
                | true => rfl
                | false =>
                  rw [hw] at hz
                  simp only [Bool.false_or, Bool.and_eq_true] at hz
                  simpa using hz.2
              · intro ⟨z1, z2⟩
                rw [z1] at hz
                simp only [Bool.not_true, Bool.false_and, Bool.or_false] at hz
                rcases z2 with z2 | z2 <;> rw [z2] at hz <;> exact absurd hz (by decide)
          rw [this]; rfl
        | false =>
          rw [if_pos (by decide)]
          by_cases hc : cn = 3073
          · rw [if_pos hc]
            cases hw : wr with
            | true => rw [if_neg (by decide)]
            | false =>
              exfalso
              apply hal
              refine ⟨by rw [hc]; decide, fun z => absurd z.1 (by rw [hw]; decide), Or.inr hc⟩
          · rw [if_neg hc]
      refine (hmay _).trans ?_
      rw [if_pos rfl]
      exact ep_bnd (i1 m0) rfl
    · unfold eF_12_registers
      rw [ep_V, hcn, f3, ep_J, ep_J]
      refine (wrr _).trans ?_
      rw [if_pos j1, j2]
      simp only [j1, if_true]
      refine (hb4 c0 _).trans ?_
      rw [ep_misR, ep_sb, ep_J]
      cases hi : ep_isR cn with
      | false => rw [if_pos (by decide)]; exact ep_bnd (i2 c0) rfl
      | true =>
        rw [if_neg (by decide), ep_J]
        by_cases hw : wr = true ∧ (cn = 3073 ∨ cn = 3860)
        · rw [hw.1, if_neg (by decide)]
          by_cases y : cn = 3073
          · rw [if_pos y]; exact ep_bnd (i2 c0) rfl
          · rw [if_neg y, if_pos (hw.2.resolve_left y)]; exact ep_bnd (i2 c0) rfl
        · have hj : ∀ {α : Type} (A B : Option α), (if ep_bi wr = 0 then A else (if cn = 3073 then B else (if cn = 3860 then B else A))) = A := by
            intro α A B
            cases hwb : wr with
            | false => rw [if_pos (by decide)]
            | true =>
              have : ¬ (cn = 3073 ∨ cn = 3860) := fun z => hw ⟨hwb, z⟩
              rw [if_neg (by decide), if_neg (fun z => this (Or.inl z)), if_neg (fun z => this (Or.inr z))]
          refine (hj _ _).trans ?_
          have hbf : b = false ∧ ¬ cn = 3073 := by
            constructor
            · cases hb : b with
              | false => rfl
              | true => exact absurd ⟨hi, hw, Or.inl hb⟩ hal
            · intro z; exact hal ⟨hi, hw, Or.inr z⟩
          rw [ep_J, hbf.1, if_pos (by decide), if_neg hbf.2]
          exact ep_bnd (i2 c0) rfl
