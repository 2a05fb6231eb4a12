/-! counters of measurements -/
def ep_ceq (c : ep_C) (f : Nat → Int32) (k : Nat) : Bool := ep_all (fun j => decide (c.1 39 (8 * k + j) = f j)) 8
theorem ep_cisc {c : ep_C} {k p : Nat} (hk : k < 8) (f : Nat → Int32) (hrd : ∀ m0, (ep_mk c m0).1 p = f) (m0 : ep_M) : eF_5_isCounted (ep_mk c m0) (nI k) p 8 = some (ep_bi (ep_ceq c f k)) := by
  unfold eF_5_isCounted
  have z8 : nI k * 8 = nI (8 * k) := by rw [Int32.mul_comm]; exact ep_mul rfl rfl
  rw [z8]
  refine ep_lpf (fun i => nI i) 8 (fun j => decide (c.1 39 (8 * k + j) = f j)) (fun _ => .inr ()) (.inl ()) (by decide) rfl ?_ ?_ ?_ ?_ ?_
  · intro i hi hb rec
    show (if nI i < 8 then _ else _) = _
    rw [if_pos (show nI i < 8 from nI_lt (b := 8) hi (by decide)), nI_add, if_pos (ep_in (show 8 * k + i < 64 by omega) (by decide)), if_pos (ep_in hi (by decide)), show eh_ix (nI i) = i from ep_ix (by omega), show eh_ix (nI (8 * k + i)) = 8 * k + i from ep_ix (by omega), ep_rC1 _ _ 39 (by decide), hrd, if_pos (by simpa using hb), ep_V, nI_1]
  · intro i hi hb rec
    show (if nI i < 8 then _ else _) = _
    rw [if_pos (show nI i < 8 from nI_lt (b := 8) hi (by decide)), nI_add, if_pos (ep_in (show 8 * k + i < 64 by omega) (by decide)), if_pos (ep_in hi (by decide)), show eh_ix (nI i) = i from ep_ix (by omega), show eh_ix (nI (8 * k + i)) = 8 * k + i from ep_ix (by omega), ep_rC1 _ _ 39 (by decide), hrd, if_neg (by simpa using hb)]
  · intro rec
    show (if nI 8 < 8 then _ else _) = _
    rw [if_neg (by decide)]
  · intro g
    rw [show ep_ceq c f k = true from ep_all_iff.mpr g]; rfl
  · intro j hj hb _
    have : ep_ceq c f k = false := by
      rw [Bool.eq_false_iff]
      intro z
      have := ep_all_iff.mp z j hj
      rw [hb] at this
      exact absurd this (by decide)
    rw [this]; rfl
def ep_meq (m : ep_M) (e k n : Nat) : Bool := ep_all (fun j => decide (m.1 183 (32 * k + j) = m.1 159 (32 * e + j))) n
theorem ep_mcmpc (m : ep_M) {e k : Nat} (he : e < 6) (hk : k < 8) (c0 : ep_C) : eh_loop (fun (r30 : (Int32 × Int32) → Option (Int32)) (t23 : Int32 × Int32) => if t23.2 < 32 then (if t23.1 = 0 then (some t23.1) else (if eh_in (nI (32 * k) + t23.2) 256 then if eh_in (nI (32 * e) + t23.2) 192 then eh_J (fun (a34 : Int32) => eh_V ((t23.2 + 1) : Int32) (fun x35 => r30 (a34, x35))) (fun j33 => if ((ep_mk c0 m).1 183 (eh_ix (nI (32 * k) + t23.2))) = ((ep_mk c0 m).1 159 (eh_ix (nI (32 * e) + t23.2))) then (j33 1) else (j33 0)) else none else none)) else (some t23.1)) eh_FU (1, 0) = some (ep_bi (ep_meq m e k 32)) := by
  have key := ep_minv0 (A := Unit) (X := Bool) (body := fun _ (r30 : (Int32 × Int32) → Option (Int32)) (t23 : Int32 × Int32) => if t23.2 < 32 then (if t23.1 = 0 then (some t23.1) else (if eh_in (nI (32 * k) + t23.2) 256 then if eh_in (nI (32 * e) + t23.2) 192 then eh_J (fun (a34 : Int32) => eh_V ((t23.2 + 1) : Int32) (fun x35 => r30 (a34, x35))) (fun j33 => if ((ep_mk c0 m).1 183 (eh_ix (nI (32 * k) + t23.2))) = ((ep_mk c0 m).1 159 (eh_ix (nI (32 * e) + t23.2))) then (j33 1) else (j33 0)) else none else none)) else (some t23.1)) (fun _ i x => (ep_bi x, nI i)) (fun G => G () = some (ep_bi (ep_meq m e k 32))) (fun i x => x = ep_meq m e k i) 32 (by decide) ?_ ?_ true rfl
  · obtain ⟨G, g1, g2⟩ := key
    exact (g2 ()).trans g1
  · intro i x hi hp
    cases x with
    | false =>
      right
      have hf : ep_meq m e k 32 = false := by
        rw [Bool.eq_false_iff]
        intro z
        have : ep_meq m e k i = true := ep_all_iff.mpr fun j hj => ep_all_iff.mp z j (by omega)
        rw [← hp] at this
        exact absurd this (by decide)
      refine ⟨fun _ => some (ep_bi false), by rw [hf], fun _ rec => ?_⟩
      show (if nI i < 32 then (if ep_bi false = 0 then some (ep_bi false) else _) else _) = _
      rw [if_pos (show nI i < 32 from nI_lt (b := 32) hi (by decide)), if_pos ep_bf]
    | true =>
      left
      refine ⟨decide (m.1 183 (32 * k + i) = m.1 159 (32 * e + i)), ?_, fun _ rec => ?_⟩
      · show _ = (ep_meq m e k i && decide (m.1 183 (32 * k + i) = m.1 159 (32 * e + i)))
        rw [← hp, Bool.true_and]
      · show (if nI i < 32 then (if ep_bi true = 0 then _ else _) else _) = _
        rw [if_pos (show nI i < 32 from nI_lt (b := 32) hi (by decide)), if_neg ep_bt, nI_add, nI_add, if_pos (ep_in (show 32 * k + i < 256 by omega) (by decide)), if_pos (ep_in (show 32 * e + i < 192 by omega) (by decide)), ep_J, show eh_ix (nI (32 * k + i)) = 32 * k + i from ep_ix (by omega), show eh_ix (nI (32 * e + i)) = 32 * e + i from ep_ix (by omega), ep_rM _ _ 183 (by decide), ep_rM _ _ 159 (by decide)]
        by_cases y : m.1 183 (32 * k + i) = m.1 159 (32 * e + i)
        · rw [if_pos y]
          simp only [ep_V, nI_1, y, decide_true]
          rfl
        · rw [if_neg y]
          simp only [ep_V, nI_1, y, decide_false]
          rfl
  · intro x hp
    refine ⟨fun _ => some (ep_bi x), by rw [hp], fun _ rec => ?_⟩
    show (if nI 32 < 32 then _ else some (ep_bi x)) = _
    rw [if_neg (by decide)]
/-- both compare alike -/
theorem ep_ceq_meq {N : Nat} {c : ep_C} {m : ep_M} (hR : ep_R N c m) {e k : Nat} (he : e < 6) (hk : k < 8) : ep_ceq c (c.2.1 9 e) k = ep_meq m e k 32 := by
  obtain ⟨-, -, h3, n, -, -, -, -, h8, h9⟩ := hR.2.2.2.2.2.2.2.2.2.2.2.2.2.2.2.2.2.2.2.2.2.2.2.2.1
  have hme := hR.2.2.2.2.2.2.2.2.2.2.2.2.2.2.2.2.2.2.1 e he
  unfold ep_ceq ep_meq
  rw [Bool.eq_iff_iff, ep_all_iff, ep_all_iff]
  constructor
  · intro g j hj
    have g1 := g (j / 4) (by omega)
    rw [decide_eq_true_eq, h3 _ (by omega), hme _ (by omega)] at g1
    have g2 := ep_bw_inj g1 (i := j % 4) (by omega)
    rw [show 4 * (8 * k + j / 4) + j % 4 = 32 * k + j by omega, show 32 * e + 0 + 4 * (j / 4) + j % 4 = 32 * e + j by omega] at g2
    rw [decide_eq_true_eq, ← h8, ← h9]
    refine ep_nb_inj ?_
    rw [ep_nb255, ep_nb255]; exact g2
  · intro g j hj
    rw [decide_eq_true_eq, h3 _ (by omega), hme _ hj]
    refine ep_bw_255 fun i hi => ?_
    have g1 := g (4 * j + i) (by omega)
    rw [decide_eq_true_eq] at g1
    rw [show 4 * (8 * k + j) + i = 32 * k + (4 * j + i) by omega, g1, show 32 * e + (4 * j + i) = 32 * e + 0 + 4 * j + i by omega]
/-- where a measurement is counted -/
def ep_fst (b : Nat → Bool) : Nat → Nat → Int32
  | _, 0 => -1
  | i, n + 1 => if b i = true then nI i else ep_fst b (i + 1) n
theorem ep_ccl {c : ep_C} {p n : Nat} (hn : n ≤ 8) (hc : c.1 1 12 = nI n) (f : Nat → Int32) (hrd : ∀ m0, (ep_mk c m0).1 p = f) (m0 : ep_M) : ((∀ k, k < n → ep_ceq c f k = false) ∧ eh_loop (fun (r10 : (Int32) → Option ((Unit) ⊕ (Int32))) (t1 : Int32) => if t1 < ((ep_mk c m0).1 1 12) then (if t1 < 8 then (Option.bind (eF_5_isCounted (ep_mk c m0) t1 p 8) (fun q13 => if q13 = 0 then (eh_V ((t1 + 1) : Int32) (fun x15 => r10 x15)) else (some (.inr t1)))) else (some (.inl ()))) else (some (.inl ()))) eh_FU 0 = some (.inl ())) ∨ ∃ k, k < n ∧ ep_ceq c f k = true ∧ eh_loop (fun (r10 : (Int32) → Option ((Unit) ⊕ (Int32))) (t1 : Int32) => if t1 < ((ep_mk c m0).1 1 12) then (if t1 < 8 then (Option.bind (eF_5_isCounted (ep_mk c m0) t1 p 8) (fun q13 => if q13 = 0 then (eh_V ((t1 + 1) : Int32) (fun x15 => r10 x15)) else (some (.inr t1)))) else (some (.inl ()))) else (some (.inl ()))) eh_FU 0 = some (.inr (nI k)) := by
  have hc' : (ep_mk c m0).1 1 12 = nI n := by rw [ep_rC1 _ _ _ (by decide), hc]
  rw [hc']
  have key := ep_lpf0 (body := fun (r10 : (Int32) → Option ((Unit) ⊕ (Int32))) (t1 : Int32) => if t1 < nI n then (if t1 < 8 then (Option.bind (eF_5_isCounted (ep_mk c m0) t1 p 8) (fun q13 => if q13 = 0 then (eh_V ((t1 + 1) : Int32) (fun x15 => r10 x15)) else (some (.inr t1)))) else (some (.inl ()))) else (some (.inl ()))) (fun i => nI i) n (fun k => !ep_ceq c f k) (fun k => .inr (nI k)) (.inl ()) ?_ ?_ ?_ n 0 eh_FU (by omega) (ep_FU n (by omega)) (fun j hj => absurd hj (Nat.not_lt_zero j))
  · rcases key with ⟨g1, g2⟩ | ⟨j, g1, g2, g3, g4⟩
    · exact Or.inl ⟨fun k hk => by simpa using g1 k hk, g2⟩
    · exact Or.inr ⟨j, g1, by simpa using g2, g4⟩
  · intro i hi hb rec
    have hb' : ep_ceq c f i = false := by simpa using hb
    show (if nI i < nI n then _ else _) = _
    rw [if_pos (nI_lt hi (by omega)), if_pos (show nI i < 8 from nI_lt (b := 8) (by omega) (by decide)), ep_cisc (by omega) f hrd, ep_sb, hb', if_pos ep_bf, ep_V, nI_1]
  · intro i hi hb rec
    have hb' : ep_ceq c f i = true := by simpa using hb
    show (if nI i < nI n then _ else _) = _
    rw [if_pos (nI_lt hi (by omega)), if_pos (show nI i < 8 from nI_lt (b := 8) (by omega) (by decide)), ep_cisc (by omega) f hrd, ep_sb, hb', if_neg ep_bt]
  · intro rec
    show (if nI n < nI n then _ else _) = _
    rw [if_neg (nI_nlt (Nat.le_refl _) (by omega))]
def ep_lst (b : Nat → Bool) : Nat → Int32
  | 0 => -1
  | n + 1 => if b n = true then nI n else ep_lst b n
theorem ep_mcl (m : ep_M) {e n : Nat} (he : e < 6) (hn : n ≤ 8) (hc : m.1 127 70 = nI n) (c0 : ep_C) : eh_loop (fun (r21 : (Int32 × Int32) → Option (Int32)) (t1 : Int32 × Int32) => if t1.2 < ((ep_mk c0 m).1 127 70) then (Option.bind (eh_loop (fun (r30 : (Int32 × Int32) → Option (Int32)) (t23 : Int32 × Int32) => if t23.2 < 32 then (if t23.1 = 0 then (some t23.1) else (if eh_in ((32 * t1.2) + t23.2) 256 then if eh_in ((32 * nI e) + t23.2) 192 then eh_J (fun (a34 : Int32) => eh_V ((t23.2 + 1) : Int32) (fun x35 => r30 (a34, x35))) (fun j33 => if ((ep_mk c0 m).1 183 (eh_ix ((32 * t1.2) + t23.2))) = ((ep_mk c0 m).1 159 (eh_ix ((32 * nI e) + t23.2))) then (j33 1) else (j33 0)) else none else none)) else (some t23.1)) eh_FU (1, 0)) (fun (e24 : Int32) => eh_J (fun (a26 : Int32) => eh_V ((t1.2 + 1) : Int32) (fun x27 => r21 (a26, x27))) (fun j25 => if e24 = 0 then (j25 t1.1) else (j25 t1.2)))) else (some t1.1)) eh_FU ((-1), 0) = some (ep_lst (fun k => ep_meq m e k 32) n) := by
  have hc' : (ep_mk c0 m).1 127 70 = nI n := by rw [ep_rM _ _ _ (by decide), hc]
  have e32 : (32 : Int32) * nI e = nI (32 * e) := ep_mul (b := 32) rfl rfl
  rw [hc', e32]
  refine ep_loop (fun i => (ep_lst (fun k => ep_meq m e k 32) i, nI i)) n _ (ep_FU _ (by omega)) ?_ ?_ rfl
  · intro i hi rec
    have e32i : (32 : Int32) * nI i = nI (32 * i) := ep_mul (b := 32) rfl rfl
    show (if nI i < nI n then _ else _) = _
    rw [if_pos (nI_lt hi (by omega))]
    show Option.bind (eh_loop (fun (r30 : (Int32 × Int32) → Option (Int32)) (t23 : Int32 × Int32) => if t23.2 < 32 then (if t23.1 = 0 then (some t23.1) else (if eh_in ((32 * nI i) + t23.2) 256 then if eh_in (nI (32 * e) + t23.2) 192 then eh_J (fun (a34 : Int32) => eh_V ((t23.2 + 1) : Int32) (fun x35 => r30 (a34, x35))) (fun j33 => if ((ep_mk c0 m).1 183 (eh_ix ((32 * nI i) + t23.2))) = ((ep_mk c0 m).1 159 (eh_ix (nI (32 * e) + t23.2))) then (j33 1) else (j33 0)) else none else none)) else (some t23.1)) eh_FU (1, 0)) _ = _
    rw [e32i]
    refine ep_bnd (ep_mcmpc m he (show i < 8 by omega) c0) ?_
    rw [ep_J]
    show _ = rec (if ep_meq m e i 32 = true then nI i else ep_lst (fun k => ep_meq m e k 32) i, nI (i + 1))
    cases ep_meq m e i 32 with
    | false =>
      rw [if_pos ep_bf]
      simp only [ep_V, nI_1]
      rfl
    | true =>
      rw [if_neg ep_bt]
      simp only [ep_V, nI_1]
      rfl
  · intro rec
    show (if nI n < nI n then _ else _) = _
    rw [if_neg (nI_nlt (Nat.le_refl _) (by omega))]
theorem ep_lst_no {b : Nat → Bool} : ∀ n, (∀ k, k < n → b k = false) → ep_lst b n = -1
  | 0, _ => rfl
  | n + 1, h => by
    unfold ep_lst
    rw [h n (by omega)]
    exact ep_lst_no n fun k hk => h k (by omega)
theorem ep_lst_one {b : Nat → Bool} {k : Nat} : ∀ n, k < n → b k = true → (∀ j, j < n → b j = true → j = k) → ep_lst b n = nI k
  | n + 1, hk, hb, hu => by
    unfold ep_lst
    by_cases y : b n = true
    · rw [if_pos y, hu n (by omega) y]
    · rw [if_neg y]
      have : k ≠ n := fun z => y (by rw [← z]; exact hb)
      exact ep_lst_one n (by omega) hb fun j hj => hu j (by omega)
theorem ep_m5 {v : Nat} (h : v < 2 ^ 30) : ¬ nI v = -5 := by
  intro z
  have := nI_toInt (n := v) (by omega)
  rw [z] at this
  have h1 : (-5 : Int32).toInt = -5 := by decide
  omega
theorem ep_count_ {N : Nat} {c : ep_C} {m : ep_M} (hR : ep_R N c m) (hN : N + 2 < 2 ^ 28) {h t e : Nat} (ho : ep_On m h t e) : ep_Tc (N + 2) h t e c m (fun s => eF_3_countOne s (eh_fp (nI t))) (fun s => eF_12_count s (nI h) (nI e)) := by
  have ht := ho.2.1
  have he := ho.2.2.1
  have hto := ho.2.2.2.2.1
  have i6 : eh_in (nI e) 6 = true := ep_in he (by decide)
  have f3 : ∀ m0, (ep_mk c m0).1 (eh_fp (nI t)) 3 = nI e := fun m0 => by rw [ep_rF0 _ _ ht, (hR.2.2.2.2.2.2.2.2.2.2.1 t ht).2.2.1, hto]
  have hrd : ∀ m0, (ep_mk c m0).1 (eh_ep (nI e) + 5) = c.2.1 9 e := fun m0 => ep_rE _ _ 5 he (by decide)
  have hRm := ep_R_mono hR (show N ≤ N + 1 by omega)
  have hcn := hR.2.2.2.2.2.2.2.2.2.2.2.2.2.2.2.2.2.2.2.2.2.2.2.2.1
  obtain ⟨k1, k2, k3, n, k4, k5, k6, k7, k8, k9⟩ := hcn
  have hcq : ∀ k, k < n → ep_ceq c (c.2.1 9 e) k = ep_meq m e k 32 := fun k hk => ep_ceq_meq hR he (by omega)
  have e32 : (32 : Int32) * nI e = nI (32 * e) := ep_mul (b := 32) rfl rfl
  have row : ∀ k, ep_ceq c (c.2.1 9 e) k = true → ∀ j, j < 8 → c.1 39 (8 * k + j) = c.2.1 9 e j := fun k hk j hj => by simpa using ep_all_iff.mp hk j hj
  have z12 : ∀ m0, (ep_mk c m0).1 1 12 = nI n := fun m0 => by rw [ep_rC1 _ _ _ (by decide), k2, k5]
  have one : (∀ k, k < n → ep_ceq c (c.2.1 9 e) k = false) ∨ ∃ k, k < n ∧ ep_ceq c (c.2.1 9 e) k = true := by
    by_cases y : ∃ k, k < n ∧ ep_ceq c (c.2.1 9 e) k = true
    · exact Or.inr y
    · exact Or.inl fun k hk => by
        cases z : ep_ceq c (c.2.1 9 e) k with
        | false => rfl
        | true => exact absurd ⟨k, hk, z⟩ y
  rcases one with hno | ⟨k, hk, hyes⟩
  · have cl : ∀ m0, eh_loop (fun (r10 : (Int32) → Option ((Unit) ⊕ (Int32))) (t1 : Int32) => if t1 < ((ep_mk c m0).1 1 12) then (if t1 < 8 then (Option.bind (eF_5_isCounted (ep_mk c m0) t1 (eh_ep (nI e) + 5) 8) (fun q13 => if q13 = 0 then (eh_V ((t1 + 1) : Int32) (fun x15 => r10 x15)) else (some (.inr t1)))) else (some (.inl ()))) else (some (.inl ()))) eh_FU 0 = some (.inl ()) := fun m0 => by
      rcases ep_ccl k4 (k2.trans k5) _ hrd m0 with ⟨-, g⟩ | ⟨k, g1, g2, -⟩
      · exact g
      · rw [hno k g1] at g2; exact absurd g2 (by decide)
    have ml := fun c0 => ep_mcl m he k4 k5 c0
    rw [ep_lst_no n (fun k hk => by rw [← hcq k hk]; exact hno k hk)] at ml
    by_cases h8 : n = 8
    · refine ep_Tc_mono (ep_Tc_no hR ho (ep_L_rf m) (-5) (fun m0 => ?_) (fun c0 => ?_)) (by omega)
      · show eF_3_countOne (ep_mk c m0) _ = _
        have hcu : eF_5_countUp (ep_mk c m0) (eh_ep (nI e) + 5) 8 = some (-5, ep_mk c m0) := by
          unfold eF_5_countUp
          refine ep_bnd (cl m0) ?_
          rw [Sum.elim_inl, z12, h8, if_neg (by decide)]
        unfold eF_3_countOne
        rw [f3, if_pos i6, hcu, ep_sb, ep_J, if_pos rfl]
      · show eF_12_count (ep_mk c0 m) _ _ = _
        unfold eF_12_count
        refine ep_bnd (ml c0) ?_
        rw [ep_J, if_pos rfl, ep_rM _ _ 127 (by decide), k5, h8, if_pos (show nI 8 = 8 from rfl)]
    · obtain ⟨F, hF⟩ : ∃ F : Nat → Int32, F = va_cpy (c.2.1 9 e) (c.1 39) 0 (8 * n) 8 := ⟨_, rfl⟩
      obtain ⟨G, hG⟩ : ∃ G : Nat → Int32, G = ep_in_ (m.1 183) (32 * n) 32 fun j => eh_nb (m.1 159 (32 * e + j)) := ⟨_, rfl⟩
      have Fi : ∀ i, F i = if 8 * n ≤ i ∧ i < 8 * n + 8 then c.2.1 9 e (i - 8 * n) else c.1 39 i := fun i => by rw [hF, ep_cpy8]
      have hme := hR.2.2.2.2.2.2.2.2.2.2.2.2.2.2.2.2.2.2.1 e he
      have R1 : ep_R (N + 1) (ep_cI (ep_cI (ep_cL c 39 F) 40 n 1) 1 12 (nI (n + 1))) (ep_mI (ep_mL (ep_mI (ep_mI m 127 70 (nI (n + 1))) 184 n 0) 183 G) 184 n 1) := by
        refine ⟨hRm.1, hRm.2.1, hRm.2.2.1, hRm.2.2.2.1, hRm.2.2.2.2.1, hRm.2.2.2.2.2.1, hRm.2.2.2.2.2.2.1, hRm.2.2.2.2.2.2.2.1, hRm.2.2.2.2.2.2.2.2.1, hRm.2.2.2.2.2.2.2.2.2.1, hRm.2.2.2.2.2.2.2.2.2.2.1, hRm.2.2.2.2.2.2.2.2.2.2.2.1, hRm.2.2.2.2.2.2.2.2.2.2.2.2.1, hRm.2.2.2.2.2.2.2.2.2.2.2.2.2.1, hRm.2.2.2.2.2.2.2.2.2.2.2.2.2.2.1, hRm.2.2.2.2.2.2.2.2.2.2.2.2.2.2.2.1, hRm.2.2.2.2.2.2.2.2.2.2.2.2.2.2.2.2.1, hRm.2.2.2.2.2.2.2.2.2.2.2.2.2.2.2.2.2.1, hRm.2.2.2.2.2.2.2.2.2.2.2.2.2.2.2.2.2.2.1, hRm.2.2.2.2.2.2.2.2.2.2.2.2.2.2.2.2.2.2.2.1, hRm.2.2.2.2.2.2.2.2.2.2.2.2.2.2.2.2.2.2.2.2.1, hRm.2.2.2.2.2.2.2.2.2.2.2.2.2.2.2.2.2.2.2.2.2.1, hRm.2.2.2.2.2.2.2.2.2.2.2.2.2.2.2.2.2.2.2.2.2.2.1, hRm.2.2.2.2.2.2.2.2.2.2.2.2.2.2.2.2.2.2.2.2.2.2.2.1, ?_, hRm.2.2.2.2.2.2.2.2.2.2.2.2.2.2.2.2.2.2.2.2.2.2.2.2.2.1, hRm.2.2.2.2.2.2.2.2.2.2.2.2.2.2.2.2.2.2.2.2.2.2.2.2.2.2.1, hRm.2.2.2.2.2.2.2.2.2.2.2.2.2.2.2.2.2.2.2.2.2.2.2.2.2.2.2.1, hRm.2.2.2.2.2.2.2.2.2.2.2.2.2.2.2.2.2.2.2.2.2.2.2.2.2.2.2.2.1, hRm.2.2.2.2.2.2.2.2.2.2.2.2.2.2.2.2.2.2.2.2.2.2.2.2.2.2.2.2.2.1, hRm.2.2.2.2.2.2.2.2.2.2.2.2.2.2.2.2.2.2.2.2.2.2.2.2.2.2.2.2.2.2.1, hRm.2.2.2.2.2.2.2.2.2.2.2.2.2.2.2.2.2.2.2.2.2.2.2.2.2.2.2.2.2.2.2.1, hRm.2.2.2.2.2.2.2.2.2.2.2.2.2.2.2.2.2.2.2.2.2.2.2.2.2.2.2.2.2.2.2.2.1, hRm.2.2.2.2.2.2.2.2.2.2.2.2.2.2.2.2.2.2.2.2.2.2.2.2.2.2.2.2.2.2.2.2.2⟩
        refine ⟨?_, rfl, fun i hi => ?_, n + 1, by omega, rfl, fun i hi => ?_, fun i i' hi hi' hr => ?_, fun j => ?_, k9⟩
        · show upd (c.1 40) n 1 = upd (upd (m.1 184) n 0) n 1
          rw [ep_upd_upd, k1]
        · show F i = ep_bw G (4 * i)
          rw [Fi]
          by_cases y : 8 * n ≤ i ∧ i < 8 * n + 8
          · rw [if_pos y, hme (i - 8 * n) (by omega)]
            refine ep_bw_255 fun r hr => ?_
            rw [hG]
            unfold ep_in_
            rw [if_pos (by omega), ep_nb255, show 32 * e + (4 * i + r - 32 * n) = 32 * e + 0 + 4 * (i - 8 * n) + r by omega]
          · rw [if_neg y, k3 i hi]
            refine ep_bwc fun j j1 j2 => ?_
            rw [hG]
            unfold ep_in_
            rw [if_neg (by omega)]
        · show ∃ v, v ≤ N + 1 ∧ upd (upd (m.1 184) n 0) n 1 i = nI v
          rw [ep_upd_upd]
          by_cases y : i = n
          · rw [y, ep_upd_eq]; exact ⟨1, by omega, rfl⟩
          · rw [ep_upd_ne y]
            obtain ⟨v, v1, v2⟩ := k6 i (by omega)
            exact ⟨v, by omega, v2⟩
        · have hr' : ∀ j, j < 8 → F (8 * i + j) = F (8 * i' + j) := hr
          have out : ∀ a j, a < n → j < 8 → F (8 * a + j) = c.1 39 (8 * a + j) := fun a j ha hj => by rw [Fi, if_neg (by omega)]
          have inn : ∀ j, j < 8 → F (8 * n + j) = c.2.1 9 e j := fun j hj => by rw [Fi, if_pos (by omega), Nat.add_sub_cancel_left]
          have bad : ∀ a, a < n → ¬ ∀ j, j < 8 → F (8 * a + j) = F (8 * n + j) := fun a ha z => by
            have : ep_ceq c (c.2.1 9 e) a = true := ep_all_iff.mpr fun j hj => by
              have := z j hj
              rw [out a j ha hj, inn j hj] at this
              simpa using this
            rw [hno a ha] at this
            exact absurd this (by decide)
          by_cases y1 : i = n
          · by_cases y2 : i' = n
            · rw [y1, y2]
            · exact absurd (fun j hj => by have := hr' j hj; rw [y1] at this; exact this.symm) (bad i' (by omega))
          · by_cases y2 : i' = n
            · exact absurd (fun j hj => by have := hr' j hj; rw [y2] at this; exact this) (bad i (by omega))
            · exact k7 i i' (by omega) (by omega) fun j hj => by
                have := hr' j hj
                rw [out i j (by omega) hj, out i' j (by omega) hj] at this
                exact this
        · show eh_nb (G j) = G j
          rw [hG]
          unfold ep_in_
          by_cases y : 32 * n ≤ j ∧ j < 32 * n + 32
          · rw [if_pos y, ep_nb2]
          · rw [if_neg y]; exact k8 j
      have ho1 : ep_On (ep_mI (ep_mL (ep_mI (ep_mI m 127 70 (nI (n + 1))) 184 n 0) 183 G) 184 n 1) h t e := ho
      obtain ⟨c2, m2, n1, n2, n3⟩ := ep_note R1 (by omega) ho1 8 1 0 0
      have hm2 : m2.1 184 n = 1 := by
        obtain ⟨-, ⟨A, B, C, D, z⟩, -⟩ := n3
        rw [z, ep_mw_o _ _ _ _ _ _ (by decide), ep_mI1, ep_upd_eq]
      refine ⟨1, c2, m2, fun m0 => ?_, fun c0 => ?_, n3.2.2, ep_Fm_tr (m1 := ep_mI (ep_mL (ep_mI (ep_mI m 127 70 (nI (n + 1))) 184 n 0) 183 G) 184 n 1) ⟨ho1, fun j hj => by rcases hj with rfl | rfl <;> rfl, rfl⟩ (ep_Fm_W n3 ho1)⟩
      · show eF_3_countOne (ep_mk c m0) _ = _
        have z8 : nI n * 8 = nI (8 * n) := by rw [Int32.mul_comm]; exact ep_mul rfl rfl
        have q4 : eh_cok 0 (nI (8 * n)) 8 8 64 = true := by
          unfold eh_cok
          rw [nI_toInt (show 8 * n < 2 ^ 31 by omega), show (8 : Int32).toInt = 8 by decide, show (0 : Int32).toInt = 0 by decide]
          simp only [Bool.and_eq_true, decide_eq_true_eq]
          omega
        have hcu : eF_5_countUp (ep_mk c m0) (eh_ep (nI e) + 5) 8 = some (1, ep_mk (ep_cI (ep_cI (ep_cL c 39 F) 40 n 1) 1 12 (nI (n + 1))) m0) := by
          unfold eF_5_countUp
          refine ep_bnd (cl m0) ?_
          rw [Sum.elim_inl, z12, if_pos (show nI n < 8 from nI_lt (b := 8) (by omega) (by decide)), z8, if_pos q4, ep_V, hrd, ep_rC1 _ _ 39 (by decide), show eh_ix (nI (8 * n)) = 8 * n from ep_ix (by omega), show eh_ix 0 = 0 from rfl, show eh_ix 8 = 8 from rfl, ← hF, ep_wC1 _ _ _ _ (by decide), ep_rC1 _ _ 1 (by decide), show (ep_cL c 39 F).1 1 12 = nI n from k2.trans k5, if_pos (ep_in (show n < 8 by omega) (by decide)), ep_V, show eh_ix (nI n) = n from ep_ix (by omega), ep_iC1 _ _ _ _ _ (by decide), ep_V, ep_rC1 _ _ 1 (by decide), show (ep_cI (ep_cL c 39 F) 40 n 1).1 1 12 = nI n from k2.trans k5, nI_1, ep_iC1 _ _ _ _ _ (by decide)]
        unfold eF_3_countOne
        rw [f3, if_pos i6, hcu, ep_sb, ep_J, if_neg (show ¬ (1 : Int32) = -5 by decide), n1 m0, ep_sb]
      · show eF_12_count (ep_mk c0 m) _ _ = _
        have e32n : (32 : Int32) * nI n = nI (32 * n) := ep_mul (b := 32) rfl rfl
        have hlp : eh_loop (fun (r16 : (Int32 × eh_F) → Option (eh_F)) (t13 : Int32 × eh_F) => if t13.1 < 32 then (if eh_in ((32 * nI e) + t13.1) 192 then if eh_in ((32 * nI n) + t13.1) 256 then eh_V (eh_tI t13.2 183 (eh_ix ((32 * nI n) + t13.1)) (eh_nb (t13.2.1 159 (eh_ix ((32 * nI e) + t13.1))))) (fun s18 => eh_V ((t13.1 + 1) : Int32) (fun x19 => r16 (x19, s18))) else none else none) else (some t13.2)) eh_FU (0, ep_mk c0 (ep_mI (ep_mI m 127 70 (nI (n + 1))) 184 n 0)) = some (ep_mk c0 (ep_mL (ep_mI (ep_mI m 127 70 (nI (n + 1))) 184 n 0) 183 G)) := by
          rw [e32, e32n]
          refine ep_loop (fun i => (nI i, ep_mk c0 (ep_mL (ep_mI (ep_mI m 127 70 (nI (n + 1))) 184 n 0) 183 (ep_in_ (m.1 183) (32 * n) i fun j => eh_nb (m.1 159 (32 * e + j)))))) 32 _ (ep_FU _ (by decide)) ?_ ?_ ?_
          · intro i hi rec
            show (if nI i < 32 then _ else _) = _
            rw [if_pos (show nI i < 32 from nI_lt (b := 32) hi (by decide)), nI_add, nI_add, if_pos (ep_in (show 32 * e + i < 192 by omega) (by decide)), if_pos (ep_in (show 32 * n + i < 256 by omega) (by decide)), show eh_ix (nI (32 * n + i)) = 32 * n + i from ep_ix (by omega), show eh_ix (nI (32 * e + i)) = 32 * e + i from ep_ix (by omega), ep_V, ep_rM _ _ 159 (by decide), ep_iM _ _ _ _ _ (by decide), ep_mLI, ep_V, nI_1]
            rw [show (ep_mL (ep_mI (ep_mI m 127 70 (nI (n + 1))) 184 n 0) 183 (ep_in_ (m.1 183) (32 * n) i fun j => eh_nb (m.1 159 (32 * e + j)))).1 159 = m.1 159 from rfl, ep_in_s (g := fun j => eh_nb (m.1 159 (32 * e + j)))]
          · intro rec
            show (if nI 32 < 32 then _ else _) = _
            rw [if_neg (by decide), hG]
          · show _ = (nI 0, ep_mk c0 (ep_mL _ 183 (ep_in_ (m.1 183) (32 * n) 0 _)))
            rw [ep_in_0]
            show _ = (nI 0, ep_mk c0 (ep_mL (ep_mI (ep_mI m 127 70 (nI (n + 1))) 184 n 0) 183 ((ep_mI (ep_mI m 127 70 (nI (n + 1))) 184 n 0).1 183)))
            rw [ep_mLid]
            rfl
        have jn : eh_in (nI n) 8 = true := ep_in (by omega) (by decide)
        have xn : eh_ix (nI n) = n := ep_ix (by omega)
        unfold eF_12_count
        refine ep_bnd (ml c0) ?_
        rw [ep_J, if_pos rfl, ep_rM _ _ 127 (by decide), k5, if_neg (show ¬ nI n = 8 from fun z => h8 ((nI_eq (b := 8) (by omega) (by decide)).mp z)), ep_V, ep_V, nI_1, ep_iM _ _ _ _ _ (by decide), if_pos jn, xn, ep_V, ep_iM _ _ _ _ _ (by decide)]
        refine ep_bnd hlp ?_
        dsimp only
        rw [if_pos jn, if_pos jn, ep_V, xn, ep_rM _ _ 184 (by decide), ep_iM _ _ _ _ _ (by decide)]
        have hz : ep_mI (ep_mL (ep_mI (ep_mI m 127 70 (nI (n + 1))) 184 n 0) 183 G) 184 n ((ep_mL (ep_mI (ep_mI m 127 70 (nI (n + 1))) 184 n 0) 183 G).1 184 n + 1) = ep_mI (ep_mL (ep_mI (ep_mI m 127 70 (nI (n + 1))) 184 n 0) 183 G) 184 n 1 := by
          rw [ep_mLn _ _ _ _ (by decide), ep_mI1, ep_upd_eq]; rfl
        rw [hz, if_pos jn, ep_rM _ _ 184 (by decide), ep_mI1, ep_upd_eq, n2 c0, ep_sb, if_pos jn, ep_rM _ _ 184 (by decide), hm2]
  · obtain ⟨v, v1, v2⟩ := k6 k hk
    have huq : ∀ j, j < n → ep_ceq c (c.2.1 9 e) j = true → j = k := fun j hj hj2 => k7 j k hj hk fun i hi => by rw [row j hj2 i hi, row k hyes i hi]
    have cl : ∀ m0, eh_loop (fun (r10 : (Int32) → Option ((Unit) ⊕ (Int32))) (t1 : Int32) => if t1 < ((ep_mk c m0).1 1 12) then (if t1 < 8 then (Option.bind (eF_5_isCounted (ep_mk c m0) t1 (eh_ep (nI e) + 5) 8) (fun q13 => if q13 = 0 then (eh_V ((t1 + 1) : Int32) (fun x15 => r10 x15)) else (some (.inr t1)))) else (some (.inl ()))) else (some (.inl ()))) eh_FU 0 = some (.inr (nI k)) := fun m0 => by
      rcases ep_ccl k4 (k2.trans k5) _ hrd m0 with ⟨g, -⟩ | ⟨j, g1, g2, g3⟩
      · rw [g k hk] at hyes; exact absurd hyes (by decide)
      · rw [huq j g1 g2] at g3; exact g3
    have ml := fun c0 => ep_mcl m he k4 k5 c0
    rw [ep_lst_one n hk (by rw [← hcq k hk]; exact hyes) (fun j hj hb => huq j hj (by rw [hcq j hj]; exact hb))] at ml
    have jk : eh_in (nI k) 8 = true := ep_in (by omega) (by decide)
    have xk : eh_ix (nI k) = k := ep_ix (by omega)
    have R1 : ep_R (N + 1) (ep_cI c 40 k (nI (v + 1))) (ep_mI m 184 k (nI (v + 1))) := by
      refine ⟨hRm.1, hRm.2.1, hRm.2.2.1, hRm.2.2.2.1, hRm.2.2.2.2.1, hRm.2.2.2.2.2.1, hRm.2.2.2.2.2.2.1, hRm.2.2.2.2.2.2.2.1, hRm.2.2.2.2.2.2.2.2.1, hRm.2.2.2.2.2.2.2.2.2.1, hRm.2.2.2.2.2.2.2.2.2.2.1, hRm.2.2.2.2.2.2.2.2.2.2.2.1, hRm.2.2.2.2.2.2.2.2.2.2.2.2.1, hRm.2.2.2.2.2.2.2.2.2.2.2.2.2.1, hRm.2.2.2.2.2.2.2.2.2.2.2.2.2.2.1, hRm.2.2.2.2.2.2.2.2.2.2.2.2.2.2.2.1, hRm.2.2.2.2.2.2.2.2.2.2.2.2.2.2.2.2.1, hRm.2.2.2.2.2.2.2.2.2.2.2.2.2.2.2.2.2.1, hRm.2.2.2.2.2.2.2.2.2.2.2.2.2.2.2.2.2.2.1, hRm.2.2.2.2.2.2.2.2.2.2.2.2.2.2.2.2.2.2.2.1, hRm.2.2.2.2.2.2.2.2.2.2.2.2.2.2.2.2.2.2.2.2.1, hRm.2.2.2.2.2.2.2.2.2.2.2.2.2.2.2.2.2.2.2.2.2.1, hRm.2.2.2.2.2.2.2.2.2.2.2.2.2.2.2.2.2.2.2.2.2.2.1, hRm.2.2.2.2.2.2.2.2.2.2.2.2.2.2.2.2.2.2.2.2.2.2.2.1, ?_, hRm.2.2.2.2.2.2.2.2.2.2.2.2.2.2.2.2.2.2.2.2.2.2.2.2.2.1, hRm.2.2.2.2.2.2.2.2.2.2.2.2.2.2.2.2.2.2.2.2.2.2.2.2.2.2.1, hRm.2.2.2.2.2.2.2.2.2.2.2.2.2.2.2.2.2.2.2.2.2.2.2.2.2.2.2.1, hRm.2.2.2.2.2.2.2.2.2.2.2.2.2.2.2.2.2.2.2.2.2.2.2.2.2.2.2.2.1, hRm.2.2.2.2.2.2.2.2.2.2.2.2.2.2.2.2.2.2.2.2.2.2.2.2.2.2.2.2.2.1, hRm.2.2.2.2.2.2.2.2.2.2.2.2.2.2.2.2.2.2.2.2.2.2.2.2.2.2.2.2.2.2.1, hRm.2.2.2.2.2.2.2.2.2.2.2.2.2.2.2.2.2.2.2.2.2.2.2.2.2.2.2.2.2.2.2.1, hRm.2.2.2.2.2.2.2.2.2.2.2.2.2.2.2.2.2.2.2.2.2.2.2.2.2.2.2.2.2.2.2.2.1, hRm.2.2.2.2.2.2.2.2.2.2.2.2.2.2.2.2.2.2.2.2.2.2.2.2.2.2.2.2.2.2.2.2.2⟩
      refine ⟨?_, k2, k3, n, k4, k5, fun i hi => ?_, k7, k8, k9⟩
      · show upd (c.1 40) k _ = upd (m.1 184) k _
        rw [k1]
      · show ∃ v', v' ≤ N + 1 ∧ upd (m.1 184) k (nI (v + 1)) i = nI v'
        by_cases y : i = k
        · rw [y, ep_upd_eq]; exact ⟨v + 1, by omega, rfl⟩
        · rw [ep_upd_ne y]
          obtain ⟨w, w1, w2⟩ := k6 i hi
          exact ⟨w, by omega, w2⟩
    have ho1 : ep_On (ep_mI m 184 k (nI (v + 1))) h t e := ho
    obtain ⟨c2, m2, n1, n2, n3⟩ := ep_note R1 (by omega) ho1 8 (nI (v + 1)) 0 0
    have hm2 : m2.1 184 k = nI (v + 1) := by
      obtain ⟨-, ⟨A, B, C, D, z⟩, -⟩ := n3
      rw [z, ep_mw_o _ _ _ _ _ _ (by decide), ep_mI1, ep_upd_eq]
    refine ⟨nI (v + 1), c2, m2, fun m0 => ?_, fun c0 => ?_, n3.2.2, ep_Fm_tr (m1 := ep_mI m 184 k (nI (v + 1))) ⟨ho1, fun j hj => rfl, rfl⟩ (ep_Fm_W n3 ho1)⟩
    · show eF_3_countOne (ep_mk c m0) _ = _
      have hcu : eF_5_countUp (ep_mk c m0) (eh_ep (nI e) + 5) 8 = some (nI (v + 1), ep_mk (ep_cI c 40 k (nI (v + 1))) m0) := by
        unfold eF_5_countUp
        refine ep_bnd (cl m0) ?_
        rw [Sum.elim_inr, if_pos jk, if_pos jk, xk, ep_V, ep_rC1 _ _ 40 (by decide), k1, v2, nI_1, ep_iC1 _ _ _ _ _ (by decide), if_pos jk, ep_rC1 _ _ 40 (by decide), ep_cI1, ep_upd_eq]
      unfold eF_3_countOne
      rw [f3, if_pos i6, hcu, ep_sb, ep_J, if_neg (ep_m5 (by omega)), n1 m0, ep_sb]
    · show eF_12_count (ep_mk c0 m) _ _ = _
      unfold eF_12_count
      refine ep_bnd (ml c0) ?_
      rw [ep_J, if_neg (ep_nI_ne_m1 (by omega))]
      dsimp only
      rw [if_pos jk, if_pos jk, ep_V, xk, ep_rM _ _ 184 (by decide), v2, nI_1, ep_iM _ _ _ _ _ (by decide), if_pos jk, ep_rM _ _ 184 (by decide), ep_mI1, ep_upd_eq, n2 c0, ep_sb, if_pos jk, ep_rM _ _ 184 (by decide), hm2]
