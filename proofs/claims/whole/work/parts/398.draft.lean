/-! counters of measurements -/
def ep_ceq (c : ep_C) (f : Nat → Int32) (k : Nat) : Bool := ep_all (fun j => decide (c.1 39 (8 * k + j) = f j)) 8
theorem ep_cisc {c : ep_C} {k p : Nat} (hk : k < 8) (f : Nat → Int32) (hrd : ∀ m0, (ep_mk c m0).1 p = f) (m0 : ep_M) : eF_5_isCounted (ep_mk c m0) (nI k) p 8 = some (ep_bi (ep_ceq c f k)) := by
  unfold eF_5_isCounted
  have z8 : nI k * 8 = nI (8 * k) := by rw [Int32.mul_comm]; exact ep_mul rfl rfl
  rw [z8]
  refine ep_lpf (fun i => nI i) 8 (fun j => decide (c.1 39 (8 * k + j) = f j)) (fun _ => .inr ()) (.inl ()) (by decide) rfl ?_ ?_ ?_ ?_ ?_
  · intro i hi hb rec
    show (if nI i < 8 then _ else _) = _
    rw [if_pos (show nI i < 8 from nI_lt (b := 8) hi (by decide)), nI_add, if_pos (ep_in (show 8 * k + i < 64 by omega) (by decide)), if_pos (ep_in hi (by decide)), show eh_ix (nI i) = i from ep_ix (by omega), show eh_ix (nI (8 * k + i)) = 8 * k + i from ep_ix (by omega), ep_rC1 _ _ 39 (by decide), hrd, if_pos (by simpa using hb), ep_V, nI_1]
  · intro i hi hb rec
    show (if nI i < 8 then _ else _) = _
    rw [if_pos (show nI i < 8 from nI_lt (b := 8) hi (by decide)), nI_add, if_pos (ep_in (show 8 * k + i < 64 by omega) (by decide)), if_pos (ep_in hi (by decide)), show eh_ix (nI i) = i from ep_ix (by omega), show eh_ix (nI (8 * k + i)) = 8 * k + i from ep_ix (by omega), ep_rC1 _ _ 39 (by decide), hrd, if_neg (by simpa using hb)]
  · intro rec
    show (if nI 8 < 8 then _ else _) = _
    rw [if_neg (by decide)]
  · intro g
    rw [show ep_ceq c f k = true from ep_all_iff.mpr g]; rfl
  · intro j hj hb _
    have : ep_ceq c f k = false := by
      rw [Bool.eq_false_iff]
      intro z
      have := ep_all_iff.mp z j hj
      rw [hb] at this
      exact absurd this (by decide)
    rw [this]; rfl
def ep_meq (m : ep_M) (e k n : Nat) : Bool := ep_all (fun j => decide (m.1 183 (32 * k + j) = m.1 159 (32 * e + j))) n
theorem ep_mcmpc (m : ep_M) {e k : Nat} (he : e < 6) (hk : k < 8) (c0 : ep_C) : eh_loop (fun (r30 : (Int32 × Int32) → Option (Int32)) (t23 : Int32 × Int32) => if t23.2 < 32 then (if t23.1 = 0 then (some t23.1) else (if eh_in (nI (32 * k) + t23.2) 256 then if eh_in (nI (32 * e) + t23.2) 192 then eh_J (fun (a34 : Int32) => eh_V ((t23.2 + 1) : Int32) (fun x35 => r30 (a34, x35))) (fun j33 => if ((ep_mk c0 m).1 183 (eh_ix (nI (32 * k) + t23.2))) = ((ep_mk c0 m).1 159 (eh_ix (nI (32 * e) + t23.2))) then (j33 1) else (j33 0)) else none else none)) else (some t23.1)) eh_FU (1, 0) = some (ep_bi (ep_meq m e k 32)) := by
  have key := ep_minv0 (A := Unit) (X := Bool) (body := fun _ (r30 : (Int32 × Int32) → Option (Int32)) (t23 : Int32 × Int32) => if t23.2 < 32 then (if t23.1 = 0 then (some t23.1) else (if eh_in (nI (32 * k) + t23.2) 256 then if eh_in (nI (32 * e) + t23.2) 192 then eh_J (fun (a34 : Int32) => eh_V ((t23.2 + 1) : Int32) (fun x35 => r30 (a34, x35))) (fun j33 => if ((ep_mk c0 m).1 183 (eh_ix (nI (32 * k) + t23.2))) = ((ep_mk c0 m).1 159 (eh_ix (nI (32 * e) + t23.2))) then (j33 1) else (j33 0)) else none else none)) else (some t23.1)) (fun _ i x => (ep_bi x, nI i)) (fun G => G () = some (ep_bi (ep_meq m e k 32))) (fun i x => x = ep_meq m e k i) 32 (by decide) ?_ ?_ true rfl
  · obtain ⟨G, g1, g2⟩ := key
    exact (g2 ()).trans g1
  · intro i x hi hp
    cases x with
    | false =>
      right
      have hf : ep_meq m e k 32 = false := by
        rw [Bool.eq_false_iff]
        intro z
        have : ep_meq m e k i = true := ep_all_iff.mpr fun j hj => ep_all_iff.mp z j (by omega)
        rw [← hp] at this
        exact absurd this (by decide)
      refine ⟨fun _ => some (ep_bi false), by rw [hf], fun _ rec => ?_⟩
      show (if nI i < 32 then (if ep_bi false = 0 then some (ep_bi false) else _) else _) = _
      rw [if_pos (show nI i < 32 from nI_lt (b := 32) hi (by decide)), if_pos ep_bf]
    | true =>
      left
      refine ⟨decide (m.1 183 (32 * k + i) = m.1 159 (32 * e + i)), ?_, fun _ rec => ?_⟩
      · show _ = (ep_meq m e k i && decide (m.1 183 (32 * k + i) = m.1 159 (32 * e + i)))
        rw [← hp, Bool.true_and]
      · show (if nI i < 32 then (if ep_bi true = 0 then _ else _) else _) = _
        rw [if_pos (show nI i < 32 from nI_lt (b := 32) hi (by decide)), if_neg ep_bt, nI_add, nI_add, if_pos (ep_in (show 32 * k + i < 256 by omega) (by decide)), if_pos (ep_in (show 32 * e + i < 192 by omega) (by decide)), ep_J, show eh_ix (nI (32 * k + i)) = 32 * k + i from ep_ix (by omega), show eh_ix (nI (32 * e + i)) = 32 * e + i from ep_ix (by omega), ep_rM _ _ 183 (by decide), ep_rM _ _ 159 (by decide)]
        by_cases y : m.1 183 (32 * k + i) = m.1 159 (32 * e + i)
        · rw [if_pos y]
          simp only [ep_V, nI_1, y, decide_true]
          rfl
        · rw [if_neg y]
          simp only [ep_V, nI_1, y, decide_false]
          rfl
  · intro x hp
    refine ⟨fun _ => some (ep_bi x), by rw [hp], fun _ rec => ?_⟩
    show (if nI 32 < 32 then _ else some (ep_bi x)) = _
    rw [if_neg (by decide)]
/-- both compare alike -/
theorem ep_ceq_meq {N : Nat} {c : ep_C} {m : ep_M} (hR : ep_R N c m) {e k : Nat} (he : e < 6) (hk : k < 8) : ep_ceq c (c.2.1 9 e) k = ep_meq m e k 32 := by
  obtain ⟨-, -, h3, n, -, -, -, -, h8, h9⟩ := hR.2.2.2.2.2.2.2.2.2.2.2.2.2.2.2.2.2.2.2.2.2.2.2.2.1
  have hme := hR.2.2.2.2.2.2.2.2.2.2.2.2.2.2.2.2.2.2.1 e he
  unfold ep_ceq ep_meq
  rw [Bool.eq_iff_iff, ep_all_iff, ep_all_iff]
  constructor
  · intro g j hj
    have g1 := g (j / 4) (by omega)
    rw [decide_eq_true_eq, h3 _ (by omega), hme _ (by omega)] at g1
    have g2 := ep_bw_inj g1 (i := j % 4) (by omega)
    rw [show 4 * (8 * k + j / 4) + j % 4 = 32 * k + j by omega, show 32 * e + 0 + 4 * (j / 4) + j % 4 = 32 * e + j by omega] at g2
    rw [decide_eq_true_eq, ← h8, ← h9]
    refine ep_nb_inj ?_
    rw [ep_nb255, ep_nb255]; exact g2
  · intro g j hj
    rw [decide_eq_true_eq, h3 _ (by omega), hme _ hj]
    refine ep_bw_255 fun i hi => ?_
    have g1 := g (4 * j + i) (by omega)
    rw [decide_eq_true_eq] at g1
    rw [show 4 * (8 * k + j) + i = 32 * k + (4 * j + i) by omega, g1, show 32 * e + (4 * j + i) = 32 * e + 0 + 4 * j + i by omega]
/-- where a measurement is counted -/
def ep_fst (b : Nat → Bool) : Nat → Nat → Int32
  | _, 0 => -1
  | i, n + 1 => if b i = true then nI i else ep_fst b (i + 1) n
theorem ep_ccl {c : ep_C} {p n : Nat} (hn : n ≤ 8) (hc : c.1 1 12 = nI n) (f : Nat → Int32) (hrd : ∀ m0, (ep_mk c m0).1 p = f) (m0 : ep_M) : ((∀ k, k < n → ep_ceq c f k = false) ∧ eh_loop (fun (r10 : (Int32) → Option ((Unit) ⊕ (Int32))) (t1 : Int32) => if t1 < ((ep_mk c m0).1 1 12) then (if t1 < 8 then (Option.bind (eF_5_isCounted (ep_mk c m0) t1 p 8) (fun q13 => if q13 = 0 then (eh_V ((t1 + 1) : Int32) (fun x15 => r10 x15)) else (some (.inr t1)))) else (some (.inl ()))) else (some (.inl ()))) eh_FU 0 = some (.inl ())) ∨ ∃ k, k < n ∧ ep_ceq c f k = true ∧ eh_loop (fun (r10 : (Int32) → Option ((Unit) ⊕ (Int32))) (t1 : Int32) => if t1 < ((ep_mk c m0).1 1 12) then (if t1 < 8 then (Option.bind (eF_5_isCounted (ep_mk c m0) t1 p 8) (fun q13 => if q13 = 0 then (eh_V ((t1 + 1) : Int32) (fun x15 => r10 x15)) else (some (.inr t1)))) else (some (.inl ()))) else (some (.inl ()))) eh_FU 0 = some (.inr (nI k)) := by
  have hc' : (ep_mk c m0).1 1 12 = nI n := by rw [ep_rC1 _ _ _ (by decide), hc]
  rw [hc']
  have key := ep_lpf0 (body := fun (r10 : (Int32) → Option ((Unit) ⊕ (Int32))) (t1 : Int32) => if t1 < nI n then (if t1 < 8 then (Option.bind (eF_5_isCounted (ep_mk c m0) t1 p 8) (fun q13 => if q13 = 0 then (eh_V ((t1 + 1) : Int32) (fun x15 => r10 x15)) else (some (.inr t1)))) else (some (.inl ()))) else (some (.inl ()))) (fun i => nI i) n (fun k => !ep_ceq c f k) (fun k => .inr (nI k)) (.inl ()) ?_ ?_ ?_ n 0 eh_FU (by omega) (ep_FU n (by omega)) (fun j hj => absurd hj (Nat.not_lt_zero j))
  · rcases key with ⟨g1, g2⟩ | ⟨j, g1, g2, g3, g4⟩
    · exact Or.inl ⟨fun k hk => by simpa using g1 k hk, g2⟩
    · exact Or.inr ⟨j, g1, by simpa using g2, g4⟩
  · intro i hi hb rec
    have hb' : ep_ceq c f i = false := by simpa using hb
    show (if nI i < nI n then _ else _) = _
    rw [if_pos (nI_lt hi (by omega)), if_pos (show nI i < 8 from nI_lt (b := 8) (by omega) (by decide)), ep_cisc (by omega) f hrd, ep_sb, hb', if_pos ep_bf, ep_V, nI_1]
  · intro i hi hb rec
    have hb' : ep_ceq c f i = true := by simpa using hb
    show (if nI i < nI n then _ else _) = _
    rw [if_pos (nI_lt hi (by omega)), if_pos (show nI i < 8 from nI_lt (b := 8) (by omega) (by decide)), ep_cisc (by omega) f hrd, ep_sb, hb', if_neg ep_bt]
  · intro rec
    show (if nI n < nI n then _ else _) = _
    rw [if_neg (nI_nlt (Nat.le_refl _) (by omega))]
def ep_lst (b : Nat → Bool) : Nat → Int32
  | 0 => -1
  | n + 1 => if b n = true then nI n else ep_lst b n
theorem ep_mcl (m : ep_M) {e n : Nat} (he : e < 6) (hn : n ≤ 8) (hc : m.1 127 70 = nI n) (c0 : ep_C) : eh_loop (fun (r21 : (Int32 × Int32) → Option (Int32)) (t1 : Int32 × Int32) => if t1.2 < ((ep_mk c0 m).1 127 70) then (Option.bind (eh_loop (fun (r30 : (Int32 × Int32) → Option (Int32)) (t23 : Int32 × Int32) => if t23.2 < 32 then (if t23.1 = 0 then (some t23.1) else (if eh_in ((32 * t1.2) + t23.2) 256 then if eh_in ((32 * nI e) + t23.2) 192 then eh_J (fun (a34 : Int32) => eh_V ((t23.2 + 1) : Int32) (fun x35 => r30 (a34, x35))) (fun j33 => if ((ep_mk c0 m).1 183 (eh_ix ((32 * t1.2) + t23.2))) = ((ep_mk c0 m).1 159 (eh_ix ((32 * nI e) + t23.2))) then (j33 1) else (j33 0)) else none else none)) else (some t23.1)) eh_FU (1, 0)) (fun (e24 : Int32) => eh_J (fun (a26 : Int32) => eh_V ((t1.2 + 1) : Int32) (fun x27 => r21 (a26, x27))) (fun j25 => if e24 = 0 then (j25 t1.1) else (j25 t1.2)))) else (some t1.1)) eh_FU ((-1), 0) = some (ep_lst (fun k => ep_meq m e k 32) n) := by
  have hc' : (ep_mk c0 m).1 127 70 = nI n := by rw [ep_rM _ _ _ (by decide), hc]
  have e32 : (32 : Int32) * nI e = nI (32 * e) := ep_mul (b := 32) rfl rfl
  rw [hc', e32]
  refine ep_loop (fun i => (ep_lst (fun k => ep_meq m e k 32) i, nI i)) n _ (ep_FU _ (by omega)) ?_ ?_ rfl
  · intro i hi rec
    have e32i : (32 : Int32) * nI i = nI (32 * i) := ep_mul (b := 32) rfl rfl
    show (if nI i < nI n then _ else _) = _
    rw [if_pos (nI_lt hi (by omega))]
    show Option.bind (eh_loop (fun (r30 : (Int32 × Int32) → Option (Int32)) (t23 : Int32 × Int32) => if t23.2 < 32 then (if t23.1 = 0 then (some t23.1) else (if eh_in ((32 * nI i) + t23.2) 256 then if eh_in (nI (32 * e) + t23.2) 192 then eh_J (fun (a34 : Int32) => eh_V ((t23.2 + 1) : Int32) (fun x35 => r30 (a34, x35))) (fun j33 => if ((ep_mk c0 m).1 183 (eh_ix ((32 * nI i) + t23.2))) = ((ep_mk c0 m).1 159 (eh_ix (nI (32 * e) + t23.2))) then (j33 1) else (j33 0)) else none else none)) else (some t23.1)) eh_FU (1, 0)) _ = _
    rw [e32i]
    refine ep_bnd (ep_mcmpc m he (show i < 8 by omega) c0) ?_
    rw [ep_J]
    show _ = rec (if ep_meq m e i 32 = true then nI i else ep_lst (fun k => ep_meq m e k 32) i, nI (i + 1))
    cases ep_meq m e i 32 with
    | false =>
      rw [if_pos ep_bf]
      simp only [ep_V, nI_1]
      rfl
    | true =>
      rw [if_neg ep_bt]
      simp only [ep_V, nI_1]
      rfl
  · intro rec
    show (if nI n < nI n then _ else _) = _
    rw [if_neg (nI_nlt (Nat.le_refl _) (by omega))]
theorem ep_lst_no {b : Nat → Bool} : ∀ n, (∀ k, k < n → b k = false) → ep_lst b n = -1
  | 0, _ => rfl
  | n + 1, h => by
    unfold ep_lst
    rw [h n (by omega)]
    exact ep_lst_no n fun k hk => h k (by omega)
theorem ep_lst_one {b : Nat → Bool} {k : Nat} : ∀ n, k < n → b k = true → (∀ j, j < n → b j = true → j = k) → ep_lst b n = nI k
  | n + 1, hk, hb, hu => by
    unfold ep_lst
    by_cases y : b n = true
    · rw [if_pos y, hu n (by omega) y]
    · rw [if_neg y]
      have : k ≠ n := fun z => y (by rw [← z]; exact hb)
      exact ep_lst_one n (by omega) hb fun j hj => hu j (by omega)
theorem ep_m5 {v : Nat} (h : v < 2 ^ 30) : ¬ nI v = -5 := by
  intro z
  have := nI_toInt (n := v) (by omega)
  rw [z] at this
  have h1 : (-5 : Int32).toInt = -5 := by decide
  omega
theorem ep_count_ {N : Nat} {c : ep_C} {m : ep_M} (hR : ep_R N c m) (hN : N + 2 < 2 ^ 28) {h t e : Nat} (ho : ep_On m h t e) : ep_Tc (N + 2) h t e c m (fun s => eF_3_countOne s (eh_fp (nI t))) (fun s => eF_12_count s (nI h) (nI e)) := by
  have ht := ho.2.1
  have he := ho.2.2.1
  have hto := ho.2.2.2.2.1
  have i6 : eh_in (nI e) 6 = true := ep_in he (by decide)
  have f3 : ∀ m0, (ep_mk c m0).1 (eh_fp (nI t)) 3 = nI e := fun m0 => by rw [ep_rF0 _ _ ht, (hR.2.2.2.2.2.2.2.2.2.2.1 t ht).2.2.1, hto]
  have hrd : ∀ m0, (ep_mk c m0).1 (eh_ep (nI e) + 5) = c.2.1 9 e := fun m0 => ep_rE _ _ 5 he (by decide)
  have hRm := ep_R_mono hR (show N ≤ N + 1 by omega)
  have hcn := hR.2.2.2.2.2.2.2.2.2.2.2.2.2.2.2.2.2.2.2.2.2.2.2.2.1
  obtain ⟨k1, k2, k3, n, k4, k5, k6, k7, k8, k9⟩ := hcn
  have hcq : ∀ k, k < n → ep_ceq c (c.2.1 9 e) k = ep_meq m e k 32 := fun k hk => ep_ceq_meq hR he (by omega)
  have e32 : (32 : Int32) * nI e = nI (32 * e) := ep_mul (b := 32) rfl rfl
  have row : ∀ k, ep_ceq c (c.2.1 9 e) k = true → ∀ j, j < 8 → c.1 39 (8 * k + j) = c.2.1 9 e j := fun k hk j hj => by simpa using ep_all_iff.mp hk j hj
  have z12 : ∀ m0, (ep_mk c m0).1 1 12 = nI n := fun m0 => by rw [ep_rC1 _ _ _ (by decide), k2, k5]
  have one : (∀ k, k < n → ep_ceq c (c.2.1 9 e) k = false) ∨ ∃ k, k < n ∧ ep_ceq c (c.2.1 9 e) k = true := by
    by_cases y : ∃ k, k < n ∧ ep_ceq c (c.2.1 9 e) k = true
    · exact Or.inr y
    · exact Or.inl fun k hk => by
        cases z : ep_ceq c (c.2.1 9 e) k with
        | false => rfl
        | true => exact absurd ⟨k, hk, z⟩ y
  rcases one with hno | ⟨k, hk, hyes⟩
  · have cl : ∀ m0, eh_loop (fun (r10 : (Int32) → Option ((Unit) ⊕ (Int32))) (t1 : Int32) => if t1 < ((ep_mk c m0).1 1 12) then (if t1 < 8 then (Option.bind (eF_5_isCounted (ep_mk c m0) t1 (eh_ep (nI e) + 5) 8) (fun q13 => if q13 = 0 then (eh_V ((t1 + 1) : Int32) (fun x15 => r10 x15)) else (some (.inr t1)))) else (some (.inl ()))) else (some (.inl ()))) eh_FU 0 = some (.inl ()) := fun m0 => by
      rcases ep_ccl k4 (k2.trans k5) _ hrd m0 with ⟨-, g⟩ | ⟨k, g1, g2, -⟩
      · exact g
      · rw [hno k g1] at g2; exact absurd g2 (by decide)
    have ml := fun c0 => ep_mcl m he k4 k5 c0
    rw [ep_lst_no n (fun k hk => by rw [← hcq k hk]; exact hno k hk)] at ml
    by_cases h8 : n = 8
    · refine ep_Tc_mono (ep_Tc_no hR ho (ep_L_rf m) (-5) (fun m0 => ?_) (fun c0 => ?_)) (by omega)
      · show eF_3_countOne (ep_mk c m0) _ = _
        have hcu : eF_5_countUp (ep_mk c m0) (eh_ep (nI e) + 5) 8 = some (-5, ep_mk c m0) := by
          unfold eF_5_countUp
          refine ep_bnd (cl m0) ?_
          rw [Sum.elim_inl, z12, h8, if_neg (by decide)]
        unfold eF_3_countOne
        rw [f3, if_pos i6, hcu, ep_sb, ep_J, if_pos rfl]
      · show eF_12_count (ep_mk c0 m) _ _ = _
        unfold eF_12_count
        refine ep_bnd (ml c0) ?_
        rw [ep_J, if_pos rfl, ep_rM _ _ 127 (by decide), k5, h8, if_pos (show nI 8 = 8 from rfl)]
    · obtain ⟨F, hF⟩ : ∃ F : Nat → Int32, F = va_cpy (c.2.1 9 e) (c.1 39) 0 (8 * n) 8 := ⟨_, rfl⟩
      obtain ⟨G, hG⟩ : ∃ G : Nat → Int32, G = ep_in_ (m.1 183) (32 * n) 32 fun j => eh_nb (m.1 159 (32 * e + j)) := ⟨_, rfl⟩
      have Fi : ∀ i, F i = if 8 * n ≤ i ∧ i < 8 * n + 8 then c.2.1 9 e (i - 8 * n) else c.1 39 i := fun i => by rw [hF, ep_cpy8]
      have hme := hR.2.2.2.2.2.2.2.2.2.2.2.2.2.2.2.2.2.2.1 e he
      have R1 : ep_R (N + 1) (ep_cI (ep_cI (ep_cL c 39 F) 40 n 1) 1 12 (nI (n + 1))) (ep_mI (ep_mL (ep_mI (ep_mI m 127 70 (nI (n + 1))) 184 n 0) 183 G) 184 n 1) := by
        refine ⟨hRm.1, hRm.2.1, hRm.2.2.1, hRm.2.2.2.1, hRm.2.2.2.2.1, hRm.2.2.2.2.2.1, hRm.2.2.2.2.2.2.1, hRm.2.2.2.2.2.2.2.1, hRm.2.2.2.2.2.2.2.2.1, hRm.2.2.2.2.2.2.2.2.2.1, hRm.2.2.2.2.2.2.2.2.2.2.1, hRm.2.2.2.2.2.2.2.2.2.2.2.1, hRm.2.2.2.2.2.2.2.2.2.2.2.2.1, hRm.2.2.2.2.2.2.2.2.2.2.2.2.2.1, hRm.2.2.2.2.2.2.2.2.2.2.2.2.2.2.1, hRm.2.2.2.2.2.2.2.2.2.2.2.2.2.2.2.1, hRm.2.2.2.2.2.2.2.2.2.2.2.2.2.2.2.2.1, hRm.2.2.2.2.2.2.2.2.2.2.2.2.2.2.2.2.2.1, hRm.2.2.2.2.2.2.2.2.2.2.2.2.2.2.2.2.2.2.1, hRm.2.2.2.2.2.2.2.2.2.2.2.2.2.2.2.2.2.2.2.1, hRm.2.2.2.2.2.2.2.2.2.2.2.2.2.2.2.2.2.2.2.2.1, hRm.2.2.2.2.2.2.2.2.2.2.2.2.2.2.2.2.2.2.2.2.2.1, hRm.2.2.2.2.2.2.2.2.2.2.2.2.2.2.2.2.2.2.2.2.2.2.1, hRm.2.2.2.2.2.2.2.2.2.2.2.2.2.2.2.2.2.2.2.2.2.2.2.1, ?_, hRm.2.2.2.2.2.2.2.2.2.2.2.2.2.2.2.2.2.2.2.2.2.2.2.2.2.1, hRm.2.2.2.2.2.2.2.2.2.2.2.2.2.2.2.2.2.2.2.2.2.2.2.2.2.2.1, hRm.2.2.2.2.2.2.2.2.2.2.2.2.2.2.2.2.2.2.2.2.2.2.2.2.2.2.2.1, hRm.2.2.2.2.2.2.2.2.2.2.2.2.2.2.2.2.2.2.2.2.2.2.2.2.2.2.2.2.1, hRm.2.2.2.2.2.2.2.2.2.2.2.2.2.2.2.2.2.2.2.2.2.2.2.2.2.2.2.2.2.1, hRm.2.2.2.2.2.2.2.2.2.2.2.2.2.2.2.2.2.2.2.2.2.2.2.2.2.2.2.2.2.2.1, hRm.2.2.2.2.2.2.2.2.2.2.2.2.2.2.2.2.2.2.2.2.2.2.2.2.2.2.2.2.2.2.2.1, hRm.2.2.2.2.2.2.2.2.2.2.2.2.2.2.2.2.2.2.2.2.2.2.2.2.2.2.2.2.2.2.2.2.1, hRm.2.2.2.2.2.2.2.2.2.2.2.2.2.2.2.2.2.2.2.2.2.2.2.2.2.2.2.2.2.2.2.2.2⟩
        refine ⟨?_, rfl, fun i hi => ?_, n + 1, by omega, rfl, fun i hi => ?_, fun i i' hi hi' hr => ?_, fun j => ?_, k9⟩
        · show upd (c.1 40) n 1 = upd (upd (m.1 184) n 0) n 1
          rw [ep_upd_upd, k1]
        · show F i = ep_bw G (4 * i)
          rw [Fi]
          by_cases y : 8 * n ≤ i ∧ i < 8 * n + 8
          · rw [if_pos y, hme (i - 8 * n) (by omega)]
            refine ep_bw_255 fun r hr => ?_
            rw [hG]
            unfold ep_in_
            rw [if_pos (by omega), ep_nb255, show 32 * e + (4 * i + r - 32 * n) = 32 * e + 0 + 4 * (i - 8 * n) + r by omega]
          · rw [if_neg y, k3 i hi]
            refine ep_bwc fun j j1 j2 => ?_
            rw [hG]
            unfold ep_in_
            rw [if_neg (by omega)]
        · show ∃ v, v ≤ N + 1 ∧ upd (upd (m.1 184) n 0) n 1 i = nI v
          rw [ep_upd_upd]
          by_cases y : i = n
          · rw [y, ep_upd_eq]; exact ⟨1, by omega, rfl⟩
          · rw [ep_upd_ne y]
            obtain ⟨v, v1, v2⟩ := k6 i (by omega)
            exact ⟨v, by omega, v2⟩
        · have hr' : ∀ j, j < 8 → F (8 * i + j) = F (8 * i' + j) := hr
          have out : ∀ a j, a < n → j < 8 → F (8 * a + j) = c.1 39 (8 * a + j) := fun a j ha hj => by rw [Fi, if_neg (by omega)]
          have inn : ∀ j, j < 8 → F (8 * n + j) = c.2.1 9 e j := fun j hj => by rw [Fi, if_pos (by omega), Nat.add_sub_cancel_left]
          have bad : ∀ a, a < n → ¬ ∀ j, j < 8 → F (8 * a + j) = F (8 * n + j) := fun a ha z => by
            have : ep_ceq c (c.2.1 9 e) a = true := ep_all_iff.mpr fun j hj => by
              have := z j hj
              rw [out a j ha hj, inn j hj] at this
              simpa using this
            rw [hno a ha] at this
            exact absurd this (by decide)
          by_cases y1 : i = n
          · by_cases y2 : i' = n
            · rw [y1, y2]
            · exact absurd (fun j hj => by have := hr' j hj; rw [y1] at this; exact this.symm) (bad i' (by omega))
          · by_cases y2 : i' = n
            · exact absurd (fun j hj => by have := hr' j hj; rw [y2] at this; exact this) (bad i (by omega))
            · exact k7 i i' (by omega) (by omega) fun j hj => by
                have := hr' j hj
                rw [out i j (by omega) hj, out i' j (by omega) hj] at this
                exact this
        · show eh_nb (G j) = G j
          rw [hG]
          unfold ep_in_
          by_cases y : 32 * n ≤ j ∧ j < 32 * n + 32
          · rw [if_pos y, ep_nb2]
          · rw [if_neg y]; exact k8 j
      have ho1 : ep_On (ep_mI (ep_mL (ep_mI (ep_mI m 127 70 (nI (n + 1))) 184 n 0) 183 G) 184 n 1) h t e := ho
      obtain ⟨c2, m2, n1, n2, n3⟩ := ep_note R1 (by omega) ho1 8 1 0 0
      have hm2 : m2.1 184 n = 1 := by
        obtain ⟨-, ⟨A, B, C, D, z⟩, -⟩ := n3
        rw [z, ep_mw_o _ _ _ _ _ _ (by decide), ep_mI1, ep_upd_eq]
      refine ⟨1, c2, m2, fun m0 => ?_, fun c0 => ?_, n3.2.2, ep_Fm_tr (m1 := ep_mI (ep_mL (ep_mI (ep_mI m 127 70 (nI (n + 1))) 184 n 0) 183 G) 184 n 1) ⟨ho1, fun j hj => by rcases hj with rfl | rfl <;> rfl, rfl⟩ (ep_Fm_W n3 ho1)⟩
      · show eF_3_countOne (ep_mk c m0) _ = _
        have z8 : nI n * 8 = nI (8 * n) := by rw [Int32.mul_comm]; exact ep_mul rfl rfl
        have q4 : eh_cok 0 (nI (8 * n)) 8 8 64 = true := by
          unfold eh_cok
          rw [nI_toInt (show 8 * n < 2 ^ 31 by omega), show (8 : Int32).toInt = 8 by decide, show (0 : Int32).toInt = 0 by decide]
          simp only [Bool.and_eq_true, decide_eq_true_eq]
          omega
        have hcu : eF_5_countUp (ep_mk c m0) (eh_ep (nI e) + 5) 8 = some (1, ep_mk (ep_cI (ep_cI (ep_cL c 39 F) 40 n 1) 1 12 (nI (n + 1))) m0) := by
          unfold eF_5_countUp
          refine ep_bnd (cl m0) ?_
          rw [Sum.elim_inl, z12, if_pos (show nI n < 8 from nI_lt (b := 8) (by omega) (by decide)), z8, if_pos q4, ep_V, hrd, ep_rC1 _ _ 39 (by decide), show eh_ix (nI (8 * n)) = 8 * n from ep_ix (by omega), show eh_ix 0 = 0 from rfl, show eh_ix 8 = 8 from rfl, ← hF, ep_wC1 _ _ _ _ (by decide), ep_rC1 _ _ 1 (by decide), show (ep_cL c 39 F).1 1 12 = nI n from k2.trans k5, if_pos (ep_in (show n < 8 by omega) (by decide)), ep_V, show eh_ix (nI n) = n from ep_ix (by omega), ep_iC1 _ _ _ _ _ (by decide), ep_V, ep_rC1 _ _ 1 (by decide), show (ep_cI (ep_cL c 39 F) 40 n 1).1 1 12 = nI n from k2.trans k5, nI_1, ep_iC1 _ _ _ _ _ (by decide)]
        unfold eF_3_countOne
        rw [f3, if_pos i6, hcu, ep_sb, ep_J, if_neg (show ¬ (1 : Int32) = -5 by decide), n1 m0, ep_sb]
      · show eF_12_count (ep_mk c0 m) _ _ = _
        have e32n : (32 : Int32) * nI n = nI (32 * n) := ep_mul (b := 32) rfl rfl
        have hlp : eh_loop (fun (r16 : (Int32 × eh_F) → Option (eh_F)) (t13 : Int32 × eh_F) => if t13.1 < 32 then (if eh_in ((32 * nI e) + t13.1) 192 then if eh_in ((32 * nI n) + t13.1) 256 then eh_V (eh_tI t13.2 183 (eh_ix ((32 * nI n) + t13.1)) (eh_nb (t13.2.1 159 (eh_ix ((32 * nI e) + t13.1))))) (fun s18 => eh_V ((t13.1 + 1) : Int32) (fun x19 => r16 (x19, s18))) else none else none) else (some t13.2)) eh_FU (0, ep_mk c0 (ep_mI (ep_mI m 127 70 (nI (n + 1))) 184 n 0)) = some (ep_mk c0 (ep_mL (ep_mI (ep_mI m 127 70 (nI (n + 1))) 184 n 0) 183 G)) := by
          rw [e32, e32n]
          refine ep_loop (fun i => (nI i, ep_mk c0 (ep_mL (ep_mI (ep_mI m 127 70 (nI (n + 1))) 184 n 0) 183 (ep_in_ (m.1 183) (32 * n) i fun j => eh_nb (m.1 159 (32 * e + j)))))) 32 _ (ep_FU _ (by decide)) ?_ ?_ ?_
          · intro i hi rec
            show (if nI i < 32 then _ else _) = _
            rw [if_pos (show nI i < 32 from nI_lt (b := 32) hi (by decide)), nI_add, nI_add, if_pos (ep_in (show 32 * e + i < 192 by omega) (by decide)), if_pos (ep_in (show 32 * n + i < 256 by omega) (by decide)), show eh_ix (nI (32 * n + i)) = 32 * n + i from ep_ix (by omega), show eh_ix (nI (32 * e + i)) = 32 * e + i from ep_ix (by omega), ep_V, ep_rM _ _ 159 (by decide), ep_iM _ _ _ _ _ (by decide), ep_mLI, ep_V, nI_1]
            rw [show (ep_mL (ep_mI (ep_mI m 127 70 (nI (n + 1))) 184 n 0) 183 (ep_in_ (m.1 183) (32 * n) i fun j => eh_nb (m.1 159 (32 * e + j)))).1 159 = m.1 159 from rfl, ep_in_s (g := fun j => eh_nb (m.1 159 (32 * e + j)))]
          · intro rec
            show (if nI 32 < 32 then _ else _) = _
            rw [if_neg (by decide), hG]
          · show _ = (nI 0, ep_mk c0 (ep_mL _ 183 (ep_in_ (m.1 183) (32 * n) 0 _)))
            rw [ep_in_0]
            show _ = (nI 0, ep_mk c0 (ep_mL (ep_mI (ep_mI m 127 70 (nI (n + 1))) 184 n 0) 183 ((ep_mI (ep_mI m 127 70 (nI (n + 1))) 184 n 0).1 183)))
            rw [ep_mLid]
            rfl
        have jn : eh_in (nI n) 8 = true := ep_in (by omega) (by decide)
        have xn : eh_ix (nI n) = n := ep_ix (by omega)
        unfold eF_12_count
        refine ep_bnd (ml c0) ?_
        rw [ep_J, if_pos rfl, ep_rM _ _ 127 (by decide), k5, if_neg (show ¬ nI n = 8 from fun z => h8 ((nI_eq (b := 8) (by omega) (by decide)).mp z)), ep_V, ep_V, nI_1, ep_iM _ _ _ _ _ (by decide), if_pos jn, xn, ep_V, ep_iM _ _ _ _ _ (by decide)]
        refine ep_bnd hlp ?_
        dsimp only
        rw [if_pos jn, if_pos jn, ep_V, xn, ep_rM _ _ 184 (by decide), ep_iM _ _ _ _ _ (by decide)]
        have hz : ep_mI (ep_mL (ep_mI (ep_mI m 127 70 (nI (n + 1))) 184 n 0) 183 G) 184 n ((ep_mL (ep_mI (ep_mI m 127 70 (nI (n + 1))) 184 n 0) 183 G).1 184 n + 1) = ep_mI (ep_mL (ep_mI (ep_mI m 127 70 (nI (n + 1))) 184 n 0) 183 G) 184 n 1 := by
          rw [ep_mLn _ _ _ _ (by decide), ep_mI1, ep_upd_eq]; rfl
        rw [hz, if_pos jn, ep_rM _ _ 184 (by decide), ep_mI1, ep_upd_eq, n2 c0, ep_sb, if_pos jn, ep_rM _ _ 184 (by decide), hm2]
  · obtain ⟨v, v1, v2⟩ := k6 k hk
    have huq : ∀ j, j < n → ep_ceq c (c.2.1 9 e) j = true → j = k := fun j hj hj2 => k7 j k hj hk fun i hi => by rw [row j hj2 i hi, row k hyes i hi]
    have cl : ∀ m0, eh_loop (fun (r10 : (Int32) → Option ((Unit) ⊕ (Int32))) (t1 : Int32) => if t1 < ((ep_mk c m0).1 1 12) then (if t1 < 8 then (Option.bind (eF_5_isCounted (ep_mk c m0) t1 (eh_ep (nI e) + 5) 8) (fun q13 => if q13 = 0 then (eh_V ((t1 + 1) : Int32) (fun x15 => r10 x15)) else (some (.inr t1)))) else (some (.inl ()))) else (some (.inl ()))) eh_FU 0 = some (.inr (nI k)) := fun m0 => by
      rcases ep_ccl k4 (k2.trans k5) _ hrd m0 with ⟨g, -⟩ | ⟨j, g1, g2, g3⟩
      · rw [g k hk] at hyes; exact absurd hyes (by decide)
      · rw [huq j g1 g2] at g3; exact g3
    have ml := fun c0 => ep_mcl m he k4 k5 c0
    rw [ep_lst_one n hk (by rw [← hcq k hk]; exact hyes) (fun j hj hb => huq j hj (by rw [hcq j hj]; exact hb))] at ml
    have jk : eh_in (nI k) 8 = true := ep_in (by omega) (by decide)
    have xk : eh_ix (nI k) = k := ep_ix (by omega)
    have R1 : ep_R (N + 1) (ep_cI c 40 k (nI (v + 1))) (ep_mI m 184 k (nI (v + 1))) := by
      refine ⟨hRm.1, hRm.2.1, hRm.2.2.1, hRm.2.2.2.1, hRm.2.2.2.2.1, hRm.2.2.2.2.2.1, hRm.2.2.2.2.2.2.1, hRm.2.2.2.2.2.2.2.1, hRm.2.2.2.2.2.2.2.2.1, hRm.2.2.2.2.2.2.2.2.2.1, hRm.2.2.2.2.2.2.2.2.2.2.1, hRm.2.2.2.2.2.2.2.2.2.2.2.1, hRm.2.2.2.2.2.2.2.2.2.2.2.2.1, hRm.2.2.2.2.2.2.2.2.2.2.2.2.2.1, hRm.2.2.2.2.2.2.2.2.2.2.2.2.2.2.1, hRm.2.2.2.2.2.2.2.2.2.2.2.2.2.2.2.1, hRm.2.2.2.2.2.2.2.2.2.2.2.2.2.2.2.2.1, hRm.2.2.2.2.2.2.2.2.2.2.2.2.2.2.2.2.2.1, hRm.2.2.2.2.2.2.2.2.2.2.2.2.2.2.2.2.2.2.1, hRm.2.2.2.2.2.2.2.2.2.2.2.2.2.2.2.2.2.2.2.1, hRm.2.2.2.2.2.2.2.2.2.2.2.2.2.2.2.2.2.2.2.2.1, hRm.2.2.2.2.2.2.2.2.2.2.2.2.2.2.2.2.2.2.2.2.2.1, hRm.2.2.2.2.2.2.2.2.2.2.2.2.2.2.2.2.2.2.2.2.2.2.1, hRm.2.2.2.2.2.2.2.2.2.2.2.2.2.2.2.2.2.2.2.2.2.2.2.1, ?_, hRm.2.2.2.2.2.2.2.2.2.2.2.2.2.2.2.2.2.2.2.2.2.2.2.2.2.1, hRm.2.2.2.2.2.2.2.2.2.2.2.2.2.2.2.2.2.2.2.2.2.2.2.2.2.2.1, hRm.2.2.2.2.2.2.2.2.2.2.2.2.2.2.2.2.2.2.2.2.2.2.2.2.2.2.2.1, hRm.2.2.2.2.2.2.2.2.2.2.2.2.2.2.2.2.2.2.2.2.2.2.2.2.2.2.2.2.1, hRm.2.2.2.2.2.2.2.2.2.2.2.2.2.2.2.2.2.2.2.2.2.2.2.2.2.2.2.2.2.1, hRm.2.2.2.2.2.2.2.2.2.2.2.2.2.2.2.2.2.2.2.2.2.2.2.2.2.2.2.2.2.2.1, hRm.2.2.2.2.2.2.2.2.2.2.2.2.2.2.2.2.2.2.2.2.2.2.2.2.2.2.2.2.2.2.2.1, hRm.2.2.2.2.2.2.2.2.2.2.2.2.2.2.2.2.2.2.2.2.2.2.2.2.2.2.2.2.2.2.2.2.1, hRm.2.2.2.2.2.2.2.2.2.2.2.2.2.2.2.2.2.2.2.2.2.2.2.2.2.2.2.2.2.2.2.2.2⟩
      refine ⟨?_, k2, k3, n, k4, k5, fun i hi => ?_, k7, k8, k9⟩
      · show upd (c.1 40) k _ = upd (m.1 184) k _
        rw [k1]
      · show ∃ v', v' ≤ N + 1 ∧ upd (m.1 184) k (nI (v + 1)) i = nI v'
        by_cases y : i = k
        · rw [y, ep_upd_eq]; exact ⟨v + 1, by omega, rfl⟩
        · rw [ep_upd_ne y]
          obtain ⟨w, w1, w2⟩ := k6 i hi
          exact ⟨w, by omega, w2⟩
    have ho1 : ep_On (ep_mI m 184 k (nI (v + 1))) h t e := ho
    obtain ⟨c2, m2, n1, n2, n3⟩ := ep_note R1 (by omega) ho1 8 (nI (v + 1)) 0 0
    have hm2 : m2.1 184 k = nI (v + 1) := by
      obtain ⟨-, ⟨A, B, C, D, z⟩, -⟩ := n3
      rw [z, ep_mw_o _ _ _ _ _ _ (by decide), ep_mI1, ep_upd_eq]
    refine ⟨nI (v + 1), c2, m2, fun m0 => ?_, fun c0 => ?_, n3.2.2, ep_Fm_tr (m1 := ep_mI m 184 k (nI (v + 1))) ⟨ho1, fun j hj => rfl, rfl⟩ (ep_Fm_W n3 ho1)⟩
    · show eF_3_countOne (ep_mk c m0) _ = _
      have hcu : eF_5_countUp (ep_mk c m0) (eh_ep (nI e) + 5) 8 = some (nI (v + 1), ep_mk (ep_cI c 40 k (nI (v + 1))) m0) := by
        unfold eF_5_countUp
        refine ep_bnd (cl m0) ?_
        rw [Sum.elim_inr, if_pos jk, if_pos jk, xk, ep_V, ep_rC1 _ _ 40 (by decide), k1, v2, nI_1, ep_iC1 _ _ _ _ _ (by decide), if_pos jk, ep_rC1 _ _ 40 (by decide), ep_cI1, ep_upd_eq]
      unfold eF_3_countOne
      rw [f3, if_pos i6, hcu, ep_sb, ep_J, if_neg (ep_m5 (by omega)), n1 m0, ep_sb]
    · show eF_12_count (ep_mk c0 m) _ _ = _
      unfold eF_12_count
      refine ep_bnd (ml c0) ?_
      rw [ep_J, if_neg (ep_nI_ne_m1 (by omega))]
      dsimp only
      rw [if_pos jk, if_pos jk, ep_V, xk, ep_rM _ _ 184 (by decide), v2, nI_1, ep_iM _ _ _ _ _ (by decide), if_pos jk, ep_rM _ _ 184 (by decide), ep_mI1, ep_upd_eq, n2 c0, ep_sb, if_pos jk, ep_rM _ _ 184 (by decide), hm2]
/-! calls of threads, all of them -/
theorem ep_R_fpc {N : Nat} {c : ep_C} {m : ep_M} (hR : ep_R N c m) {t : Nat} (ht : t < 12) {v : Int32} (hv : ep_al v) : ep_R N (ep_cH c 2 t 2 v) (ep_mI m 130 (2 + t) v) := by
  refine ⟨hR.1, hR.2.1, hR.2.2.1, hR.2.2.2.1, hR.2.2.2.2.1, hR.2.2.2.2.2.1, hR.2.2.2.2.2.2.1, ?_, ?_, hR.2.2.2.2.2.2.2.2.2.1, ?_, ?_, hR.2.2.2.2.2.2.2.2.2.2.2.2.1, ?_, hR.2.2.2.2.2.2.2.2.2.2.2.2.2.2.1, hR.2.2.2.2.2.2.2.2.2.2.2.2.2.2.2.1, hR.2.2.2.2.2.2.2.2.2.2.2.2.2.2.2.2.1, hR.2.2.2.2.2.2.2.2.2.2.2.2.2.2.2.2.2.1, hR.2.2.2.2.2.2.2.2.2.2.2.2.2.2.2.2.2.2.1, hR.2.2.2.2.2.2.2.2.2.2.2.2.2.2.2.2.2.2.2.1, hR.2.2.2.2.2.2.2.2.2.2.2.2.2.2.2.2.2.2.2.2.1, hR.2.2.2.2.2.2.2.2.2.2.2.2.2.2.2.2.2.2.2.2.2.1, hR.2.2.2.2.2.2.2.2.2.2.2.2.2.2.2.2.2.2.2.2.2.2.1, hR.2.2.2.2.2.2.2.2.2.2.2.2.2.2.2.2.2.2.2.2.2.2.2.1, hR.2.2.2.2.2.2.2.2.2.2.2.2.2.2.2.2.2.2.2.2.2.2.2.2.1, hR.2.2.2.2.2.2.2.2.2.2.2.2.2.2.2.2.2.2.2.2.2.2.2.2.2.1, hR.2.2.2.2.2.2.2.2.2.2.2.2.2.2.2.2.2.2.2.2.2.2.2.2.2.2.1, hR.2.2.2.2.2.2.2.2.2.2.2.2.2.2.2.2.2.2.2.2.2.2.2.2.2.2.2.1, hR.2.2.2.2.2.2.2.2.2.2.2.2.2.2.2.2.2.2.2.2.2.2.2.2.2.2.2.2.1, hR.2.2.2.2.2.2.2.2.2.2.2.2.2.2.2.2.2.2.2.2.2.2.2.2.2.2.2.2.2.1, hR.2.2.2.2.2.2.2.2.2.2.2.2.2.2.2.2.2.2.2.2.2.2.2.2.2.2.2.2.2.2.1, hR.2.2.2.2.2.2.2.2.2.2.2.2.2.2.2.2.2.2.2.2.2.2.2.2.2.2.2.2.2.2.2.1, hR.2.2.2.2.2.2.2.2.2.2.2.2.2.2.2.2.2.2.2.2.2.2.2.2.2.2.2.2.2.2.2.2.1, hR.2.2.2.2.2.2.2.2.2.2.2.2.2.2.2.2.2.2.2.2.2.2.2.2.2.2.2.2.2.2.2.2.2⟩
  · intro h' hh'
    obtain ⟨a0, a2, a3⟩ := hR.2.2.2.2.2.2.2.1 h' hh'
    exact ⟨a0, (by show c.2.1 0 h' 2 = upd (m.1 130) (2 + t) v h'; rw [ep_upd_ne (by omega)]; exact a2), a3⟩
  · intro h' hh'
    obtain ⟨b1, b2⟩ := hR.2.2.2.2.2.2.2.2.1 h' hh'
    exact ⟨(by show ep_al (upd (m.1 130) (2 + t) v h'); rw [ep_upd_ne (by omega)]; exact b1), b2⟩
  · intro t' ht'
    obtain ⟨a0, a2, a3⟩ := hR.2.2.2.2.2.2.2.2.2.2.1 t' ht'
    by_cases y : t' = t
    · subst y
      rw [ep_cHs]
      exact ⟨a0, (by show v = upd (m.1 130) (2 + t') v (2 + t'); rw [ep_upd_eq]), a3⟩
    · rw [ep_cHh _ _ _ _ _ _ y]
      exact ⟨a0, (by show c.2.1 2 t' 2 = upd (m.1 130) (2 + t) v (2 + t'); rw [ep_upd_ne (by omega)]; exact a2), a3⟩
  · intro t' ht'
    obtain ⟨b1, b2⟩ := hR.2.2.2.2.2.2.2.2.2.2.2.1 t' ht'
    refine ⟨?_, b2⟩
    show ep_al (upd (m.1 130) (2 + t) v (2 + t'))
    by_cases y : t' = t
    · subst y; rw [ep_upd_eq]; exact hv
    · rw [ep_upd_ne (by omega)]; exact b1
  · intro t' ht' hs'
    by_cases y : t' = t
    · subst y; rw [ep_cHs]; exact hR.2.2.2.2.2.2.2.2.2.2.2.2.2.1 t' ht' hs'
    · rw [ep_cHh _ _ _ _ _ _ y]; exact hR.2.2.2.2.2.2.2.2.2.2.2.2.2.1 t' ht' hs'
theorem ep_al_add {x p : Int32} (hx : ep_al x) : ((x + p) &&& 3 = 0) ↔ p &&& 3 = 0 := by
  unfold ep_al at hx
  rw [pk_and x (m := 3) 2 rfl, show (0 : Int32) = nI 0 from rfl, nI_eq (by omega) (by decide)] at hx
  rw [pk_and (x + p) (m := 3) 2 rfl, pk_and p (m := 3) 2 rfl, show (0 : Int32) = nI 0 from rfl, nI_eq (by omega) (by decide), nI_eq (by omega) (by decide), Int32.toBitVec_add, BitVec.toNat_add]
  omega
def ep_TC (N' h t : Nat) (c : ep_C) (m : ep_M) (pc : Int32) : Prop := ∃ c' m', (∀ m0, eF_3_serve (ep_mk c m0) (eh_hp (nI h)) (eh_fp (nI t)) = some (ep_mk c' m0)) ∧ (∀ c0, eF_12_threadCall (ep_mk c0 m) (nI h) pc = some (ep_mk c0 m')) ∧ m'.1 127 83 = -1 ∧ ep_R N' c' (ep_mI m' 130 (2 + t) (m'.1 127 85))
theorem ep_tgo {N' h t e : Nat} {c : ep_C} {m : ep_M} {pc : Int32} {F G : eh_F → Option (Int32 × eh_F)} (hT : ep_Tc N' h t e c m F G) (hR : ep_R N' c m) (ho : ep_On m h t e) (h83 : m.1 127 83 = -1) (h85 : m.1 127 85 = m.1 130 (2 + t) + 4) (hc : ∀ m0, eF_3_serve (ep_mk c m0) (eh_hp (nI h)) (eh_fp (nI t)) = Option.bind (F (ep_mk c m0)) (fun q => Option.bind (eF_3_goOn q.2 (eh_fp (nI t)) q.1) (fun q' => some q'))) (hm : ∀ c0, eF_12_threadCall (ep_mk c0 m) (nI h) pc = Option.bind (G (ep_mk c0 m)) (fun q28 => if eh_in (nI (32 * (2 + t) + 10)) 448 = true then eh_V (eh_tI q28.2 129 (32 * (2 + t) + 10) q28.1) (fun s29 => some s29) else none)) : ep_TC N' h t c m pc := by
  obtain ⟨r, c', m', a, b, R1, ho', f1, f2⟩ := hT
  have ht := ho.2.1
  have hal : ep_al (m.1 130 (2 + t) + 4) := ep_al4 (hR.2.2.2.2.2.2.2.2.2.2.2.1 t ht).1
  have R2 := ep_R_fpc (ep_R_fx R1 ht (j := 10) (by decide) r) ht hal
  have e2 : (ep_cH c' 3 t 10 r).2.1 2 t 2 = m.1 130 (2 + t) := by
    rw [ep_cHi _ _ _ _ _ _ _ (by decide), (R1.2.2.2.2.2.2.2.2.2.2.1 t ht).2.1, f2]
  refine ⟨ep_cH (ep_cH c' 3 t 10 r) 2 t 2 (m.1 130 (2 + t) + 4), ep_mI m' 129 (32 * (2 + t) + 10) r, fun m0 => ?_, fun c0 => ?_, ?_, ?_⟩
  · rw [hc, a m0, ep_sb]
    unfold eF_3_goOn
    rw [ep_V, ep_iF1 _ _ _ _ ht, ep_V, ep_rF0 _ _ ht, e2, ep_iF0 _ _ _ _ ht, ep_sb]
  · rw [hm, b c0, ep_sb, if_pos (ep_in (by omega) (by decide)), ep_V, ep_iM _ _ _ _ _ (by decide)]
  · show m'.1 127 83 = -1
    rw [f1 83 (Or.inl rfl), h83]
  · show ep_R N' _ (ep_mI (ep_mI m' 129 (32 * (2 + t) + 10) r) 130 (2 + t) (m'.1 127 85))
    rw [f1 85 (Or.inr rfl), h85]
    exact R2
theorem ep_lve_130 (m : ep_M) (h t k : Nat) (st why val v : Int32) : ep_lve (ep_mI m 130 k v) h t st why val = ep_mI (ep_lve m h t st why val) 130 k v := by
  refine Prod.ext ?_ rfl
  funext a
  simp only [ep_lve, ep_mI, ep_mL, ep_uf]
  by_cases h1 : a = 129
  · subst h1; simp
  · by_cases h2 : a = 130
    · subst h2; simp
    · by_cases h3 : a = 147
      · subst h3; simp
      · by_cases h4 : a = 144
        · subst h4; simp
        · by_cases h5 : a = 148
          · subst h5; simp
          · simp [h1, h2, h3, h4, h5]
set_option maxHeartbeats 8000000 in
theorem ep_tcall {N : Nat} {c : ep_C} {m : ep_M} (hR : ep_R N c m) (hN : N + 300 < 2 ^ 28) {h t e : Nat} (ho : ep_On m h t e) (h83 : m.1 127 83 = -1) (h85 : m.1 127 85 = m.1 130 (2 + t) + 4) (pc : Int32) : ep_TC (N + 264) h t c m pc := by
  have hh := ho.1
  have ht := ho.2.1
  have he := ho.2.2.1
  have hru := ho.2.2.2.1
  have hto := ho.2.2.2.2.1
  have hst : m.1 148 t ≠ 0 := by rw [ho.2.2.2.2.2.2]; decide
  have gx := hR.2.2.2.2.2.2.2.2.2.2.2.2.1 t ht hst
  have gf := hR.2.2.2.2.2.2.2.2.2.2.1 t ht
  have i6 : eh_in (nI e) 6 = true := ep_in he (by decide)
  have f3 : ∀ m0, (ep_mk c m0).1 (eh_fp (nI t)) 3 = nI e := fun m0 => by rw [ep_rF0 _ _ ht, gf.2.2.1, hto]
  obtain ⟨P, hP⟩ : ∃ P, P = m.1 129 (32 * (2 + t) + 10) := ⟨_, rfl⟩
  obtain ⟨Q, hQ⟩ : ∃ Q, Q = m.1 129 (32 * (2 + t) + 11) := ⟨_, rfl⟩
  obtain ⟨A, hA⟩ : ∃ A, A = m.1 129 (32 * (2 + t) + 17) := ⟨_, rfl⟩
  have c10 : ∀ m0, (ep_mk c m0).1 (eh_fp (nI t) + 1) 10 = P := fun m0 => by rw [ep_rF1 _ _ ht, gx 10 (by decide), hP]
  have c11 : ∀ m0, (ep_mk c m0).1 (eh_fp (nI t) + 1) 11 = Q := fun m0 => by rw [ep_rF1 _ _ ht, gx 11 (by decide), hQ]
  have c17 : ∀ m0, (ep_mk c m0).1 (eh_fp (nI t) + 1) 17 = A := fun m0 => by rw [ep_rF1 _ _ ht, gx 17 (by decide), hA]
  have c9 : ∀ m0, (ep_mk c m0).1 (eh_fp (nI t)) 9 = m.1 153 t := fun m0 => by rw [ep_rF0 _ _ ht, gf.2.2.2.2.2.2.2.1]
  obtain ⟨H, hH1, hH0⟩ : ∃ H : Int32, (¬ H = 0 → ¬ m.1 153 t = 0 ∧ P &&& 3 = 0) ∧ (H = 0 → m.1 153 t = 0 ∨ ¬ P &&& 3 = 0) ∧ ∀ {α : Type} (X : Int32 → Option α) (m0 : ep_M), eh_J X (fun j3 => eh_J (fun (u59 : Unit) => j3 0) (fun j58 => if ((ep_mk c m0).1 (eh_fp (nI t)) 9) = 0 then (j58 ()) else (if (P &&& 3) = 0 then (j3 1) else (j58 ())))) = X H := by
    by_cases y1 : m.1 153 t = 0
    · refine ⟨0, fun z => absurd rfl z, fun _ => Or.inl y1, fun X m0 => ?_⟩
      rw [ep_J, ep_J, c9, if_pos y1]
    · by_cases y2 : P &&& 3 = 0
      · refine ⟨1, fun _ => ⟨y1, y2⟩, fun z => absurd z (by decide), fun X m0 => ?_⟩
        rw [ep_J, ep_J, c9, if_neg y1, if_pos y2]
      · refine ⟨0, fun z => absurd rfl z, fun _ => Or.inr y2, fun X m0 => ?_⟩
        rw [ep_J, ep_J, c9, if_neg y1, if_neg y2]
  obtain ⟨hH0, hHX⟩ := hH0
  have i2 : eh_in (nI h) 2 = true := ep_in hh (by decide)
  have x2 : eh_ix (nI h) = h := ep_ix (by omega)
  have i12 : eh_in (nI t) 12 = true := ep_in ht (by decide)
  have x12 : eh_ix (nI t) = t := ep_ix (by omega)
  have tm1 : ¬ nI t = -1 := ep_nI_ne_m1 (by omega)
  have who : ∀ c0, eF_12_who (ep_mk c0 m) (nI h) = some (nI (2 + t)) := fun c0 => by
    unfold eF_12_who
    rw [if_pos i2, ep_J, x2, ep_rM _ _ 144 (by decide), hru, if_neg tm1, if_pos i2]
    show some ((2 : Int32) + nI t) = _
    rw [show (2 : Int32) = nI 2 from rfl, nI_add]
  have q32 : (32 : Int32) * nI (2 + t) = nI (32 * (2 + t)) := ep_mul (b := 32) rfl rfl
  have q10 : nI (32 * (2 + t)) + 10 = nI (32 * (2 + t) + 10) := ep_addn _ 10
  have q11 : nI (32 * (2 + t)) + 11 = nI (32 * (2 + t) + 11) := ep_addn _ 11
  have q17 : nI (32 * (2 + t)) + 17 = nI (32 * (2 + t) + 17) := ep_addn _ 17
  have j10 : eh_in (nI (32 * (2 + t) + 10)) 448 = true := ep_in (by omega) (by decide)
  have j11 : eh_in (nI (32 * (2 + t) + 11)) 448 = true := ep_in (by omega) (by decide)
  have j17 : eh_in (nI (32 * (2 + t) + 17)) 448 = true := ep_in (by omega) (by decide)
  have y10 : eh_ix (nI (32 * (2 + t) + 10)) = 32 * (2 + t) + 10 := ep_ix (by omega)
  have y11 : eh_ix (nI (32 * (2 + t) + 11)) = 32 * (2 + t) + 11 := ep_ix (by omega)
  have y17 : eh_ix (nI (32 * (2 + t) + 17)) = 32 * (2 + t) + 17 := ep_ix (by omega)
  have hRm := ep_R_mono hR (show N ≤ N + 264 by omega)
  -- answers
  have mA : ¬ A = 32 → ¬ A = 33 → ¬ A = 44 → ∀ c0, eF_12_threadCall (ep_mk c0 m) (nI h) pc = Option.bind (eF_12_answered (ep_mk c0 m) (nI h) (nI t) (nI e) A P Q) (fun q28 => if eh_in (nI (32 * (2 + t) + 10)) 448 = true then eh_V (eh_tI q28.2 129 (32 * (2 + t) + 10) q28.1) (fun s29 => some s29) else none) := by
    intro f32 f33 f44 c0
    unfold eF_12_threadCall
    rw [who, ep_sb, ep_V, q32, q10, if_pos j10, ep_V, q11, if_pos j11, ep_V, if_pos i2, ep_V, q17, if_pos j17, ep_V, ep_J, y10, y11, y17, x2, ep_rM _ _ 129 (by decide), ep_rM _ _ 144 (by decide), ← hP, ← hQ, ← hA, hru, if_neg f32, if_neg f33, if_neg f44, if_pos i12, x12, ep_rM _ _ 149 (by decide), hto]
    first | rfl | rw [if_pos j17]
  have go : ∀ {F G : eh_F → Option (Int32 × eh_F)}, ep_Tc (N + 264) h t e c m F G → ¬ A = 32 → ¬ A = 33 → ¬ A = 44 → (∀ m0, eF_3_serve (ep_mk c m0) (eh_hp (nI h)) (eh_fp (nI t)) = Option.bind (F (ep_mk c m0)) (fun q => Option.bind (eF_3_goOn q.2 (eh_fp (nI t)) q.1) (fun q' => some q'))) → (∀ c0, eF_12_answered (ep_mk c0 m) (nI h) (nI t) (nI e) A P Q = G (ep_mk c0 m)) → ep_TC (N + 264) h t c m pc := by
    intro F G hT f32 f33 f44 h1 h2
    exact ep_tgo hT hRm ho h83 h85 h1 (fun c0 => by rw [mA f32 f33 f44 c0, h2 c0])
  have hal : ep_al (m.1 130 (2 + t) + 4) := ep_al4 (hR.2.2.2.2.2.2.2.2.2.2.2.1 t ht).1
  by_cases f32 : A = 32
  · obtain ⟨c1, m1, n1, n2, W1⟩ := ep_note hR (by omega) ho 1 P 0 0
    have ho1 := ep_W_On W1 ho
    have hF1 := ep_Fm_W W1 ho
    have R1 := W1.2.2
    have R2 := ep_R_fpc R1 ht hal
    have ho2 : ep_On (ep_mI m1 130 (2 + t) (m.1 130 (2 + t) + 4)) h t e := ho1
    obtain ⟨L1, -, R3⟩ := ep_leave_ R2 ho2 (st := 1) (by decide) (by decide) 0 P
    obtain ⟨-, L2, -⟩ := ep_leave_ R1 ho1 (st := 1) (by decide) (by decide) 0 P
    refine ⟨ep_cease (ep_cH c1 2 t 2 (m.1 130 (2 + t) + 4)) h t 1 0 P, ep_lve m1 h t 1 0 P, fun m0 => ?_, fun c0 => ?_, ?_, ?_⟩
    rotate_left 3
    · show ep_R (N + 264) _ (ep_mI (ep_lve m1 h t 1 0 P) 130 (2 + t) (m1.1 127 85))
      rw [hF1.2.1 85 (Or.inr rfl), h85, ← ep_lve_130]
      exact ep_R_mono R3 (by omega)
    · have hl : eF_3_leave (ep_mk c m0) (eh_hp (nI h)) (eh_fp (nI t)) 1 1 0 = some (ep_mk (ep_cease (ep_cH c1 2 t 2 (m.1 130 (2 + t) + 4)) h t 1 0 P) m0) := by
        unfold eF_3_leave
        rw [ep_V, c10, n1 m0, ep_sb, ep_V, ep_rF0 _ _ ht, (R1.2.2.2.2.2.2.2.2.2.2.1 t ht).2.1, hF1.2.2, ep_iF0 _ _ _ _ ht, L1 m0, ep_sb]
      unfold eF_3_serve
      rw [ep_V, ep_V, c10, c11, hHX, ep_V, c17, ep_J, ep_J, if_pos f32]
      exact ep_bnd hl rfl
    · unfold eF_12_threadCall
      rw [who, ep_sb, ep_V, q32, q10, if_pos j10, ep_V, q11, if_pos j11, ep_V, if_pos i2, ep_V, q17, if_pos j17, ep_V, ep_J, y10, y11, y17, x2, ep_rM _ _ 129 (by decide), ep_rM _ _ 144 (by decide), ← hP, ← hQ, ← hA, hru, if_pos f32, n2 c0, ep_sb, L2 c0, ep_sb]
    · show m1.1 127 83 = -1
      rw [hF1.2.1 83 (Or.inl rfl), h83]
  by_cases f33 : A = 33
  · obtain ⟨c1, m1, n1, n2, W1⟩ := ep_note hR (by omega) ho 2 P 0 0
    have ho1 := ep_W_On W1 ho
    have hF1 := ep_Fm_W W1 ho
    have R1 := W1.2.2
    have R2 := ep_R_fpc R1 ht hal
    have ho2 : ep_On (ep_mI m1 130 (2 + t) (m.1 130 (2 + t) + 4)) h t e := ho1
    obtain ⟨L1, -, R3⟩ := ep_leave_ R2 ho2 (st := 4) (by decide) (by decide) 1 P
    obtain ⟨-, L2, -⟩ := ep_leave_ R1 ho1 (st := 4) (by decide) (by decide) 1 P
    refine ⟨ep_cease (ep_cH c1 2 t 2 (m.1 130 (2 + t) + 4)) h t 4 1 P, ep_lve m1 h t 4 1 P, fun m0 => ?_, fun c0 => ?_, ?_, ?_⟩
    rotate_left 3
    · show ep_R (N + 264) _ (ep_mI (ep_lve m1 h t 4 1 P) 130 (2 + t) (m1.1 127 85))
      rw [hF1.2.1 85 (Or.inr rfl), h85, ← ep_lve_130]
      exact ep_R_mono R3 (by omega)
    · have hl : eF_3_leave (ep_mk c m0) (eh_hp (nI h)) (eh_fp (nI t)) 2 4 1 = some (ep_mk (ep_cease (ep_cH c1 2 t 2 (m.1 130 (2 + t) + 4)) h t 4 1 P) m0) := by
        unfold eF_3_leave
        rw [ep_V, c10, n1 m0, ep_sb, ep_V, ep_rF0 _ _ ht, (R1.2.2.2.2.2.2.2.2.2.2.1 t ht).2.1, hF1.2.2, ep_iF0 _ _ _ _ ht, L1 m0, ep_sb]
      unfold eF_3_serve
      rw [ep_V, ep_V, c10, c11, hHX, ep_V, c17, ep_J, ep_J, if_neg f32, if_pos f33]
      exact ep_bnd hl rfl
    · unfold eF_12_threadCall
      rw [who, ep_sb, ep_V, q32, q10, if_pos j10, ep_V, q11, if_pos j11, ep_V, if_pos i2, ep_V, q17, if_pos j17, ep_V, ep_J, y10, y11, y17, x2, ep_rM _ _ 129 (by decide), ep_rM _ _ 144 (by decide), ← hP, ← hQ, ← hA, hru, if_neg f32, if_pos f33, n2 c0, ep_sb, L2 c0, ep_sb]
    · show m1.1 127 83 = -1
      rw [hF1.2.1 83 (Or.inl rfl), h83]
  by_cases f44 : A = 44
  · have q4 : (4 : Int32) * nI t = nI (4 * t) := ep_mul (b := 4) rfl rfl
    have q41 : nI (4 * t) + 1 = nI (4 * t + 1) := nI_1 _
    have q42 : nI (4 * t) + 2 = nI (4 * t + 2) := ep_p2 _
    have q43 : nI (4 * t) + 3 = nI (4 * t + 3) := ep_p3 _
    have k0 : eh_in (nI (4 * t)) 48 = true := ep_in (by omega) (by decide)
    have k1 : eh_in (nI (4 * t + 1)) 48 = true := ep_in (by omega) (by decide)
    have k2 : eh_in (nI (4 * t + 2)) 48 = true := ep_in (by omega) (by decide)
    have k3 : eh_in (nI (4 * t + 3)) 48 = true := ep_in (by omega) (by decide)
    have z0 : eh_ix (nI (4 * t)) = 4 * t := ep_ix (by omega)
    have z1 : eh_ix (nI (4 * t + 1)) = 4 * t + 1 := ep_ix (by omega)
    have z2 : eh_ix (nI (4 * t + 2)) = 4 * t + 2 := ep_ix (by omega)
    have z3 : eh_ix (nI (4 * t + 3)) = 4 * t + 3 := ep_ix (by omega)
    obtain ⟨fa1, fa2, fa3, fa4, fa5⟩ := hR.2.2.2.2.2.2.2.2.2.2.2.1 t ht
    have hadd := ep_al_add (p := P) fa4
    have pre : ∀ c0, eF_12_threadCall (ep_mk c0 m) (nI h) pc = (if m.1 153 t = 0 then eh_V (eh_tI (ep_mk c0 m) 129 (32 * (2 + t) + 10) (-1)) (fun s20 => some s20) else (if ((m.1 154 (4 * t + 2) + P) &&& 3) = 0 then some (ep_mk c0 (ep_mI (ep_mI (ep_mI (ep_mI (ep_mI m 129 (32 * (2 + t) + 10) (m.1 154 (4 * t))) 129 (32 * (2 + t) + 11) (m.1 154 (4 * t + 1))) 152 t (m.1 154 (4 * t + 3))) 153 t (eh_nz 0)) 127 85 (m.1 154 (4 * t + 2) + P))) else eh_V (eh_tI (ep_mk c0 m) 129 (32 * (2 + t) + 10) (-1)) (fun s20 => some s20))) := by
      intro c0
      unfold eF_12_threadCall
      rw [who, ep_sb, ep_V, q32, q10, if_pos j10, ep_V, q11, if_pos j11, ep_V, if_pos i2, ep_V, q17, if_pos j17, ep_V, ep_J, y10, y11, y17, x2, ep_rM _ _ 129 (by decide), ep_rM _ _ 144 (by decide), ← hP, ← hQ, ← hA, hru, if_neg f32, if_neg f33, if_pos f44, q4, q42, if_pos k2, ep_V, z2, ep_rM _ _ 154 (by decide), if_pos i12, x12, ep_J, ep_rM _ _ 153 (by decide)]
      by_cases y1 : m.1 153 t = 0
      · rw [if_pos y1, if_pos y1, if_pos j10]
      · rw [if_neg y1, if_neg y1]
        by_cases y2 : (m.1 154 (4 * t + 2) + P) &&& 3 = 0
        · rw [if_pos y2, if_pos y2, if_pos k0, if_pos j10, ep_V, z0, ep_iM _ _ _ _ _ (by decide), q41, if_pos k1, if_pos j11, ep_V, z1, ep_rM _ _ 154 (by decide), ep_iM _ _ _ _ _ (by decide), q43, if_pos k3, if_pos i12, ep_V, z3, ep_rM _ _ 154 (by decide), ep_iM _ _ _ _ _ (by decide), if_pos i12, ep_V, ep_iM _ _ _ _ _ (by decide), ep_V, ep_iM _ _ _ _ _ (by decide)]
          rfl
        · rw [if_neg y2, if_neg y2, if_pos j10]
    by_cases hH : H = 0
    · refine ep_tgo (F := fun s => some (-1, s)) (G := fun s => some (-1, s)) (ep_Tc_mono (ep_Tc_no hR ho (ep_L_rf m) (-1) (fun m0 => rfl) (fun c0 => rfl)) (by omega)) hRm ho h83 h85 (fun m0 => ?_) (fun c0 => ?_)
      · unfold eF_3_serve
        rw [ep_V, ep_V, c10, c11, hHX, ep_V, c17, ep_J, ep_J, if_neg f32, if_neg f33, if_neg (by rw [f44]; decide), if_neg (by rw [f44]; decide), if_neg (by rw [f44]; decide), if_neg (by rw [f44]; decide), if_neg (by rw [f44]; decide), if_neg (by rw [f44]; decide), if_neg (by rw [f44]; decide), if_neg (by rw [f44]; decide), if_neg (by rw [f44]; decide), if_neg (by rw [f44]; decide), if_pos f44, if_pos hH]
        rfl
      · rw [pre, ep_sb, if_pos j10]
        by_cases y1 : m.1 153 t = 0
        · rw [if_pos y1]
        · have y2 := (hH0 hH).resolve_left y1
          rw [if_neg y1, if_neg (fun z => y2 (hadd.mp z))]
    · obtain ⟨y1, y2⟩ := hH1 hH
      obtain ⟨X, hXd⟩ : ∃ X : Nat → Int32, X = upd (upd (c.2.1 3 t) 10 (m.1 154 (4 * t))) 11 (m.1 154 (4 * t + 1)) := ⟨_, rfl⟩
      obtain ⟨Y, hYd⟩ : ∃ Y : Nat → Int32, Y = upd (upd (m.1 129) (32 * (2 + t) + 10) (m.1 154 (4 * t))) (32 * (2 + t) + 11) (m.1 154 (4 * t + 1)) := ⟨_, rfl⟩
      have R1 := ep_R_thr hR ht (X := X) (Y := Y) (pc := m.1 154 (4 * t + 2) + P) (hd := m.1 154 (4 * t + 3)) (hl := 0) (fun _ j hj => by
        rw [hXd, hYd]
        unfold upd
        by_cases w1 : j = 11
        · rw [if_pos w1, if_pos (by omega)]
        · rw [if_neg w1, if_neg (show ¬ 32 * (2 + t) + j = 32 * (2 + t) + 11 by omega)]
          by_cases w2 : j = 10
          · rw [if_pos w2, if_pos (by omega)]
          · rw [if_neg w2, if_neg (show ¬ 32 * (2 + t) + j = 32 * (2 + t) + 10 by omega)]
            exact gx j hj) (fun k hk => by
        rw [hYd, ep_upd_ne (by omega), ep_upd_ne (by omega)]) (hadd.mpr y2) fa5 (Or.inl rfl)
      refine ⟨ep_cth c t X (m.1 154 (4 * t + 2) + P) (m.1 154 (4 * t + 3)) 0, ep_mI (ep_mI (ep_mI (ep_mI (ep_mI m 129 (32 * (2 + t) + 10) (m.1 154 (4 * t))) 129 (32 * (2 + t) + 11) (m.1 154 (4 * t + 1))) 152 t (m.1 154 (4 * t + 3))) 153 t (eh_nz 0)) 127 85 (m.1 154 (4 * t + 2) + P), fun m0 => ?_, fun c0 => ?_, h83, ?_⟩
      · have gb : eF_2_goBack (ep_mk c m0) (eh_fp (nI t)) P = some (ep_mk (ep_cth c t X (m.1 154 (4 * t + 2) + P) (m.1 154 (4 * t + 3)) 0) m0) := by
          have s10 := gf.2.2.2.2.2.2.2.2.1
          have s11 := gf.2.2.2.2.2.2.2.2.2.1
          have s12 := gf.2.2.2.2.2.2.2.2.2.2.1
          have s13 := gf.2.2.2.2.2.2.2.2.2.2.2
          unfold eF_2_goBack
          rw [ep_V, ep_rF0 _ _ ht, s10, ep_iF1 _ _ _ _ ht, ep_V, ep_rF0 _ _ ht, ep_cHi _ _ _ _ _ _ _ (by decide), s11, ep_iF1 _ _ _ _ ht, ep_V, ep_rF0 _ _ ht, ep_cHi _ _ _ _ _ _ _ (by decide), ep_cHi _ _ _ _ _ _ _ (by decide), s12, ep_iF0 _ _ _ _ ht, ep_V, ep_rF0 _ _ ht, ep_cHs, ep_upd_ne (by decide), ep_cHi _ _ _ _ _ _ _ (by decide), ep_cHi _ _ _ _ _ _ _ (by decide), s13, ep_iF0 _ _ _ _ ht, ep_V, ep_iF0 _ _ _ _ ht]
          congr 2
          rw [hXd]
          refine Prod.ext rfl (Prod.ext ?_ rfl)
          funext i j
          simp only [ep_cth, ep_cH, ep_cG, ep_ug]
          by_cases h1 : i = 2
          · subst h1
            by_cases h2 : j = t
            · subst h2; simp
            · simp [h2]
          · by_cases h3 : i = 3
            · subst h3
              by_cases h2 : j = t
              · subst h2; simp
              · simp [h2]
            · simp [h1, h3]
        unfold eF_3_serve
        rw [ep_V, ep_V, c10, c11, hHX, ep_V, c17, ep_J, ep_J, if_neg f32, if_neg f33, if_neg (by rw [f44]; decide), if_neg (by rw [f44]; decide), if_neg (by rw [f44]; decide), if_neg (by rw [f44]; decide), if_neg (by rw [f44]; decide), if_neg (by rw [f44]; decide), if_neg (by rw [f44]; decide), if_neg (by rw [f44]; decide), if_neg (by rw [f44]; decide), if_neg (by rw [f44]; decide), if_pos f44, if_neg hH]
        exact ep_bnd gb rfl
      · rw [pre, if_neg y1, if_pos (hadd.mpr y2)]
      · subst hYd
        exact ep_R_mono ⟨R1.1, R1.2.1, R1.2.2.1, R1.2.2.2.1, R1.2.2.2.2.1, R1.2.2.2.2.2.1, R1.2.2.2.2.2.2.1, R1.2.2.2.2.2.2.2.1, R1.2.2.2.2.2.2.2.2.1, R1.2.2.2.2.2.2.2.2.2.1, R1.2.2.2.2.2.2.2.2.2.2.1, R1.2.2.2.2.2.2.2.2.2.2.2.1, R1.2.2.2.2.2.2.2.2.2.2.2.2.1, R1.2.2.2.2.2.2.2.2.2.2.2.2.2.1, R1.2.2.2.2.2.2.2.2.2.2.2.2.2.2.1, R1.2.2.2.2.2.2.2.2.2.2.2.2.2.2.2.1, R1.2.2.2.2.2.2.2.2.2.2.2.2.2.2.2.2.1, R1.2.2.2.2.2.2.2.2.2.2.2.2.2.2.2.2.2.1, R1.2.2.2.2.2.2.2.2.2.2.2.2.2.2.2.2.2.2.1, R1.2.2.2.2.2.2.2.2.2.2.2.2.2.2.2.2.2.2.2.1, R1.2.2.2.2.2.2.2.2.2.2.2.2.2.2.2.2.2.2.2.2.1, R1.2.2.2.2.2.2.2.2.2.2.2.2.2.2.2.2.2.2.2.2.2.1, R1.2.2.2.2.2.2.2.2.2.2.2.2.2.2.2.2.2.2.2.2.2.2.1, R1.2.2.2.2.2.2.2.2.2.2.2.2.2.2.2.2.2.2.2.2.2.2.2.1, R1.2.2.2.2.2.2.2.2.2.2.2.2.2.2.2.2.2.2.2.2.2.2.2.2.1, R1.2.2.2.2.2.2.2.2.2.2.2.2.2.2.2.2.2.2.2.2.2.2.2.2.2.1, R1.2.2.2.2.2.2.2.2.2.2.2.2.2.2.2.2.2.2.2.2.2.2.2.2.2.2.1, R1.2.2.2.2.2.2.2.2.2.2.2.2.2.2.2.2.2.2.2.2.2.2.2.2.2.2.2.1, R1.2.2.2.2.2.2.2.2.2.2.2.2.2.2.2.2.2.2.2.2.2.2.2.2.2.2.2.2.1, R1.2.2.2.2.2.2.2.2.2.2.2.2.2.2.2.2.2.2.2.2.2.2.2.2.2.2.2.2.2.1, R1.2.2.2.2.2.2.2.2.2.2.2.2.2.2.2.2.2.2.2.2.2.2.2.2.2.2.2.2.2.2.1, R1.2.2.2.2.2.2.2.2.2.2.2.2.2.2.2.2.2.2.2.2.2.2.2.2.2.2.2.2.2.2.2.1, R1.2.2.2.2.2.2.2.2.2.2.2.2.2.2.2.2.2.2.2.2.2.2.2.2.2.2.2.2.2.2.2.2.1, R1.2.2.2.2.2.2.2.2.2.2.2.2.2.2.2.2.2.2.2.2.2.2.2.2.2.2.2.2.2.2.2.2.2⟩ (by omega)
  by_cases f34 : A = 34
  · refine go (ep_Tc_mono (ep_attest_ hR (by omega) ho P Q) (by omega)) f32 f33 f44 (fun m0 => ?_) (fun c0 => ?_)
    · unfold eF_3_serve
      rw [ep_V, ep_V, c10, c11, hHX, ep_V, c17, ep_J, ep_J, if_neg f32, if_neg f33, if_pos f34]
      try rfl
    · unfold eF_12_answered
      rw [ep_J, ep_J, if_pos f34]
      try exact ep_beta _
      try rfl
  by_cases f35 : A = 35
  · refine go (ep_Tc_mono (ep_giveKey_ hR (by omega) ho P Q) (by omega)) f32 f33 f44 (fun m0 => ?_) (fun c0 => ?_)
    · unfold eF_3_serve
      rw [ep_V, ep_V, c10, c11, hHX, ep_V, c17, ep_J, ep_J, if_neg f32, if_neg f33, if_neg f34, if_pos f35]
      try rfl
    · unfold eF_12_answered
      rw [ep_J, ep_J, if_neg f34, if_pos f35]
      try rfl
  by_cases f36 : A = 36
  · refine go (ep_Tc_mono (ep_giveRandom_ hR (by omega) ho P Q) (by omega)) f32 f33 f44 (fun m0 => ?_) (fun c0 => ?_)
    · unfold eF_3_serve
      rw [ep_V, ep_V, c10, c11, hHX, ep_V, c17, ep_J, ep_J, if_neg f32, if_neg f33, if_neg f34, if_neg f35, if_pos f36]
      try rfl
    · unfold eF_12_answered
      rw [ep_J, ep_J, if_neg f34, if_neg f35, if_pos f36]
      try rfl
  by_cases f37 : A = 37
  · refine go (ep_Tc_mono (ep_verify_ hR ho P) (by omega)) f32 f33 f44 (fun m0 => ?_) (fun c0 => ?_)
    · unfold eF_3_serve
      rw [ep_V, ep_V, c10, c11, hHX, ep_V, c17, ep_J, ep_J, if_neg f32, if_neg f33, if_neg f34, if_neg f35, if_neg f36, if_pos f37]
      try rfl
    · unfold eF_12_answered
      rw [ep_J, ep_J, if_neg f34, if_neg f35, if_neg f36, if_pos f37]
      try rfl
  by_cases f38 : A = 38
  · refine go (ep_Tc_mono (ep_accept_ hR (by omega) ho P) (by omega)) f32 f33 f44 (fun m0 => ?_) (fun c0 => ?_)
    · unfold eF_3_serve
      rw [ep_V, ep_V, c10, c11, hHX, ep_V, c17, ep_J, ep_J, if_neg f32, if_neg f33, if_neg f34, if_neg f35, if_neg f36, if_neg f37, if_pos f38]
      try rfl
    · unfold eF_12_answered
      rw [ep_J, ep_J, if_neg f34, if_neg f35, if_neg f36, if_neg f37, if_pos f38]
      try exact ep_beta _
      try rfl
  by_cases f39 : A = 39
  · refine go (ep_Tc_mono (ep_digest_ hR (by omega) ho P (eh_ep (nI e) + 5) 159 192 (32 * e) (32 * nI e) (ep_mul (b := 32) rfl rfl) (c.2.1 9 e) (fun X Y g v m0 => ep_rE _ _ 5 he (by decide)) (by decide) (by omega) (by decide) (fun j hj => hR.2.2.2.2.2.2.2.2.2.2.2.2.2.2.2.2.2.2.1 e he j hj)) (by omega)) f32 f33 f44 (fun m0 => ?_) (fun c0 => ?_)
    · unfold eF_3_serve
      rw [ep_V, ep_V, c10, c11, hHX, ep_V, c17, ep_J, ep_J, if_neg f32, if_neg f33, if_neg f34, if_neg f35, if_neg f36, if_neg f37, if_neg f38, if_pos f39]
      rw [f3, if_pos i6]
      try rfl
    · unfold eF_12_answered
      rw [ep_J, ep_J, if_neg f34, if_neg f35, if_neg f36, if_neg f37, if_neg f38, if_pos f39]
      try rfl
  by_cases f40 : A = 40
  · refine go (ep_Tc_mono (ep_send_ hR (by omega) ho P Q) (by omega)) f32 f33 f44 (fun m0 => ?_) (fun c0 => ?_)
    · unfold eF_3_serve
      rw [ep_V, ep_V, c10, c11, hHX, ep_V, c17, ep_J, ep_J, if_neg f32, if_neg f33, if_neg f34, if_neg f35, if_neg f36, if_neg f37, if_neg f38, if_neg f39, if_pos f40]
      try rfl
    · unfold eF_12_answered
      rw [ep_J, ep_J, if_neg f34, if_neg f35, if_neg f36, if_neg f37, if_neg f38, if_neg f39, if_pos f40]
      try exact ep_beta _
      try rfl
  by_cases f41 : A = 41
  · refine go (ep_Tc_mono (ep_receive_ hR (by omega) ho P) (by omega)) f32 f33 f44 (fun m0 => ?_) (fun c0 => ?_)
    · unfold eF_3_serve
      rw [ep_V, ep_V, c10, c11, hHX, ep_V, c17, ep_J, ep_J, if_neg f32, if_neg f33, if_neg f34, if_neg f35, if_neg f36, if_neg f37, if_neg f38, if_neg f39, if_neg f40, if_pos f41]
      try rfl
    · unfold eF_12_answered
      rw [ep_J, ep_J, if_neg f34, if_neg f35, if_neg f36, if_neg f37, if_neg f38, if_neg f39, if_neg f40, if_pos f41]
      try exact ep_beta _
      try rfl
  by_cases f42 : A = 42
  · refine go (ep_Tc_mono (ep_count_ hR (by omega) ho) (by omega)) f32 f33 f44 (fun m0 => ?_) (fun c0 => ?_)
    · unfold eF_3_serve
      rw [ep_V, ep_V, c10, c11, hHX, ep_V, c17, ep_J, ep_J, if_neg f32, if_neg f33, if_neg f34, if_neg f35, if_neg f36, if_neg f37, if_neg f38, if_neg f39, if_neg f40, if_neg f41, if_pos f42]
      try rfl
    · unfold eF_12_answered
      rw [ep_J, ep_J, if_neg f34, if_neg f35, if_neg f36, if_neg f37, if_neg f38, if_neg f39, if_neg f40, if_neg f41, if_pos f42]
      try exact ep_beta _
      try rfl
  by_cases f43 : A = 43
  · refine go (ep_Tc_mono (ep_setHandler_ hR ho P) (by omega)) f32 f33 f44 (fun m0 => ?_) (fun c0 => ?_)
    · unfold eF_3_serve
      rw [ep_V, ep_V, c10, c11, hHX, ep_V, c17, ep_J, ep_J, if_neg f32, if_neg f33, if_neg f34, if_neg f35, if_neg f36, if_neg f37, if_neg f38, if_neg f39, if_neg f40, if_neg f41, if_neg f42, if_pos f43]
      try rfl
    · unfold eF_12_answered
      rw [ep_J, ep_J, if_neg f34, if_neg f35, if_neg f36, if_neg f37, if_neg f38, if_neg f39, if_neg f40, if_neg f41, if_neg f42, if_pos f43]
      try rfl
  by_cases f45 : A = 45
  · refine go (ep_Tc_mono (ep_path45 hR (by omega) ho P) (by omega)) f32 f33 f44 (fun m0 => ?_) (fun c0 => ?_)
    · unfold eF_3_serve
      rw [ep_V, ep_V, c10, c11, hHX, ep_V, c17, ep_J, ep_J, if_neg f32, if_neg f33, if_neg f34, if_neg f35, if_neg f36, if_neg f37, if_neg f38, if_neg f39, if_neg f40, if_neg f41, if_neg f42, if_neg f43, if_neg f44, if_neg (by rw [f45]; decide), if_neg (by rw [f45]; decide)]
      show Option.bind (eF_3_answerOfPath (ep_mk c m0) (eh_fp (nI t)) A P) _ = _
      rw [f45]
      try rfl
    · unfold eF_12_answered
      rw [ep_J, ep_J, if_neg f34, if_neg f35, if_neg f36, if_neg f37, if_neg f38, if_neg f39, if_neg f40, if_neg f41, if_neg f42, if_neg f43, if_pos f45]
      try rfl
  by_cases f46 : A = 46
  · refine go (ep_Tc_mono (ep_path468 hR (by omega) ho (Or.inl rfl) P) (by omega)) f32 f33 f44 (fun m0 => ?_) (fun c0 => ?_)
    · unfold eF_3_serve
      rw [ep_V, ep_V, c10, c11, hHX, ep_V, c17, ep_J, ep_J, if_neg f32, if_neg f33, if_neg f34, if_neg f35, if_neg f36, if_neg f37, if_neg f38, if_neg f39, if_neg f40, if_neg f41, if_neg f42, if_neg f43, if_neg f44, if_neg (by rw [f46]; decide), if_neg (by rw [f46]; decide)]
      show Option.bind (eF_3_answerOfPath (ep_mk c m0) (eh_fp (nI t)) A P) _ = _
      rw [f46]
      try rfl
    · unfold eF_12_answered
      rw [ep_J, ep_J, if_neg f34, if_neg f35, if_neg f36, if_neg f37, if_neg f38, if_neg f39, if_neg f40, if_neg f41, if_neg f42, if_neg f43, if_neg f45, if_pos f46]
      try rw [f46]
      try rfl
  by_cases f47 : A = 47
  · refine go (ep_Tc_mono (ep_path468 hR (by omega) ho (Or.inr (Or.inl rfl)) P) (by omega)) f32 f33 f44 (fun m0 => ?_) (fun c0 => ?_)
    · unfold eF_3_serve
      rw [ep_V, ep_V, c10, c11, hHX, ep_V, c17, ep_J, ep_J, if_neg f32, if_neg f33, if_neg f34, if_neg f35, if_neg f36, if_neg f37, if_neg f38, if_neg f39, if_neg f40, if_neg f41, if_neg f42, if_neg f43, if_neg f44, if_neg (by rw [f47]; decide), if_neg (by rw [f47]; decide)]
      show Option.bind (eF_3_answerOfPath (ep_mk c m0) (eh_fp (nI t)) A P) _ = _
      rw [f47]
      try rfl
    · unfold eF_12_answered
      rw [ep_J, ep_J, if_neg f34, if_neg f35, if_neg f36, if_neg f37, if_neg f38, if_neg f39, if_neg f40, if_neg f41, if_neg f42, if_neg f43, if_neg f45, if_neg f46, if_pos f47]
      try rw [f47]
      try rfl
  by_cases f48 : A = 48
  · refine go (ep_Tc_mono (ep_path468 hR (by omega) ho (Or.inr (Or.inr rfl)) P) (by omega)) f32 f33 f44 (fun m0 => ?_) (fun c0 => ?_)
    · unfold eF_3_serve
      rw [ep_V, ep_V, c10, c11, hHX, ep_V, c17, ep_J, ep_J, if_neg f32, if_neg f33, if_neg f34, if_neg f35, if_neg f36, if_neg f37, if_neg f38, if_neg f39, if_neg f40, if_neg f41, if_neg f42, if_neg f43, if_neg f44, if_neg (by rw [f48]; decide), if_neg (by rw [f48]; decide)]
      show Option.bind (eF_3_answerOfPath (ep_mk c m0) (eh_fp (nI t)) A P) _ = _
      rw [f48]
      try rfl
    · unfold eF_12_answered
      rw [ep_J, ep_J, if_neg f34, if_neg f35, if_neg f36, if_neg f37, if_neg f38, if_neg f39, if_neg f40, if_neg f41, if_neg f42, if_neg f43, if_neg f45, if_neg f46, if_neg f47, if_pos f48]
      try rw [f48]
      try rfl
  by_cases f49 : A = 49
  · refine go (ep_Tc_mono (ep_extend_ hR ho P) (by omega)) f32 f33 f44 (fun m0 => ?_) (fun c0 => ?_)
    · unfold eF_3_serve
      rw [ep_V, ep_V, c10, c11, hHX, ep_V, c17, ep_J, ep_J, if_neg f32, if_neg f33, if_neg f34, if_neg f35, if_neg f36, if_neg f37, if_neg f38, if_neg f39, if_neg f40, if_neg f41, if_neg f42, if_neg f43, if_neg f44, if_pos f49]
      try rfl
    · unfold eF_12_answered
      rw [ep_J, ep_J, if_neg f34, if_neg f35, if_neg f36, if_neg f37, if_neg f38, if_neg f39, if_neg f40, if_neg f41, if_neg f42, if_neg f43, if_neg f45, if_neg f46, if_neg f47, if_neg f48, if_pos f49]
      try rfl
  by_cases f50 : A = 50
  · refine go (ep_Tc_mono (ep_digest_ hR (by omega) ho P 34 187 32 0 0 rfl (c.1 34) (fun X Y g v m0 => by rw [ep_rC1 _ _ _ (by decide)]; rfl) (by decide) (by decide) (by decide) (fun j hj => by rw [Nat.zero_add]; exact hR.2.2.2.2.2.2.2.2.2.2.2.2.2.2.2.2.2.2.2.2.2.2.2.2.2.2.1 j hj)) (by omega)) f32 f33 f44 (fun m0 => ?_) (fun c0 => ?_)
    · unfold eF_3_serve
      rw [ep_V, ep_V, c10, c11, hHX, ep_V, c17, ep_J, ep_J, if_neg f32, if_neg f33, if_neg f34, if_neg f35, if_neg f36, if_neg f37, if_neg f38, if_neg f39, if_neg f40, if_neg f41, if_neg f42, if_neg f43, if_neg f44, if_neg f49, if_pos f50]
      try rfl
    · unfold eF_12_answered
      rw [ep_J, ep_J, if_neg f34, if_neg f35, if_neg f36, if_neg f37, if_neg f38, if_neg f39, if_neg f40, if_neg f41, if_neg f42, if_neg f43, if_neg f45, if_neg f46, if_neg f47, if_neg f48, if_neg f49, if_pos f50]
      try rfl
  refine go (F := fun s => some (-1, s)) (G := fun s => some (-1, s)) (ep_Tc_mono (ep_Tc_no hR ho (ep_L_rf m) (-1) (fun m0 => rfl) (fun c0 => rfl)) (by omega)) f32 f33 f44 (fun m0 => ?_) (fun c0 => ?_)
  · unfold eF_3_serve
    rw [ep_V, ep_V, c10, c11, hHX, ep_V, c17, ep_J, ep_J, if_neg f32, if_neg f33, if_neg f34, if_neg f35, if_neg f36, if_neg f37, if_neg f38, if_neg f39, if_neg f40, if_neg f41, if_neg f42, if_neg f43, if_neg f44, if_neg f49, if_neg f50]
    show Option.bind (eF_3_answerOfPath (ep_mk c m0) (eh_fp (nI t)) A P) _ = _
    rw [ep_pathno hR ho ⟨f45, f46, f47, f48⟩]
  · unfold eF_12_answered
    rw [ep_J, ep_J, if_neg f34, if_neg f35, if_neg f36, if_neg f37, if_neg f38, if_neg f39, if_neg f40, if_neg f41, if_neg f42, if_neg f43, if_neg f45, if_neg f46, if_neg f47, if_neg f48, if_neg f49, if_neg f50]
/-! one instruction -/
theorem ep_bs {α : Type} (x : Option α) : Option.bind x (fun q => some q) = x := by cases x <;> rfl
def ep_sw (s : eh_F) (q5 : Int32) : Option eh_F := eh_V ((q5 &&& 127) : Int32) (fun x6 => eh_J (fun (s8 : eh_F) => some s8) (fun j7 => if x6 = 3 then (Option.bind (eF_7_load s q5) (fun q11 => j7 q11)) else if x6 = 15 then (Option.bind (eF_7_fence s q5) (fun q13 => j7 q13)) else if x6 = 19 then (Option.bind (eF_7_reckonWithNumber s q5) (fun q15 => j7 q15)) else if x6 = 23 then (Option.bind (eF_7_put s q5 ((s.1 124 8) + (q5 &&& (-4096)))) (fun q17 => j7 q17)) else if x6 = 35 then (Option.bind (eF_7_store s q5) (fun q19 => j7 q19)) else if x6 = 47 then (Option.bind (eF_7_reckonInMemory s q5) (fun q21 => j7 q21)) else if x6 = 51 then (Option.bind (eF_7_reckonWithRegister s q5) (fun q23 => j7 q23)) else if x6 = 55 then (Option.bind (eF_7_put s q5 (q5 &&& (-4096))) (fun q25 => j7 q25)) else if x6 = 99 then (Option.bind (eF_7_branch s q5) (fun q27 => j7 q27)) else if x6 = 103 then (Option.bind (eF_7_jumpToRegister s q5) (fun q29 => j7 q29)) else if x6 = 111 then (Option.bind (eF_7_offsetJ s q5) (fun q31 => Option.bind (eF_7_jump s q5 ((s.1 124 8) + q31)) (fun q32 => j7 q32))) else if x6 = 115 then (Option.bind (eF_7_special s q5) (fun q34 => j7 q34)) else (Option.bind (eF_7_fail s 2 q5) (fun q35 => j7 q35))))
theorem ep_exec {N : Nat} {c : ep_C} {m : ep_M} (hR : ep_R N c m) (hN : N < 2 ^ 28) {h : Nat} {pc : Int32} (hQ : ep_Q c m h pc) (x : Int32) : (∃ c' m', (∀ m0, ep_sw (ep_mk c m0) x = some (ep_mk c' m0)) ∧ (∀ c0, eF_12_execute (ep_mk c0 m) (nI h) x pc = some (ep_mk c0 m')) ∧ ep_D (N + 1) c' m' h) ∨ ((m.1 144 h = -1 → m.1 131 h = 1) ∧ (∀ m0, ep_sw (ep_mk c m0) x = some (ep_mk (ep_cI c 124 12 1) m0)) ∧ (∀ c0, eF_12_execute (ep_mk c0 m) (nI h) x pc = eF_12_calls (ep_mk c0 m) (nI h) pc)) := by
  obtain ⟨xi, xj, w, hX⟩ := ep_Xof hR hQ.1
  have h8 : ∀ m0, (ep_mk c m0).1 124 8 = pc := fun m0 => by rw [ep_rC2 _ _ _ (by decide) (by decide)]; exact hQ.2.1
  by_cases f3 : x &&& 127 = 3
  · left
    obtain ⟨c', m', a, b, d⟩ := ep_loadI hR hQ hX x
    refine ⟨c', m', fun m0 => ?_, fun c0 => ?_, ep_D_mono d (by omega)⟩
    · unfold ep_sw
      rw [ep_V, ep_J, if_pos f3]
      exact ep_bnd (a m0) rfl
    · unfold eF_12_execute
      rw [ep_V, ep_V, ep_V, ep_V, ep_V, ep_fd_m, ep_ff_m, ep_fa_m, ep_fb_m, ep_fg_c, ep_get hX (ep_fa_l x), ep_sb, ep_get hX (ep_fb_l x), ep_sb, ep_V, ep_V, ep_J, if_pos f3]
      exact ep_bnd (b c0) rfl
  by_cases f15 : x &&& 127 = 15
  · left
    obtain ⟨c', m', a, b, d⟩ := ep_fence hR hQ x
    refine ⟨c', m', fun m0 => ?_, fun c0 => ?_, ep_D_mono d (by omega)⟩
    · unfold ep_sw
      rw [ep_V, ep_J, if_neg f3, if_pos f15]
      exact ep_bnd (a m0) rfl
    · unfold eF_12_execute
      rw [ep_V, ep_V, ep_V, ep_V, ep_V, ep_fd_m, ep_ff_m, ep_fa_m, ep_fb_m, ep_fg_c, ep_get hX (ep_fa_l x), ep_sb, ep_get hX (ep_fb_l x), ep_sb, ep_V, ep_V, ep_J, if_neg f3, if_pos f15]
      exact b c0
  by_cases f19 : x &&& 127 = 19
  · left
    obtain ⟨c', m', a, b, d⟩ := ep_imm hR hQ hX x
    refine ⟨c', m', fun m0 => ?_, fun c0 => ?_, ep_D_mono d (by omega)⟩
    · unfold ep_sw
      rw [ep_V, ep_J, if_neg f3, if_neg f15, if_pos f19]
      exact ep_bnd (a m0) rfl
    · unfold eF_12_execute
      rw [ep_V, ep_V, ep_V, ep_V, ep_V, ep_fd_m, ep_ff_m, ep_fa_m, ep_fb_m, ep_fg_c, ep_get hX (ep_fa_l x), ep_sb, ep_get hX (ep_fb_l x), ep_sb, ep_V, ep_V, ep_J, if_neg f3, if_neg f15, if_pos f19]
      exact ep_bnd (b c0) rfl
  by_cases f23 : x &&& 127 = 23
  · left
    obtain ⟨c', m', a, b, d⟩ := ep_putD hR hQ x (pc + (x &&& (-4096)))
    refine ⟨c', m', fun m0 => ?_, fun c0 => ?_, ep_D_mono d (by omega)⟩
    · unfold ep_sw
      rw [ep_V, ep_J, if_neg f3, if_neg f15, if_neg f19, if_pos f23]
      rw [h8]
      exact ep_bnd (a m0) rfl
    · unfold eF_12_execute
      rw [ep_V, ep_V, ep_V, ep_V, ep_V, ep_fd_m, ep_ff_m, ep_fa_m, ep_fb_m, ep_fg_c, ep_get hX (ep_fa_l x), ep_sb, ep_get hX (ep_fb_l x), ep_sb, ep_V, ep_V, ep_J, if_neg f3, if_neg f15, if_neg f19, if_pos f23]
      exact ep_bnd (b c0) rfl
  by_cases f35 : x &&& 127 = 35
  · left
    obtain ⟨c', m', a, b, d⟩ := ep_storeI hR hN hQ hX x
    refine ⟨c', m', fun m0 => ?_, fun c0 => ?_, ep_D_mono d (by omega)⟩
    · unfold ep_sw
      rw [ep_V, ep_J, if_neg f3, if_neg f15, if_neg f19, if_neg f23, if_pos f35]
      exact ep_bnd (a m0) rfl
    · unfold eF_12_execute
      rw [ep_V, ep_V, ep_V, ep_V, ep_V, ep_fd_m, ep_ff_m, ep_fa_m, ep_fb_m, ep_fg_c, ep_get hX (ep_fa_l x), ep_sb, ep_get hX (ep_fb_l x), ep_sb, ep_V, ep_V, ep_J, if_neg f3, if_neg f15, if_neg f19, if_neg f23, if_pos f35]
      exact b c0
  by_cases f47 : x &&& 127 = 47
  · left
    obtain ⟨c', m', a, b, d⟩ := ep_amo hR hN hQ hX x
    refine ⟨c', m', fun m0 => ?_, fun c0 => ?_, ep_D_mono d (by omega)⟩
    · unfold ep_sw
      rw [ep_V, ep_J, if_neg f3, if_neg f15, if_neg f19, if_neg f23, if_neg f35, if_pos f47]
      exact ep_bnd (a m0) rfl
    · unfold eF_12_execute
      rw [ep_V, ep_V, ep_V, ep_V, ep_V, ep_fd_m, ep_ff_m, ep_fa_m, ep_fb_m, ep_fg_c, ep_get hX (ep_fa_l x), ep_sb, ep_get hX (ep_fb_l x), ep_sb, ep_V, ep_V, ep_J, if_neg f3, if_neg f15, if_neg f19, if_neg f23, if_neg f35, if_pos f47]
      rw [ep_how]
      exact ep_bnd (b c0) rfl
  by_cases f51 : x &&& 127 = 51
  · left
    obtain ⟨c', m', a, b, d⟩ := ep_op hR hQ hX x
    refine ⟨c', m', fun m0 => ?_, fun c0 => ?_, ep_D_mono d (by omega)⟩
    · unfold ep_sw
      rw [ep_V, ep_J, if_neg f3, if_neg f15, if_neg f19, if_neg f23, if_neg f35, if_neg f47, if_pos f51]
      exact ep_bnd (a m0) rfl
    · unfold eF_12_execute
      rw [ep_V, ep_V, ep_V, ep_V, ep_V, ep_fd_m, ep_ff_m, ep_fa_m, ep_fb_m, ep_fg_c, ep_get hX (ep_fa_l x), ep_sb, ep_get hX (ep_fb_l x), ep_sb, ep_V, ep_V, ep_J, if_neg f3, if_neg f15, if_neg f19, if_neg f23, if_neg f35, if_neg f47, if_pos f51]
      exact ep_bnd (b c0) rfl
  by_cases f55 : x &&& 127 = 55
  · left
    obtain ⟨c', m', a, b, d⟩ := ep_putD hR hQ x (x &&& (-4096))
    refine ⟨c', m', fun m0 => ?_, fun c0 => ?_, ep_D_mono d (by omega)⟩
    · unfold ep_sw
      rw [ep_V, ep_J, if_neg f3, if_neg f15, if_neg f19, if_neg f23, if_neg f35, if_neg f47, if_neg f51, if_pos f55]
      exact ep_bnd (a m0) rfl
    · unfold eF_12_execute
      rw [ep_V, ep_V, ep_V, ep_V, ep_V, ep_fd_m, ep_ff_m, ep_fa_m, ep_fb_m, ep_fg_c, ep_get hX (ep_fa_l x), ep_sb, ep_get hX (ep_fb_l x), ep_sb, ep_V, ep_V, ep_J, if_neg f3, if_neg f15, if_neg f19, if_neg f23, if_neg f35, if_neg f47, if_neg f51, if_pos f55]
      exact ep_bnd (b c0) rfl
  by_cases f99 : x &&& 127 = 99
  · left
    obtain ⟨c', m', a, b, d⟩ := ep_branch hR hQ hX x
    refine ⟨c', m', fun m0 => ?_, fun c0 => ?_, ep_D_mono d (by omega)⟩
    · unfold ep_sw
      rw [ep_V, ep_J, if_neg f3, if_neg f15, if_neg f19, if_neg f23, if_neg f35, if_neg f47, if_neg f51, if_neg f55, if_pos f99]
      exact ep_bnd (a m0) rfl
    · unfold eF_12_execute
      rw [ep_V, ep_V, ep_V, ep_V, ep_V, ep_fd_m, ep_ff_m, ep_fa_m, ep_fb_m, ep_fg_c, ep_get hX (ep_fa_l x), ep_sb, ep_get hX (ep_fb_l x), ep_sb, ep_V, ep_V, ep_J, if_neg f3, if_neg f15, if_neg f19, if_neg f23, if_neg f35, if_neg f47, if_neg f51, if_neg f55, if_pos f99]
      exact b c0
  by_cases f103 : x &&& 127 = 103
  · left
    obtain ⟨c', m', a, b, d⟩ := ep_jalr hR hQ hX x
    refine ⟨c', m', fun m0 => ?_, fun c0 => ?_, ep_D_mono d (by omega)⟩
    · unfold ep_sw
      rw [ep_V, ep_J, if_neg f3, if_neg f15, if_neg f19, if_neg f23, if_neg f35, if_neg f47, if_neg f51, if_neg f55, if_neg f99, if_pos f103]
      exact ep_bnd (a m0) rfl
    · unfold eF_12_execute
      rw [ep_V, ep_V, ep_V, ep_V, ep_V, ep_fd_m, ep_ff_m, ep_fa_m, ep_fb_m, ep_fg_c, ep_get hX (ep_fa_l x), ep_sb, ep_get hX (ep_fb_l x), ep_sb, ep_V, ep_V, ep_J, if_neg f3, if_neg f15, if_neg f19, if_neg f23, if_neg f35, if_neg f47, if_neg f51, if_neg f55, if_neg f99, if_pos f103]
      exact b c0
  by_cases f111 : x &&& 127 = 111
  · left
    obtain ⟨c', m', a, b, d⟩ := ep_jump_ hR hQ x (pc + ((((eh_shl (eh_shr x 31) 20) ||| (x &&& 1044480)) ||| (eh_shl ((eh_shr x 20) &&& 1) 11)) ||| (eh_shl ((eh_shr x 21) &&& 1023) 1)))
    refine ⟨c', m', fun m0 => ?_, fun c0 => ?_, ep_D_mono d (by omega)⟩
    · unfold ep_sw
      rw [ep_V, ep_J, if_neg f3, if_neg f15, if_neg f19, if_neg f23, if_neg f35, if_neg f47, if_neg f51, if_neg f55, if_neg f99, if_neg f103, if_pos f111]
      have hof : eF_7_offsetJ (ep_mk c m0) x = some ((((eh_shl (eh_shr x 31) 20) ||| (x &&& 1044480)) ||| ((eh_ushr x 9) &&& 2048)) ||| ((eh_ushr x 20) &&& 2046)) := rfl
      rw [hof, ep_sb, h8, ep_offJ]
      exact ep_bnd (a m0) rfl
    · unfold eF_12_execute
      rw [ep_V, ep_V, ep_V, ep_V, ep_V, ep_fd_m, ep_ff_m, ep_fa_m, ep_fb_m, ep_fg_c, ep_get hX (ep_fa_l x), ep_sb, ep_get hX (ep_fb_l x), ep_sb, ep_V, ep_V, ep_J, if_neg f3, if_neg f15, if_neg f19, if_neg f23, if_neg f35, if_neg f47, if_neg f51, if_neg f55, if_neg f99, if_neg f103, if_pos f111]
      rw [ep_V]
      exact b c0
  by_cases f115 : x &&& 127 = 115
  · have sw : ∀ m0, ep_sw (ep_mk c m0) x = eF_7_special (ep_mk c m0) x := fun m0 => by
      unfold ep_sw
      rw [ep_V, ep_J, if_neg f3, if_neg f15, if_neg f19, if_neg f23, if_neg f35, if_neg f47, if_neg f51, if_neg f55, if_neg f99, if_neg f103, if_neg f111, if_pos f115]
      exact ep_bs _
    have ex : ∀ c0, eF_12_execute (ep_mk c0 m) (nI h) x pc = (if nI (ep_ff x) = 0 then (Option.bind (eF_12_control (ep_mk c0 m) (nI h) x (nI (ep_fd x)) (nI (ep_fa x)) (nI (ep_fg x)) pc) (fun q54 => some q54)) else (if nI (ep_ff x) = 4 then (Option.bind (eF_12_except (ep_mk c0 m) 2 x) (fun q56 => some q56)) else (Option.bind (eF_12_registers (ep_mk c0 m) (nI h) x (nI (ep_fd x)) (nI (ep_ff x)) (nI (ep_fa x)) (m.1 129 (32 * w + ep_fa x))) (fun q57 => some q57)))) := fun c0 => by
      unfold eF_12_execute
      rw [ep_V, ep_V, ep_V, ep_V, ep_V, ep_fd_m, ep_ff_m, ep_fa_m, ep_fb_m, ep_fg_c, ep_get hX (ep_fa_l x), ep_sb, ep_get hX (ep_fb_l x), ep_sb, ep_V, ep_V, ep_J, if_neg f3, if_neg f15, if_neg f19, if_neg f23, if_neg f35, if_neg f47, if_neg f51, if_neg f55, if_neg f99, if_neg f103, if_neg f111, if_pos f115]
    rcases ep_spec hR hQ hX x with ⟨c', m', a, b, d⟩ | ⟨a, b, d⟩
    · left
      exact ⟨c', m', fun m0 => (sw m0).trans (a m0), fun c0 => (ex c0).trans (b c0), ep_D_mono d (by omega)⟩
    · right
      exact ⟨a, fun m0 => (sw m0).trans (b m0), fun c0 => (ex c0).trans ((d c0).trans (ep_bs _))⟩
  left
  obtain ⟨a, b, d⟩ := ep_ill hR hQ x
  refine ⟨_, _, fun m0 => ?_, fun c0 => ?_, ep_D_mono d (by omega)⟩
  · unfold ep_sw
    rw [ep_V, ep_J, if_neg f3, if_neg f15, if_neg f19, if_neg f23, if_neg f35, if_neg f47, if_neg f51, if_neg f55, if_neg f99, if_neg f103, if_neg f111, if_neg f115]
    exact ep_bnd (a m0) rfl
  · unfold eF_12_execute
    rw [ep_V, ep_V, ep_V, ep_V, ep_V, ep_fd_m, ep_ff_m, ep_fa_m, ep_fb_m, ep_fg_c, ep_get hX (ep_fa_l x), ep_sb, ep_get hX (ep_fb_l x), ep_sb, ep_V, ep_V, ep_J, if_neg f3, if_neg f15, if_neg f19, if_neg f23, if_neg f35, if_neg f47, if_neg f51, if_neg f55, if_neg f99, if_neg f103, if_neg f111, if_neg f115]
    exact ep_bnd (b c0) rfl
