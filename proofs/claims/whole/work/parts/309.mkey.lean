/-! the reference's texts and keyed digests -/
theorem ep_bnd {α β : Type} {x : Option α} {v : α} {K : α → Option β} {R : Option β} (h : x = some v) (h2 : K v = R) : Option.bind x K = R := by rw [h]; exact h2
theorem ep_mSL (m : ep_M) (p : Nat) (f H B W : Nat → Int32) (L : Nat → Int64) (hp1 : p ≠ 188) (hp2 : p ≠ 189) (hp3 : p ≠ 191) : ep_mS (ep_mL m p f) H B W L = ep_mL (ep_mS m H B W L) p f := by
  refine Prod.ext ?_ rfl
  funext a
  simp only [ep_mS, ep_mL, ep_uf]
  by_cases h1 : a = 188
  · subst h1; simp [Ne.symm hp1]
  · by_cases h2 : a = 189
    · subst h2; simp [Ne.symm hp2]
    · by_cases h3 : a = 191
      · subst h3; simp [Ne.symm hp3]
      · simp [h1, h2, h3]
/-- a row with n items from a on replaced -/
def ep_in_ (f : Nat → Int32) (a n : Nat) (g : Nat → Int32) : Nat → Int32 := fun j => if a ≤ j ∧ j < a + n then g (j - a) else f j
theorem ep_in_0 (f : Nat → Int32) (a : Nat) (g : Nat → Int32) : ep_in_ f a 0 g = f := by
  funext j; unfold ep_in_; rw [if_neg (by omega)]
theorem ep_in_s (f : Nat → Int32) (a n : Nat) (g : Nat → Int32) : upd (ep_in_ f a n g) (a + n) (g n) = ep_in_ f a (n + 1) g := by
  funext j
  unfold upd ep_in_
  by_cases h : j = a + n
  · subst h
    rw [if_pos rfl, if_pos ⟨by omega, by omega⟩, show a + n - a = n by omega]
  · rw [if_neg h]
    by_cases g2 : a ≤ j ∧ j < a + n
    · rw [if_pos g2, if_pos ⟨g2.1, by omega⟩]
    · rw [if_neg g2, if_neg (by omega)]
theorem ep_msay {m : ep_M} {n : Nat} (hn : m.1 127 79 = nI n) (h : n + 4 ≤ 256) (v : Int32) (c : ep_C) : eF_12_say (ep_mk c m) v = some (ep_mk c (ep_mI (ep_mL m 192 (ep_in_ (m.1 192) n 4 fun i => eh_nb (eh_nb (eh_shr v (nI (8 * i)))))) 127 79 (nI (n + 4)))) := by
  unfold eF_12_say
  rw [ep_loop (fun i => (nI i, ep_mk c (ep_mL m 192 (ep_in_ (m.1 192) n i fun i => eh_nb (eh_nb (eh_shr v (nI (8 * i)))))))) 4 (some (ep_mk c (ep_mL m 192 (ep_in_ (m.1 192) n 4 fun i => eh_nb (eh_nb (eh_shr v (nI (8 * i)))))))) (ep_FU _ (by decide)) ?_ ?_ ?_]
  · simp (disch := first | assumption | decide) only [ep_V, ep_J, ep_sb, ep_rC1, ep_rC2, ep_rM, ep_rJ, ep_rQ, ep_wC1, ep_wC2, ep_wM, ep_iC1, ep_iC2, ep_iM, ep_wJ, ep_wQ, ep_cI1, ep_cIn, ep_cI2, ep_cL1, ep_cLn, ep_cL2, ep_cG1, ep_cGq, ep_cQ1, ep_cQ2, ep_cQq, ep_cQn, ep_mI1, ep_mIn, ep_mI2, ep_mL1, ep_mLn, ep_mL2, ep_mJ1, ep_mJ2, hn]
    rw [ep_addn]
  · intro i hi rec
    have h1 : nI i < 4 := ep_lt (b := 4) hi (by decide) rfl
    have h5 : eh_in (nI (n + i)) 256 = true := ep_in (by omega) (by decide)
    have h6 : eh_ix (nI (n + i)) = n + i := ep_ix (by omega)
    have h8 : (8 : Int32) * nI i = nI (8 * i) := ep_mul (b := 8) rfl rfl
    simp (disch := first | assumption | decide) only [h1, if_true, ep_V, ep_J, ep_sb, ep_rC1, ep_rC2, ep_rM, ep_rJ, ep_rQ, ep_wC1, ep_wC2, ep_wM, ep_iC1, ep_iC2, ep_iM, ep_wJ, ep_wQ, ep_cI1, ep_cIn, ep_cI2, ep_cL1, ep_cLn, ep_cL2, ep_cG1, ep_cGq, ep_cQ1, ep_cQ2, ep_cQq, ep_cQn, ep_mI1, ep_mIn, ep_mI2, ep_mL1, ep_mLn, ep_mL2, ep_mJ1, ep_mJ2, hn, nI_add, h5, h6, h8, ep_mLI, nI_1]
    rw [← ep_in_s (m.1 192) n i]
  · intro rec
    have h1 : ¬ nI 4 < 4 := by decide
    simp only [h1, if_false]
  · rw [ep_in_0, ep_mLid]; rfl
theorem ep_msayBytes {m : ep_M} {n : Nat} (hn : m.1 127 79 = nI n) (p np at_ k : Nat) (h : n + k ≤ 256) (hp : 127 ≤ p) (hp1 : p ≠ 192) (hin : at_ + k ≤ np) (hnp : np < 1000000) (c : ep_C) : eF_12_sayBytes (ep_mk c m) p np (nI at_) (nI k) = some (ep_mk c (ep_mI (ep_mL m 192 (ep_in_ (m.1 192) n k fun i => eh_nb (m.1 p (at_ + i)))) 127 79 (nI (n + k)))) := by
  unfold eF_12_sayBytes
  rw [ep_loop (fun i => (nI i, ep_mk c (ep_mL m 192 (ep_in_ (m.1 192) n i fun i => eh_nb (m.1 p (at_ + i)))))) k (some (ep_mk c (ep_mL m 192 (ep_in_ (m.1 192) n k fun i => eh_nb (m.1 p (at_ + i)))))) (ep_FU _ (by omega)) ?_ ?_ ?_]
  · simp (disch := first | assumption | decide) only [ep_V, ep_J, ep_sb, ep_rC1, ep_rC2, ep_rM, ep_rJ, ep_rQ, ep_wC1, ep_wC2, ep_wM, ep_iC1, ep_iC2, ep_iM, ep_wJ, ep_wQ, ep_cI1, ep_cIn, ep_cI2, ep_cL1, ep_cLn, ep_cL2, ep_cG1, ep_cGq, ep_cQ1, ep_cQ2, ep_cQq, ep_cQn, ep_mI1, ep_mIn, ep_mI2, ep_mL1, ep_mLn, ep_mL2, ep_mJ1, ep_mJ2, hn, nI_add]
  · intro i hi rec
    have h1 : nI i < nI k := nI_lt hi (by omega)
    have h5 : eh_in (nI (n + i)) 256 = true := ep_in (by omega) (by decide)
    have h6 : eh_ix (nI (n + i)) = n + i := ep_ix (by omega)
    have h7 : eh_in (nI (at_ + i)) np = true := ep_in (by omega) (by omega)
    have h8 : eh_ix (nI (at_ + i)) = at_ + i := ep_ix (by omega)
    simp (disch := first | assumption | decide) only [h1, if_true, ep_V, ep_J, ep_sb, ep_rC1, ep_rC2, ep_rM, ep_rJ, ep_rQ, ep_wC1, ep_wC2, ep_wM, ep_iC1, ep_iC2, ep_iM, ep_wJ, ep_wQ, ep_cI1, ep_cIn, ep_cI2, ep_cL1, ep_cLn, ep_cL2, ep_cG1, ep_cGq, ep_cQ1, ep_cQ2, ep_cQq, ep_cQn, ep_mI1, ep_mIn, ep_mI2, ep_mL1, ep_mLn, ep_mL2, ep_mJ1, ep_mJ2, hn, nI_add, h5, h6, h7, h8, ep_mLI, nI_1]
    rw [← ep_in_s (m.1 192) n i]
  · intro rec
    have h1 : ¬ nI k < nI k := nI_nlt (Nat.le_refl _) (by omega)
    simp only [h1, if_false]
  · rw [ep_in_0, ep_mLid]; rfl
def ep_key (K : Nat → Int32) (pad : Int32) : ep_St := ep_puts ep_st0 ((List.range 64).map fun k => (if k < 32 then K k else 0) ^^^ pad)
def ep_hin (K : Nat → Int32) (l : List Int32) : ep_T8 := ep_fin (ep_puts (ep_key K 54) l)
def ep_hmac (K : Nat → Int32) (l : List Int32) : ep_T8 := ep_fin (ep_puts (ep_key K 92) ((List.range 32).map (ep_wr (fun _ => 0) 0 (ep_hin K l) 32)))
theorem ep_st0_ok : ep_ok ep_st0 := ⟨rfl, by decide, fun _ h => by cases h⟩
theorem ep_key_len (K : Nat → Int32) (pad : Int32) : (ep_key K pad).2.2 = 64 := by
  unfold ep_key; rw [ep_puts_len, List.length_map, List.length_range]; rfl
theorem ep_key_ok (K : Nat → Int32) (pad : Int32) : ep_ok (ep_key K pad) := by
  unfold ep_key; exact ep_puts_ok _ ep_st0_ok (by rw [List.length_map, List.length_range]; decide)
theorem ep_range_len (n : Nat) (f : Nat → Int32) : ((List.range n).map f).length = n := by rw [List.length_map, List.length_range]
theorem ep_mkeyrow {m : ep_M} (p : Nat) (hp : 127 ≤ p) (hp1 : p ≠ 188) (hp2 : p ≠ 189) (hp3 : p ≠ 191) (pad : Int32) : ∃ H B W L, (∀ c, ∃ q, eF_12_begin (ep_mk c m) 6 = some q ∧ eh_loop (fun (r21 : (Int32 × eh_F) → Option (eh_F)) (t2 : Int32 × eh_F) => if t2.1 < 64 then (eh_J (fun (a24 : Int32) => Option.bind (eF_12_add t2.2 6 (a24 ^^^ pad)) (fun q25 => eh_V ((t2.1 + 1) : Int32) (fun x26 => r21 (x26, q25)))) (fun j23 => if t2.1 < 32 then (if eh_in t2.1 32 then j23 (t2.2.1 p (eh_ix t2.1)) else none) else (j23 0))) else (some t2.2)) eh_FU (0, q) = some (ep_mk c (ep_mS m H B W L))) ∧ ep_Rm 6 H B L (ep_key (m.1 p) pad) ∧ ep_Oth 6 m H B L := by
  obtain ⟨H1, B1, W1, L1, a1, b1, c1⟩ := ep_mbegin (m := m) (e := 6) (by decide)
  have key := ep_mfeed (m := ep_mS m H1 B1 W1 L1) (e := 6) (by decide) b1 ep_st0_ok (body := fun _ (r21 : (Int32 × eh_F) → Option (eh_F)) (t2 : Int32 × eh_F) => if t2.1 < 64 then (eh_J (fun (a24 : Int32) => Option.bind (eF_12_add t2.2 6 (a24 ^^^ pad)) (fun q25 => eh_V ((t2.1 + 1) : Int32) (fun x26 => r21 (x26, q25)))) (fun j23 => if t2.1 < 32 then (if eh_in t2.1 32 then j23 (t2.2.1 p (eh_ix t2.1)) else none) else (j23 0))) else (some t2.2)) (fun i s => (nI i, s)) 64 (fun k => (if k < 32 then m.1 p k else 0) ^^^ pad) (by decide) (by decide) (by
    intro i H B W L c rec hi _
    have q : nI i < 64 := ep_lt (b := 64) hi (by decide) rfl
    simp only [q, if_true, ep_J]
    rw [show (6 : Int32) = nI 6 from rfl]
    by_cases h : i < 32
    · have q2 : nI i < 32 := ep_lt (b := 32) h (by decide) rfl
      have q3 : eh_in (nI i) 32 = true := ep_in h (by decide)
      have q4 : eh_ix (nI i) = i := ep_ix (by omega)
      simp only [q2, if_true, q3, q4, h, ep_V, nI_1]
      rw [ep_rM _ _ _ hp, ep_mSn _ _ _ _ _ _ hp1 hp2 hp3, ep_mSn _ _ _ _ _ _ hp1 hp2 hp3]
    · have q2 : ¬ nI i < 32 := ep_nlt (b := 32) (by omega) (by omega) rfl
      simp only [q2, if_false, h, ep_V, nI_1]) (by
    intro H B W L c rec _
    have q : ¬ nI 64 < 64 := by decide
    simp only [q, if_false])
  obtain ⟨H, B, W, L, h1, h2, h3⟩ := key
  refine ⟨H, B, W, L, fun c => ⟨_, a1 c, ?_⟩, h2, ?_⟩
  · have := h1 c
    rw [ep_mSS] at this
    exact this
  · exact ep_Oth_tr c1 h3
theorem ep_wr_nb {f g : Nat → Int32} {t : ep_T8} {j : Nat} (h : j < 32) : ep_wr f 0 t 32 j = ep_wr g 0 t 32 j := by
  unfold ep_wr
  rw [if_pos ⟨by omega, by omega⟩, if_pos ⟨by omega, by omega⟩]
theorem ep_map_eq {n : Nat} {f g : Nat → Int32} (h : ∀ i, i < n → f i = g i) : (List.range n).map f = (List.range n).map g := by
  apply List.map_congr_left
  intro i hi
  exact h i (List.mem_range.mp hi)
set_option maxHeartbeats 4000000 in
theorem ep_mkeyed {m : ep_M} (p : Nat) (hp : 127 ≤ p) (hp1 : p ≠ 188) (hp2 : p ≠ 189) (hp3 : p ≠ 191) (hp4 : p ≠ 193) {n : Nat} (hn : m.1 127 79 = nI n) (h : n ≤ 256) : ∃ H B W L R, (∀ c, eF_12_keyed (ep_mk c m) p 32 = some (ep_mk c (ep_mI (ep_mL (ep_mL (ep_mS m H B W L) 193 R) 194 (ep_wr (m.1 194) 0 (ep_hmac (m.1 p) ((List.range n).map (m.1 192))) 32)) 127 79 0))) ∧ ep_Oth 6 m H B L := by
  obtain ⟨H1, B1, W1, L1, a1, b1, c1⟩ := ep_mkeyrow (m := m) p hp hp1 hp2 hp3 54
  have hl1 := ep_key_len (m.1 p) 54
  obtain ⟨H2, B2, W2, L2, a2, b2, c2⟩ := ep_maddBytes (m := ep_mS m H1 B1 W1 L1) (e := 6) (by decide) b1 (ep_key_ok _ _) 192 256 0 n (by omega) (by decide) (by decide) (by decide) (by decide) (by omega) (by decide)
  have k2 := ep_puts_ok ((List.range n).map fun i => (ep_mS m H1 B1 W1 L1).1 192 (0 + i)) (ep_key_ok (m.1 p) 54) (by rw [ep_range_len]; omega)
  have hl2 : (ep_puts (ep_key (m.1 p) 54) ((List.range n).map fun i => (ep_mS m H1 B1 W1 L1).1 192 (0 + i))).2.2 = 64 + n := by rw [ep_puts_len, ep_range_len, hl1]
  obtain ⟨H3, B3, W3, L3, a3, c3⟩ := ep_mfinish (m := ep_mS (ep_mS m H1 B1 W1 L1) H2 B2 W2 L2) (e := 6) (by decide) b2 k2 (by omega) 193 32 0 (by decide) (by decide) (by decide) (by decide) (by decide) (by decide)
  have e2 : ((List.range n).map fun i => (ep_mS m H1 B1 W1 L1).1 192 (0 + i)) = (List.range n).map (m.1 192) := ep_map_eq fun i _ => by rw [Nat.zero_add]; rfl
  rw [e2] at a3 b2
  obtain ⟨R, hR⟩ : ∃ R, R = ep_wr ((ep_mS (ep_mS m H1 B1 W1 L1) H2 B2 W2 L2).1 193) 0 (ep_fin (ep_puts (ep_key (m.1 p) 54) ((List.range n).map (m.1 192)))) 32 := ⟨_, rfl⟩
  rw [← hR] at a3
  obtain ⟨H4, B4, W4, L4, a4, b4, c4⟩ := ep_mkeyrow (m := ep_mL (ep_mS (ep_mS (ep_mS m H1 B1 W1 L1) H2 B2 W2 L2) H3 B3 W3 L3) 193 R) p hp hp1 hp2 hp3 92
  have ep : (ep_mL (ep_mS (ep_mS (ep_mS m H1 B1 W1 L1) H2 B2 W2 L2) H3 B3 W3 L3) 193 R).1 p = m.1 p := by
    rw [ep_mLn _ _ _ _ hp4, ep_mSn _ _ _ _ _ _ hp1 hp2 hp3, ep_mSn _ _ _ _ _ _ hp1 hp2 hp3, ep_mSn _ _ _ _ _ _ hp1 hp2 hp3]
  rw [ep] at b4
  have hl4 := ep_key_len (m.1 p) 92
  obtain ⟨H5, B5, W5, L5, a5, b5, c5⟩ := ep_maddBytes (m := ep_mS (ep_mL (ep_mS (ep_mS (ep_mS m H1 B1 W1 L1) H2 B2 W2 L2) H3 B3 W3 L3) 193 R) H4 B4 W4 L4) (e := 6) (by decide) b4 (ep_key_ok _ _) 193 32 0 32 (by omega) (by decide) (by decide) (by decide) (by decide) (by omega) (by decide)
  have e5 : ((List.range 32).map fun i => (ep_mS (ep_mL (ep_mS (ep_mS (ep_mS m H1 B1 W1 L1) H2 B2 W2 L2) H3 B3 W3 L3) 193 R) H4 B4 W4 L4).1 193 (0 + i)) = (List.range 32).map (ep_wr (fun _ => 0) 0 (ep_hin (m.1 p) ((List.range n).map (m.1 192))) 32) := ep_map_eq fun i hi => by
    rw [Nat.zero_add]
    show R i = _
    rw [hR]
    exact ep_wr_nb hi
  have k5 := ep_puts_ok ((List.range 32).map (ep_wr (fun _ => 0) 0 (ep_hin (m.1 p) ((List.range n).map (m.1 192))) 32)) (ep_key_ok (m.1 p) 92) (by rw [ep_range_len]; omega)
  rw [e5] at b5
  have hl5 : (ep_puts (ep_key (m.1 p) 92) ((List.range 32).map (ep_wr (fun _ => 0) 0 (ep_hin (m.1 p) ((List.range n).map (m.1 192))) 32))).2.2 = 64 + 32 := by rw [ep_puts_len, ep_range_len, hl4]
  obtain ⟨H6, B6, W6, L6, a6, c6⟩ := ep_mfinish (m := ep_mS (ep_mS (ep_mL (ep_mS (ep_mS (ep_mS m H1 B1 W1 L1) H2 B2 W2 L2) H3 B3 W3 L3) 193 R) H4 B4 W4 L4) H5 B5 W5 L5) (e := 6) (by decide) b5 k5 (by omega) 194 32 0 (by decide) (by decide) (by decide) (by decide) (by decide) (by decide)
  refine ⟨H6, B6, W6, L6, R, fun c => ?_, ?_⟩
  · unfold eF_12_keyed
    obtain ⟨q1, g1, g2⟩ := a1 c
    obtain ⟨q4, g4, g5⟩ := a4 c
    refine ep_bnd g1 ?_
    refine ep_bnd g2 ?_
    rw [show (ep_mk c (ep_mS m H1 B1 W1 L1)).1 127 79 = nI n from by rw [ep_rM _ _ _ (by decide)]; exact hn]
    refine ep_bnd (a2 c) ?_
    refine ep_bnd (a3 c) ?_
    refine ep_bnd g4 ?_
    refine ep_bnd g5 ?_
    refine ep_bnd (a5 c) ?_
    refine ep_bnd (a6 c) ?_
    simp only [ep_V]
    rw [ep_iM _ _ _ _ _ (by decide)]
    rw [ep_mSS, ep_mSS, ep_mSL _ _ _ _ _ _ _ (by decide) (by decide) (by decide), ep_mSS, ep_mSS, ep_mSL _ _ _ _ _ _ _ (by decide) (by decide) (by decide), ep_mSS]
    rfl
  · have d2 := ep_Oth_tr (W := W1) c1 c2
    have d3 : ep_Oth 6 m H3 B3 L3 := fun e' st hne hok hR => c3 e' st hne hok (d2 e' st hne hok hR)
    have d4 : ep_Oth 6 m H4 B4 L4 := fun e' st hne hok hR => c4 e' st hne hok (d3 e' st hne hok hR)
    have d5 : ep_Oth 6 m H5 B5 L5 := fun e' st hne hok hR => c5 e' st hne hok (d4 e' st hne hok hR)
    exact fun e' st hne hok hR => c6 e' st hne hok (d5 e' st hne hok hR)
