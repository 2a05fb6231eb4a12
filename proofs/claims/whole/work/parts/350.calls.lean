/-! calls of the system, the simple ones -/
def ep_Cp (N' : Nat) (c : ep_C) (m : ep_M) (F G : eh_F → Option (Int32 × eh_F)) : Prop := ∃ r c' m', (∀ m0, F (ep_mk c m0) = some (r, ep_mk c' m0)) ∧ (∀ c0, G (ep_mk c0 m) = some (r, ep_mk c0 m')) ∧ ep_R N' c' m' ∧ ep_Fr c m c' m'
theorem ep_Cp_id {N : Nat} {c : ep_C} {m : ep_M} (hR : ep_R N c m) {F G : eh_F → Option (Int32 × eh_F)} (r : Int32) (h1 : ∀ m0, F (ep_mk c m0) = some (r, ep_mk c m0)) (h2 : ∀ c0, G (ep_mk c0 m) = some (r, ep_mk c0 m)) : ep_Cp N c m F G := ⟨r, c, m, h1, h2, hR, ep_Fr_rf c m⟩
/-- a number that names something there is -/
def ep_inb (p : Int32) (n : Nat) (S : Nat → Int32) : Bool := eh_in p n && !decide (S (eh_ix p) = 0)
theorem ep_inb_t {p : Int32} {n : Nat} {S : Nat → Int32} (hn : n < 2 ^ 31) (h : ep_inb p n S = true) : ∃ k, k < n ∧ p = nI k ∧ S k ≠ 0 := by
  unfold ep_inb at h
  rw [Bool.and_eq_true] at h
  obtain ⟨k, hk, e⟩ := ep_in_of h.1 hn
  refine ⟨k, hk, e, ?_⟩
  have := h.2
  rw [e, show eh_ix (nI k) = k from ep_ix (by omega)] at this
  simpa using this
theorem ep_inb_nI {k n : Nat} {S : Nat → Int32} (hk : k < n) (hn : n < 2 ^ 31) : ep_inb (nI k) n S = !decide (S k = 0) := by
  unfold ep_inb
  rw [ep_in hk hn, show eh_ix (nI k) = k from ep_ix (by omega), Bool.true_and]
theorem ep_inl {p : Int32} {n : Nat} (hn : n < 2 ^ 31) : eh_in p n = true ↔ (¬ p < 0 ∧ p < nI n) := by
  unfold eh_in
  rw [decide_eq_true_eq, Int32.lt_iff_toInt_lt, Int32.lt_iff_toInt_lt, nI_toInt hn]
  have : (0 : Int32).toInt = 0 := by decide
  omega
theorem ep_3way {α : Type} {p : Int32} {n : Nat} {L : Int32} (hL : L = nI n) (hn : n < 2 ^ 31) (S : Nat → Int32) (A B : Option α) : (if p < 0 then A else (if p < L then (if eh_in p n then (if S (eh_ix p) = 0 then A else B) else none) else A)) = if ep_inb p n S = true then B else A := by
  subst hL
  have h := ep_inl (p := p) hn
  by_cases y1 : p < 0
  · rw [if_pos y1, if_neg]
    unfold ep_inb
    rw [Bool.and_eq_true]
    exact fun z => (h.mp z.1).1 y1
  · rw [if_neg y1]
    by_cases y2 : p < nI n
    · have hi := h.mpr ⟨y1, y2⟩
      rw [if_pos y2, if_pos hi]
      unfold ep_inb
      rw [hi, Bool.true_and]
      by_cases y3 : S (eh_ix p) = 0
      · simp [y3]
      · simp [y3]
    · rw [if_neg y2, if_neg]
      unfold ep_inb
      rw [Bool.and_eq_true]
      exact fun z => y2 (h.mp z.1).2
theorem ep_misE (m : ep_M) (p : Int32) (c0 : ep_C) : eF_12_isEnclave (ep_mk c0 m) p = some (ep_bi (ep_inb p 6 (m.1 155))) := by
  unfold eF_12_isEnclave
  simp only [↓ep_J]
  rw [ep_rM _ _ _ (by decide), ep_3way (L := 6) (n := 6) rfl (by decide)]
  cases ep_inb p 6 (m.1 155) <;> simp [ep_bi]
theorem ep_misT (m : ep_M) (p : Int32) (c0 : ep_C) : eF_12_isThread (ep_mk c0 m) p = some (ep_bi (ep_inb p 12 (m.1 148))) := by
  unfold eF_12_isThread
  simp only [↓ep_J]
  rw [ep_rM _ _ _ (by decide), ep_3way (L := 12) (n := 12) rfl (by decide)]
  cases ep_inb p 12 (m.1 148) <;> simp [ep_bi]
theorem ep_chasR {N : Nat} {c : ep_C} {m : ep_M} (hR : ep_R N c m) (p : Int32) (m0 : ep_M) : eF_5_hasRegion (ep_mk c m0) p = some (ep_bi (ep_inb p 12 (m.1 164))) := by
  unfold eF_5_hasRegion
  simp only [↓ep_J]
  rw [ep_rC1 _ _ _ (by decide), show c.1 3 = m.1 164 from hR.2.2.1.1, ep_3way (L := 12) (n := 12) rfl (by decide)]
  cases ep_inb p 12 (m.1 164) <;> simp [ep_bi]
theorem ep_fam3 {α : Type} {p : Int32} {n : Nat} {L : Int32} (hL : L = nI n) (hn : n < 2 ^ 31) (S : Nat → Int32) (F : Int32 → Int32) (hF : ∀ k, k < n → F (nI k) = S k) (A B : Option α) : (if p < 0 then A else (if p < L then (if eh_in p n then (if F p = 0 then A else B) else none) else A)) = if ep_inb p n S = true then B else A := by
  rw [← ep_3way hL hn S A B]
  by_cases y : eh_in p n = true
  · obtain ⟨k, hk, e⟩ := ep_in_of y hn
    subst e
    rw [hF k hk, show eh_ix (nI k) = k from ep_ix (by omega)]
  · simp only [y]
    rfl
theorem ep_chasE {N : Nat} {c : ep_C} {m : ep_M} (hR : ep_R N c m) (p : Int32) (m0 : ep_M) : eF_5_hasEnclave (ep_mk c m0) p = some (ep_bi (ep_inb p 6 (m.1 155))) := by
  unfold eF_5_hasEnclave
  simp only [↓ep_J]
  rw [ep_fam3 (L := 6) (n := 6) rfl (by decide) (m.1 155) (fun p => (ep_mk c m0).1 (eh_ep p) 5) (fun k hk => by show (ep_mk c m0).1 (eh_ep (nI k)) 5 = _; rw [ep_rE0 _ _ hk]; exact (hR.2.2.2.2.2.2.2.2.2.2.2.2.2.2.2.2.1 k hk).1)]
  cases ep_inb p 6 (m.1 155) <;> simp [ep_bi]
theorem ep_chasF {N : Nat} {c : ep_C} {m : ep_M} (hR : ep_R N c m) (p : Int32) (m0 : ep_M) : eF_5_hasFibre (ep_mk c m0) p = some (ep_bi (ep_inb p 12 (m.1 148))) := by
  unfold eF_5_hasFibre
  simp only [↓ep_J]
  rw [ep_fam3 (L := 12) (n := 12) rfl (by decide) (m.1 148) (fun p => (ep_mk c m0).1 (eh_fp p) 6) (fun k hk => by show (ep_mk c m0).1 (eh_fp (nI k)) 6 = _; rw [ep_rF0 _ _ hk]; exact (hR.2.2.2.2.2.2.2.2.2.2.1 k hk).2.2.2.2.2.1)]
  cases ep_inb p 12 (m.1 148) <;> simp [ep_bi]
/-- an enclave's own region -/
theorem ep_ownR {N : Nat} {c : ep_C} {m : ep_M} (hR : ep_R N c m) {e : Nat} (he : e < 6) (hE : m.1 155 e ≠ 0) : ∃ w b n, w < 12 ∧ m.1 156 e = nI w ∧ m.1 164 w = 1 ∧ 0 < n ∧ b + n ≤ 512 ∧ m.1 165 w = nI (256 * b) ∧ m.1 166 w = nI (256 * n) ∧ (∀ m0, eF_5_baseOf (ep_mk c m0) (nI e) = some (nI (256 * b))) ∧ (∀ m0, eF_5_sizeOf (ep_mk c m0) (nI e) = some (nI (256 * n))) ∧ (∀ p, p < 512 → (c.1 10 p = nI w ↔ b ≤ p ∧ p < b + n)) := by
  obtain ⟨w, hw, hwe, hwS, hwO⟩ := hR.2.2.2.1.2.2 e he hE
  obtain ⟨b, n, h1, h2, h3, h4, h5⟩ := (hR.2.2.2.1.1 w hw (by rw [hwS]; decide)).2.1
  have g := hR.2.2.2.2.2.2.2.2.2.2.2.2.2.2.2.2.1 e he
  obtain ⟨r3, r4, r5, -⟩ := hR.2.2.1
  have i6 : eh_in (nI e) 6 = true := ep_in he (by decide)
  have i12 : eh_in (nI w) 12 = true := ep_in hw (by decide)
  have x12 : eh_ix (nI w) = w := ep_ix (by omega)
  refine ⟨w, b, n, hw, hwe, hwS, h1, h2, h3, h4, fun m0 => ?_, fun m0 => ?_, h5⟩
  · unfold eF_5_baseOf
    rw [if_pos i6, ep_rE0 _ _ he, g.2.1, hwe, if_pos i12, x12, ep_rC1 _ _ _ (by decide), r4, h3]
  · unfold eF_5_sizeOf
    rw [if_pos i6, ep_rE0 _ _ he, g.2.1, hwe, if_pos i12, x12, ep_rC1 _ _ _ (by decide), r5, h4]
theorem ep_putOut {N : Nat} {c : ep_C} {m : ep_M} (hR : ep_R N c m) (p : Int32) : ep_Cp N c m (fun s => eF_10_putOut s p) (fun s => if (s.1 127 52) = 1024 then (some ((-5), s)) else (if eh_in (s.1 127 52) 1024 then eh_V (eh_tI s 174 (eh_ix (s.1 127 52)) (eh_nb (eh_nb p))) (fun s34 => eh_V (eh_tI s34 127 52 ((s34.1 127 52) + 1)) (fun s35 => some ((s35.1 127 52), s35))) else none)) := by
  obtain ⟨g1, g2, n, g3, g4⟩ := hR.2.2.2.2.2.2.2.2.2.2.2.2.2.2.2.2.2.2.2.2.2.2.2.2.2.2.2.2.2.2.1
  have q0 : ¬ nI n < 0 := nI_pos (by omega)
  have e1024 : (nI n = 1024) ↔ n = 1024 := nI_eq (b := 1024) (by omega) (by decide)
  by_cases h : n < 1024
  · have q1 : nI n < Int32.ofNat 1024 := nI_lt h (by decide)
    have q2 : eh_in (nI n) 1024 = true := ep_in h (by decide)
    have q3 : eh_ix (nI n) = n := ep_ix (by omega)
    have q4 : ¬ nI n = 1024 := fun z => by have := e1024.mp z; omega
    refine ⟨nI (n + 1), ep_cI (ep_cI c 19 n (p &&& 255)) 18 1 (nI (n + 1)), ep_mI (ep_mI m 174 n (eh_nb (eh_nb p))) 127 52 (nI (n + 1)), fun m0 => ?_, fun c0 => ?_, ⟨hR.1, hR.2.1, hR.2.2.1, hR.2.2.2.1, hR.2.2.2.2.1, hR.2.2.2.2.2.1, hR.2.2.2.2.2.2.1, hR.2.2.2.2.2.2.2.1, hR.2.2.2.2.2.2.2.2.1, hR.2.2.2.2.2.2.2.2.2.1, hR.2.2.2.2.2.2.2.2.2.2.1, hR.2.2.2.2.2.2.2.2.2.2.2.1, hR.2.2.2.2.2.2.2.2.2.2.2.2.1, hR.2.2.2.2.2.2.2.2.2.2.2.2.2.1, hR.2.2.2.2.2.2.2.2.2.2.2.2.2.2.1, hR.2.2.2.2.2.2.2.2.2.2.2.2.2.2.2.1, hR.2.2.2.2.2.2.2.2.2.2.2.2.2.2.2.2.1, hR.2.2.2.2.2.2.2.2.2.2.2.2.2.2.2.2.2.1, hR.2.2.2.2.2.2.2.2.2.2.2.2.2.2.2.2.2.2.1, hR.2.2.2.2.2.2.2.2.2.2.2.2.2.2.2.2.2.2.2.1, hR.2.2.2.2.2.2.2.2.2.2.2.2.2.2.2.2.2.2.2.2.1, hR.2.2.2.2.2.2.2.2.2.2.2.2.2.2.2.2.2.2.2.2.2.1, hR.2.2.2.2.2.2.2.2.2.2.2.2.2.2.2.2.2.2.2.2.2.2.1, hR.2.2.2.2.2.2.2.2.2.2.2.2.2.2.2.2.2.2.2.2.2.2.2.1, hR.2.2.2.2.2.2.2.2.2.2.2.2.2.2.2.2.2.2.2.2.2.2.2.2.1, hR.2.2.2.2.2.2.2.2.2.2.2.2.2.2.2.2.2.2.2.2.2.2.2.2.2.1, hR.2.2.2.2.2.2.2.2.2.2.2.2.2.2.2.2.2.2.2.2.2.2.2.2.2.2.1, hR.2.2.2.2.2.2.2.2.2.2.2.2.2.2.2.2.2.2.2.2.2.2.2.2.2.2.2.1, hR.2.2.2.2.2.2.2.2.2.2.2.2.2.2.2.2.2.2.2.2.2.2.2.2.2.2.2.2.1, hR.2.2.2.2.2.2.2.2.2.2.2.2.2.2.2.2.2.2.2.2.2.2.2.2.2.2.2.2.2.1, ?_, hR.2.2.2.2.2.2.2.2.2.2.2.2.2.2.2.2.2.2.2.2.2.2.2.2.2.2.2.2.2.2.2.1, hR.2.2.2.2.2.2.2.2.2.2.2.2.2.2.2.2.2.2.2.2.2.2.2.2.2.2.2.2.2.2.2.2.1, hR.2.2.2.2.2.2.2.2.2.2.2.2.2.2.2.2.2.2.2.2.2.2.2.2.2.2.2.2.2.2.2.2.2⟩, ⟨rfl, rfl, fun j hj => ?_, rfl⟩⟩
    · have : eF_8_add (ep_mk c m0) 18 (p &&& 255) = some (1, ep_mk (ep_cI (ep_cI c 19 n (p &&& 255)) 18 1 (nI (n + 1))) m0) := by
        unfold eF_8_add
        rw [ep_J, ep_rC1 _ _ 18 (by decide), g2, g4, if_neg q0, show eh_rn 18 = 1024 from rfl, if_pos q1, if_pos q2, q3, ep_V, ep_iC1 _ _ _ _ _ (by decide), ep_V, ep_rC1 _ _ 18 (by decide), ep_iC1 _ _ _ _ _ (by decide)]
        rw [show (ep_cI c 19 n (p &&& 255)).1 18 1 = nI n from by rw [ep_cIn _ _ _ _ _ (by decide), g2, g4], nI_1]
      show eF_10_putOut (ep_mk c m0) p = _
      unfold eF_10_putOut
      refine ep_bnd this ?_
      rw [ep_J, if_neg (show ¬ (1 : Int32) = 0 by decide)]
      show some ((ep_mk (ep_cI (ep_cI c 19 n (p &&& 255)) 18 1 (nI (n + 1))) m0).1 18 1, _) = _
      rw [ep_rC1 _ _ _ (by decide), ep_cI1, ep_upd_eq]
    · show (if (ep_mk c0 m).1 127 52 = 1024 then _ else _) = _
      rw [ep_rM _ _ 127 (by decide), g4, if_neg q4, if_pos q2, q3, ep_V, ep_iM _ _ _ _ _ (by decide), ep_V, ep_rM _ _ 127 (by decide), ep_iM _ _ _ _ _ (by decide)]
      rw [show (ep_mI m 174 n (eh_nb (eh_nb p))).1 127 52 = nI n from by rw [ep_mIn _ _ _ _ _ (by decide), g4], nI_1, ep_rM _ _ 127 (by decide), ep_mI1, ep_upd_eq]
    · refine ⟨?_, rfl, n + 1, by omega, rfl⟩
      show upd (c.1 19) n (p &&& 255) = fun j => upd (m.1 174) n (eh_nb (eh_nb p)) j &&& 255
      rw [g1]
      funext j
      unfold upd
      by_cases e : j = n
      · simp only [e, if_true]; rw [ep_nbnb]
      · simp only [e, if_false]
    · rcases hj with rfl | rfl | rfl <;> rfl
  · have hn : n = 1024 := by omega
    refine ep_Cp_id hR (-5) (fun m0 => ?_) (fun c0 => ?_)
    · have q1 : ¬ nI n < Int32.ofNat 1024 := nI_nlt (by omega) (by omega)
      show eF_10_putOut (ep_mk c m0) p = _
      unfold eF_10_putOut eF_8_add
      rw [ep_J, ep_rC1 _ _ 18 (by decide), g2, g4, if_neg q0, show eh_rn 18 = 1024 from rfl, if_neg q1, ep_sb, ep_J, if_pos rfl]
    · show (if (ep_mk c0 m).1 127 52 = 1024 then _ else _) = _
      rw [ep_rM _ _ 127 (by decide), g4, if_pos (e1024.mpr hn)]
theorem ep_signal {N : Nat} {c : ep_C} {m : ep_M} (hR : ep_R N c m) (p : Int32) : ep_Cp N c m (fun s => eF_10_signal s p) (fun s => eh_J (fun (u38 : Unit) => if eh_in p 2 then eh_V (eh_tI s 140 (eh_ix p) 2) (fun s39 => some ((0 : Int32), s39)) else none) (fun j37 => if p = 0 then (j37 ()) else (if p = 1 then (j37 ()) else (some ((-1), s))))) := by
  have hin : eh_in p 2 = true ↔ (¬ p < 0 ∧ p < 2) := ep_inl (p := p) (n := 2) (by decide)
  by_cases h : eh_in p 2 = true
  · obtain ⟨k, hk, e⟩ := ep_in_of h (by decide)
    subst e
    have y := hin.mp h
    refine ⟨0, _, _, fun m0 => ?_, fun c0 => ?_, ep_S140 hR hk 2 (Or.inr rfl), ⟨rfl, rfl, fun j hj => by rcases hj with rfl | rfl | rfl <;> rfl, rfl⟩⟩
    · show eF_10_signal (ep_mk c m0) (nI k) = _
      unfold eF_10_signal eF_4_raiseSignal
      rw [ep_J, if_neg y.1, if_pos y.2, if_pos h, ep_V, ep_sb, ep_iH0 _ _ _ _ hk]
    · show eh_J _ _ = _
      rw [ep_J, if_pos h, show eh_ix (nI k) = k from ep_ix (by omega), ep_V, ep_iM _ _ _ _ _ (by decide)]
      have : k = 0 ∨ k = 1 := by omega
      rcases this with rfl | rfl
      · rw [if_pos (show nI 0 = 0 from rfl)]
      · rw [if_neg (show ¬ nI 1 = 0 by decide), if_pos (show nI 1 = 1 from rfl)]
  · refine ep_Cp_id hR (-1) (fun m0 => ?_) (fun c0 => ?_)
    · show eF_10_signal (ep_mk c m0) p = _
      unfold eF_10_signal
      rw [ep_J]
      by_cases y1 : p < 0
      · rw [if_pos y1]
      · rw [if_neg y1, if_neg (fun z => h (hin.mpr ⟨y1, z⟩))]
    · show eh_J _ _ = _
      rw [ep_J, if_neg (fun z => by subst z; exact h (by decide)), if_neg (fun z => by subst z; exact h (by decide))]
theorem ep_tell {N : Nat} {c : ep_C} {m : ep_M} (hR : ep_R N c m) : ep_Cp N c m (fun s => eF_0_tell s) (fun s => eh_V (((s.1 127 59) + (256 * (s.1 127 60))) : Int32) (fun x45 => eh_V (eh_tI s 127 59 0) (fun s46 => eh_V (eh_tI s46 127 60 0) (fun s47 => some (x45, s47))))) := by
  obtain ⟨d0, d1, d2, d3, d4, d5, d6, d7, d8⟩ := hR.2.2.2.2.2.2.2.2.2.2.2.2.2.2.2.2.2.2.2.2.2.2.2.2.2.2.2.2.1
  refine ⟨m.1 127 59 + 256 * m.1 127 60, ep_cI (ep_cI c 12 8 0) 12 9 0, ep_mI (ep_mI m 127 59 0) 127 60 0, fun m0 => ?_, fun c0 => ?_, ⟨hR.1, hR.2.1, hR.2.2.1, hR.2.2.2.1, hR.2.2.2.2.1, hR.2.2.2.2.2.1, hR.2.2.2.2.2.2.1, hR.2.2.2.2.2.2.2.1, hR.2.2.2.2.2.2.2.2.1, hR.2.2.2.2.2.2.2.2.2.1, hR.2.2.2.2.2.2.2.2.2.2.1, hR.2.2.2.2.2.2.2.2.2.2.2.1, hR.2.2.2.2.2.2.2.2.2.2.2.2.1, hR.2.2.2.2.2.2.2.2.2.2.2.2.2.1, hR.2.2.2.2.2.2.2.2.2.2.2.2.2.2.1, hR.2.2.2.2.2.2.2.2.2.2.2.2.2.2.2.1, hR.2.2.2.2.2.2.2.2.2.2.2.2.2.2.2.2.1, hR.2.2.2.2.2.2.2.2.2.2.2.2.2.2.2.2.2.1, hR.2.2.2.2.2.2.2.2.2.2.2.2.2.2.2.2.2.2.1, hR.2.2.2.2.2.2.2.2.2.2.2.2.2.2.2.2.2.2.2.1, hR.2.2.2.2.2.2.2.2.2.2.2.2.2.2.2.2.2.2.2.2.1, hR.2.2.2.2.2.2.2.2.2.2.2.2.2.2.2.2.2.2.2.2.2.1, hR.2.2.2.2.2.2.2.2.2.2.2.2.2.2.2.2.2.2.2.2.2.2.1, hR.2.2.2.2.2.2.2.2.2.2.2.2.2.2.2.2.2.2.2.2.2.2.2.1, hR.2.2.2.2.2.2.2.2.2.2.2.2.2.2.2.2.2.2.2.2.2.2.2.2.1, hR.2.2.2.2.2.2.2.2.2.2.2.2.2.2.2.2.2.2.2.2.2.2.2.2.2.1, hR.2.2.2.2.2.2.2.2.2.2.2.2.2.2.2.2.2.2.2.2.2.2.2.2.2.2.1, hR.2.2.2.2.2.2.2.2.2.2.2.2.2.2.2.2.2.2.2.2.2.2.2.2.2.2.2.1, ⟨d0, d1, d2, d3, d4, d5, rfl, rfl, d8⟩, hR.2.2.2.2.2.2.2.2.2.2.2.2.2.2.2.2.2.2.2.2.2.2.2.2.2.2.2.2.2.1, hR.2.2.2.2.2.2.2.2.2.2.2.2.2.2.2.2.2.2.2.2.2.2.2.2.2.2.2.2.2.2.1, hR.2.2.2.2.2.2.2.2.2.2.2.2.2.2.2.2.2.2.2.2.2.2.2.2.2.2.2.2.2.2.2.1, hR.2.2.2.2.2.2.2.2.2.2.2.2.2.2.2.2.2.2.2.2.2.2.2.2.2.2.2.2.2.2.2.2.1, hR.2.2.2.2.2.2.2.2.2.2.2.2.2.2.2.2.2.2.2.2.2.2.2.2.2.2.2.2.2.2.2.2.2⟩, ⟨rfl, rfl, fun j hj => by rcases hj with rfl | rfl | rfl <;> rfl, rfl⟩⟩
  · show eF_0_tell (ep_mk c m0) = _
    unfold eF_0_tell
    simp (disch := first | assumption | decide) only [↓ep_V, ↓ep_J, ↓ep_sb, ↓reduceIte, ep_rC1, ep_rC2, ep_rM, ep_rJ, ep_rQ, ep_wC1, ep_wC2, ep_wM, ep_iC1, ep_iC2, ep_iM, ep_wJ, ep_wQ, ep_cI1, ep_cIn, ep_cI2, ep_cL1, ep_cLn, ep_cL2, ep_cG1, ep_cGq, ep_cQ1, ep_cQ2, ep_cQq, ep_cQn, ep_mI1, ep_mIn, ep_mI2, ep_mL1, ep_mLn, ep_mL2, ep_mJ1, ep_mJ2, d6, d7]
  · show eh_V _ _ = _
    simp (disch := first | assumption | decide) only [↓ep_V, ↓ep_J, ↓ep_sb, ↓reduceIte, ep_rC1, ep_rC2, ep_rM, ep_rJ, ep_rQ, ep_wC1, ep_wC2, ep_wM, ep_iC1, ep_iC2, ep_iM, ep_wJ, ep_wQ, ep_cI1, ep_cIn, ep_cI2, ep_cL1, ep_cLn, ep_cL2, ep_cG1, ep_cGq, ep_cQ1, ep_cQ2, ep_cQq, ep_cQn, ep_mI1, ep_mIn, ep_mI2, ep_mL1, ep_mLn, ep_mL2, ep_mJ1, ep_mJ2]
theorem ep_goOff {N : Nat} {c : ep_C} {m : ep_M} (hR : ep_R N c m) : ep_Cp N c m (fun s => eF_10_goOff s) (fun s => eh_V (eh_tI s 127 21 1) (fun s75 => some ((0 : Int32), s75))) := by
  obtain ⟨d0, d1, d2, d3⟩ := hR.2.2.2.2.2.2.2.2.2.2.2.2.2.2.2.2.2.2.2.2.2.2.2.2.2.2.2.2.1
  refine ⟨0, ep_cI c 1 10 1, ep_mI m 127 21 1, fun m0 => ?_, fun c0 => ?_, ⟨hR.1, hR.2.1, hR.2.2.1, hR.2.2.2.1, hR.2.2.2.2.1, hR.2.2.2.2.2.1, hR.2.2.2.2.2.2.1, hR.2.2.2.2.2.2.2.1, hR.2.2.2.2.2.2.2.2.1, hR.2.2.2.2.2.2.2.2.2.1, hR.2.2.2.2.2.2.2.2.2.2.1, hR.2.2.2.2.2.2.2.2.2.2.2.1, hR.2.2.2.2.2.2.2.2.2.2.2.2.1, hR.2.2.2.2.2.2.2.2.2.2.2.2.2.1, hR.2.2.2.2.2.2.2.2.2.2.2.2.2.2.1, hR.2.2.2.2.2.2.2.2.2.2.2.2.2.2.2.1, hR.2.2.2.2.2.2.2.2.2.2.2.2.2.2.2.2.1, hR.2.2.2.2.2.2.2.2.2.2.2.2.2.2.2.2.2.1, hR.2.2.2.2.2.2.2.2.2.2.2.2.2.2.2.2.2.2.1, hR.2.2.2.2.2.2.2.2.2.2.2.2.2.2.2.2.2.2.2.1, hR.2.2.2.2.2.2.2.2.2.2.2.2.2.2.2.2.2.2.2.2.1, hR.2.2.2.2.2.2.2.2.2.2.2.2.2.2.2.2.2.2.2.2.2.1, hR.2.2.2.2.2.2.2.2.2.2.2.2.2.2.2.2.2.2.2.2.2.2.1, hR.2.2.2.2.2.2.2.2.2.2.2.2.2.2.2.2.2.2.2.2.2.2.2.1, hR.2.2.2.2.2.2.2.2.2.2.2.2.2.2.2.2.2.2.2.2.2.2.2.2.1, hR.2.2.2.2.2.2.2.2.2.2.2.2.2.2.2.2.2.2.2.2.2.2.2.2.2.1, hR.2.2.2.2.2.2.2.2.2.2.2.2.2.2.2.2.2.2.2.2.2.2.2.2.2.2.1, hR.2.2.2.2.2.2.2.2.2.2.2.2.2.2.2.2.2.2.2.2.2.2.2.2.2.2.2.1, ⟨d0, rfl, Or.inr rfl, d3⟩, hR.2.2.2.2.2.2.2.2.2.2.2.2.2.2.2.2.2.2.2.2.2.2.2.2.2.2.2.2.2.1, hR.2.2.2.2.2.2.2.2.2.2.2.2.2.2.2.2.2.2.2.2.2.2.2.2.2.2.2.2.2.2.1, hR.2.2.2.2.2.2.2.2.2.2.2.2.2.2.2.2.2.2.2.2.2.2.2.2.2.2.2.2.2.2.2.1, hR.2.2.2.2.2.2.2.2.2.2.2.2.2.2.2.2.2.2.2.2.2.2.2.2.2.2.2.2.2.2.2.2.1, hR.2.2.2.2.2.2.2.2.2.2.2.2.2.2.2.2.2.2.2.2.2.2.2.2.2.2.2.2.2.2.2.2.2⟩, ⟨rfl, rfl, fun j hj => by rcases hj with rfl | rfl | rfl <;> rfl, rfl⟩⟩
  · show eF_10_goOff (ep_mk c m0) = _
    unfold eF_10_goOff
    simp (disch := first | assumption | decide) only [↓ep_V, ↓ep_J, ↓ep_sb, ↓reduceIte, ep_rC1, ep_rC2, ep_rM, ep_rJ, ep_rQ, ep_wC1, ep_wC2, ep_wM, ep_iC1, ep_iC2, ep_iM, ep_wJ, ep_wQ, ep_cI1, ep_cIn, ep_cI2, ep_cL1, ep_cLn, ep_cL2, ep_cG1, ep_cGq, ep_cQ1, ep_cQ2, ep_cQq, ep_cQn, ep_mI1, ep_mIn, ep_mI2, ep_mL1, ep_mLn, ep_mL2, ep_mJ1, ep_mJ2]
  · show eh_V _ _ = _
    simp (disch := first | assumption | decide) only [↓ep_V, ↓ep_J, ↓ep_sb, ↓reduceIte, ep_rC1, ep_rC2, ep_rM, ep_rJ, ep_rQ, ep_wC1, ep_wC2, ep_wM, ep_iC1, ep_iC2, ep_iM, ep_wJ, ep_wQ, ep_cI1, ep_cIn, ep_cI2, ep_cL1, ep_cLn, ep_cL2, ep_cG1, ep_cGq, ep_cQ1, ep_cQ2, ep_cQq, ep_cQn, ep_mI1, ep_mIn, ep_mI2, ep_mL1, ep_mLn, ep_mL2, ep_mJ1, ep_mJ2]
theorem ep_setSlice {N : Nat} {c : ep_C} {m : ep_M} (hR : ep_R N c m) {h : Nat} (hh : h < 2) (p : Int32) : ep_Cp N c m (fun s => eF_10_setSlice s (eh_hp (nI h)) p) (fun s => eh_J (fun (u78 : Unit) => some ((-1 : Int32), s)) (fun j77 => if p < 0 then (j77 ()) else (if 100000 < p then (j77 ()) else (if eh_in (nI h) 2 then eh_V (eh_tI s 143 (eh_ix (nI h)) p) (fun s81 => some (0, s81)) else none)))) := by
  by_cases y1 : p < 0
  · refine ep_Cp_id hR (-1) (fun m0 => ?_) (fun c0 => ?_)
    · show eF_10_setSlice (ep_mk c m0) _ p = _
      unfold eF_10_setSlice
      rw [ep_J, if_pos y1]
    · show eh_J _ _ = _
      rw [ep_J, if_pos y1]
  · by_cases y2 : 100000 < p
    · refine ep_Cp_id hR (-1) (fun m0 => ?_) (fun c0 => ?_)
      · show eF_10_setSlice (ep_mk c m0) _ p = _
        unfold eF_10_setSlice
        rw [ep_J, if_neg y1, if_pos y2]
      · show eh_J _ _ = _
        rw [ep_J, if_neg y1, if_pos y2]
    · refine ⟨0, _, _, fun m0 => ?_, fun c0 => ?_, ep_S143 hR hh p, ⟨rfl, rfl, fun j hj => by rcases hj with rfl | rfl | rfl <;> rfl, rfl⟩⟩
      · show eF_10_setSlice (ep_mk c m0) _ p = _
        unfold eF_10_setSlice
        rw [ep_J, if_neg y1, if_neg y2, ep_V, ep_iH0 _ _ _ _ hh]
      · show eh_J _ _ = _
        rw [ep_J, if_neg y1, if_neg y2, if_pos (ep_in hh (by decide)), show eh_ix (nI h) = h from ep_ix (by omega), ep_V, ep_iM _ _ _ _ _ (by decide)]
