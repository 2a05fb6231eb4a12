/-! the system's calls, all of them -/
theorem ep_Sc_c {N' h : Nat} {c : ep_C} {m : ep_M} {F G F' G' : eh_F → Option (Int32 × eh_F)} (hS : ep_Sc N' h c m F G) (h1 : ∀ s, F' s = F s) (h2 : ∀ s, G' s = G s) : ep_Sc N' h c m F' G' := by
  obtain ⟨r, c', m', a, b, d⟩ := hS
  exact ⟨r, c', m', fun m0 => (h1 _).trans (a m0), fun c0 => (h2 _).trans (b c0), d⟩
theorem ep_Sc_mono {N N' h : Nat} {c : ep_C} {m : ep_M} {F G : eh_F → Option (Int32 × eh_F)} (hS : ep_Sc N h c m F G) (hN : N ≤ N') : ep_Sc N' h c m F G := by
  obtain ⟨r, c', m', a, b, d, e⟩ := hS
  exact ⟨r, c', m', a, b, ep_R_mono d hN, e⟩
theorem ep_beta {α β : Type} (x : Option (α × β)) : Option.bind x (fun q => some (q.1, q.2)) = x := by cases x <;> rfl
theorem ep_asked_ {N : Nat} {c : ep_C} {m : ep_M} (hR : ep_R N c m) (hN : N + 600 < 2 ^ 28) {h : Nat} (hh : h < 2) (hr : m.1 144 h = -1) (f p q r u : Int32) : ep_Sc (N + 264) h c m (fun x => if f < 12 then eF_10_answerOfEnclaves x (eh_hp (nI h)) f p q r u else eF_10_answerOfMachine x (eh_hp (nI h)) f p q r) (fun x => eF_12_asked x (nI h) f p q r u) := by
  by_cases h1 : f = 1
  · subst h1
    refine ep_Sc_c (ep_Sc_mono (ep_Sc_Cp (ep_create_ hR (by omega) p q)) (by omega)) (fun x => ?_) (fun x => ?_)
    · show (if (1 : Int32) < 12 then _ else _) = _
      rw [if_pos (by decide)]
      unfold eF_10_answerOfEnclaves
      rw [if_pos rfl]
      try exact ep_beta _
      try rfl
    · show eF_12_asked x (nI h) 1 p q r u = _
      unfold eF_12_asked
      rw [ep_J, ep_J, if_pos rfl]
      try exact ep_beta _
      try rfl
  by_cases h2 : f = 2
  · subst h2
    refine ep_Sc_c (ep_Sc_mono (ep_Sc_Cp (ep_load_ hR hN p q r)) (by omega)) (fun x => ?_) (fun x => ?_)
    · show (if (2 : Int32) < 12 then _ else _) = _
      rw [if_pos (by decide)]
      unfold eF_10_answerOfEnclaves
      rw [if_neg (by decide), if_pos rfl]
      try exact ep_beta _
      try rfl
    · show eF_12_asked x (nI h) 2 p q r u = _
      unfold eF_12_asked
      rw [ep_J, ep_J, if_neg (by decide), if_pos rfl]
      try exact ep_beta _
      try rfl
  by_cases h3 : f = 3
  · subst h3
    refine ep_Sc_c (ep_Sc_mono (ep_Sc_Cp (ep_makeThread_ hR (by omega) p q r)) (by omega)) (fun x => ?_) (fun x => ?_)
    · show (if (3 : Int32) < 12 then _ else _) = _
      rw [if_pos (by decide)]
      unfold eF_10_answerOfEnclaves
      rw [if_neg (by decide), if_neg (by decide), if_pos rfl]
      try exact ep_beta _
      try rfl
    · show eF_12_asked x (nI h) 3 p q r u = _
      unfold eF_12_asked
      rw [ep_J, ep_J, if_neg (by decide), if_neg (by decide), if_pos rfl]
      try exact ep_beta _
      try rfl
  by_cases h4 : f = 4
  · subst h4
    refine ep_Sc_c (ep_Sc_mono (ep_Sc_Cp (ep_finalise_ hR (by omega) p q)) (by omega)) (fun x => ?_) (fun x => ?_)
    · show (if (4 : Int32) < 12 then _ else _) = _
      rw [if_pos (by decide)]
      unfold eF_10_answerOfEnclaves
      rw [if_neg (by decide), if_neg (by decide), if_neg (by decide), if_pos rfl]
      try exact ep_beta _
      try rfl
    · show eF_12_asked x (nI h) 4 p q r u = _
      unfold eF_12_asked
      rw [ep_J, ep_J, if_neg (by decide), if_neg (by decide), if_neg (by decide), if_pos rfl]
      try exact ep_beta _
      try rfl
  by_cases h5 : f = 5
  · subst h5
    refine ep_Sc_c (ep_Sc_mono (ep_enter_ hR hh hr p q r) (by omega)) (fun x => ?_) (fun x => ?_)
    · show (if (5 : Int32) < 12 then _ else _) = _
      rw [if_pos (by decide)]
      unfold eF_10_answerOfEnclaves
      rw [if_neg (by decide), if_neg (by decide), if_neg (by decide), if_neg (by decide), if_pos rfl]
      try exact ep_beta _
      try rfl
    · show eF_12_asked x (nI h) 5 p q r u = _
      unfold eF_12_asked
      rw [ep_J, ep_J, if_neg (by decide), if_neg (by decide), if_neg (by decide), if_neg (by decide), if_pos rfl]
      try exact ep_beta _
      try rfl
  by_cases h6 : f = 6
  · subst h6
    refine ep_Sc_c (ep_Sc_mono (ep_resume_ hR hh hr p q r) (by omega)) (fun x => ?_) (fun x => ?_)
    · show (if (6 : Int32) < 12 then _ else _) = _
      rw [if_pos (by decide)]
      unfold eF_10_answerOfEnclaves
      rw [if_neg (by decide), if_neg (by decide), if_neg (by decide), if_neg (by decide), if_neg (by decide), if_pos rfl]
      try exact ep_beta _
      try rfl
    · show eF_12_asked x (nI h) 6 p q r u = _
      unfold eF_12_asked
      rw [ep_J, ep_J, if_neg (by decide), if_neg (by decide), if_neg (by decide), if_neg (by decide), if_neg (by decide), if_pos rfl]
      try exact ep_beta _
      try rfl
  by_cases h7 : f = 7
  · subst h7
    refine ep_Sc_c (ep_Sc_mono (ep_Sc_Cp (ep_stop_ hR p)) (by omega)) (fun x => ?_) (fun x => ?_)
    · show (if (7 : Int32) < 12 then _ else _) = _
      rw [if_pos (by decide)]
      unfold eF_10_answerOfEnclaves
      rw [if_neg (by decide), if_neg (by decide), if_neg (by decide), if_neg (by decide), if_neg (by decide), if_neg (by decide), if_pos rfl]
      try exact ep_beta _
      try rfl
    · show eF_12_asked x (nI h) 7 p q r u = _
      unfold eF_12_asked
      rw [ep_J, ep_J, if_neg (by decide), if_neg (by decide), if_neg (by decide), if_neg (by decide), if_neg (by decide), if_neg (by decide), if_pos rfl]
      try exact ep_beta _
      try rfl
  by_cases h8 : f = 8
  · subst h8
    refine ep_Sc_c (ep_Sc_mono (ep_Sc_Cp (ep_destroy_ hR p)) (by omega)) (fun x => ?_) (fun x => ?_)
    · show (if (8 : Int32) < 12 then _ else _) = _
      rw [if_pos (by decide)]
      unfold eF_10_answerOfEnclaves
      rw [if_neg (by decide), if_neg (by decide), if_neg (by decide), if_neg (by decide), if_neg (by decide), if_neg (by decide), if_neg (by decide), if_pos rfl]
      try exact ep_beta _
      try rfl
    · show eF_12_asked x (nI h) 8 p q r u = _
      unfold eF_12_asked
      rw [ep_J, ep_J, if_neg (by decide), if_neg (by decide), if_neg (by decide), if_neg (by decide), if_neg (by decide), if_neg (by decide), if_neg (by decide), if_pos rfl]
      try exact ep_beta _
      try rfl
  by_cases h9 : f = 9
  · subst h9
    refine ep_Sc_c (ep_Sc_mono (ep_Sc_Cp (ep_share_ hR p q r)) (by omega)) (fun x => ?_) (fun x => ?_)
    · show (if (9 : Int32) < 12 then _ else _) = _
      rw [if_pos (by decide)]
      unfold eF_10_answerOfEnclaves
      rw [if_neg (by decide), if_neg (by decide), if_neg (by decide), if_neg (by decide), if_neg (by decide), if_neg (by decide), if_neg (by decide), if_neg (by decide), if_pos rfl]
      try exact ep_beta _
      try rfl
    · show eF_12_asked x (nI h) 9 p q r u = _
      unfold eF_12_asked
      rw [ep_J, ep_J, if_neg (by decide), if_neg (by decide), if_neg (by decide), if_neg (by decide), if_neg (by decide), if_neg (by decide), if_neg (by decide), if_neg (by decide), if_pos rfl]
      try exact ep_beta _
      try rfl
  by_cases h10 : f = 10
  · subst h10
    refine ep_Sc_c (ep_Sc_mono (ep_Sc_Cp (ep_join_ hR p q r u)) (by omega)) (fun x => ?_) (fun x => ?_)
    · show (if (10 : Int32) < 12 then _ else _) = _
      rw [if_pos (by decide)]
      unfold eF_10_answerOfEnclaves
      rw [if_neg (by decide), if_neg (by decide), if_neg (by decide), if_neg (by decide), if_neg (by decide), if_neg (by decide), if_neg (by decide), if_neg (by decide), if_neg (by decide), if_pos rfl]
      try exact ep_beta _
      try rfl
    · show eF_12_asked x (nI h) 10 p q r u = _
      unfold eF_12_asked
      rw [ep_J, ep_J, if_neg (by decide), if_neg (by decide), if_neg (by decide), if_neg (by decide), if_neg (by decide), if_neg (by decide), if_neg (by decide), if_neg (by decide), if_neg (by decide), if_pos rfl]
      try exact ep_beta _
      try rfl
  by_cases h11 : f = 11
  · subst h11
    refine ep_Sc_c (ep_Sc_mono (ep_Sc_Cp (ep_drop_ hR p)) (by omega)) (fun x => ?_) (fun x => ?_)
    · show (if (11 : Int32) < 12 then _ else _) = _
      rw [if_pos (by decide)]
      unfold eF_10_answerOfEnclaves
      rw [if_neg (by decide), if_neg (by decide), if_neg (by decide), if_neg (by decide), if_neg (by decide), if_neg (by decide), if_neg (by decide), if_neg (by decide), if_neg (by decide), if_neg (by decide), if_pos rfl]
      try exact ep_beta _
      try rfl
    · show eF_12_asked x (nI h) 11 p q r u = _
      unfold eF_12_asked
      rw [ep_J, ep_J, if_neg (by decide), if_neg (by decide), if_neg (by decide), if_neg (by decide), if_neg (by decide), if_neg (by decide), if_neg (by decide), if_neg (by decide), if_neg (by decide), if_neg (by decide), if_pos rfl]
      try exact ep_beta _
      try rfl
  by_cases h12 : f = 12
  · subst h12
    refine ep_Sc_c (ep_Sc_mono (ep_Sc_Cp (ep_putOut hR p)) (by omega)) (fun x => ?_) (fun x => ?_)
    · show (if (12 : Int32) < 12 then _ else _) = _
      rw [if_neg (by decide)]
      unfold eF_10_answerOfMachine
      rw [if_pos rfl]
      try exact ep_beta _
      try rfl
    · show eF_12_asked x (nI h) 12 p q r u = _
      unfold eF_12_asked
      rw [ep_J, ep_J, if_neg (by decide), if_neg (by decide), if_neg (by decide), if_neg (by decide), if_neg (by decide), if_neg (by decide), if_neg (by decide), if_neg (by decide), if_neg (by decide), if_neg (by decide), if_neg (by decide), if_pos rfl]
      try exact ep_beta _
      try rfl
  by_cases h13 : f = 13
  · subst h13
    refine ep_Sc_c (ep_Sc_mono (ep_Sc_Cp (ep_signal hR p)) (by omega)) (fun x => ?_) (fun x => ?_)
    · show (if (13 : Int32) < 12 then _ else _) = _
      rw [if_neg (by decide)]
      unfold eF_10_answerOfMachine
      rw [if_neg (by decide), if_pos rfl]
      try exact ep_beta _
      try rfl
    · show eF_12_asked x (nI h) 13 p q r u = _
      unfold eF_12_asked
      rw [ep_J, ep_J, if_neg (by decide), if_neg (by decide), if_neg (by decide), if_neg (by decide), if_neg (by decide), if_neg (by decide), if_neg (by decide), if_neg (by decide), if_neg (by decide), if_neg (by decide), if_neg (by decide), if_neg (by decide), if_pos rfl]
      try exact ep_beta _
      try rfl
  by_cases h14 : f = 14
  · subst h14
    refine ep_Sc_c (ep_Sc_mono (ep_Sc_Cp (ep_askDisk hR p q r)) (by omega)) (fun x => ?_) (fun x => ?_)
    · show (if (14 : Int32) < 12 then _ else _) = _
      rw [if_neg (by decide)]
      unfold eF_10_answerOfMachine
      rw [if_neg (by decide), if_neg (by decide), if_pos rfl]
      try exact ep_beta _
      try rfl
    · show eF_12_asked x (nI h) 14 p q r u = _
      unfold eF_12_asked
      rw [ep_J, ep_J, if_neg (by decide), if_neg (by decide), if_neg (by decide), if_neg (by decide), if_neg (by decide), if_neg (by decide), if_neg (by decide), if_neg (by decide), if_neg (by decide), if_neg (by decide), if_neg (by decide), if_neg (by decide), if_neg (by decide), if_pos rfl]
      try exact ep_beta _
      try rfl
  by_cases h15 : f = 15
  · subst h15
    refine ep_Sc_c (ep_Sc_mono (ep_Sc_Cp (ep_tell hR)) (by omega)) (fun x => ?_) (fun x => ?_)
    · show (if (15 : Int32) < 12 then _ else _) = _
      rw [if_neg (by decide)]
      unfold eF_10_answerOfMachine
      rw [if_neg (by decide), if_neg (by decide), if_neg (by decide), if_pos rfl]
      try exact ep_beta _
      try rfl
    · show eF_12_asked x (nI h) 15 p q r u = _
      unfold eF_12_asked
      rw [ep_J, ep_J, if_neg (by decide), if_neg (by decide), if_neg (by decide), if_neg (by decide), if_neg (by decide), if_neg (by decide), if_neg (by decide), if_neg (by decide), if_neg (by decide), if_neg (by decide), if_neg (by decide), if_neg (by decide), if_neg (by decide), if_neg (by decide), if_pos rfl]
      try exact ep_beta _
      try rfl
  by_cases h16 : f = 16
  · subst h16
    refine ep_Sc_c (ep_Sc_mono (ep_Sc_Cp (ep_measure hR p q)) (by omega)) (fun x => ?_) (fun x => ?_)
    · show (if (16 : Int32) < 12 then _ else _) = _
      rw [if_neg (by decide)]
      unfold eF_10_answerOfMachine
      rw [if_neg (by decide), if_neg (by decide), if_neg (by decide), if_neg (by decide), if_pos rfl]
      try exact ep_beta _
      try rfl
    · show eF_12_asked x (nI h) 16 p q r u = _
      unfold eF_12_asked
      rw [ep_J, ep_J, if_neg (by decide), if_neg (by decide), if_neg (by decide), if_neg (by decide), if_neg (by decide), if_neg (by decide), if_neg (by decide), if_neg (by decide), if_neg (by decide), if_neg (by decide), if_neg (by decide), if_neg (by decide), if_neg (by decide), if_neg (by decide), if_neg (by decide), if_pos rfl]
      try exact ep_beta _
      try rfl
  by_cases h17 : f = 17
  · subst h17
    refine ep_Sc_c (ep_Sc_mono (ep_Sc_Cp (ep_look_ hR p q)) (by omega)) (fun x => ?_) (fun x => ?_)
    · show (if (17 : Int32) < 12 then _ else _) = _
      rw [if_neg (by decide)]
      unfold eF_10_answerOfMachine
      rw [if_neg (by decide), if_neg (by decide), if_neg (by decide), if_neg (by decide), if_neg (by decide), if_pos rfl]
      try exact ep_beta _
      try rfl
    · show eF_12_asked x (nI h) 17 p q r u = _
      unfold eF_12_asked
      rw [ep_J, ep_J, if_neg (by decide), if_neg (by decide), if_neg (by decide), if_neg (by decide), if_neg (by decide), if_neg (by decide), if_neg (by decide), if_neg (by decide), if_neg (by decide), if_neg (by decide), if_neg (by decide), if_neg (by decide), if_neg (by decide), if_neg (by decide), if_neg (by decide), if_neg (by decide), if_pos rfl]
      try exact ep_beta _
      try rfl
  by_cases h18 : f = 18
  · subst h18
    refine ep_Sc_c (ep_Sc_mono (ep_Sc_Cp (ep_goOff hR)) (by omega)) (fun x => ?_) (fun x => ?_)
    · show (if (18 : Int32) < 12 then _ else _) = _
      rw [if_neg (by decide)]
      unfold eF_10_answerOfMachine
      rw [if_neg (by decide), if_neg (by decide), if_neg (by decide), if_neg (by decide), if_neg (by decide), if_neg (by decide), if_pos rfl]
      try exact ep_beta _
      try rfl
    · show eF_12_asked x (nI h) 18 p q r u = _
      unfold eF_12_asked
      rw [ep_J, ep_J, if_neg (by decide), if_neg (by decide), if_neg (by decide), if_neg (by decide), if_neg (by decide), if_neg (by decide), if_neg (by decide), if_neg (by decide), if_neg (by decide), if_neg (by decide), if_neg (by decide), if_neg (by decide), if_neg (by decide), if_neg (by decide), if_neg (by decide), if_neg (by decide), if_neg (by decide), if_pos rfl]
      try exact ep_beta _
      try rfl
  by_cases h19 : f = 19
  · subst h19
    refine ep_Sc_c (ep_Sc_mono (ep_Sc_Cp (ep_setSlice hR hh p)) (by omega)) (fun x => ?_) (fun x => ?_)
    · show (if (19 : Int32) < 12 then _ else _) = _
      rw [if_neg (by decide)]
      unfold eF_10_answerOfMachine
      rw [if_neg (by decide), if_neg (by decide), if_neg (by decide), if_neg (by decide), if_neg (by decide), if_neg (by decide), if_neg (by decide), if_pos rfl]
      try exact ep_beta _
      try rfl
    · show eF_12_asked x (nI h) 19 p q r u = _
      unfold eF_12_asked
      rw [ep_J, ep_J, if_neg (by decide), if_neg (by decide), if_neg (by decide), if_neg (by decide), if_neg (by decide), if_neg (by decide), if_neg (by decide), if_neg (by decide), if_neg (by decide), if_neg (by decide), if_neg (by decide), if_neg (by decide), if_neg (by decide), if_neg (by decide), if_neg (by decide), if_neg (by decide), if_neg (by decide), if_neg (by decide), if_pos rfl]
      try exact ep_beta _
      try rfl
  by_cases h20 : f = 20
  · subst h20
    refine ep_Sc_c (ep_Sc_mono (ep_Sc_Cp (ep_offer_ hR (f := 20) (by decide) p q r)) (by omega)) (fun x => ?_) (fun x => ?_)
    · show (if (20 : Int32) < 12 then _ else _) = _
      rw [if_neg (by decide)]
      unfold eF_10_answerOfMachine
      rw [if_neg (by decide), if_neg (by decide), if_neg (by decide), if_neg (by decide), if_neg (by decide), if_neg (by decide), if_neg (by decide), if_neg (by decide), if_pos rfl]
      try exact ep_beta _
      try rfl
    · show eF_12_asked x (nI h) 20 p q r u = _
      unfold eF_12_asked
      rw [ep_J, ep_J, if_neg (by decide), if_neg (by decide), if_neg (by decide), if_neg (by decide), if_neg (by decide), if_neg (by decide), if_neg (by decide), if_neg (by decide), if_neg (by decide), if_neg (by decide), if_neg (by decide), if_neg (by decide), if_neg (by decide), if_neg (by decide), if_neg (by decide), if_neg (by decide), if_neg (by decide), if_neg (by decide), if_neg (by decide), if_pos rfl]
      try exact ep_beta _
      try rfl
  by_cases h21 : f = 21
  · subst h21
    refine ep_Sc_c (ep_Sc_mono (ep_Sc_Cp (ep_key_ hR)) (by omega)) (fun x => ?_) (fun x => ?_)
    · show (if (21 : Int32) < 12 then _ else _) = _
      rw [if_neg (by decide)]
      unfold eF_10_answerOfMachine
      rw [if_neg (by decide), if_neg (by decide), if_neg (by decide), if_neg (by decide), if_neg (by decide), if_neg (by decide), if_neg (by decide), if_neg (by decide), if_neg (by decide), if_pos rfl]
      try exact ep_beta _
      try rfl
    · show eF_12_asked x (nI h) 21 p q r u = _
      unfold eF_12_asked
      rw [ep_J, ep_J, if_neg (by decide), if_neg (by decide), if_neg (by decide), if_neg (by decide), if_neg (by decide), if_neg (by decide), if_neg (by decide), if_neg (by decide), if_neg (by decide), if_neg (by decide), if_neg (by decide), if_neg (by decide), if_neg (by decide), if_neg (by decide), if_neg (by decide), if_neg (by decide), if_neg (by decide), if_neg (by decide), if_neg (by decide), if_neg (by decide), if_pos rfl]
      try exact ep_beta _
      try rfl
  refine ep_Sc_Cp (ep_Cp_id (ep_R_mono hR (by omega)) (-1) (fun m0 => ?_) (fun c0 => ?_))
  · show (if f < 12 then _ else _) = _
    by_cases y : f < 12
    · rw [if_pos y]
      unfold eF_10_answerOfEnclaves
      rw [if_neg h1, if_neg h2, if_neg h3, if_neg h4, if_neg h5, if_neg h6, if_neg h7, if_neg h8, if_neg h9, if_neg h10, if_neg h11]
    · rw [if_neg y]
      unfold eF_10_answerOfMachine
      rw [if_neg h12, if_neg h13, if_neg h14, if_neg h15, if_neg h16, if_neg h17, if_neg h18, if_neg h19, if_neg h20, if_neg h21]
  · show eF_12_asked (ep_mk c0 m) (nI h) f p q r u = _
    unfold eF_12_asked
    rw [ep_J, ep_J, if_neg h1, if_neg h2, if_neg h3, if_neg h4, if_neg h5, if_neg h6, if_neg h7, if_neg h8, if_neg h9, if_neg h10, if_neg h11, if_neg h12, if_neg h13, if_neg h14, if_neg h15, if_neg h16, if_neg h17, if_neg h18, if_neg h19, if_neg h20, if_neg h21]
def ep_chd_ (f : Int32) : Bool := (!decide (f < 1) && !decide (11 < f)) || decide (f = 19) || decide (f = 20)
theorem ep_ch2 {α : Type} (f : Int32) (X Y : α) : (eh_J (fun (_ : Unit) => X) (fun j11 => eh_J (fun (_ : Unit) => if f = 19 then (j11 ()) else (if f = 20 then (j11 ()) else Y)) (fun j13 => if f < 1 then (j13 ()) else (if 11 < f then (j13 ()) else (j11 ()))))) = if ep_chd_ f = true then X else Y := by
  simp only [ep_J]
  unfold ep_chd_
  by_cases y1 : f < 1
  · by_cases y3 : f = 19
    · simp [y1, y3]
    · by_cases y4 : f = 20
      · simp [y1, y4]
      · simp [y1, y3, y4]
  · by_cases y2 : 11 < f
    · by_cases y3 : f = 19
      · simp [y2, y3]
      · by_cases y4 : f = 20
        · simp [y2, y4]
        · simp [y1, y2, y3, y4]
    · simp [y1, y2]
theorem ep_bnd8 {α β : Type} {x : Option α} {f1 f2 f3 f4 f5 f6 f7 : α → Option α} {v : α} (K : α → Option β) (h : Option.bind x (fun a => Option.bind (f1 a) (fun a => Option.bind (f2 a) (fun a => Option.bind (f3 a) (fun a => Option.bind (f4 a) (fun a => Option.bind (f5 a) (fun a => Option.bind (f6 a) f7)))))) = some v) : Option.bind x (fun a => Option.bind (f1 a) (fun a => Option.bind (f2 a) (fun a => Option.bind (f3 a) (fun a => Option.bind (f4 a) (fun a => Option.bind (f5 a) (fun a => Option.bind (f6 a) (fun a => Option.bind (f7 a) K))))))) = K v := by
  have h2 := congrArg (fun o => Option.bind o K) h
  simp only [Option.bind_assoc] at h2
  exact h2
theorem ep_serve_ {N : Nat} {c : ep_C} {m : ep_M} (hR : ep_R N c m) (hN : N + 600 < 2 ^ 28) {h : Nat} (hh : h < 2) (hr : m.1 144 h = -1) (f p q r u : Int32) : ∃ a c' m', (∀ m0, eF_10_serve (ep_mk c m0) (eh_hp (nI h)) f p q r u = some (a, ep_mk c' m0)) ∧ (∀ c0, eF_12_systemCall (ep_mk c0 m) (nI h) f p q r u = some (a, ep_mk c0 m')) ∧ ep_R (N + 264) c' m' ∧ c'.2.2 = c.2.2 ∧ c'.1 124 = c.1 124 ∧ (∀ j, j = 83 ∨ j = 85 → m'.1 127 j = m.1 127 j) ∧ ((m'.1 127 86 = 0 ∧ m'.1 144 = m.1 144) ∨ (m'.1 127 86 = 1 ∧ m'.1 144 h ≠ -1)) := by
  have R0 : ep_R N c (ep_mI m 127 86 0) := ⟨hR.1, hR.2.1, hR.2.2.1, hR.2.2.2.1, hR.2.2.2.2.1, hR.2.2.2.2.2.1, hR.2.2.2.2.2.2.1, hR.2.2.2.2.2.2.2.1, hR.2.2.2.2.2.2.2.2.1, hR.2.2.2.2.2.2.2.2.2.1, hR.2.2.2.2.2.2.2.2.2.2.1, hR.2.2.2.2.2.2.2.2.2.2.2.1, hR.2.2.2.2.2.2.2.2.2.2.2.2.1, hR.2.2.2.2.2.2.2.2.2.2.2.2.2.1, hR.2.2.2.2.2.2.2.2.2.2.2.2.2.2.1, hR.2.2.2.2.2.2.2.2.2.2.2.2.2.2.2.1, hR.2.2.2.2.2.2.2.2.2.2.2.2.2.2.2.2.1, hR.2.2.2.2.2.2.2.2.2.2.2.2.2.2.2.2.2.1, hR.2.2.2.2.2.2.2.2.2.2.2.2.2.2.2.2.2.2.1, hR.2.2.2.2.2.2.2.2.2.2.2.2.2.2.2.2.2.2.2.1, hR.2.2.2.2.2.2.2.2.2.2.2.2.2.2.2.2.2.2.2.2.1, hR.2.2.2.2.2.2.2.2.2.2.2.2.2.2.2.2.2.2.2.2.2.1, hR.2.2.2.2.2.2.2.2.2.2.2.2.2.2.2.2.2.2.2.2.2.2.1, hR.2.2.2.2.2.2.2.2.2.2.2.2.2.2.2.2.2.2.2.2.2.2.2.1, hR.2.2.2.2.2.2.2.2.2.2.2.2.2.2.2.2.2.2.2.2.2.2.2.2.1, hR.2.2.2.2.2.2.2.2.2.2.2.2.2.2.2.2.2.2.2.2.2.2.2.2.2.1, hR.2.2.2.2.2.2.2.2.2.2.2.2.2.2.2.2.2.2.2.2.2.2.2.2.2.2.1, hR.2.2.2.2.2.2.2.2.2.2.2.2.2.2.2.2.2.2.2.2.2.2.2.2.2.2.2.1, hR.2.2.2.2.2.2.2.2.2.2.2.2.2.2.2.2.2.2.2.2.2.2.2.2.2.2.2.2.1, hR.2.2.2.2.2.2.2.2.2.2.2.2.2.2.2.2.2.2.2.2.2.2.2.2.2.2.2.2.2.1, hR.2.2.2.2.2.2.2.2.2.2.2.2.2.2.2.2.2.2.2.2.2.2.2.2.2.2.2.2.2.2.1, hR.2.2.2.2.2.2.2.2.2.2.2.2.2.2.2.2.2.2.2.2.2.2.2.2.2.2.2.2.2.2.2.1, hR.2.2.2.2.2.2.2.2.2.2.2.2.2.2.2.2.2.2.2.2.2.2.2.2.2.2.2.2.2.2.2.2.1, hR.2.2.2.2.2.2.2.2.2.2.2.2.2.2.2.2.2.2.2.2.2.2.2.2.2.2.2.2.2.2.2.2.2⟩
  obtain ⟨a, c1, m1, A, B, R1, q1, q2, q3, q4⟩ := ep_asked_ R0 hN hh hr f p q r u
  have q3' : ∀ j, j = 83 ∨ j = 85 → m1.1 127 j = m.1 127 j := fun j hj => by
    rw [q3 j hj]
    rcases hj with rfl | rfl <;> rfl
  have q4' : (m1.1 127 86 = 0 ∧ m1.1 144 = m.1 144) ∨ (m1.1 127 86 = 1 ∧ m1.1 144 h ≠ -1) := by
    rcases q4 with z | z
    · exact Or.inl ⟨z.1.trans rfl, z.2⟩
    · exact Or.inr z
  have cA : ∀ m0, eF_10_serve (ep_mk c m0) (eh_hp (nI h)) f p q r u = if ep_chd_ f = true then (if a < 0 then some (a, ep_mk c1 m0) else Option.bind (eF_5_chain (ep_mk c1 m0) f p q r u) (fun q10 => some (a, q10))) else some (a, ep_mk c1 m0) := by
    intro m0
    have z : (if f < 12 then eF_10_answerOfEnclaves (ep_mk c m0) (eh_hp (nI h)) f p q r u else eF_10_answerOfMachine (ep_mk c m0) (eh_hp (nI h)) f p q r) = some (a, ep_mk c1 m0) := A m0
    unfold eF_10_serve
    rw [ep_J]
    have fin : (eh_J (fun (a5 : Int32) => eh_J (fun (s7 : eh_F) => some (a, s7)) (fun j6 => if a5 = 0 then (j6 (ep_mk c1 m0)) else (if a < 0 then (j6 (ep_mk c1 m0)) else (Option.bind (eF_5_chain (ep_mk c1 m0) f p q r u) (fun q10 => j6 q10))))) (fun j4 => eh_J (fun (u12 : Unit) => j4 1) (fun j11 => eh_J (fun (u14 : Unit) => if f = 19 then (j11 ()) else (if f = 20 then (j11 ()) else (j4 0))) (fun j13 => if f < 1 then (j13 ()) else (if 11 < f then (j13 ()) else (j11 ())))))) = if ep_chd_ f = true then (if a < 0 then some (a, ep_mk c1 m0) else Option.bind (eF_5_chain (ep_mk c1 m0) f p q r u) (fun q10 => some (a, q10))) else some (a, ep_mk c1 m0) := by
      rw [ep_J, ep_ch2]
      by_cases y : ep_chd_ f = true
      · rw [if_pos y, if_pos y]; rfl
      · rw [if_neg y, if_neg y]; rfl
    by_cases y : f < 12
    · rw [if_pos y] at z
      rw [if_pos y, z]
      exact fin
    · rw [if_neg y] at z
      rw [if_neg y, z]
      exact fin
  have cB : ∀ c0, eF_12_systemCall (ep_mk c0 m) (nI h) f p q r u = if a < 0 then some (a, ep_mk c0 m1) else (if ep_chd_ f = true then Option.bind (eF_12_begin (ep_mk c0 m1) 6) (fun q8 => Option.bind (eF_12_addBytes q8 6 187 32 0 32) (fun q9 => Option.bind (eF_12_addNumber q9 6 f) (fun q10 => Option.bind (eF_12_addNumber q10 6 p) (fun q11 => Option.bind (eF_12_addNumber q11 6 q) (fun q12 => Option.bind (eF_12_addNumber q12 6 r) (fun q13 => Option.bind (eF_12_addNumber q13 6 u) (fun q14 => Option.bind (eF_12_finish q14 6 187 32 0) (fun q15 => some (a, q15))))))))) else some (a, ep_mk c0 m1)) := by
    intro c0
    unfold eF_12_systemCall
    rw [ep_V, ep_iM _ _ _ _ _ (by decide)]
    refine ep_bnd (B c0) ?_
    rw [ep_J]
    by_cases y : a < 0
    · rw [if_pos y, if_pos y]
    · rw [if_neg y, if_neg y, ep_ch2]
  by_cases y1 : a < 0
  · refine ⟨a, c1, m1, fun m0 => ?_, fun c0 => ?_, R1, q1, q2, q3', q4'⟩
    · rw [cA]
      by_cases y2 : ep_chd_ f = true
      · rw [if_pos y2, if_pos y1]
      · rw [if_neg y2]
    · rw [cB, if_pos y1]
  · by_cases y2 : ep_chd_ f = true
    · obtain ⟨c2, m2, d1, d2, R2, d3⟩ := ep_chain R1 f p q r u
      refine ⟨a, c2, m2, fun m0 => ?_, fun c0 => ?_, R2, d3.1.trans q1, d3.2.1.trans q2, fun j hj => (d3.2.2.1 j (by omega)).trans (q3' j hj), ?_⟩
      · rw [cA, if_pos y2, if_neg y1, d1, ep_sb]
      · rw [cB, if_neg y1, if_pos y2]
        exact ep_bnd8 (fun q15 => some (a, q15)) (d2 c0)
      · rw [d3.2.2.1 86 (by omega), d3.2.2.2]
        exact q4'
    · refine ⟨a, c1, m1, fun m0 => ?_, fun c0 => ?_, R1, q1, q2, q3', q4'⟩
      · rw [cA, if_neg y2]
      · rw [cB, if_neg y1, if_neg y2]
