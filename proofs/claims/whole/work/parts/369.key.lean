/-! the first of a row is taken -/
def ep_sh (f : Nat → Int32) (n : Nat) : Nat → Int32 := fun j => if j < n then f (j + 1) else f j
theorem ep_sh_0 (f : Nat → Int32) : ep_sh f 0 = f := by
  funext j; unfold ep_sh; rw [if_neg (Nat.not_lt_zero _)]
theorem ep_sh_s (f : Nat → Int32) (i : Nat) : upd (ep_sh f i) i (ep_sh f i (i + 1)) = ep_sh f (i + 1) := by
  funext j
  unfold upd ep_sh
  rw [if_neg (show ¬ i + 1 < i by omega)]
  by_cases h : j = i
  · rw [if_pos h, if_pos (by omega), h]
  · rw [if_neg h]
    by_cases h2 : j < i
    · rw [if_pos h2, if_pos (by omega)]
    · rw [if_neg h2, if_neg (by omega)]
theorem ep_cpy_sh (f : Nat → Int32) (n : Nat) : va_cpy f f 1 0 n = ep_sh f n := by
  funext k
  unfold va_cpy ep_sh
  by_cases h : k < n
  · rw [if_pos h, if_pos ⟨Nat.zero_le _, by omega⟩]
    congr 1
    omega
  · rw [if_neg h, if_neg (fun z => h (by have := z.2; omega))]
theorem ep_ctake0 {c : ep_C} {th : Nat} (hth : th + 1 < 41) (h1 : c.1 th 1 = nI 0) (v : Int32) (m0 : ep_M) : eF_8_takeFirst (ep_mk c m0) th v = some (v, ep_mk c m0) := by
  unfold eF_8_takeFirst
  rw [ep_J, ep_rC1 _ _ th (by omega), h1, if_neg (by decide)]
theorem ep_ctake1 {c : ep_C} {th n : Nat} (hth : th + 1 < 41) (hrn : eh_rn th = 16) (hn : 0 < n) (hn2 : n ≤ 16) (h1 : c.1 th 1 = nI n) (v : Int32) (m0 : ep_M) : eF_8_takeFirst (ep_mk c m0) th v = some (c.1 (th + 1) 0, ep_mk (ep_cL (ep_cI c th 1 (nI (n - 1))) (th + 1) (ep_sh (c.1 (th + 1)) (n - 1))) m0) := by
  have q1 : (0 : Int32) < nI n := nI_lt (a := 0) hn (by omega)
  have q2 : ¬ Int32.ofNat 16 < nI n := nI_nlt (a := 16) (b := n) hn2 (by decide)
  have q3 : nI n - 1 = nI (n - 1) := pk_sub (a := n) (b := 1) (by omega)
  have q4 : eh_cok 1 0 (nI (n - 1)) 16 16 = true := by
    unfold eh_cok
    rw [nI_toInt (show n - 1 < 2 ^ 31 by omega), show (1 : Int32).toInt = 1 by decide, show (0 : Int32).toInt = 0 by decide]
    simp only [Bool.and_eq_true, decide_eq_true_eq]
    omega
  have q5 : (ep_mk (ep_cI c th 1 (nI (n - 1))) m0).1 th 1 = nI (n - 1) := by rw [ep_rC1 _ _ th (by omega), ep_cI1, ep_upd_eq]
  have q6 : (ep_mk (ep_cI c th 1 (nI (n - 1))) m0).1 (th + 1) = c.1 (th + 1) := by rw [ep_rC1 _ _ (th + 1) hth, ep_cIn _ _ _ _ _ (by omega)]
  unfold eF_8_takeFirst
  rw [ep_J, ep_rC1 _ _ th (by omega), h1, if_pos q1, hrn, if_neg q2, if_pos (show eh_in 0 16 = true by decide), ep_V, ep_rC1 _ _ (th + 1) hth, ep_V, q3, ep_iC1 _ _ _ _ _ (by omega), q5, if_pos q4, ep_V, q6, show eh_ix (nI (n - 1)) = n - 1 from ep_ix (by omega), show eh_ix 1 = 1 from rfl, show eh_ix 0 = 0 from rfl, ep_cpy_sh, ep_wC1 _ _ _ _ hth]
theorem ep_mshift {m : ep_M} {p z k : Nat} (hp : 127 < p) (hk : k < 16) (hz : m.1 127 z = nI k) (c0 : ep_C) : eh_loop (fun (r7 : (Int32 × eh_F) → Option (eh_F)) (t4 : Int32 × eh_F) => if t4.1 < (t4.2.1 127 z) then (if eh_in (t4.1 + 1) 16 then if eh_in t4.1 16 then eh_V (eh_tI t4.2 p (eh_ix t4.1) (t4.2.1 p (eh_ix (t4.1 + 1)))) (fun s9 => eh_V ((t4.1 + 1) : Int32) (fun x10 => r7 (x10, s9))) else none else none) else (some t4.2)) eh_FU (0, ep_mk c0 m) = some (ep_mk c0 (ep_mL m p (ep_sh (m.1 p) k))) := by
  have hz' : ∀ g, (ep_mk c0 (ep_mL m p g)).1 127 z = nI k := fun g => by rw [ep_rM _ _ _ (by decide), ep_mLn _ _ _ _ (by omega), hz]
  refine ep_loop (fun i => (nI i, ep_mk c0 (ep_mL m p (ep_sh (m.1 p) i)))) k _ (ep_FU _ (by omega)) ?_ ?_ ?_
  · intro i hi rec
    have z1 : nI i < nI k := nI_lt hi (by omega)
    have hpp : ∀ g, (ep_mk c0 (ep_mL m p g)).1 p = g := fun g => by rw [ep_rM _ _ _ (by omega), ep_mL1]
    show (if nI i < (ep_mk c0 (ep_mL m p (ep_sh (m.1 p) i))).1 127 z then _ else _) = _
    rw [hz', if_pos z1, nI_1, if_pos (ep_in (show i + 1 < 16 by omega) (by decide)), if_pos (ep_in (show i < 16 by omega) (by decide)), ep_V, ep_V, show eh_ix (nI i) = i from ep_ix (by omega), show eh_ix (nI (i + 1)) = i + 1 from ep_ix (by omega), hpp, ep_iM _ _ _ _ _ (by omega), ep_mLI, ep_sh_s]
  · intro rec
    show (if nI k < (ep_mk c0 (ep_mL m p (ep_sh (m.1 p) k))).1 127 z then _ else _) = _
    rw [hz', if_neg (nI_nlt (Nat.le_refl _) (by omega))]
  · show _ = (nI 0, ep_mk c0 (ep_mL m p (ep_sh (m.1 p) 0)))
    rw [ep_sh_0, ep_mLid]
    rfl
theorem ep_key_ {N : Nat} {c : ep_C} {m : ep_M} (hR : ep_R N c m) : ep_Cp N c m (fun s => eF_8_takeFirst s 20 256) (fun s => eF_12_key s) := by
  obtain ⟨g1, g2, n, g3, g4⟩ := hR.2.2.2.2.2.2.2.2.2.2.2.2.2.2.2.2.2.2.2.2.2.2.2.2.2.2.2.2.2.2.2.1
  by_cases hn : n = 0
  · subst hn
    refine ep_Cp_id hR 256 (fun m0 => ?_) (fun c0 => ?_)
    · exact ep_ctake0 (by decide) (g2.trans g4) 256 m0
    · show eF_12_key (ep_mk c0 m) = _
      unfold eF_12_key
      rw [ep_rM _ _ 127 (by decide), g4, if_pos (show nI 0 = 0 from rfl)]
  · have q0 : ¬ nI n = 0 := fun z => hn ((nI_eq (b := 0) (by omega) (by decide)).mp z)
    have q3 : nI n - 1 = nI (n - 1) := pk_sub (a := n) (b := 1) (by omega)
    refine ⟨m.1 180 0, ep_cL (ep_cI c 20 1 (nI (n - 1))) 21 (ep_sh (c.1 21) (n - 1)), ep_mL (ep_mI m 127 62 (nI (n - 1))) 180 (ep_sh (m.1 180) (n - 1)), fun m0 => ?_, fun c0 => ?_, ⟨hR.1, hR.2.1, hR.2.2.1, hR.2.2.2.1, hR.2.2.2.2.1, hR.2.2.2.2.2.1, hR.2.2.2.2.2.2.1, hR.2.2.2.2.2.2.2.1, hR.2.2.2.2.2.2.2.2.1, hR.2.2.2.2.2.2.2.2.2.1, hR.2.2.2.2.2.2.2.2.2.2.1, hR.2.2.2.2.2.2.2.2.2.2.2.1, hR.2.2.2.2.2.2.2.2.2.2.2.2.1, hR.2.2.2.2.2.2.2.2.2.2.2.2.2.1, hR.2.2.2.2.2.2.2.2.2.2.2.2.2.2.1, hR.2.2.2.2.2.2.2.2.2.2.2.2.2.2.2.1, hR.2.2.2.2.2.2.2.2.2.2.2.2.2.2.2.2.1, hR.2.2.2.2.2.2.2.2.2.2.2.2.2.2.2.2.2.1, hR.2.2.2.2.2.2.2.2.2.2.2.2.2.2.2.2.2.2.1, hR.2.2.2.2.2.2.2.2.2.2.2.2.2.2.2.2.2.2.2.1, hR.2.2.2.2.2.2.2.2.2.2.2.2.2.2.2.2.2.2.2.2.1, hR.2.2.2.2.2.2.2.2.2.2.2.2.2.2.2.2.2.2.2.2.2.1, hR.2.2.2.2.2.2.2.2.2.2.2.2.2.2.2.2.2.2.2.2.2.2.1, hR.2.2.2.2.2.2.2.2.2.2.2.2.2.2.2.2.2.2.2.2.2.2.2.1, hR.2.2.2.2.2.2.2.2.2.2.2.2.2.2.2.2.2.2.2.2.2.2.2.2.1, hR.2.2.2.2.2.2.2.2.2.2.2.2.2.2.2.2.2.2.2.2.2.2.2.2.2.1, hR.2.2.2.2.2.2.2.2.2.2.2.2.2.2.2.2.2.2.2.2.2.2.2.2.2.2.1, hR.2.2.2.2.2.2.2.2.2.2.2.2.2.2.2.2.2.2.2.2.2.2.2.2.2.2.2.1, hR.2.2.2.2.2.2.2.2.2.2.2.2.2.2.2.2.2.2.2.2.2.2.2.2.2.2.2.2.1, hR.2.2.2.2.2.2.2.2.2.2.2.2.2.2.2.2.2.2.2.2.2.2.2.2.2.2.2.2.2.1, hR.2.2.2.2.2.2.2.2.2.2.2.2.2.2.2.2.2.2.2.2.2.2.2.2.2.2.2.2.2.2.1, ?_, hR.2.2.2.2.2.2.2.2.2.2.2.2.2.2.2.2.2.2.2.2.2.2.2.2.2.2.2.2.2.2.2.2.1, hR.2.2.2.2.2.2.2.2.2.2.2.2.2.2.2.2.2.2.2.2.2.2.2.2.2.2.2.2.2.2.2.2.2⟩, ⟨rfl, rfl, fun j hj => by rcases hj with rfl | rfl | rfl <;> rfl, rfl⟩⟩
    · refine (ep_ctake1 (th := 20) (by decide) rfl (by omega) g3 (g2.trans g4) 256 m0).trans ?_
      rw [g1]
    · show eF_12_key (ep_mk c0 m) = _
      unfold eF_12_key
      rw [ep_rM _ _ 127 (by decide), g4, if_neg q0, ep_V, ep_rM _ _ 180 (by decide), ep_V, q3, ep_iM _ _ _ _ _ (by decide)]
      exact ep_bnd (ep_mshift (m := ep_mI m 127 62 (nI (n - 1))) (p := 180) (z := 62) (by decide) (by omega) (by rw [ep_mI1, ep_upd_eq]) c0) rfl
    · exact ⟨by show ep_sh (c.1 21) _ = ep_sh (m.1 180) _; rw [g1], rfl, n - 1, by omega, rfl⟩
