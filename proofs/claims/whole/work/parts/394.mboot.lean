/-! the reference's boot -/
theorem er_mLc (m : ep_M) {a b : Nat} (hab : a ≠ b) (f g : Nat → Int32) (j : Nat) (v : Int32) : ep_mI (ep_mL (ep_mL m a f) b g) a j v = ep_mL (ep_mL m a (upd f j v)) b g := by
  refine Prod.ext ?_ rfl
  funext k
  simp only [ep_mI, ep_mL, ep_uf]
  by_cases h1 : k = a
  · subst h1; simp [hab]
  · simp [h1]
def er_me (m : ep_M) (i : Nat) : ep_M := ep_mL (ep_mL m 155 (er_fl (m.1 155) i 0)) 158 (er_fl (m.1 158) i 0)
def er_mt (m : ep_M) (i : Nat) : ep_M := ep_mL (ep_mL m 148 (er_fl (m.1 148) i 0)) 164 (er_fl (m.1 164) i 0)
def er_mh1 (m : ep_M) (h : Nat) : ep_M := ep_mI (ep_mI (ep_mI (ep_mI (ep_mI (ep_mI (ep_mI (ep_mI (ep_mI (ep_mI (ep_mI (ep_mI (ep_mI (ep_mI (ep_mI (ep_mI m 130 h 0) 131 h 1) 132 h (eh_nz 0)) 133 h 0) 134 h 0) 135 h 0) 136 h 0) 137 h 0) 138 h 0) 139 h 0) 140 h 0) 141 h (-1)) 142 h 0) 143 h 0) 144 h (-1)) 147 h (-1)
def er_m6 (m : ep_M) : ep_M := ep_mI (ep_mI (ep_mI (ep_mI (ep_mI (ep_mI (ep_mI (ep_mI (ep_mI (ep_mI (ep_mI (ep_mI m 127 20 0) 127 21 0) 127 22 0) 127 50 0) 127 52 0) 127 58 0) 127 59 0) 127 60 0) 127 62 0) 127 67 (-1)) 127 64 0) 127 66 0
theorem er_me0 (m : ep_M) : er_me m 0 = m := by
  unfold er_me
  rw [er_fl0, er_fl0, ep_mLid, ep_mLid]
theorem er_mt0 (m : ep_M) : er_mt m 0 = m := by
  unfold er_mt
  rw [er_fl0, er_fl0, ep_mLid, ep_mLid]
theorem er_me_l (m : ep_M) (c0 : ep_C) : eh_loop (fun (r75 : (Int32 × Int32 × eh_F) → Option (Int32 × eh_F)) (t1 : Int32 × Int32 × eh_F) => if t1.2.1 < 6 then (if eh_in t1.2.1 6 then eh_J (fun (a78 : Int32) => eh_V ((t1.1 + a78) : Int32) (fun x79 => if eh_in t1.2.1 6 then eh_V (eh_tI t1.2.2 155 (eh_ix t1.2.1) 0) (fun s80 => if eh_in t1.2.1 6 then eh_V (eh_tI s80 158 (eh_ix t1.2.1) 0) (fun s81 => eh_V ((t1.2.1 + 1) : Int32) (fun x82 => r75 (x79, x82, s81))) else none) else none)) (fun j77 => if (t1.2.2.1 155 (eh_ix t1.2.1)) = 0 then (j77 0) else (j77 1)) else none) else (some (t1.1, t1.2.2))) eh_FU (0, 0, ep_mk c0 m) = some (er_ct (m.1 155) 6, ep_mk c0 (er_me m 6)) := by
  refine ep_loop (fun i => (er_ct (m.1 155) i, nI i, ep_mk c0 (er_me m i))) 6 _ (ep_FU _ (by decide)) ?_ ?_ ?_
  · intro i hi rec
    have i6 : eh_in (nI i) 6 = true := ep_in hi (by decide)
    have x6 : eh_ix (nI i) = i := ep_ix (by omega)
    have r1 : (er_me m i).1 155 i = m.1 155 i := by
      show er_fl (m.1 155) i 0 i = _
      exact er_fln (Nat.le_refl i)
    have s1 : ep_mI (ep_mI (er_me m i) 155 i 0) 158 i 0 = er_me m (i + 1) := by
      unfold er_me
      rw [er_mLc m (by decide), ep_mLI, er_fls, er_fls]
    show (if nI i < 6 then _ else _) = rec (er_ct (m.1 155) i + (if m.1 155 i = 0 then 0 else 1), nI (i + 1), ep_mk c0 (er_me m (i + 1)))
    rw [if_pos (show nI i < 6 from nI_lt (b := 6) hi (by decide)), if_pos i6, ep_J, x6, ep_rM _ _ 155 (by decide), r1]
    by_cases y : m.1 155 i = 0
    · rw [if_pos y, if_pos y]; dsimp only; rw [ep_V, if_pos i6, ep_V, ep_iM _ _ _ _ _ (by decide), if_pos i6, ep_V, ep_iM _ _ _ _ _ (by decide), ep_V, s1, nI_1]
    · rw [if_neg y, if_neg y]; dsimp only; rw [ep_V, if_pos i6, ep_V, ep_iM _ _ _ _ _ (by decide), if_pos i6, ep_V, ep_iM _ _ _ _ _ (by decide), ep_V, s1, nI_1]
  · intro rec
    show (if nI 6 < 6 then _ else _) = _
    rw [if_neg (by decide)]
  · show _ = (0, nI 0, ep_mk c0 (er_me m 0))
    rw [er_me0]; rfl
theorem er_mt_l (m : ep_M) (c0 : ep_C) : eh_loop (fun (r59 : (Int32 × eh_F) → Option (eh_F)) (t7 : Int32 × eh_F) => if t7.1 < 12 then (if eh_in t7.1 12 then eh_V (eh_tI t7.2 148 (eh_ix t7.1) 0) (fun s61 => if eh_in t7.1 12 then eh_V (eh_tI s61 164 (eh_ix t7.1) 0) (fun s62 => eh_V ((t7.1 + 1) : Int32) (fun x63 => r59 (x63, s62))) else none) else none) else (some t7.2)) eh_FU (0, ep_mk c0 m) = some (ep_mk c0 (er_mt m 12)) := by
  refine ep_loop (fun i => (nI i, ep_mk c0 (er_mt m i))) 12 _ (ep_FU _ (by decide)) ?_ ?_ ?_
  · intro i hi rec
    have i6 : eh_in (nI i) 12 = true := ep_in hi (by decide)
    have x6 : eh_ix (nI i) = i := ep_ix (by omega)
    have s1 : ep_mI (ep_mI (er_mt m i) 148 i 0) 164 i 0 = er_mt m (i + 1) := by
      unfold er_mt
      rw [er_mLc m (by decide), ep_mLI, er_fls, er_fls]
    show (if nI i < 12 then _ else _) = _
    rw [if_pos (show nI i < 12 from nI_lt (b := 12) hi (by decide)), if_pos i6, ep_V, x6, ep_iM _ _ _ _ _ (by decide), if_pos i6, ep_V, ep_iM _ _ _ _ _ (by decide), ep_V, s1, nI_1]
  · intro rec
    show (if nI 12 < 12 then _ else _) = _
    rw [if_neg (by decide)]
  · show _ = (nI 0, ep_mk c0 (er_mt m 0))
    rw [er_mt0]; rfl
theorem er_mw_l (m : ep_M) (c0 : ep_C) : eh_loop (fun (r70 : (Int32 × eh_F) → Option (eh_F)) (t3 : Int32 × eh_F) => if t3.1 < 131072 then (if eh_in t3.1 131072 then eh_V (eh_tI t3.2 128 (eh_ix t3.1) (eh_nb 0)) (fun s72 => eh_V ((t3.1 + 1) : Int32) (fun x73 => r70 (x73, s72))) else none) else (some t3.2)) eh_FU (0, ep_mk c0 m) = some (ep_mk c0 (ep_mL m 128 (er_fl (m.1 128) 131072 (eh_nb 0)))) := by
  refine ep_loop (fun i => (nI i, ep_mk c0 (ep_mL m 128 (er_fl (m.1 128) i (eh_nb 0))))) 131072 _ (ep_FU _ (by decide)) ?_ ?_ ?_
  · intro i hi rec
    show (if nI i < 131072 then _ else _) = _
    rw [if_pos (show nI i < 131072 from nI_lt (b := 131072) hi (by decide)), if_pos (ep_in hi (by decide)), ep_V, ep_V, ep_ix (by omega), ep_iM _ _ _ _ _ (by decide), ep_mLI, er_fls, nI_1]
  · intro rec
    show (if nI 131072 < 131072 then _ else _) = _
    rw [if_neg (by decide)]
  · show _ = (nI 0, ep_mk c0 (ep_mL m 128 (er_fl (m.1 128) 0 (eh_nb 0))))
    rw [er_fl0, ep_mLid]; rfl
theorem er_mx_l (m : ep_M) (c0 : ep_C) : eh_loop (fun (r65 : (Int32 × eh_F) → Option (eh_F)) (t5 : Int32 × eh_F) => if t5.1 < 448 then (if eh_in t5.1 448 then eh_V (eh_tI t5.2 129 (eh_ix t5.1) 0) (fun s67 => eh_V ((t5.1 + 1) : Int32) (fun x68 => r65 (x68, s67))) else none) else (some t5.2)) eh_FU (0, ep_mk c0 m) = some (ep_mk c0 (ep_mL m 129 (er_fl (m.1 129) 448 0))) := by
  refine ep_loop (fun i => (nI i, ep_mk c0 (ep_mL m 129 (er_fl (m.1 129) i 0)))) 448 _ (ep_FU _ (by decide)) ?_ ?_ ?_
  · intro i hi rec
    show (if nI i < 448 then _ else _) = _
    rw [if_pos (show nI i < 448 from nI_lt (b := 448) hi (by decide)), if_pos (ep_in hi (by decide)), ep_V, ep_V, ep_ix (by omega), ep_iM _ _ _ _ _ (by decide), ep_mLI, er_fls, nI_1]
  · intro rec
    show (if nI 448 < 448 then _ else _) = _
    rw [if_neg (by decide)]
  · show _ = (nI 0, ep_mk c0 (ep_mL m 129 (er_fl (m.1 129) 0 0)))
    rw [er_fl0, ep_mLid]; rfl
theorem er_ml_l (m : ep_M) (c0 : ep_C) : eh_loop (fun (r34 : (Int32 × eh_F) → Option (eh_F)) (t21 : Int32 × eh_F) => if t21.1 < 32 then (if eh_in t21.1 32 then eh_V (eh_tI t21.2 187 (eh_ix t21.1) (eh_nb 0)) (fun s36 => eh_V ((t21.1 + 1) : Int32) (fun x37 => r34 (x37, s36))) else none) else (some t21.2)) eh_FU (0, ep_mk c0 m) = some (ep_mk c0 (ep_mL m 187 (er_fl (m.1 187) 32 (eh_nb 0)))) := by
  refine ep_loop (fun i => (nI i, ep_mk c0 (ep_mL m 187 (er_fl (m.1 187) i (eh_nb 0))))) 32 _ (ep_FU _ (by decide)) ?_ ?_ ?_
  · intro i hi rec
    show (if nI i < 32 then _ else _) = _
    rw [if_pos (show nI i < 32 from nI_lt (b := 32) hi (by decide)), if_pos (ep_in hi (by decide)), ep_V, ep_V, ep_ix (by omega), ep_iM _ _ _ _ _ (by decide), ep_mLI, er_fls, nI_1]
  · intro rec
    show (if nI 32 < 32 then _ else _) = _
    rw [if_neg (by decide)]
  · show _ = (nI 0, ep_mk c0 (ep_mL m 187 (er_fl (m.1 187) 0 (eh_nb 0))))
    rw [er_fl0, ep_mLid]; rfl
theorem er_mh_l (m : ep_M) (c0 : ep_C) : eh_loop (fun (r39 : (Int32 × eh_F) → Option (eh_F)) (t9 : Int32 × eh_F) => if t9.1 < 2 then (if eh_in t9.1 14 then eh_V (eh_tI t9.2 130 (eh_ix t9.1) 0) (fun s41 => if eh_in t9.1 2 then eh_V (eh_tI s41 131 (eh_ix t9.1) 1) (fun s42 => if eh_in t9.1 2 then eh_V (eh_tI s42 132 (eh_ix t9.1) (eh_nz 0)) (fun s43 => if eh_in t9.1 2 then eh_V (eh_tI s43 133 (eh_ix t9.1) 0) (fun s44 => if eh_in t9.1 2 then eh_V (eh_tI s44 134 (eh_ix t9.1) 0) (fun s45 => if eh_in t9.1 2 then eh_V (eh_tI s45 135 (eh_ix t9.1) 0) (fun s46 => if eh_in t9.1 2 then eh_V (eh_tI s46 136 (eh_ix t9.1) 0) (fun s47 => if eh_in t9.1 2 then eh_V (eh_tI s47 137 (eh_ix t9.1) 0) (fun s48 => if eh_in t9.1 2 then eh_V (eh_tI s48 138 (eh_ix t9.1) 0) (fun s49 => if eh_in t9.1 2 then eh_V (eh_tI s49 139 (eh_ix t9.1) 0) (fun s50 => if eh_in t9.1 2 then eh_V (eh_tI s50 140 (eh_ix t9.1) 0) (fun s51 => if eh_in t9.1 2 then eh_V (eh_tI s51 141 (eh_ix t9.1) (-1)) (fun s52 => if eh_in t9.1 2 then eh_V (eh_tI s52 142 (eh_ix t9.1) 0) (fun s53 => if eh_in t9.1 2 then eh_V (eh_tI s53 143 (eh_ix t9.1) 0) (fun s54 => if eh_in t9.1 2 then eh_V (eh_tI s54 144 (eh_ix t9.1) (-1)) (fun s55 => if eh_in t9.1 2 then eh_V (eh_tI s55 147 (eh_ix t9.1) (-1)) (fun s56 => eh_V ((t9.1 + 1) : Int32) (fun x57 => r39 (x57, s56))) else none) else none) else none) else none) else none) else none) else none) else none) else none) else none) else none) else none) else none) else none) else none) else none) else (some t9.2)) eh_FU (0, ep_mk c0 m) = some (ep_mk c0 (er_mh1 (er_mh1 m 0) 1)) := by
  have step : ∀ (i : Nat), i < 2 → ∀ (d : ep_M) (rec : (Int32 × eh_F) → Option (eh_F)), (fun (r39 : (Int32 × eh_F) → Option (eh_F)) (t9 : Int32 × eh_F) => if t9.1 < 2 then (if eh_in t9.1 14 then eh_V (eh_tI t9.2 130 (eh_ix t9.1) 0) (fun s41 => if eh_in t9.1 2 then eh_V (eh_tI s41 131 (eh_ix t9.1) 1) (fun s42 => if eh_in t9.1 2 then eh_V (eh_tI s42 132 (eh_ix t9.1) (eh_nz 0)) (fun s43 => if eh_in t9.1 2 then eh_V (eh_tI s43 133 (eh_ix t9.1) 0) (fun s44 => if eh_in t9.1 2 then eh_V (eh_tI s44 134 (eh_ix t9.1) 0) (fun s45 => if eh_in t9.1 2 then eh_V (eh_tI s45 135 (eh_ix t9.1) 0) (fun s46 => if eh_in t9.1 2 then eh_V (eh_tI s46 136 (eh_ix t9.1) 0) (fun s47 => if eh_in t9.1 2 then eh_V (eh_tI s47 137 (eh_ix t9.1) 0) (fun s48 => if eh_in t9.1 2 then eh_V (eh_tI s48 138 (eh_ix t9.1) 0) (fun s49 => if eh_in t9.1 2 then eh_V (eh_tI s49 139 (eh_ix t9.1) 0) (fun s50 => if eh_in t9.1 2 then eh_V (eh_tI s50 140 (eh_ix t9.1) 0) (fun s51 => if eh_in t9.1 2 then eh_V (eh_tI s51 141 (eh_ix t9.1) (-1)) (fun s52 => if eh_in t9.1 2 then eh_V (eh_tI s52 142 (eh_ix t9.1) 0) (fun s53 => if eh_in t9.1 2 then eh_V (eh_tI s53 143 (eh_ix t9.1) 0) (fun s54 => if eh_in t9.1 2 then eh_V (eh_tI s54 144 (eh_ix t9.1) (-1)) (fun s55 => if eh_in t9.1 2 then eh_V (eh_tI s55 147 (eh_ix t9.1) (-1)) (fun s56 => eh_V ((t9.1 + 1) : Int32) (fun x57 => r39 (x57, s56))) else none) else none) else none) else none) else none) else none) else none) else none) else none) else none) else none) else none) else none) else none) else none) else none) else (some t9.2)) rec (nI i, ep_mk c0 d) = rec (nI (i + 1), ep_mk c0 (er_mh1 d i)) := by
    intro i hi d rec
    have i2 : eh_in (nI i) 2 = true := ep_in hi (by decide)
    have i14 : eh_in (nI i) 14 = true := ep_in (by omega) (by decide)
    have x2 : eh_ix (nI i) = i := ep_ix (by omega)
    unfold er_mh1
    show (if nI i < 2 then _ else _) = _
    rw [if_pos (show nI i < 2 from nI_lt (b := 2) hi (by decide))]
    simp only [i2, i14, x2, ↓reduceIte, ep_V, ep_iM _ _ 130 _ _ (show 127 ≤ 130 by decide), ep_iM _ _ 131 _ _ (show 127 ≤ 131 by decide), ep_iM _ _ 132 _ _ (show 127 ≤ 132 by decide), ep_iM _ _ 133 _ _ (show 127 ≤ 133 by decide), ep_iM _ _ 134 _ _ (show 127 ≤ 134 by decide), ep_iM _ _ 135 _ _ (show 127 ≤ 135 by decide), ep_iM _ _ 136 _ _ (show 127 ≤ 136 by decide), ep_iM _ _ 137 _ _ (show 127 ≤ 137 by decide), ep_iM _ _ 138 _ _ (show 127 ≤ 138 by decide), ep_iM _ _ 139 _ _ (show 127 ≤ 139 by decide), ep_iM _ _ 140 _ _ (show 127 ≤ 140 by decide), ep_iM _ _ 141 _ _ (show 127 ≤ 141 by decide), ep_iM _ _ 142 _ _ (show 127 ≤ 142 by decide), ep_iM _ _ 143 _ _ (show 127 ≤ 143 by decide), ep_iM _ _ 144 _ _ (show 127 ≤ 144 by decide), ep_iM _ _ 147 _ _ (show 127 ≤ 147 by decide), nI_1]
  rw [show eh_FU = (eh_FU - 3) + 1 + 1 + 1 from rfl, show ((0 : Int32), ep_mk c0 m) = (nI 0, ep_mk c0 m) from rfl]
  refine (ep_loopS _ _ _).trans ?_
  refine (step 0 (by decide) m _).trans ?_
  refine (ep_loopS _ _ _).trans ?_
  refine (step 1 (by decide) (er_mh1 m 0) _).trans ?_
  refine (ep_loopS _ _ _).trans ?_
  show (if nI (1 + 1) < 2 then _ else _) = _
  rw [if_neg (by decide)]
def er_mf (k n : Nat) (v : Int32) (d : ep_M) : ep_M := ep_mL d k (er_fl (d.1 k) n v)
def er_mA (m : ep_M) : ep_M := er_mf 187 32 (eh_nb 0) (er_m6 (er_mh1 (er_mh1 (er_mt (er_mf 129 448 0 (er_mf 128 131072 (eh_nb 0) (er_me m 6))) 12) 0) 1))
theorem er_mboot (m : ep_M) (c0 : ep_C) (v : Int32) : eF_12_boot (ep_mk c0 m) v = eh_V (eh_tI (ep_mk c0 (er_mA m)) 127 79 0) (fun s23 => Option.bind (eF_12_say s23 v) (fun q24 => Option.bind (eF_12_keyed q24 185 32) (fun q25 => Option.bind (eh_loop (fun (r29 : (Int32 × eh_F) → Option (eh_F)) (t26 : Int32 × eh_F) => if t26.1 < 32 then (if eh_in t26.1 32 then if eh_in t26.1 32 then eh_V (eh_tI t26.2 186 (eh_ix t26.1) (eh_nb (t26.2.1 194 (eh_ix t26.1)))) (fun s31 => eh_V ((t26.1 + 1) : Int32) (fun x32 => r29 (x32, s31))) else none else none) else (some t26.2)) eh_FU (0, q25)) (fun (e27 : eh_F) => some (er_ct (m.1 155) 6, e27))))) := by
  unfold eF_12_boot
  refine ep_bnd (er_me_l m c0) ?_
  refine ep_bnd (er_mw_l (er_me m 6) c0) ?_
  refine ep_bnd (er_mx_l (er_mf 128 131072 (eh_nb 0) (er_me m 6)) c0) ?_
  refine ep_bnd (er_mt_l (er_mf 129 448 0 (er_mf 128 131072 (eh_nb 0) (er_me m 6))) c0) ?_
  refine ep_bnd (er_mh_l (er_mt (er_mf 129 448 0 (er_mf 128 131072 (eh_nb 0) (er_me m 6))) 12) c0) ?_
  generalize hD : er_mh1 (er_mh1 (er_mt (er_mf 129 448 0 (er_mf 128 131072 (eh_nb 0) (er_me m 6))) 12) 0) 1 = D
  rw [ep_V, ep_iM _ _ _ _ _ (by decide), ep_V, ep_iM _ _ _ _ _ (by decide), ep_V, ep_iM _ _ _ _ _ (by decide), ep_V, ep_iM _ _ _ _ _ (by decide), ep_V, ep_iM _ _ _ _ _ (by decide), ep_V, ep_iM _ _ _ _ _ (by decide), ep_V, ep_iM _ _ _ _ _ (by decide), ep_V, ep_iM _ _ _ _ _ (by decide), ep_V, ep_iM _ _ _ _ _ (by decide), ep_mcpath, ep_sb]
  refine ep_bnd (?h : _ = some (ep_mk c0 (er_mf 187 32 (eh_nb 0) (er_m6 D)))) ?_
  case h =>
    show eh_loop _ eh_FU (0, ep_mk c0 (er_m6 D)) = _
    exact er_ml_l (er_m6 D) c0
  have hE : er_mA m = er_mf 187 32 (eh_nb 0) (er_m6 D) := by unfold er_mA; rw [hD]
  rw [hE]
