/-! the face: all that stands outside -/
def er_mx (x : Int64) (v : Int32) : Int64 := ((x * 6364136223846793005) + (v.toInt64)) + 1
theorem er_on (s : eh_F) (x : Int64) (v : Int32) : eF_12_on s x v = some (er_mx x v) := rfl
theorem er_mix (s : eh_F) (x : Int64) (v : Int32) : eF_5_mix s x v = some (er_mx x v) := rfl
def er_f (g : Int64 → Nat → Int64) (x : Int64) : Nat → Int64
  | 0 => x
  | i + 1 => g (er_f g x i) i
theorem er_fs (g : Int64 → Nat → Int64) (x : Int64) (i : Nat) : er_f g x (i + 1) = g (er_f g x i) i := rfl
def er_wv (m : ep_M) (P : Nat → Int32) (k : Nat) : Int32 := if ep_ob (m.1 164) P (4 * k) = true then ep_lw (m.1 128) (4 * k) else 0
def er_Fw (m : ep_M) (P : Nat → Int32) : Int64 → Nat → Int64 := fun x k => er_mx x (er_wv m P k)
theorem er_cw {N : Nat} {c : ep_C} {m : ep_M} (hR : ep_R N c m) (m0 : ep_M) : eF_6_mixWords (ep_mk c m0) 1 = some (er_f (er_Fw m (c.1 10)) 1 32768) := by
  unfold eF_6_mixWords
  refine ep_lp (fun p => (er_f (er_Fw m (c.1 10)) 1 (64 * p), nI p)) 512 _ (by decide) rfl ?_ ?_ rfl
  · intro p hp rec
    have z2 : (eh_shl (nI p) 8).toInt64 = lN (256 * p) := by
      rw [show (8 : Int32) = nI 8 from rfl, ep_shln (by decide) (by omega), nI_l (by omega)]; congr 1; omega
    have z3 : eh_shl (nI p) 6 = nI (64 * p) := by
      rw [show (6 : Int32) = nI 6 from rfl, ep_shln (by decide) (by omega)]; congr 1; omega
    show (if nI p < 512 then _ else _) = _
    rw [if_pos (show nI p < 512 from nI_lt (b := 512) hp (by decide)), z2, ep_cisOpen hR (by omega), ep_sb, ep_V, z3]
    refine ep_lp (fun j => (er_f (er_Fw m (c.1 10)) 1 (64 * p + j), nI j)) 64 (er_f (er_Fw m (c.1 10)) 1 (64 * (p + 1))) (by decide) rfl ?_ ?_ ?_
    · intro j hj rec
      have hob : ep_ob (m.1 164) (c.1 10) (256 * p) = ep_ob (m.1 164) (c.1 10) (4 * (64 * p + j)) := by
        unfold ep_ob
        rw [show 256 * p / 256 = p by omega, show 4 * (64 * p + j) / 256 = p by omega]
      show (if nI j < 64 then _ else _) = rec (er_mx (er_f (er_Fw m (c.1 10)) 1 (64 * p + j)) (er_wv m (c.1 10) (64 * p + j)), nI (j + 1))
      rw [if_pos (show nI j < 64 from nI_lt (b := 64) hj (by decide)), ep_J, hob]
      unfold er_wv
      dsimp only
      cases ep_ob (m.1 164) (c.1 10) (4 * (64 * p + j)) with
      | false => rw [if_pos ep_bf, if_neg Bool.false_ne_true, er_mix, ep_sb, ep_V, nI_1]
      | true =>
        rw [if_neg ep_bt, if_pos rfl, nI_add, if_pos (ep_in (by omega) (by decide)), ep_rC1 _ _ 9 (by decide), ep_ix (by omega), er_mix, ep_sb, ep_V, nI_1, show c.1 9 = _ from hR.1]
    · intro rec
      show (if nI 64 < 64 then _ else _) = _
      rw [if_neg (by decide)]
      rfl
    · rw [ep_V, nI_1]
  · intro rec
    show (if nI 512 < 512 then _ else _) = _
    rw [if_neg (by decide)]
theorem er_mword {N : Nat} {c : ep_C} {m : ep_M} (hR : ep_R N c m) {k : Nat} (hk : k < 32768) (c0 : ep_C) : eF_12_word (ep_mk c0 m) (nI (4 * k)) = some (er_wv m (c.1 10) k) := by
  have h3 : nI (4 * k) &&& 3 = 0 := by rw [ep_and3 (by omega), show 4 * k % 4 = 0 by omega]; rfl
  have hr : ¬ nI (4 * k) < 0 ∧ nI (4 * k) < 131072 ∧ nI (4 * k) &&& 3 = 0 := ⟨nI_pos (by omega), nI_lt (b := 131072) (by omega) (by decide), h3⟩
  unfold eF_12_word er_wv
  rw [er_misW, ep_sb, decide_eq_true hr, ep_J, ep_J, if_neg ep_bt, ep_misOpen hR (by omega), ep_sb]
  cases ep_ob (m.1 164) (c.1 10) (4 * k) with
  | false => rw [if_pos ep_bf, if_neg Bool.false_ne_true]
  | true => rw [if_neg ep_bt, ep_mlittle _ _ _ (by decide) (by omega) (by decide), ep_sb, if_pos rfl]
def er_Hx (m : ep_M) (h : Nat) : Int64 → Nat → Int64 := fun x j => er_mx x (m.1 129 (32 * h + (1 + j)))
def er_Hv (m : ep_M) : Int64 → Nat → Int64 := fun x h => er_mx (er_mx (er_mx (er_mx (er_mx (er_mx (er_mx (er_mx (er_mx (er_mx (er_mx (er_mx (er_mx (er_mx (er_mx (er_f (er_Hx m h) x 31) (m.1 130 h)) (m.1 131 h)) (if m.1 132 h = 0 then 0 else 1)) (m.1 144 h)) (m.1 133 h)) (m.1 134 h)) (m.1 135 h)) (m.1 136 h)) (m.1 137 h)) (m.1 138 h)) (m.1 139 h)) (eh_shr (m.1 140 h) 1)) (m.1 141 h)) (m.1 142 h)) (m.1 143 h)
theorem er_ch_ {N : Nat} {c : ep_C} {m : ep_M} (hR : ep_R N c m) {h : Nat} (hh : h < 2) (x : Int64) (m0 : ep_M) : eF_4_mixAll (ep_mk c m0) (eh_hp (nI h)) x = some (er_Hv m x h) := by
  obtain ⟨a0, a2, a3, a4, a5, a6, a9, a10, a11, a12, a13, a14, a15, a16, a17, a18⟩ := hR.2.2.2.2.2.2.2.1 h hh
  unfold eF_4_mixAll
  refine ep_lp (fun i => (er_f (er_Hx m h) x i, nI (1 + i))) 31 (er_f (er_Hx m h) x 31) (by decide) rfl ?_ ?_ ?_
  · intro i hi rec
    show (if nI (1 + i) < 32 then _ else _) = rec (er_mx (er_f (er_Hx m h) x i) (m.1 129 (32 * h + (1 + i))), nI (1 + (i + 1)))
    rw [if_pos (show nI (1 + i) < 32 from nI_lt (b := 32) (by omega) (by decide)), if_pos (ep_in (by omega) (by decide)), ep_rH1 _ _ hh, ep_ix (by omega), hR.2.2.2.2.2.1 h hh (1 + i) (by omega), er_mix, ep_sb, ep_V, nI_1]
    rfl
  · intro rec
    show (if nI (1 + 31) < 32 then _ else _) = _
    rw [if_neg (by decide)]
  · have w4 : ∀ (G : Int32 → Option Int64), eh_J G (fun j5 => if (m.1 132 h) = 0 then (j5 0) else (j5 1)) = G (if m.1 132 h = 0 then 0 else 1) := by
      intro G
      rw [ep_J]
      split <;> rfl
    simp only [er_mix, ep_sb, ep_rH0 c m0 hh, a2, a3, a4, a5, a6, a9, a10, a11, a12, a13, a14, a15, a16, a17, a18, w4]
    rfl
def er_Rg (m : ep_M) : Int64 → Nat → Int64 := fun x k => if m.1 164 k = 0 then er_mx x (m.1 164 k) else er_mx (er_mx (er_mx x (m.1 164 k)) (m.1 165 k)) (m.1 166 k)
def er_En (m : ep_M) : Int64 → Nat → Int64 := fun x k => er_mx (er_mx x (m.1 155 k)) (m.1 158 k)
def er_Th (m : ep_M) : Int64 → Nat → Int64 := fun x k => er_mx x (m.1 148 k)
def er_Co (m : ep_M) : Int64 → Nat → Int64 := fun x k => er_mx x (m.1 174 k &&& 255)
def er_Dk (m : ep_M) : Int64 → Nat → Int64 := fun x k => er_mx x (ep_lw (m.1 175) (4 * k))
def er_Sk (m : ep_M) : Int64 → Nat → Int64 := fun x k => er_mx x (m.1 180 k)
theorem er_crg {N : Nat} {c : ep_C} {m : ep_M} (hR : ep_R N c m) (x : Int64) (m0 : ep_M) : eF_6_mixRegions (ep_mk c m0) x = some (er_f (er_Rg m) x 12) := by
  obtain ⟨r3, r4, r5, -⟩ := hR.2.2.1
  unfold eF_6_mixRegions
  refine ep_lp (fun i => (er_f (er_Rg m) x i, nI i)) 12 _ (by decide) rfl ?_ ?_ rfl
  · intro i hi rec
    have i12 : eh_in (nI i) 12 = true := ep_in hi (by decide)
    show (if nI i < 12 then _ else _) = rec ((if m.1 164 i = 0 then er_mx (er_f (er_Rg m) x i) (m.1 164 i) else er_mx (er_mx (er_mx (er_f (er_Rg m) x i) (m.1 164 i)) (m.1 165 i)) (m.1 166 i)), nI (i + 1))
    rw [if_pos (show nI i < 12 from nI_lt (b := 12) hi (by decide)), if_pos i12, er_mix, ep_sb, if_pos i12, ep_J, ep_rC1 _ _ 3 (by decide), r3, ep_ix (by omega)]
    dsimp only
    by_cases y : m.1 164 i = 0
    · rw [if_pos y, if_pos y, ep_V, nI_1]
    · rw [if_neg y, if_neg y, if_pos i12, er_mix, ep_sb, if_pos i12, er_mix, ep_sb, ep_V, nI_1, ep_rC1 _ _ 4 (by decide), r4, ep_rC1 _ _ 5 (by decide), r5]
  · intro rec
    show (if nI 12 < 12 then _ else _) = _
    rw [if_neg (by decide)]
theorem er_cmixr (c : ep_C) (m0 : ep_M) {th room n : Nat} (hth : th < 40) (hrn : eh_rn th = room) (hroom : room < 2000) (hn : n ≤ room) (h1 : c.1 th 1 = nI n) (F : Int64 → Nat → Int64) (hF : ∀ x k, k < n → F x k = er_mx x (c.1 (th + 1) k)) (x : Int64) : eF_8_mixAll (ep_mk c m0) th x = some (er_f F (er_mx x (nI n)) n) := by
  unfold eF_8_mixAll
  rw [er_mix, ep_sb, ep_rC1 _ _ th (by omega), h1, hrn]
  refine ep_lp (fun i => (er_f F (er_mx x (nI n)) i, nI i)) n _ (by omega) rfl ?_ ?_ rfl
  · intro i hi rec
    show (if nI i < nI n then _ else _) = rec (F (er_f F (er_mx x (nI n)) i) i, nI (i + 1))
    rw [hF _ _ hi, if_pos (nI_lt hi (by omega)), if_pos (show nI i < Int32.ofNat room from nI_lt (by omega) (by omega)), if_pos (ep_in (by omega) (by omega)), er_mix, ep_sb, ep_V, nI_1, ep_rC1 _ _ (th + 1) (by omega), ep_ix (by omega)]
  · intro rec
    show (if nI n < nI n then _ else _) = _
    rw [if_neg (nI_nlt (Nat.le_refl _) (by omega))]
theorem er_cdk {N : Nat} {c : ep_C} {m : ep_M} (hR : ep_R N c m) (x : Int64) (m0 : ep_M) : eF_0_mixDisk (ep_mk c m0) x = some (er_f (er_Dk m) x 2048) := by
  unfold eF_0_mixDisk
  refine ep_lp (fun i => (er_f (er_Dk m) x i, nI i)) 2048 _ (by decide) rfl ?_ ?_ rfl
  · intro i hi rec
    show (if nI i < Int32.ofNat 2048 then _ else _) = rec (er_mx (er_f (er_Dk m) x i) (ep_lw (m.1 175) (4 * i)), nI (i + 1))
    rw [if_pos (show nI i < Int32.ofNat 2048 from nI_lt (b := 2048) hi (by decide)), if_pos (ep_in hi (by decide)), er_mix, ep_sb, ep_V, nI_1, ep_rC1 _ _ 13 (by decide), ep_ix (by omega), show c.1 13 = _ from hR.2.1]
  · intro rec
    show (if nI 2048 < Int32.ofNat 2048 then _ else _) = _
    rw [if_neg (by decide)]
theorem er_c_h {N : Nat} {c : ep_C} {m : ep_M} (hR : ep_R N c m) (m0 : ep_M) (x : Int64) : eh_loop (fun (r36 : (Int64 × Int32) → Option (Int64)) (t2 : Int64 × Int32) => if t2.2 < 2 then (if eh_in t2.2 2 then Option.bind (eF_4_mixAll (ep_mk c m0) (eh_hp t2.2) t2.1) (fun q39 => eh_V ((t2.2 + 1) : Int32) (fun x40 => r36 (q39, x40))) else none) else (some t2.1)) eh_FU (x, 0) = some (er_f (er_Hv m) x 2) := by
  refine ep_loop (fun i => (er_f (er_Hv m) x i, nI i)) 2 _ (ep_FU _ (by first | decide | omega)) ?_ ?_ rfl
  · intro i hi rec
    show _ = rec (er_Hv m (er_f (er_Hv m) x i) i, nI (i + 1))
    generalize er_f (er_Hv m) x i = z
    show (if nI i < 2 then _ else _) = _
    rw [if_pos (show nI i < 2 from nI_lt (b := 2) hi (by decide)), if_pos (ep_in hi (by decide)), er_ch_ hR hi, ep_sb, ep_V, nI_1]
  · intro rec
    show (if nI 2 < 2 then _ else _) = _
    rw [if_neg (by decide)]
theorem er_c_e {N : Nat} {c : ep_C} {m : ep_M} (hR : ep_R N c m) (m0 : ep_M) (x : Int64) : eh_loop (fun (r28 : (Int64 × Int32) → Option (Int64)) (t6 : Int64 × Int32) => if t6.2 < 6 then (if eh_in t6.2 6 then Option.bind (eF_5_mix (ep_mk c m0) t6.1 ((ep_mk c m0).1 (eh_ep t6.2) 5)) (fun q31 => if eh_in t6.2 6 then Option.bind (eF_5_mix (ep_mk c m0) q31 ((ep_mk c m0).1 (eh_ep t6.2) 8)) (fun q33 => eh_V ((t6.2 + 1) : Int32) (fun x34 => r28 (q33, x34))) else none) else none) else (some t6.1)) eh_FU (x, 0) = some (er_f (er_En m) x 6) := by
  refine ep_loop (fun i => (er_f (er_En m) x i, nI i)) 6 _ (ep_FU _ (by first | decide | omega)) ?_ ?_ rfl
  · intro i hi rec
    show _ = rec (er_En m (er_f (er_En m) x i) i, nI (i + 1))
    generalize er_f (er_En m) x i = z
    obtain ⟨e5, -, -, e8, -⟩ := hR.2.2.2.2.2.2.2.2.2.2.2.2.2.2.2.2.1 i hi
    have i6 : eh_in (nI i) 6 = true := ep_in hi (by decide)
    show (if nI i < 6 then _ else _) = _
    rw [if_pos (show nI i < 6 from nI_lt (b := 6) hi (by decide)), if_pos i6, er_mix, ep_sb, if_pos i6, er_mix, ep_sb, ep_V, nI_1, ep_rE0 _ _ hi, e5, e8]
    rfl
  · intro rec
    show (if nI 6 < 6 then _ else _) = _
    rw [if_neg (by decide)]
theorem er_c_t {N : Nat} {c : ep_C} {m : ep_M} (hR : ep_R N c m) (m0 : ep_M) (x : Int64) : eh_loop (fun (r22 : (Int64 × Int32) → Option (Int64)) (t8 : Int64 × Int32) => if t8.2 < 12 then (if eh_in t8.2 12 then Option.bind (eF_5_mix (ep_mk c m0) t8.1 ((ep_mk c m0).1 (eh_fp t8.2) 6)) (fun q25 => eh_V ((t8.2 + 1) : Int32) (fun x26 => r22 (q25, x26))) else none) else (some t8.1)) eh_FU (x, 0) = some (er_f (er_Th m) x 12) := by
  refine ep_loop (fun i => (er_f (er_Th m) x i, nI i)) 12 _ (ep_FU _ (by first | decide | omega)) ?_ ?_ rfl
  · intro i hi rec
    show _ = rec (er_Th m (er_f (er_Th m) x i) i, nI (i + 1))
    generalize er_f (er_Th m) x i = z
    have f6 := (hR.2.2.2.2.2.2.2.2.2.2.1 i hi).2.2.2.2.2.1
    show (if nI i < 12 then _ else _) = _
    rw [if_pos (show nI i < 12 from nI_lt (b := 12) hi (by decide)), if_pos (ep_in hi (by decide)), er_mix, ep_sb, ep_V, nI_1, ep_rF0 _ _ hi, f6]
    rfl
  · intro rec
    show (if nI 12 < 12 then _ else _) = _
    rw [if_neg (by decide)]
theorem er_m_w {N : Nat} {c : ep_C} {m : ep_M} (hR : ep_R N c m) (c0 : ep_C) (x : Int64) : eh_loop (fun (r95 : (Int64 × Int32) → Option (Int64)) (t1 : Int64 × Int32) => if t1.2 < 131072 then (eh_J (fun (a98 : Int32) => Option.bind (eF_12_on (ep_mk c0 m) t1.1 a98) (fun q99 => eh_V ((t1.2 + 4) : Int32) (fun x100 => r95 (q99, x100)))) (fun j97 => eh_J (fun (u102 : Unit) => Option.bind (eF_12_word (ep_mk c0 m) t1.2) (fun q103 => j97 q103)) (fun j101 => if (eh_rem t1.2 256) = 0 then (Option.bind (eF_12_isOpen (ep_mk c0 m) t1.2) (fun q105 => if q105 = 0 then (j97 0) else (j101 ()))) else (j101 ())))) else (some t1.1)) eh_FU (x, 0) = some (er_f (er_Fw m (c.1 10)) x 32768) := by
  refine ep_loop (fun i => (er_f (er_Fw m (c.1 10)) x i, nI (4 * i))) 32768 _ (ep_FU _ (by first | decide | omega)) ?_ ?_ rfl
  · intro i hi rec
    show _ = rec (er_Fw m (c.1 10) (er_f (er_Fw m (c.1 10)) x i) i, nI (4 * (i + 1)))
    generalize er_f (er_Fw m (c.1 10)) x i = z
    have p4 : nI (4 * i) + 4 = nI (4 * (i + 1)) := by rw [show (4 : Int32) = nI 4 from rfl, nI_add]; rfl
    have hw := er_mword hR hi c0
    show (if nI (4 * i) < 131072 then _ else _) = rec (er_mx z (er_wv m (c.1 10) i), nI (4 * (i + 1)))
    rw [if_pos (show nI (4 * i) < 131072 from nI_lt (b := 131072) (by omega) (by decide)), ep_J, ep_J]
    dsimp only
    rw [hw, ep_sb]
    simp only [er_on, ep_sb, ep_V, p4]
    by_cases y : eh_rem (nI (4 * i)) 256 = 0
    · rw [if_pos y, ep_misOpen hR (by omega), ep_sb]
      unfold er_wv
      cases ep_ob (m.1 164) (c.1 10) (4 * i) with
      | false => rw [if_pos ep_bf, if_neg Bool.false_ne_true]
      | true => rw [if_neg ep_bt, if_pos rfl]
    · rw [if_neg y]
  · intro rec
    show (if nI (4 * 32768) < 131072 then _ else _) = _
    rw [if_neg (by decide)]
theorem er_m_h {N : Nat} {c : ep_C} {m : ep_M} (hR : ep_R N c m) (c0 : ep_C) (x : Int64) : eh_loop (fun (r66 : (Int64 × Int32) → Option (Int64)) (t3 : Int64 × Int32) => if t3.2 < 2 then (Option.bind (eh_loop (fun (r90 : (Int64 × Int32) → Option (Int64)) (t68 : Int64 × Int32) => if t68.2 < 32 then (if eh_in ((32 * t3.2) + t68.2) 448 then Option.bind (eF_12_on (ep_mk c0 m) t68.1 ((ep_mk c0 m).1 129 (eh_ix ((32 * t3.2) + t68.2)))) (fun q92 => eh_V ((t68.2 + 1) : Int32) (fun x93 => r90 (q92, x93))) else none) else (some t68.1)) eh_FU (t3.1, 1)) (fun (e69 : Int64) => if eh_in t3.2 14 then Option.bind (eF_12_on (ep_mk c0 m) e69 ((ep_mk c0 m).1 130 (eh_ix t3.2))) (fun q70 => if eh_in t3.2 2 then Option.bind (eF_12_on (ep_mk c0 m) q70 ((ep_mk c0 m).1 131 (eh_ix t3.2))) (fun q71 => if eh_in t3.2 2 then eh_J (fun (a73 : Int32) => Option.bind (eF_12_on (ep_mk c0 m) q71 a73) (fun q74 => if eh_in t3.2 2 then Option.bind (eF_12_on (ep_mk c0 m) q74 ((ep_mk c0 m).1 144 (eh_ix t3.2))) (fun q75 => if eh_in t3.2 2 then Option.bind (eF_12_on (ep_mk c0 m) q75 ((ep_mk c0 m).1 133 (eh_ix t3.2))) (fun q76 => if eh_in t3.2 2 then Option.bind (eF_12_on (ep_mk c0 m) q76 ((ep_mk c0 m).1 134 (eh_ix t3.2))) (fun q77 => if eh_in t3.2 2 then Option.bind (eF_12_on (ep_mk c0 m) q77 ((ep_mk c0 m).1 135 (eh_ix t3.2))) (fun q78 => if eh_in t3.2 2 then Option.bind (eF_12_on (ep_mk c0 m) q78 ((ep_mk c0 m).1 136 (eh_ix t3.2))) (fun q79 => if eh_in t3.2 2 then Option.bind (eF_12_on (ep_mk c0 m) q79 ((ep_mk c0 m).1 137 (eh_ix t3.2))) (fun q80 => if eh_in t3.2 2 then Option.bind (eF_12_on (ep_mk c0 m) q80 ((ep_mk c0 m).1 138 (eh_ix t3.2))) (fun q81 => if eh_in t3.2 2 then Option.bind (eF_12_on (ep_mk c0 m) q81 ((ep_mk c0 m).1 139 (eh_ix t3.2))) (fun q82 => if eh_in t3.2 2 then Option.bind (eF_12_on (ep_mk c0 m) q82 (eh_shr ((ep_mk c0 m).1 140 (eh_ix t3.2)) 1)) (fun q83 => if eh_in t3.2 2 then Option.bind (eF_12_on (ep_mk c0 m) q83 ((ep_mk c0 m).1 141 (eh_ix t3.2))) (fun q84 => if eh_in t3.2 2 then Option.bind (eF_12_on (ep_mk c0 m) q84 ((ep_mk c0 m).1 142 (eh_ix t3.2))) (fun q85 => if eh_in t3.2 2 then Option.bind (eF_12_on (ep_mk c0 m) q85 ((ep_mk c0 m).1 143 (eh_ix t3.2))) (fun q86 => eh_V ((t3.2 + 1) : Int32) (fun x87 => r66 (q86, x87))) else none) else none) else none) else none) else none) else none) else none) else none) else none) else none) else none) else none)) (fun j72 => if ((ep_mk c0 m).1 132 (eh_ix t3.2)) = 0 then (j72 0) else (j72 1)) else none) else none) else none)) else (some t3.1)) eh_FU (x, 0) = some (er_f (er_Hv m) x 2) := by
  refine ep_loop (fun i => (er_f (er_Hv m) x i, nI i)) 2 _ (ep_FU _ (by first | decide | omega)) ?_ ?_ rfl
  · intro i hi rec
    show _ = rec (er_Hv m (er_f (er_Hv m) x i) i, nI (i + 1))
    generalize er_f (er_Hv m) x i = z
    have i2 : eh_in (nI i) 2 = true := ep_in hi (by decide)
    have x2 : eh_ix (nI i) = i := ep_ix (by omega)
    have i14 : eh_in (nI i) 14 = true := ep_in (by omega) (by decide)
    have w4 : ∀ (G : Int32 → Option Int64), eh_J G (fun j5 => if (m.1 132 i) = 0 then (j5 0) else (j5 1)) = G (if m.1 132 i = 0 then 0 else 1) := by
      intro G
      rw [ep_J]
      split <;> rfl
    show (if nI i < 2 then _ else _) = _
    rw [if_pos (show nI i < 2 from nI_lt (b := 2) hi (by decide))]
    refine ep_lp (fun j => (er_f (er_Hx m i) z j, nI (1 + j))) 31 (er_f (er_Hx m i) z 31) (by decide) rfl ?_ ?_ ?_
    · intro j hj rec
      show (if nI (1 + j) < 32 then _ else _) = rec (er_mx (er_f (er_Hx m i) z j) (m.1 129 (32 * i + (1 + j))), nI (1 + (j + 1)))
      rw [if_pos (show nI (1 + j) < 32 from nI_lt (b := 32) (by omega) (by decide)), show (32 : Int32) * nI i = nI (32 * i) from ep_mul (b := 32) rfl rfl, nI_add, if_pos (ep_in (by omega) (by decide)), ep_ix (by omega), ep_rM _ _ 129 (by decide), er_on, ep_sb, ep_V, nI_1]
      rfl
    · intro rec
      show (if nI (1 + 31) < 32 then _ else _) = _
      rw [if_neg (by decide)]
    · simp only [er_on, ep_sb, ep_V, i2, i14, x2, ↓reduceIte, ep_rM c0 m 130 (by decide), ep_rM c0 m 131 (by decide), ep_rM c0 m 132 (by decide), ep_rM c0 m 144 (by decide), ep_rM c0 m 133 (by decide), ep_rM c0 m 134 (by decide), ep_rM c0 m 135 (by decide), ep_rM c0 m 136 (by decide), ep_rM c0 m 137 (by decide), ep_rM c0 m 138 (by decide), ep_rM c0 m 139 (by decide), ep_rM c0 m 140 (by decide), ep_rM c0 m 141 (by decide), ep_rM c0 m 142 (by decide), ep_rM c0 m 143 (by decide), w4, nI_1]
      rfl
  · intro rec
    show (if nI 2 < 2 then _ else _) = _
    rw [if_neg (by decide)]
theorem er_m_r {N : Nat} {c : ep_C} {m : ep_M} (hR : ep_R N c m) (c0 : ep_C) (x : Int64) : eh_loop (fun (r56 : (Int64 × Int32) → Option (Int64)) (t6 : Int64 × Int32) => if t6.2 < 12 then (if eh_in t6.2 12 then Option.bind (eF_12_on (ep_mk c0 m) t6.1 ((ep_mk c0 m).1 164 (eh_ix t6.2))) (fun q58 => if eh_in t6.2 12 then eh_J (fun (a60 : Int64) => eh_V ((t6.2 + 1) : Int32) (fun x61 => r56 (a60, x61))) (fun j59 => if ((ep_mk c0 m).1 164 (eh_ix t6.2)) = 0 then (j59 q58) else (if eh_in t6.2 12 then Option.bind (eF_12_on (ep_mk c0 m) q58 ((ep_mk c0 m).1 165 (eh_ix t6.2))) (fun q63 => if eh_in t6.2 12 then Option.bind (eF_12_on (ep_mk c0 m) q63 ((ep_mk c0 m).1 166 (eh_ix t6.2))) (fun q64 => j59 q64) else none) else none)) else none) else none) else (some t6.1)) eh_FU (x, 0) = some (er_f (er_Rg m) x 12) := by
  refine ep_loop (fun i => (er_f (er_Rg m) x i, nI i)) 12 _ (ep_FU _ (by first | decide | omega)) ?_ ?_ rfl
  · intro i hi rec
    show _ = rec (er_Rg m (er_f (er_Rg m) x i) i, nI (i + 1))
    generalize er_f (er_Rg m) x i = z
    have i12 : eh_in (nI i) 12 = true := ep_in hi (by decide)
    show (if nI i < 12 then _ else _) = _
    rw [if_pos (show nI i < 12 from nI_lt (b := 12) hi (by decide)), if_pos i12, er_on, ep_sb, if_pos i12, ep_J, ep_rM _ _ 164 (by decide), ep_ix (by omega)]
    dsimp only
    unfold er_Rg
    by_cases y : m.1 164 i = 0
    · rw [if_pos y, if_pos y, ep_V, nI_1]
    · rw [if_neg y, if_neg y, if_pos i12, er_on, ep_sb, if_pos i12, er_on, ep_sb, ep_V, nI_1, ep_rM _ _ 165 (by decide), ep_rM _ _ 166 (by decide)]
  · intro rec
    show (if nI 12 < 12 then _ else _) = _
    rw [if_neg (by decide)]
theorem er_m_e {N : Nat} {c : ep_C} {m : ep_M} (hR : ep_R N c m) (c0 : ep_C) (x : Int64) : eh_loop (fun (r50 : (Int64 × Int32) → Option (Int64)) (t8 : Int64 × Int32) => if t8.2 < 6 then (if eh_in t8.2 6 then Option.bind (eF_12_on (ep_mk c0 m) t8.1 ((ep_mk c0 m).1 155 (eh_ix t8.2))) (fun q52 => if eh_in t8.2 6 then Option.bind (eF_12_on (ep_mk c0 m) q52 ((ep_mk c0 m).1 158 (eh_ix t8.2))) (fun q53 => eh_V ((t8.2 + 1) : Int32) (fun x54 => r50 (q53, x54))) else none) else none) else (some t8.1)) eh_FU (x, 0) = some (er_f (er_En m) x 6) := by
  refine ep_loop (fun i => (er_f (er_En m) x i, nI i)) 6 _ (ep_FU _ (by first | decide | omega)) ?_ ?_ rfl
  · intro i hi rec
    show _ = rec (er_En m (er_f (er_En m) x i) i, nI (i + 1))
    generalize er_f (er_En m) x i = z
    have i6 : eh_in (nI i) 6 = true := ep_in hi (by decide)
    show (if nI i < 6 then _ else _) = _
    rw [if_pos (show nI i < 6 from nI_lt (b := 6) hi (by decide)), if_pos i6, er_on, ep_sb, if_pos i6, er_on, ep_sb, ep_V, nI_1, ep_rM _ _ 155 (by decide), ep_rM _ _ 158 (by decide), ep_ix (by omega)]
    rfl
  · intro rec
    show (if nI 6 < 6 then _ else _) = _
    rw [if_neg (by decide)]
theorem er_m_t {N : Nat} {c : ep_C} {m : ep_M} (hR : ep_R N c m) (c0 : ep_C) (x : Int64) : eh_loop (fun (r45 : (Int64 × Int32) → Option (Int64)) (t10 : Int64 × Int32) => if t10.2 < 12 then (if eh_in t10.2 12 then Option.bind (eF_12_on (ep_mk c0 m) t10.1 ((ep_mk c0 m).1 148 (eh_ix t10.2))) (fun q47 => eh_V ((t10.2 + 1) : Int32) (fun x48 => r45 (q47, x48))) else none) else (some t10.1)) eh_FU (x, 0) = some (er_f (er_Th m) x 12) := by
  refine ep_loop (fun i => (er_f (er_Th m) x i, nI i)) 12 _ (ep_FU _ (by first | decide | omega)) ?_ ?_ rfl
  · intro i hi rec
    show _ = rec (er_Th m (er_f (er_Th m) x i) i, nI (i + 1))
    generalize er_f (er_Th m) x i = z
    show (if nI i < 12 then _ else _) = _
    rw [if_pos (show nI i < 12 from nI_lt (b := 12) hi (by decide)), if_pos (ep_in hi (by decide)), er_on, ep_sb, ep_V, nI_1, ep_rM _ _ 148 (by decide), ep_ix (by omega)]
    rfl
  · intro rec
    show (if nI 12 < 12 then _ else _) = _
    rw [if_neg (by decide)]
theorem er_m_c {N : Nat} {c : ep_C} {m : ep_M} (hR : ep_R N c m) {n : Nat} (hn : n ≤ 1024) (hz : m.1 127 52 = nI n) (c0 : ep_C) (x : Int64) : eh_loop (fun (r40 : (Int64 × Int32) → Option (Int64)) (t13 : Int64 × Int32) => if t13.2 < ((ep_mk c0 m).1 127 52) then (if eh_in t13.2 1024 then Option.bind (eF_12_on (ep_mk c0 m) t13.1 (((ep_mk c0 m).1 174 (eh_ix t13.2)) &&& 255)) (fun q42 => eh_V ((t13.2 + 1) : Int32) (fun x43 => r40 (q42, x43))) else none) else (some t13.1)) eh_FU (x, 0) = some (er_f (er_Co m) x n) := by
  refine ep_loop (fun i => (er_f (er_Co m) x i, nI i)) n _ (ep_FU _ (by first | decide | omega)) ?_ ?_ rfl
  · intro i hi rec
    show _ = rec (er_Co m (er_f (er_Co m) x i) i, nI (i + 1))
    generalize er_f (er_Co m) x i = z
    show (if nI i < (ep_mk c0 m).1 127 52 then _ else _) = _
    rw [ep_rM _ _ 127 (by decide), hz, if_pos (nI_lt hi (by omega)), if_pos (ep_in (by omega) (by decide)), er_on, ep_sb, ep_V, nI_1, ep_rM _ _ 174 (by decide), ep_ix (by omega)]
    rfl
  · intro rec
    show (if nI n < (ep_mk c0 m).1 127 52 then _ else _) = _
    rw [ep_rM _ _ 127 (by decide), hz, if_neg (nI_nlt (Nat.le_refl _) (by omega))]
theorem er_m_k {N : Nat} {c : ep_C} {m : ep_M} (hR : ep_R N c m) {n : Nat} (hn : n ≤ 16) (hz : m.1 127 62 = nI n) (c0 : ep_C) (x : Int64) : eh_loop (fun (r29 : (Int64 × Int32) → Option (Int64)) (t22 : Int64 × Int32) => if t22.2 < ((ep_mk c0 m).1 127 62) then (if eh_in t22.2 16 then Option.bind (eF_12_on (ep_mk c0 m) t22.1 ((ep_mk c0 m).1 180 (eh_ix t22.2))) (fun q31 => eh_V ((t22.2 + 1) : Int32) (fun x32 => r29 (q31, x32))) else none) else (some t22.1)) eh_FU (x, 0) = some (er_f (er_Sk m) x n) := by
  refine ep_loop (fun i => (er_f (er_Sk m) x i, nI i)) n _ (ep_FU _ (by first | decide | omega)) ?_ ?_ rfl
  · intro i hi rec
    show _ = rec (er_Sk m (er_f (er_Sk m) x i) i, nI (i + 1))
    generalize er_f (er_Sk m) x i = z
    show (if nI i < (ep_mk c0 m).1 127 62 then _ else _) = _
    rw [ep_rM _ _ 127 (by decide), hz, if_pos (nI_lt hi (by omega)), if_pos (ep_in (by omega) (by decide)), er_on, ep_sb, ep_V, nI_1, ep_rM _ _ 180 (by decide), ep_ix (by omega)]
    rfl
  · intro rec
    show (if nI n < (ep_mk c0 m).1 127 62 then _ else _) = _
    rw [ep_rM _ _ 127 (by decide), hz, if_neg (nI_nlt (Nat.le_refl _) (by omega))]
theorem er_m_d {N : Nat} {c : ep_C} {m : ep_M} (hR : ep_R N c m) (c0 : ep_C) (x : Int64) : eh_loop (fun (r34 : (Int64 × Int32) → Option (Int64)) (t15 : Int64 × Int32) => if t15.2 < 2048 then (Option.bind (eF_12_littleWord (ep_mk c0 m) 175 8192 (4 * t15.2)) (fun q36 => Option.bind (eF_12_on (ep_mk c0 m) t15.1 q36) (fun q37 => eh_V ((t15.2 + 1) : Int32) (fun x38 => r34 (q37, x38))))) else (some t15.1)) eh_FU (x, 0) = some (er_f (er_Dk m) x 2048) := by
  refine ep_loop (fun i => (er_f (er_Dk m) x i, nI i)) 2048 _ (ep_FU _ (by first | decide | omega)) ?_ ?_ rfl
  · intro i hi rec
    show _ = rec (er_Dk m (er_f (er_Dk m) x i) i, nI (i + 1))
    generalize er_f (er_Dk m) x i = z
    show (if nI i < 2048 then _ else _) = _
    rw [if_pos (show nI i < 2048 from nI_lt (b := 2048) hi (by decide)), show (4 : Int32) * nI i = nI (4 * i) from ep_mul (b := 4) rfl rfl, ep_mlittle _ _ _ (by decide) (by omega) (by decide), ep_sb, er_on, ep_sb, ep_V, nI_1]
    rfl
  · intro rec
    show (if nI 2048 < 2048 then _ else _) = _
    rw [if_neg (by decide)]
theorem er_bool {v : Int32} (G : Int32 → Option Int64) : eh_J G (fun j5 => if v = 0 then (j5 0) else (j5 1)) = G (if v = 0 then 0 else 1) := by
  rw [ep_J]
  split <;> rfl
theorem er_outside {N : Nat} {c : ep_C} {m : ep_M} (hR : ep_R N c m) : ∃ r : Int64, (∀ m0, eF_11_outside (ep_mk c m0) = some r) ∧ (∀ c0, eF_12_outside (ep_mk c0 m) = some r) := by
  obtain ⟨d0, d1, d2, d3, d4, d5, d6, d7, d8, -⟩ := hR.2.2.2.2.2.2.2.2.2.2.2.2.2.2.2.2.2.2.2.2.2.2.2.2.2.2.2.2.1
  obtain ⟨g1, g2, nc, hnc, g4⟩ := hR.2.2.2.2.2.2.2.2.2.2.2.2.2.2.2.2.2.2.2.2.2.2.2.2.2.2.2.2.2.2.1
  obtain ⟨k1, k2, nk, hnk, k4⟩ := hR.2.2.2.2.2.2.2.2.2.2.2.2.2.2.2.2.2.2.2.2.2.2.2.2.2.2.2.2.2.2.2.1
  have hw1 := fun m0 => er_cw hR m0
  have hw2 := fun c0 => er_m_w hR c0 1
  revert hw1 hw2
  generalize er_f (er_Fw m (c.1 10)) 1 32768 = X1
  intro hw1 hw2
  have hh1 := fun m0 => er_c_h hR m0 X1
  have hh2 := fun c0 => er_m_h hR c0 X1
  revert hh1 hh2
  generalize er_f (er_Hv m) X1 2 = X2
  intro hh1 hh2
  have hr1 := fun m0 => er_crg hR (er_mx X2 (m.1 127 20)) m0
  have hr2 := fun c0 => er_m_r hR c0 (er_mx X2 (m.1 127 20))
  revert hr1 hr2
  generalize er_f (er_Rg m) (er_mx X2 (m.1 127 20)) 12 = X3
  intro hr1 hr2
  have he1 := fun m0 => er_c_e hR m0 X3
  have he2 := fun c0 => er_m_e hR c0 X3
  revert he1 he2
  generalize er_f (er_En m) X3 6 = X4
  intro he1 he2
  have ht1 := fun m0 => er_c_t hR m0 X4
  have ht2 := fun c0 => er_m_t hR c0 X4
  revert ht1 ht2
  generalize er_f (er_Th m) X4 12 = X5
  intro ht1 ht2
  have hc1 := fun m0 => er_cmixr c m0 (th := 18) (room := 1024) (n := nc) (by decide) rfl (by decide) hnc (g2.trans g4) (er_Co m) (fun x k _ => by rw [show c.1 (18 + 1) = c.1 19 from rfl, g1]; rfl) X5
  have hc2 := fun c0 => er_m_c hR hnc g4 c0 (er_mx X5 (nI nc))
  revert hc1 hc2
  generalize er_f (er_Co m) (er_mx X5 (nI nc)) nc = X6
  intro hc1 hc2
  have hd1 := fun m0 => er_cdk hR X6 m0
  have hd2 := fun c0 => er_m_d hR c0 X6
  revert hd1 hd2
  generalize er_f (er_Dk m) X6 2048 = X7
  intro hd1 hd2
  have hk1 := fun m0 => er_cmixr c m0 (th := 20) (room := 16) (n := nk) (by decide) rfl (by decide) hnk (k2.trans k4) (er_Sk m) (fun x k _ => by rw [show c.1 (20 + 1) = c.1 21 from rfl, k1]; rfl) (er_mx (er_mx (er_mx (er_mx X7 (m.1 127 58)) (m.1 127 59)) (m.1 127 60)) (m.1 127 67))
  have hk2 := fun c0 => er_m_k hR hnk k4 c0 (er_mx (er_mx (er_mx (er_mx (er_mx X7 (m.1 127 58)) (m.1 127 59)) (m.1 127 60)) (m.1 127 67)) (nI nk))
  revert hk1 hk2
  generalize er_f (er_Sk m) (er_mx (er_mx (er_mx (er_mx (er_mx X7 (m.1 127 58)) (m.1 127 59)) (m.1 127 60)) (m.1 127 67)) (nI nk)) nk = X8
  intro hk1 hk2
  refine ⟨er_mx X8 (if m.1 127 21 = 0 then 0 else 1), fun m0 => ?_, fun c0 => ?_⟩
  · unfold eF_11_outside eF_5_survey
    refine ep_bnd ?_ rfl
    refine ep_bnd (hw1 m0) ?_
    refine ep_bnd (hh1 m0) ?_
    rw [er_mix, ep_sb, ep_rC1 _ _ 12 (by decide), d0, hr1 m0, ep_sb]
    refine ep_bnd (he1 m0) ?_
    refine ep_bnd (ht1 m0) ?_
    rw [hc1 m0, ep_sb, hd1 m0, ep_sb, er_mix, ep_sb, er_mix, ep_sb, er_mix, ep_sb, er_mix, ep_sb, d5, d6, d7, d8, hk1 m0, ep_sb, ep_rC1 _ _ 1 (by decide), d1]
    rw [er_bool, er_mix, ep_sb]
  · unfold eF_12_outside
    refine ep_bnd (hw2 c0) ?_
    refine ep_bnd (hh2 c0) ?_
    rw [er_on, ep_sb, ep_rM _ _ 127 (by decide)]
    refine ep_bnd (hr2 c0) ?_
    refine ep_bnd (he2 c0) ?_
    refine ep_bnd (ht2 c0) ?_
    rw [er_on, ep_sb]
    rw [g4]
    refine ep_bnd (v := X6) ?hcx ?_
    case hcx =>
      have := hc2 c0
      rw [ep_rM _ _ 127 (by decide), g4] at this
      exact this
    refine ep_bnd (hd2 c0) ?_
    rw [er_on, ep_sb, er_on, ep_sb, er_on, ep_sb, er_on, ep_sb, er_on, ep_sb]
    rw [k4]
    refine ep_bnd (v := X8) ?hkx ?_
    case hkx =>
      have := hk2 c0
      rw [ep_rM _ _ 127 (by decide), k4] at this
      exact this
    rw [er_bool, er_on, ep_sb]
theorem er_cmp (x : Int64) : lg_cmp x x = 0 := by
  unfold lg_cmp
  rw [if_neg (show ¬ x > x from fun h => Int64.lt_irrefl h), if_pos rfl]
