/-! the face: what stands in the tables -/
theorem er_region {N : Nat} {c : ep_C} {m : ep_M} (hR : ep_R N c m) (p q : Int32) : er_O c m (fun s => eF_11_region s p q) (fun s => eF_12_region s p q) := by
  obtain ⟨r3, r4, r5, r6, r7, r8⟩ := hR.2.2.1
  have hin := ep_inl (p := p) (n := 12) (by decide)
  by_cases hp : eh_in p 12 = true
  · obtain ⟨k, hk, rfl⟩ := ep_in_of hp (by decide)
    obtain ⟨p0, p1⟩ := hin.mp hp
    have p1' : nI k < 12 := p1
    have x12 : eh_ix (nI k) = k := ep_ix (by omega)
    have hX : ∃ r, (if q = 0 then some (m.1 164 k) else if m.1 164 k = 0 then some (-1) else if q = 1 then some (m.1 165 k) else if q = 2 then some (m.1 166 k) else if q = 3 then some (m.1 167 k) else if q = 4 then some (m.1 168 k) else if q = 5 then some (m.1 169 k) else some (-1) : Option Int32) = some r := by
      repeat' (first | exact ⟨_, rfl⟩ | split)
    obtain ⟨r, hr⟩ := hX
    refine ⟨r, fun m0 => ?_, fun c0 => ?_⟩
    · show eF_11_region _ (nI k) q = _
      rw [← hr]
      unfold eF_11_region
      simp only [↓ep_J, p0, p1', hp, x12, ↓reduceIte, ep_rC1 c m0 3 (by decide), ep_rC1 c m0 4 (by decide), ep_rC1 c m0 5 (by decide), ep_rC1 c m0 6 (by decide), ep_rC1 c m0 7 (by decide), ep_rC1 c m0 8 (by decide), r3, r4, r5, r6, r7, r8]
    · show eF_12_region _ (nI k) q = _
      rw [← hr]
      unfold eF_12_region
      simp only [↓ep_J, p0, p1', hp, x12, ↓reduceIte, ep_rM c0 m 164 (by decide), ep_rM c0 m 165 (by decide), ep_rM c0 m 166 (by decide), ep_rM c0 m 167 (by decide), ep_rM c0 m 168 (by decide), ep_rM c0 m 169 (by decide)]
  · refine ⟨-1, fun m0 => ?_, fun c0 => ?_⟩
    · show eF_11_region _ p q = _
      unfold eF_11_region
      rw [ep_J]
      by_cases y1 : p < 0
      · rw [if_pos y1]
      · rw [if_neg y1, if_neg (show ¬ p < 12 from fun z => hp (hin.mpr ⟨y1, z⟩))]
    · show eF_12_region _ p q = _
      unfold eF_12_region
      rw [ep_J]
      by_cases y1 : p < 0
      · rw [if_pos y1]
      · rw [if_neg y1, if_neg (show ¬ p < 12 from fun z => hp (hin.mpr ⟨y1, z⟩))]
theorem er_runsOn {N : Nat} {c : ep_C} {m : ep_M} (hR : ep_R N c m) {t : Nat} (ht : t < 12) (hT : m.1 148 t ≠ 0) : c.2.1 2 t 7 = if m.1 144 0 = nI t then 0 else if m.1 144 1 = nI t then 1 else -1 := by
  rcases hR.2.2.2.2.2.2.2.2.2.2.2.2.2.1 t ht hT with ⟨a, -, b⟩ | ⟨h, hh, a, b, -, d⟩
  · rw [a, if_neg (b 0 (by decide)), if_neg (b 1 (by decide))]
  · have : h = 0 ∨ h = 1 := by omega
    rcases this with rfl | rfl
    · rw [a, if_pos b]; rfl
    · rw [a, if_neg (fun z => absurd (d 0 (by decide) z) (by decide)), if_pos b]; rfl
theorem er_thread {N : Nat} {c : ep_C} {m : ep_M} (hR : ep_R N c m) (p q : Int32) : er_O c m (fun s => eF_11_thread s p q) (fun s => eF_12_thread s p q) := by
  have hin := ep_inl (p := p) (n := 12) (by decide)
  by_cases hp : eh_in p 12 = true
  · obtain ⟨k, hk, rfl⟩ := ep_in_of hp (by decide)
    obtain ⟨p0, p1⟩ := hin.mp hp
    have p1' : nI k < 12 := p1
    have x12 : eh_ix (nI k) = k := ep_ix (by omega)
    obtain ⟨f0, f2, f3, f4, f5, f6, -⟩ := hR.2.2.2.2.2.2.2.2.2.2.1 k hk
    have rF : ∀ m0, (ep_mk c m0).1 (eh_fp (nI k)) = c.2.1 2 k := fun m0 => ep_rF0 c m0 hk
    by_cases hT : m.1 148 k = 0
    · have hX : ∃ r, (if q = 0 then some (m.1 148 k) else some (-1) : Option Int32) = some r := by
        repeat' (first | exact ⟨_, rfl⟩ | split)
      obtain ⟨r, hr⟩ := hX
      refine ⟨r, fun m0 => ?_, fun c0 => ?_⟩
      · show eF_11_thread _ (nI k) q = _
        rw [← hr]
        unfold eF_11_thread
        simp only [↓ep_J, p0, p1', hp, x12, ↓reduceIte, rF, f6, hT]
      · show eF_12_thread _ (nI k) q = _
        rw [← hr]
        unfold eF_12_thread
        simp only [↓ep_J, p0, p1', hp, x12, ↓reduceIte, ep_rM c0 m 148 (by decide), hT]
    · have f7 := er_runsOn hR hk hT
      have hX : ∃ r, (if q = 0 then some (m.1 148 k) else if q = 1 then some (m.1 149 k) else if q = 2 then (if m.1 144 0 = nI k then some 0 else if m.1 144 1 = nI k then some 1 else some (-1)) else if q = 3 then some (m.1 150 k) else if q = 4 then some (m.1 151 k) else some (-1) : Option Int32) = some r := by
        repeat' (first | exact ⟨_, rfl⟩ | split)
      obtain ⟨r, hr⟩ := hX
      have h7 : some (c.2.1 2 k 7) = (if m.1 144 0 = nI k then some 0 else if m.1 144 1 = nI k then some 1 else some (-1) : Option Int32) := by
        rw [f7]
        repeat' (first | rfl | split)
      refine ⟨r, fun m0 => ?_, fun c0 => ?_⟩
      · show eF_11_thread _ (nI k) q = _
        rw [← hr]
        unfold eF_11_thread
        simp only [↓ep_J, p0, p1', hp, x12, ↓reduceIte, rF, f3, f4, f5, f6, hT, h7]
      · show eF_12_thread _ (nI k) q = _
        rw [← hr]
        unfold eF_12_thread
        simp only [↓ep_J, p0, p1', hp, x12, ↓reduceIte, ep_rM c0 m 148 (by decide), ep_rM c0 m 149 (by decide), ep_rM c0 m 150 (by decide), ep_rM c0 m 151 (by decide), ep_rM c0 m 144 (by decide), hT]
  · refine ⟨-1, fun m0 => ?_, fun c0 => ?_⟩
    · show eF_11_thread _ p q = _
      unfold eF_11_thread
      rw [ep_J]
      by_cases y1 : p < 0
      · rw [if_pos y1]
      · rw [if_neg y1, if_neg (show ¬ p < 12 from fun z => hp (hin.mpr ⟨y1, z⟩))]
    · show eF_12_thread _ p q = _
      unfold eF_12_thread
      rw [ep_J]
      by_cases y1 : p < 0
      · rw [if_pos y1]
      · rw [if_neg y1, if_neg (show ¬ p < 12 from fun z => hp (hin.mpr ⟨y1, z⟩))]
theorem er_enclave {N : Nat} {c : ep_C} {m : ep_M} (hR : ep_R N c m) (p q : Int32) : er_O c m (fun s => eF_11_enclave s p q) (fun s => eF_12_enclave s p q) := by
  have hin := ep_inl (p := p) (n := 6) (by decide)
  by_cases hp : eh_in p 6 = true
  · obtain ⟨k, hk, rfl⟩ := ep_in_of hp (by decide)
    obtain ⟨p0, p1⟩ := hin.mp hp
    have p1' : nI k < 6 := p1
    have x6 : eh_ix (nI k) = k := ep_ix (by omega)
    obtain ⟨g5, g6, g7, g8, g9, g11, -⟩ := hR.2.2.2.2.2.2.2.2.2.2.2.2.2.2.2.2.1 k hk
    have rE : ∀ m0, (ep_mk c m0).1 (eh_ep (nI k)) = c.2.1 4 k := fun m0 => ep_rE0 c m0 hk
    by_cases y0 : q = 0
    · refine ⟨m.1 155 k, fun m0 => ?_, fun c0 => ?_⟩
      · show eF_11_enclave _ (nI k) q = _
        unfold eF_11_enclave
        simp only [↓ep_J, p0, p1', hp, x6, ↓reduceIte, rE, g5, y0]
      · show eF_12_enclave _ (nI k) q = _
        unfold eF_12_enclave
        simp only [↓ep_J, p0, p1', hp, x6, ↓reduceIte, y0, ep_rM c0 m 155 (by decide)]
    by_cases y5 : q = 5
    · refine ⟨m.1 158 k, fun m0 => ?_, fun c0 => ?_⟩
      · show eF_11_enclave _ (nI k) q = _
        unfold eF_11_enclave
        simp only [↓ep_J, p0, p1', hp, x6, ↓reduceIte, rE, g8, y0, y5, show ¬ (5 : Int32) = 0 by decide]
      · show eF_12_enclave _ (nI k) q = _
        unfold eF_12_enclave
        simp only [↓ep_J, p0, p1', hp, x6, ↓reduceIte, y0, y5, ep_rM c0 m 158 (by decide), show ¬ (5 : Int32) = 0 by decide]
    by_cases hE : m.1 155 k = 0
    · refine ⟨-1, fun m0 => ?_, fun c0 => ?_⟩
      · show eF_11_enclave _ (nI k) q = _
        unfold eF_11_enclave
        simp only [↓ep_J, p0, p1', hp, x6, ↓reduceIte, rE, g5, y0, y5, hE]
      · show eF_12_enclave _ (nI k) q = _
        unfold eF_12_enclave
        simp only [↓ep_J, p0, p1', hp, x6, ↓reduceIte, y0, y5, ep_rM c0 m 155 (by decide), hE]
    obtain ⟨w, b, n, hw, hwe, hwS, n0, bn, hB, hZ, cb, cs, hP⟩ := ep_ownR hR hk hE
    have i12 : eh_in (nI w) 12 = true := ep_in hw (by decide)
    have xw : eh_ix (nI w) = w := ep_ix (by omega)
    have g10 := (hR.2.2.2.2.2.2.2.2.2.2.2.2.2.2.2.2.2.1 k hk hE).1
    have hX : ∃ r, (if q = 1 then some (nI (256 * b)) else if q = 2 then some (nI (256 * n)) else if q = 3 then some (m.1 157 k) else if q = 4 then some (nI (ep_nt (m.1 148) (m.1 149) k 12)) else if q = 6 then (if m.1 161 k = 0 then some 0 else some 1) else if q = 7 then some (m.1 163 k) else some (-1) : Option Int32) = some r := by
      repeat' (first | exact ⟨_, rfl⟩ | split)
    obtain ⟨r, hr⟩ := hX
    refine ⟨r, fun m0 => ?_, fun c0 => ?_⟩
    · show eF_11_enclave _ (nI k) q = _
      rw [← hr]
      unfold eF_11_enclave
      simp only [↓ep_J, p0, p1', hp, x6, ↓reduceIte, rE, g5, g7, g9, g10, g11, y0, y5, hE, cb, cs, ep_sb]
    · show eF_12_enclave _ (nI k) q = _
      rw [← hr]
      unfold eF_12_enclave
      simp only [↓ep_J, p0, p1', hp, x6, ↓reduceIte, y0, y5, hE, ep_rM c0 m 155 (by decide), ep_rM c0 m 156 (by decide), ep_rM c0 m 157 (by decide), ep_rM c0 m 161 (by decide), ep_rM c0 m 163 (by decide), ep_rM c0 m 165 (by decide), ep_rM c0 m 166 (by decide), hwe, i12, xw, hB, hZ, ep_mthreads, ep_sb]
  · refine ⟨-1, fun m0 => ?_, fun c0 => ?_⟩
    · show eF_11_enclave _ p q = _
      unfold eF_11_enclave
      rw [ep_J]
      by_cases y1 : p < 0
      · rw [if_pos y1]
      · rw [if_neg y1, if_neg (show ¬ p < 6 from fun z => hp (hin.mpr ⟨y1, z⟩))]
    · show eF_12_enclave _ p q = _
      unfold eF_12_enclave
      rw [ep_J]
      by_cases y1 : p < 0
      · rw [if_pos y1]
      · rw [if_neg y1, if_neg (show ¬ p < 6 from fun z => hp (hin.mpr ⟨y1, z⟩))]
theorem er_event {N : Nat} {c : ep_C} {m : ep_M} (hR : ep_R N c m) (hN : N < 2 ^ 28) (p q : Int32) : er_O c m (fun s => eF_11_event s p q) (fun s => eF_12_event s p q) := by
  obtain ⟨g1, g2, n, hn, g4⟩ := hR.2.2.2.2.2.2.2.2.2.2.2.2.2.2.2.2.2.2.2.2.2.2.2.1
  have hlim : (if (1000 : Int32) < nI n then (1000 : Int32) else nI n) = nI (if 1000 < n then 1000 else n) := by
    by_cases y : 1000 < n
    · rw [if_pos y, if_pos (show (1000 : Int32) < nI n from (nI_ltI (a := 1000) (by decide) (by omega)).mpr y)]
      rfl
    · rw [if_neg y, if_neg (show ¬ (1000 : Int32) < nI n from fun z => y ((nI_ltI (a := 1000) (by decide) (by omega)).mp z))]
  by_cases hp : ¬ (¬ p < 0 ∧ p < nI n ∧ p < 1000 ∧ ¬ q < 0 ∧ q < 8)
  · refine ⟨0, fun m0 => ?_, fun c0 => ?_⟩
    · show Option.bind (eF_5_eventPart _ p q) _ = _
      unfold eF_5_eventPart
      rw [ep_J, ep_J, ep_rC1 _ _ 1 (by decide), g2, g4]
      have h0 : (eh_J (fun (a4 : Int32) => some a4) (fun j3 => eh_J (fun (u6 : Unit) => j3 0) (fun j5 => if (0 : Int32) = 0 then (j5 ()) else (if q < 0 then (j5 ()) else (if q < 8 then (if eh_in ((p * 8) + q) 8000 then j3 ((ep_mk c m0).1 38 (eh_ix ((p * 8) + q))) else none) else (j5 ()))))) : Option Int32) = some 0 := by
        rw [ep_J, ep_J, if_pos rfl]
      dsimp only
      rw [h0]
      by_cases y1 : p < 0
      · rw [if_pos y1, ep_sb]
      · rw [if_neg y1]
        by_cases y2 : p < nI n
        · rw [if_pos y2]
          by_cases y3 : p < 1000
          · rw [if_pos y3, ep_J, ep_J, if_neg (show ¬ (1 : Int32) = 0 by decide)]
            by_cases y4 : q < 0
            · rw [if_pos y4, ep_sb]
            · rw [if_neg y4, if_neg (fun z => hp ⟨y1, y2, y3, y4, z⟩), ep_sb]
          · rw [if_neg y3, ep_sb]
        · rw [if_neg y2, ep_sb]
    · show eF_12_event _ p q = _
      unfold eF_12_event
      rw [ep_J, ep_J, ep_rM _ _ 127 (by decide), g4, hlim]
      by_cases y1 : p < 0
      · rw [if_pos y1]
      · rw [if_neg y1]
        obtain ⟨k, hk, rfl⟩ := nI_of y1
        by_cases y2 : nI k < nI (if 1000 < n then 1000 else n)
        · rw [if_pos y2]
          have y2' := (nI_ltI hk (by split <;> omega)).mp y2
          have z1 : nI k < nI n := nI_lt (by split at y2' <;> omega) (by omega)
          have z2 : nI k < 1000 := nI_lt (b := 1000) (by split at y2' <;> omega) (by decide)
          by_cases y4 : q < 0
          · rw [if_pos y4]
          · rw [if_neg y4, if_neg (fun z => hp ⟨y1, z1, z2, y4, z⟩)]
        · rw [if_neg y2]
  obtain ⟨p0, p1, p2, q0, q1⟩ := Decidable.not_not.mp hp
  obtain ⟨k, hk, rfl⟩ := nI_of p0
  obtain ⟨j, hj, rfl⟩ := nI_of q0
  have k1 : k < n := (nI_ltI hk (by omega)).mp p1
  have k2 : k < 1000 := (nI_ltI (b := 1000) hk (by decide)).mp p2
  have j1 : j < 8 := (nI_ltI (b := 8) hj (by decide)).mp q1
  have e1 : nI k * 8 = nI (8 * k) := by rw [Int32.mul_comm]; exact ep_mul (b := 8) rfl rfl
  have e2 : (8 : Int32) * nI k = nI (8 * k) := ep_mul (b := 8) rfl rfl
  have i8 : eh_in (nI (8 * k + j)) 8000 = true := ep_in (by omega) (by decide)
  have x8 : eh_ix (nI (8 * k + j)) = 8 * k + j := ep_ix (by omega)
  refine ⟨m.1 173 (8 * k + j), fun m0 => ?_, fun c0 => ?_⟩
  · show Option.bind (eF_5_eventPart _ (nI k) (nI j)) _ = _
    unfold eF_5_eventPart
    rw [ep_J, ep_J, ep_rC1 _ _ 1 (by decide), g2, g4, if_neg p0, if_pos p1, if_pos p2]
    dsimp only
    rw [ep_J, ep_J, if_neg (show ¬ (1 : Int32) = 0 by decide), if_neg q0, if_pos q1, e1, nI_add, if_pos i8, x8, ep_rC1 _ _ 38 (by decide), g1, ep_sb]
  · show eF_12_event _ (nI k) (nI j) = _
    unfold eF_12_event
    rw [ep_J, ep_J, ep_rM _ _ 127 (by decide), g4, hlim, if_neg p0, if_pos (nI_lt (by split <;> omega) (by split <;> omega)), if_neg q0, if_pos q1, e2, nI_add, if_pos i8, x8, ep_rM _ _ 173 (by decide)]
/-! the disk's bytes -/
theorem er_shl255 (v : Int32) {k : Nat} (hk : k < 32) : eh_shl (v &&& 255) (nI k) = eh_shl v (nI k) &&& eh_shl 255 (nI k) := by
  refine ep_ext fun i hi => ?_
  rw [ep_bit_shl _ hk _ hi, ep_bit_and, ep_bit_and, ep_bit_shl _ hk _ hi, ep_bit_shl _ hk _ hi]
  cases decide (k ≤ i) <;> simp
theorem er_byte (b : Nat → Int32) (q : Nat) : eh_ushr (ep_lw b (4 * (q / 4))) (nI (8 * (q % 4))) &&& 255 = b q &&& 255 := by
  rw [ep_b8]
  intro i hi
  rw [ep_bit_ushr _ (by omega), ep_bit_lw _ _ _ (by omega)]
  rw [show 4 * (q / 4) + (i + 8 * (q % 4)) / 8 = q by omega, show (i + 8 * (q % 4)) % 8 = i by omega]
theorem er_Gm_nb {w b : Nat → Int32} (h : ep_Gm w b) (q : Nat) : ep_Gm w (upd b q (eh_nb (b q))) := by
  unfold ep_Gm at h ⊢
  rw [h]
  funext j
  have hb : ∀ o, upd b q (eh_nb (b q)) o &&& 255 = b o &&& 255 := by
    intro o
    by_cases e : o = q
    · subst e; rw [ep_upd_eq, ep_nb255]
    · rw [ep_upd_ne e]
  unfold ep_lw
  rw [hb, hb, hb, hb]
theorem er_disk (N : Nat) (p q r : Int32) : er_P N 0 (fun s => eF_11_disk s p q r) (fun s => eF_12_disk s p q r) := by
  intro c m hR
  by_cases hp : ¬ (¬ p < 0 ∧ ¬ 31 < p ∧ ¬ q < 0 ∧ ¬ 255 < q ∧ ¬ r < -1 ∧ ¬ 255 < r)
  · refine er_id hR (-1) (fun m0 => ?_) (fun c0 => ?_)
    · show eF_11_disk _ p q r = _
      unfold eF_11_disk
      rw [ep_J]
      by_cases y1 : p < 0
      · rw [if_pos y1]
      rw [if_neg y1]
      by_cases y2 : 31 < p
      · rw [if_pos y2]
      rw [if_neg y2]
      by_cases y3 : q < 0
      · rw [if_pos y3]
      rw [if_neg y3]
      by_cases y4 : 255 < q
      · rw [if_pos y4]
      rw [if_neg y4]
      by_cases y5 : r < -1
      · rw [if_pos y5]
      rw [if_neg y5, if_pos (Decidable.byContradiction fun z => hp ⟨y1, y2, y3, y4, y5, z⟩)]
    · show eF_12_disk _ p q r = _
      unfold eF_12_disk
      rw [ep_J]
      by_cases y1 : p < 0
      · rw [if_pos y1]
      rw [if_neg y1]
      by_cases y2 : 31 < p
      · rw [if_pos y2]
      rw [if_neg y2]
      by_cases y3 : q < 0
      · rw [if_pos y3]
      rw [if_neg y3]
      by_cases y4 : 255 < q
      · rw [if_pos y4]
      rw [if_neg y4]
      by_cases y5 : r < -1
      · rw [if_pos y5]
      rw [if_neg y5, if_pos (Decidable.byContradiction fun z => hp ⟨y1, y2, y3, y4, y5, z⟩)]
  obtain ⟨p0, p1, q0, q1, r0, r1⟩ := Decidable.not_not.mp hp
  obtain ⟨x, hx, rfl⟩ := ep_le_of (n := 31) (by decide) p0 p1
  obtain ⟨y, hy, rfl⟩ := ep_le_of (n := 255) (by decide) q0 q1
  obtain ⟨o, ho⟩ : ∃ o, o = 256 * x + y := ⟨_, rfl⟩
  have e1 : nI x * 256 + nI y = nI o := by rw [Int32.mul_comm, show (256 : Int32) * nI x = nI (256 * x) from ep_mul (b := 256) rfl rfl, nI_add, ho]
  have e2 : (256 : Int32) * nI x + nI y = nI o := by rw [show (256 : Int32) * nI x = nI (256 * x) from ep_mul (b := 256) rfl rfl, nI_add, ho]
  have ho2 : o < 8192 := by omega
  have io : eh_in (nI o) 8192 = true := ep_in ho2 (by decide)
  have xo : eh_ix (nI o) = o := ep_ix (by omega)
  have sh : eh_shr (nI o) 2 = nI (o / 4) := by rw [show (2 : Int32) = nI 2 from rfl, ep_shrn (by omega) (by decide)]
  have i4 : eh_in (nI (o / 4)) 2048 = true := ep_in (by omega) (by decide)
  have x4 : eh_ix (nI (o / 4)) = o / 4 := ep_ix (by omega)
  have e8 : (8 : Int32) * (nI o &&& 3) = nI (8 * (o % 4)) := by rw [ep_and3 (by omega)]; exact ep_mul (b := 8) rfl rfl
  have hw : c.1 13 (o / 4) = ep_lw (m.1 175) (4 * (o / 4)) := by rw [show c.1 13 = _ from hR.2.1]
  have hC : ∀ m0, eF_11_disk (ep_mk c m0) (nI x) (nI y) r = eh_J (fun (s9 : eh_F) => some (m.1 175 o &&& 255, s9)) (fun j8 => if r < 0 then (j8 (ep_mk c m0)) else j8 (ep_mk (ep_cI c 13 (o / 4) ((c.1 13 (o / 4) &&& ((eh_shl 255 (nI (8 * (o % 4)))) ^^^ (-1))) ||| (eh_shl (r &&& 255) (nI (8 * (o % 4)))))) m0)) := by
    intro m0
    unfold eF_11_disk eF_0_swapDiskByte
    rw [ep_J, if_neg p0, if_neg p1, if_neg q0, if_neg q1, if_neg r0, if_neg r1, ep_V, e1, sh, ep_J, if_neg (nI_pos (by omega)), if_pos (show nI (o / 4) < Int32.ofNat 2048 from nI_lt (b := 2048) (by omega) (by decide)), ep_V, if_pos i4, ep_V, x4, ep_rC1 _ _ 13 (by decide), e8, hw, er_byte, ep_J, ep_J]
    by_cases y1 : r < 0
    · rw [if_pos y1, if_pos y1]; rfl
    · rw [if_neg y1, if_neg y1, if_pos i4, if_pos i4, ep_V, ep_iC1 _ _ _ _ _ (by decide)]; rfl
  have hM : ∀ c0, eF_12_disk (ep_mk c0 m) (nI x) (nI y) r = some (m.1 175 o &&& 255, ep_mk c0 (ep_mI m 175 o (eh_nb (if r < 0 then m.1 175 o else eh_nb r)))) := by
    intro c0
    unfold eF_12_disk
    rw [ep_J, if_neg p0, if_neg p1, if_neg q0, if_neg q1, if_neg r0, if_neg r1, e2, if_pos io, ep_V, xo, ep_J, ep_rM _ _ 175 (by decide)]
    dsimp only
    by_cases y1 : r < 0
    · rw [if_pos y1, if_pos y1, if_pos io, if_pos io, ep_V, ep_iM _ _ _ _ _ (by decide)]
    · rw [if_neg y1, if_neg y1, if_pos io, ep_V, ep_iM _ _ _ _ _ (by decide)]
  by_cases y1 : r < 0
  · refine ⟨m.1 175 o &&& 255, c, _, fun m0 => ?_, fun c0 => hM c0, ?_⟩
    · show eF_11_disk _ (nI x) (nI y) r = _
      rw [hC m0, ep_J, if_pos y1]
    · rw [if_pos y1]
      exact ⟨hR.1, er_Gm_nb hR.2.1 o, hR.2.2.1, hR.2.2.2.1, hR.2.2.2.2.1, hR.2.2.2.2.2.1, hR.2.2.2.2.2.2.1, hR.2.2.2.2.2.2.2.1, hR.2.2.2.2.2.2.2.2.1, hR.2.2.2.2.2.2.2.2.2.1, hR.2.2.2.2.2.2.2.2.2.2.1, hR.2.2.2.2.2.2.2.2.2.2.2.1, hR.2.2.2.2.2.2.2.2.2.2.2.2.1, hR.2.2.2.2.2.2.2.2.2.2.2.2.2.1, hR.2.2.2.2.2.2.2.2.2.2.2.2.2.2.1, hR.2.2.2.2.2.2.2.2.2.2.2.2.2.2.2.1, hR.2.2.2.2.2.2.2.2.2.2.2.2.2.2.2.2.1, hR.2.2.2.2.2.2.2.2.2.2.2.2.2.2.2.2.2.1, hR.2.2.2.2.2.2.2.2.2.2.2.2.2.2.2.2.2.2.1, hR.2.2.2.2.2.2.2.2.2.2.2.2.2.2.2.2.2.2.2.1, hR.2.2.2.2.2.2.2.2.2.2.2.2.2.2.2.2.2.2.2.2.1, hR.2.2.2.2.2.2.2.2.2.2.2.2.2.2.2.2.2.2.2.2.2.1, hR.2.2.2.2.2.2.2.2.2.2.2.2.2.2.2.2.2.2.2.2.2.2.1, hR.2.2.2.2.2.2.2.2.2.2.2.2.2.2.2.2.2.2.2.2.2.2.2.1, hR.2.2.2.2.2.2.2.2.2.2.2.2.2.2.2.2.2.2.2.2.2.2.2.2.1, hR.2.2.2.2.2.2.2.2.2.2.2.2.2.2.2.2.2.2.2.2.2.2.2.2.2.1, hR.2.2.2.2.2.2.2.2.2.2.2.2.2.2.2.2.2.2.2.2.2.2.2.2.2.2.1, hR.2.2.2.2.2.2.2.2.2.2.2.2.2.2.2.2.2.2.2.2.2.2.2.2.2.2.2.1, hR.2.2.2.2.2.2.2.2.2.2.2.2.2.2.2.2.2.2.2.2.2.2.2.2.2.2.2.2.1, hR.2.2.2.2.2.2.2.2.2.2.2.2.2.2.2.2.2.2.2.2.2.2.2.2.2.2.2.2.2.1, hR.2.2.2.2.2.2.2.2.2.2.2.2.2.2.2.2.2.2.2.2.2.2.2.2.2.2.2.2.2.2.1, hR.2.2.2.2.2.2.2.2.2.2.2.2.2.2.2.2.2.2.2.2.2.2.2.2.2.2.2.2.2.2.2.1, hR.2.2.2.2.2.2.2.2.2.2.2.2.2.2.2.2.2.2.2.2.2.2.2.2.2.2.2.2.2.2.2.2.1, hR.2.2.2.2.2.2.2.2.2.2.2.2.2.2.2.2.2.2.2.2.2.2.2.2.2.2.2.2.2.2.2.2.2⟩
  · refine ⟨m.1 175 o &&& 255, ep_cI c 13 (o / 4) ((c.1 13 (o / 4) &&& ((eh_shl 255 (nI (8 * (o % 4)))) ^^^ (-1))) ||| (eh_shl (r &&& 255) (nI (8 * (o % 4))))), _, fun m0 => ?_, fun c0 => hM c0, ?_⟩
    · show eF_11_disk _ (nI x) (nI y) r = _
      rw [hC m0, ep_J, if_neg y1]
    · rw [if_neg y1]
      refine ⟨hR.1, ?_, hR.2.2.1, hR.2.2.2.1, hR.2.2.2.2.1, hR.2.2.2.2.2.1, hR.2.2.2.2.2.2.1, hR.2.2.2.2.2.2.2.1, hR.2.2.2.2.2.2.2.2.1, hR.2.2.2.2.2.2.2.2.2.1, hR.2.2.2.2.2.2.2.2.2.2.1, hR.2.2.2.2.2.2.2.2.2.2.2.1, hR.2.2.2.2.2.2.2.2.2.2.2.2.1, hR.2.2.2.2.2.2.2.2.2.2.2.2.2.1, hR.2.2.2.2.2.2.2.2.2.2.2.2.2.2.1, hR.2.2.2.2.2.2.2.2.2.2.2.2.2.2.2.1, hR.2.2.2.2.2.2.2.2.2.2.2.2.2.2.2.2.1, hR.2.2.2.2.2.2.2.2.2.2.2.2.2.2.2.2.2.1, hR.2.2.2.2.2.2.2.2.2.2.2.2.2.2.2.2.2.2.1, hR.2.2.2.2.2.2.2.2.2.2.2.2.2.2.2.2.2.2.2.1, hR.2.2.2.2.2.2.2.2.2.2.2.2.2.2.2.2.2.2.2.2.1, hR.2.2.2.2.2.2.2.2.2.2.2.2.2.2.2.2.2.2.2.2.2.1, hR.2.2.2.2.2.2.2.2.2.2.2.2.2.2.2.2.2.2.2.2.2.2.1, hR.2.2.2.2.2.2.2.2.2.2.2.2.2.2.2.2.2.2.2.2.2.2.2.1, hR.2.2.2.2.2.2.2.2.2.2.2.2.2.2.2.2.2.2.2.2.2.2.2.2.1, hR.2.2.2.2.2.2.2.2.2.2.2.2.2.2.2.2.2.2.2.2.2.2.2.2.2.1, hR.2.2.2.2.2.2.2.2.2.2.2.2.2.2.2.2.2.2.2.2.2.2.2.2.2.2.1, hR.2.2.2.2.2.2.2.2.2.2.2.2.2.2.2.2.2.2.2.2.2.2.2.2.2.2.2.1, hR.2.2.2.2.2.2.2.2.2.2.2.2.2.2.2.2.2.2.2.2.2.2.2.2.2.2.2.2.1, hR.2.2.2.2.2.2.2.2.2.2.2.2.2.2.2.2.2.2.2.2.2.2.2.2.2.2.2.2.2.1, hR.2.2.2.2.2.2.2.2.2.2.2.2.2.2.2.2.2.2.2.2.2.2.2.2.2.2.2.2.2.2.1, hR.2.2.2.2.2.2.2.2.2.2.2.2.2.2.2.2.2.2.2.2.2.2.2.2.2.2.2.2.2.2.2.1, hR.2.2.2.2.2.2.2.2.2.2.2.2.2.2.2.2.2.2.2.2.2.2.2.2.2.2.2.2.2.2.2.2.1, hR.2.2.2.2.2.2.2.2.2.2.2.2.2.2.2.2.2.2.2.2.2.2.2.2.2.2.2.2.2.2.2.2.2⟩
      have := ep_sb_word hR.2.1 (n := 1) (q := o) (Or.inl rfl) (Nat.mod_one _) r
      have e1 : ep_sb_ (m.1 175) o 1 r = upd (m.1 175) o (eh_nb (eh_nb r)) := by
        unfold ep_sb_
        have h2 := ep_in_s (m.1 175) o 0 (fun k => eh_nb (eh_nb (eh_shr r (nI (8 * k)))))
        rw [ep_in_0, Nat.add_zero] at h2
        rw [← h2]
        show upd _ _ (eh_nb (eh_nb (eh_shr r 0))) = _
        rw [show eh_shr r 0 = r from by unfold eh_shr; refine ep_ext fun i hi => ?_; have := ep_bit_shr r (k := 0) (by decide) i hi; rw [Nat.add_zero, if_pos hi] at this; exact this]
      rw [e1, show ep_mask 1 o = eh_shl 255 (nI (8 * (o % 4))) from rfl, ← er_shl255 r (by omega)] at this
      exact this
/-! counts -/
def er_ct (S : Nat → Int32) : Nat → Int32
  | 0 => 0
  | i + 1 => er_ct S i + if S i = 0 then 0 else 1
theorem er_ctE {N : Nat} {c : ep_C} {m : ep_M} (hR : ep_R N c m) (m0 : ep_M) : eF_5_enclaveCount (ep_mk c m0) = some (er_ct (m.1 155) 6) := by
  unfold eF_5_enclaveCount
  refine ep_lp (fun i => (er_ct (m.1 155) i, nI i)) 6 _ (by decide) rfl ?_ ?_ rfl
  · intro i hi rec
    show (if nI i < 6 then _ else _) = _
    rw [if_pos (show nI i < 6 from nI_lt (b := 6) hi (by decide)), if_pos (ep_in hi (by decide)), ep_J, ep_rE0 _ _ hi, (hR.2.2.2.2.2.2.2.2.2.2.2.2.2.2.2.2.1 i hi).1]
    by_cases y : m.1 155 i = 0
    · rw [if_pos y]; dsimp only; rw [ep_V, ep_V, nI_1]; show _ = rec (er_ct (m.1 155) i + (if m.1 155 i = 0 then 0 else 1), _); rw [if_pos y]
    · rw [if_neg y]; dsimp only; rw [ep_V, ep_V, nI_1]; show _ = rec (er_ct (m.1 155) i + (if m.1 155 i = 0 then 0 else 1), _); rw [if_neg y]
  · intro rec
    show (if nI 6 < 6 then _ else _) = _
    rw [if_neg (by decide)]
theorem er_ctR {N : Nat} {c : ep_C} {m : ep_M} (hR : ep_R N c m) (m0 : ep_M) : eF_6_regionCount (ep_mk c m0) = some (er_ct (m.1 164) 12) := by
  unfold eF_6_regionCount
  refine ep_lp (fun i => (er_ct (m.1 164) i, nI i)) 12 _ (by decide) rfl ?_ ?_ rfl
  · intro i hi rec
    show (if nI i < 12 then _ else _) = _
    rw [if_pos (show nI i < 12 from nI_lt (b := 12) hi (by decide)), if_pos (ep_in hi (by decide)), ep_J, ep_rC1 _ _ 3 (by decide), hR.2.2.1.1, ep_ix (by omega)]
    by_cases y : m.1 164 i = 0
    · rw [if_pos y]; dsimp only; rw [ep_V, ep_V, nI_1]; show _ = rec (er_ct (m.1 164) i + (if m.1 164 i = 0 then 0 else 1), _); rw [if_pos y]
    · rw [if_neg y]; dsimp only; rw [ep_V, ep_V, nI_1]; show _ = rec (er_ct (m.1 164) i + (if m.1 164 i = 0 then 0 else 1), _); rw [if_neg y]
  · intro rec
    show (if nI 12 < 12 then _ else _) = _
    rw [if_neg (by decide)]
theorem er_ctF {N : Nat} {c : ep_C} {m : ep_M} (hR : ep_R N c m) (m0 : ep_M) : eF_5_fibreCount (ep_mk c m0) = some (er_ct (m.1 148) 12) := by
  unfold eF_5_fibreCount
  refine ep_lp (fun i => (er_ct (m.1 148) i, nI i)) 12 _ (by decide) rfl ?_ ?_ rfl
  · intro i hi rec
    show (if nI i < 12 then _ else _) = _
    rw [if_pos (show nI i < 12 from nI_lt (b := 12) hi (by decide)), if_pos (ep_in hi (by decide)), ep_J, ep_rF0 _ _ hi, (hR.2.2.2.2.2.2.2.2.2.2.1 i hi).2.2.2.2.2.1]
    by_cases y : m.1 148 i = 0
    · rw [if_pos y]; dsimp only; rw [ep_V, ep_V, nI_1]; show _ = rec (er_ct (m.1 148) i + (if m.1 148 i = 0 then 0 else 1), _); rw [if_pos y]
    · rw [if_neg y]; dsimp only; rw [ep_V, ep_V, nI_1]; show _ = rec (er_ct (m.1 148) i + (if m.1 148 i = 0 then 0 else 1), _); rw [if_neg y]
  · intro rec
    show (if nI 12 < 12 then _ else _) = _
    rw [if_neg (by decide)]
theorem er_many (m : ep_M) (c0 : ep_C) {k n : Nat} (hk : 127 ≤ k) (hn : n ≤ 12) : eF_12_many (ep_mk c0 m) k n = some (er_ct (m.1 k) n) := by
  unfold eF_12_many
  refine ep_lp (fun i => (er_ct (m.1 k) i, nI i)) n _ (by omega) rfl ?_ ?_ rfl
  · intro i hi rec
    show (if nI i < Int32.ofNat n then _ else _) = _
    rw [if_pos (show nI i < Int32.ofNat n from nI_lt hi (by omega)), if_pos (ep_in hi (by omega)), ep_J, ep_rM _ _ k hk, ep_ix (by omega)]
    by_cases y : m.1 k i = 0
    · rw [if_pos y]; dsimp only; rw [ep_V, ep_V, nI_1]; show _ = rec (er_ct (m.1 k) i + (if m.1 k i = 0 then 0 else 1), _); rw [if_pos y]
    · rw [if_neg y]; dsimp only; rw [ep_V, ep_V, nI_1]; show _ = rec (er_ct (m.1 k) i + (if m.1 k i = 0 then 0 else 1), _); rw [if_neg y]
  · intro rec
    show (if nI n < Int32.ofNat n then _ else _) = _
    rw [if_neg (show ¬ nI n < Int32.ofNat n from nI_nlt (Nat.le_refl _) (by omega))]
theorem er_count {N : Nat} {c : ep_C} {m : ep_M} (hR : ep_R N c m) (p : Int32) : er_O c m (fun s => eF_11_count s p) (fun s => eF_12_count_2 s p) := by
  obtain ⟨d0, d1, d2, d3, d4, d5, d6, d7, d8, -⟩ := hR.2.2.2.2.2.2.2.2.2.2.2.2.2.2.2.2.2.2.2.2.2.2.2.2.2.2.2.2.1
  have v1 : c.1 1 11 = m.1 127 50 := hR.2.2.2.2.2.2.2.2.2.2.2.2.2.2.2.2.2.2.2.2.2.2.2.1.2.1
  have v2 : c.1 1 12 = m.1 127 70 := hR.2.2.2.2.2.2.2.2.2.2.2.2.2.2.2.2.2.2.2.2.2.2.2.2.1.2.1
  have v3 : c.1 18 1 = m.1 127 52 := hR.2.2.2.2.2.2.2.2.2.2.2.2.2.2.2.2.2.2.2.2.2.2.2.2.2.2.2.2.2.2.1.2.1
  have v4 : c.1 20 1 = m.1 127 62 := hR.2.2.2.2.2.2.2.2.2.2.2.2.2.2.2.2.2.2.2.2.2.2.2.2.2.2.2.2.2.2.2.1.2.1
  have v5 : c.1 22 1 = m.1 127 64 := hR.2.2.2.2.2.2.2.2.2.2.2.2.2.2.2.2.2.2.2.2.2.2.2.2.2.2.2.2.2.2.2.2.1.2.1
  have v6 : c.1 24 1 = m.1 127 66 := hR.2.2.2.2.2.2.2.2.2.2.2.2.2.2.2.2.2.2.2.2.2.2.2.2.2.2.2.2.2.2.2.2.2.2.1
  obtain ⟨a0, a2, a3, a4, a5, -⟩ := hR.2.2.2.2.2.2.2.1 0 (by decide)
  obtain ⟨b0, b2, b3, b4, b5, -⟩ := hR.2.2.2.2.2.2.2.1 1 (by decide)
  have rH0 : ∀ m0, (ep_mk c m0).1 (eh_hp 0) = c.2.1 0 0 := fun m0 => ep_rH0 c m0 (h := 0) (by decide)
  have rH1 : ∀ m0, (ep_mk c m0).1 (eh_hp 1) = c.2.1 0 1 := fun m0 => ep_rH0 c m0 (h := 1) (by decide)
  have hcase : p = 0 ∨ p = 1 ∨ p = 2 ∨ p = 3 ∨ p = 4 ∨ p = 5 ∨ p = 6 ∨ p = 7 ∨ p = 8 ∨ p = 9 ∨ p = 10 ∨ p = 11 ∨ p = 12 ∨ p = 13 ∨ p = 14 ∨ p = 15 ∨ p = 16 ∨ p = 17 ∨ p = 18 ∨ p = 19 ∨ p = 20 ∨ p = 21 ∨ p = 22 ∨ (p < 0 ∨ 22 < p) := by
    by_cases y1 : p < 0
    · simp [y1]
    · by_cases y2 : 22 < p
      · simp [y2]
      · obtain ⟨k, hk, rfl⟩ := ep_le_of (n := 22) (by decide) y1 y2
        have : k = 0 ∨ k = 1 ∨ k = 2 ∨ k = 3 ∨ k = 4 ∨ k = 5 ∨ k = 6 ∨ k = 7 ∨ k = 8 ∨ k = 9 ∨ k = 10 ∨ k = 11 ∨ k = 12 ∨ k = 13 ∨ k = 14 ∨ k = 15 ∨ k = 16 ∨ k = 17 ∨ k = 18 ∨ k = 19 ∨ k = 20 ∨ k = 21 ∨ k = 22 := by omega
        rcases this with h | h | h | h | h | h | h | h | h | h | h | h | h | h | h | h | h | h | h | h | h | h | h <;> subst h <;> decide
  have hif : ∀ (x : Int32), ∃ r, (if x = 0 then some 0 else some 1 : Option Int32) = some r := by
    intro x
    repeat' (first | exact ⟨_, rfl⟩ | split)
  rcases hcase with rfl | rfl | rfl | rfl | rfl | rfl | rfl | rfl | rfl | rfl | rfl | rfl | rfl | rfl | rfl | rfl | rfl | rfl | rfl | rfl | rfl | rfl | rfl | hz
  · exact ⟨m.1 127 20, fun m0 => congrArg some d0, fun c0 => rfl⟩
  · obtain ⟨r, hr⟩ := hif (m.1 127 21)
    refine ⟨r, fun m0 => ?_, fun c0 => ?_⟩
    · rw [← hr, ← d1]; rfl
    · rw [← hr]; rfl
  · exact ⟨_, fun m0 => ep_bnd (er_ctE hR m0) rfl, fun c0 => ep_bnd (er_many m c0 (by decide) (by decide)) rfl⟩
  · exact ⟨_, fun m0 => ep_bnd (er_ctR hR m0) rfl, fun c0 => ep_bnd (er_many m c0 (by decide) (by decide)) rfl⟩
  · exact ⟨_, fun m0 => ep_bnd (er_ctF hR m0) rfl, fun c0 => ep_bnd (er_many m c0 (by decide) (by decide)) rfl⟩
  · exact ⟨_, fun m0 => congrArg some v1, fun c0 => rfl⟩
  · exact ⟨_, fun m0 => congrArg some v3, fun c0 => rfl⟩
  · exact ⟨_, fun m0 => congrArg some d5, fun c0 => rfl⟩
  · exact ⟨_, fun m0 => congrArg some a5, fun c0 => rfl⟩
  · exact ⟨_, fun m0 => congrArg some b5, fun c0 => rfl⟩
  · obtain ⟨r, hr⟩ := hif (m.1 132 0)
    refine ⟨r, fun m0 => ?_, fun c0 => ?_⟩
    · have hq : eF_11_countOfHart (ep_mk c m0) 10 = some r := by
        unfold eF_11_countOfHart
        rw [if_pos (show eh_in (10 &&& 1) 2 = true by decide), ep_V, if_neg (show ¬ eh_shr 10 1 = 4 by decide), if_pos (show eh_shr 10 1 = 5 by decide), ep_J, show (ep_mk c m0).1 (eh_hp (10 &&& 1)) = c.2.1 0 0 from rH0 m0, a4, hr]
      show eF_11_count _ 10 = _
      unfold eF_11_count
      rw [ep_J, if_neg (show ¬ (10 : Int32) = 0 by decide), if_neg (show ¬ (10 : Int32) = 1 by decide), if_neg (show ¬ (10 : Int32) = 2 by decide), if_neg (show ¬ (10 : Int32) = 3 by decide), if_neg (show ¬ (10 : Int32) = 4 by decide), if_neg (show ¬ (10 : Int32) = 5 by decide), if_neg (show ¬ (10 : Int32) = 6 by decide), if_neg (show ¬ (10 : Int32) = 7 by decide), if_neg (show ¬ (10 : Int32) = 16 by decide), if_neg (show ¬ (10 : Int32) = 17 by decide), if_neg (show ¬ (10 : Int32) = 18 by decide), if_neg (show ¬ (10 : Int32) = 19 by decide), if_neg (show ¬ (10 : Int32) = 20 by decide), if_neg (show ¬ (10 : Int32) = 21 by decide), if_neg (show ¬ (10 : Int32) = 22 by decide), ep_J, ep_J, if_neg (show ¬ (10 : Int32) < 8 by decide), if_neg (show ¬ (15 : Int32) < 10 by decide), hq, ep_sb]
    · rw [← hr]; rfl
  · obtain ⟨r, hr⟩ := hif (m.1 132 1)
    refine ⟨r, fun m0 => ?_, fun c0 => ?_⟩
    · have hq : eF_11_countOfHart (ep_mk c m0) 11 = some r := by
        unfold eF_11_countOfHart
        rw [if_pos (show eh_in (11 &&& 1) 2 = true by decide), ep_V, if_neg (show ¬ eh_shr 11 1 = 4 by decide), if_pos (show eh_shr 11 1 = 5 by decide), ep_J, show (ep_mk c m0).1 (eh_hp (11 &&& 1)) = c.2.1 0 1 from rH1 m0, b4, hr]
      show eF_11_count _ 11 = _
      unfold eF_11_count
      rw [ep_J, if_neg (show ¬ (11 : Int32) = 0 by decide), if_neg (show ¬ (11 : Int32) = 1 by decide), if_neg (show ¬ (11 : Int32) = 2 by decide), if_neg (show ¬ (11 : Int32) = 3 by decide), if_neg (show ¬ (11 : Int32) = 4 by decide), if_neg (show ¬ (11 : Int32) = 5 by decide), if_neg (show ¬ (11 : Int32) = 6 by decide), if_neg (show ¬ (11 : Int32) = 7 by decide), if_neg (show ¬ (11 : Int32) = 16 by decide), if_neg (show ¬ (11 : Int32) = 17 by decide), if_neg (show ¬ (11 : Int32) = 18 by decide), if_neg (show ¬ (11 : Int32) = 19 by decide), if_neg (show ¬ (11 : Int32) = 20 by decide), if_neg (show ¬ (11 : Int32) = 21 by decide), if_neg (show ¬ (11 : Int32) = 22 by decide), ep_J, ep_J, if_neg (show ¬ (11 : Int32) < 8 by decide), if_neg (show ¬ (15 : Int32) < 11 by decide), hq, ep_sb]
    · rw [← hr]; rfl
  · exact ⟨_, fun m0 => congrArg some a3, fun c0 => rfl⟩
  · exact ⟨_, fun m0 => congrArg some b3, fun c0 => rfl⟩
  · exact ⟨_, fun m0 => congrArg some a2, fun c0 => rfl⟩
  · exact ⟨_, fun m0 => congrArg some b2, fun c0 => rfl⟩
  · exact ⟨_, fun m0 => congrArg some v2, fun c0 => rfl⟩
  · exact ⟨_, fun m0 => congrArg some d6, fun c0 => rfl⟩
  · exact ⟨_, fun m0 => congrArg some d7, fun c0 => rfl⟩
  · exact ⟨_, fun m0 => congrArg some v4, fun c0 => rfl⟩
  · exact ⟨_, fun m0 => congrArg some d8, fun c0 => rfl⟩
  · exact ⟨_, fun m0 => congrArg some v5, fun c0 => rfl⟩
  · exact ⟨_, fun m0 => congrArg some v6, fun c0 => rfl⟩
  · have ne : ∀ k : Nat, k ≤ 22 → ¬ p = nI k := by
      intro k hk z
      subst z
      rcases hz with z | z
      · exact nI_pos (by omega) z
      · exact nI_nlt (a := 22) hk (by omega) z
    have hz2 : p < 8 ∨ 15 < p := by
      rcases hz with z | z
      · left; rw [Int32.lt_iff_toInt_lt] at z ⊢; rw [show (8 : Int32).toInt = 8 by decide]; rw [show (0 : Int32).toInt = 0 by decide] at z; omega
      · right; rw [Int32.lt_iff_toInt_lt] at z ⊢; rw [show (15 : Int32).toInt = 15 by decide]; rw [show (22 : Int32).toInt = 22 by decide] at z; omega
    have n0 : ¬ p = 0 := ne 0 (by decide)
    have n1 : ¬ p = 1 := ne 1 (by decide)
    have n2 : ¬ p = 2 := ne 2 (by decide)
    have n3 : ¬ p = 3 := ne 3 (by decide)
    have n4 : ¬ p = 4 := ne 4 (by decide)
    have n5 : ¬ p = 5 := ne 5 (by decide)
    have n6 : ¬ p = 6 := ne 6 (by decide)
    have n7 : ¬ p = 7 := ne 7 (by decide)
    have n8 : ¬ p = 8 := ne 8 (by decide)
    have n9 : ¬ p = 9 := ne 9 (by decide)
    have n10 : ¬ p = 10 := ne 10 (by decide)
    have n11 : ¬ p = 11 := ne 11 (by decide)
    have n12 : ¬ p = 12 := ne 12 (by decide)
    have n13 : ¬ p = 13 := ne 13 (by decide)
    have n14 : ¬ p = 14 := ne 14 (by decide)
    have n15 : ¬ p = 15 := ne 15 (by decide)
    have n16 : ¬ p = 16 := ne 16 (by decide)
    have n17 : ¬ p = 17 := ne 17 (by decide)
    have n18 : ¬ p = 18 := ne 18 (by decide)
    have n19 : ¬ p = 19 := ne 19 (by decide)
    have n20 : ¬ p = 20 := ne 20 (by decide)
    have n21 : ¬ p = 21 := ne 21 (by decide)
    have n22 : ¬ p = 22 := ne 22 (by decide)
    refine ⟨-1, fun m0 => ?_, fun c0 => ?_⟩
    · show eF_11_count _ p = _
      unfold eF_11_count
      simp only [↓ep_J, n0, n1, n2, n3, n4, n5, n6, n7, n16, n17, n18, n19, n20, n21, n22, ↓reduceIte]
      rcases hz2 with z | z
      · rw [if_pos z]
      · by_cases z8 : p < 8
        · rw [if_pos z8]
        · rw [if_neg z8, if_pos z]
    · show eF_12_count_2 _ p = _
      unfold eF_12_count_2
      simp only [n0, n1, n2, n3, n4, n5, n6, n7, n8, n9, n10, n11, n12, n13, n14, n15, n16, n17, n18, n19, n20, n21, n22, ↓reduceIte]
