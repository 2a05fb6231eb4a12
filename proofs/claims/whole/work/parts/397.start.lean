/-! how it begins -/
theorem er_I {k j : Nat} (h : k < 41 ∨ 69 ≤ k ∨ j ≠ 0) : eb_I14 k j = 0 := by
  have u : ∀ (I : Nat → Nat → Int32) (a : Nat) (v : Int32), 41 ≤ a → a < 69 → I k j = 0 → eh_u2 I a 0 v k j = 0 := by
    intro I a v h1 h2 h3
    unfold eh_u2
    by_cases e : k = a
    · rw [if_pos e, ep_upd_ne (by omega), ← e]; exact h3
    · rw [if_neg e]; exact h3
  have h0 : eh_I0 k j = 0 := rfl
  exact u _ _ _ (by decide) (by decide) (u _ _ _ (by decide) (by decide) (u _ _ _ (by decide) (by decide) (u _ _ _ (by decide) (by decide) (u _ _ _ (by decide) (by decide) (u _ _ _ (by decide) (by decide) (u _ _ _ (by decide) (by decide) (u _ _ _ (by decide) (by decide) (u _ _ _ (by decide) (by decide) (u _ _ _ (by decide) (by decide) (u _ _ _ (by decide) (by decide) (u _ _ _ (by decide) (by decide) (u _ _ _ (by decide) (by decide) (u _ _ _ (by decide) (by decide) h0)))))))))))))
def er_cI : ep_C := (eb_I14, fun i h => if i < 2 then eb_I14 (41 + 2 * h + i) else if i < 4 then eb_I14 (45 + 2 * h + (i - 2)) else eb_I14 (69 + 9 * h + (i - 4)), eh_q0)
def er_mI : ep_M := (eb_I14, fun _ => 0)
theorem er_s0 : eb_s0 = ep_mk er_cI er_mI := by
  refine Prod.ext ?_ (Prod.ext ?_ rfl)
  · funext k
    show eb_I14 k = if k < 41 then eb_I14 k else if k < 45 then er_cI.2.1 ((k - 41) % 2) ((k - 41) / 2) else if k < 69 then er_cI.2.1 (2 + (k - 45) % 2) ((k - 45) / 2) else if k < 123 then er_cI.2.1 (4 + (k - 69) % 9) ((k - 69) / 9) else if k < 127 then eb_I14 k else eb_I14 k
    by_cases h1 : k < 41
    · rw [if_pos h1]
    rw [if_neg h1]
    by_cases h2 : k < 45
    · rw [if_pos h2]
      show _ = if (k - 41) % 2 < 2 then eb_I14 (41 + 2 * ((k - 41) / 2) + (k - 41) % 2) else _
      rw [if_pos (by omega)]; congr 1; omega
    rw [if_neg h2]
    by_cases h3 : k < 69
    · rw [if_pos h3]
      show _ = if 2 + (k - 45) % 2 < 2 then _ else if 2 + (k - 45) % 2 < 4 then eb_I14 (45 + 2 * ((k - 45) / 2) + (2 + (k - 45) % 2 - 2)) else _
      rw [if_neg (by omega), if_pos (by omega)]; congr 1; omega
    rw [if_neg h3]
    by_cases h4 : k < 123
    · rw [if_pos h4]
      show _ = if 4 + (k - 69) % 9 < 2 then _ else if 4 + (k - 69) % 9 < 4 then _ else eb_I14 (69 + 9 * ((k - 69) / 9) + (4 + (k - 69) % 9 - 4))
      rw [if_neg (by omega), if_neg (by omega)]; congr 1; omega
    rw [if_neg h4]
    split <;> rfl
  · funext k
    show (fun _ => (0 : Int64)) = if k = 190 then (fun _ => (0 : Int64)) else fun _ => 0
    split <;> rfl
def er_cz (c : ep_C) : ep_C := (fun a => if 123 ≤ a ∧ a < 196 then fun _ => 0 else c.1 a, c.2.1, eh_q0)
def er_mz : ep_M := (fun a => if 123 ≤ a ∧ a < 196 then fun _ => 0 else eb_I14 a, fun _ => 0)
theorem er_s1 (c : ep_C) : eb_s1 (ep_mk c er_mI) = ep_mk (er_cz c) er_mz := by
  refine Prod.ext ?_ (Prod.ext ?_ rfl)
  · funext k
    show (if 123 ≤ k ∧ k < 123 + 73 then fun _ => 0 else (ep_mk c er_mI).1 k) = (ep_mk (er_cz c) er_mz).1 k
    by_cases h : 123 ≤ k ∧ k < 123 + 73
    · rw [if_pos h]
      by_cases h5 : k < 127
      · rw [ep_rC2 _ _ _ h.1 h5]
        show _ = if 123 ≤ k ∧ k < 196 then (fun _ => (0 : Int32)) else _
        rw [if_pos h]
      · rw [ep_rM _ _ _ (by omega)]
        show _ = if 123 ≤ k ∧ k < 196 then (fun _ => (0 : Int32)) else _
        rw [if_pos h]
    · rw [if_neg h]
      by_cases h5 : 127 ≤ k
      · rw [ep_rM _ _ _ h5, ep_rM _ _ _ h5]
        show _ = if 123 ≤ k ∧ k < 196 then (fun _ => (0 : Int32)) else eb_I14 k
        rw [if_neg (by omega)]; rfl
      · have h6 : k < 123 := by omega
        simp only [ep_mk, h6, if_true, er_cz]
        by_cases h1 : k < 41
        · rw [if_pos h1, if_pos h1, if_neg (by omega)]
        · rw [if_neg h1, if_neg h1]
  · funext k
    show (if 123 ≤ k ∧ k < 123 + 73 then fun _ => (0 : Int64) else if k = 190 then (fun _ => (0 : Int64)) else fun _ => 0) = if k = 190 then (fun _ => (0 : Int64)) else fun _ => 0
    by_cases h : 123 ≤ k ∧ k < 123 + 73
    · rw [if_pos h]; split <;> rfl
    · rw [if_neg h]
theorem er_R_cz {N : Nat} {c : ep_C} {m : ep_M} (hR : ep_R N c m) : ep_R N (er_cz c) m := ⟨hR.1, hR.2.1, hR.2.2.1, hR.2.2.2.1, hR.2.2.2.2.1, hR.2.2.2.2.2.1, hR.2.2.2.2.2.2.1, hR.2.2.2.2.2.2.2.1, hR.2.2.2.2.2.2.2.2.1, hR.2.2.2.2.2.2.2.2.2.1, hR.2.2.2.2.2.2.2.2.2.2.1, hR.2.2.2.2.2.2.2.2.2.2.2.1, hR.2.2.2.2.2.2.2.2.2.2.2.2.1, hR.2.2.2.2.2.2.2.2.2.2.2.2.2.1, hR.2.2.2.2.2.2.2.2.2.2.2.2.2.2.1, hR.2.2.2.2.2.2.2.2.2.2.2.2.2.2.2.1, hR.2.2.2.2.2.2.2.2.2.2.2.2.2.2.2.2.1, hR.2.2.2.2.2.2.2.2.2.2.2.2.2.2.2.2.2.1, hR.2.2.2.2.2.2.2.2.2.2.2.2.2.2.2.2.2.2.1, hR.2.2.2.2.2.2.2.2.2.2.2.2.2.2.2.2.2.2.2.1, hR.2.2.2.2.2.2.2.2.2.2.2.2.2.2.2.2.2.2.2.2.1, hR.2.2.2.2.2.2.2.2.2.2.2.2.2.2.2.2.2.2.2.2.2.1, hR.2.2.2.2.2.2.2.2.2.2.2.2.2.2.2.2.2.2.2.2.2.2.1, hR.2.2.2.2.2.2.2.2.2.2.2.2.2.2.2.2.2.2.2.2.2.2.2.1, hR.2.2.2.2.2.2.2.2.2.2.2.2.2.2.2.2.2.2.2.2.2.2.2.2.1, hR.2.2.2.2.2.2.2.2.2.2.2.2.2.2.2.2.2.2.2.2.2.2.2.2.2.1, hR.2.2.2.2.2.2.2.2.2.2.2.2.2.2.2.2.2.2.2.2.2.2.2.2.2.2.1, hR.2.2.2.2.2.2.2.2.2.2.2.2.2.2.2.2.2.2.2.2.2.2.2.2.2.2.2.1, hR.2.2.2.2.2.2.2.2.2.2.2.2.2.2.2.2.2.2.2.2.2.2.2.2.2.2.2.2.1, hR.2.2.2.2.2.2.2.2.2.2.2.2.2.2.2.2.2.2.2.2.2.2.2.2.2.2.2.2.2.1, hR.2.2.2.2.2.2.2.2.2.2.2.2.2.2.2.2.2.2.2.2.2.2.2.2.2.2.2.2.2.2.1, hR.2.2.2.2.2.2.2.2.2.2.2.2.2.2.2.2.2.2.2.2.2.2.2.2.2.2.2.2.2.2.2.1, hR.2.2.2.2.2.2.2.2.2.2.2.2.2.2.2.2.2.2.2.2.2.2.2.2.2.2.2.2.2.2.2.2.1, hR.2.2.2.2.2.2.2.2.2.2.2.2.2.2.2.2.2.2.2.2.2.2.2.2.2.2.2.2.2.2.2.2.2⟩
theorem er_lw0 {b : Nat → Int32} (h : b = fun _ => 0) (o : Nat) : ep_lw b o = 0 := by
  subst h
  unfold ep_lw
  dsimp only
  decide
set_option maxHeartbeats 4000000 in
theorem er_begin (v : Int32) : ∃ s1 c m, eb_House v = some s1 ∧ eb_Model s1 v = some (ep_mk c m) ∧ ep_R 0 c m := by
  -- the class hashes the device's number
  obtain ⟨c1, n1, a1, -, k1, -, s1⟩ := ep_ssbegin er_cI er_mI
  obtain ⟨c2, n2, a2, -, k2, -, s2⟩ := ep_ssnum s1 ep_st0_ok (by decide) (by decide) v
  have hlen : (ep_puts ep_st0 ((List.range 4).map fun i => eh_shr v (nI (8 * i)))).2.2 = 4 := by rw [ep_puts_len, ep_numlen]; rfl
  have hok : ep_ok (ep_puts ep_st0 ((List.range 4).map fun i => eh_shr v (nI (8 * i)))) := ep_puts_ok _ ep_st0_ok (by rw [ep_numlen]; decide)
  obtain ⟨c3, n3, a3, -, k3, -⟩ := ep_ssend s2 hok (by rw [hlen]; decide) 37 194 32 0 (by decide) (by decide) (by decide) (by decide)
  -- the reference does so, in its last stream
  obtain ⟨H, B, W, L, b1, t1, -⟩ := ep_mbegin (m := er_mz) (e := 7) (by decide)
  obtain ⟨H2, B2, W2, L2, b2, t2, -⟩ := ep_maddNumber (m := ep_mS er_mz H B W L) (e := 7) (by decide) t1 ep_st0_ok (by decide) v
  obtain ⟨H3, B3, W3, L3, b3, -⟩ := ep_mfinish (m := ep_mS (ep_mS er_mz H B W L) H2 B2 W2 L2) (e := 7) (by decide) t2 hok (by rw [hlen]; decide) 185 32 0 (by decide) (by decide) (by decide) (by decide) (by decide) (by decide)
  generalize hst : ep_puts ep_st0 ((List.range 4).map fun i => eh_shr v (nI (8 * i))) = st at *
  generalize hm8 : ep_mL (ep_mS (ep_mS (ep_mS er_mz H B W L) H2 B2 W2 L2) H3 B3 W3 L3) 185 (ep_wr ((ep_mS (ep_mS er_mz H B W L) H2 B2 W2 L2).1 185) 0 (ep_fin st) 32) = m8 at *
  have K3 := ep_K_tr k1 (ep_K_tr k2 k3)
  have cc : ∀ k, k < 29 ∨ 32 < k → k < 35 ∨ 36 < k → k < 41 → k ≠ 37 → (ep_cL c3 37 (ep_w8 (c2.1 37) (ep_fin st) 8)).1 k = fun _ => 0 := by
    intro k h1 h2 h3 h4
    rw [ep_cLn _ _ _ _ h4, K3.2 k (by omega) (by omega) (by omega) (by omega) (by omega) (by omega) (by omega)]
    funext j
    exact er_I (Or.inl h3)
  have c37 : (ep_cL c3 37 (ep_w8 (c2.1 37) (ep_fin st) 8)).1 37 = ep_w8 (c2.1 37) (ep_fin st) 8 := ep_cL1 _ _ _
  have cf : (ep_cL c3 37 (ep_w8 (c2.1 37) (ep_fin st) 8)).2.1 = er_cI.2.1 := congrArg Prod.fst K3.1
  have mm : ∀ k, 127 ≤ k → k < 196 → k ≠ 185 → k ≠ 188 → k ≠ 189 → k ≠ 191 → m8.1 k = fun _ => 0 := by
    intro k h1 h2 h3 h4 h5 h6
    rw [← hm8, ep_mLn _ _ _ _ h3, ep_mSn _ _ _ _ _ _ h4 h5 h6, ep_mSn _ _ _ _ _ _ h4 h5 h6, ep_mSn _ _ _ _ _ _ h4 h5 h6]
    show (if 123 ≤ k ∧ k < 196 then fun _ => (0 : Int32) else _) = _
    rw [if_pos (by omega)]
  have m185 : m8.1 185 = ep_wr ((ep_mS (ep_mS er_mz H B W L) H2 B2 W2 L2).1 185) 0 (ep_fin st) 32 := by rw [← hm8]; exact ep_mL1 _ _ _
  have hB : er_B 0 (ep_cL c3 37 (ep_w8 (c2.1 37) (ep_fin st) 8)) m8 := by
    have fam : ∀ i h j, 1 ≤ j ∨ 4 ≤ i → er_cI.2.1 i h j = 0 := by
      intro i h j hj
      show (if i < 2 then eb_I14 (41 + 2 * h + i) else if i < 4 then eb_I14 (45 + 2 * h + (i - 2)) else eb_I14 (69 + 9 * h + (i - 4))) j = 0
      by_cases h1 : i < 2
      · rw [if_pos h1]; exact er_I (Or.inr (Or.inr (by omega)))
      · rw [if_neg h1]
        by_cases h2 : i < 4
        · rw [if_pos h2]; exact er_I (Or.inr (Or.inr (by omega)))
        · rw [if_neg h2]; exact er_I (Or.inr (Or.inl (by omega)))
    have fid2 : ∀ t, t < 12 → er_cI.2.1 2 t 0 = nI t := by
      intro t ht
      have : t = 0 ∨ t = 1 ∨ t = 2 ∨ t = 3 ∨ t = 4 ∨ t = 5 ∨ t = 6 ∨ t = 7 ∨ t = 8 ∨ t = 9 ∨ t = 10 ∨ t = 11 := by omega
      rcases this with rfl | rfl | rfl | rfl | rfl | rfl | rfl | rfl | rfl | rfl | rfl | rfl <;> rfl
    have fid0 : ∀ t, t < 2 → er_cI.2.1 0 t 0 = nI t := by
      intro t ht
      have : t = 0 ∨ t = 1 := by omega
      rcases this with rfl | rfl <;> rfl
    have al0 : ep_al 0 := by unfold ep_al; decide
    have bw0 : ∀ o, ep_bw (fun _ => 0) o = 0 := fun o => er_bw0 (fun _ _ => rfl)
    have lw0 : ∀ o, ep_lw (fun _ => 0) o = 0 := fun o => er_lw0 rfl o
    unfold er_B
    rw [c37, m185, cf]
    simp only [cc 1 (by decide) (by decide) (by decide) (by decide), cc 3 (by decide) (by decide) (by decide) (by decide), cc 4 (by decide) (by decide) (by decide) (by decide), cc 5 (by decide) (by decide) (by decide) (by decide), cc 6 (by decide) (by decide) (by decide) (by decide), cc 7 (by decide) (by decide) (by decide) (by decide), cc 8 (by decide) (by decide) (by decide) (by decide), cc 9 (by decide) (by decide) (by decide) (by decide), cc 13 (by decide) (by decide) (by decide) (by decide), cc 14 (by decide) (by decide) (by decide) (by decide), cc 15 (by decide) (by decide) (by decide) (by decide), cc 16 (by decide) (by decide) (by decide) (by decide), cc 17 (by decide) (by decide) (by decide) (by decide), cc 18 (by decide) (by decide) (by decide) (by decide), cc 19 (by decide) (by decide) (by decide) (by decide), cc 20 (by decide) (by decide) (by decide) (by decide), cc 21 (by decide) (by decide) (by decide) (by decide), cc 22 (by decide) (by decide) (by decide) (by decide), cc 23 (by decide) (by decide) (by decide) (by decide), cc 24 (by decide) (by decide) (by decide) (by decide), cc 25 (by decide) (by decide) (by decide) (by decide), cc 38 (by decide) (by decide) (by decide) (by decide), cc 39 (by decide) (by decide) (by decide) (by decide), cc 40 (by decide) (by decide) (by decide) (by decide), mm 127 (by decide) (by decide) (by decide) (by decide) (by decide) (by decide), mm 128 (by decide) (by decide) (by decide) (by decide) (by decide) (by decide), mm 130 (by decide) (by decide) (by decide) (by decide) (by decide) (by decide), mm 148 (by decide) (by decide) (by decide) (by decide) (by decide) (by decide), mm 149 (by decide) (by decide) (by decide) (by decide) (by decide) (by decide), mm 150 (by decide) (by decide) (by decide) (by decide) (by decide) (by decide), mm 151 (by decide) (by decide) (by decide) (by decide) (by decide) (by decide), mm 152 (by decide) (by decide) (by decide) (by decide) (by decide) (by decide), mm 153 (by decide) (by decide) (by decide) (by decide) (by decide) (by decide), mm 154 (by decide) (by decide) (by decide) (by decide) (by decide) (by decide), mm 155 (by decide) (by decide) (by decide) (by decide) (by decide) (by decide), mm 156 (by decide) (by decide) (by decide) (by decide) (by decide) (by decide), mm 157 (by decide) (by decide) (by decide) (by decide) (by decide) (by decide), mm 158 (by decide) (by decide) (by decide) (by decide) (by decide) (by decide), mm 159 (by decide) (by decide) (by decide) (by decide) (by decide) (by decide), mm 160 (by decide) (by decide) (by decide) (by decide) (by decide) (by decide), mm 161 (by decide) (by decide) (by decide) (by decide) (by decide) (by decide), mm 162 (by decide) (by decide) (by decide) (by decide) (by decide) (by decide), mm 163 (by decide) (by decide) (by decide) (by decide) (by decide) (by decide), mm 164 (by decide) (by decide) (by decide) (by decide) (by decide) (by decide), mm 165 (by decide) (by decide) (by decide) (by decide) (by decide) (by decide), mm 166 (by decide) (by decide) (by decide) (by decide) (by decide) (by decide), mm 167 (by decide) (by decide) (by decide) (by decide) (by decide) (by decide), mm 168 (by decide) (by decide) (by decide) (by decide) (by decide) (by decide), mm 169 (by decide) (by decide) (by decide) (by decide) (by decide) (by decide), mm 173 (by decide) (by decide) (by decide) (by decide) (by decide) (by decide), mm 174 (by decide) (by decide) (by decide) (by decide) (by decide) (by decide), mm 175 (by decide) (by decide) (by decide) (by decide) (by decide) (by decide), mm 176 (by decide) (by decide) (by decide) (by decide) (by decide) (by decide), mm 177 (by decide) (by decide) (by decide) (by decide) (by decide) (by decide), mm 178 (by decide) (by decide) (by decide) (by decide) (by decide) (by decide), mm 179 (by decide) (by decide) (by decide) (by decide) (by decide) (by decide), mm 180 (by decide) (by decide) (by decide) (by decide) (by decide) (by decide), mm 181 (by decide) (by decide) (by decide) (by decide) (by decide) (by decide), mm 182 (by decide) (by decide) (by decide) (by decide) (by decide) (by decide), mm 183 (by decide) (by decide) (by decide) (by decide) (by decide) (by decide), mm 184 (by decide) (by decide) (by decide) (by decide) (by decide) (by decide)]
    refine ⟨?_, ?_, (by simp), fid0, ?_, ?_, ?_, ?_, ?_, ?_, ?_, ⟨rfl, rfl, 0, Nat.le_refl _, rfl⟩, ?_, ep_Gd1_w, (by simp), ?_, ⟨rfl, rfl, 0, by decide, rfl⟩, ⟨rfl, rfl, 0, by decide, rfl⟩, ?_⟩
    · funext j; rw [lw0]
    · funext j; rw [lw0]
    · intro t ht
      refine ⟨fid2 t ht, ?_, ?_, ?_, ?_, ?_, ?_, ?_, ?_, ?_, ?_, ?_⟩ <;> exact fam _ _ _ (Or.inl (by decide))
    · exact fun t ht => ⟨al0, al0, Or.inl rfl, al0, al0⟩
    · intro e he
      refine ⟨?_, ?_, ?_, ?_, ?_, ?_, Or.inl rfl, Or.inl rfl, fun z => absurd (show (0 : Int32) = 1 from z) (by decide)⟩ <;> exact fam _ _ _ (Or.inl (by decide))
    · intro e he j hj
      rw [bw0, fam _ _ _ (Or.inr (by decide))]
    · intro e he j hj
      rw [bw0, fam _ _ _ (Or.inr (by decide))]
    · intro e he j hj
      rw [bw0, fam _ _ _ (Or.inr (by decide))]
    · intro e he j hj
      rw [bw0, fam _ _ _ (Or.inr (by decide))]
    · refine ⟨rfl, rfl, fun i _ => (bw0 _).symm, 0, by decide, rfl, fun i h => absurd h (Nat.not_lt_zero i), fun i i' h => absurd h (Nat.not_lt_zero i), fun j => rfl, fun j => rfl⟩
    · exact ⟨by funext j; show (0 : Int32) = 0 &&& 255; decide, rfl, 0, by decide, rfl⟩
    · exact ⟨by funext j; show (0 : Int32) = 0 &&& 255; decide, rfl, 0, by decide, rfl⟩
  obtain ⟨c', m', r1, r2, r3⟩ := er_restart hB 0
  refine ⟨ep_mk c' er_mI, er_cz c', m', ?_, ?_, er_R_cz r3⟩
  · unfold eb_House
    rw [er_s0, a1 er_mI, ep_sb, a2 er_mI, ep_sb, a3 er_mI, ep_sb, ep_wC1 _ _ _ _ (by decide), ep_rC1 _ _ 37 (by decide), r1 er_mI, ep_sb]
  · unfold eb_Model
    rw [er_s1]
    refine ep_bnd (b1 _) ?_
    refine ep_bnd (b2 _) ?_
    refine ep_bnd (b3 _) ?_
    rw [r2, ep_sb]
theorem er_cell (g : eh_P) (hn : eh_n g ≤ 449) (s : eh_F) : ∃ w, eF_13_cell g s 0 = some w := by
  unfold eF_13_cell
  rw [ep_J]
  by_cases y : (0 : Int32) < Int32.ofNat (eh_n g)
  · have : 0 < eh_n g := (nI_ltI (a := 0) (b := eh_n g) (by decide) (by omega)).mp y
    rw [if_pos y, if_pos (show eh_in 0 (eh_n g) = true from ep_in (i := 0) this (by omega))]
    exact ⟨_, rfl⟩
  · rw [if_neg y]
    exact ⟨_, rfl⟩
theorem eh_pure (g : eh_P) (hL : eh_n g ≤ 449) : ∃ s', eb_law g = some (1, s') := by
  obtain ⟨w, hw⟩ := er_cell g hL eb_d
  obtain ⟨s1, c, m, h1, h2, h3⟩ := er_begin w
  obtain ⟨s', h⟩ := er_lawL g hL 64 eh_FU 1 0 c m (by omega) (ep_FU _ (by decide)) (by decide) h3 (by decide) (by decide)
  refine ⟨s', ?_⟩
  unfold eb_law
  rw [hw, ep_sb, h1, ep_sb, ep_sb, ep_sb, h2, ep_sb, er_loop_eq]
  exact h
