/-! scratch of both sides: hashing, texts, entries -/
def ep_K (c c' : ep_C) : Prop := c'.2 = c.2 ∧ ∀ k, k ≠ 29 → k ≠ 30 → k ≠ 31 → k ≠ 32 → k ≠ 35 → k ≠ 36 → k ≠ 126 → c'.1 k = c.1 k
def ep_L (m m' : ep_M) : Prop := (∀ k, k ≠ 127 → k ≠ 170 → k ≠ 171 → k ≠ 172 → k ≠ 188 → k ≠ 189 → k ≠ 191 → k ≠ 192 → k ≠ 193 → k ≠ 194 → k ≠ 195 → m'.1 k = m.1 k) ∧ (∀ j, j ≠ 48 → j ≠ 79 → m'.1 127 j = m.1 127 j) ∧ (∀ e st, e < 6 → ep_ok st → ep_Rm e (m.1 188) (m.1 189) m.2 st → ep_Rm e (m'.1 188) (m'.1 189) m'.2 st)
theorem ep_K_rf (c : ep_C) : ep_K c c := ⟨rfl, fun _ _ _ _ _ _ _ _ => rfl⟩
theorem ep_L_rf (m : ep_M) : ep_L m m := ⟨fun _ _ _ _ _ _ _ _ _ _ _ _ => rfl, fun _ _ _ => rfl, fun _ _ _ _ h => h⟩
theorem ep_K_tr {c c1 c2 : ep_C} (h1 : ep_K c c1) (h2 : ep_K c1 c2) : ep_K c c2 := ⟨h2.1.trans h1.1, fun k a b c d e f g => (h2.2 k a b c d e f g).trans (h1.2 k a b c d e f g)⟩
theorem ep_L_tr {m m1 m2 : ep_M} (h1 : ep_L m m1) (h2 : ep_L m1 m2) : ep_L m m2 := ⟨fun k a0 a1 a2 a3 a4 a5 a6 a7 a8 a9 a10 => (h2.1 k a0 a1 a2 a3 a4 a5 a6 a7 a8 a9 a10).trans (h1.1 k a0 a1 a2 a3 a4 a5 a6 a7 a8 a9 a10), fun j a b => (h2.2.1 j a b).trans (h1.2.1 j a b), fun e st he hok h => h2.2.2 e st he hok (h1.2.2 e st he hok h)⟩
theorem ep_K_eq {c c' : ep_C} (h : ep_K c c') : c' = (ep_uf (ep_uf (ep_uf (ep_uf (ep_uf (ep_uf (ep_uf c.1 29 (c'.1 29)) 30 (c'.1 30)) 31 (c'.1 31)) 32 (c'.1 32)) 35 (c'.1 35)) 36 (c'.1 36)) 126 (c'.1 126), c.2) := by
  refine Prod.ext ?_ h.1
  funext a
  simp only [ep_uf]
  by_cases h1 : a = 126
  · subst h1; rfl
  · by_cases h2 : a = 36
    · subst h2; rfl
    · by_cases h3 : a = 35
      · subst h3; rfl
      · by_cases h4 : a = 32
        · subst h4; rfl
        · by_cases h5 : a = 31
          · subst h5; rfl
          · by_cases h6 : a = 30
            · subst h6; rfl
            · by_cases h7 : a = 29
              · subst h7; rfl
              · simp only [h1, h2, h3, h4, h5, h6, h7, if_false]
                exact h.2 a h7 h6 h5 h4 h3 h2 h1
theorem ep_R_K {N : Nat} {c c' : ep_C} {m : ep_M} (hR : ep_R N c m) (h : ep_K c c') : ep_R N c' m := by
  rw [ep_K_eq h]
  exact ⟨hR.1, hR.2.1, hR.2.2.1, hR.2.2.2.1, hR.2.2.2.2.1, hR.2.2.2.2.2.1, hR.2.2.2.2.2.2.1, hR.2.2.2.2.2.2.2.1, hR.2.2.2.2.2.2.2.2.1, hR.2.2.2.2.2.2.2.2.2.1, hR.2.2.2.2.2.2.2.2.2.2.1, hR.2.2.2.2.2.2.2.2.2.2.2.1, hR.2.2.2.2.2.2.2.2.2.2.2.2.1, hR.2.2.2.2.2.2.2.2.2.2.2.2.2.1, hR.2.2.2.2.2.2.2.2.2.2.2.2.2.2.1, hR.2.2.2.2.2.2.2.2.2.2.2.2.2.2.2.1, hR.2.2.2.2.2.2.2.2.2.2.2.2.2.2.2.2.1, hR.2.2.2.2.2.2.2.2.2.2.2.2.2.2.2.2.2.1, hR.2.2.2.2.2.2.2.2.2.2.2.2.2.2.2.2.2.2.1, hR.2.2.2.2.2.2.2.2.2.2.2.2.2.2.2.2.2.2.2.1, hR.2.2.2.2.2.2.2.2.2.2.2.2.2.2.2.2.2.2.2.2.1, hR.2.2.2.2.2.2.2.2.2.2.2.2.2.2.2.2.2.2.2.2.2.1, hR.2.2.2.2.2.2.2.2.2.2.2.2.2.2.2.2.2.2.2.2.2.2.1, hR.2.2.2.2.2.2.2.2.2.2.2.2.2.2.2.2.2.2.2.2.2.2.2.1, hR.2.2.2.2.2.2.2.2.2.2.2.2.2.2.2.2.2.2.2.2.2.2.2.2.1, hR.2.2.2.2.2.2.2.2.2.2.2.2.2.2.2.2.2.2.2.2.2.2.2.2.2.1, hR.2.2.2.2.2.2.2.2.2.2.2.2.2.2.2.2.2.2.2.2.2.2.2.2.2.2.1, hR.2.2.2.2.2.2.2.2.2.2.2.2.2.2.2.2.2.2.2.2.2.2.2.2.2.2.2.1, hR.2.2.2.2.2.2.2.2.2.2.2.2.2.2.2.2.2.2.2.2.2.2.2.2.2.2.2.2.1, hR.2.2.2.2.2.2.2.2.2.2.2.2.2.2.2.2.2.2.2.2.2.2.2.2.2.2.2.2.2.1, hR.2.2.2.2.2.2.2.2.2.2.2.2.2.2.2.2.2.2.2.2.2.2.2.2.2.2.2.2.2.2.1, hR.2.2.2.2.2.2.2.2.2.2.2.2.2.2.2.2.2.2.2.2.2.2.2.2.2.2.2.2.2.2.2.1, hR.2.2.2.2.2.2.2.2.2.2.2.2.2.2.2.2.2.2.2.2.2.2.2.2.2.2.2.2.2.2.2.2.1, hR.2.2.2.2.2.2.2.2.2.2.2.2.2.2.2.2.2.2.2.2.2.2.2.2.2.2.2.2.2.2.2.2.2⟩
theorem ep_R_L {N : Nat} {c : ep_C} {m m' : ep_M} (hR : ep_R N c m) (h : ep_L m m') : ep_R N c m' := by
  obtain ⟨h1, h2, h3⟩ := h
  have e : m' = (ep_uf (ep_uf (ep_uf (ep_uf (ep_uf (ep_uf (ep_uf (ep_uf (ep_uf (ep_uf (ep_uf m.1 127 (m'.1 127)) 170 (m'.1 170)) 171 (m'.1 171)) 172 (m'.1 172)) 188 (m'.1 188)) 189 (m'.1 189)) 191 (m'.1 191)) 192 (m'.1 192)) 193 (m'.1 193)) 194 (m'.1 194)) 195 (m'.1 195), m'.2) := by
    refine Prod.ext ?_ rfl
    funext a
    simp only [ep_uf]
    by_cases g1 : a = 195
    · subst g1; rfl
    by_cases g2 : a = 194
    · subst g2; rfl
    by_cases g3 : a = 193
    · subst g3; rfl
    by_cases g4 : a = 192
    · subst g4; rfl
    by_cases g5 : a = 191
    · subst g5; rfl
    by_cases g6 : a = 189
    · subst g6; rfl
    by_cases g7 : a = 188
    · subst g7; rfl
    by_cases g8 : a = 172
    · subst g8; rfl
    by_cases g9 : a = 171
    · subst g9; rfl
    by_cases g10 : a = 170
    · subst g10; rfl
    by_cases g11 : a = 127
    · subst g11; rfl
    simp only [g1, g2, g3, g4, g5, g6, g7, g8, g9, g10, g11, if_false]
    exact h1 a g11 g10 g9 g8 g7 g6 g5 g4 g3 g2 g1
  rw [e]
  refine ⟨hR.1, hR.2.1, hR.2.2.1, hR.2.2.2.1, hR.2.2.2.2.1, hR.2.2.2.2.2.1, hR.2.2.2.2.2.2.1, hR.2.2.2.2.2.2.2.1, hR.2.2.2.2.2.2.2.2.1, hR.2.2.2.2.2.2.2.2.2.1, hR.2.2.2.2.2.2.2.2.2.2.1, hR.2.2.2.2.2.2.2.2.2.2.2.1, hR.2.2.2.2.2.2.2.2.2.2.2.2.1, hR.2.2.2.2.2.2.2.2.2.2.2.2.2.1, hR.2.2.2.2.2.2.2.2.2.2.2.2.2.2.1, hR.2.2.2.2.2.2.2.2.2.2.2.2.2.2.2.1, hR.2.2.2.2.2.2.2.2.2.2.2.2.2.2.2.2.1, hR.2.2.2.2.2.2.2.2.2.2.2.2.2.2.2.2.2.1, hR.2.2.2.2.2.2.2.2.2.2.2.2.2.2.2.2.2.2.1, hR.2.2.2.2.2.2.2.2.2.2.2.2.2.2.2.2.2.2.2.1, hR.2.2.2.2.2.2.2.2.2.2.2.2.2.2.2.2.2.2.2.2.1, hR.2.2.2.2.2.2.2.2.2.2.2.2.2.2.2.2.2.2.2.2.2.1, ?_, ?_, ?_, hR.2.2.2.2.2.2.2.2.2.2.2.2.2.2.2.2.2.2.2.2.2.2.2.2.2.1, hR.2.2.2.2.2.2.2.2.2.2.2.2.2.2.2.2.2.2.2.2.2.2.2.2.2.2.1, hR.2.2.2.2.2.2.2.2.2.2.2.2.2.2.2.2.2.2.2.2.2.2.2.2.2.2.2.1, ?_, hR.2.2.2.2.2.2.2.2.2.2.2.2.2.2.2.2.2.2.2.2.2.2.2.2.2.2.2.2.2.1, ?_, ?_, ?_, ?_⟩
  · intro e he hE
    obtain ⟨st, a, b, c', d, f⟩ := hR.2.2.2.2.2.2.2.2.2.2.2.2.2.2.2.2.2.2.2.2.2.2.1 e he hE
    exact ⟨st, a, b, c', d, h3 e st he a f⟩
  · show ep_Gev N (c.1 1 11) (m'.1 127 50) (c.1 38) (m.1 173)
    rw [h2 50 (by decide) (by decide)]; exact hR.2.2.2.2.2.2.2.2.2.2.2.2.2.2.2.2.2.2.2.2.2.2.2.1
  · show ep_Gcn N (c.1 1 12) (m'.1 127 70) (c.1 39) (c.1 40) (m.1 183) (m.1 184) (m.1 159)
    rw [h2 70 (by decide) (by decide)]; exact hR.2.2.2.2.2.2.2.2.2.2.2.2.2.2.2.2.2.2.2.2.2.2.2.2.1
  · show ep_Gdv (c.1 12) (m'.1 127) (c.1 1 10)
    unfold ep_Gdv
    rw [h2 20 (by decide) (by decide), h2 21 (by decide) (by decide), h2 22 (by decide) (by decide), h2 58 (by decide) (by decide), h2 59 (by decide) (by decide), h2 60 (by decide) (by decide), h2 67 (by decide) (by decide)]
    exact hR.2.2.2.2.2.2.2.2.2.2.2.2.2.2.2.2.2.2.2.2.2.2.2.2.2.2.2.2.1
  · show ep_Grb 1024 (c.1 18 1) (c.1 19) (m'.1 127 52) (m.1 174)
    rw [h2 52 (by decide) (by decide)]; exact hR.2.2.2.2.2.2.2.2.2.2.2.2.2.2.2.2.2.2.2.2.2.2.2.2.2.2.2.2.2.2.1
  · show ep_Gro 16 (c.1 20 1) (c.1 21) (m'.1 127 62) (m.1 180)
    rw [h2 62 (by decide) (by decide)]; exact hR.2.2.2.2.2.2.2.2.2.2.2.2.2.2.2.2.2.2.2.2.2.2.2.2.2.2.2.2.2.2.2.1
  · show ep_Gro 16 (c.1 22 1) (c.1 23) (m'.1 127 64) (m.1 181)
    rw [h2 64 (by decide) (by decide)]; exact hR.2.2.2.2.2.2.2.2.2.2.2.2.2.2.2.2.2.2.2.2.2.2.2.2.2.2.2.2.2.2.2.2.1
  · show ep_Grb 64 (c.1 24 1) (c.1 25) (m'.1 127 66) (m.1 182)
    rw [h2 66 (by decide) (by decide)]; exact hR.2.2.2.2.2.2.2.2.2.2.2.2.2.2.2.2.2.2.2.2.2.2.2.2.2.2.2.2.2.2.2.2.2
theorem ep_L_mS {m : ep_M} {H B W : Nat → Int32} {L : Nat → Int64} {e : Nat} (he : 6 ≤ e) (hO : ep_Oth e m H B L) : ep_L m (ep_mS m H B W L) :=
  ⟨fun k _ _ _ _ h1 h2 h3 _ _ _ _ => ep_mSn m H B W L k h1 h2 h3, fun j _ _ => rfl, fun e' st he' hok h => hO e' st (by omega) hok h⟩
theorem ep_L_mL {m : ep_M} {k : Nat} (f : Nat → Int32) (hk : k = 170 ∨ k = 171 ∨ k = 172 ∨ k = 191 ∨ k = 192 ∨ k = 193 ∨ k = 194 ∨ k = 195) : ep_L m (ep_mL m k f) := by
  refine ⟨fun a _ a1 a2 a3 a4 a5 a6 a7 a8 a9 a10 => ep_mLn m k a f (by omega), fun j _ _ => by rw [ep_mLn _ _ _ _ (by omega)], fun e st _ _ h => ?_⟩
  rw [ep_mLn _ _ _ _ (by omega), ep_mLn _ _ _ _ (by omega)]; exact h
theorem ep_L_79 {m : ep_M} (v : Int32) : ep_L m (ep_mI m 127 79 v) :=
  ⟨fun a a0 _ _ _ _ _ _ _ _ _ _ => ep_mIn m 127 a 79 v a0, fun j _ h => by rw [ep_mI1, ep_upd_ne h], fun _ _ _ _ h => h⟩
theorem ep_L_mg {m : ep_M} (n : Int32) (f g r : Nat → Int32) : ep_L m (ep_mg m n f g r) :=
  ⟨fun a a0 a1 a2 a3 _ _ _ _ _ _ _ => ep_mg_n m n f g r a a0 a1 a2 a3, fun j h _ => by show upd (m.1 127) 48 n j = _; rw [ep_upd_ne h], fun _ _ _ _ h => h⟩
/-! the house's own stream and the reference's sixth -/
def ep_s29 (c : ep_C) (n : Int32) (f g : Nat → Int32) : ep_C := ep_cL (ep_cL (ep_cI c 29 3 n) 30 f) 31 g
theorem ep_t3_29 (c : ep_C) (m0 : ep_M) (n : Int32) (f g : Nat → Int32) : ep_t3 (ep_mk c m0) 29 n f g = ep_mk (ep_s29 c n f g) m0 := by
  unfold ep_t3 ep_s29
  rw [ep_iC1 _ _ _ _ _ (by decide), ep_wC1 _ _ _ _ (by decide), ep_wC1 _ _ _ _ (by decide)]
theorem ep_K_29 (c : ep_C) (n : Int32) (f g : Nat → Int32) : ep_K c (ep_s29 c n f g) :=
  ⟨rfl, fun k a b d _ _ _ _ => by unfold ep_s29; rw [ep_cLn _ _ _ _ d, ep_cLn _ _ _ _ b, ep_cIn _ _ _ _ _ a]⟩
/-- both hold the same stream -/
def ep_SS (c : ep_C) (m : ep_M) (st : ep_St) : Prop := ep_Rc (c.1 30) (c.1 31) (c.1 29 3) st ∧ ep_Rm 6 (m.1 188) (m.1 189) m.2 st
theorem ep_r29 (c : ep_C) (m0 : ep_M) : (ep_mk c m0).1 (29 + 1) = c.1 30 ∧ (ep_mk c m0).1 (29 + 2) = c.1 31 ∧ (ep_mk c m0).1 29 3 = c.1 29 3 := ⟨ep_rC1 _ _ _ (by decide), ep_rC1 _ _ _ (by decide), by rw [ep_rC1 _ _ _ (by decide)]⟩
theorem ep_ssbegin (c : ep_C) (m : ep_M) : ∃ c' m', (∀ m0, eF_9_begin (ep_mk c m0) 29 = some (ep_mk c' m0)) ∧ (∀ c0, eF_12_begin (ep_mk c0 m) 6 = some (ep_mk c0 m')) ∧ ep_K c c' ∧ ep_L m m' ∧ ep_SS c' m' ep_st0 := by
  obtain ⟨f, f1, f2⟩ := ep_cbegin
  obtain ⟨H, B, W, L, a, b, d⟩ := ep_mbegin (m := m) (e := 6) (by decide)
  refine ⟨ep_s29 c 0 (f (c.1 30)) (c.1 31), ep_mS m H B W L, fun m0 => ?_, a, ep_K_29 _ _ _ _, ep_L_mS (by decide) d, f1 _ _, b⟩
  rw [f2, ep_t3_b, (ep_r29 c m0).1, (ep_r29 c m0).2.1, ep_t3_29]
theorem ep_ssnum {c : ep_C} {m : ep_M} {st : ep_St} (hS : ep_SS c m st) (hk : ep_ok st) (hal : st.2.2 % 4 = 0) (hn : st.2.2 + 4 < 2 ^ 28) (v : Int32) : ∃ c' m', (∀ m0, eF_9_feedNumber (ep_mk c m0) 29 v = some (ep_mk c' m0)) ∧ (∀ c0, eF_12_addNumber (ep_mk c0 m) 6 v = some (ep_mk c0 m')) ∧ ep_K c c' ∧ ep_L m m' ∧ ep_SS c' m' (ep_puts st ((List.range 4).map fun i => eh_shr v (nI (8 * i)))) := by
  obtain ⟨h', w', n', a, b⟩ := ep_cfeedNumber hS.1 hk hal hn v
  obtain ⟨H, B, W, L, p, q, r⟩ := ep_maddNumber (e := 6) (by decide) hS.2 hk hn v
  refine ⟨ep_s29 c n' h' w', ep_mS m H B W L, fun m0 => ?_, p, ep_K_29 _ _ _ _, ep_L_mS (by decide) r, a, q⟩
  rw [b _ 29 (ep_r29 c m0).1 (ep_r29 c m0).2.1 (ep_r29 c m0).2.2, ep_t3_29]
theorem ep_sswords {c : ep_C} {m : ep_M} {st : ep_St} (hS : ep_SS c m st) (hk : ep_ok st) (hal : st.2.2 % 4 = 0) (k : Nat) (hk0 : k < 1000) (hn : st.2.2 + 4 * k < 2 ^ 28) (p np pm npm off : Nat) (f : Nat → Int32) (hp : p ≠ 29 ∧ p ≠ 30 ∧ p ≠ 31) (hrd : ∀ m0, (ep_mk c m0).1 p = f) (hnp : k ≤ np ∧ np < 1000) (hpm : 127 ≤ pm ∧ pm ≠ 188 ∧ pm ≠ 189 ∧ pm ≠ 191) (hin : off + 4 * k ≤ npm) (hnpm : npm < 1000000) (hw : ∀ j, j < k → f j = ep_bw (m.1 pm) (off + 4 * j)) : ∃ c' m', (∀ m0, eF_9_feedWords (ep_mk c m0) 29 p np (nI k) = some (ep_mk c' m0)) ∧ (∀ c0, eF_12_addBytes (ep_mk c0 m) 6 pm npm (nI off) (nI (4 * k)) = some (ep_mk c0 m')) ∧ ep_K c c' ∧ ep_L m m' ∧ ep_SS c' m' (ep_puts st (ep_wds f k)) := by
  obtain ⟨h', w', n', a, b⟩ := ep_cfeedWords hS.1 hk hal f k hk0 hn
  obtain ⟨H, B, W, L, x, y, z⟩ := ep_maddBytes (e := 6) (by decide) hS.2 hk pm npm off (4 * k) hn hpm.1 hpm.2.1 hpm.2.2.1 hpm.2.2.2 hin hnpm
  refine ⟨ep_s29 c n' h' w', ep_mS m H B W L, fun m0 => ?_, x, ep_K_29 _ _ _ _, ep_L_mS (by decide) z, a, ?_⟩
  · rw [b _ 29 p np hp.1 hp.2.1 hp.2.2 hnp.1 hnp.2 (fun i hi => by rw [hrd]) (ep_r29 c m0).1 (ep_r29 c m0).2.1 (ep_r29 c m0).2.2, ep_t3_29]
  · have := ep_puts_bw (f := fun i => m.1 pm (off + i)) (g := f) k (fun j hj => by
      rw [hw j hj]; unfold ep_bw; simp only [Nat.add_assoc]) st
    rw [← this]; exact y
