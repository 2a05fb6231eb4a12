theorem ep_f012 {f : Nat} (hf : f < 8) (h3 : f ≠ 3) (h5 : ¬ 5 < f) : f = 0 ∨ f = 1 ∨ f = 2 ∨ f = 4 ∨ f = 5 := by omega
theorem ep_loadI {N : Nat} {c : ep_C} {m : ep_M} (hR : ep_R N c m) {h : Nat} {pc : Int32} (hQ : ep_Q c m h pc) {xi xj w : Nat} (hX : ep_X c m h xi xj w) (x : Int32) : ∃ c' m', (∀ m0, eF_7_load (ep_mk c m0) x = some (ep_mk c' m0)) ∧ (∀ c0, eF_12_loads (ep_mk c0 m) (nI h) x (nI (ep_ff x)) (nI (ep_fd x)) (m.1 129 (32 * w + ep_fa x) + eh_shr x 20) = some (ep_mk c0 m')) ∧ ep_D N c' m' h (m.1 144 h) := by
  have hf := ep_ff_l x
  generalize hl : m.1 129 (32 * w + ep_fa x) = l
  have e3 : (nI (ep_ff x) = 3) ↔ ep_ff x = 3 := nI_eq (b := 3) (by omega) (by decide)
  have e5 : (5 < nI (ep_ff x)) ↔ 5 < ep_ff x := nI_ltI (a := 5) (by decide) (by omega)
  by_cases hb : ep_ff x = 3 ∨ 5 < ep_ff x
  · obtain ⟨i1, i2, i3⟩ := ep_ill hR hQ x
    refine ⟨_, _, fun m0 => ?_, fun c0 => ?_, i3⟩
    · unfold eF_7_load
      rw [ep_V, ep_ff_c, ep_J]
      by_cases z : ep_ff x = 3
      · rw [if_pos (e3.mpr z)]; exact ep_bnd (i1 m0) rfl
      · rw [if_neg (fun y => z (e3.mp y)), if_pos (e5.mpr (hb.resolve_left z))]; exact ep_bnd (i1 m0) rfl
    · unfold eF_12_loads
      rw [ep_J]
      by_cases z : ep_ff x = 3
      · rw [if_pos (e3.mpr z)]; exact ep_bnd (i2 c0) rfl
      · rw [if_neg (fun y => z (e3.mp y)), if_pos (e5.mpr (hb.resolve_left z))]; exact ep_bnd (i2 c0) rfl
  · have n3 : ep_ff x ≠ 3 := fun z => hb (Or.inl z)
    have n5 : ¬ 5 < ep_ff x := fun z => hb (Or.inr z)
    obtain ⟨n, hn, hsh⟩ : ∃ n, ep_n124 n ∧ eh_shl 1 (nI (ep_ff x) &&& 3) = nI n ∧ n = 2 ^ (ep_ff x % 4) := by
      rcases ep_f012 hf n3 n5 with z | z | z | z | z <;> rw [z]
      · exact ⟨1, Or.inl rfl, by decide, rfl⟩
      · exact ⟨2, Or.inr (Or.inl rfl), by decide, rfl⟩
      · exact ⟨4, Or.inr (Or.inr rfl), by decide, rfl⟩
      · exact ⟨1, Or.inl rfl, by decide, rfl⟩
      · exact ⟨2, Or.inr (Or.inl rfl), by decide, rfl⟩
    have hcu : ∀ m0, eF_7_load (ep_mk c m0) x = Option.bind (eF_7_locate (ep_mk c m0) (l + eh_shr x 20) (nI n) (ep_acs 1)) (fun q9 => if q9.1 < 0 then (some q9.2) else (Option.bind (eF_6_wordAt q9.2 q9.1) (fun q11 => eh_V ((eh_ushr q11 (8 * (q9.1 &&& 3))) : Int32) (fun x12 => eh_J (fun (s14 : eh_F) => some s14) (fun j13 => eh_J (fun (u16 : Unit) => Option.bind (eF_7_put q9.2 x x12) (fun q17 => j13 q17)) (fun j15 => if nI (ep_ff x) = 0 then (Option.bind (eF_7_put q9.2 x (eh_nb x12)) (fun q20 => j13 q20)) else if nI (ep_ff x) = 1 then (Option.bind (eF_7_put q9.2 x (x12.toInt16.toInt32)) (fun q22 => j13 q22)) else if nI (ep_ff x) = 4 then (Option.bind (eF_7_put q9.2 x (x12 &&& 255)) (fun q24 => j13 q24)) else if nI (ep_ff x) = 5 then (Option.bind (eF_7_put q9.2 x (x12 &&& 65535)) (fun q26 => j13 q26)) else (j15 ()))))))) := by
      intro m0
      unfold eF_7_load
      rw [ep_V, ep_ff_c, ep_J, if_neg (fun y => n3 (e3.mp y)), if_neg (fun y => n5 (e5.mp y)), ep_left hX, ep_sb, hl, ep_V, hsh.1]
      rfl
    have hmu : ∀ c0, eF_12_loads (ep_mk c0 m) (nI h) x (nI (ep_ff x)) (nI (ep_fd x)) (l + eh_shr x 20) = Option.bind (eF_12_load (ep_mk c0 m) (nI h) (l + eh_shr x 20) (nI n) (ep_bi false)) (fun q6 => eh_J (fun (s8 : eh_F) => some s8) (fun j7 => if (q6.2.1 127 83) = (-1) then (eh_J (fun (a11 : Int32) => Option.bind (eF_12_set q6.2 (nI h) (nI (ep_fd x)) a11) (fun q12 => j7 q12)) (fun j10 => if nI (ep_ff x) = 0 then (j10 (eh_nb q6.1)) else (if nI (ep_ff x) = 1 then (j10 (q6.1.toInt16.toInt32)) else (j10 q6.1)))) else (j7 q6.2))) := by
      intro c0
      unfold eF_12_loads
      rw [ep_J, if_neg (fun y => n3 (e3.mp y)), if_neg (fun y => n5 (e5.mp y)), hsh.1]
      rfl
    rcases ep_mload hR hQ hn false (l + eh_shr x 20) with ⟨q, n', f, g, r, h1, h2, h3, h4⟩ | ⟨y, n', f, g, r, h1, h3, h4⟩
    · have hRm := ep_R_mg hR n' f g r
      have hQm := ep_Q_mg hQ n' f g r
      have hval := ep_ldval (m.1 128) q
      have hwd : ∀ m0, eF_6_wordAt (ep_mk c m0) (nI q) = some (ep_lw (m.1 128) (4 * (q / 4))) := fun m0 => by rw [ep_cwordAt c h1, show c.1 9 = _ from hR.1]
      have h8 : (8 : Int32) * (nI q &&& 3) = nI (8 * (q % 4)) := by rw [ep_and3 (by omega)]; exact ep_mul (b := 8) rfl rfl
      obtain ⟨v, hv1, hv2⟩ : ∃ v, (∀ (A : Int32 → Option eh_F), (if nI (ep_ff x) = 0 then A (eh_nb (eh_ushr (ep_lw (m.1 128) (4 * (q / 4))) (nI (8 * (q % 4))))) else if nI (ep_ff x) = 1 then A ((eh_ushr (ep_lw (m.1 128) (4 * (q / 4))) (nI (8 * (q % 4)))).toInt16.toInt32) else if nI (ep_ff x) = 4 then A (eh_ushr (ep_lw (m.1 128) (4 * (q / 4))) (nI (8 * (q % 4))) &&& 255) else if nI (ep_ff x) = 5 then A (eh_ushr (ep_lw (m.1 128) (4 * (q / 4))) (nI (8 * (q % 4))) &&& 65535) else A (eh_ushr (ep_lw (m.1 128) (4 * (q / 4))) (nI (8 * (q % 4))))) = A v) ∧ (∀ (A : Int32 → Option eh_F), (if nI (ep_ff x) = 0 then A (eh_nb (ep_ldv (m.1 128) q n)) else (if nI (ep_ff x) = 1 then A ((ep_ldv (m.1 128) q n).toInt16.toInt32) else A (ep_ldv (m.1 128) q n))) = A v) := by
        obtain ⟨v0, v1, v2, v4, v5⟩ := hval
        have hn2 := hsh.2
        rcases ep_f012 hf n3 n5 with z | z | z | z | z <;> rw [z] at hn2 ⊢ <;> simp only [Nat.reduceMod, Nat.reducePow] at hn2 <;> subst hn2
        · exact ⟨_, fun A => rfl, fun A => by rw [v0]; rfl⟩
        · exact ⟨_, fun A => rfl, fun A => by rw [v1 h2]; rfl⟩
        · exact ⟨_, fun A => rfl, fun A => by rw [v2 h2]; rfl⟩
        · exact ⟨_, fun A => rfl, fun A => by rw [v4]; rfl⟩
        · exact ⟨_, fun A => rfl, fun A => by rw [v5 h2]; rfl⟩
      obtain ⟨c', m', p1, p2, p3⟩ := ep_putD hRm hQm x v
      refine ⟨c', m', fun m0 => ?_, fun c0 => ?_, p3⟩
      · rw [hcu m0]
        refine ep_bnd (h3 m0) ?_
        rw [if_neg (nI_pos (by omega))]
        refine ep_bnd (hwd m0) ?_
        rw [ep_V, h8, ep_J, ep_J]
        refine (hv1 (fun v => Option.bind (eF_7_put (ep_mk c m0) x v) (fun q => some q))).trans ?_
        exact ep_bnd (p1 m0) rfl
      · rw [hmu c0]
        refine ep_bnd (h4 c0) ?_
        rw [ep_J, if_pos (show (ep_mk c0 (ep_mg m n' f g r)).1 127 83 = -1 from by rw [ep_rM _ _ _ (by decide)]; exact hQ.2.2.2.2.2.2.1), ep_J]
        refine (hv2 (fun v => Option.bind (eF_12_set (ep_mk c0 (ep_mg m n' f g r)) (nI h) (nI (ep_fd x)) v) (fun q => some q))).trans ?_
        exact ep_bnd (p2 c0) rfl
    · refine ⟨_, _, fun m0 => ?_, fun c0 => ?_, ep_D_F (ep_R_mg hR n' f g r) (ep_Q_mg hQ n' f g r) h1 (l + eh_shr x 20)⟩
      · rw [hcu m0]
        refine ep_bnd (h3 m0) ?_
        rw [if_pos (show (-1 : Int32) < 0 by decide)]
      · rw [hmu c0]
        refine ep_bnd (h4 c0) ?_
        rw [ep_J, if_neg (show ¬ (ep_mk c0 (ep_mF (ep_mg m n' f g r) y (l + eh_shr x 20))).1 127 83 = -1 from by rw [ep_rM _ _ _ (by decide)]; exact h1)]
/-! stores of whoever runs -/
theorem ep_keep {N : Nat} {c : ep_C} {m : ep_M} (hR : ep_R N c m) (hN : N < 2 ^ 28) {h : Nat} (hP : ep_Pr c m h) {q n : Nat} (hn : ep_n124 n) (hq : q % n = 0) (hq2 : q < 131072) (v : Int32) : ∃ c' m', (∀ m0, eF_7_keep (ep_mk c m0) (nI q) v (nI n) = some (ep_mk c' m0)) ∧ (∀ c0, eF_12_storeAt (ep_mk c0 m) (nI h) (nI q) (nI n) v = some (ep_mk c0 m')) ∧ ep_W (N + 1) c m c' m' := by
  obtain ⟨hh, hq4, hcase⟩ := hP
  rcases hcase with ⟨hr, h6, h7⟩ | ⟨t, e, ho, h6, h5, h7⟩
  · obtain ⟨c', m', h1, h2, h3⟩ := ep_store hR hh hr hn hq hq2 v
    refine ⟨c', m', fun m0 => ?_, h2, ⟨h3.1, h3.2.1, ep_R_mono h3.2.2 (by omega)⟩⟩
    unfold eF_7_keep
    rw [ep_J, ep_rC2 _ _ _ (by decide) (by decide), h6, if_pos rfl]
    exact ep_bnd (h1 m0) rfl
  · obtain ⟨c', m', h1, h2, h3⟩ := ep_storeFor hR hN ho hn hq hq2 v
    refine ⟨c', m', fun m0 => ?_, h2, h3⟩
    unfold eF_7_keep
    rw [ep_J, ep_rC2 _ _ _ (by decide) (by decide), h6, if_neg (by decide), ep_rQ, h5, if_pos (ep_okF ho.2.1)]
    exact ep_bnd (h1 m0) rfl
theorem ep_Pr_W {N : Nat} {c c' : ep_C} {m m' : ep_M} (hW : ep_W N c m c' m') {h : Nat} (hP : ep_Pr c m h) : ep_Pr c' m' h := by
  obtain ⟨⟨X, Y, f, v, rfl⟩, ⟨X', Y', f', v', rfl⟩, -⟩ := hW
  exact hP
theorem ep_Q_W {N : Nat} {c c' : ep_C} {m m' : ep_M} (hW : ep_W N c m c' m') {h : Nat} {pc : Int32} (hQ : ep_Q c m h pc) : ep_Q c' m' h pc := by
  obtain ⟨⟨X, Y, f, v, rfl⟩, ⟨X', Y', f', v', rfl⟩, -⟩ := hW
  exact hQ
theorem ep_R_W {N : Nat} {c c' : ep_C} {m m' : ep_M} (hW : ep_W N c m c' m') : ep_R N c' m' := hW.2.2
theorem ep_storeI {N : Nat} {c : ep_C} {m : ep_M} (hR : ep_R N c m) (hN : N < 2 ^ 28) {h : Nat} {pc : Int32} (hQ : ep_Q c m h pc) {xi xj w : Nat} (hX : ep_X c m h xi xj w) (x : Int32) : ∃ c' m', (∀ m0, eF_7_store (ep_mk c m0) x = some (ep_mk c' m0)) ∧ (∀ c0, (if 2 < nI (ep_ff x) then (Option.bind (eF_12_except (ep_mk c0 m) 2 x) (fun q24 => some q24)) else (Option.bind (eF_12_store (ep_mk c0 m) (nI h) (m.1 129 (32 * w + ep_fa x) + ((eh_shl (eh_shr x 25) 5) ||| nI (ep_fd x))) (eh_shl 1 (nI (ep_ff x))) (m.1 129 (32 * w + ep_fb x))) (fun q25 => some q25))) = some (ep_mk c0 m')) ∧ ep_D (N + 1) c' m' h (m.1 144 h) := by
  have hf := ep_ff_l x
  have hr2 := ep_right hX x
  generalize hl : m.1 129 (32 * w + ep_fa x) = l
  generalize hr : m.1 129 (32 * w + ep_fb x) = r at hr2
  have e2 : (2 < nI (ep_ff x)) ↔ 2 < ep_ff x := nI_ltI (a := 2) (by decide) (by omega)
  by_cases hb : 2 < ep_ff x
  · obtain ⟨i1, i2, i3⟩ := ep_ill hR hQ x
    refine ⟨_, _, fun m0 => ?_, fun c0 => ?_, ep_D_mono i3 (by omega)⟩
    · unfold eF_7_store
      rw [ep_V, ep_ff_c, if_pos (e2.mpr hb)]; exact ep_bnd (i1 m0) rfl
    · rw [if_pos (e2.mpr hb)]; exact ep_bnd (i2 c0) rfl
  · obtain ⟨n, hn, hsh⟩ : ∃ n, ep_n124 n ∧ eh_shl 1 (nI (ep_ff x)) = nI n := by
      have : ep_ff x = 0 ∨ ep_ff x = 1 ∨ ep_ff x = 2 := by omega
      rcases this with z | z | z <;> rw [z]
      · exact ⟨1, Or.inl rfl, by decide⟩
      · exact ⟨2, Or.inr (Or.inl rfl), by decide⟩
      · exact ⟨4, Or.inr (Or.inr rfl), by decide⟩
    generalize haddr : l + ((eh_shl (eh_shr x 25) 5) ||| nI (ep_fd x)) = addr
    have hnz : ¬ nI n = 0 := by rcases hn with rfl | rfl | rfl <;> decide
    have hrem := ep_rem124 addr hn
    have hcu : ∀ m0, eF_7_store (ep_mk c m0) x = Option.bind (eF_7_locate (ep_mk c m0) addr (nI n) (ep_acs 2)) (fun q6 => eh_J (fun (s8 : eh_F) => some s8) (fun j7 => if q6.1 < 0 then (j7 q6.2) else (Option.bind (eF_7_rightOf q6.2 x) (fun q10 => Option.bind (eF_7_keep q6.2 q6.1 q10 (nI n)) (fun q11 => j7 q11))))) := by
      intro m0
      unfold eF_7_store
      rw [ep_V, ep_ff_c, if_neg (fun y => hb (e2.mp y)), ep_left hX, ep_sb, hl, ep_V, ep_fd_c, haddr, hsh]
      rfl
    by_cases ha : ep_u addr % n = 0
    · rcases ep_locate hR hQ.1 hQ.2.2.2.2.2.2.1 (nc := n) (nm := n) (way := 2) (by decide) hn hn addr ha ha with ⟨q, n', f, g, r', h1, h2, h3, h4⟩ | ⟨y, n', f, g, r', h1, h3, h4⟩
      · obtain ⟨c', m', k1, k2, k3⟩ := ep_keep (ep_R_mg hR n' f g r') hN (show ep_Pr c (ep_mg m n' f g r') h from hQ.1) hn h2 h1 r
        refine ⟨c', m', fun m0 => ?_, fun c0 => ?_, ep_D_r (congrFun (ep_W_144 k3) h) (ep_D_id (ep_R_W k3) (ep_Q_W k3 (ep_Q_mg hQ n' f g r')))⟩
        · rw [hcu m0]
          refine ep_bnd (h3 m0) ?_
          rw [ep_J, if_neg (nI_pos (by omega))]
          refine ep_bnd (hr2 m0) ?_
          exact ep_bnd (k1 m0) rfl
        · rw [if_neg (fun y => hb (e2.mp y)), hsh]
          unfold eF_12_store
          rw [if_neg hnz, if_pos (hrem.mpr ha)]
          have : Option.bind (eF_12_locate (ep_mk c0 m) (nI h) addr (nI n) 2) (fun q3 => eh_J (fun (s5 : eh_F) => some s5) (fun j4 => if (q3.2.1 127 83) = (-1) then (Option.bind (eF_12_storeAt q3.2 (nI h) q3.1 (nI n) r) (fun q7 => j4 q7)) else (j4 q3.2))) = some (ep_mk c0 m') := by
            refine ep_bnd (h4 c0) ?_
            rw [ep_J, if_pos (show (ep_mk c0 (ep_mg m n' f g r')).1 127 83 = -1 from by rw [ep_rM _ _ _ (by decide)]; exact hQ.2.2.2.2.2.2.1)]
            exact ep_bnd (k2 c0) rfl
          exact ep_bnd this rfl
      · refine ⟨_, _, fun m0 => ?_, fun c0 => ?_, ep_D_mono (ep_D_F (ep_R_mg hR n' f g r') (ep_Q_mg hQ n' f g r') h1 addr) (by omega)⟩
        · rw [hcu m0]
          refine ep_bnd (h3 m0) ?_
          rw [ep_J, if_pos (show (-1 : Int32) < 0 by decide)]
        · rw [if_neg (fun y => hb (e2.mp y)), hsh]
          unfold eF_12_store
          rw [if_neg hnz, if_pos (hrem.mpr ha)]
          have : Option.bind (eF_12_locate (ep_mk c0 m) (nI h) addr (nI n) 2) (fun q3 => eh_J (fun (s5 : eh_F) => some s5) (fun j4 => if (q3.2.1 127 83) = (-1) then (Option.bind (eF_12_storeAt q3.2 (nI h) q3.1 (nI n) r) (fun q7 => j4 q7)) else (j4 q3.2))) = some (ep_mk c0 (ep_mF (ep_mg m n' f g r') y addr)) := by
            refine ep_bnd (h4 c0) ?_
            rw [ep_J, if_neg (show ¬ (ep_mk c0 (ep_mF (ep_mg m n' f g r') y addr)).1 127 83 = -1 from by rw [ep_rM _ _ _ (by decide)]; exact h1)]
          exact ep_bnd this rfl
    · have hmk : ¬ addr &&& (nI n - 1) = 0 := by
        rw [ep_mskn hn, show (0 : Int32) = nI 0 from rfl, nI_eq (by rcases hn with rfl | rfl | rfl <;> omega) (by decide)]
        exact ha
      refine ⟨_, _, fun m0 => ?_, fun c0 => ?_, ep_D_mono (ep_D_F hR hQ (x := 6) (by decide) addr) (by omega)⟩
      · rw [hcu m0]
        have : eF_7_locate (ep_mk c m0) addr (nI n) (ep_acs 2) = some (-1, ep_mk (ep_cF c 6 addr) m0) := by
          unfold eF_7_locate
          rw [if_neg hmk, ep_J, if_neg (show ¬ ep_acs 2 = 1 by decide)]
          exact ep_bnd (ep_cfail c 6 addr m0) rfl
        refine ep_bnd this ?_
        rw [ep_J, if_pos (show (-1 : Int32) < 0 by decide)]
      · rw [if_neg (fun y => hb (e2.mp y)), hsh]
        unfold eF_12_store
        rw [if_neg hnz, if_neg (fun z => ha (hrem.mp z)), ep_mexcept]
        rfl
