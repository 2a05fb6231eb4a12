/-! a round's end -/
theorem er_carry {N : Nat} {c : ep_C} {m : ep_M} (hR : ep_R N c m) {n : Nat} (hn : n + 1 ≤ 4) (h7 : c.1 12 7 = nI (n + 1)) (K : eh_F → Option eh_F) : ∃ c' m', ep_R N c' m' ∧ c'.1 12 7 = nI (n + 1) ∧ m'.1 127 58 = nI (n + 1) ∧ (∀ m0, eF_0_carryOutFirst (ep_mk c m0) = some (ep_mk c' m0)) ∧ (∀ c0, Option.bind (eF_12_areOpen (ep_mk c0 m) ((ep_mk c0 m).1 178 0) 256) (fun q7 => Option.bind (eh_loop (ep_KM q7) eh_FU (0, ep_mk c0 m)) (fun (e9 : eh_F) => eh_V (eh_tI e9 127 59 ((e9.1 127 59) + 1)) (fun s10 => eh_J (fun (a12 : Int32) => eh_V (eh_tI s10 127 60 ((s10.1 127 60) + a12)) (fun s13 => K s13)) (fun j11 => if q7 = 0 then (j11 1) else (j11 0))))) = K (ep_mk c0 m')) := by
  obtain ⟨d0, d1, d2, d3, d4, d5, d6, d7, d8⟩ := hR.2.2.2.2.2.2.2.2.2.2.2.2.2.2.2.2.2.2.2.2.2.2.2.2.2.2.2.2.1
  obtain ⟨a1, a2, a3, a4, a5⟩ := hR.2.2.2.2.2.2.2.2.2.2.2.2.2.2.2.2.2.2.2.2.2.2.2.2.2.2.2.2.2.1
  obtain ⟨hb, ⟨y, hy, h2⟩, x, hx, h3⟩ := a5 (n + 1) 0 h7 hn (by omega)
  have c2 : c.1 15 0 = nI y := by rw [a2]; exact h2
  have c3 : c.1 16 0 = nI (4 * x) := by rw [a3]; exact h3
  have h58 : m.1 127 58 = nI (n + 1) := d5.symm.trans h7
  have hao : ∀ m0, eF_6_areOpen (ep_mk (ep_cI c 12 8 (c.1 12 8 + 1)) m0) (nI (4 * x)) 256 = some (ep_bi (ep_ao (m.1 164) (c.1 10) (4 * x) 256)) := fun m0 => ep_careOpen (c := ep_cI c 12 8 (c.1 12 8 + 1)) (m := ep_mI m 127 59 (m.1 127 59 + 1)) ⟨hR.1, hR.2.1, hR.2.2.1, hR.2.2.2.1, hR.2.2.2.2.1, hR.2.2.2.2.2.1, hR.2.2.2.2.2.2.1, hR.2.2.2.2.2.2.2.1, hR.2.2.2.2.2.2.2.2.1, hR.2.2.2.2.2.2.2.2.2.1, hR.2.2.2.2.2.2.2.2.2.2.1, hR.2.2.2.2.2.2.2.2.2.2.2.1, hR.2.2.2.2.2.2.2.2.2.2.2.2.1, hR.2.2.2.2.2.2.2.2.2.2.2.2.2.1, hR.2.2.2.2.2.2.2.2.2.2.2.2.2.2.1, hR.2.2.2.2.2.2.2.2.2.2.2.2.2.2.2.1, hR.2.2.2.2.2.2.2.2.2.2.2.2.2.2.2.2.1, hR.2.2.2.2.2.2.2.2.2.2.2.2.2.2.2.2.2.1, hR.2.2.2.2.2.2.2.2.2.2.2.2.2.2.2.2.2.2.1, hR.2.2.2.2.2.2.2.2.2.2.2.2.2.2.2.2.2.2.2.1, hR.2.2.2.2.2.2.2.2.2.2.2.2.2.2.2.2.2.2.2.2.1, hR.2.2.2.2.2.2.2.2.2.2.2.2.2.2.2.2.2.2.2.2.2.1, hR.2.2.2.2.2.2.2.2.2.2.2.2.2.2.2.2.2.2.2.2.2.2.1, hR.2.2.2.2.2.2.2.2.2.2.2.2.2.2.2.2.2.2.2.2.2.2.2.1, hR.2.2.2.2.2.2.2.2.2.2.2.2.2.2.2.2.2.2.2.2.2.2.2.2.1, hR.2.2.2.2.2.2.2.2.2.2.2.2.2.2.2.2.2.2.2.2.2.2.2.2.2.1, hR.2.2.2.2.2.2.2.2.2.2.2.2.2.2.2.2.2.2.2.2.2.2.2.2.2.2.1, hR.2.2.2.2.2.2.2.2.2.2.2.2.2.2.2.2.2.2.2.2.2.2.2.2.2.2.2.1, ⟨d0, d1, d2, d3, d4, d5, congrArg (· + 1) d6, d7, d8⟩, hR.2.2.2.2.2.2.2.2.2.2.2.2.2.2.2.2.2.2.2.2.2.2.2.2.2.2.2.2.2.1, hR.2.2.2.2.2.2.2.2.2.2.2.2.2.2.2.2.2.2.2.2.2.2.2.2.2.2.2.2.2.2.1, hR.2.2.2.2.2.2.2.2.2.2.2.2.2.2.2.2.2.2.2.2.2.2.2.2.2.2.2.2.2.2.2.1, hR.2.2.2.2.2.2.2.2.2.2.2.2.2.2.2.2.2.2.2.2.2.2.2.2.2.2.2.2.2.2.2.2.1, hR.2.2.2.2.2.2.2.2.2.2.2.2.2.2.2.2.2.2.2.2.2.2.2.2.2.2.2.2.2.2.2.2.2⟩ (a := 4 * x) (n := 256) (by decide) (by omega) m0
  have hmo : ∀ c0, eF_12_areOpen (ep_mk c0 m) (nI (4 * x)) 256 = some (ep_bi (ep_ao (m.1 164) (c.1 10) (4 * x) 256)) := fun c0 => ep_mareOpen hR (a := 4 * x) (n := 256) (by decide) (by omega) c0
  have hmul : (nI y * 64 : Int32) = nI (64 * y) := by rw [Int32.mul_comm]; exact ep_mul (b := 64) rfl rfl
  cases ho : ep_ao (m.1 164) (c.1 10) (4 * x) 256 with
  | false =>
    refine ⟨ep_cI (ep_cI c 12 8 (c.1 12 8 + 1)) 12 9 (c.1 12 9 + 1), ep_mI (ep_mI m 127 59 (m.1 127 59 + 1)) 127 60 (m.1 127 60 + 1), ⟨hR.1, hR.2.1, hR.2.2.1, hR.2.2.2.1, hR.2.2.2.2.1, hR.2.2.2.2.2.1, hR.2.2.2.2.2.2.1, hR.2.2.2.2.2.2.2.1, hR.2.2.2.2.2.2.2.2.1, hR.2.2.2.2.2.2.2.2.2.1, hR.2.2.2.2.2.2.2.2.2.2.1, hR.2.2.2.2.2.2.2.2.2.2.2.1, hR.2.2.2.2.2.2.2.2.2.2.2.2.1, hR.2.2.2.2.2.2.2.2.2.2.2.2.2.1, hR.2.2.2.2.2.2.2.2.2.2.2.2.2.2.1, hR.2.2.2.2.2.2.2.2.2.2.2.2.2.2.2.1, hR.2.2.2.2.2.2.2.2.2.2.2.2.2.2.2.2.1, hR.2.2.2.2.2.2.2.2.2.2.2.2.2.2.2.2.2.1, hR.2.2.2.2.2.2.2.2.2.2.2.2.2.2.2.2.2.2.1, hR.2.2.2.2.2.2.2.2.2.2.2.2.2.2.2.2.2.2.2.1, hR.2.2.2.2.2.2.2.2.2.2.2.2.2.2.2.2.2.2.2.2.1, hR.2.2.2.2.2.2.2.2.2.2.2.2.2.2.2.2.2.2.2.2.2.1, hR.2.2.2.2.2.2.2.2.2.2.2.2.2.2.2.2.2.2.2.2.2.2.1, hR.2.2.2.2.2.2.2.2.2.2.2.2.2.2.2.2.2.2.2.2.2.2.2.1, hR.2.2.2.2.2.2.2.2.2.2.2.2.2.2.2.2.2.2.2.2.2.2.2.2.1, hR.2.2.2.2.2.2.2.2.2.2.2.2.2.2.2.2.2.2.2.2.2.2.2.2.2.1, hR.2.2.2.2.2.2.2.2.2.2.2.2.2.2.2.2.2.2.2.2.2.2.2.2.2.2.1, hR.2.2.2.2.2.2.2.2.2.2.2.2.2.2.2.2.2.2.2.2.2.2.2.2.2.2.2.1, ⟨d0, d1, d2, d3, d4, d5, congrArg (· + 1) d6, congrArg (· + 1) d7, d8⟩, hR.2.2.2.2.2.2.2.2.2.2.2.2.2.2.2.2.2.2.2.2.2.2.2.2.2.2.2.2.2.1, hR.2.2.2.2.2.2.2.2.2.2.2.2.2.2.2.2.2.2.2.2.2.2.2.2.2.2.2.2.2.2.1, hR.2.2.2.2.2.2.2.2.2.2.2.2.2.2.2.2.2.2.2.2.2.2.2.2.2.2.2.2.2.2.2.1, hR.2.2.2.2.2.2.2.2.2.2.2.2.2.2.2.2.2.2.2.2.2.2.2.2.2.2.2.2.2.2.2.2.1, hR.2.2.2.2.2.2.2.2.2.2.2.2.2.2.2.2.2.2.2.2.2.2.2.2.2.2.2.2.2.2.2.2.2⟩, h7, h58, fun m0 => ?_, fun c0 => ?_⟩
    · unfold eF_0_carryOutFirst
      rw [ep_V, ep_V, ep_V, ep_iC1 _ _ _ _ _ (by decide), ep_rC1 _ _ 16 (by decide), c3, ep_rC1 _ _ 12 (by decide), hao m0, ep_sb, ho, if_pos ep_bf, ep_V, ep_iC1 _ _ _ _ _ (by decide)]
      rfl
    · rw [ep_rM _ _ 178 (by decide), h3, hmo c0, ep_sb, ho, show ep_bi false = 0 from rfl, ep_KMz, ep_sb, ep_V, ep_J, if_pos rfl]
      dsimp only
      rw [ep_V, ep_iM _ _ _ _ _ (by decide), ep_iM _ _ _ _ _ (by decide)]
      rfl
  | true =>
    rcases hb with hb | hb
    · have c1 : c.1 14 0 = 0 := by rw [a1]; exact hb
      refine ⟨ep_cin (ep_cI c 12 8 (c.1 12 8 + 1)) x y, ep_mI (ep_mI (ep_min_ m x y) 127 59 (m.1 127 59 + 1)) 127 60 (m.1 127 60 + 0), ?_, h7, h58, fun m0 => ?_, fun c0 => ?_⟩
      · refine ⟨?_, hR.2.1, hR.2.2.1, hR.2.2.2.1, ep_Gres_cp hR.2.2.2.2.1 hx, hR.2.2.2.2.2.1, hR.2.2.2.2.2.2.1, hR.2.2.2.2.2.2.2.1, hR.2.2.2.2.2.2.2.2.1, hR.2.2.2.2.2.2.2.2.2.1, hR.2.2.2.2.2.2.2.2.2.2.1, hR.2.2.2.2.2.2.2.2.2.2.2.1, hR.2.2.2.2.2.2.2.2.2.2.2.2.1, hR.2.2.2.2.2.2.2.2.2.2.2.2.2.1, hR.2.2.2.2.2.2.2.2.2.2.2.2.2.2.1, hR.2.2.2.2.2.2.2.2.2.2.2.2.2.2.2.1, hR.2.2.2.2.2.2.2.2.2.2.2.2.2.2.2.2.1, hR.2.2.2.2.2.2.2.2.2.2.2.2.2.2.2.2.2.1, hR.2.2.2.2.2.2.2.2.2.2.2.2.2.2.2.2.2.2.1, hR.2.2.2.2.2.2.2.2.2.2.2.2.2.2.2.2.2.2.2.1, hR.2.2.2.2.2.2.2.2.2.2.2.2.2.2.2.2.2.2.2.2.1, hR.2.2.2.2.2.2.2.2.2.2.2.2.2.2.2.2.2.2.2.2.2.1, hR.2.2.2.2.2.2.2.2.2.2.2.2.2.2.2.2.2.2.2.2.2.2.1, hR.2.2.2.2.2.2.2.2.2.2.2.2.2.2.2.2.2.2.2.2.2.2.2.1, hR.2.2.2.2.2.2.2.2.2.2.2.2.2.2.2.2.2.2.2.2.2.2.2.2.1, hR.2.2.2.2.2.2.2.2.2.2.2.2.2.2.2.2.2.2.2.2.2.2.2.2.2.1, hR.2.2.2.2.2.2.2.2.2.2.2.2.2.2.2.2.2.2.2.2.2.2.2.2.2.2.1, hR.2.2.2.2.2.2.2.2.2.2.2.2.2.2.2.2.2.2.2.2.2.2.2.2.2.2.2.1, ⟨d0, d1, d2, d3, d4, d5, congrArg (· + 1) d6, d7.trans (Int32.add_zero _).symm, d8⟩, hR.2.2.2.2.2.2.2.2.2.2.2.2.2.2.2.2.2.2.2.2.2.2.2.2.2.2.2.2.2.1, hR.2.2.2.2.2.2.2.2.2.2.2.2.2.2.2.2.2.2.2.2.2.2.2.2.2.2.2.2.2.2.1, hR.2.2.2.2.2.2.2.2.2.2.2.2.2.2.2.2.2.2.2.2.2.2.2.2.2.2.2.2.2.2.2.1, hR.2.2.2.2.2.2.2.2.2.2.2.2.2.2.2.2.2.2.2.2.2.2.2.2.2.2.2.2.2.2.2.2.1, hR.2.2.2.2.2.2.2.2.2.2.2.2.2.2.2.2.2.2.2.2.2.2.2.2.2.2.2.2.2.2.2.2.2⟩
        have := ep_Gm_cp hR.1 hR.2.1 x (64 * y) (v := fun z => eh_nb (eh_nb z)) ep_nbnb
        rw [show 4 * (64 * y) = 256 * y by omega] at this
        exact this
      · unfold eF_0_carryOutFirst
        rw [ep_V, ep_V, ep_V, ep_iC1 _ _ _ _ _ (by decide), ep_rC1 _ _ 16 (by decide), c3, ep_rC1 _ _ 12 (by decide), hao m0, ep_sb, ho, if_neg ep_bt, ep_rC1 _ _ 15 (by decide), c2, hmul]
        exact ep_bnd (ep_KB0 (ep_cI c 12 8 (c.1 12 8 + 1)) m0 hx hy c1) rfl
      · rw [ep_rM _ _ 178 (by decide), h3, hmo c0, ep_sb, ho, ep_KM0 m c0 hx hy hb h2 h3 ep_bt, ep_sb, ep_V, ep_J, if_neg ep_bt]
        dsimp only
        rw [ep_V, ep_iM _ _ _ _ _ (by decide), ep_iM _ _ _ _ _ (by decide)]
        rfl
    · have c1 : c.1 14 0 = 1 := by rw [a1]; exact hb
      refine ⟨ep_cout (ep_cI c 12 8 (c.1 12 8 + 1)) x y, ep_mI (ep_mI (ep_mout m x y) 127 59 (m.1 127 59 + 1)) 127 60 (m.1 127 60 + 0), ?_, h7, h58, fun m0 => ?_, fun c0 => ?_⟩
      · refine ⟨hR.1, ?_, hR.2.2.1, hR.2.2.2.1, hR.2.2.2.2.1, hR.2.2.2.2.2.1, hR.2.2.2.2.2.2.1, hR.2.2.2.2.2.2.2.1, hR.2.2.2.2.2.2.2.2.1, hR.2.2.2.2.2.2.2.2.2.1, hR.2.2.2.2.2.2.2.2.2.2.1, hR.2.2.2.2.2.2.2.2.2.2.2.1, hR.2.2.2.2.2.2.2.2.2.2.2.2.1, hR.2.2.2.2.2.2.2.2.2.2.2.2.2.1, hR.2.2.2.2.2.2.2.2.2.2.2.2.2.2.1, hR.2.2.2.2.2.2.2.2.2.2.2.2.2.2.2.1, hR.2.2.2.2.2.2.2.2.2.2.2.2.2.2.2.2.1, hR.2.2.2.2.2.2.2.2.2.2.2.2.2.2.2.2.2.1, hR.2.2.2.2.2.2.2.2.2.2.2.2.2.2.2.2.2.2.1, hR.2.2.2.2.2.2.2.2.2.2.2.2.2.2.2.2.2.2.2.1, hR.2.2.2.2.2.2.2.2.2.2.2.2.2.2.2.2.2.2.2.2.1, hR.2.2.2.2.2.2.2.2.2.2.2.2.2.2.2.2.2.2.2.2.2.1, hR.2.2.2.2.2.2.2.2.2.2.2.2.2.2.2.2.2.2.2.2.2.2.1, hR.2.2.2.2.2.2.2.2.2.2.2.2.2.2.2.2.2.2.2.2.2.2.2.1, hR.2.2.2.2.2.2.2.2.2.2.2.2.2.2.2.2.2.2.2.2.2.2.2.2.1, hR.2.2.2.2.2.2.2.2.2.2.2.2.2.2.2.2.2.2.2.2.2.2.2.2.2.1, hR.2.2.2.2.2.2.2.2.2.2.2.2.2.2.2.2.2.2.2.2.2.2.2.2.2.2.1, hR.2.2.2.2.2.2.2.2.2.2.2.2.2.2.2.2.2.2.2.2.2.2.2.2.2.2.2.1, ⟨d0, d1, d2, d3, d4, d5, congrArg (· + 1) d6, d7.trans (Int32.add_zero _).symm, d8⟩, hR.2.2.2.2.2.2.2.2.2.2.2.2.2.2.2.2.2.2.2.2.2.2.2.2.2.2.2.2.2.1, hR.2.2.2.2.2.2.2.2.2.2.2.2.2.2.2.2.2.2.2.2.2.2.2.2.2.2.2.2.2.2.1, hR.2.2.2.2.2.2.2.2.2.2.2.2.2.2.2.2.2.2.2.2.2.2.2.2.2.2.2.2.2.2.2.1, hR.2.2.2.2.2.2.2.2.2.2.2.2.2.2.2.2.2.2.2.2.2.2.2.2.2.2.2.2.2.2.2.2.1, hR.2.2.2.2.2.2.2.2.2.2.2.2.2.2.2.2.2.2.2.2.2.2.2.2.2.2.2.2.2.2.2.2.2⟩
        have := ep_Gm_cp hR.2.1 hR.1 (64 * y) x (v := fun z => eh_nb z) ep_nb255
        rw [show 4 * (64 * y) = 256 * y by omega] at this
        exact this
      · unfold eF_0_carryOutFirst
        rw [ep_V, ep_V, ep_V, ep_iC1 _ _ _ _ _ (by decide), ep_rC1 _ _ 16 (by decide), c3, ep_rC1 _ _ 12 (by decide), hao m0, ep_sb, ho, if_neg ep_bt, ep_rC1 _ _ 15 (by decide), c2, hmul]
        exact ep_bnd (ep_KB1 (ep_cI c 12 8 (c.1 12 8 + 1)) m0 hx hy c1) rfl
      · rw [ep_rM _ _ 178 (by decide), h3, hmo c0, ep_sb, ho, ep_KM1 m c0 hx hy hb h2 h3 ep_bt, ep_sb, ep_V, ep_J, if_neg ep_bt]
        dsimp only
        rw [ep_V, ep_iM _ _ _ _ _ (by decide), ep_iM _ _ _ _ _ (by decide)]
        rfl
theorem er_time {N : Nat} {c : ep_C} {m : ep_M} (hR : ep_R N c m) : ep_R N (ep_cI c 12 0 (c.1 12 0 + 1)) (ep_mI m 127 20 (m.1 127 20 + 1)) := by
  obtain ⟨d0, d1⟩ := hR.2.2.2.2.2.2.2.2.2.2.2.2.2.2.2.2.2.2.2.2.2.2.2.2.2.2.2.2.1
  exact ⟨hR.1, hR.2.1, hR.2.2.1, hR.2.2.2.1, hR.2.2.2.2.1, hR.2.2.2.2.2.1, hR.2.2.2.2.2.2.1, hR.2.2.2.2.2.2.2.1, hR.2.2.2.2.2.2.2.2.1, hR.2.2.2.2.2.2.2.2.2.1, hR.2.2.2.2.2.2.2.2.2.2.1, hR.2.2.2.2.2.2.2.2.2.2.2.1, hR.2.2.2.2.2.2.2.2.2.2.2.2.1, hR.2.2.2.2.2.2.2.2.2.2.2.2.2.1, hR.2.2.2.2.2.2.2.2.2.2.2.2.2.2.1, hR.2.2.2.2.2.2.2.2.2.2.2.2.2.2.2.1, hR.2.2.2.2.2.2.2.2.2.2.2.2.2.2.2.2.1, hR.2.2.2.2.2.2.2.2.2.2.2.2.2.2.2.2.2.1, hR.2.2.2.2.2.2.2.2.2.2.2.2.2.2.2.2.2.2.1, hR.2.2.2.2.2.2.2.2.2.2.2.2.2.2.2.2.2.2.2.1, hR.2.2.2.2.2.2.2.2.2.2.2.2.2.2.2.2.2.2.2.2.1, hR.2.2.2.2.2.2.2.2.2.2.2.2.2.2.2.2.2.2.2.2.2.1, hR.2.2.2.2.2.2.2.2.2.2.2.2.2.2.2.2.2.2.2.2.2.2.1, hR.2.2.2.2.2.2.2.2.2.2.2.2.2.2.2.2.2.2.2.2.2.2.2.1, hR.2.2.2.2.2.2.2.2.2.2.2.2.2.2.2.2.2.2.2.2.2.2.2.2.1, hR.2.2.2.2.2.2.2.2.2.2.2.2.2.2.2.2.2.2.2.2.2.2.2.2.2.1, hR.2.2.2.2.2.2.2.2.2.2.2.2.2.2.2.2.2.2.2.2.2.2.2.2.2.2.1, hR.2.2.2.2.2.2.2.2.2.2.2.2.2.2.2.2.2.2.2.2.2.2.2.2.2.2.2.1, ⟨congrArg (· + 1) d0, d1⟩, hR.2.2.2.2.2.2.2.2.2.2.2.2.2.2.2.2.2.2.2.2.2.2.2.2.2.2.2.2.2.1, hR.2.2.2.2.2.2.2.2.2.2.2.2.2.2.2.2.2.2.2.2.2.2.2.2.2.2.2.2.2.2.1, hR.2.2.2.2.2.2.2.2.2.2.2.2.2.2.2.2.2.2.2.2.2.2.2.2.2.2.2.2.2.2.2.1, hR.2.2.2.2.2.2.2.2.2.2.2.2.2.2.2.2.2.2.2.2.2.2.2.2.2.2.2.2.2.2.2.2.1, hR.2.2.2.2.2.2.2.2.2.2.2.2.2.2.2.2.2.2.2.2.2.2.2.2.2.2.2.2.2.2.2.2.2⟩
theorem er_ages {N : Nat} {c : ep_C} {m : ep_M} (hR : ep_R N c m) (n : Nat) : ep_R N (ep_cL c 17 (ep_in_ (c.1 17) 0 n fun j => c.1 17 j + 1)) (ep_mL m 179 (ep_in_ (m.1 179) 0 n fun j => m.1 179 j + 1)) := by
  obtain ⟨a1, a2, a3, a4, a5⟩ := hR.2.2.2.2.2.2.2.2.2.2.2.2.2.2.2.2.2.2.2.2.2.2.2.2.2.2.2.2.2.1
  refine ⟨hR.1, hR.2.1, hR.2.2.1, hR.2.2.2.1, hR.2.2.2.2.1, hR.2.2.2.2.2.1, hR.2.2.2.2.2.2.1, hR.2.2.2.2.2.2.2.1, hR.2.2.2.2.2.2.2.2.1, hR.2.2.2.2.2.2.2.2.2.1, hR.2.2.2.2.2.2.2.2.2.2.1, hR.2.2.2.2.2.2.2.2.2.2.2.1, hR.2.2.2.2.2.2.2.2.2.2.2.2.1, hR.2.2.2.2.2.2.2.2.2.2.2.2.2.1, hR.2.2.2.2.2.2.2.2.2.2.2.2.2.2.1, hR.2.2.2.2.2.2.2.2.2.2.2.2.2.2.2.1, hR.2.2.2.2.2.2.2.2.2.2.2.2.2.2.2.2.1, hR.2.2.2.2.2.2.2.2.2.2.2.2.2.2.2.2.2.1, hR.2.2.2.2.2.2.2.2.2.2.2.2.2.2.2.2.2.2.1, hR.2.2.2.2.2.2.2.2.2.2.2.2.2.2.2.2.2.2.2.1, hR.2.2.2.2.2.2.2.2.2.2.2.2.2.2.2.2.2.2.2.2.1, hR.2.2.2.2.2.2.2.2.2.2.2.2.2.2.2.2.2.2.2.2.2.1, hR.2.2.2.2.2.2.2.2.2.2.2.2.2.2.2.2.2.2.2.2.2.2.1, hR.2.2.2.2.2.2.2.2.2.2.2.2.2.2.2.2.2.2.2.2.2.2.2.1, hR.2.2.2.2.2.2.2.2.2.2.2.2.2.2.2.2.2.2.2.2.2.2.2.2.1, hR.2.2.2.2.2.2.2.2.2.2.2.2.2.2.2.2.2.2.2.2.2.2.2.2.2.1, hR.2.2.2.2.2.2.2.2.2.2.2.2.2.2.2.2.2.2.2.2.2.2.2.2.2.2.1, hR.2.2.2.2.2.2.2.2.2.2.2.2.2.2.2.2.2.2.2.2.2.2.2.2.2.2.2.1, hR.2.2.2.2.2.2.2.2.2.2.2.2.2.2.2.2.2.2.2.2.2.2.2.2.2.2.2.2.1, ⟨a1, a2, a3, ?_, a5⟩, hR.2.2.2.2.2.2.2.2.2.2.2.2.2.2.2.2.2.2.2.2.2.2.2.2.2.2.2.2.2.2.1, hR.2.2.2.2.2.2.2.2.2.2.2.2.2.2.2.2.2.2.2.2.2.2.2.2.2.2.2.2.2.2.2.1, hR.2.2.2.2.2.2.2.2.2.2.2.2.2.2.2.2.2.2.2.2.2.2.2.2.2.2.2.2.2.2.2.2.1, hR.2.2.2.2.2.2.2.2.2.2.2.2.2.2.2.2.2.2.2.2.2.2.2.2.2.2.2.2.2.2.2.2.2⟩
  rw [ep_cL1, ep_mL1, a4]
theorem er_round {N : Nat} {c : ep_C} {m : ep_M} (hR : ep_R N c m) : ∃ c' m', (∀ m0, eF_0_endRound (ep_mk c m0) = some (ep_mk c' m0)) ∧ (∀ c0, eF_12_device (ep_mk c0 m) = some (ep_mk c0 m')) ∧ ep_R N c' (ep_mI m' 127 20 (m'.1 127 20 + 1)) := by
  obtain ⟨d0, d1, d2, d3, d4, d5, d6, d7, d8, d9, n, hn, h7⟩ := hR.2.2.2.2.2.2.2.2.2.2.2.2.2.2.2.2.2.2.2.2.2.2.2.2.2.2.2.2.1
  have h58 : m.1 127 58 = nI n := d5.symm.trans h7
  have a4 : c.1 17 = m.1 179 := hR.2.2.2.2.2.2.2.2.2.2.2.2.2.2.2.2.2.2.2.2.2.2.2.2.2.2.2.2.2.1.2.2.2.1
  have hR1 := er_ages hR n
  have e0 : ep_in_ (c.1 17) 0 n (fun j => c.1 17 j + 1) 0 = ep_in_ (m.1 179) 0 n (fun j => m.1 179 j + 1) 0 := by rw [a4]
  revert hR1 e0
  generalize hc1 : ep_cL c 17 (ep_in_ (c.1 17) 0 n fun j => c.1 17 j + 1) = c1
  generalize hm1 : ep_mL m 179 (ep_in_ (m.1 179) 0 n fun j => m.1 179 j + 1) = m1
  intro hR1 e0
  have g7 : c1.1 12 7 = nI n := by rw [← hc1]; exact h7
  have g58 : m1.1 127 58 = nI n := by rw [← hm1]; exact h58
  have g17 : c1.1 17 0 = m1.1 179 0 := by rw [← hc1, ← hm1]; exact e0
  have hC : ∀ m0, eF_0_endRound (ep_mk c m0) = eh_J (fun (s4 : eh_F) => eh_V (eh_tI s4 12 0 ((s4.1 12 0) + 1)) (fun s5 => some s5)) (fun j3 => if 0 < ((ep_mk c1 m0).1 12 7) then (if ((ep_mk c1 m0).1 17 0) < 5 then (j3 (ep_mk c1 m0)) else (Option.bind (eF_0_carryOutFirst (ep_mk c1 m0)) (fun q8 => Option.bind (eF_0_dropFirst q8) (fun q9 => j3 q9)))) else (j3 (ep_mk c1 m0))) := by
    intro m0
    unfold eF_0_endRound
    rw [ep_cages c m0 hn h7, ep_sb, hc1]
  have hM : ∀ c0, eF_12_device (ep_mk c0 m) = eh_J (fun (u4 : Unit) => some (ep_mk c0 m1)) (fun j3 => if ((ep_mk c0 m1).1 127 58) = 0 then (j3 ()) else (if ((ep_mk c0 m1).1 179 0) < 5 then (j3 ()) else (Option.bind (eF_12_areOpen (ep_mk c0 m1) ((ep_mk c0 m1).1 178 0) 256) (fun q7 => Option.bind (eh_loop (ep_KM q7) eh_FU (0, ep_mk c0 m1)) (fun (e9 : eh_F) => eh_V (eh_tI e9 127 59 ((e9.1 127 59) + 1)) (fun s10 => eh_J (fun (a12 : Int32) => eh_V (eh_tI s10 127 60 ((s10.1 127 60) + a12)) (fun s13 => eh_V (eh_tI s13 127 58 ((s13.1 127 58) - 1)) (fun s14 => Option.bind (eh_loop (fun (r18 : (Int32 × eh_F) → Option (eh_F)) (t15 : Int32 × eh_F) => if t15.1 < (t15.2.1 127 58) then (if eh_in (t15.1 + 1) 4 then if eh_in t15.1 4 then eh_V (eh_tI t15.2 176 (eh_ix t15.1) (t15.2.1 176 (eh_ix (t15.1 + 1)))) (fun s20 => if eh_in (t15.1 + 1) 4 then if eh_in t15.1 4 then eh_V (eh_tI s20 177 (eh_ix t15.1) (s20.1 177 (eh_ix (t15.1 + 1)))) (fun s21 => if eh_in (t15.1 + 1) 4 then if eh_in t15.1 4 then eh_V (eh_tI s21 178 (eh_ix t15.1) (s21.1 178 (eh_ix (t15.1 + 1)))) (fun s22 => if eh_in (t15.1 + 1) 4 then if eh_in t15.1 4 then eh_V (eh_tI s22 179 (eh_ix t15.1) (s22.1 179 (eh_ix (t15.1 + 1)))) (fun s23 => eh_V ((t15.1 + 1) : Int32) (fun x24 => r18 (x24, s23))) else none else none) else none else none) else none else none) else none else none) else (some t15.2)) eh_FU (0, s14)) (fun (e16 : eh_F) => some e16)))) (fun j11 => if q7 = 0 then (j11 1) else (j11 0)))))))) := by
    intro c0
    unfold eF_12_device
    rw [ep_mages m c0 hn h58, ep_sb, hm1]
  cases n with
  | zero =>
    refine ⟨_, m1, fun m0 => ?_, fun c0 => ?_, er_time hR1⟩
    · rw [hC m0, ep_J, ep_rC1 _ _ 12 (by decide), g7, if_neg (show ¬ (0 : Int32) < nI 0 by decide)]
      dsimp only
      rw [ep_V, ep_iC1 _ _ _ _ _ (by decide)]
      rfl
    · rw [hM c0, ep_J, ep_rM _ _ 127 (by decide), g58, if_pos (show nI 0 = 0 from rfl)]
  | succ n =>
    have z1 : (0 : Int32) < nI (n + 1) := (nI_ltI (a := 0) (by decide) (by omega)).mpr (by omega)
    have z2 : ¬ nI (n + 1) = 0 := fun z => by have := (nI_eq (b := 0) (by omega) (by decide)).mp z; omega
    by_cases y : m1.1 179 0 < 5
    · refine ⟨_, m1, fun m0 => ?_, fun c0 => ?_, er_time hR1⟩
      · rw [hC m0, ep_J, ep_rC1 _ _ 12 (by decide), g7, if_pos z1, ep_rC1 _ _ 17 (by decide), g17, if_pos y]
        dsimp only
        rw [ep_V, ep_iC1 _ _ _ _ _ (by decide)]
        rfl
      · rw [hM c0, ep_J, ep_rM _ _ 127 (by decide), g58, if_neg z2, ep_rM _ _ 179 (by decide), if_pos y]
    · obtain ⟨c2, m2, hR2, k7, k58, hc, hm⟩ := er_carry hR1 hn g7 (fun s13 => eh_V (eh_tI s13 127 58 ((s13.1 127 58) - 1)) (fun s14 => Option.bind (eh_loop (fun (r18 : (Int32 × eh_F) → Option (eh_F)) (t15 : Int32 × eh_F) => if t15.1 < (t15.2.1 127 58) then (if eh_in (t15.1 + 1) 4 then if eh_in t15.1 4 then eh_V (eh_tI t15.2 176 (eh_ix t15.1) (t15.2.1 176 (eh_ix (t15.1 + 1)))) (fun s20 => if eh_in (t15.1 + 1) 4 then if eh_in t15.1 4 then eh_V (eh_tI s20 177 (eh_ix t15.1) (s20.1 177 (eh_ix (t15.1 + 1)))) (fun s21 => if eh_in (t15.1 + 1) 4 then if eh_in t15.1 4 then eh_V (eh_tI s21 178 (eh_ix t15.1) (s21.1 178 (eh_ix (t15.1 + 1)))) (fun s22 => if eh_in (t15.1 + 1) 4 then if eh_in t15.1 4 then eh_V (eh_tI s22 179 (eh_ix t15.1) (s22.1 179 (eh_ix (t15.1 + 1)))) (fun s23 => eh_V ((t15.1 + 1) : Int32) (fun x24 => r18 (x24, s23))) else none else none) else none else none) else none else none) else none else none) else (some t15.2)) eh_FU (0, s14)) (fun (e16 : eh_F) => some e16)))
      refine ⟨_, ep_mdf m2 n, fun m0 => ?_, fun c0 => ?_, er_time (ep_R_df hR2 hn k7)⟩
      · rw [hC m0, ep_J, ep_rC1 _ _ 12 (by decide), g7, if_pos z1, ep_rC1 _ _ 17 (by decide), g17, if_neg y, hc m0, ep_sb, ep_cdrop1 c2 m0 hn k7, ep_sb]
        dsimp only
        rw [ep_V, ep_iC1 _ _ _ _ _ (by decide)]
        rfl
      · rw [hM c0, ep_J, ep_rM _ _ 127 (by decide), g58, if_neg z2, ep_rM _ _ 179 (by decide), if_neg y, hm c0, ep_V, ep_rM _ _ 127 (by decide), k58, show nI (n + 1) - 1 = nI n from (pk_sub (a := n + 1) (b := 1) (by omega)), ep_iM _ _ _ _ _ (by decide)]
        exact ep_mdrop1 m2 c0 hn
/-! the run -/
theorem er_off {N : Nat} {c : ep_C} {m : ep_M} (hR : ep_R N c m) : c.1 1 10 = m.1 127 21 := hR.2.2.2.2.2.2.2.2.2.2.2.2.2.2.2.2.2.2.2.2.2.2.2.2.2.2.2.2.1.2.1
abbrev er_CI : ((Int32 × eh_F) → Option (eh_F)) → (Int32 × eh_F) → Option (eh_F) := fun (r20 : (Int32 × eh_F) → Option (eh_F)) (t12 : Int32 × eh_F) => if t12.1 < 2 then (if (t12.2.1 1 10) = 0 then (Option.bind (eF_7_step t12.2 t12.1) (fun q23 => eh_V ((t12.1 + 1) : Int32) (fun x24 => r20 (x24, q23)))) else (some t12.2)) else (some t12.2)
theorem er_two {N : Nat} {c : ep_C} {m : ep_M} (hR : ep_R N c m) (hN : N + 1300 < 2 ^ 28) (h0 : m.1 127 21 = 0) : ∃ c' m', ep_R (N + 600) c' m' ∧ (∀ m0, eh_loop er_CI eh_FU (0, ep_mk c m0) = some (ep_mk c' m0)) ∧ ∀ {β : Type} (K : eh_F → Option β) c0, Option.bind (eF_12_step (ep_mk c0 m) 0) (fun q12 => eh_J K (fun j13 => if (q12.1 127 21) = 0 then (Option.bind (eF_12_step q12 1) (fun q19 => j13 q19)) else (j13 q12))) = K (ep_mk c0 m') := by
  obtain ⟨c1, m1, a1, b1, hR1⟩ := ep_step hR (by omega) (h := 0) (by decide)
  have a1' : ∀ m0, eF_7_step (ep_mk c m0) 0 = some (ep_mk c1 m0) := a1
  have b1' : ∀ c0, eF_12_step (ep_mk c0 m) 0 = some (ep_mk c0 m1) := b1
  have g0 : c.1 1 10 = 0 := (er_off hR).trans h0
  by_cases h1 : m1.1 127 21 = 0
  · obtain ⟨c2, m2, a2, b2, hR2⟩ := ep_step hR1 (by omega) (h := 1) (by decide)
    have a2' : ∀ m0, eF_7_step (ep_mk c1 m0) 1 = some (ep_mk c2 m0) := a2
    have b2' : ∀ c0, eF_12_step (ep_mk c0 m1) 1 = some (ep_mk c0 m2) := b2
    have g1 : c1.1 1 10 = 0 := (er_off hR1).trans h1
    refine ⟨c2, m2, ep_R_mono hR2 (by omega), fun m0 => ?_, fun K c0 => ?_⟩
    · rw [show eh_FU = (eh_FU - 3) + 1 + 1 + 1 from rfl, ep_loopS]
      show (if (0 : Int32) < 2 then _ else _) = _
      rw [if_pos (by decide), ep_rC1 _ _ 1 (by decide), if_pos g0, a1' m0, ep_sb, ep_V, ep_loopS]
      show (if (0 + 1 : Int32) < 2 then _ else _) = _
      rw [if_pos (by decide), ep_rC1 _ _ 1 (by decide), if_pos g1, show eF_7_step (ep_mk c1 m0) (0 + 1) = _ from a2' m0, ep_sb, ep_V, ep_loopS]
      show (if (0 + 1 + 1 : Int32) < 2 then _ else _) = _
      rw [if_neg (by decide)]
    · rw [b1' c0, ep_sb, ep_J, ep_rM _ _ 127 (by decide), if_pos h1, b2' c0, ep_sb]
  · have g1 : ¬ c1.1 1 10 = 0 := by rw [er_off hR1]; exact h1
    refine ⟨c1, m1, ep_R_mono hR1 (by omega), fun m0 => ?_, fun K c0 => ?_⟩
    · rw [show eh_FU = (eh_FU - 3) + 1 + 1 + 1 from rfl, ep_loopS]
      show (if (0 : Int32) < 2 then _ else _) = _
      rw [if_pos (by decide), ep_rC1 _ _ 1 (by decide), if_pos g0, a1' m0, ep_sb, ep_V, ep_loopS]
      show (if (0 + 1 : Int32) < 2 then _ else _) = _
      rw [if_pos (by decide), ep_rC1 _ _ 1 (by decide), if_neg g1]
    · rw [b1' c0, ep_sb, ep_J, ep_rM _ _ 127 (by decide), if_neg h1]
abbrev er_CR (p0 : Int32) : ((Int32 × eh_F) → Option ((eh_F) ⊕ (Int32 × eh_F))) → (Int32 × eh_F) → Option ((eh_F) ⊕ (Int32 × eh_F)) := fun (r9 : (Int32 × eh_F) → Option ((eh_F) ⊕ (Int32 × eh_F))) (t5 : Int32 × eh_F) => if t5.1 < p0 then (if (t5.2.1 1 10) = 0 then (Option.bind (eh_loop er_CI eh_FU (0, t5.2)) (fun (e13 : eh_F) => eh_J (fun (s15 : eh_F) => eh_V ((t5.1 + 1) : Int32) (fun x16 => r9 (x16, s15))) (fun j14 => if (e13.1 1 10) = 0 then (Option.bind (eF_0_endRound e13) (fun q18 => j14 q18)) else (j14 e13)))) else (some (.inr (t5.1, t5.2)))) else (some (.inl t5.2))
abbrev er_MR (p0 : Int32) : ((Int32 × eh_F) → Option (Int32 × eh_F)) → (Int32 × eh_F) → Option (Int32 × eh_F) := fun (r8 : (Int32 × eh_F) → Option (Int32 × eh_F)) (t5 : Int32 × eh_F) => if t5.1 < p0 then (if (t5.2.1 127 21) = 0 then (eh_V ((t5.1 + 1) : Int32) (fun x11 => Option.bind (eF_12_step t5.2 0) (fun q12 => eh_J (fun (s14 : eh_F) => if (s14.1 127 21) = 0 then (Option.bind (eF_12_device s14) (fun q16 => eh_V (eh_tI q16 127 20 ((q16.1 127 20) + 1)) (fun s17 => r8 (x11, s17)))) else (r8 (x11, s14))) (fun j13 => if (q12.1 127 21) = 0 then (Option.bind (eF_12_step q12 1) (fun q19 => j13 q19)) else (j13 q12))))) else (some (t5.1, t5.2))) else (some (t5.1, t5.2))
theorem er_runL {p : Nat} (hp : p ≤ 2000) : ∀ (k i n1 n2 N : Nat) (c : ep_C) (m : ep_M), i + k = p → k < n1 → k < n2 → ep_R N c m → N + 600 * k + 2000 < 2 ^ 28 → ∃ r c' m', ep_R (N + 600 * k) c' m' ∧ (∀ m0, Option.bind (eh_loop (er_CR (nI p)) n1 (nI i, ep_mk c m0)) (Sum.elim (fun (e6 : eh_F) => some (nI p, e6)) (fun (e7 : Int32 × eh_F) => some (e7.1, e7.2))) = some (r, ep_mk c' m0)) ∧ (∀ c0, eh_loop (er_MR (nI p)) n2 (nI i, ep_mk c0 m) = some (r, ep_mk c0 m'))
  | 0, i, n1 + 1, n2 + 1, N, c, m, hi, _, _, hR, _ => by
    have : i = p := by omega
    subst this
    refine ⟨nI i, c, m, hR, fun m0 => ?_, fun c0 => ?_⟩
    · rw [ep_loopS]
      show Option.bind (if nI i < nI i then _ else _) _ = _
      rw [if_neg (nI_nlt (Nat.le_refl _) (by omega)), ep_sb]
      rfl
    · rw [ep_loopS]
      show (if nI i < nI i then _ else _) = _
      rw [if_neg (nI_nlt (Nat.le_refl _) (by omega))]
  | k + 1, i, n1 + 1, n2 + 1, N, c, m, hi, h1, h2, hR, hN => by
    have z : nI i < nI p := nI_lt (by omega) (by omega)
    by_cases h0 : m.1 127 21 = 0
    · have g0 : c.1 1 10 = 0 := (er_off hR).trans h0
      obtain ⟨c1, m1, hR1, a, b⟩ := er_two hR (by omega) h0
      by_cases h3 : m1.1 127 21 = 0
      · have g3 : c1.1 1 10 = 0 := (er_off hR1).trans h3
        obtain ⟨c2, m2, a2, b2, hR2⟩ := er_round hR1
        obtain ⟨r, c', m', hR', a3, b3⟩ := er_runL hp k (i + 1) n1 n2 (N + 600) _ _ (by omega) (by omega) (by omega) hR2 (by omega)
        refine ⟨r, c', m', ep_R_mono hR' (by omega), fun m0 => ?_, fun c0 => ?_⟩
        · rw [ep_loopS]
          show Option.bind (if nI i < nI p then _ else _) _ = _
          rw [if_pos z, ep_rC1 _ _ 1 (by decide), if_pos g0, a m0, ep_sb, ep_J, ep_rC1 _ _ 1 (by decide), if_pos g3, a2 m0, ep_sb]
          dsimp only
          rw [ep_V, nI_1]
          exact a3 m0
        · rw [ep_loopS]
          show (if nI i < nI p then _ else _) = _
          rw [if_pos z, ep_rM _ _ 127 (by decide), if_pos h0, ep_V, b, ep_rM _ _ 127 (by decide), if_pos h3, b2 c0, ep_sb, ep_V, ep_iM _ _ _ _ _ (by decide), nI_1]
          exact b3 c0
      · have g3 : ¬ c1.1 1 10 = 0 := by rw [er_off hR1]; exact h3
        obtain ⟨r, c', m', hR', a3, b3⟩ := er_runL hp k (i + 1) n1 n2 (N + 600) _ _ (by omega) (by omega) (by omega) hR1 (by omega)
        refine ⟨r, c', m', ep_R_mono hR' (by omega), fun m0 => ?_, fun c0 => ?_⟩
        · rw [ep_loopS]
          show Option.bind (if nI i < nI p then _ else _) _ = _
          rw [if_pos z, ep_rC1 _ _ 1 (by decide), if_pos g0, a m0, ep_sb, ep_J, ep_rC1 _ _ 1 (by decide), if_neg g3]
          dsimp only
          rw [ep_V, nI_1]
          exact a3 m0
        · rw [ep_loopS]
          show (if nI i < nI p then _ else _) = _
          rw [if_pos z, ep_rM _ _ 127 (by decide), if_pos h0, ep_V, b, ep_rM _ _ 127 (by decide), if_neg h3, nI_1]
          exact b3 c0
    · have g0 : ¬ c.1 1 10 = 0 := by rw [er_off hR]; exact h0
      refine ⟨nI i, c, m, ep_R_mono hR (by omega), fun m0 => ?_, fun c0 => ?_⟩
      · rw [ep_loopS]
        show Option.bind (if nI i < nI p then _ else _) _ = _
        rw [if_pos z, ep_rC1 _ _ 1 (by decide), if_neg g0, ep_sb]
        rfl
      · rw [ep_loopS]
        show (if nI i < nI p then _ else _) = _
        rw [if_pos z, ep_rM _ _ 127 (by decide), if_neg h0]
/-- a call of the face that may change the state -/
def er_Q (N k : Nat) (c : ep_C) (m : ep_M) (f g : eh_F → Option (Int32 × eh_F)) : Prop := ∃ r c' m', (∀ m0, f (ep_mk c m0) = some (r, ep_mk c' m0)) ∧ (∀ c0, g (ep_mk c0 m) = some (r, ep_mk c0 m')) ∧ ep_R (N + k) c' m'
def er_P (N k : Nat) (f g : eh_F → Option (Int32 × eh_F)) : Prop := ∀ c m, ep_R N c m → er_Q N k c m f g
theorem er_id {N k : Nat} {c : ep_C} {m : ep_M} (hR : ep_R N c m) {f g : eh_F → Option (Int32 × eh_F)} (r : Int32) (h1 : ∀ m0, f (ep_mk c m0) = some (r, ep_mk c m0)) (h2 : ∀ c0, g (ep_mk c0 m) = some (r, ep_mk c0 m)) : er_Q N k c m f g := ⟨r, c, m, h1, h2, ep_R_mono hR (by omega)⟩
theorem er_run (N : Nat) (hN : N + 1300000 < 2 ^ 28) (p : Int32) : er_P N 1200000 (fun s => eF_11_run s p) (fun s => eF_12_run_2 s p) := by
  intro c m hR
  by_cases y1 : p < 0
  · refine er_id hR (-1) (fun m0 => ?_) (fun c0 => ?_)
    · show eF_11_run _ p = _
      unfold eF_11_run
      rw [ep_J, if_pos y1]
    · show eF_12_run_2 _ p = _
      unfold eF_12_run_2
      rw [ep_J, if_pos y1]
  by_cases y2 : 2000 < p
  · refine er_id hR (-1) (fun m0 => ?_) (fun c0 => ?_)
    · show eF_11_run _ p = _
      unfold eF_11_run
      rw [ep_J, if_neg y1, if_pos y2]
    · show eF_12_run_2 _ p = _
      unfold eF_12_run_2
      rw [ep_J, if_neg y1, if_pos y2]
  obtain ⟨a, ha, rfl⟩ := ep_le_of (n := 2000) (by decide) y1 y2
  obtain ⟨r, c', m', hR', h1, h2⟩ := er_runL ha a 0 eh_FU eh_FU N c m (by omega) (ep_FU _ (by omega)) (ep_FU _ (by omega)) hR (by omega)
  refine ⟨r, c', m', fun m0 => ?_, fun c0 => ?_, ep_R_mono hR' (by omega)⟩
  · show eF_11_run _ (nI a) = _
    unfold eF_11_run
    rw [ep_J, if_neg y1, if_neg y2]
    exact h1 m0
  · show eF_12_run_2 _ (nI a) = _
    unfold eF_12_run_2
    rw [ep_J, if_neg y1, if_neg y2]
    exact ep_bnd (h2 c0) rfl
