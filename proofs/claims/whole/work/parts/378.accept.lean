/-! accept, handlers, the path -/
theorem ep_R_hand {N : Nat} {c : ep_C} {m : ep_M} (hR : ep_R N c m) {t : Nat} (ht : t < 12) {v : Int32} (hv : ep_al v) : ep_R N (ep_cH c 2 t 8 v) (ep_mI m 152 t v) := by
  refine ⟨hR.1, hR.2.1, hR.2.2.1, hR.2.2.2.1, hR.2.2.2.2.1, hR.2.2.2.2.2.1, hR.2.2.2.2.2.2.1, hR.2.2.2.2.2.2.2.1, hR.2.2.2.2.2.2.2.2.1, hR.2.2.2.2.2.2.2.2.2.1, ?_, ?_, hR.2.2.2.2.2.2.2.2.2.2.2.2.1, ?_, hR.2.2.2.2.2.2.2.2.2.2.2.2.2.2.1, hR.2.2.2.2.2.2.2.2.2.2.2.2.2.2.2.1, hR.2.2.2.2.2.2.2.2.2.2.2.2.2.2.2.2.1, hR.2.2.2.2.2.2.2.2.2.2.2.2.2.2.2.2.2.1, hR.2.2.2.2.2.2.2.2.2.2.2.2.2.2.2.2.2.2.1, hR.2.2.2.2.2.2.2.2.2.2.2.2.2.2.2.2.2.2.2.1, hR.2.2.2.2.2.2.2.2.2.2.2.2.2.2.2.2.2.2.2.2.1, hR.2.2.2.2.2.2.2.2.2.2.2.2.2.2.2.2.2.2.2.2.2.1, hR.2.2.2.2.2.2.2.2.2.2.2.2.2.2.2.2.2.2.2.2.2.2.1, hR.2.2.2.2.2.2.2.2.2.2.2.2.2.2.2.2.2.2.2.2.2.2.2.1, hR.2.2.2.2.2.2.2.2.2.2.2.2.2.2.2.2.2.2.2.2.2.2.2.2.1, hR.2.2.2.2.2.2.2.2.2.2.2.2.2.2.2.2.2.2.2.2.2.2.2.2.2.1, hR.2.2.2.2.2.2.2.2.2.2.2.2.2.2.2.2.2.2.2.2.2.2.2.2.2.2.1, hR.2.2.2.2.2.2.2.2.2.2.2.2.2.2.2.2.2.2.2.2.2.2.2.2.2.2.2.1, hR.2.2.2.2.2.2.2.2.2.2.2.2.2.2.2.2.2.2.2.2.2.2.2.2.2.2.2.2.1, hR.2.2.2.2.2.2.2.2.2.2.2.2.2.2.2.2.2.2.2.2.2.2.2.2.2.2.2.2.2.1, hR.2.2.2.2.2.2.2.2.2.2.2.2.2.2.2.2.2.2.2.2.2.2.2.2.2.2.2.2.2.2.1, hR.2.2.2.2.2.2.2.2.2.2.2.2.2.2.2.2.2.2.2.2.2.2.2.2.2.2.2.2.2.2.2.1, hR.2.2.2.2.2.2.2.2.2.2.2.2.2.2.2.2.2.2.2.2.2.2.2.2.2.2.2.2.2.2.2.2.1, hR.2.2.2.2.2.2.2.2.2.2.2.2.2.2.2.2.2.2.2.2.2.2.2.2.2.2.2.2.2.2.2.2.2⟩
  · intro t' ht'
    obtain ⟨a0, a2, a3, a4, a5, a6, a8, a9⟩ := hR.2.2.2.2.2.2.2.2.2.2.1 t' ht'
    by_cases y : t' = t
    · subst y
      rw [ep_cHs]
      exact ⟨a0, a2, a3, a4, a5, a6, (by show v = upd (m.1 152) t' v t'; rw [ep_upd_eq]), a9⟩
    · rw [ep_cHh _ _ _ _ _ _ y]
      exact ⟨a0, a2, a3, a4, a5, a6, (by show _ = upd (m.1 152) t v t'; rw [ep_upd_ne y]; exact a8), a9⟩
  · intro t' ht'
    obtain ⟨b1, b2, b3⟩ := hR.2.2.2.2.2.2.2.2.2.2.2.1 t' ht'
    refine ⟨b1, ?_, b3⟩
    show ep_al (upd (m.1 152) t v t')
    by_cases y : t' = t
    · subst y; rw [ep_upd_eq]; exact hv
    · rw [ep_upd_ne y]; exact b2
  · intro t' ht' hs'
    by_cases y : t' = t
    · subst y; rw [ep_cHs]; exact hR.2.2.2.2.2.2.2.2.2.2.2.2.2.1 t' ht' hs'
    · rw [ep_cHh _ _ _ _ _ _ y]; exact hR.2.2.2.2.2.2.2.2.2.2.2.2.2.1 t' ht' hs'
theorem ep_setHandler_ {N : Nat} {c : ep_C} {m : ep_M} (hR : ep_R N c m) {h t e : Nat} (ho : ep_On m h t e) (p : Int32) : ep_Tc N h t e c m (fun s => eF_3_setHandler s (eh_fp (nI t)) p) (fun s => if (p &&& 3) = 0 then (if eh_in (nI t) 12 then eh_V (eh_tI s 152 (eh_ix (nI t)) p) (fun s59 => some ((0 : Int32), s59)) else none) else (some ((-1), s))) := by
  have ht := ho.2.1
  by_cases y : p &&& 3 = 0
  · refine ⟨0, _, _, fun m0 => ?_, fun c0 => ?_, ep_R_hand hR ht y, ⟨ho, fun j hj => rfl, rfl⟩⟩
    · show eF_3_setHandler (ep_mk c m0) _ _ = _
      unfold eF_3_setHandler
      rw [if_pos y, ep_V, ep_iF0 _ _ _ _ ht]
    · show (if _ then _ else _) = _
      rw [if_pos y, if_pos (ep_in ht (by decide)), show eh_ix (nI t) = t from ep_ix (by omega), ep_V, ep_iM _ _ _ _ _ (by decide)]
  · refine ep_Tc_no hR ho (ep_L_rf m) (-1) (fun m0 => ?_) (fun c0 => ?_)
    · show eF_3_setHandler (ep_mk c m0) _ _ = _
      unfold eF_3_setHandler
      rw [if_neg y]
    · show (if _ then _ else _) = _
      rw [if_neg y]
theorem ep_accept_ {N : Nat} {c : ep_C} {m : ep_M} (hR : ep_R N c m) (hN : N < 2 ^ 28) {h t e : Nat} (ho : ep_On m h t e) (p : Int32) : ep_Tc (N + 1) h t e c m (fun s => eF_3_accept s (eh_fp (nI t)) p) (fun s => eF_12_accept s (nI h) (nI e) p) := by
  have ht := ho.2.1
  have he := ho.2.2.1
  have hto := ho.2.2.2.2.1
  obtain ⟨r3, r4, r5, r6, r7, r8⟩ := hR.2.2.1
  have f3 : ∀ m0, (ep_mk c m0).1 (eh_fp (nI t)) 3 = nI e := fun m0 => by rw [ep_rF0 _ _ ht, (hR.2.2.2.2.2.2.2.2.2.2.1 t ht).2.2.1, hto]
  have no : ∀ (r : Int32), (∀ m0, eF_3_accept (ep_mk c m0) (eh_fp (nI t)) p = some (r, ep_mk c m0)) → (∀ c0, eF_12_accept (ep_mk c0 m) (nI h) (nI e) p = some (r, ep_mk c0 m)) → ep_Tc (N + 1) h t e c m (fun s => eF_3_accept s (eh_fp (nI t)) p) (fun s => eF_12_accept s (nI h) (nI e) p) := fun r x y => ep_Tc_mono (ep_Tc_no hR ho (ep_L_rf m) r x y) (by omega)
  have hin := ep_inl (p := p) (n := 12) (by decide)
  by_cases hi : ¬ eh_in p 12 = true
  · have hb : ep_inb p 12 (m.1 164) = false := by
      unfold ep_inb
      rw [Bool.eq_false_iff.mpr hi, Bool.false_and]
    refine no (-1) (fun m0 => ?_) (fun c0 => ?_)
    · unfold eF_3_accept
      rw [ep_chasR hR, ep_sb, hb, ep_J, if_pos ep_bf]
    · unfold eF_12_accept
      rw [ep_J]
      by_cases y1 : p < 0
      · rw [if_pos y1]
      · rw [if_neg y1, if_neg (show ¬ p < 12 from fun z => hi (hin.mpr ⟨y1, z⟩))]
  have hi := Decidable.not_not.mp hi
  have y := hin.mp hi
  obtain ⟨k, hk, rfl⟩ := ep_in_of hi (by decide)
  have x12 : eh_ix (nI k) = k := ep_ix (by omega)
  have y12 : nI k < 12 := y.2
  by_cases h0 : m.1 164 k = 0
  · have hb : ep_inb (nI k) 12 (m.1 164) = false := by rw [ep_inb_nI hk (by decide)]; simp [h0]
    refine no (-1) (fun m0 => ?_) (fun c0 => ?_)
    · unfold eF_3_accept
      rw [ep_chasR hR, ep_sb, hb, ep_J, if_pos ep_bf]
    · unfold eF_12_accept
      rw [ep_J, if_neg y.1, if_pos y12, if_pos hi, x12, ep_rM _ _ 164 (by decide), h0, if_neg (by decide)]
  have hb : ep_inb (nI k) 12 (m.1 164) = true := by rw [ep_inb_nI hk (by decide)]; simp [h0]
  obtain ⟨g1, -, -, gT, gT2⟩ := hR.2.2.2.1.1 k hk h0
  by_cases h1 : m.1 164 k = 1
  · refine no (-1) (fun m0 => ?_) (fun c0 => ?_)
    · unfold eF_3_accept
      rw [ep_chasR hR, ep_sb, hb, ep_J, if_neg ep_bt, if_pos hi, x12, ep_rC1 _ _ _ (by decide), r3, if_pos h1]
    · unfold eF_12_accept
      rw [ep_J, if_neg y.1, if_pos y12, if_pos hi, x12, ep_rM _ _ 164 (by decide), h1, if_neg (by decide)]
  have h1l : 1 < m.1 164 k := by
    rcases g1 with z | z | z | z
    · exact absurd z h1
    · rw [z]; decide
    · rw [z]; decide
    · rw [z]; decide
  have hsd := ep_side0 (S := m.1 164) (O := m.1 167) (T := m.1 168) (k := k) he gT2
  cases hof : ep_of (m.1 164) (m.1 167) (m.1 168) k (nI e) with
  | false =>
    refine no (-1) (fun m0 => ?_) (fun c0 => ?_)
    · unfold eF_3_accept
      rw [ep_chasR hR, ep_sb, hb, ep_J, if_neg ep_bt, if_pos hi, x12, ep_rC1 _ _ _ (by decide), r3, if_neg h1, f3, ep_csideOf _ hk, ep_sb, r6, r7, if_pos (hsd.mpr hof)]
    · unfold eF_12_accept
      rw [ep_J, if_neg y.1, if_pos y12, if_pos hi, x12, ep_rM _ _ 164 (by decide), if_pos h1l, ep_misOf _ hk, ep_sb, hof, if_pos ep_bf]
  | true =>
    obtain ⟨sd, hs0, hs1, hs2, hs3⟩ : ∃ sd : Int32, (if m.1 167 k = nI e then (1 : Int32) else if m.1 168 k = nI e then 2 else 0) = sd ∧ ¬ sd = 0 ∧ (if m.1 167 k = nI e then (1 : Int32) else 2) = sd ∧ (m.1 169 k &&& sd = 0 ↔ ep_acc (m.1 164) (m.1 167) (m.1 168) (m.1 169) k (nI e) = false) := by
      have hne : ¬ ((if m.1 167 k = nI e then (1 : Int32) else if m.1 168 k = nI e then 2 else 0) = 0) := fun z => by
        rw [hsd, hof] at z; exact absurd z (by decide)
      by_cases o1 : m.1 167 k = nI e
      · refine ⟨1, by rw [if_pos o1], by decide, by rw [if_pos o1], ?_⟩
        have o2 : ¬ (m.1 164 k = 3 ∧ m.1 168 k = nI e) := fun z => by
          obtain ⟨x, -, -, -, x4⟩ := gT z.1
          exact x4 (z.2.trans o1.symm)
        unfold ep_acc
        by_cases s3 : m.1 164 k = 3
        · have : ¬ m.1 168 k = nI e := fun z => o2 ⟨s3, z⟩
          simp [o1, this]
        · simp [o1, s3]
      · have o2 : m.1 168 k = nI e := Decidable.byContradiction fun z => hne (by rw [if_neg o1, if_neg z])
        have s3 : m.1 164 k = 3 := Decidable.byContradiction fun z => by
          have := gT2 z
          rw [o2] at this
          exact ep_nI_ne_m1 (by omega) this
        refine ⟨2, by rw [if_neg o1, if_pos o2], by decide, by rw [if_neg o1], ?_⟩
        unfold ep_acc
        simp [o1, o2, s3]
    cases hac : ep_acc (m.1 164) (m.1 167) (m.1 168) (m.1 169) k (nI e) with
    | true =>
      have hz : ¬ m.1 169 k &&& sd = 0 := fun z => by rw [hs3, hac] at z; exact absurd z (by decide)
      refine no (-2) (fun m0 => ?_) (fun c0 => ?_)
      · unfold eF_3_accept
        rw [ep_chasR hR, ep_sb, hb, ep_J, if_neg ep_bt, if_pos hi, x12, ep_rC1 _ _ 3 (by decide), r3, if_neg h1, f3, ep_csideOf _ hk, ep_sb, r6, r7, hs0, if_neg hs1, if_pos hi, ep_rC1 _ _ 8 (by decide), r8, if_neg hz]
      · unfold eF_12_accept
        rw [ep_J, if_neg y.1, if_pos y12, if_pos hi, x12, ep_rM _ _ 164 (by decide), if_pos h1l, ep_misOf _ hk, ep_sb, hof, if_neg ep_bt, ep_misAccepted _ hk, ep_sb, hac, if_neg ep_bt]
    | false =>
      have hz : m.1 169 k &&& sd = 0 := hs3.mpr hac
      have R1 : ep_R N (ep_cI c 8 k (m.1 169 k ||| sd)) (ep_mI m 169 k (m.1 169 k ||| sd)) := by
        have hr : upd (c.1 8) k (m.1 169 k ||| sd) = upd (m.1 169) k (m.1 169 k ||| sd) := by rw [r8]
        exact ⟨hR.1, hR.2.1, ⟨r3, r4, r5, r6, r7, hr⟩, hR.2.2.2.1, hR.2.2.2.2.1, hR.2.2.2.2.2.1, hR.2.2.2.2.2.2.1, hR.2.2.2.2.2.2.2.1, hR.2.2.2.2.2.2.2.2.1, hR.2.2.2.2.2.2.2.2.2.1, hR.2.2.2.2.2.2.2.2.2.2.1, hR.2.2.2.2.2.2.2.2.2.2.2.1, hR.2.2.2.2.2.2.2.2.2.2.2.2.1, hR.2.2.2.2.2.2.2.2.2.2.2.2.2.1, hR.2.2.2.2.2.2.2.2.2.2.2.2.2.2.1, hR.2.2.2.2.2.2.2.2.2.2.2.2.2.2.2.1, hR.2.2.2.2.2.2.2.2.2.2.2.2.2.2.2.2.1, hR.2.2.2.2.2.2.2.2.2.2.2.2.2.2.2.2.2.1, hR.2.2.2.2.2.2.2.2.2.2.2.2.2.2.2.2.2.2.1, hR.2.2.2.2.2.2.2.2.2.2.2.2.2.2.2.2.2.2.2.1, hR.2.2.2.2.2.2.2.2.2.2.2.2.2.2.2.2.2.2.2.2.1, hR.2.2.2.2.2.2.2.2.2.2.2.2.2.2.2.2.2.2.2.2.2.1, hR.2.2.2.2.2.2.2.2.2.2.2.2.2.2.2.2.2.2.2.2.2.2.1, hR.2.2.2.2.2.2.2.2.2.2.2.2.2.2.2.2.2.2.2.2.2.2.2.1, hR.2.2.2.2.2.2.2.2.2.2.2.2.2.2.2.2.2.2.2.2.2.2.2.2.1, hR.2.2.2.2.2.2.2.2.2.2.2.2.2.2.2.2.2.2.2.2.2.2.2.2.2.1, hR.2.2.2.2.2.2.2.2.2.2.2.2.2.2.2.2.2.2.2.2.2.2.2.2.2.2.1, hR.2.2.2.2.2.2.2.2.2.2.2.2.2.2.2.2.2.2.2.2.2.2.2.2.2.2.2.1, hR.2.2.2.2.2.2.2.2.2.2.2.2.2.2.2.2.2.2.2.2.2.2.2.2.2.2.2.2.1, hR.2.2.2.2.2.2.2.2.2.2.2.2.2.2.2.2.2.2.2.2.2.2.2.2.2.2.2.2.2.1, hR.2.2.2.2.2.2.2.2.2.2.2.2.2.2.2.2.2.2.2.2.2.2.2.2.2.2.2.2.2.2.1, hR.2.2.2.2.2.2.2.2.2.2.2.2.2.2.2.2.2.2.2.2.2.2.2.2.2.2.2.2.2.2.2.1, hR.2.2.2.2.2.2.2.2.2.2.2.2.2.2.2.2.2.2.2.2.2.2.2.2.2.2.2.2.2.2.2.2.1, hR.2.2.2.2.2.2.2.2.2.2.2.2.2.2.2.2.2.2.2.2.2.2.2.2.2.2.2.2.2.2.2.2.2⟩
      have ho1 : ep_On (ep_mI m 169 k (m.1 169 k ||| sd)) h t e := ho
      obtain ⟨c2, m2, n1, n2, n3⟩ := ep_note R1 hN ho1 5 (nI k) 0 0
      refine ⟨0, c2, m2, fun m0 => ?_, fun c0 => ?_, n3.2.2, ep_Fm_tr (m1 := ep_mI m 169 k (m.1 169 k ||| sd)) ⟨ho1, fun j hj => rfl, rfl⟩ (ep_Fm_W n3 ho1)⟩
      · show eF_3_accept (ep_mk c m0) _ _ = _
        unfold eF_3_accept
        rw [ep_chasR hR, ep_sb, hb, ep_J, if_neg ep_bt, if_pos hi, x12, ep_rC1 _ _ 3 (by decide), r3, if_neg h1, f3, ep_csideOf _ hk, ep_sb, r6, r7, hs0, if_neg hs1, if_pos hi, ep_rC1 _ _ 8 (by decide), r8, if_pos hz, if_pos hi, if_pos hi, ep_V, ep_iC1 _ _ _ _ _ (by decide), n1 m0, ep_sb]
      · show eF_12_accept (ep_mk c0 m) _ _ _ = _
        unfold eF_12_accept
        rw [ep_J, if_neg y.1, if_pos y12, if_pos hi, x12, ep_rM _ _ 164 (by decide), if_pos h1l, ep_misOf _ hk, ep_sb, hof, if_neg ep_bt, ep_misAccepted _ hk, ep_sb, hac, if_pos ep_bf, if_pos hi, if_pos hi, ep_J, ep_rM _ _ 167 (by decide), ep_rM _ _ 169 (by decide)]
        have fin : ∀ v, v = sd → (if eh_in (nI k) 12 = true then eh_V (eh_tI (ep_mk c0 m) 169 k (m.1 169 k ||| v)) (fun s12 => Option.bind (eF_12_happens s12 5 (nI h) (nI k) 0 0) (fun q13 => some ((0 : Int32), q13))) else none) = some (0, ep_mk c0 m2) := fun v hv => by
          rw [hv, if_pos hi, ep_V, ep_iM _ _ _ _ _ (by decide), n2 c0, ep_sb]
        by_cases o1 : m.1 167 k = nI e
        · rw [if_pos o1]; rw [if_pos o1] at hs2; exact fin 1 hs2
        · rw [if_neg o1]; rw [if_neg o1] at hs2; exact fin 2 hs2
/-! the path -/
theorem ep_padd {N : Nat} {c : ep_C} {m : ep_M} (hR : ep_R N c m) {hh t e : Nat} (ho : ep_On m hh t e) (p : Int32) : ep_Tc N hh t e c m (fun s => Option.bind (eF_8_add s 24 (p &&& 255)) (fun q14 => eh_J (fun (a16 : Int32) => some (a16, q14.2)) (fun j15 => if q14.1 = 0 then (j15 (-5)) else (j15 (q14.2.1 24 1))))) (fun s => if (s.1 127 66) = 64 then (some ((-5), s)) else (if eh_in (s.1 127 66) 64 then eh_V (eh_tI s 182 (eh_ix (s.1 127 66)) (eh_nb (eh_nb p))) (fun s6 => eh_V (eh_tI s6 127 66 ((s6.1 127 66) + 1)) (fun s7 => some ((s7.1 127 66), s7))) else none)) := by
  obtain ⟨g1, g2, n, g3, g4⟩ := hR.2.2.2.2.2.2.2.2.2.2.2.2.2.2.2.2.2.2.2.2.2.2.2.2.2.2.2.2.2.2.2.2.2
  have q0 : ¬ nI n < 0 := nI_pos (by omega)
  have e64 : (nI n = 64) ↔ n = 64 := nI_eq (b := 64) (by omega) (by decide)
  by_cases h : n < 64
  · have q1 : nI n < Int32.ofNat 64 := nI_lt h (by decide)
    have q2 : eh_in (nI n) 64 = true := ep_in h (by decide)
    have q3 : eh_ix (nI n) = n := ep_ix (by omega)
    have q4 : ¬ nI n = 64 := fun z => by have := e64.mp z; omega
    refine ⟨nI (n + 1), ep_cI (ep_cI c 25 n (p &&& 255)) 24 1 (nI (n + 1)), ep_mI (ep_mI m 182 n (eh_nb (eh_nb p))) 127 66 (nI (n + 1)), fun m0 => ?_, fun c0 => ?_, ⟨hR.1, hR.2.1, hR.2.2.1, hR.2.2.2.1, hR.2.2.2.2.1, hR.2.2.2.2.2.1, hR.2.2.2.2.2.2.1, hR.2.2.2.2.2.2.2.1, hR.2.2.2.2.2.2.2.2.1, hR.2.2.2.2.2.2.2.2.2.1, hR.2.2.2.2.2.2.2.2.2.2.1, hR.2.2.2.2.2.2.2.2.2.2.2.1, hR.2.2.2.2.2.2.2.2.2.2.2.2.1, hR.2.2.2.2.2.2.2.2.2.2.2.2.2.1, hR.2.2.2.2.2.2.2.2.2.2.2.2.2.2.1, hR.2.2.2.2.2.2.2.2.2.2.2.2.2.2.2.1, hR.2.2.2.2.2.2.2.2.2.2.2.2.2.2.2.2.1, hR.2.2.2.2.2.2.2.2.2.2.2.2.2.2.2.2.2.1, hR.2.2.2.2.2.2.2.2.2.2.2.2.2.2.2.2.2.2.1, hR.2.2.2.2.2.2.2.2.2.2.2.2.2.2.2.2.2.2.2.1, hR.2.2.2.2.2.2.2.2.2.2.2.2.2.2.2.2.2.2.2.2.1, hR.2.2.2.2.2.2.2.2.2.2.2.2.2.2.2.2.2.2.2.2.2.1, hR.2.2.2.2.2.2.2.2.2.2.2.2.2.2.2.2.2.2.2.2.2.2.1, hR.2.2.2.2.2.2.2.2.2.2.2.2.2.2.2.2.2.2.2.2.2.2.2.1, hR.2.2.2.2.2.2.2.2.2.2.2.2.2.2.2.2.2.2.2.2.2.2.2.2.1, hR.2.2.2.2.2.2.2.2.2.2.2.2.2.2.2.2.2.2.2.2.2.2.2.2.2.1, hR.2.2.2.2.2.2.2.2.2.2.2.2.2.2.2.2.2.2.2.2.2.2.2.2.2.2.1, hR.2.2.2.2.2.2.2.2.2.2.2.2.2.2.2.2.2.2.2.2.2.2.2.2.2.2.2.1, hR.2.2.2.2.2.2.2.2.2.2.2.2.2.2.2.2.2.2.2.2.2.2.2.2.2.2.2.2.1, hR.2.2.2.2.2.2.2.2.2.2.2.2.2.2.2.2.2.2.2.2.2.2.2.2.2.2.2.2.2.1, hR.2.2.2.2.2.2.2.2.2.2.2.2.2.2.2.2.2.2.2.2.2.2.2.2.2.2.2.2.2.2.1, hR.2.2.2.2.2.2.2.2.2.2.2.2.2.2.2.2.2.2.2.2.2.2.2.2.2.2.2.2.2.2.2.1, hR.2.2.2.2.2.2.2.2.2.2.2.2.2.2.2.2.2.2.2.2.2.2.2.2.2.2.2.2.2.2.2.2.1, ?_⟩, ⟨ho, fun j hj => ?_, rfl⟩⟩
    · have : eF_8_add (ep_mk c m0) 24 (p &&& 255) = some (1, ep_mk (ep_cI (ep_cI c 25 n (p &&& 255)) 24 1 (nI (n + 1))) m0) := by
        unfold eF_8_add
        rw [ep_J, ep_rC1 _ _ 24 (by decide), g2, g4, if_neg q0, show eh_rn 24 = 64 from rfl, if_pos q1, if_pos q2, q3, ep_V, ep_iC1 _ _ _ _ _ (by decide), ep_V, ep_rC1 _ _ 24 (by decide), ep_iC1 _ _ _ _ _ (by decide)]
        rw [show (ep_cI c 25 n (p &&& 255)).1 24 1 = nI n from by rw [ep_cIn _ _ _ _ _ (by decide), g2, g4], nI_1]
      refine ep_bnd this ?_
      rw [ep_J, if_neg (show ¬ (1 : Int32) = 0 by decide)]
      show some ((ep_mk (ep_cI (ep_cI c 25 n (p &&& 255)) 24 1 (nI (n + 1))) m0).1 24 1, _) = _
      rw [ep_rC1 _ _ _ (by decide), ep_cI1, ep_upd_eq]
    · show (if (ep_mk c0 m).1 127 66 = 64 then _ else _) = _
      rw [ep_rM _ _ 127 (by decide), g4, if_neg q4, if_pos q2, q3, ep_V, ep_iM _ _ _ _ _ (by decide), ep_V, ep_rM _ _ 127 (by decide), ep_iM _ _ _ _ _ (by decide)]
      rw [show (ep_mI m 182 n (eh_nb (eh_nb p))).1 127 66 = nI n from by rw [ep_mIn _ _ _ _ _ (by decide), g4], nI_1, ep_rM _ _ 127 (by decide), ep_mI1, ep_upd_eq]
    · refine ⟨?_, rfl, n + 1, by omega, rfl⟩
      show upd (c.1 25) n (p &&& 255) = fun j => upd (m.1 182) n (eh_nb (eh_nb p)) j &&& 255
      rw [g1]
      funext j
      unfold upd
      by_cases e : j = n
      · simp only [e, if_true]; rw [ep_nbnb]
      · simp only [e, if_false]
    · rcases hj with rfl | rfl <;> rfl
  · have hn : n = 64 := by omega
    refine ep_Tc_no hR ho (ep_L_rf m) (-5) (fun m0 => ?_) (fun c0 => ?_)
    · have q1 : ¬ nI n < Int32.ofNat 64 := nI_nlt (by omega) (by omega)
      show Option.bind (eF_8_add (ep_mk c m0) 24 (p &&& 255)) _ = _
      unfold eF_8_add
      rw [ep_J, ep_rC1 _ _ 24 (by decide), g2, g4, if_neg q0, show eh_rn 24 = 64 from rfl, if_neg q1, ep_sb, ep_J, if_pos rfl]
    · show (if (ep_mk c0 m).1 127 66 = 64 then _ else _) = _
      rw [ep_rM _ _ 127 (by decide), g4, if_pos (e64.mpr hn)]
theorem ep_pkey {N : Nat} {c : ep_C} {m : ep_M} (hR : ep_R N c m) {hh t e : Nat} (ho : ep_On m hh t e) : ep_Tc N hh t e c m (fun s => Option.bind (eF_8_takeFirst s 22 256) (fun q18 => some (q18.1, q18.2))) (fun s => if (s.1 127 64) = 0 then (some (256, s)) else (eh_V ((s.1 181 0) : Int32) (fun x9 => eh_V (eh_tI s 127 64 ((s.1 127 64) - 1)) (fun s10 => Option.bind (eh_loop (fun (r14 : (Int32 × eh_F) → Option (eh_F)) (t11 : Int32 × eh_F) => if t11.1 < (t11.2.1 127 64) then (if eh_in (t11.1 + 1) 16 then if eh_in t11.1 16 then eh_V (eh_tI t11.2 181 (eh_ix t11.1) (t11.2.1 181 (eh_ix (t11.1 + 1)))) (fun s16 => eh_V ((t11.1 + 1) : Int32) (fun x17 => r14 (x17, s16))) else none else none) else (some t11.2)) eh_FU (0, s10)) (fun (e12 : eh_F) => some (x9, e12)))))) := by
  obtain ⟨g1, g2, n, g3, g4⟩ := hR.2.2.2.2.2.2.2.2.2.2.2.2.2.2.2.2.2.2.2.2.2.2.2.2.2.2.2.2.2.2.2.2.1
  by_cases hn : n = 0
  · subst hn
    refine ep_Tc_no hR ho (ep_L_rf m) 256 (fun m0 => ?_) (fun c0 => ?_)
    · exact ep_bnd (ep_ctake0 (th := 22) (by decide) (g2.trans g4) 256 m0) rfl
    · show (if _ then _ else _) = _
      rw [ep_rM _ _ 127 (by decide), g4, if_pos (show nI 0 = 0 from rfl)]
  · have q0 : ¬ nI n = 0 := fun z => hn ((nI_eq (b := 0) (by omega) (by decide)).mp z)
    have q3 : nI n - 1 = nI (n - 1) := pk_sub (a := n) (b := 1) (by omega)
    refine ⟨m.1 181 0, ep_cL (ep_cI c 22 1 (nI (n - 1))) 23 (ep_sh (c.1 23) (n - 1)), ep_mL (ep_mI m 127 64 (nI (n - 1))) 181 (ep_sh (m.1 181) (n - 1)), fun m0 => ?_, fun c0 => ?_, ⟨hR.1, hR.2.1, hR.2.2.1, hR.2.2.2.1, hR.2.2.2.2.1, hR.2.2.2.2.2.1, hR.2.2.2.2.2.2.1, hR.2.2.2.2.2.2.2.1, hR.2.2.2.2.2.2.2.2.1, hR.2.2.2.2.2.2.2.2.2.1, hR.2.2.2.2.2.2.2.2.2.2.1, hR.2.2.2.2.2.2.2.2.2.2.2.1, hR.2.2.2.2.2.2.2.2.2.2.2.2.1, hR.2.2.2.2.2.2.2.2.2.2.2.2.2.1, hR.2.2.2.2.2.2.2.2.2.2.2.2.2.2.1, hR.2.2.2.2.2.2.2.2.2.2.2.2.2.2.2.1, hR.2.2.2.2.2.2.2.2.2.2.2.2.2.2.2.2.1, hR.2.2.2.2.2.2.2.2.2.2.2.2.2.2.2.2.2.1, hR.2.2.2.2.2.2.2.2.2.2.2.2.2.2.2.2.2.2.1, hR.2.2.2.2.2.2.2.2.2.2.2.2.2.2.2.2.2.2.2.1, hR.2.2.2.2.2.2.2.2.2.2.2.2.2.2.2.2.2.2.2.2.1, hR.2.2.2.2.2.2.2.2.2.2.2.2.2.2.2.2.2.2.2.2.2.1, hR.2.2.2.2.2.2.2.2.2.2.2.2.2.2.2.2.2.2.2.2.2.2.1, hR.2.2.2.2.2.2.2.2.2.2.2.2.2.2.2.2.2.2.2.2.2.2.2.1, hR.2.2.2.2.2.2.2.2.2.2.2.2.2.2.2.2.2.2.2.2.2.2.2.2.1, hR.2.2.2.2.2.2.2.2.2.2.2.2.2.2.2.2.2.2.2.2.2.2.2.2.2.1, hR.2.2.2.2.2.2.2.2.2.2.2.2.2.2.2.2.2.2.2.2.2.2.2.2.2.2.1, hR.2.2.2.2.2.2.2.2.2.2.2.2.2.2.2.2.2.2.2.2.2.2.2.2.2.2.2.1, hR.2.2.2.2.2.2.2.2.2.2.2.2.2.2.2.2.2.2.2.2.2.2.2.2.2.2.2.2.1, hR.2.2.2.2.2.2.2.2.2.2.2.2.2.2.2.2.2.2.2.2.2.2.2.2.2.2.2.2.2.1, hR.2.2.2.2.2.2.2.2.2.2.2.2.2.2.2.2.2.2.2.2.2.2.2.2.2.2.2.2.2.2.1, hR.2.2.2.2.2.2.2.2.2.2.2.2.2.2.2.2.2.2.2.2.2.2.2.2.2.2.2.2.2.2.2.1, ?_, hR.2.2.2.2.2.2.2.2.2.2.2.2.2.2.2.2.2.2.2.2.2.2.2.2.2.2.2.2.2.2.2.2.2⟩, ⟨ho, fun j hj => by rcases hj with rfl | rfl <;> rfl, rfl⟩⟩
    · refine ep_bnd (ep_ctake1 (th := 22) (by decide) rfl (by omega) g3 (g2.trans g4) 256 m0) ?_
      rw [g1]
    · show (if _ then _ else _) = _
      rw [ep_rM _ _ 127 (by decide), g4, if_neg q0, ep_V, ep_rM _ _ 181 (by decide), ep_V, q3, ep_iM _ _ _ _ _ (by decide)]
      exact ep_bnd (ep_mshift (m := ep_mI m 127 64 (nI (n - 1))) (p := 181) (z := 64) (by decide) (by omega) (by rw [ep_mI1, ep_upd_eq]) c0) rfl
    · exact ⟨by show ep_sh (c.1 23) _ = ep_sh (m.1 181) _; rw [g1], rfl, n - 1, by omega, rfl⟩
theorem ep_path45 {N : Nat} {c : ep_C} {m : ep_M} (hR : ep_R N c m) (hN : N < 2 ^ 28) {h t e : Nat} (ho : ep_On m h t e) (p : Int32) : ep_Tc (N + 1) h t e c m (fun s => eF_3_answerOfPath s (eh_fp (nI t)) 45 p) (fun s => if (s.1 127 67) = (-1) then (Option.bind (eF_12_clearPath s (nI e)) (fun q62 => Option.bind (eF_12_happens q62 9 (nI h) 1 0 0) (fun q63 => some ((0 : Int32), q63)))) else (eh_J (fun (a65 : Int32) => some (a65, s)) (fun j64 => if (s.1 127 67) = nI e then (j64 (-2)) else (j64 (-3))))) := by
  have ht := ho.2.1
  have he := ho.2.2.1
  have hto := ho.2.2.2.2.1
  have f3 : ∀ m0, (ep_mk c m0).1 (eh_fp (nI t)) 3 = nI e := fun m0 => by rw [ep_rF0 _ _ ht, (hR.2.2.2.2.2.2.2.2.2.2.1 t ht).2.2.1, hto]
  have d14 : c.1 12 14 = m.1 127 67 := hR.2.2.2.2.2.2.2.2.2.2.2.2.2.2.2.2.2.2.2.2.2.2.2.2.2.2.2.2.1.2.2.2.2.2.2.2.2.1
  have em1 : ¬ nI e = -1 := ep_nI_ne_m1 (by omega)
  by_cases y1 : m.1 127 67 = -1
  · have y2 : ¬ (-1 : Int32) = nI e := fun z => em1 z.symm
    have R1 := ep_R_path hR (v := nI e) (Or.inr ⟨e, he, rfl⟩)
    have ho1 : ep_On (ep_mI (ep_mI (ep_mI m 127 67 (nI e)) 127 64 0) 127 66 0) h t e := ho
    obtain ⟨c2, m2, n1, n2, n3⟩ := ep_note R1 hN ho1 9 1 0 0
    refine ⟨0, c2, m2, fun m0 => ?_, fun c0 => ?_, n3.2.2, ep_Fm_tr (m1 := ep_mI (ep_mI (ep_mI m 127 67 (nI e)) 127 64 0) 127 66 0) ⟨ho1, fun j hj => by rcases hj with rfl | rfl <;> rfl, rfl⟩ (ep_Fm_W n3 ho1)⟩
    · show eF_3_answerOfPath (ep_mk c m0) _ _ _ = _
      have hcl : eF_3_claim (ep_mk c m0) (eh_fp (nI t)) 0 = some (0, ep_mk c2 m0) := by
        unfold eF_3_claim
        rw [if_pos rfl, ep_rC1 _ _ 12 (by decide), d14, y1, if_pos rfl, f3, ep_cgpath, ep_sb, n1 m0, ep_sb]
      unfold eF_3_answerOfPath
      rw [ep_J, f3, ep_rC1 _ _ 12 (by decide), d14, y1, if_neg y2]
      dsimp only
      rw [ep_J, if_neg (by decide), if_neg (by decide), if_pos rfl, hcl, ep_sb]
    · show (if _ then _ else _) = _
      rw [ep_rM _ _ 127 (by decide), y1, if_pos rfl, ep_mcpath, ep_sb, n2 c0, ep_sb]
  · by_cases y2 : m.1 127 67 = nI e
    · refine ep_Tc_mono (ep_Tc_no hR ho (ep_L_rf m) (-2) (fun m0 => ?_) (fun c0 => ?_)) (by omega)
      · show eF_3_answerOfPath (ep_mk c m0) _ _ _ = _
        have hcl : eF_3_claim (ep_mk c m0) (eh_fp (nI t)) 1 = some (-2, ep_mk c m0) := by
          unfold eF_3_claim
          rw [if_neg (by decide)]
        unfold eF_3_answerOfPath
        rw [ep_J, f3, ep_rC1 _ _ 12 (by decide), d14, if_pos y2]
        dsimp only
        rw [ep_J, if_neg (by decide), if_neg (by decide), if_pos rfl, hcl, ep_sb]
      · show (if _ then _ else _) = _
        rw [ep_rM _ _ 127 (by decide), if_neg y1, ep_J, if_pos y2]
    · refine ep_Tc_mono (ep_Tc_no hR ho (ep_L_rf m) (-3) (fun m0 => ?_) (fun c0 => ?_)) (by omega)
      · show eF_3_answerOfPath (ep_mk c m0) _ _ _ = _
        have hcl : eF_3_claim (ep_mk c m0) (eh_fp (nI t)) 0 = some (-3, ep_mk c m0) := by
          unfold eF_3_claim
          rw [if_pos rfl, ep_rC1 _ _ 12 (by decide), d14, if_neg y1]
        unfold eF_3_answerOfPath
        rw [ep_J, f3, ep_rC1 _ _ 12 (by decide), d14, if_neg y2]
        dsimp only
        rw [ep_J, if_neg (by decide), if_neg (by decide), if_pos rfl, hcl, ep_sb]
      · show (if _ then _ else _) = _
        rw [ep_rM _ _ 127 (by decide), if_neg y1, ep_J, if_neg y2]
theorem ep_path468 {N : Nat} {c : ep_C} {m : ep_M} (hR : ep_R N c m) (hN : N < 2 ^ 28) {h t e : Nat} (ho : ep_On m h t e) {f : Int32} (hf : f = 46 ∨ f = 47 ∨ f = 48) (p : Int32) : ep_Tc (N + 1) h t e c m (fun s => eF_3_answerOfPath s (eh_fp (nI t)) f p) (fun s => eh_J (fun (a6 : Int32) (s7 : eh_F) => some (a6, s7)) (fun j5 => if (s.1 127 67) = nI e then (Option.bind (eF_12_onPath s (nI h) f p) (fun q9 => j5 q9.1 q9.2)) else (j5 (-2) s))) := by
  have ht := ho.2.1
  have he := ho.2.2.1
  have hto := ho.2.2.2.2.1
  have f3 : ∀ m0, (ep_mk c m0).1 (eh_fp (nI t)) 3 = nI e := fun m0 => by rw [ep_rF0 _ _ ht, (hR.2.2.2.2.2.2.2.2.2.2.1 t ht).2.2.1, hto]
  have d14 : c.1 12 14 = m.1 127 67 := hR.2.2.2.2.2.2.2.2.2.2.2.2.2.2.2.2.2.2.2.2.2.2.2.2.2.2.2.2.1.2.2.2.2.2.2.2.2.1
  have g1 : ¬ f < 45 := by rcases hf with rfl | rfl | rfl <;> decide
  have g2 : ¬ 48 < f := by rcases hf with rfl | rfl | rfl <;> decide
  have g3 : ¬ f = 45 := by rcases hf with rfl | rfl | rfl <;> decide
  by_cases y : m.1 127 67 = nI e
  · have cA : ∀ m0, eF_3_answerOfPath (ep_mk c m0) (eh_fp (nI t)) f p = (if f = 46 then (Option.bind (eF_0_givePath (ep_mk c m0) (-1)) (fun q11 => Option.bind (eF_5_note q11 9 (eh_fp (nI t)) 0 0 0) (fun q12 => some (0, q12)))) else (if f = 47 then (Option.bind (eF_8_add (ep_mk c m0) 24 (p &&& 255)) (fun q14 => eh_J (fun (a16 : Int32) => some (a16, q14.2)) (fun j15 => if q14.1 = 0 then (j15 (-5)) else (j15 (q14.2.1 24 1))))) else (Option.bind (eF_8_takeFirst (ep_mk c m0) 22 256) (fun q18 => some (q18.1, q18.2))))) := fun m0 => by
      unfold eF_3_answerOfPath
      rw [ep_J, f3, ep_rC1 _ _ 12 (by decide), d14, if_pos y]
      dsimp only
      rw [ep_J, if_neg g1, if_neg g2, if_neg g3, if_neg (show ¬ (1 : Int32) = 0 by decide)]
    have cB : ∀ (s : eh_F), (eh_J (fun (a6 : Int32) (s7 : eh_F) => some (a6, s7)) (fun j5 => if nI e = nI e then (Option.bind (eF_12_onPath s (nI h) f p) (fun q9 => j5 q9.1 q9.2)) else (j5 (-2) s))) = eF_12_onPath s (nI h) f p := fun s => by
      rw [ep_J, if_pos rfl]
      exact ep_beta _
    have st : ∀ {F G : eh_F → Option (Int32 × eh_F)}, ep_Tc (N + 1) h t e c m F G → (∀ m0, eF_3_answerOfPath (ep_mk c m0) (eh_fp (nI t)) f p = F (ep_mk c m0)) → (∀ c0, eF_12_onPath (ep_mk c0 m) (nI h) f p = G (ep_mk c0 m)) → ep_Tc (N + 1) h t e c m (fun s => eF_3_answerOfPath s (eh_fp (nI t)) f p) (fun s => eh_J (fun (a6 : Int32) (s7 : eh_F) => some (a6, s7)) (fun j5 => if (s.1 127 67) = nI e then (Option.bind (eF_12_onPath s (nI h) f p) (fun q9 => j5 q9.1 q9.2)) else (j5 (-2) s))) := by
      intro F G hT h1 h2
      obtain ⟨r, c', m', x1, x2, x3⟩ := hT
      refine ⟨r, c', m', fun m0 => (h1 m0).trans (x1 m0), fun c0 => ?_, x3⟩
      show (eh_J _ (fun j5 => if (ep_mk c0 m).1 127 67 = nI e then _ else _)) = _
      rw [ep_rM _ _ 127 (by decide), y]
      exact (cB (ep_mk c0 m)).trans ((h2 c0).trans (x2 c0))
    rcases hf with rfl | rfl | rfl
    · have R1 := ep_R_path hR (v := -1) (Or.inl rfl)
      have ho1 : ep_On (ep_mI (ep_mI (ep_mI m 127 67 (-1)) 127 64 0) 127 66 0) h t e := ho
      obtain ⟨c2, m2, n1, n2, n3⟩ := ep_note R1 hN ho1 9 0 0 0
      refine st (F := fun s => Option.bind (eF_0_givePath s (-1)) (fun q11 => Option.bind (eF_5_note q11 9 (eh_fp (nI t)) 0 0 0) (fun q12 => some (0, q12)))) (G := fun s => Option.bind (eF_12_clearPath s (-1)) (fun q2 => Option.bind (eF_12_happens q2 9 (nI h) 0 0 0) (fun q3 => some (0, q3)))) ⟨0, c2, m2, fun m0 => ?_, fun c0 => ?_, n3.2.2, ep_Fm_tr (m1 := ep_mI (ep_mI (ep_mI m 127 67 (-1)) 127 64 0) 127 66 0) ⟨ho1, fun j hj => by rcases hj with rfl | rfl <;> rfl, rfl⟩ (ep_Fm_W n3 ho1)⟩ (fun m0 => ?_) (fun c0 => ?_)
      · show Option.bind _ _ = _
        rw [ep_cgpath, ep_sb, n1 m0, ep_sb]
      · show Option.bind _ _ = _
        rw [ep_mcpath, ep_sb, n2 c0, ep_sb]
      · rw [cA, if_pos rfl]
      · unfold eF_12_onPath
        rw [if_pos rfl]
    · refine st (ep_Tc_mono (ep_padd hR ho p) (by omega)) (fun m0 => ?_) (fun c0 => ?_)
      · rw [cA, if_neg (by decide), if_pos rfl]
      · unfold eF_12_onPath
        rw [if_neg (by decide), if_pos rfl]
    · refine st (ep_Tc_mono (ep_pkey hR ho) (by omega)) (fun m0 => ?_) (fun c0 => ?_)
      · rw [cA, if_neg (by decide), if_neg (by decide)]
      · unfold eF_12_onPath
        rw [if_neg (by decide), if_neg (by decide)]
  · refine ep_Tc_mono (ep_Tc_no hR ho (ep_L_rf m) (-2) (fun m0 => ?_) (fun c0 => ?_)) (by omega)
    · show eF_3_answerOfPath (ep_mk c m0) _ _ _ = _
      unfold eF_3_answerOfPath
      rw [ep_J, f3, ep_rC1 _ _ 12 (by decide), d14, if_neg y]
      dsimp only
      rw [ep_J, if_neg g1, if_neg g2, if_neg g3, if_pos rfl]
    · show eh_J _ _ = _
      rw [ep_J, ep_rM _ _ 127 (by decide), if_neg y]
theorem ep_pathno {N : Nat} {c : ep_C} {m : ep_M} (hR : ep_R N c m) {h t e : Nat} (ho : ep_On m h t e) {f : Int32} (hf : ¬ f = 45 ∧ ¬ f = 46 ∧ ¬ f = 47 ∧ ¬ f = 48) (p : Int32) (m0 : ep_M) : eF_3_answerOfPath (ep_mk c m0) (eh_fp (nI t)) f p = some (-1, ep_mk c m0) := by
  have hlt : f < 45 ∨ 48 < f := by
    by_cases y1 : f < 45
    · exact Or.inl y1
    · right
      rw [Int32.lt_iff_toInt_lt] at y1 ⊢
      have e45 : (45 : Int32).toInt = 45 := by decide
      have e48 : (48 : Int32).toInt = 48 := by decide
      rw [e45] at y1
      rw [e48]
      have n1 : f.toInt ≠ 45 := fun z => hf.1 (Int32.toInt_inj.mp (by rw [z]; decide))
      have n2 : f.toInt ≠ 46 := fun z => hf.2.1 (Int32.toInt_inj.mp (by rw [z]; decide))
      have n3 : f.toInt ≠ 47 := fun z => hf.2.2.1 (Int32.toInt_inj.mp (by rw [z]; decide))
      have n4 : f.toInt ≠ 48 := fun z => hf.2.2.2 (Int32.toInt_inj.mp (by rw [z]; decide))
      omega
  unfold eF_3_answerOfPath
  simp only [ep_J]
  have hfin : ∀ a2 : Int32, (if f < 45 then some ((-1 : Int32), ep_mk c m0) else (if 48 < f then some (-1, ep_mk c m0) else (if f = 45 then (Option.bind (eF_3_claim (ep_mk c m0) (eh_fp (nI t)) a2) (fun q8 => some (q8.1, q8.2))) else (if a2 = 0 then (some ((-2), ep_mk c m0)) else (if f = 46 then (Option.bind (eF_0_givePath (ep_mk c m0) (-1)) (fun q11 => Option.bind (eF_5_note q11 9 (eh_fp (nI t)) 0 0 0) (fun q12 => some (0, q12)))) else (if f = 47 then (Option.bind (eF_8_add (ep_mk c m0) 24 (p &&& 255)) (fun q14 => if q14.1 = 0 then some (-5, q14.2) else some (q14.2.1 24 1, q14.2))) else (Option.bind (eF_8_takeFirst (ep_mk c m0) 22 256) (fun q18 => some (q18.1, q18.2))))))))) = some (-1, ep_mk c m0) := fun a2 => by
    rcases hlt with z | z
    · rw [if_pos z]
    · by_cases y1 : f < 45
      · rw [if_pos y1]
      · rw [if_neg y1, if_pos z]
  by_cases y : (ep_mk c m0).1 12 14 = (ep_mk c m0).1 (eh_fp (nI t)) 3
  · rw [if_pos y]; exact hfin 1
  · rw [if_neg y]; exact hfin 0
