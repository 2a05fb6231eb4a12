/-! calls of threads, all of them -/
theorem ep_R_fpc {N : Nat} {c : ep_C} {m : ep_M} (hR : ep_R N c m) {t : Nat} (ht : t < 12) {v : Int32} (hv : ep_al v) : ep_R N (ep_cH c 2 t 2 v) (ep_mI m 130 (2 + t) v) := by
  refine ⟨hR.1, hR.2.1, hR.2.2.1, hR.2.2.2.1, hR.2.2.2.2.1, hR.2.2.2.2.2.1, hR.2.2.2.2.2.2.1, ?_, ?_, hR.2.2.2.2.2.2.2.2.2.1, ?_, ?_, hR.2.2.2.2.2.2.2.2.2.2.2.2.1, ?_, hR.2.2.2.2.2.2.2.2.2.2.2.2.2.2.1, hR.2.2.2.2.2.2.2.2.2.2.2.2.2.2.2.1, hR.2.2.2.2.2.2.2.2.2.2.2.2.2.2.2.2.1, hR.2.2.2.2.2.2.2.2.2.2.2.2.2.2.2.2.2.1, hR.2.2.2.2.2.2.2.2.2.2.2.2.2.2.2.2.2.2.1, hR.2.2.2.2.2.2.2.2.2.2.2.2.2.2.2.2.2.2.2.1, hR.2.2.2.2.2.2.2.2.2.2.2.2.2.2.2.2.2.2.2.2.1, hR.2.2.2.2.2.2.2.2.2.2.2.2.2.2.2.2.2.2.2.2.2.1, hR.2.2.2.2.2.2.2.2.2.2.2.2.2.2.2.2.2.2.2.2.2.2.1, hR.2.2.2.2.2.2.2.2.2.2.2.2.2.2.2.2.2.2.2.2.2.2.2.1, hR.2.2.2.2.2.2.2.2.2.2.2.2.2.2.2.2.2.2.2.2.2.2.2.2.1, hR.2.2.2.2.2.2.2.2.2.2.2.2.2.2.2.2.2.2.2.2.2.2.2.2.2.1, hR.2.2.2.2.2.2.2.2.2.2.2.2.2.2.2.2.2.2.2.2.2.2.2.2.2.2.1, hR.2.2.2.2.2.2.2.2.2.2.2.2.2.2.2.2.2.2.2.2.2.2.2.2.2.2.2.1, hR.2.2.2.2.2.2.2.2.2.2.2.2.2.2.2.2.2.2.2.2.2.2.2.2.2.2.2.2.1, hR.2.2.2.2.2.2.2.2.2.2.2.2.2.2.2.2.2.2.2.2.2.2.2.2.2.2.2.2.2.1, hR.2.2.2.2.2.2.2.2.2.2.2.2.2.2.2.2.2.2.2.2.2.2.2.2.2.2.2.2.2.2.1, hR.2.2.2.2.2.2.2.2.2.2.2.2.2.2.2.2.2.2.2.2.2.2.2.2.2.2.2.2.2.2.2.1, hR.2.2.2.2.2.2.2.2.2.2.2.2.2.2.2.2.2.2.2.2.2.2.2.2.2.2.2.2.2.2.2.2.1, hR.2.2.2.2.2.2.2.2.2.2.2.2.2.2.2.2.2.2.2.2.2.2.2.2.2.2.2.2.2.2.2.2.2⟩
  · intro h' hh'
    obtain ⟨a0, a2, a3⟩ := hR.2.2.2.2.2.2.2.1 h' hh'
    exact ⟨a0, (by show c.2.1 0 h' 2 = upd (m.1 130) (2 + t) v h'; rw [ep_upd_ne (by omega)]; exact a2), a3⟩
  · intro h' hh'
    obtain ⟨b1, b2⟩ := hR.2.2.2.2.2.2.2.2.1 h' hh'
    exact ⟨(by show ep_al (upd (m.1 130) (2 + t) v h'); rw [ep_upd_ne (by omega)]; exact b1), b2⟩
  · intro t' ht'
    obtain ⟨a0, a2, a3⟩ := hR.2.2.2.2.2.2.2.2.2.2.1 t' ht'
    by_cases y : t' = t
    · subst y
      rw [ep_cHs]
      exact ⟨a0, (by show v = upd (m.1 130) (2 + t') v (2 + t'); rw [ep_upd_eq]), a3⟩
    · rw [ep_cHh _ _ _ _ _ _ y]
      exact ⟨a0, (by show c.2.1 2 t' 2 = upd (m.1 130) (2 + t) v (2 + t'); rw [ep_upd_ne (by omega)]; exact a2), a3⟩
  · intro t' ht'
    obtain ⟨b1, b2⟩ := hR.2.2.2.2.2.2.2.2.2.2.2.1 t' ht'
    refine ⟨?_, b2⟩
    show ep_al (upd (m.1 130) (2 + t) v (2 + t'))
    by_cases y : t' = t
    · subst y; rw [ep_upd_eq]; exact hv
    · rw [ep_upd_ne (by omega)]; exact b1
  · intro t' ht' hs'
    by_cases y : t' = t
    · subst y; rw [ep_cHs]; exact hR.2.2.2.2.2.2.2.2.2.2.2.2.2.1 t' ht' hs'
    · rw [ep_cHh _ _ _ _ _ _ y]; exact hR.2.2.2.2.2.2.2.2.2.2.2.2.2.1 t' ht' hs'
theorem ep_al_add {x p : Int32} (hx : ep_al x) : ((x + p) &&& 3 = 0) ↔ p &&& 3 = 0 := by
  unfold ep_al at hx
  rw [pk_and x (m := 3) 2 rfl, show (0 : Int32) = nI 0 from rfl, nI_eq (by omega) (by decide)] at hx
  rw [pk_and (x + p) (m := 3) 2 rfl, pk_and p (m := 3) 2 rfl, show (0 : Int32) = nI 0 from rfl, nI_eq (by omega) (by decide), nI_eq (by omega) (by decide), Int32.toBitVec_add, BitVec.toNat_add]
  omega
def ep_TC (N' h t : Nat) (c : ep_C) (m : ep_M) (pc : Int32) : Prop := ∃ c' m', (∀ m0, eF_3_serve (ep_mk c m0) (eh_hp (nI h)) (eh_fp (nI t)) = some (ep_mk c' m0)) ∧ (∀ c0, eF_12_threadCall (ep_mk c0 m) (nI h) pc = some (ep_mk c0 m')) ∧ m'.1 127 83 = -1 ∧ ep_R N' c' (ep_mI m' 130 (2 + t) (m'.1 127 85))
theorem ep_tgo {N' h t e : Nat} {c : ep_C} {m : ep_M} {pc : Int32} {F G : eh_F → Option (Int32 × eh_F)} (hT : ep_Tc N' h t e c m F G) (hR : ep_R N' c m) (ho : ep_On m h t e) (h83 : m.1 127 83 = -1) (h85 : m.1 127 85 = m.1 130 (2 + t) + 4) (hc : ∀ m0, eF_3_serve (ep_mk c m0) (eh_hp (nI h)) (eh_fp (nI t)) = Option.bind (F (ep_mk c m0)) (fun q => Option.bind (eF_3_goOn q.2 (eh_fp (nI t)) q.1) (fun q' => some q'))) (hm : ∀ c0, eF_12_threadCall (ep_mk c0 m) (nI h) pc = Option.bind (G (ep_mk c0 m)) (fun q28 => if eh_in (nI (32 * (2 + t) + 10)) 448 = true then eh_V (eh_tI q28.2 129 (32 * (2 + t) + 10) q28.1) (fun s29 => some s29) else none)) : ep_TC N' h t c m pc := by
  obtain ⟨r, c', m', a, b, R1, ho', f1, f2⟩ := hT
  have ht := ho.2.1
  have hal : ep_al (m.1 130 (2 + t) + 4) := ep_al4 (hR.2.2.2.2.2.2.2.2.2.2.2.1 t ht).1
  have R2 := ep_R_fpc (ep_R_fx R1 ht (j := 10) (by decide) r) ht hal
  have e2 : (ep_cH c' 3 t 10 r).2.1 2 t 2 = m.1 130 (2 + t) := by
    rw [ep_cHi _ _ _ _ _ _ _ (by decide), (R1.2.2.2.2.2.2.2.2.2.2.1 t ht).2.1, f2]
  refine ⟨ep_cH (ep_cH c' 3 t 10 r) 2 t 2 (m.1 130 (2 + t) + 4), ep_mI m' 129 (32 * (2 + t) + 10) r, fun m0 => ?_, fun c0 => ?_, ?_, ?_⟩
  · rw [hc, a m0, ep_sb]
    unfold eF_3_goOn
    rw [ep_V, ep_iF1 _ _ _ _ ht, ep_V, ep_rF0 _ _ ht, e2, ep_iF0 _ _ _ _ ht, ep_sb]
  · rw [hm, b c0, ep_sb, if_pos (ep_in (by omega) (by decide)), ep_V, ep_iM _ _ _ _ _ (by decide)]
  · show m'.1 127 83 = -1
    rw [f1 83 (Or.inl rfl), h83]
  · show ep_R N' _ (ep_mI (ep_mI m' 129 (32 * (2 + t) + 10) r) 130 (2 + t) (m'.1 127 85))
    rw [f1 85 (Or.inr rfl), h85]
    exact R2
theorem ep_lve_130 (m : ep_M) (h t k : Nat) (st why val v : Int32) : ep_lve (ep_mI m 130 k v) h t st why val = ep_mI (ep_lve m h t st why val) 130 k v := by
  refine Prod.ext ?_ rfl
  funext a
  simp only [ep_lve, ep_mI, ep_mL, ep_uf]
  by_cases h1 : a = 129
  · subst h1; simp
  · by_cases h2 : a = 130
    · subst h2; simp
    · by_cases h3 : a = 147
      · subst h3; simp
      · by_cases h4 : a = 144
        · subst h4; simp
        · by_cases h5 : a = 148
          · subst h5; simp
          · simp [h1, h2, h3, h4, h5]
set_option maxHeartbeats 8000000 in
theorem ep_tcall {N : Nat} {c : ep_C} {m : ep_M} (hR : ep_R N c m) (hN : N + 300 < 2 ^ 28) {h t e : Nat} (ho : ep_On m h t e) (h83 : m.1 127 83 = -1) (h85 : m.1 127 85 = m.1 130 (2 + t) + 4) (pc : Int32) : ep_TC (N + 264) h t c m pc := by
  have hh := ho.1
  have ht := ho.2.1
  have he := ho.2.2.1
  have hru := ho.2.2.2.1
  have hto := ho.2.2.2.2.1
  have hst : m.1 148 t ≠ 0 := by rw [ho.2.2.2.2.2.2]; decide
  have gx := hR.2.2.2.2.2.2.2.2.2.2.2.2.1 t ht hst
  have gf := hR.2.2.2.2.2.2.2.2.2.2.1 t ht
  have i6 : eh_in (nI e) 6 = true := ep_in he (by decide)
  have f3 : ∀ m0, (ep_mk c m0).1 (eh_fp (nI t)) 3 = nI e := fun m0 => by rw [ep_rF0 _ _ ht, gf.2.2.1, hto]
  obtain ⟨P, hP⟩ : ∃ P, P = m.1 129 (32 * (2 + t) + 10) := ⟨_, rfl⟩
  obtain ⟨Q, hQ⟩ : ∃ Q, Q = m.1 129 (32 * (2 + t) + 11) := ⟨_, rfl⟩
  obtain ⟨A, hA⟩ : ∃ A, A = m.1 129 (32 * (2 + t) + 17) := ⟨_, rfl⟩
  have c10 : ∀ m0, (ep_mk c m0).1 (eh_fp (nI t) + 1) 10 = P := fun m0 => by rw [ep_rF1 _ _ ht, gx 10 (by decide), hP]
  have c11 : ∀ m0, (ep_mk c m0).1 (eh_fp (nI t) + 1) 11 = Q := fun m0 => by rw [ep_rF1 _ _ ht, gx 11 (by decide), hQ]
  have c17 : ∀ m0, (ep_mk c m0).1 (eh_fp (nI t) + 1) 17 = A := fun m0 => by rw [ep_rF1 _ _ ht, gx 17 (by decide), hA]
  have c9 : ∀ m0, (ep_mk c m0).1 (eh_fp (nI t)) 9 = m.1 153 t := fun m0 => by rw [ep_rF0 _ _ ht, gf.2.2.2.2.2.2.2.1]
  obtain ⟨H, hH1, hH0⟩ : ∃ H : Int32, (¬ H = 0 → ¬ m.1 153 t = 0 ∧ P &&& 3 = 0) ∧ (H = 0 → m.1 153 t = 0 ∨ ¬ P &&& 3 = 0) ∧ ∀ {α : Type} (X : Int32 → Option α) (m0 : ep_M), eh_J X (fun j3 => eh_J (fun (u59 : Unit) => j3 0) (fun j58 => if ((ep_mk c m0).1 (eh_fp (nI t)) 9) = 0 then (j58 ()) else (if (P &&& 3) = 0 then (j3 1) else (j58 ())))) = X H := by
    by_cases y1 : m.1 153 t = 0
    · refine ⟨0, fun z => absurd rfl z, fun _ => Or.inl y1, fun X m0 => ?_⟩
      rw [ep_J, ep_J, c9, if_pos y1]
    · by_cases y2 : P &&& 3 = 0
      · refine ⟨1, fun _ => ⟨y1, y2⟩, fun z => absurd z (by decide), fun X m0 => ?_⟩
        rw [ep_J, ep_J, c9, if_neg y1, if_pos y2]
      · refine ⟨0, fun z => absurd rfl z, fun _ => Or.inr y2, fun X m0 => ?_⟩
        rw [ep_J, ep_J, c9, if_neg y1, if_neg y2]
  obtain ⟨hH0, hHX⟩ := hH0
  have i2 : eh_in (nI h) 2 = true := ep_in hh (by decide)
  have x2 : eh_ix (nI h) = h := ep_ix (by omega)
  have i12 : eh_in (nI t) 12 = true := ep_in ht (by decide)
  have x12 : eh_ix (nI t) = t := ep_ix (by omega)
  have tm1 : ¬ nI t = -1 := ep_nI_ne_m1 (by omega)
  have who : ∀ c0, eF_12_who (ep_mk c0 m) (nI h) = some (nI (2 + t)) := fun c0 => by
    unfold eF_12_who
    rw [if_pos i2, ep_J, x2, ep_rM _ _ 144 (by decide), hru, if_neg tm1, if_pos i2]
    show some ((2 : Int32) + nI t) = _
    rw [show (2 : Int32) = nI 2 from rfl, nI_add]
  have q32 : (32 : Int32) * nI (2 + t) = nI (32 * (2 + t)) := ep_mul (b := 32) rfl rfl
  have q10 : nI (32 * (2 + t)) + 10 = nI (32 * (2 + t) + 10) := ep_addn _ 10
  have q11 : nI (32 * (2 + t)) + 11 = nI (32 * (2 + t) + 11) := ep_addn _ 11
  have q17 : nI (32 * (2 + t)) + 17 = nI (32 * (2 + t) + 17) := ep_addn _ 17
  have j10 : eh_in (nI (32 * (2 + t) + 10)) 448 = true := ep_in (by omega) (by decide)
  have j11 : eh_in (nI (32 * (2 + t) + 11)) 448 = true := ep_in (by omega) (by decide)
  have j17 : eh_in (nI (32 * (2 + t) + 17)) 448 = true := ep_in (by omega) (by decide)
  have y10 : eh_ix (nI (32 * (2 + t) + 10)) = 32 * (2 + t) + 10 := ep_ix (by omega)
  have y11 : eh_ix (nI (32 * (2 + t) + 11)) = 32 * (2 + t) + 11 := ep_ix (by omega)
  have y17 : eh_ix (nI (32 * (2 + t) + 17)) = 32 * (2 + t) + 17 := ep_ix (by omega)
  have hRm := ep_R_mono hR (show N ≤ N + 264 by omega)
  -- answers
  have mA : ¬ A = 32 → ¬ A = 33 → ¬ A = 44 → ∀ c0, eF_12_threadCall (ep_mk c0 m) (nI h) pc = Option.bind (eF_12_answered (ep_mk c0 m) (nI h) (nI t) (nI e) A P Q) (fun q28 => if eh_in (nI (32 * (2 + t) + 10)) 448 = true then eh_V (eh_tI q28.2 129 (32 * (2 + t) + 10) q28.1) (fun s29 => some s29) else none) := by
    intro f32 f33 f44 c0
    unfold eF_12_threadCall
    rw [who, ep_sb, ep_V, q32, q10, if_pos j10, ep_V, q11, if_pos j11, ep_V, if_pos i2, ep_V, q17, if_pos j17, ep_V, ep_J, y10, y11, y17, x2, ep_rM _ _ 129 (by decide), ep_rM _ _ 144 (by decide), ← hP, ← hQ, ← hA, hru, if_neg f32, if_neg f33, if_neg f44, if_pos i12, x12, ep_rM _ _ 149 (by decide), hto]
    first | rfl | rw [if_pos j17]
  have go : ∀ {F G : eh_F → Option (Int32 × eh_F)}, ep_Tc (N + 264) h t e c m F G → ¬ A = 32 → ¬ A = 33 → ¬ A = 44 → (∀ m0, eF_3_serve (ep_mk c m0) (eh_hp (nI h)) (eh_fp (nI t)) = Option.bind (F (ep_mk c m0)) (fun q => Option.bind (eF_3_goOn q.2 (eh_fp (nI t)) q.1) (fun q' => some q'))) → (∀ c0, eF_12_answered (ep_mk c0 m) (nI h) (nI t) (nI e) A P Q = G (ep_mk c0 m)) → ep_TC (N + 264) h t c m pc := by
    intro F G hT f32 f33 f44 h1 h2
    exact ep_tgo hT hRm ho h83 h85 h1 (fun c0 => by rw [mA f32 f33 f44 c0, h2 c0])
  have hal : ep_al (m.1 130 (2 + t) + 4) := ep_al4 (hR.2.2.2.2.2.2.2.2.2.2.2.1 t ht).1
  by_cases f32 : A = 32
  · obtain ⟨c1, m1, n1, n2, W1⟩ := ep_note hR (by omega) ho 1 P 0 0
    have ho1 := ep_W_On W1 ho
    have hF1 := ep_Fm_W W1 ho
    have R1 := W1.2.2
    have R2 := ep_R_fpc R1 ht hal
    have ho2 : ep_On (ep_mI m1 130 (2 + t) (m.1 130 (2 + t) + 4)) h t e := ho1
    obtain ⟨L1, -, R3⟩ := ep_leave_ R2 ho2 (st := 1) (by decide) (by decide) 0 P
    obtain ⟨-, L2, -⟩ := ep_leave_ R1 ho1 (st := 1) (by decide) (by decide) 0 P
    refine ⟨ep_cease (ep_cH c1 2 t 2 (m.1 130 (2 + t) + 4)) h t 1 0 P, ep_lve m1 h t 1 0 P, fun m0 => ?_, fun c0 => ?_, ?_, ?_⟩
    rotate_left 3
    · show ep_R (N + 264) _ (ep_mI (ep_lve m1 h t 1 0 P) 130 (2 + t) (m1.1 127 85))
      rw [hF1.2.1 85 (Or.inr rfl), h85, ← ep_lve_130]
      exact ep_R_mono R3 (by omega)
    · have hl : eF_3_leave (ep_mk c m0) (eh_hp (nI h)) (eh_fp (nI t)) 1 1 0 = some (ep_mk (ep_cease (ep_cH c1 2 t 2 (m.1 130 (2 + t) + 4)) h t 1 0 P) m0) := by
        unfold eF_3_leave
        rw [ep_V, c10, n1 m0, ep_sb, ep_V, ep_rF0 _ _ ht, (R1.2.2.2.2.2.2.2.2.2.2.1 t ht).2.1, hF1.2.2, ep_iF0 _ _ _ _ ht, L1 m0, ep_sb]
      unfold eF_3_serve
      rw [ep_V, ep_V, c10, c11, hHX, ep_V, c17, ep_J, ep_J, if_pos f32]
      exact ep_bnd hl rfl
    · unfold eF_12_threadCall
      rw [who, ep_sb, ep_V, q32, q10, if_pos j10, ep_V, q11, if_pos j11, ep_V, if_pos i2, ep_V, q17, if_pos j17, ep_V, ep_J, y10, y11, y17, x2, ep_rM _ _ 129 (by decide), ep_rM _ _ 144 (by decide), ← hP, ← hQ, ← hA, hru, if_pos f32, n2 c0, ep_sb, L2 c0, ep_sb]
    · show m1.1 127 83 = -1
      rw [hF1.2.1 83 (Or.inl rfl), h83]
  by_cases f33 : A = 33
  · obtain ⟨c1, m1, n1, n2, W1⟩ := ep_note hR (by omega) ho 2 P 0 0
    have ho1 := ep_W_On W1 ho
    have hF1 := ep_Fm_W W1 ho
    have R1 := W1.2.2
    have R2 := ep_R_fpc R1 ht hal
    have ho2 : ep_On (ep_mI m1 130 (2 + t) (m.1 130 (2 + t) + 4)) h t e := ho1
    obtain ⟨L1, -, R3⟩ := ep_leave_ R2 ho2 (st := 4) (by decide) (by decide) 1 P
    obtain ⟨-, L2, -⟩ := ep_leave_ R1 ho1 (st := 4) (by decide) (by decide) 1 P
    refine ⟨ep_cease (ep_cH c1 2 t 2 (m.1 130 (2 + t) + 4)) h t 4 1 P, ep_lve m1 h t 4 1 P, fun m0 => ?_, fun c0 => ?_, ?_, ?_⟩
    rotate_left 3
    · show ep_R (N + 264) _ (ep_mI (ep_lve m1 h t 4 1 P) 130 (2 + t) (m1.1 127 85))
      rw [hF1.2.1 85 (Or.inr rfl), h85, ← ep_lve_130]
      exact ep_R_mono R3 (by omega)
    · have hl : eF_3_leave (ep_mk c m0) (eh_hp (nI h)) (eh_fp (nI t)) 2 4 1 = some (ep_mk (ep_cease (ep_cH c1 2 t 2 (m.1 130 (2 + t) + 4)) h t 4 1 P) m0) := by
        unfold eF_3_leave
        rw [ep_V, c10, n1 m0, ep_sb, ep_V, ep_rF0 _ _ ht, (R1.2.2.2.2.2.2.2.2.2.2.1 t ht).2.1, hF1.2.2, ep_iF0 _ _ _ _ ht, L1 m0, ep_sb]
      unfold eF_3_serve
      rw [ep_V, ep_V, c10, c11, hHX, ep_V, c17, ep_J, ep_J, if_neg f32, if_pos f33]
      exact ep_bnd hl rfl
    · unfold eF_12_threadCall
      rw [who, ep_sb, ep_V, q32, q10, if_pos j10, ep_V, q11, if_pos j11, ep_V, if_pos i2, ep_V, q17, if_pos j17, ep_V, ep_J, y10, y11, y17, x2, ep_rM _ _ 129 (by decide), ep_rM _ _ 144 (by decide), ← hP, ← hQ, ← hA, hru, if_neg f32, if_pos f33, n2 c0, ep_sb, L2 c0, ep_sb]
    · show m1.1 127 83 = -1
      rw [hF1.2.1 83 (Or.inl rfl), h83]
  by_cases f44 : A = 44
  · have q4 : (4 : Int32) * nI t = nI (4 * t) := ep_mul (b := 4) rfl rfl
    have q41 : nI (4 * t) + 1 = nI (4 * t + 1) := nI_1 _
    have q42 : nI (4 * t) + 2 = nI (4 * t + 2) := ep_p2 _
    have q43 : nI (4 * t) + 3 = nI (4 * t + 3) := ep_p3 _
    have k0 : eh_in (nI (4 * t)) 48 = true := ep_in (by omega) (by decide)
    have k1 : eh_in (nI (4 * t + 1)) 48 = true := ep_in (by omega) (by decide)
    have k2 : eh_in (nI (4 * t + 2)) 48 = true := ep_in (by omega) (by decide)
    have k3 : eh_in (nI (4 * t + 3)) 48 = true := ep_in (by omega) (by decide)
    have z0 : eh_ix (nI (4 * t)) = 4 * t := ep_ix (by omega)
    have z1 : eh_ix (nI (4 * t + 1)) = 4 * t + 1 := ep_ix (by omega)
    have z2 : eh_ix (nI (4 * t + 2)) = 4 * t + 2 := ep_ix (by omega)
    have z3 : eh_ix (nI (4 * t + 3)) = 4 * t + 3 := ep_ix (by omega)
    obtain ⟨fa1, fa2, fa3, fa4, fa5⟩ := hR.2.2.2.2.2.2.2.2.2.2.2.1 t ht
    have hadd := ep_al_add (p := P) fa4
    have pre : ∀ c0, eF_12_threadCall (ep_mk c0 m) (nI h) pc = (if m.1 153 t = 0 then eh_V (eh_tI (ep_mk c0 m) 129 (32 * (2 + t) + 10) (-1)) (fun s20 => some s20) else (if ((m.1 154 (4 * t + 2) + P) &&& 3) = 0 then some (ep_mk c0 (ep_mI (ep_mI (ep_mI (ep_mI (ep_mI m 129 (32 * (2 + t) + 10) (m.1 154 (4 * t))) 129 (32 * (2 + t) + 11) (m.1 154 (4 * t + 1))) 152 t (m.1 154 (4 * t + 3))) 153 t (eh_nz 0)) 127 85 (m.1 154 (4 * t + 2) + P))) else eh_V (eh_tI (ep_mk c0 m) 129 (32 * (2 + t) + 10) (-1)) (fun s20 => some s20))) := by
      intro c0
      unfold eF_12_threadCall
      rw [who, ep_sb, ep_V, q32, q10, if_pos j10, ep_V, q11, if_pos j11, ep_V, if_pos i2, ep_V, q17, if_pos j17, ep_V, ep_J, y10, y11, y17, x2, ep_rM _ _ 129 (by decide), ep_rM _ _ 144 (by decide), ← hP, ← hQ, ← hA, hru, if_neg f32, if_neg f33, if_pos f44, q4, q42, if_pos k2, ep_V, z2, ep_rM _ _ 154 (by decide), if_pos i12, x12, ep_J, ep_rM _ _ 153 (by decide)]
      by_cases y1 : m.1 153 t = 0
      · rw [if_pos y1, if_pos y1, if_pos j10]
      · rw [if_neg y1, if_neg y1]
        by_cases y2 : (m.1 154 (4 * t + 2) + P) &&& 3 = 0
        · rw [if_pos y2, if_pos y2, if_pos k0, if_pos j10, ep_V, z0, ep_iM _ _ _ _ _ (by decide), q41, if_pos k1, if_pos j11, ep_V, z1, ep_rM _ _ 154 (by decide), ep_iM _ _ _ _ _ (by decide), q43, if_pos k3, if_pos i12, ep_V, z3, ep_rM _ _ 154 (by decide), ep_iM _ _ _ _ _ (by decide), if_pos i12, ep_V, ep_iM _ _ _ _ _ (by decide), ep_V, ep_iM _ _ _ _ _ (by decide)]
          rfl
        · rw [if_neg y2, if_neg y2, if_pos j10]
    by_cases hH : H = 0
    · refine ep_tgo (F := fun s => some (-1, s)) (G := fun s => some (-1, s)) (ep_Tc_mono (ep_Tc_no hR ho (ep_L_rf m) (-1) (fun m0 => rfl) (fun c0 => rfl)) (by omega)) hRm ho h83 h85 (fun m0 => ?_) (fun c0 => ?_)
      · unfold eF_3_serve
        rw [ep_V, ep_V, c10, c11, hHX, ep_V, c17, ep_J, ep_J, if_neg f32, if_neg f33, if_neg (by rw [f44]; decide), if_neg (by rw [f44]; decide), if_neg (by rw [f44]; decide), if_neg (by rw [f44]; decide), if_neg (by rw [f44]; decide), if_neg (by rw [f44]; decide), if_neg (by rw [f44]; decide), if_neg (by rw [f44]; decide), if_neg (by rw [f44]; decide), if_neg (by rw [f44]; decide), if_pos f44, if_pos hH]
        rfl
      · rw [pre, ep_sb, if_pos j10]
        by_cases y1 : m.1 153 t = 0
        · rw [if_pos y1]
        · have y2 := (hH0 hH).resolve_left y1
          rw [if_neg y1, if_neg (fun z => y2 (hadd.mp z))]
    · obtain ⟨y1, y2⟩ := hH1 hH
      obtain ⟨X, hXd⟩ : ∃ X : Nat → Int32, X = upd (upd (c.2.1 3 t) 10 (m.1 154 (4 * t))) 11 (m.1 154 (4 * t + 1)) := ⟨_, rfl⟩
      obtain ⟨Y, hYd⟩ : ∃ Y : Nat → Int32, Y = upd (upd (m.1 129) (32 * (2 + t) + 10) (m.1 154 (4 * t))) (32 * (2 + t) + 11) (m.1 154 (4 * t + 1)) := ⟨_, rfl⟩
      have R1 := ep_R_thr hR ht (X := X) (Y := Y) (pc := m.1 154 (4 * t + 2) + P) (hd := m.1 154 (4 * t + 3)) (hl := 0) (fun _ j hj => by
        rw [hXd, hYd]
        unfold upd
        by_cases w1 : j = 11
        · rw [if_pos w1, if_pos (by omega)]
        · rw [if_neg w1, if_neg (show ¬ 32 * (2 + t) + j = 32 * (2 + t) + 11 by omega)]
          by_cases w2 : j = 10
          · rw [if_pos w2, if_pos (by omega)]
          · rw [if_neg w2, if_neg (show ¬ 32 * (2 + t) + j = 32 * (2 + t) + 10 by omega)]
            exact gx j hj) (fun k hk => by
        rw [hYd, ep_upd_ne (by omega), ep_upd_ne (by omega)]) (hadd.mpr y2) fa5 (Or.inl rfl)
      refine ⟨ep_cth c t X (m.1 154 (4 * t + 2) + P) (m.1 154 (4 * t + 3)) 0, ep_mI (ep_mI (ep_mI (ep_mI (ep_mI m 129 (32 * (2 + t) + 10) (m.1 154 (4 * t))) 129 (32 * (2 + t) + 11) (m.1 154 (4 * t + 1))) 152 t (m.1 154 (4 * t + 3))) 153 t (eh_nz 0)) 127 85 (m.1 154 (4 * t + 2) + P), fun m0 => ?_, fun c0 => ?_, h83, ?_⟩
      · have gb : eF_2_goBack (ep_mk c m0) (eh_fp (nI t)) P = some (ep_mk (ep_cth c t X (m.1 154 (4 * t + 2) + P) (m.1 154 (4 * t + 3)) 0) m0) := by
          have s10 := gf.2.2.2.2.2.2.2.2.1
          have s11 := gf.2.2.2.2.2.2.2.2.2.1
          have s12 := gf.2.2.2.2.2.2.2.2.2.2.1
          have s13 := gf.2.2.2.2.2.2.2.2.2.2.2
          unfold eF_2_goBack
          rw [ep_V, ep_rF0 _ _ ht, s10, ep_iF1 _ _ _ _ ht, ep_V, ep_rF0 _ _ ht, ep_cHi _ _ _ _ _ _ _ (by decide), s11, ep_iF1 _ _ _ _ ht, ep_V, ep_rF0 _ _ ht, ep_cHi _ _ _ _ _ _ _ (by decide), ep_cHi _ _ _ _ _ _ _ (by decide), s12, ep_iF0 _ _ _ _ ht, ep_V, ep_rF0 _ _ ht, ep_cHs, ep_upd_ne (by decide), ep_cHi _ _ _ _ _ _ _ (by decide), ep_cHi _ _ _ _ _ _ _ (by decide), s13, ep_iF0 _ _ _ _ ht, ep_V, ep_iF0 _ _ _ _ ht]
          congr 2
          rw [hXd]
          refine Prod.ext rfl (Prod.ext ?_ rfl)
          funext i j
          simp only [ep_cth, ep_cH, ep_cG, ep_ug]
          by_cases h1 : i = 2
          · subst h1
            by_cases h2 : j = t
            · subst h2; simp
            · simp [h2]
          · by_cases h3 : i = 3
            · subst h3
              by_cases h2 : j = t
              · subst h2; simp
              · simp [h2]
            · simp [h1, h3]
        unfold eF_3_serve
        rw [ep_V, ep_V, c10, c11, hHX, ep_V, c17, ep_J, ep_J, if_neg f32, if_neg f33, if_neg (by rw [f44]; decide), if_neg (by rw [f44]; decide), if_neg (by rw [f44]; decide), if_neg (by rw [f44]; decide), if_neg (by rw [f44]; decide), if_neg (by rw [f44]; decide), if_neg (by rw [f44]; decide), if_neg (by rw [f44]; decide), if_neg (by rw [f44]; decide), if_neg (by rw [f44]; decide), if_pos f44, if_neg hH]
        exact ep_bnd gb rfl
      · rw [pre, if_neg y1, if_pos (hadd.mpr y2)]
      · subst hYd
        exact ep_R_mono ⟨R1.1, R1.2.1, R1.2.2.1, R1.2.2.2.1, R1.2.2.2.2.1, R1.2.2.2.2.2.1, R1.2.2.2.2.2.2.1, R1.2.2.2.2.2.2.2.1, R1.2.2.2.2.2.2.2.2.1, R1.2.2.2.2.2.2.2.2.2.1, R1.2.2.2.2.2.2.2.2.2.2.1, R1.2.2.2.2.2.2.2.2.2.2.2.1, R1.2.2.2.2.2.2.2.2.2.2.2.2.1, R1.2.2.2.2.2.2.2.2.2.2.2.2.2.1, R1.2.2.2.2.2.2.2.2.2.2.2.2.2.2.1, R1.2.2.2.2.2.2.2.2.2.2.2.2.2.2.2.1, R1.2.2.2.2.2.2.2.2.2.2.2.2.2.2.2.2.1, R1.2.2.2.2.2.2.2.2.2.2.2.2.2.2.2.2.2.1, R1.2.2.2.2.2.2.2.2.2.2.2.2.2.2.2.2.2.2.1, R1.2.2.2.2.2.2.2.2.2.2.2.2.2.2.2.2.2.2.2.1, R1.2.2.2.2.2.2.2.2.2.2.2.2.2.2.2.2.2.2.2.2.1, R1.2.2.2.2.2.2.2.2.2.2.2.2.2.2.2.2.2.2.2.2.2.1, R1.2.2.2.2.2.2.2.2.2.2.2.2.2.2.2.2.2.2.2.2.2.2.1, R1.2.2.2.2.2.2.2.2.2.2.2.2.2.2.2.2.2.2.2.2.2.2.2.1, R1.2.2.2.2.2.2.2.2.2.2.2.2.2.2.2.2.2.2.2.2.2.2.2.2.1, R1.2.2.2.2.2.2.2.2.2.2.2.2.2.2.2.2.2.2.2.2.2.2.2.2.2.1, R1.2.2.2.2.2.2.2.2.2.2.2.2.2.2.2.2.2.2.2.2.2.2.2.2.2.2.1, R1.2.2.2.2.2.2.2.2.2.2.2.2.2.2.2.2.2.2.2.2.2.2.2.2.2.2.2.1, R1.2.2.2.2.2.2.2.2.2.2.2.2.2.2.2.2.2.2.2.2.2.2.2.2.2.2.2.2.1, R1.2.2.2.2.2.2.2.2.2.2.2.2.2.2.2.2.2.2.2.2.2.2.2.2.2.2.2.2.2.1, R1.2.2.2.2.2.2.2.2.2.2.2.2.2.2.2.2.2.2.2.2.2.2.2.2.2.2.2.2.2.2.1, R1.2.2.2.2.2.2.2.2.2.2.2.2.2.2.2.2.2.2.2.2.2.2.2.2.2.2.2.2.2.2.2.1, R1.2.2.2.2.2.2.2.2.2.2.2.2.2.2.2.2.2.2.2.2.2.2.2.2.2.2.2.2.2.2.2.2.1, R1.2.2.2.2.2.2.2.2.2.2.2.2.2.2.2.2.2.2.2.2.2.2.2.2.2.2.2.2.2.2.2.2.2⟩ (by omega)
  by_cases f34 : A = 34
  · refine go (ep_Tc_mono (ep_attest_ hR (by omega) ho P Q) (by omega)) f32 f33 f44 (fun m0 => ?_) (fun c0 => ?_)
    · unfold eF_3_serve
      rw [ep_V, ep_V, c10, c11, hHX, ep_V, c17, ep_J, ep_J, if_neg f32, if_neg f33, if_pos f34]
      try rfl
    · unfold eF_12_answered
      rw [ep_J, ep_J, if_pos f34]
      try exact ep_beta _
      try rfl
  by_cases f35 : A = 35
  · refine go (ep_Tc_mono (ep_giveKey_ hR (by omega) ho P Q) (by omega)) f32 f33 f44 (fun m0 => ?_) (fun c0 => ?_)
    · unfold eF_3_serve
      rw [ep_V, ep_V, c10, c11, hHX, ep_V, c17, ep_J, ep_J, if_neg f32, if_neg f33, if_neg f34, if_pos f35]
      try rfl
    · unfold eF_12_answered
      rw [ep_J, ep_J, if_neg f34, if_pos f35]
      try rfl
  by_cases f36 : A = 36
  · refine go (ep_Tc_mono (ep_giveRandom_ hR (by omega) ho P Q) (by omega)) f32 f33 f44 (fun m0 => ?_) (fun c0 => ?_)
    · unfold eF_3_serve
      rw [ep_V, ep_V, c10, c11, hHX, ep_V, c17, ep_J, ep_J, if_neg f32, if_neg f33, if_neg f34, if_neg f35, if_pos f36]
      try rfl
    · unfold eF_12_answered
      rw [ep_J, ep_J, if_neg f34, if_neg f35, if_pos f36]
      try rfl
  by_cases f37 : A = 37
  · refine go (ep_Tc_mono (ep_verify_ hR ho P) (by omega)) f32 f33 f44 (fun m0 => ?_) (fun c0 => ?_)
    · unfold eF_3_serve
      rw [ep_V, ep_V, c10, c11, hHX, ep_V, c17, ep_J, ep_J, if_neg f32, if_neg f33, if_neg f34, if_neg f35, if_neg f36, if_pos f37]
      try rfl
    · unfold eF_12_answered
      rw [ep_J, ep_J, if_neg f34, if_neg f35, if_neg f36, if_pos f37]
      try rfl
  by_cases f38 : A = 38
  · refine go (ep_Tc_mono (ep_accept_ hR (by omega) ho P) (by omega)) f32 f33 f44 (fun m0 => ?_) (fun c0 => ?_)
    · unfold eF_3_serve
      rw [ep_V, ep_V, c10, c11, hHX, ep_V, c17, ep_J, ep_J, if_neg f32, if_neg f33, if_neg f34, if_neg f35, if_neg f36, if_neg f37, if_pos f38]
      try rfl
    · unfold eF_12_answered
      rw [ep_J, ep_J, if_neg f34, if_neg f35, if_neg f36, if_neg f37, if_pos f38]
      try exact ep_beta _
      try rfl
  by_cases f39 : A = 39
  · refine go (ep_Tc_mono (ep_digest_ hR (by omega) ho P (eh_ep (nI e) + 5) 159 192 (32 * e) (32 * nI e) (ep_mul (b := 32) rfl rfl) (c.2.1 9 e) (fun X Y g v m0 => ep_rE _ _ 5 he (by decide)) (by decide) (by omega) (by decide) (fun j hj => hR.2.2.2.2.2.2.2.2.2.2.2.2.2.2.2.2.2.2.1 e he j hj)) (by omega)) f32 f33 f44 (fun m0 => ?_) (fun c0 => ?_)
    · unfold eF_3_serve
      rw [ep_V, ep_V, c10, c11, hHX, ep_V, c17, ep_J, ep_J, if_neg f32, if_neg f33, if_neg f34, if_neg f35, if_neg f36, if_neg f37, if_neg f38, if_pos f39]
      rw [f3, if_pos i6]
      try rfl
    · unfold eF_12_answered
      rw [ep_J, ep_J, if_neg f34, if_neg f35, if_neg f36, if_neg f37, if_neg f38, if_pos f39]
      try rfl
  by_cases f40 : A = 40
  · refine go (ep_Tc_mono (ep_send_ hR (by omega) ho P Q) (by omega)) f32 f33 f44 (fun m0 => ?_) (fun c0 => ?_)
    · unfold eF_3_serve
      rw [ep_V, ep_V, c10, c11, hHX, ep_V, c17, ep_J, ep_J, if_neg f32, if_neg f33, if_neg f34, if_neg f35, if_neg f36, if_neg f37, if_neg f38, if_neg f39, if_pos f40]
      try rfl
    · unfold eF_12_answered
      rw [ep_J, ep_J, if_neg f34, if_neg f35, if_neg f36, if_neg f37, if_neg f38, if_neg f39, if_pos f40]
      try exact ep_beta _
      try rfl
  by_cases f41 : A = 41
  · refine go (ep_Tc_mono (ep_receive_ hR (by omega) ho P) (by omega)) f32 f33 f44 (fun m0 => ?_) (fun c0 => ?_)
    · unfold eF_3_serve
      rw [ep_V, ep_V, c10, c11, hHX, ep_V, c17, ep_J, ep_J, if_neg f32, if_neg f33, if_neg f34, if_neg f35, if_neg f36, if_neg f37, if_neg f38, if_neg f39, if_neg f40, if_pos f41]
      try rfl
    · unfold eF_12_answered
      rw [ep_J, ep_J, if_neg f34, if_neg f35, if_neg f36, if_neg f37, if_neg f38, if_neg f39, if_neg f40, if_pos f41]
      try exact ep_beta _
      try rfl
  by_cases f42 : A = 42
  · refine go (ep_Tc_mono (ep_count_ hR (by omega) ho) (by omega)) f32 f33 f44 (fun m0 => ?_) (fun c0 => ?_)
    · unfold eF_3_serve
      rw [ep_V, ep_V, c10, c11, hHX, ep_V, c17, ep_J, ep_J, if_neg f32, if_neg f33, if_neg f34, if_neg f35, if_neg f36, if_neg f37, if_neg f38, if_neg f39, if_neg f40, if_neg f41, if_pos f42]
      try rfl
    · unfold eF_12_answered
      rw [ep_J, ep_J, if_neg f34, if_neg f35, if_neg f36, if_neg f37, if_neg f38, if_neg f39, if_neg f40, if_neg f41, if_pos f42]
      try exact ep_beta _
      try rfl
  by_cases f43 : A = 43
  · refine go (ep_Tc_mono (ep_setHandler_ hR ho P) (by omega)) f32 f33 f44 (fun m0 => ?_) (fun c0 => ?_)
    · unfold eF_3_serve
      rw [ep_V, ep_V, c10, c11, hHX, ep_V, c17, ep_J, ep_J, if_neg f32, if_neg f33, if_neg f34, if_neg f35, if_neg f36, if_neg f37, if_neg f38, if_neg f39, if_neg f40, if_neg f41, if_neg f42, if_pos f43]
      try rfl
    · unfold eF_12_answered
      rw [ep_J, ep_J, if_neg f34, if_neg f35, if_neg f36, if_neg f37, if_neg f38, if_neg f39, if_neg f40, if_neg f41, if_neg f42, if_pos f43]
      try rfl
  by_cases f45 : A = 45
  · refine go (ep_Tc_mono (ep_path45 hR (by omega) ho P) (by omega)) f32 f33 f44 (fun m0 => ?_) (fun c0 => ?_)
    · unfold eF_3_serve
      rw [ep_V, ep_V, c10, c11, hHX, ep_V, c17, ep_J, ep_J, if_neg f32, if_neg f33, if_neg f34, if_neg f35, if_neg f36, if_neg f37, if_neg f38, if_neg f39, if_neg f40, if_neg f41, if_neg f42, if_neg f43, if_neg f44, if_neg (by rw [f45]; decide), if_neg (by rw [f45]; decide)]
      show Option.bind (eF_3_answerOfPath (ep_mk c m0) (eh_fp (nI t)) A P) _ = _
      rw [f45]
      try rfl
    · unfold eF_12_answered
      rw [ep_J, ep_J, if_neg f34, if_neg f35, if_neg f36, if_neg f37, if_neg f38, if_neg f39, if_neg f40, if_neg f41, if_neg f42, if_neg f43, if_pos f45]
      try rfl
  by_cases f46 : A = 46
  · refine go (ep_Tc_mono (ep_path468 hR (by omega) ho (Or.inl rfl) P) (by omega)) f32 f33 f44 (fun m0 => ?_) (fun c0 => ?_)
    · unfold eF_3_serve
      rw [ep_V, ep_V, c10, c11, hHX, ep_V, c17, ep_J, ep_J, if_neg f32, if_neg f33, if_neg f34, if_neg f35, if_neg f36, if_neg f37, if_neg f38, if_neg f39, if_neg f40, if_neg f41, if_neg f42, if_neg f43, if_neg f44, if_neg (by rw [f46]; decide), if_neg (by rw [f46]; decide)]
      show Option.bind (eF_3_answerOfPath (ep_mk c m0) (eh_fp (nI t)) A P) _ = _
      rw [f46]
      try rfl
    · unfold eF_12_answered
      rw [ep_J, ep_J, if_neg f34, if_neg f35, if_neg f36, if_neg f37, if_neg f38, if_neg f39, if_neg f40, if_neg f41, if_neg f42, if_neg f43, if_neg f45, if_pos f46]
      try rw [f46]
      try rfl
  by_cases f47 : A = 47
  · refine go (ep_Tc_mono (ep_path468 hR (by omega) ho (Or.inr (Or.inl rfl)) P) (by omega)) f32 f33 f44 (fun m0 => ?_) (fun c0 => ?_)
    · unfold eF_3_serve
      rw [ep_V, ep_V, c10, c11, hHX, ep_V, c17, ep_J, ep_J, if_neg f32, if_neg f33, if_neg f34, if_neg f35, if_neg f36, if_neg f37, if_neg f38, if_neg f39, if_neg f40, if_neg f41, if_neg f42, if_neg f43, if_neg f44, if_neg (by rw [f47]; decide), if_neg (by rw [f47]; decide)]
      show Option.bind (eF_3_answerOfPath (ep_mk c m0) (eh_fp (nI t)) A P) _ = _
      rw [f47]
      try rfl
    · unfold eF_12_answered
      rw [ep_J, ep_J, if_neg f34, if_neg f35, if_neg f36, if_neg f37, if_neg f38, if_neg f39, if_neg f40, if_neg f41, if_neg f42, if_neg f43, if_neg f45, if_neg f46, if_pos f47]
      try rw [f47]
      try rfl
  by_cases f48 : A = 48
  · refine go (ep_Tc_mono (ep_path468 hR (by omega) ho (Or.inr (Or.inr rfl)) P) (by omega)) f32 f33 f44 (fun m0 => ?_) (fun c0 => ?_)
    · unfold eF_3_serve
      rw [ep_V, ep_V, c10, c11, hHX, ep_V, c17, ep_J, ep_J, if_neg f32, if_neg f33, if_neg f34, if_neg f35, if_neg f36, if_neg f37, if_neg f38, if_neg f39, if_neg f40, if_neg f41, if_neg f42, if_neg f43, if_neg f44, if_neg (by rw [f48]; decide), if_neg (by rw [f48]; decide)]
      show Option.bind (eF_3_answerOfPath (ep_mk c m0) (eh_fp (nI t)) A P) _ = _
      rw [f48]
      try rfl
    · unfold eF_12_answered
      rw [ep_J, ep_J, if_neg f34, if_neg f35, if_neg f36, if_neg f37, if_neg f38, if_neg f39, if_neg f40, if_neg f41, if_neg f42, if_neg f43, if_neg f45, if_neg f46, if_neg f47, if_pos f48]
      try rw [f48]
      try rfl
  by_cases f49 : A = 49
  · refine go (ep_Tc_mono (ep_extend_ hR ho P) (by omega)) f32 f33 f44 (fun m0 => ?_) (fun c0 => ?_)
    · unfold eF_3_serve
      rw [ep_V, ep_V, c10, c11, hHX, ep_V, c17, ep_J, ep_J, if_neg f32, if_neg f33, if_neg f34, if_neg f35, if_neg f36, if_neg f37, if_neg f38, if_neg f39, if_neg f40, if_neg f41, if_neg f42, if_neg f43, if_neg f44, if_pos f49]
      try rfl
    · unfold eF_12_answered
      rw [ep_J, ep_J, if_neg f34, if_neg f35, if_neg f36, if_neg f37, if_neg f38, if_neg f39, if_neg f40, if_neg f41, if_neg f42, if_neg f43, if_neg f45, if_neg f46, if_neg f47, if_neg f48, if_pos f49]
      try rfl
  by_cases f50 : A = 50
  · refine go (ep_Tc_mono (ep_digest_ hR (by omega) ho P 34 187 32 0 0 rfl (c.1 34) (fun X Y g v m0 => by rw [ep_rC1 _ _ _ (by decide)]; rfl) (by decide) (by decide) (by decide) (fun j hj => by rw [Nat.zero_add]; exact hR.2.2.2.2.2.2.2.2.2.2.2.2.2.2.2.2.2.2.2.2.2.2.2.2.2.2.1 j hj)) (by omega)) f32 f33 f44 (fun m0 => ?_) (fun c0 => ?_)
    · unfold eF_3_serve
      rw [ep_V, ep_V, c10, c11, hHX, ep_V, c17, ep_J, ep_J, if_neg f32, if_neg f33, if_neg f34, if_neg f35, if_neg f36, if_neg f37, if_neg f38, if_neg f39, if_neg f40, if_neg f41, if_neg f42, if_neg f43, if_neg f44, if_neg f49, if_pos f50]
      try rfl
    · unfold eF_12_answered
      rw [ep_J, ep_J, if_neg f34, if_neg f35, if_neg f36, if_neg f37, if_neg f38, if_neg f39, if_neg f40, if_neg f41, if_neg f42, if_neg f43, if_neg f45, if_neg f46, if_neg f47, if_neg f48, if_neg f49, if_pos f50]
      try rfl
  refine go (F := fun s => some (-1, s)) (G := fun s => some (-1, s)) (ep_Tc_mono (ep_Tc_no hR ho (ep_L_rf m) (-1) (fun m0 => rfl) (fun c0 => rfl)) (by omega)) f32 f33 f44 (fun m0 => ?_) (fun c0 => ?_)
  · unfold eF_3_serve
    rw [ep_V, ep_V, c10, c11, hHX, ep_V, c17, ep_J, ep_J, if_neg f32, if_neg f33, if_neg f34, if_neg f35, if_neg f36, if_neg f37, if_neg f38, if_neg f39, if_neg f40, if_neg f41, if_neg f42, if_neg f43, if_neg f44, if_neg f49, if_neg f50]
    show Option.bind (eF_3_answerOfPath (ep_mk c m0) (eh_fp (nI t)) A P) _ = _
    rw [ep_pathno hR ho ⟨f45, f46, f47, f48⟩]
  · unfold eF_12_answered
    rw [ep_J, ep_J, if_neg f34, if_neg f35, if_neg f36, if_neg f37, if_neg f38, if_neg f39, if_neg f40, if_neg f41, if_neg f42, if_neg f43, if_neg f45, if_neg f46, if_neg f47, if_neg f48, if_neg f49, if_neg f50]
