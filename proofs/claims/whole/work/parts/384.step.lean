/-! a step ends -/
def ep_CE (q10 : eh_F) : Option eh_F := eh_J (fun (s12 : eh_F) => some s12) (fun j11 => if (q10.1 124 10) = (-1) then (eh_J (fun (u15 : Unit) => if (q10.1 124 12) = 0 then (if (q10.1 124 6) = 0 then (if eh_okH (q10.2.2 4) then eh_V (eh_tI q10 (q10.2.2 4) 2 (q10.1 124 9)) (fun s19 => j11 s19) else none) else (if eh_okF (q10.2.2 5) then eh_V (eh_tI q10 (q10.2.2 5) 2 (q10.1 124 9)) (fun s21 => j11 s21) else none)) else (if eh_okH (q10.2.2 4) then if eh_okX (q10.2.2 7) then if eh_okX (q10.2.2 7) then if eh_okX (q10.2.2 7) then if eh_okX (q10.2.2 7) then if eh_okX (q10.2.2 7) then Option.bind (eF_10_serve q10 (q10.2.2 4) (q10.1 (q10.2.2 7) 17) (q10.1 (q10.2.2 7) 10) (q10.1 (q10.2.2 7) 11) (q10.1 (q10.2.2 7) 12) (q10.1 (q10.2.2 7) 13)) (fun q28 => if eh_okH (q28.2.2.2 4) then eh_V (eh_tI q28.2 (q28.2.2.2 4) 2 (q28.2.1 124 9)) (fun s30 => if eh_okH (s30.2.2 4) then eh_J (fun (s33 : eh_F) => j11 s33) (fun j32 => if (s30.1 (s30.2.2 4) 5) = (-1) then (if eh_okX (s30.2.2 7) then eh_V (eh_tI s30 (s30.2.2 7) 10 q28.1) (fun s36 => j32 s36) else none) else (j32 s30)) else none) else none) else none else none else none else none else none else none)) (fun j14 => if (q10.1 124 12) = 0 then (j14 ()) else (if (q10.1 124 6) = 0 then (j14 ()) else (if eh_okH (q10.2.2 4) then if eh_okF (q10.2.2 5) then Option.bind (eF_3_serve q10 (q10.2.2 4) (q10.2.2 5)) (fun q41 => j11 q41) else none else none)))) else (Option.bind (eF_7_suffer q10) (fun q42 => j11 q42)))
def ep_ME (s17 : eh_F) (p0 x5 q13 : Int32) : Option eh_F := eh_J (fun (s19 : eh_F) => some s19) (fun j18 => if (s17.1 127 83) = (-1) then (if eh_in q13 14 then eh_V (eh_tI s17 130 (eh_ix q13) (s17.1 127 85)) (fun s21 => j18 s21) else none) else (if x5 = (-1) then (Option.bind (eF_12_trap s17 p0 (s17.1 127 83) (s17.1 127 84)) (fun q23 => j18 q23)) else (if eh_in x5 12 then if (s17.1 152 (eh_ix x5)) = 0 then (Option.bind (eF_12_happens s17 3 p0 (s17.1 127 83) 0 0) (fun q25 => Option.bind (eF_12_leave q25 p0 5 3 (q25.1 127 83)) (fun q26 => j18 q26))) else (if eh_in ((32 * q13) + 10) 448 then if eh_in (4 * x5) 48 then eh_V (eh_tI s17 154 (eh_ix (4 * x5)) (s17.1 129 (eh_ix ((32 * q13) + 10)))) (fun s27 => if eh_in ((32 * q13) + 11) 448 then if eh_in ((4 * x5) + 1) 48 then eh_V (eh_tI s27 154 (eh_ix ((4 * x5) + 1)) (s27.1 129 (eh_ix ((32 * q13) + 11)))) (fun s28 => if eh_in q13 14 then if eh_in ((4 * x5) + 2) 48 then eh_V (eh_tI s28 154 (eh_ix ((4 * x5) + 2)) (s28.1 130 (eh_ix q13))) (fun s29 => if eh_in x5 12 then if eh_in ((4 * x5) + 3) 48 then eh_V (eh_tI s29 154 (eh_ix ((4 * x5) + 3)) (s29.1 152 (eh_ix x5))) (fun s30 => if eh_in x5 12 then eh_V (eh_tI s30 153 (eh_ix x5) (eh_nz 1)) (fun s31 => if eh_in ((32 * q13) + 10) 448 then eh_V (eh_tI s31 129 (eh_ix ((32 * q13) + 10)) (s31.1 127 83)) (fun s32 => if eh_in q13 14 then if eh_in ((32 * q13) + 11) 448 then eh_V (eh_tI s32 129 (eh_ix ((32 * q13) + 11)) (s32.1 130 (eh_ix q13))) (fun s33 => if eh_in x5 12 then if eh_in q13 14 then eh_V (eh_tI s33 130 (eh_ix q13) (s33.1 152 (eh_ix x5))) (fun s34 => if eh_in x5 12 then eh_V (eh_tI s34 152 (eh_ix x5) 0) (fun s35 => j18 s35) else none) else none else none) else none else none) else none) else none) else none else none) else none else none) else none else none) else none else none) else none)))
def ep_RS (s4 : eh_F) (p0 x5 : Int32) : Option eh_F := if eh_in p0 2 then if eh_in p0 2 then eh_V (eh_tI s4 146 (eh_ix p0) ((s4.1 146 (eh_ix p0)) + 1)) (fun s10 => eh_V (eh_tI s10 127 83 (-1)) (fun s11 => eh_V (eh_tI s11 127 86 0) (fun s12 => Option.bind (eF_12_who s12 p0) (fun q13 => if eh_in q13 14 then eh_V (eh_tI s12 127 85 ((s12.1 130 (eh_ix q13)) + 4)) (fun s14 => if eh_in q13 14 then Option.bind (eF_12_locate s14 p0 (s14.1 130 (eh_ix q13)) 4 0) (fun q15 => eh_J (fun (s17 : eh_F) => eh_J (fun (s19 : eh_F) => some s19) (fun j18 => if (s17.1 127 83) = (-1) then (if eh_in q13 14 then eh_V (eh_tI s17 130 (eh_ix q13) (s17.1 127 85)) (fun s21 => j18 s21) else none) else (if x5 = (-1) then (Option.bind (eF_12_trap s17 p0 (s17.1 127 83) (s17.1 127 84)) (fun q23 => j18 q23)) else (if eh_in x5 12 then if (s17.1 152 (eh_ix x5)) = 0 then (Option.bind (eF_12_happens s17 3 p0 (s17.1 127 83) 0 0) (fun q25 => Option.bind (eF_12_leave q25 p0 5 3 (q25.1 127 83)) (fun q26 => j18 q26))) else (if eh_in ((32 * q13) + 10) 448 then if eh_in (4 * x5) 48 then eh_V (eh_tI s17 154 (eh_ix (4 * x5)) (s17.1 129 (eh_ix ((32 * q13) + 10)))) (fun s27 => if eh_in ((32 * q13) + 11) 448 then if eh_in ((4 * x5) + 1) 48 then eh_V (eh_tI s27 154 (eh_ix ((4 * x5) + 1)) (s27.1 129 (eh_ix ((32 * q13) + 11)))) (fun s28 => if eh_in q13 14 then if eh_in ((4 * x5) + 2) 48 then eh_V (eh_tI s28 154 (eh_ix ((4 * x5) + 2)) (s28.1 130 (eh_ix q13))) (fun s29 => if eh_in x5 12 then if eh_in ((4 * x5) + 3) 48 then eh_V (eh_tI s29 154 (eh_ix ((4 * x5) + 3)) (s29.1 152 (eh_ix x5))) (fun s30 => if eh_in x5 12 then eh_V (eh_tI s30 153 (eh_ix x5) (eh_nz 1)) (fun s31 => if eh_in ((32 * q13) + 10) 448 then eh_V (eh_tI s31 129 (eh_ix ((32 * q13) + 10)) (s31.1 127 83)) (fun s32 => if eh_in q13 14 then if eh_in ((32 * q13) + 11) 448 then eh_V (eh_tI s32 129 (eh_ix ((32 * q13) + 11)) (s32.1 130 (eh_ix q13))) (fun s33 => if eh_in x5 12 then if eh_in q13 14 then eh_V (eh_tI s33 130 (eh_ix q13) (s33.1 152 (eh_ix x5))) (fun s34 => if eh_in x5 12 then eh_V (eh_tI s34 152 (eh_ix x5) 0) (fun s35 => j18 s35) else none) else none else none) else none else none) else none) else none) else none else none) else none else none) else none else none) else none else none) else none)))) (fun j16 => if (q15.2.1 127 83) = (-1) then (Option.bind (eF_12_littleWord q15.2 128 131072 q15.1) (fun q37 => if eh_in q13 14 then Option.bind (eF_12_execute q15.2 p0 q37 (q15.2.1 130 (eh_ix q13))) (fun q38 => j16 q38) else none)) else (j16 q15.2))) else none) else none)))) else none else none
theorem ep_cH_comm (c : ep_C) {i i' : Nat} (hi : i ≠ i') (h h' j j' : Nat) (v v' : Int32) : ep_cH (ep_cH c i h j v) i' h' j' v' = ep_cH (ep_cH c i' h' j' v') i h j v := by
  refine Prod.ext rfl (Prod.ext ?_ rfl)
  funext a b
  by_cases y1 : a = i
  · subst y1
    rw [ep_cHi _ _ _ _ _ _ _ hi, ep_cHe, ep_cHe, ep_cHi _ _ _ _ _ _ _ hi, ep_cHi _ _ _ _ _ _ _ hi]
  · by_cases y2 : a = i'
    · subst y2
      rw [ep_cHe, ep_cHi _ _ _ _ _ _ _ y1, ep_cHi _ _ _ _ _ _ _ y1, ep_cHi _ _ _ _ _ _ _ y1, ep_cHe]
    · rw [ep_cHi _ _ _ _ _ _ _ y2, ep_cHi _ _ _ _ _ _ _ y1, ep_cHi _ _ _ _ _ _ _ y1, ep_cHi _ _ _ _ _ _ _ y2]
theorem ep_R_hx {N : Nat} {c : ep_C} {m : ep_M} (hR : ep_R N c m) {h j : Nat} (hh : h < 2) (hj : 0 < j) (hj2 : j < 32) (v : Int32) : ep_R N (ep_cH c 1 h j v) (ep_mI m 129 (32 * h + j) v) := by
  refine ⟨hR.1, hR.2.1, hR.2.2.1, hR.2.2.2.1, hR.2.2.2.2.1, ?_, ?_, hR.2.2.2.2.2.2.2.1, hR.2.2.2.2.2.2.2.2.1, hR.2.2.2.2.2.2.2.2.2.1, hR.2.2.2.2.2.2.2.2.2.2.1, hR.2.2.2.2.2.2.2.2.2.2.2.1, ?_, hR.2.2.2.2.2.2.2.2.2.2.2.2.2.1, hR.2.2.2.2.2.2.2.2.2.2.2.2.2.2.1, hR.2.2.2.2.2.2.2.2.2.2.2.2.2.2.2.1, hR.2.2.2.2.2.2.2.2.2.2.2.2.2.2.2.2.1, hR.2.2.2.2.2.2.2.2.2.2.2.2.2.2.2.2.2.1, hR.2.2.2.2.2.2.2.2.2.2.2.2.2.2.2.2.2.2.1, hR.2.2.2.2.2.2.2.2.2.2.2.2.2.2.2.2.2.2.2.1, hR.2.2.2.2.2.2.2.2.2.2.2.2.2.2.2.2.2.2.2.2.1, hR.2.2.2.2.2.2.2.2.2.2.2.2.2.2.2.2.2.2.2.2.2.1, hR.2.2.2.2.2.2.2.2.2.2.2.2.2.2.2.2.2.2.2.2.2.2.1, hR.2.2.2.2.2.2.2.2.2.2.2.2.2.2.2.2.2.2.2.2.2.2.2.1, hR.2.2.2.2.2.2.2.2.2.2.2.2.2.2.2.2.2.2.2.2.2.2.2.2.1, hR.2.2.2.2.2.2.2.2.2.2.2.2.2.2.2.2.2.2.2.2.2.2.2.2.2.1, hR.2.2.2.2.2.2.2.2.2.2.2.2.2.2.2.2.2.2.2.2.2.2.2.2.2.2.1, hR.2.2.2.2.2.2.2.2.2.2.2.2.2.2.2.2.2.2.2.2.2.2.2.2.2.2.2.1, hR.2.2.2.2.2.2.2.2.2.2.2.2.2.2.2.2.2.2.2.2.2.2.2.2.2.2.2.2.1, hR.2.2.2.2.2.2.2.2.2.2.2.2.2.2.2.2.2.2.2.2.2.2.2.2.2.2.2.2.2.1, hR.2.2.2.2.2.2.2.2.2.2.2.2.2.2.2.2.2.2.2.2.2.2.2.2.2.2.2.2.2.2.1, hR.2.2.2.2.2.2.2.2.2.2.2.2.2.2.2.2.2.2.2.2.2.2.2.2.2.2.2.2.2.2.2.1, hR.2.2.2.2.2.2.2.2.2.2.2.2.2.2.2.2.2.2.2.2.2.2.2.2.2.2.2.2.2.2.2.2.1, hR.2.2.2.2.2.2.2.2.2.2.2.2.2.2.2.2.2.2.2.2.2.2.2.2.2.2.2.2.2.2.2.2.2⟩
  · intro h' hh' k hk
    show _ = upd (m.1 129) (32 * h + j) v (32 * h' + k)
    by_cases y : h' = h
    · subst y
      rw [ep_cHs]
      by_cases z : k = j
      · subst z; rw [ep_upd_eq, ep_upd_eq]
      · rw [ep_upd_ne z, ep_upd_ne (by omega)]; exact hR.2.2.2.2.2.1 h' hh' k hk
    · rw [ep_cHh _ _ _ _ _ _ y, ep_upd_ne (by omega)]; exact hR.2.2.2.2.2.1 h' hh' k hk
  · intro h' hh'
    show upd (m.1 129) (32 * h + j) v (32 * h') = 0
    rw [ep_upd_ne (by omega)]; exact hR.2.2.2.2.2.2.1 h' hh'
  · intro t ht hs k hk
    show c.2.1 3 t k = upd (m.1 129) (32 * h + j) v (32 * (2 + t) + k)
    rw [ep_upd_ne (by omega)]; exact hR.2.2.2.2.2.2.2.2.2.2.2.2.1 t ht hs k hk
theorem ep_endD {N : Nat} {c : ep_C} {m : ep_M} {h w : Nat} {r : Int32} (hD : ep_D N c m h r) (hN : N + 2 < 2 ^ 28) (hw : (r = -1 ∧ w = h) ∨ ∃ t, r = nI t ∧ t < 12 ∧ w = 2 + t) : ∃ c' m', (∀ m0, ep_CE (ep_mk c m0) = some (ep_mk c' m0)) ∧ (∀ c0, ep_ME (ep_mk c0 m) (nI h) r (nI w) = some (ep_mk c0 m')) ∧ ep_R (N + 1) c' m' := by
  obtain ⟨hR, hP, h12, hcase, hr⟩ := hD
  have hh := hP.1
  have q4 : ∀ m0, (ep_mk c m0).2.2 4 = eh_hp (nI h) := fun m0 => hP.2.1
  have okH := ep_okH hh
  have r12 : ∀ m0, (ep_mk c m0).1 124 12 = 0 := fun m0 => by rw [ep_rC2 _ _ _ (by decide) (by decide)]; exact h12
  have rr : ∀ m0 j, (ep_mk c m0).1 124 j = c.1 124 j := fun m0 j => by rw [ep_rC2 _ _ _ (by decide) (by decide)]
  rcases hP.2.2 with ⟨hr1, h6, -⟩ | ⟨t, e, ho, h6, h5, -⟩
  · have hrm : r = -1 := hr.symm.trans hr1
    have hwh : w = h := by
      rcases hw with z | ⟨t, z1, z2, -⟩
      · exact z.2
      · rw [hrm] at z1; exact absurd z1.symm (ep_nI_ne_m1 (by omega))
    subst hwh
    rw [hrm]
    have i14 : eh_in (nI w) 14 = true := ep_in (by omega) (by decide)
    have x14 : eh_ix (nI w) = w := ep_ix (by omega)
    rcases hcase with ⟨k10, k83, k9, kal⟩ | ⟨k10, k83, k11⟩
    · refine ⟨_, _, fun m0 => ?_, fun c0 => ?_, ep_R_mono (ep_S130 hR hh (m.1 127 85) kal) (by omega)⟩
      · unfold ep_CE
        rw [ep_J, rr, k10, if_pos rfl, ep_J, r12, if_pos rfl, if_pos rfl, rr, h6, if_pos rfl, q4, if_pos okH, ep_V, rr, k9, ep_iH0 _ _ _ _ hh]
      · unfold ep_ME
        rw [ep_J, ep_rM _ _ 127 (by decide), k83, if_pos rfl, if_pos i14, x14, ep_V, ep_iM _ _ _ _ _ (by decide)]
    · obtain ⟨c', m', t1, t2, t3⟩ := ep_trap_ hR hh (c.1 124 10) (m.1 127 84)
      refine ⟨c', m', fun m0 => ?_, fun c0 => ?_, ep_R_mono t3.2.2 (by omega)⟩
      · have hs : eF_7_suffer (ep_mk c m0) = some (ep_mk c' m0) := by
          unfold eF_7_suffer
          rw [ep_J, rr, h6, if_pos rfl, q4, if_pos okH, rr, rr, k11, t1 m0, ep_sb]
        unfold ep_CE
        rw [ep_J, rr, if_neg k10, hs, ep_sb]
      · unfold ep_ME
        rw [ep_J, ep_rM _ _ 127 (by decide), if_neg (by rw [k83]; exact k10), if_pos rfl, k83, t2 c0, ep_sb]
  · have ht := ho.2.1
    have he := ho.2.2.1
    have hru := ho.2.2.2.1
    have hrt : r = nI t := hr.symm.trans hru
    have tm1 : ¬ nI t = -1 := ep_nI_ne_m1 (by omega)
    have hw2 : w = 2 + t := by
      rcases hw with z | ⟨t', z1, z2, z3⟩
      · rw [hrt] at z; exact absurd z.1 tm1
      · rw [hrt, nI_eq (by omega) (by omega)] at z1
        rw [z3, z1]
    subst hw2
    rw [hrt]
    have n10 : ¬ (1 : Int32) = 0 := by decide
    have q5 : ∀ m0, (ep_mk c m0).2.2 5 = eh_fp (nI t) := fun m0 => h5
    have okF := ep_okF ht
    have i14 : eh_in (nI (2 + t)) 14 = true := ep_in (by omega) (by decide)
    have x14 : eh_ix (nI (2 + t)) = 2 + t := ep_ix (by omega)
    have i12 : eh_in (nI t) 12 = true := ep_in ht (by decide)
    have x12 : eh_ix (nI t) = t := ep_ix (by omega)
    have gf := hR.2.2.2.2.2.2.2.2.2.2.1 t ht
    have hst : m.1 148 t ≠ 0 := by rw [ho.2.2.2.2.2.2]; decide
    rcases hcase with ⟨k10, k83, k9, kal⟩ | ⟨k10, k83, k11⟩
    · refine ⟨_, _, fun m0 => ?_, fun c0 => ?_, ep_R_mono (ep_R_fpc hR ht kal) (by omega)⟩
      · unfold ep_CE
        rw [ep_J, rr, k10, if_pos rfl, ep_J, r12, if_pos rfl, if_pos rfl, rr, h6, if_neg n10, q5, if_pos okF, ep_V, rr, k9, ep_iF0 _ _ _ _ ht]
      · unfold ep_ME
        rw [ep_J, ep_rM _ _ 127 (by decide), k83, if_pos rfl, if_pos i14, x14, ep_V, ep_iM _ _ _ _ _ (by decide)]
    · by_cases y : m.1 152 t = 0
      · obtain ⟨c1, m1, n1, n2, n3⟩ := ep_note hR (by omega) ho 3 (c.1 124 10) 0 0
        have ho1 := ep_W_On n3 ho
        obtain ⟨L1, L2, L3⟩ := ep_leave_ n3.2.2 ho1 (st := 5) (by decide) (by decide) 3 (c.1 124 10)
        have c1q : c1.2 = c.2 ∧ c1.1 124 = c.1 124 := by
          obtain ⟨⟨X, Y, g, v, rfl⟩, -, -⟩ := n3
          exact ⟨rfl, rfl⟩
        have m1q : m1.1 127 83 = m.1 127 83 := (ep_Fm_W n3 ho).2.1 83 (Or.inl rfl)
        refine ⟨_, _, fun m0 => ?_, fun c0 => ?_, L3⟩
        · have hs : eF_7_suffer (ep_mk c m0) = some (ep_mk (ep_cease c1 h t 5 3 (c.1 124 10)) m0) := by
            unfold eF_7_suffer
            rw [ep_J, rr, h6, if_neg n10, q5, if_pos okF, ep_rF0 _ _ ht, gf.2.2.2.2.2.2.1, if_pos y, if_pos okF, rr, n1 m0, ep_sb, show (ep_mk c1 m0).2.2 4 = eh_hp (nI h) from by rw [ep_rQ, c1q.1]; exact hP.2.1, if_pos okH, show (ep_mk c1 m0).2.2 5 = eh_fp (nI t) from by rw [ep_rQ, c1q.1]; exact h5, if_pos okF, ep_rC2 _ _ _ (by decide) (by decide), c1q.2, L1 m0, ep_sb]
          unfold ep_CE
          rw [ep_J, rr, if_neg k10, hs, ep_sb]
        · unfold ep_ME
          rw [ep_J, ep_rM _ _ 127 (by decide), if_neg (by rw [k83]; exact k10), if_neg tm1, if_pos i12, x12, ep_rM _ _ 152 (by decide), if_pos y, k83, n2 c0, ep_sb, ep_rM _ _ 127 (by decide), m1q, k83, L2 c0, ep_sb]
      · have R1 := ep_R_handle hR ht hst (c.1 124 10) (m.1 129 (32 * (2 + t) + 10)) (m.1 129 (32 * (2 + t) + 11))
        have gx := hR.2.2.2.2.2.2.2.2.2.2.2.2.1 t ht hst
        refine ⟨_, _, fun m0 => ?_, fun c0 => ?_, ep_R_mono R1 (by omega)⟩
        · have hs : eF_7_suffer (ep_mk c m0) = some (ep_mk (ep_chd c t (c.1 124 10) (m.1 130 (2 + t)) (m.1 152 t) (m.1 129 (32 * (2 + t) + 10)) (m.1 129 (32 * (2 + t) + 11))) m0) := by
            unfold eF_7_suffer
            rw [ep_J, rr, h6, if_neg n10, q5, if_pos okF, ep_rF0 _ _ ht, gf.2.2.2.2.2.2.1, if_neg y, if_pos okF, rr, ep_chandle ht, ep_sb, gf.2.1, gf.2.2.2.2.2.2.1, gx 10 (by decide), gx 11 (by decide)]
          unfold ep_CE
          rw [ep_J, rr, if_neg k10, hs, ep_sb]
        · have q32 : (32 : Int32) * nI (2 + t) = nI (32 * (2 + t)) := ep_mul (b := 32) rfl rfl
          have q10 : nI (32 * (2 + t)) + 10 = nI (32 * (2 + t) + 10) := ep_addn _ 10
          have q11 : nI (32 * (2 + t)) + 11 = nI (32 * (2 + t) + 11) := ep_addn _ 11
          have j10 : eh_in (nI (32 * (2 + t) + 10)) 448 = true := ep_in (by omega) (by decide)
          have j11 : eh_in (nI (32 * (2 + t) + 11)) 448 = true := ep_in (by omega) (by decide)
          have y10 : eh_ix (nI (32 * (2 + t) + 10)) = 32 * (2 + t) + 10 := ep_ix (by omega)
          have y11 : eh_ix (nI (32 * (2 + t) + 11)) = 32 * (2 + t) + 11 := ep_ix (by omega)
          have q40 : (4 : Int32) * nI t = nI (4 * t) := ep_mul (b := 4) rfl rfl
          have q41 : nI (4 * t) + 1 = nI (4 * t + 1) := nI_1 _
          have q42 : nI (4 * t) + 2 = nI (4 * t + 2) := ep_p2 _
          have q43 : nI (4 * t) + 3 = nI (4 * t + 3) := ep_p3 _
          have k0 : eh_in (nI (4 * t)) 48 = true := ep_in (by omega) (by decide)
          have k1 : eh_in (nI (4 * t + 1)) 48 = true := ep_in (by omega) (by decide)
          have k2 : eh_in (nI (4 * t + 2)) 48 = true := ep_in (by omega) (by decide)
          have k3 : eh_in (nI (4 * t + 3)) 48 = true := ep_in (by omega) (by decide)
          have z0 : eh_ix (nI (4 * t)) = 4 * t := ep_ix (by omega)
          have z1 : eh_ix (nI (4 * t + 1)) = 4 * t + 1 := ep_ix (by omega)
          have z2 : eh_ix (nI (4 * t + 2)) = 4 * t + 2 := ep_ix (by omega)
          have z3 : eh_ix (nI (4 * t + 3)) = 4 * t + 3 := ep_ix (by omega)
          unfold ep_ME
          rw [ep_J, ep_rM _ _ 127 (by decide), if_neg (by rw [k83]; exact k10), if_neg tm1, if_pos i12, x12, ep_rM _ _ 152 (by decide), if_neg y, q32, q10, q11, q40, q41, q42, q43, if_pos j10, if_pos k0, ep_V, y10, z0, ep_rM _ _ 129 (by decide), ep_iM _ _ _ _ _ (by decide), if_pos j11, if_pos k1, ep_V, y11, z1, ep_rM _ _ 129 (by decide), ep_iM _ _ _ _ _ (by decide), if_pos i14, if_pos k2, ep_V, x14, z2, ep_rM _ _ 130 (by decide), ep_iM _ _ _ _ _ (by decide), if_pos i12, if_pos k3, ep_V, z3, ep_rM _ _ 152 (by decide), ep_iM _ _ _ _ _ (by decide), if_pos i12, ep_V, ep_iM _ _ _ _ _ (by decide), if_pos j10, ep_V, ep_rM _ _ 127 (by decide), ep_iM _ _ _ _ _ (by decide), if_pos i14, if_pos j11, ep_V, ep_rM _ _ 130 (by decide), ep_iM _ _ _ _ _ (by decide), if_pos i12, if_pos i14, ep_V, ep_rM _ _ 152 (by decide), ep_iM _ _ _ _ _ (by decide), if_pos i12, ep_V, ep_iM _ _ _ _ _ (by decide)]
          rw [← k83]
          rfl
theorem ep_callsB {N : Nat} {c : ep_C} {m : ep_M} (hR : ep_R N c m) (hN : N + 600 < 2 ^ 28) {h w : Nat} {pc : Int32} (hQ : ep_Q c m h pc) (hpc : pc = m.1 130 w) (hw : (m.1 144 h = -1 ∧ w = h) ∨ ∃ t e, ep_On m h t e ∧ w = 2 + t) (hmode : m.1 144 h = -1 → m.1 131 h = 1) : ∃ c' m', (∀ m0, ep_CE (ep_mk (ep_cI c 124 12 1) m0) = some (ep_mk c' m0)) ∧ (∀ c0, Option.bind (eF_12_calls (ep_mk c0 m) (nI h) pc) (fun q38 => ep_ME q38 (nI h) (m.1 144 h) (nI w)) = some (ep_mk c0 m')) ∧ ep_R (N + 264) c' m' := by
  obtain ⟨hP, h8, hal, h9, h85, h10, h83, h12⟩ := hQ
  have hh := hP.1
  have okH := ep_okH hh
  have R1 : ep_R N (ep_cI c 124 12 1) m := ⟨hR.1, hR.2.1, hR.2.2.1, hR.2.2.2.1, hR.2.2.2.2.1, hR.2.2.2.2.2.1, hR.2.2.2.2.2.2.1, hR.2.2.2.2.2.2.2.1, hR.2.2.2.2.2.2.2.2.1, hR.2.2.2.2.2.2.2.2.2.1, hR.2.2.2.2.2.2.2.2.2.2.1, hR.2.2.2.2.2.2.2.2.2.2.2.1, hR.2.2.2.2.2.2.2.2.2.2.2.2.1, hR.2.2.2.2.2.2.2.2.2.2.2.2.2.1, hR.2.2.2.2.2.2.2.2.2.2.2.2.2.2.1, hR.2.2.2.2.2.2.2.2.2.2.2.2.2.2.2.1, hR.2.2.2.2.2.2.2.2.2.2.2.2.2.2.2.2.1, hR.2.2.2.2.2.2.2.2.2.2.2.2.2.2.2.2.2.1, hR.2.2.2.2.2.2.2.2.2.2.2.2.2.2.2.2.2.2.1, hR.2.2.2.2.2.2.2.2.2.2.2.2.2.2.2.2.2.2.2.1, hR.2.2.2.2.2.2.2.2.2.2.2.2.2.2.2.2.2.2.2.2.1, hR.2.2.2.2.2.2.2.2.2.2.2.2.2.2.2.2.2.2.2.2.2.1, hR.2.2.2.2.2.2.2.2.2.2.2.2.2.2.2.2.2.2.2.2.2.2.1, hR.2.2.2.2.2.2.2.2.2.2.2.2.2.2.2.2.2.2.2.2.2.2.2.1, hR.2.2.2.2.2.2.2.2.2.2.2.2.2.2.2.2.2.2.2.2.2.2.2.2.1, hR.2.2.2.2.2.2.2.2.2.2.2.2.2.2.2.2.2.2.2.2.2.2.2.2.2.1, hR.2.2.2.2.2.2.2.2.2.2.2.2.2.2.2.2.2.2.2.2.2.2.2.2.2.2.1, hR.2.2.2.2.2.2.2.2.2.2.2.2.2.2.2.2.2.2.2.2.2.2.2.2.2.2.2.1, hR.2.2.2.2.2.2.2.2.2.2.2.2.2.2.2.2.2.2.2.2.2.2.2.2.2.2.2.2.1, hR.2.2.2.2.2.2.2.2.2.2.2.2.2.2.2.2.2.2.2.2.2.2.2.2.2.2.2.2.2.1, hR.2.2.2.2.2.2.2.2.2.2.2.2.2.2.2.2.2.2.2.2.2.2.2.2.2.2.2.2.2.2.1, hR.2.2.2.2.2.2.2.2.2.2.2.2.2.2.2.2.2.2.2.2.2.2.2.2.2.2.2.2.2.2.2.1, hR.2.2.2.2.2.2.2.2.2.2.2.2.2.2.2.2.2.2.2.2.2.2.2.2.2.2.2.2.2.2.2.2.1, hR.2.2.2.2.2.2.2.2.2.2.2.2.2.2.2.2.2.2.2.2.2.2.2.2.2.2.2.2.2.2.2.2.2⟩
  have n10 : ¬ (1 : Int32) = 0 := by decide
  obtain ⟨c1, hc1⟩ : ∃ c1, c1 = ep_cI c 124 12 1 := ⟨_, rfl⟩
  rw [← hc1] at R1 ⊢
  have c12 : c1.2 = c.2 := by rw [hc1]; rfl
  have q4 : ∀ m0, (ep_mk c1 m0).2.2 4 = eh_hp (nI h) := fun m0 => by rw [ep_rQ, c12]; exact hP.2.1
  have rr : ∀ m0 j, (ep_mk c1 m0).1 124 j = c1.1 124 j := fun m0 j => by rw [ep_rC2 _ _ _ (by decide) (by decide)]
  have v10 : c1.1 124 10 = -1 := by rw [hc1]; exact h10
  have v12 : c1.1 124 12 = 1 := by rw [hc1]; rfl
  have v9 : c1.1 124 9 = pc + 4 := by rw [hc1]; exact h9
  have i2 : eh_in (nI h) 2 = true := ep_in hh (by decide)
  have x2 : eh_ix (nI h) = h := ep_ix (by omega)
  rcases hP.2.2 with ⟨hr, h6, h7⟩ | ⟨t, e, ho, h6, h5, h7⟩
  · have hwh : w = h := by
      rcases hw with z | ⟨t, e, z1, -⟩
      · exact z.2
      · have := z1.2.2.2.1
        rw [hr] at this
        exact absurd this.symm (ep_nI_ne_m1 (by have := z1.2.1; omega))
    subst hwh
    have v6 : c1.1 124 6 = 0 := by rw [hc1]; exact h6
    have q7 : ∀ m0, (ep_mk c1 m0).2.2 7 = eh_hp (nI w) + 1 := fun m0 => by rw [ep_rQ, c12]; exact h7
    have okX := ep_okXh hh
    have gx := hR.2.2.2.2.2.1 w hh
    have rx : ∀ m0 j, j < 32 → (ep_mk c1 m0).1 (eh_hp (nI w) + 1) j = m.1 129 (32 * w + j) := fun m0 j hj => by rw [ep_rH1 _ _ hh, c12]; exact gx j hj
    obtain ⟨a, c2, m2, s1, s2, R2, e1, e2, e3, e4⟩ := ep_serve_ R1 hN hh hr (m.1 129 (32 * w + 17)) (m.1 129 (32 * w + 10)) (m.1 129 (32 * w + 11)) (m.1 129 (32 * w + 12)) (m.1 129 (32 * w + 13))
    have i14 : eh_in (nI w) 14 = true := ep_in (by omega) (by decide)
    have q32 : (32 : Int32) * nI w = nI (32 * w) := ep_mul (b := 32) rfl rfl
    have u10 : nI (32 * w) + 10 = nI (32 * w + 10) := ep_addn _ 10
    have u11 : nI (32 * w) + 11 = nI (32 * w + 11) := ep_addn _ 11
    have u12 : nI (32 * w) + 12 = nI (32 * w + 12) := ep_addn _ 12
    have u13 : nI (32 * w) + 13 = nI (32 * w + 13) := ep_addn _ 13
    have u17 : nI (32 * w) + 17 = nI (32 * w + 17) := ep_addn _ 17
    have j10 : eh_in (nI (32 * w + 10)) 448 = true := ep_in (by omega) (by decide)
    have j11 : eh_in (nI (32 * w + 11)) 448 = true := ep_in (by omega) (by decide)
    have j12 : eh_in (nI (32 * w + 12)) 448 = true := ep_in (by omega) (by decide)
    have j13 : eh_in (nI (32 * w + 13)) 448 = true := ep_in (by omega) (by decide)
    have j17 : eh_in (nI (32 * w + 17)) 448 = true := ep_in (by omega) (by decide)
    have y10 : eh_ix (nI (32 * w + 10)) = 32 * w + 10 := ep_ix (by omega)
    have y11 : eh_ix (nI (32 * w + 11)) = 32 * w + 11 := ep_ix (by omega)
    have y12 : eh_ix (nI (32 * w + 12)) = 32 * w + 12 := ep_ix (by omega)
    have y13 : eh_ix (nI (32 * w + 13)) = 32 * w + 13 := ep_ix (by omega)
    have y17 : eh_ix (nI (32 * w + 17)) = 32 * w + 17 := ep_ix (by omega)
    have hal4 := ep_al4 hal
    have m83 : m2.1 127 83 = -1 := by rw [e3 83 (Or.inl rfl)]; exact h83
    have m85 : m2.1 127 85 = pc + 4 := by rw [e3 85 (Or.inr rfl)]; exact h85
    have c24 : ∀ m0, (ep_mk c2 m0).2.2 4 = eh_hp (nI w) := fun m0 => by rw [ep_rQ, e1, c12]; exact hP.2.1
    have c29 : ∀ m0, (ep_mk c2 m0).1 124 9 = pc + 4 := fun m0 => by rw [ep_rC2 _ _ _ (by decide) (by decide), e2, v9]
    have g5 : c2.2.1 0 w 5 = m2.1 144 w := (R2.2.2.2.2.2.2.2.1 w hh).2.2.2.2.1
    have cS : ∀ m0, ep_CE (ep_mk c1 m0) = (if m2.1 144 w = -1 then some (ep_mk (ep_cH (ep_cH c2 0 w 2 (pc + 4)) 1 w 10 a) m0) else some (ep_mk (ep_cH c2 0 w 2 (pc + 4)) m0)) := fun m0 => by
      have r4 : (ep_mk (ep_cH c2 0 w 2 (pc + 4)) m0).2.2 4 = eh_hp (nI w) := c24 m0
      have r7 : (ep_mk (ep_cH c2 0 w 2 (pc + 4)) m0).2.2 7 = eh_hp (nI w) + 1 := by rw [ep_rQ, ep_cHq, e1, c12]; exact h7
      have r5 : (ep_mk (ep_cH c2 0 w 2 (pc + 4)) m0).1 (eh_hp (nI w)) 5 = m2.1 144 w := by rw [ep_rH0 _ _ hh, ep_cHs, ep_upd_ne (by decide), g5]
      unfold ep_CE
      rw [ep_J, rr, v10, if_pos rfl, ep_J, rr, v12, if_neg n10, if_neg n10, rr, v6, if_pos rfl, q4, if_pos okH, q7, if_pos okX, if_pos okX, if_pos okX, if_pos okX, if_pos okX, rx _ 17 (by decide), rx _ 10 (by decide), rx _ 11 (by decide), rx _ 12 (by decide), rx _ 13 (by decide), s1 m0, ep_sb, c24, if_pos okH, ep_V, c29, ep_iH0 _ _ _ _ hh, r4, if_pos okH, ep_J, r5]
      by_cases z : m2.1 144 w = -1
      · rw [if_pos z, if_pos z, r7, if_pos okX, ep_V, ep_iH1 _ _ _ _ hh]
      · rw [if_neg z, if_neg z]
    have mS : ∀ c0, eF_12_calls (ep_mk c0 m) (nI w) pc = (if m2.1 127 86 = 0 then some (ep_mk c0 (ep_mI m2 129 (32 * w + 10) a)) else some (ep_mk c0 m2)) := fun c0 => by
      unfold eF_12_calls
      rw [if_pos i2, ep_J, x2, ep_rM _ _ 144 (by decide), hr, if_pos rfl, if_pos i2, ep_rM _ _ 131 (by decide), hmode hr, if_neg n10, q32, u10, u11, u12, u13, u17, if_pos j17, if_pos j10, if_pos j11, if_pos j12, if_pos j13, y10, y11, y12, y13, y17, ep_rM _ _ 129 (by decide), s2 c0, ep_sb, ep_rM _ _ 127 (by decide)]
      by_cases z : m2.1 127 86 = 0
      · rw [if_pos z, if_pos z, if_pos j10, ep_V, ep_iM _ _ _ _ _ (by decide)]
      · rw [if_neg z, if_neg z]
    have fin : ∀ c0 (M : ep_M), M.1 127 83 = -1 → M.1 127 85 = pc + 4 → ep_ME (ep_mk c0 M) (nI w) (m.1 144 w) (nI w) = some (ep_mk c0 (ep_mI M 130 w (pc + 4))) := fun c0 M z1 z2 => by
      unfold ep_ME
      rw [ep_J, ep_rM _ _ 127 (by decide), z1, if_pos rfl, if_pos i14, x2, ep_V, z2, ep_iM _ _ _ _ _ (by decide)]
    rcases e4 with ⟨z1, z2⟩ | ⟨z1, z2⟩
    · have hm : m2.1 144 w = -1 := by rw [z2]; exact hr
      have R4 := ep_S130 (ep_R_hx R2 hh (j := 10) (by decide) (by decide) a) hh (pc + 4) hal4
      refine ⟨ep_cH (ep_cH c2 0 w 2 (pc + 4)) 1 w 10 a, ep_mI (ep_mI m2 129 (32 * w + 10) a) 130 w (pc + 4), fun m0 => ?_, fun c0 => ?_, ?_⟩
      · rw [cS, if_pos hm]
      · rw [mS, if_pos z1, ep_sb]
        exact fin c0 (ep_mI m2 129 (32 * w + 10) a) m83 m85
      · rw [ep_cH_comm _ (by decide)]
        exact R4
    · have R4 := ep_S130 R2 hh (pc + 4) hal4
      refine ⟨_, _, fun m0 => ?_, fun c0 => ?_, R4⟩
      · rw [cS, if_neg z2]
      · rw [mS, if_neg (by rw [z1]; decide), ep_sb]
        exact fin c0 m2 m83 m85
  · have ht := ho.2.1
    have hru := ho.2.2.2.1
    have tm1 : ¬ nI t = -1 := ep_nI_ne_m1 (by omega)
    have hw2 : w = 2 + t := by
      rcases hw with z | ⟨t', e', z1, z2⟩
      · rw [hru] at z; exact absurd z.1 tm1
      · have := z1.2.2.2.1
        rw [hru, nI_eq (by omega) (by have := z1.2.1; omega)] at this
        rw [z2, this]
    subst hw2
    have v6 : c1.1 124 6 = 1 := by rw [hc1]; exact h6
    have q5 : ∀ m0, (ep_mk c1 m0).2.2 5 = eh_fp (nI t) := fun m0 => by rw [ep_rQ, c12]; exact h5
    have okF := ep_okF ht
    have i14 : eh_in (nI (2 + t)) 14 = true := ep_in (by omega) (by decide)
    have x14 : eh_ix (nI (2 + t)) = 2 + t := ep_ix (by omega)
    obtain ⟨c2, m2, s1, s2, m83, R2⟩ := ep_tcall R1 (by omega) ho h83 (by rw [h85, hpc]) pc
    refine ⟨c2, _, fun m0 => ?_, fun c0 => ?_, R2⟩
    · unfold ep_CE
      rw [ep_J, rr, v10, if_pos rfl, ep_J, rr, v12, if_neg n10, rr, v6, if_neg n10, q4, if_pos okH, q5, if_pos okF, s1 m0, ep_sb]
    · have mS : eF_12_calls (ep_mk c0 m) (nI h) pc = some (ep_mk c0 m2) := by
        unfold eF_12_calls
        rw [if_pos i2, ep_J, x2, ep_rM _ _ 144 (by decide), hru, if_neg tm1, s2 c0, ep_sb]
      rw [mS, ep_sb]
      unfold ep_ME
      rw [ep_J, ep_rM _ _ 127 (by decide), m83, if_pos rfl, if_pos i14, x14, ep_V, ep_iM _ _ _ _ _ (by decide)]
theorem ep_rest {N : Nat} {c : ep_C} {m : ep_M} (hR : ep_R N c m) (hN : N + 700 < 2 ^ 28) {h w : Nat} (hP : ep_Pr c m h) (h8 : c.1 124 8 = m.1 130 w) (h9 : c.1 124 9 = m.1 130 w + 4) (h10 : c.1 124 10 = -1) (h12 : c.1 124 12 = 0) (who : ∀ (c0 : ep_C) (M : ep_M), M.1 144 = m.1 144 → eF_12_who (ep_mk c0 M) (nI h) = some (nI w)) (hw14 : w < 14) (hal : ep_al (m.1 130 w)) (hw : (m.1 144 h = -1 ∧ w = h) ∨ ∃ t e, ep_On m h t e ∧ w = 2 + t) : ∃ c' m', (∀ m0, Option.bind (eF_7_doOne (ep_mk c m0)) (fun q10 => ep_CE q10) = some (ep_mk c' m0)) ∧ (∀ c0, ep_RS (ep_mk c0 m) (nI h) (m.1 144 h) = some (ep_mk c0 m')) ∧ ep_R (N + 300) c' m' := by
  have hh := hP.1
  have okH := ep_okH hh
  have q4 : ∀ m0, (ep_mk c m0).2.2 4 = eh_hp (nI h) := fun m0 => hP.2.1
  have i2 : eh_in (nI h) 2 = true := ep_in hh (by decide)
  have x2 : eh_ix (nI h) = h := ep_ix (by omega)
  have i14 : eh_in (nI w) 14 = true := ep_in hw14 (by decide)
  have x14 : eh_ix (nI w) = w := ep_ix (by omega)
  obtain ⟨pc, hpc⟩ : ∃ pc, pc = m.1 130 w := ⟨_, rfl⟩
  rw [← hpc] at h8 h9 hal
  obtain ⟨m3, hm3⟩ : ∃ m3, m3 = ep_mI (ep_mI (ep_mI (ep_mI m 146 h (m.1 146 h + 1)) 127 83 (-1)) 127 86 0) 127 85 (pc + 4) := ⟨_, rfl⟩
  have m3k : ∀ k, k ≠ 146 → k ≠ 127 → m3.1 k = m.1 k := fun k a b => by
    rw [hm3, ep_mIn _ _ _ _ _ b, ep_mIn _ _ _ _ _ b, ep_mIn _ _ _ _ _ b, ep_mIn _ _ _ _ _ a]
  -- the step is counted
  obtain ⟨c1, cnt, R1, Q1⟩ : ∃ c1, (∀ m0, eF_7_doOne (ep_mk c m0) = Option.bind (eF_7_locate (ep_mk c1 m0) pc 1 4) (fun q3 => if q3.1 < 0 then (some q3.2) else (Option.bind (eF_6_wordAt q3.2 q3.1) (fun q5 => ep_sw q3.2 q5)))) ∧ ep_R N c1 m3 ∧ ep_Q c1 m3 h pc := by
    have dn : ∀ (c' : ep_C) (m0 : ep_M), c'.1 124 8 = pc → (Option.bind (eF_7_locate (ep_mk c' m0) ((ep_mk c' m0).1 124 8) 1 4) (fun q3 => if q3.1 < 0 then (some q3.2) else (Option.bind (eF_6_wordAt q3.2 q3.1) (fun q5 => ep_sw q3.2 q5)))) = Option.bind (eF_7_locate (ep_mk c' m0) pc 1 4) (fun q3 => if q3.1 < 0 then (some q3.2) else (Option.bind (eF_6_wordAt q3.2 q3.1) (fun q5 => ep_sw q3.2 q5))) := fun c' m0 z => by
      rw [ep_rC2 _ _ 124 (by decide) (by decide), z]
    rcases hP.2.2 with ⟨hr, h6, h7⟩ | ⟨t, e, ho, h6, h5, h7⟩
    · refine ⟨c, fun m0 => ?_, ?_, ?_⟩
      · unfold eF_7_doOne
        rw [ep_J, ep_rC2 _ _ 124 (by decide) (by decide), h6, if_pos rfl]
        exact dn c m0 h8
      · rw [hm3]
        refine ⟨hR.1, hR.2.1, hR.2.2.1, hR.2.2.2.1, hR.2.2.2.2.1, hR.2.2.2.2.2.1, hR.2.2.2.2.2.2.1, hR.2.2.2.2.2.2.2.1, hR.2.2.2.2.2.2.2.2.1, ?_, hR.2.2.2.2.2.2.2.2.2.2.1, hR.2.2.2.2.2.2.2.2.2.2.2.1, hR.2.2.2.2.2.2.2.2.2.2.2.2.1, hR.2.2.2.2.2.2.2.2.2.2.2.2.2.1, hR.2.2.2.2.2.2.2.2.2.2.2.2.2.2.1, hR.2.2.2.2.2.2.2.2.2.2.2.2.2.2.2.1, hR.2.2.2.2.2.2.2.2.2.2.2.2.2.2.2.2.1, hR.2.2.2.2.2.2.2.2.2.2.2.2.2.2.2.2.2.1, hR.2.2.2.2.2.2.2.2.2.2.2.2.2.2.2.2.2.2.1, hR.2.2.2.2.2.2.2.2.2.2.2.2.2.2.2.2.2.2.2.1, hR.2.2.2.2.2.2.2.2.2.2.2.2.2.2.2.2.2.2.2.2.1, hR.2.2.2.2.2.2.2.2.2.2.2.2.2.2.2.2.2.2.2.2.2.1, hR.2.2.2.2.2.2.2.2.2.2.2.2.2.2.2.2.2.2.2.2.2.2.1, hR.2.2.2.2.2.2.2.2.2.2.2.2.2.2.2.2.2.2.2.2.2.2.2.1, hR.2.2.2.2.2.2.2.2.2.2.2.2.2.2.2.2.2.2.2.2.2.2.2.2.1, hR.2.2.2.2.2.2.2.2.2.2.2.2.2.2.2.2.2.2.2.2.2.2.2.2.2.1, hR.2.2.2.2.2.2.2.2.2.2.2.2.2.2.2.2.2.2.2.2.2.2.2.2.2.2.1, hR.2.2.2.2.2.2.2.2.2.2.2.2.2.2.2.2.2.2.2.2.2.2.2.2.2.2.2.1, hR.2.2.2.2.2.2.2.2.2.2.2.2.2.2.2.2.2.2.2.2.2.2.2.2.2.2.2.2.1, hR.2.2.2.2.2.2.2.2.2.2.2.2.2.2.2.2.2.2.2.2.2.2.2.2.2.2.2.2.2.1, hR.2.2.2.2.2.2.2.2.2.2.2.2.2.2.2.2.2.2.2.2.2.2.2.2.2.2.2.2.2.2.1, hR.2.2.2.2.2.2.2.2.2.2.2.2.2.2.2.2.2.2.2.2.2.2.2.2.2.2.2.2.2.2.2.1, hR.2.2.2.2.2.2.2.2.2.2.2.2.2.2.2.2.2.2.2.2.2.2.2.2.2.2.2.2.2.2.2.2.1, hR.2.2.2.2.2.2.2.2.2.2.2.2.2.2.2.2.2.2.2.2.2.2.2.2.2.2.2.2.2.2.2.2.2⟩
        intro h' hh' hr'
        have hr2 : m.1 144 h' ≠ -1 := hr'
        have ne : h' ≠ h := fun z => hr2 (by rw [z]; exact hr)
        obtain ⟨a, b⟩ := hR.2.2.2.2.2.2.2.2.2.1 h' hh' hr2
        exact ⟨a, by show _ = upd (m.1 146) h (m.1 146 h + 1) h'; rw [ep_upd_ne ne]; exact b⟩
      · refine ⟨?_, h8, hal, h9, by rw [hm3]; rfl, h10, by rw [hm3]; rfl, h12⟩
        rw [hm3]; exact hP
    · have hrn : m.1 144 h ≠ -1 := by rw [ho.2.2.2.1]; exact ep_nI_ne_m1 (by have := ho.2.1; omega)
      have g8 := (hR.2.2.2.2.2.2.2.2.2.1 h hh hrn).2
      refine ⟨ep_cH c 0 h 8 (c.2.1 0 h 8 + 1), fun m0 => ?_, ?_, ?_⟩
      · unfold eF_7_doOne
        rw [ep_J, ep_rC2 _ _ 124 (by decide) (by decide), h6, if_neg (by decide), q4, if_pos okH, ep_V, ep_rH0 _ _ hh, ep_iH0 _ _ _ _ hh]
        exact dn _ m0 h8
      · rw [hm3]
        refine ⟨hR.1, hR.2.1, hR.2.2.1, hR.2.2.2.1, hR.2.2.2.2.1, hR.2.2.2.2.2.1, hR.2.2.2.2.2.2.1, ?_, hR.2.2.2.2.2.2.2.2.1, ?_, hR.2.2.2.2.2.2.2.2.2.2.1, hR.2.2.2.2.2.2.2.2.2.2.2.1, hR.2.2.2.2.2.2.2.2.2.2.2.2.1, hR.2.2.2.2.2.2.2.2.2.2.2.2.2.1, hR.2.2.2.2.2.2.2.2.2.2.2.2.2.2.1, hR.2.2.2.2.2.2.2.2.2.2.2.2.2.2.2.1, hR.2.2.2.2.2.2.2.2.2.2.2.2.2.2.2.2.1, hR.2.2.2.2.2.2.2.2.2.2.2.2.2.2.2.2.2.1, hR.2.2.2.2.2.2.2.2.2.2.2.2.2.2.2.2.2.2.1, hR.2.2.2.2.2.2.2.2.2.2.2.2.2.2.2.2.2.2.2.1, hR.2.2.2.2.2.2.2.2.2.2.2.2.2.2.2.2.2.2.2.2.1, hR.2.2.2.2.2.2.2.2.2.2.2.2.2.2.2.2.2.2.2.2.2.1, hR.2.2.2.2.2.2.2.2.2.2.2.2.2.2.2.2.2.2.2.2.2.2.1, hR.2.2.2.2.2.2.2.2.2.2.2.2.2.2.2.2.2.2.2.2.2.2.2.1, hR.2.2.2.2.2.2.2.2.2.2.2.2.2.2.2.2.2.2.2.2.2.2.2.2.1, hR.2.2.2.2.2.2.2.2.2.2.2.2.2.2.2.2.2.2.2.2.2.2.2.2.2.1, hR.2.2.2.2.2.2.2.2.2.2.2.2.2.2.2.2.2.2.2.2.2.2.2.2.2.2.1, hR.2.2.2.2.2.2.2.2.2.2.2.2.2.2.2.2.2.2.2.2.2.2.2.2.2.2.2.1, hR.2.2.2.2.2.2.2.2.2.2.2.2.2.2.2.2.2.2.2.2.2.2.2.2.2.2.2.2.1, hR.2.2.2.2.2.2.2.2.2.2.2.2.2.2.2.2.2.2.2.2.2.2.2.2.2.2.2.2.2.1, hR.2.2.2.2.2.2.2.2.2.2.2.2.2.2.2.2.2.2.2.2.2.2.2.2.2.2.2.2.2.2.1, hR.2.2.2.2.2.2.2.2.2.2.2.2.2.2.2.2.2.2.2.2.2.2.2.2.2.2.2.2.2.2.2.1, hR.2.2.2.2.2.2.2.2.2.2.2.2.2.2.2.2.2.2.2.2.2.2.2.2.2.2.2.2.2.2.2.2.1, hR.2.2.2.2.2.2.2.2.2.2.2.2.2.2.2.2.2.2.2.2.2.2.2.2.2.2.2.2.2.2.2.2.2⟩
        · intro h' hh'
          have g := hR.2.2.2.2.2.2.2.1 h' hh'
          by_cases y : h' = h
          · subst y; rw [ep_cHs]; exact g
          · rw [ep_cHh _ _ _ _ _ _ y]; exact g
        · intro h' hh' hr'
          obtain ⟨a, b⟩ := hR.2.2.2.2.2.2.2.2.2.1 h' hh' hr'
          show _ ∧ _ = upd (m.1 146) h (m.1 146 h + 1) h'
          by_cases y : h' = h
          · subst y
            rw [ep_cHs, ep_upd_eq, ep_upd_eq, ep_upd_ne (by decide)]
            exact ⟨a, by rw [g8]⟩
          · rw [ep_cHh _ _ _ _ _ _ y, ep_upd_ne y]; exact ⟨a, b⟩
      · refine ⟨?_, h8, hal, h9, by rw [hm3]; rfl, h10, by rw [hm3]; rfl, h12⟩
        rw [hm3]; exact hP
  have m144 : m3.1 144 = m.1 144 := m3k 144 (by decide) (by decide)
  have m130 : m3.1 130 = m.1 130 := m3k 130 (by decide) (by decide)
  have hw3 : (m3.1 144 h = -1 ∧ w = h) ∨ ∃ t e, ep_On m3 h t e ∧ w = 2 + t := by
    rw [hm3]; exact hw
  have hwD : (m3.1 144 h = -1 ∧ w = h) ∨ ∃ t, m3.1 144 h = nI t ∧ t < 12 ∧ w = 2 + t := by
    rcases hw3 with z | ⟨t, e, z1, z2⟩
    · exact Or.inl z
    · exact Or.inr ⟨t, z1.2.2.2.1, z1.2.1, z2⟩
  -- the reference's rest
  have mR : ∀ c0, ep_RS (ep_mk c0 m) (nI h) (m.1 144 h) = Option.bind (eF_12_locate (ep_mk c0 m3) (nI h) pc 4 0) (fun q15 => if (q15.2.1 127 83) = (-1) then (Option.bind (eF_12_littleWord q15.2 128 131072 q15.1) (fun q37 => Option.bind (eF_12_execute q15.2 (nI h) q37 (q15.2.1 130 w)) (fun q38 => ep_ME q38 (nI h) (m.1 144 h) (nI w)))) else (ep_ME q15.2 (nI h) (m.1 144 h) (nI w))) := fun c0 => by
    unfold ep_RS ep_ME
    rw [if_pos i2, if_pos i2, ep_V, x2, ep_rM _ _ 146 (by decide), ep_iM _ _ _ _ _ (by decide), ep_V, ep_iM _ _ _ _ _ (by decide), ep_V, ep_iM _ _ _ _ _ (by decide), who c0 (ep_mI (ep_mI (ep_mI m 146 h (m.1 146 h + 1)) 127 83 (-1)) 127 86 0) rfl, ep_sb, if_pos i14, ep_V, x14, ep_rM _ _ 130 (by decide), ep_iM _ _ _ _ _ (by decide), if_pos i14]
    have e1 : ep_mI (ep_mI (ep_mI (ep_mI m 146 h (m.1 146 h + 1)) 127 83 (-1)) 127 86 0) 127 85 ((ep_mI (ep_mI (ep_mI m 146 h (m.1 146 h + 1)) 127 83 (-1)) 127 86 0).1 130 w + 4) = m3 := by rw [hm3, hpc]; rfl
    rw [e1, ep_rM _ _ 130 (by decide), m130, ← hpc]
    simp only [ep_J, i14, if_true]
  rcases ep_locate R1 Q1.1 Q1.2.2.2.2.2.2.1 (nc := 1) (nm := 4) (way := 0) (by decide) (Or.inl rfl) (Or.inr (Or.inr rfl)) pc (by
      have := Q1.2.2.1
      unfold ep_al at this
      rw [pk_and pc (m := 3) 2 rfl, show (0 : Int32) = nI 0 from rfl, nI_eq (by omega) (by decide)] at this
      exact this) (Nat.mod_one _) with ⟨q, n', f, g, r', l1, l2, l3, l4⟩ | ⟨y, n', f, g, r', l1, l3, l4⟩
  · have R2 := ep_R_mg R1 n' f g r'
    have Q2 := ep_Q_mg Q1 n' f g r'
    have hwd : ∀ m0, eF_6_wordAt (ep_mk c1 m0) (nI q) = some (ep_lw (m3.1 128) q) := fun m0 => ep_cwrd R1 l1 l2 m0
    have m83 : (ep_mg m3 n' f g r').1 127 83 = -1 := Q2.2.2.2.2.2.2.1
    have cD : ∀ m0, eF_7_doOne (ep_mk c m0) = ep_sw (ep_mk c1 m0) (ep_lw (m3.1 128) q) := fun m0 => by
      rw [cnt m0, show eF_7_locate (ep_mk c1 m0) pc 1 4 = _ from l3 m0, ep_sb, if_neg (nI_pos (by omega)), hwd, ep_sb]
    have mE : ∀ c0, ep_RS (ep_mk c0 m) (nI h) (m.1 144 h) = Option.bind (eF_12_execute (ep_mk c0 (ep_mg m3 n' f g r')) (nI h) (ep_lw (m3.1 128) q) pc) (fun q38 => ep_ME q38 (nI h) (m.1 144 h) (nI w)) := fun c0 => by
      rw [mR c0, show eF_12_locate (ep_mk c0 m3) (nI h) pc 4 0 = _ from l4 c0, ep_sb, ep_rM _ _ 127 (by decide), m83, if_pos rfl, ep_mlittle _ 128 131072 (by decide) (by omega) (by decide), ep_sb, ep_rM _ _ 130 (by decide), show (ep_mg m3 n' f g r').1 130 = m3.1 130 from rfl, m130, ← hpc]
      rfl
    rcases ep_exec R2 (by omega) Q2 (ep_lw (m3.1 128) q) with ⟨c2, m2, a, b, d⟩ | ⟨a, b, d⟩
    · obtain ⟨c', m', u1, u2, u3⟩ := ep_endD d (by omega) (w := w) hwD
      refine ⟨c', m', fun m0 => ?_, fun c0 => ?_, ep_R_mono u3 (by omega)⟩
      · rw [cD m0, a m0, ep_sb, u1 m0]
      · rw [mE c0, b c0, ep_sb, ← u2 c0]
        show ep_ME _ _ (m.1 144 h) _ = ep_ME _ _ (m3.1 144 h) _
        rw [m144]
    · obtain ⟨c', m', u1, u2, u3⟩ := ep_callsB R2 (by omega) Q2 (w := w) (by show pc = m3.1 130 w; rw [m130]; exact hpc) hw3 a
      refine ⟨c', m', fun m0 => ?_, fun c0 => ?_, ep_R_mono u3 (by omega)⟩
      · rw [cD m0, b m0, ep_sb, u1 m0]
      · rw [mE c0, d c0, ← u2 c0]
        show Option.bind _ (fun q38 => ep_ME q38 _ (m.1 144 h) _) = Option.bind _ (fun q38 => ep_ME q38 _ (m3.1 144 h) _)
        rw [m144]
  · have D1 := ep_D_F (ep_R_mg R1 n' f g r') (ep_Q_mg Q1 n' f g r') l1 pc
    obtain ⟨c', m', u1, u2, u3⟩ := ep_endD D1 (by omega) (w := w) hwD
    refine ⟨c', m', fun m0 => ?_, fun c0 => ?_, ep_R_mono u3 (by omega)⟩
    · rw [cnt m0, show eF_7_locate (ep_mk c1 m0) pc 1 4 = _ from l3 m0, ep_sb, if_pos (show (-1 : Int32) < 0 by decide), ep_sb, u1 m0]
    · rw [mR c0, show eF_12_locate (ep_mk c0 m3) (nI h) pc 4 0 = _ from l4 c0, ep_sb, ep_rM _ _ 127 (by decide), if_neg (show ¬ (ep_mF (ep_mg m3 n' f g r') y pc).1 127 83 = -1 from l1), ← u2 c0]
      show ep_ME _ _ (m.1 144 h) _ = ep_ME _ _ (m3.1 144 h) _
      rw [m144]
theorem ep_step {N : Nat} {c : ep_C} {m : ep_M} (hR : ep_R N c m) (hN : N + 900 < 2 ^ 28) {h : Nat} (hh : h < 2) : ∃ c' m', (∀ m0, eF_7_step (ep_mk c m0) (nI h) = some (ep_mk c' m0)) ∧ (∀ c0, eF_12_step (ep_mk c0 m) (nI h) = some (ep_mk c0 m')) ∧ ep_R (N + 300) c' m' := by
  obtain ⟨c1, w, k1, R1, P1, h8, h9, h10, h12, who, hw14, hal, hw⟩ := ep_look2 hR hh
  have okH := ep_okH hh
  have i2 : eh_in (nI h) 2 = true := ep_in hh (by decide)
  have x2 : eh_ix (nI h) = h := ep_ix (by omega)
  have q4 : ∀ m0, (ep_mk c1 m0).2.2 4 = eh_hp (nI h) := fun m0 => P1.2.1
  have gh := R1.2.2.2.2.2.2.2.1 h hh
  have g4 : c1.2.1 0 h 4 = m.1 132 h := gh.2.2.2.1
  have g10 : c1.2.1 0 h 10 = m.1 134 h := gh.2.2.2.2.2.2.2.1
  obtain ⟨P, p546, pc1, pm1⟩ := ep_pendp R1 hh
  obtain ⟨d, hd⟩ : ∃ d, d = P &&& m.1 134 h := ⟨_, rfl⟩
  by_cases hwt : ¬ m.1 132 h = 0 ∧ d = 0
  · refine ⟨c1, m, fun m0 => ?_, fun c0 => ?_, ep_R_mono R1 (by omega)⟩
    · unfold eF_7_step
      rw [if_pos i2, k1 m0, ep_sb, q4, if_pos okH, ep_J, ep_rH0 _ _ hh, g4, if_neg hwt.1, if_pos okH, pc1 m0, ep_sb, if_pos okH, g10, ← hd, if_pos hwt.2]
    · unfold eF_12_step
      rw [pm1 c0, ep_sb, if_pos i2, ep_V, x2, ep_rM _ _ 134 (by decide), ← hd, if_pos i2, ep_J, ep_rM _ _ 132 (by decide), if_neg hwt.1, if_pos hwt.2]
  · -- awake
    have R2 := ep_S132 R1 hh 0 (Or.inl rfl)
    have P2 : ep_Pr (ep_cH c1 0 h 4 0) (ep_mI m 132 h 0) h := P1
    have hd2 : d = P &&& (ep_mI m 132 h 0).1 134 h := hd
    obtain ⟨P', p546', pc2, pm2⟩ := ep_pendp R2 hh
    have hPP : P' = P := by
      have z1 := pm2 c1
      have z2 := pm1 c1
      have : eF_12_pending (ep_mk c1 (ep_mI m 132 h 0)) (nI h) = eF_12_pending (ep_mk c1 m) (nI h) := by
        unfold eF_12_pending
        simp (disch := first | assumption | decide) only [ep_rM, ep_mIn, ep_mcmpU]
      rw [this, z2] at z1
      exact (Option.some.inj z1).symm
    subst hPP
    have cW : ∀ m0, eF_7_step (ep_mk c m0) (nI h) = Option.bind (eF_7_isInterrupted (ep_mk (ep_cH c1 0 h 4 0) m0)) (fun q8 => if q8.1 = 0 then (Option.bind (eF_7_doOne q8.2) (fun q10 => ep_CE q10)) else (some q8.2)) := fun m0 => by
      unfold eF_7_step ep_CE
      rw [if_pos i2, k1 m0, ep_sb, q4, if_pos okH, ep_J, ep_rH0 _ _ hh, g4]
      by_cases y : m.1 132 h = 0
      · rw [if_pos y]
        dsimp only
        rw [if_pos okH, ep_V, ep_iH0 _ _ _ _ hh]
      · have yd : ¬ d = 0 := fun z => hwt ⟨y, z⟩
        rw [if_neg y, if_pos okH, pc1 m0, ep_sb, if_pos okH, g10, ← hd, if_neg yd]
        dsimp only
        rw [if_pos okH, ep_V, ep_iH0 _ _ _ _ hh]
    have mW : ∀ c0, eF_12_step (ep_mk c0 m) (nI h) = ep_MI (ep_mk c0 (ep_mI m 132 h 0)) (nI h) d (ep_RS (ep_mk c0 (ep_mI m 132 h 0)) (nI h) (m.1 144 h)) := fun c0 => by
      unfold eF_12_step
      rw [pm1 c0, ep_sb, if_pos i2, ep_V, x2, ep_rM _ _ 134 (by decide), ← hd, if_pos i2, ep_J, ep_rM _ _ 132 (by decide)]
      by_cases y : m.1 132 h = 0
      · have hM : ep_mI m 132 h 0 = m := by
          unfold ep_mI
          rw [← y, ep_upd_id, ep_mLid]
        rw [if_pos y, hM]
        dsimp only
        rw [if_pos i2, ep_V]
        conv =>
          rhs
          unfold ep_MI
          unfold ep_RS
          rw [ep_V, x2]
        rw [ep_rM _ _ 144 (by decide)]
      · have yd : ¬ d = 0 := fun z => hwt ⟨y, z⟩
        rw [if_neg y, if_neg yd, if_pos i2, ep_V, ep_iM _ _ _ _ _ (by decide), show eh_nz 0 = 0 by decide]
        dsimp only
        rw [if_pos i2, ep_V]
        conv =>
          rhs
          unfold ep_MI
          unfold ep_RS
          rw [ep_V, x2]
        rw [ep_rM _ _ 144 (by decide), show (ep_mI m 132 h 0).1 144 = m.1 144 from rfl]
    rcases ep_intr R2 P2 p546 pc2 hd2 with ⟨c', m', a, b, r⟩ | ⟨a, b⟩
    · refine ⟨c', m', fun m0 => ?_, fun c0 => ?_, ep_R_mono r (by omega)⟩
      · rw [cW m0, a m0, ep_sb, if_neg (show ¬ (1 : Int32) = 0 by decide)]
      · rw [mW c0, b c0]
    · obtain ⟨c', m', u1, u2, u3⟩ := ep_rest R2 (by omega) (w := w) P2 h8 h9 h10 h12 (fun c0 M hM => by
        have z := who c0
        have : eF_12_who (ep_mk c0 M) (nI h) = eF_12_who (ep_mk c0 m) (nI h) := by
          unfold eF_12_who
          rw [ep_rM _ _ 144 (by decide), ep_rM _ _ 144 (by decide), hM]
          rfl
        rw [this]; exact z) hw14 hal hw
      refine ⟨c', m', fun m0 => ?_, fun c0 => ?_, u3⟩
      · rw [cW m0, a m0, ep_sb, if_pos rfl, u1 m0]
      · rw [mW c0, b c0]
        exact u2 c0
