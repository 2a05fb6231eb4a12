/-! the special instructions -/
theorem ep_spec {N : Nat} {c : ep_C} {m : ep_M} (hR : ep_R N c m) {h : Nat} {pc : Int32} (hQ : ep_Q c m h pc) {xi xj w : Nat} (hX : ep_X c m h xi xj w) (x : Int32) :
    (∃ c' m', (∀ m0, eF_7_special (ep_mk c m0) x = some (ep_mk c' m0)) ∧ (∀ c0, (if nI (ep_ff x) = 0 then (Option.bind (eF_12_control (ep_mk c0 m) (nI h) x (nI (ep_fd x)) (nI (ep_fa x)) (nI (ep_fg x)) pc) (fun q54 => some q54)) else (if nI (ep_ff x) = 4 then (Option.bind (eF_12_except (ep_mk c0 m) 2 x) (fun q56 => some q56)) else (Option.bind (eF_12_registers (ep_mk c0 m) (nI h) x (nI (ep_fd x)) (nI (ep_ff x)) (nI (ep_fa x)) (m.1 129 (32 * w + ep_fa x))) (fun q57 => some q57)))) = some (ep_mk c0 m')) ∧ ep_D N c' m' h (m.1 144 h)) ∨
    ((m.1 144 h = -1 → m.1 131 h = 1) ∧ (∀ m0, eF_7_special (ep_mk c m0) x = some (ep_mk (ep_cI c 124 12 1) m0)) ∧ (∀ c0, (if nI (ep_ff x) = 0 then (Option.bind (eF_12_control (ep_mk c0 m) (nI h) x (nI (ep_fd x)) (nI (ep_fa x)) (nI (ep_fg x)) pc) (fun q54 => some q54)) else (if nI (ep_ff x) = 4 then (Option.bind (eF_12_except (ep_mk c0 m) 2 x) (fun q56 => some q56)) else (Option.bind (eF_12_registers (ep_mk c0 m) (nI h) x (nI (ep_fd x)) (nI (ep_ff x)) (nI (ep_fa x)) (m.1 129 (32 * w + ep_fa x))) (fun q57 => some q57)))) = Option.bind (eF_12_calls (ep_mk c0 m) (nI h) pc) (fun q => some q))) := by
  have hf := ep_ff_l x
  have hh := hQ.1.1
  have hq4 := hQ.1.2.1
  have hfd := ep_fd_l x
  have hfa := ep_fa_l x
  have hfg := ep_fg_l x
  have hu := ep_u_lt x
  have j1 : eh_in (nI h) 2 = true := ep_in hh (by decide)
  have j2 : eh_ix (nI h) = h := ep_ix (by omega)
  have ok : ∀ m0, eh_okH ((ep_mk c m0).2.2 4) = true := fun m0 => by rw [ep_rQ, hq4]; exact ep_okH hh
  have q4 : ∀ m0, (ep_mk c m0).2.2 4 = eh_hp (nI h) := fun m0 => by rw [ep_rQ, hq4]
  obtain ⟨b, hb1, hb2, hb3, hb4⟩ := ep_inS hR hQ.1
  have f0 : (nI (ep_ff x) = 0) ↔ ep_ff x = 0 := nI_eq (b := 0) (by omega) (by decide)
  have f4 : (nI (ep_ff x) = 4) ↔ ep_ff x = 4 := nI_eq (b := 4) (by omega) (by decide)
  have d0 : (nI (ep_fd x) = 0) ↔ ep_fd x = 0 := nI_eq (b := 0) (by omega) (by decide)
  have a0 : (nI (ep_fa x) = 0) ↔ ep_fa x = 0 := nI_eq (b := 0) (by omega) (by decide)
  have g9 : (nI (ep_fg x) = 9) ↔ ep_fg x = 9 := nI_eq (b := 9) (by omega) (by decide)
  have e20 : eh_ushr x 20 = nI (ep_u x / 1048576) := ep_ushrU x (k := 20) (by decide)
  have e15 : eh_ushr x 15 = nI (ep_u x / 32768) := ep_ushrU x (k := 15) (by decide)
  have cspec : ∀ m0, eF_7_special (ep_mk c m0) x = if ep_ff x = 4 then Option.bind (eF_7_fail (ep_mk c m0) 2 x) (fun q7 => some q7) else if ep_ff x = 0 then (if ep_fd x = 0 then (if ep_fg x = 9 then Option.bind (eF_7_failUnless (ep_mk c m0) (ep_bi b) x) (fun q => some q) else Option.bind (eF_7_specialByCode (ep_mk c m0) x (ep_bi b)) (fun q => some q)) else Option.bind (eF_7_fail (ep_mk c m0) 2 x) (fun q => some q)) else Option.bind (eF_7_useControl (ep_mk c m0) x (nI (ep_ff x)) (ep_bi b)) (fun q => some q) := by
    intro m0
    unfold eF_7_special
    rw [ep_V, ep_ff_c]
    refine (hb3 m0 _).trans ?_
    rw [ep_J, ep_fd_c, ep_fg_c]
    simp only [f0, f4, d0, g9]
  by_cases y4 : ep_ff x = 4
  · left
    obtain ⟨i1, i2, i3⟩ := ep_ill hR hQ x
    refine ⟨_, _, fun m0 => ?_, fun c0 => ?_, i3⟩
    · rw [cspec, if_pos y4]; exact ep_bnd (i1 m0) rfl
    · rw [if_neg (fun z => absurd (f0.mp z) (by omega)), if_pos (f4.mpr y4)]; exact ep_bnd (i2 c0) rfl
  by_cases y0 : ¬ ep_ff x = 0
  · left
    obtain ⟨c', m', u1, u2, u3⟩ := ep_useC hR hQ hX x b hb4
    refine ⟨c', m', fun m0 => ?_, fun c0 => ?_, u3⟩
    · rw [cspec, if_neg y4, if_neg y0]; exact ep_bnd (u1 m0) rfl
    · rw [if_neg (fun z => y0 (f0.mp z)), if_neg (fun z => y4 (f4.mp z))]; exact ep_bnd (u2 c0) rfl
  have y0 : ep_ff x = 0 := Decidable.not_not.mp y0
  -- the model's control
  obtain ⟨i1, i2, i3⟩ := ep_ill hR hQ x
  have mctl : ∀ c0, eF_12_control (ep_mk c0 m) (nI h) x (nI (ep_fd x)) (nI (ep_fa x)) (nI (ep_fg x)) pc = if ep_fd x = 0 ∧ ep_fg x = 9 ∧ b = true then some (ep_mk c0 m) else if ep_fd x = 0 ∧ ep_fa x = 0 then (if ep_u x / 1048576 = 0 then Option.bind (eF_12_calls (ep_mk c0 m) (nI h) pc) (fun q => some q) else if ep_u x / 1048576 = 1 then Option.bind (eF_12_except (ep_mk c0 m) 3 pc) (fun q => some q) else if ep_u x / 1048576 = 258 ∧ b = true then (eh_V (eh_tI (ep_mk c0 m) 127 85 ((ep_mk c0 m).1 137 h)) (fun s27 => eh_V (eh_tI s27 131 h ((eh_shr (s27.1 133 h) 8) &&& 1)) (fun s28 => eh_V (((eh_shr (s28.1 133 h) 5) &&& 1) : Int32) (fun x29 => eh_V (eh_tI s28 133 h ((((s28.1 133 h) &&& (-259)) ||| (eh_shl x29 1)) ||| 32)) (fun s30 => some s30))))) else if ep_u x / 1048576 = 261 ∧ b = true then (eh_V (eh_tI (ep_mk c0 m) 132 h (eh_nz 1)) (fun s24 => some s24)) else Option.bind (eF_12_except (ep_mk c0 m) 2 x) (fun q => some q)) else Option.bind (eF_12_except (ep_mk c0 m) 2 x) (fun q => some q) := by
    intro c0
    have w0 : (nI (ep_u x / 1048576) = 0) ↔ ep_u x / 1048576 = 0 := nI_eq (b := 0) (by omega) (by decide)
    have w1 : (nI (ep_u x / 1048576) = 1) ↔ ep_u x / 1048576 = 1 := nI_eq (b := 1) (by omega) (by decide)
    have w258 : (nI (ep_u x / 1048576) = 258) ↔ ep_u x / 1048576 = 258 := nI_eq (b := 258) (by omega) (by decide)
    have w261 : (nI (ep_u x / 1048576) = 261) ↔ ep_u x / 1048576 = 261 := nI_eq (b := 261) (by omega) (by decide)
    unfold eF_12_control
    rw [ep_V, e20, if_pos j1]
    simp only [j1, j2, if_true]
    refine (hb4 c0 _).trans ?_
    simp only [↓ep_J, d0, a0, g9, w0, w1, w258, w261, ep_bi_0]
    by_cases z1 : ep_fd x = 0
    · by_cases z2 : ep_fg x = 9
      · cases hbb : b with
        | true => simp [z1, z2]
        | false =>
          by_cases z3 : ep_fa x = 0
          · by_cases k0 : ep_u x / 1048576 = 0
            · simp [z1, z2, z3, k0]
            · by_cases k1 : ep_u x / 1048576 = 1
              · simp [z1, z2, z3, k1]
              · by_cases k2 : ep_u x / 1048576 = 258
                · simp [z1, z2, z3, k2]
                · by_cases k3 : ep_u x / 1048576 = 261
                  · simp [z1, z2, z3, k3]
                  · simp [z1, z2, z3, k0, k1, k2, k3]
          · simp [z1, z2, z3]
      · by_cases z3 : ep_fa x = 0
        · by_cases k0 : ep_u x / 1048576 = 0
          · simp [z1, z2, z3, k0]
          · by_cases k1 : ep_u x / 1048576 = 1
            · simp [z1, z2, z3, k1]
            · by_cases k2 : ep_u x / 1048576 = 258
              · cases b <;> simp [z1, z2, z3, k2]
              · by_cases k3 : ep_u x / 1048576 = 261
                · cases b <;> simp [z1, z2, z3, k3]
                · simp [z1, z2, z3, k0, k1, k2, k3]
        · simp [z1, z2, z3]
    · simp [z1]
  by_cases yd : ¬ ep_fd x = 0
  · left
    refine ⟨_, _, fun m0 => ?_, fun c0 => ?_, i3⟩
    · rw [cspec, if_neg y4, if_pos y0, if_neg yd]; exact ep_bnd (i1 m0) rfl
    · rw [if_pos (f0.mpr y0), mctl, if_neg (fun z => yd z.1), if_neg (fun z => yd z.1)]
      exact ep_bnd (ep_bnd (i2 c0) rfl) rfl
  have yd : ep_fd x = 0 := Decidable.not_not.mp yd
  by_cases y9 : ep_fg x = 9
  · left
    cases hbb : b with
    | true =>
      refine ⟨c, m, fun m0 => ?_, fun c0 => ?_, ep_D_id hR hQ⟩
      · rw [cspec, if_neg y4, if_pos y0, if_pos yd, if_pos y9, hbb]
        unfold eF_7_failUnless
        rw [ep_J, if_neg (by decide)]; rfl
      · rw [if_pos (f0.mpr y0), mctl, if_pos ⟨yd, y9, hbb⟩]; rfl
    | false =>
      refine ⟨_, _, fun m0 => ?_, fun c0 => ?_, i3⟩
      · rw [cspec, if_neg y4, if_pos y0, if_pos yd, if_pos y9, hbb]
        unfold eF_7_failUnless
        rw [ep_J, if_pos (by decide)]; exact ep_bnd (ep_bnd (i1 m0) rfl) rfl
      · have hg : ep_u x / 33554432 = 9 := y9
        rw [if_pos (f0.mpr y0), mctl, if_neg (fun z => absurd z.2.2 (by rw [hbb]; decide))]
        by_cases z : ep_fd x = 0 ∧ ep_fa x = 0
        · rw [if_pos z, if_neg (by omega), if_neg (by omega), if_neg (fun q => absurd q.2 (by rw [hbb]; decide)), if_neg (fun q => absurd q.2 (by rw [hbb]; decide))]
          exact ep_bnd (ep_bnd (i2 c0) rfl) rfl
        · rw [if_neg z]; exact ep_bnd (ep_bnd (i2 c0) rfl) rfl
  -- by code
  have c0' : (nI (ep_u x / 32768) = 0) ↔ ep_u x / 32768 = 0 := nI_eq (b := 0) (by omega) (by decide)
  have c32 : (nI (ep_u x / 32768) = 32) ↔ ep_u x / 32768 = 32 := nI_eq (b := 32) (by omega) (by decide)
  have c8256 : (nI (ep_u x / 32768) = 8256) ↔ ep_u x / 32768 = 8256 := nI_eq (b := 8256) (by omega) (by decide)
  have c8352 : (nI (ep_u x / 32768) = 8352) ↔ ep_u x / 32768 = 8352 := nI_eq (b := 8352) (by omega) (by decide)
  have hcode : ep_u x / 32768 = 32 * (ep_u x / 1048576) + ep_fa x := by unfold ep_fa; omega
  have ccode : ∀ m0, eF_7_special (ep_mk c m0) x = Option.bind (eF_7_specialByCode (ep_mk c m0) x (ep_bi b)) (fun q => some q) := fun m0 => by rw [cspec, if_neg y4, if_pos y0, if_pos yd, if_neg y9]
  have mm : ∀ c0, (if nI (ep_ff x) = 0 then (Option.bind (eF_12_control (ep_mk c0 m) (nI h) x (nI (ep_fd x)) (nI (ep_fa x)) (nI (ep_fg x)) pc) (fun q54 => some q54)) else (if nI (ep_ff x) = 4 then (Option.bind (eF_12_except (ep_mk c0 m) 2 x) (fun q56 => some q56)) else (Option.bind (eF_12_registers (ep_mk c0 m) (nI h) x (nI (ep_fd x)) (nI (ep_ff x)) (nI (ep_fa x)) (m.1 129 (32 * w + ep_fa x))) (fun q57 => some q57)))) = Option.bind (eF_12_control (ep_mk c0 m) (nI h) x (nI (ep_fd x)) (nI (ep_fa x)) (nI (ep_fg x)) pc) (fun q54 => some q54) := fun c0 => by rw [if_pos (f0.mpr y0)]
  have mc2 : ∀ c0, eF_12_control (ep_mk c0 m) (nI h) x (nI (ep_fd x)) (nI (ep_fa x)) (nI (ep_fg x)) pc = _ := fun c0 => by rw [mctl c0, if_neg (fun z => y9 z.2.1)]
  have h124 : ∀ m0, (ep_mk c m0).1 124 6 = c.1 124 6 := fun m0 => by rw [ep_rC2 _ _ _ (by decide) (by decide)]
  by_cases k0 : ep_u x / 32768 = 0
  · have w0 : ep_u x / 1048576 = 0 ∧ ep_fa x = 0 := by omega
    by_cases hcall : b = true ∨ c.1 124 6 ≠ 0
    · right
      refine ⟨?_, fun m0 => ?_, fun c0 => ?_⟩
      · intro hr
        rcases hcall with z | z
        · exact (hb1 z).2.2
        · rcases hQ.1.2.2 with ⟨_, h6, _⟩ | ⟨t, e, ho, _⟩
          · exact absurd h6 z
          · rw [ho.2.2.2.1] at hr; exact absurd hr (ep_nI_ne_m1 (by have := ho.2.1; omega))
      · rw [ccode]
        unfold eF_7_specialByCode
        rw [ep_V, e15]
        simp only [↓ep_J]
        have hset : eh_tI (ep_mk c m0) 124 12 1 = ep_mk (ep_cI c 124 12 1) m0 := ep_iC2 _ _ _ _ _ (by decide) (by decide)
        rw [if_pos (c0'.mpr k0), h124]
        rcases hcall with z | z
        · rw [z, if_neg (show ¬ ep_bi true = 0 by decide), ep_V, hset]; rfl
        · rw [if_neg z, ite_self, ep_V, hset]; rfl
      · rw [mm, mc2, if_pos ⟨yd, w0.2⟩, if_pos w0.1]
        cases eF_12_calls (ep_mk c0 m) (nI h) pc <;> rfl
    · left
      have hb0 : b = false := by
        cases hbb : b with
        | false => rfl
        | true => exact absurd (Or.inl hbb) hcall
      have h60 : c.1 124 6 = 0 := by
        by_cases z : c.1 124 6 = 0
        · exact z
        · exact absurd (Or.inr z) hcall
      have hrm : m.1 144 h = -1 ∧ m.1 131 h = 0 := by
        rcases hQ.1.2.2 with ⟨hr, h6, _⟩ | ⟨t, e, ho, h6, _⟩
        · exact ⟨hr, (hb2 hb0).resolve_left (fun z => z hr)⟩
        · rw [h60] at h6; exact absurd h6 (by decide)
      refine ⟨_, _, fun m0 => ?_, fun c0 => ?_, ep_D_F hR hQ (x := 8) (by decide) 0⟩
      · rw [ccode]
        unfold eF_7_specialByCode
        rw [ep_V, e15]
        simp only [↓ep_J]
        rw [if_pos (c0'.mpr k0), hb0, if_pos (by decide), h124, if_pos h60, if_pos (c0'.mpr k0)]
        exact ep_bnd (ep_bnd (ep_cfail c 8 0 m0) rfl) rfl
      · rw [mm, mc2, if_pos ⟨yd, w0.2⟩, if_pos w0.1]
        have : eF_12_calls (ep_mk c0 m) (nI h) pc = some (ep_mk c0 (ep_mF m 8 0)) := by
          unfold eF_12_calls
          rw [if_pos j1, ep_J, j2, ep_rM _ _ 144 (by decide), hrm.1, if_pos rfl, if_pos j1, ep_rM _ _ 131 (by decide), hrm.2, if_pos rfl]
          exact ep_bnd (ep_mexcept m 8 0 c0) rfl
        rw [this]; rfl
  left
  by_cases k1 : ep_u x / 32768 = 32
  · have w1 : ep_u x / 1048576 = 1 ∧ ep_fa x = 0 := by omega
    refine ⟨_, _, fun m0 => ?_, fun c0 => ?_, ep_D_F hR hQ (x := 3) (by decide) pc⟩
    · rw [ccode]
      unfold eF_7_specialByCode
      rw [ep_V, e15]
      simp only [↓ep_J]
      rw [if_neg (fun z => k0 (c0'.mp z)), if_neg (fun z => k0 (c0'.mp z)), if_pos (c32.mpr k1), show (ep_mk c m0).1 124 8 = pc from by rw [ep_rC2 _ _ _ (by decide) (by decide)]; exact hQ.2.1]
      exact ep_bnd (ep_bnd (ep_cfail c 3 pc m0) rfl) rfl
    · rw [mm, mc2, if_pos ⟨yd, w1.2⟩, if_neg (by omega), if_pos w1.1]
      exact ep_bnd (ep_bnd (ep_mexcept m 3 pc c0) rfl) rfl
  by_cases k2 : ep_u x / 32768 = 8256 ∧ b = true
  · have w1 : ep_u x / 1048576 = 258 ∧ ep_fa x = 0 := by omega
    have a13 : c.2.1 0 h 13 = m.1 137 h := (hR.2.2.2.2.2.2.2.1 h hh).2.2.2.2.2.2.2.2.2.2.1
    have b5 := (hR.2.2.2.2.2.2.2.2.1 h hh).2.2.2.2.1
    have hD1 := ep_D_next hR hQ (tgt := m.1 137 h) b5
    obtain ⟨c', m', t1, t2, t3⟩ := ep_ltrap hD1.1 hh
    have hP2 := ep_Pr_Z t3 hD1.2.1
    refine ⟨c', m', fun m0 => ?_, fun c0 => ?_, ?_⟩
    · rw [ccode]
      unfold eF_7_specialByCode
      rw [ep_V, e15]
      simp only [↓ep_J]
      rw [if_neg (fun z => k0 (c0'.mp z)), if_neg (fun z => k0 (c0'.mp z)), if_neg (fun z => k1 (c32.mp z)), if_pos (c8256.mpr k2.1), k2.2, if_neg (by decide), if_pos (ok m0), ep_V, q4, ep_rH0 _ _ hh, a13, ep_iC2 _ _ _ _ _ (by decide) (by decide)]
      rw [show (ep_mk (ep_cI c 124 9 (m.1 137 h)) m0).2.2 4 = eh_hp (nI h) from hq4, if_pos (ep_okH hh)]
      exact ep_bnd (ep_bnd (t1 m0) rfl) rfl
    · rw [mm, mc2, if_pos ⟨yd, w1.2⟩, if_neg (by omega), if_neg (by omega), if_pos ⟨w1.1, k2.2⟩, ep_V, ep_rM _ _ 137 (by decide), ep_iM _ _ _ _ _ (by decide)]
      exact ep_bnd (t2 c0) rfl
    · obtain ⟨⟨f, rfl⟩, ⟨-, e⟩, hR2⟩ := t3
      refine ⟨hR2, hP2, hD1.2.2.1, ?_, ?_⟩
      · rw [e 127 (by omega)]
        exact hD1.2.2.2.1
      · rw [e 144 (by omega)]
        exact hD1.2.2.2.2
  by_cases k3 : ep_u x / 32768 = 8352 ∧ b = true
  · have w1 : ep_u x / 1048576 = 261 ∧ ep_fa x = 0 := by omega
    have Z1 := ep_Z_1 4 132 1 1 (by decide) (ep_S132 hR hh 1 (Or.inr rfl))
    refine ⟨_, _, fun m0 => ?_, fun c0 => ?_, ep_D_id Z1.2.2 (ep_Q_Z Z1 hQ)⟩
    · rw [ccode]
      unfold eF_7_specialByCode
      rw [ep_V, e15]
      simp only [↓ep_J]
      rw [if_neg (fun z => k0 (c0'.mp z)), if_neg (fun z => k0 (c0'.mp z)), if_neg (fun z => k1 (c32.mp z)), if_neg (fun z => absurd (c8256.mp z) (by omega)), if_pos (c8352.mpr k3.1), k3.2, if_neg (by decide), if_pos (ok m0), ep_V, q4, ep_iH0 _ _ _ _ hh]
      rfl
    · rw [mm, mc2, if_pos ⟨yd, w1.2⟩, if_neg (by omega), if_neg (by omega), if_neg (by omega), if_pos ⟨w1.1, k3.2⟩, ep_V, show eh_nz 1 = 1 from rfl, ep_iM _ _ _ _ _ (by decide)]
      rfl
  · refine ⟨_, _, fun m0 => ?_, fun c0 => ?_, i3⟩
    · rw [ccode]
      unfold eF_7_specialByCode
      rw [ep_V, e15]
      simp only [↓ep_J]
      rw [if_neg (fun z => k0 (c0'.mp z)), if_neg (fun z => k0 (c0'.mp z)), if_neg (fun z => k1 (c32.mp z))]
      simp only [c8256, c8352, ep_bi_0]
      have goal : Option.bind (eF_7_fail (ep_mk c m0) 2 x) (fun q14 => some q14) = some (ep_mk (ep_cF c 2 x) m0) := ep_bnd (i1 m0) rfl
      by_cases z1 : ep_u x / 32768 = 8256
      · have : b = false := by
          cases hbb : b with
          | false => rfl
          | true => exact absurd ⟨z1, hbb⟩ k2
        rw [if_pos z1, if_pos this, if_neg (by omega), goal]; rfl
      · by_cases z2 : ep_u x / 32768 = 8352
        · have : b = false := by
            cases hbb : b with
            | false => rfl
            | true => exact absurd ⟨z2, hbb⟩ k3
          rw [if_neg z1, if_pos z2, if_pos this, goal]; rfl
        · rw [if_neg z1, if_neg z2, goal]; rfl
    · rw [mm, mc2]
      have goal : Option.bind (eF_12_except (ep_mk c0 m) 2 x) (fun q14 => some q14) = some (ep_mk c0 (ep_mF m 2 x)) := ep_bnd (i2 c0) rfl
      by_cases z : ep_fd x = 0 ∧ ep_fa x = 0
      · rw [if_pos z, if_neg (by omega), if_neg (by omega), if_neg (fun q => k2 ⟨by omega, q.2⟩), if_neg (fun q => k3 ⟨by omega, q.2⟩), goal]; rfl
      · rw [if_neg z, goal]; rfl
