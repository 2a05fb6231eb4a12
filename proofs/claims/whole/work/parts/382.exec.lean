/-! one instruction -/
theorem ep_bs {α : Type} (x : Option α) : Option.bind x (fun q => some q) = x := by cases x <;> rfl
def ep_sw (s : eh_F) (q5 : Int32) : Option eh_F := eh_V ((q5 &&& 127) : Int32) (fun x6 => eh_J (fun (s8 : eh_F) => some s8) (fun j7 => if x6 = 3 then (Option.bind (eF_7_load s q5) (fun q11 => j7 q11)) else if x6 = 15 then (Option.bind (eF_7_fence s q5) (fun q13 => j7 q13)) else if x6 = 19 then (Option.bind (eF_7_reckonWithNumber s q5) (fun q15 => j7 q15)) else if x6 = 23 then (Option.bind (eF_7_put s q5 ((s.1 124 8) + (q5 &&& (-4096)))) (fun q17 => j7 q17)) else if x6 = 35 then (Option.bind (eF_7_store s q5) (fun q19 => j7 q19)) else if x6 = 47 then (Option.bind (eF_7_reckonInMemory s q5) (fun q21 => j7 q21)) else if x6 = 51 then (Option.bind (eF_7_reckonWithRegister s q5) (fun q23 => j7 q23)) else if x6 = 55 then (Option.bind (eF_7_put s q5 (q5 &&& (-4096))) (fun q25 => j7 q25)) else if x6 = 99 then (Option.bind (eF_7_branch s q5) (fun q27 => j7 q27)) else if x6 = 103 then (Option.bind (eF_7_jumpToRegister s q5) (fun q29 => j7 q29)) else if x6 = 111 then (Option.bind (eF_7_offsetJ s q5) (fun q31 => Option.bind (eF_7_jump s q5 ((s.1 124 8) + q31)) (fun q32 => j7 q32))) else if x6 = 115 then (Option.bind (eF_7_special s q5) (fun q34 => j7 q34)) else (Option.bind (eF_7_fail s 2 q5) (fun q35 => j7 q35))))
theorem ep_exec {N : Nat} {c : ep_C} {m : ep_M} (hR : ep_R N c m) (hN : N < 2 ^ 28) {h : Nat} {pc : Int32} (hQ : ep_Q c m h pc) (x : Int32) : (∃ c' m', (∀ m0, ep_sw (ep_mk c m0) x = some (ep_mk c' m0)) ∧ (∀ c0, eF_12_execute (ep_mk c0 m) (nI h) x pc = some (ep_mk c0 m')) ∧ ep_D (N + 1) c' m' h (m.1 144 h)) ∨ ((m.1 144 h = -1 → m.1 131 h = 1) ∧ (∀ m0, ep_sw (ep_mk c m0) x = some (ep_mk (ep_cI c 124 12 1) m0)) ∧ (∀ c0, eF_12_execute (ep_mk c0 m) (nI h) x pc = eF_12_calls (ep_mk c0 m) (nI h) pc)) := by
  obtain ⟨xi, xj, w, hX⟩ := ep_Xof hR hQ.1
  have h8 : ∀ m0, (ep_mk c m0).1 124 8 = pc := fun m0 => by rw [ep_rC2 _ _ _ (by decide) (by decide)]; exact hQ.2.1
  by_cases f3 : x &&& 127 = 3
  · left
    obtain ⟨c', m', a, b, d⟩ := ep_loadI hR hQ hX x
    refine ⟨c', m', fun m0 => ?_, fun c0 => ?_, ep_D_mono d (by omega)⟩
    · unfold ep_sw
      rw [ep_V, ep_J, if_pos f3]
      exact ep_bnd (a m0) rfl
    · unfold eF_12_execute
      rw [ep_V, ep_V, ep_V, ep_V, ep_V, ep_fd_m, ep_ff_m, ep_fa_m, ep_fb_m, ep_fg_c, ep_get hX (ep_fa_l x), ep_sb, ep_get hX (ep_fb_l x), ep_sb, ep_V, ep_V, ep_J, if_pos f3]
      exact ep_bnd (b c0) rfl
  by_cases f15 : x &&& 127 = 15
  · left
    obtain ⟨c', m', a, b, d⟩ := ep_fence hR hQ x
    refine ⟨c', m', fun m0 => ?_, fun c0 => ?_, ep_D_mono d (by omega)⟩
    · unfold ep_sw
      rw [ep_V, ep_J, if_neg f3, if_pos f15]
      exact ep_bnd (a m0) rfl
    · unfold eF_12_execute
      rw [ep_V, ep_V, ep_V, ep_V, ep_V, ep_fd_m, ep_ff_m, ep_fa_m, ep_fb_m, ep_fg_c, ep_get hX (ep_fa_l x), ep_sb, ep_get hX (ep_fb_l x), ep_sb, ep_V, ep_V, ep_J, if_neg f3, if_pos f15]
      exact b c0
  by_cases f19 : x &&& 127 = 19
  · left
    obtain ⟨c', m', a, b, d⟩ := ep_imm hR hQ hX x
    refine ⟨c', m', fun m0 => ?_, fun c0 => ?_, ep_D_mono d (by omega)⟩
    · unfold ep_sw
      rw [ep_V, ep_J, if_neg f3, if_neg f15, if_pos f19]
      exact ep_bnd (a m0) rfl
    · unfold eF_12_execute
      rw [ep_V, ep_V, ep_V, ep_V, ep_V, ep_fd_m, ep_ff_m, ep_fa_m, ep_fb_m, ep_fg_c, ep_get hX (ep_fa_l x), ep_sb, ep_get hX (ep_fb_l x), ep_sb, ep_V, ep_V, ep_J, if_neg f3, if_neg f15, if_pos f19]
      exact ep_bnd (b c0) rfl
  by_cases f23 : x &&& 127 = 23
  · left
    obtain ⟨c', m', a, b, d⟩ := ep_putD hR hQ x (pc + (x &&& (-4096)))
    refine ⟨c', m', fun m0 => ?_, fun c0 => ?_, ep_D_mono d (by omega)⟩
    · unfold ep_sw
      rw [ep_V, ep_J, if_neg f3, if_neg f15, if_neg f19, if_pos f23]
      rw [h8]
      exact ep_bnd (a m0) rfl
    · unfold eF_12_execute
      rw [ep_V, ep_V, ep_V, ep_V, ep_V, ep_fd_m, ep_ff_m, ep_fa_m, ep_fb_m, ep_fg_c, ep_get hX (ep_fa_l x), ep_sb, ep_get hX (ep_fb_l x), ep_sb, ep_V, ep_V, ep_J, if_neg f3, if_neg f15, if_neg f19, if_pos f23]
      exact ep_bnd (b c0) rfl
  by_cases f35 : x &&& 127 = 35
  · left
    obtain ⟨c', m', a, b, d⟩ := ep_storeI hR hN hQ hX x
    refine ⟨c', m', fun m0 => ?_, fun c0 => ?_, ep_D_mono d (by omega)⟩
    · unfold ep_sw
      rw [ep_V, ep_J, if_neg f3, if_neg f15, if_neg f19, if_neg f23, if_pos f35]
      exact ep_bnd (a m0) rfl
    · unfold eF_12_execute
      rw [ep_V, ep_V, ep_V, ep_V, ep_V, ep_fd_m, ep_ff_m, ep_fa_m, ep_fb_m, ep_fg_c, ep_get hX (ep_fa_l x), ep_sb, ep_get hX (ep_fb_l x), ep_sb, ep_V, ep_V, ep_J, if_neg f3, if_neg f15, if_neg f19, if_neg f23, if_pos f35]
      exact b c0
  by_cases f47 : x &&& 127 = 47
  · left
    obtain ⟨c', m', a, b, d⟩ := ep_amo hR hN hQ hX x
    refine ⟨c', m', fun m0 => ?_, fun c0 => ?_, ep_D_mono d (by omega)⟩
    · unfold ep_sw
      rw [ep_V, ep_J, if_neg f3, if_neg f15, if_neg f19, if_neg f23, if_neg f35, if_pos f47]
      exact ep_bnd (a m0) rfl
    · unfold eF_12_execute
      rw [ep_V, ep_V, ep_V, ep_V, ep_V, ep_fd_m, ep_ff_m, ep_fa_m, ep_fb_m, ep_fg_c, ep_get hX (ep_fa_l x), ep_sb, ep_get hX (ep_fb_l x), ep_sb, ep_V, ep_V, ep_J, if_neg f3, if_neg f15, if_neg f19, if_neg f23, if_neg f35, if_pos f47]
      rw [ep_how]
      exact ep_bnd (b c0) rfl
  by_cases f51 : x &&& 127 = 51
  · left
    obtain ⟨c', m', a, b, d⟩ := ep_op hR hQ hX x
    refine ⟨c', m', fun m0 => ?_, fun c0 => ?_, ep_D_mono d (by omega)⟩
    · unfold ep_sw
      rw [ep_V, ep_J, if_neg f3, if_neg f15, if_neg f19, if_neg f23, if_neg f35, if_neg f47, if_pos f51]
      exact ep_bnd (a m0) rfl
    · unfold eF_12_execute
      rw [ep_V, ep_V, ep_V, ep_V, ep_V, ep_fd_m, ep_ff_m, ep_fa_m, ep_fb_m, ep_fg_c, ep_get hX (ep_fa_l x), ep_sb, ep_get hX (ep_fb_l x), ep_sb, ep_V, ep_V, ep_J, if_neg f3, if_neg f15, if_neg f19, if_neg f23, if_neg f35, if_neg f47, if_pos f51]
      exact ep_bnd (b c0) rfl
  by_cases f55 : x &&& 127 = 55
  · left
    obtain ⟨c', m', a, b, d⟩ := ep_putD hR hQ x (x &&& (-4096))
    refine ⟨c', m', fun m0 => ?_, fun c0 => ?_, ep_D_mono d (by omega)⟩
    · unfold ep_sw
      rw [ep_V, ep_J, if_neg f3, if_neg f15, if_neg f19, if_neg f23, if_neg f35, if_neg f47, if_neg f51, if_pos f55]
      exact ep_bnd (a m0) rfl
    · unfold eF_12_execute
      rw [ep_V, ep_V, ep_V, ep_V, ep_V, ep_fd_m, ep_ff_m, ep_fa_m, ep_fb_m, ep_fg_c, ep_get hX (ep_fa_l x), ep_sb, ep_get hX (ep_fb_l x), ep_sb, ep_V, ep_V, ep_J, if_neg f3, if_neg f15, if_neg f19, if_neg f23, if_neg f35, if_neg f47, if_neg f51, if_pos f55]
      exact ep_bnd (b c0) rfl
  by_cases f99 : x &&& 127 = 99
  · left
    obtain ⟨c', m', a, b, d⟩ := ep_branch hR hQ hX x
    refine ⟨c', m', fun m0 => ?_, fun c0 => ?_, ep_D_mono d (by omega)⟩
    · unfold ep_sw
      rw [ep_V, ep_J, if_neg f3, if_neg f15, if_neg f19, if_neg f23, if_neg f35, if_neg f47, if_neg f51, if_neg f55, if_pos f99]
      exact ep_bnd (a m0) rfl
    · unfold eF_12_execute
      rw [ep_V, ep_V, ep_V, ep_V, ep_V, ep_fd_m, ep_ff_m, ep_fa_m, ep_fb_m, ep_fg_c, ep_get hX (ep_fa_l x), ep_sb, ep_get hX (ep_fb_l x), ep_sb, ep_V, ep_V, ep_J, if_neg f3, if_neg f15, if_neg f19, if_neg f23, if_neg f35, if_neg f47, if_neg f51, if_neg f55, if_pos f99]
      exact b c0
  by_cases f103 : x &&& 127 = 103
  · left
    obtain ⟨c', m', a, b, d⟩ := ep_jalr hR hQ hX x
    refine ⟨c', m', fun m0 => ?_, fun c0 => ?_, ep_D_mono d (by omega)⟩
    · unfold ep_sw
      rw [ep_V, ep_J, if_neg f3, if_neg f15, if_neg f19, if_neg f23, if_neg f35, if_neg f47, if_neg f51, if_neg f55, if_neg f99, if_pos f103]
      exact ep_bnd (a m0) rfl
    · unfold eF_12_execute
      rw [ep_V, ep_V, ep_V, ep_V, ep_V, ep_fd_m, ep_ff_m, ep_fa_m, ep_fb_m, ep_fg_c, ep_get hX (ep_fa_l x), ep_sb, ep_get hX (ep_fb_l x), ep_sb, ep_V, ep_V, ep_J, if_neg f3, if_neg f15, if_neg f19, if_neg f23, if_neg f35, if_neg f47, if_neg f51, if_neg f55, if_neg f99, if_pos f103]
      exact b c0
  by_cases f111 : x &&& 127 = 111
  · left
    obtain ⟨c', m', a, b, d⟩ := ep_jump_ hR hQ x (pc + ((((eh_shl (eh_shr x 31) 20) ||| (x &&& 1044480)) ||| (eh_shl ((eh_shr x 20) &&& 1) 11)) ||| (eh_shl ((eh_shr x 21) &&& 1023) 1)))
    refine ⟨c', m', fun m0 => ?_, fun c0 => ?_, ep_D_mono d (by omega)⟩
    · unfold ep_sw
      rw [ep_V, ep_J, if_neg f3, if_neg f15, if_neg f19, if_neg f23, if_neg f35, if_neg f47, if_neg f51, if_neg f55, if_neg f99, if_neg f103, if_pos f111]
      have hof : eF_7_offsetJ (ep_mk c m0) x = some ((((eh_shl (eh_shr x 31) 20) ||| (x &&& 1044480)) ||| ((eh_ushr x 9) &&& 2048)) ||| ((eh_ushr x 20) &&& 2046)) := rfl
      rw [hof, ep_sb, h8, ep_offJ]
      exact ep_bnd (a m0) rfl
    · unfold eF_12_execute
      rw [ep_V, ep_V, ep_V, ep_V, ep_V, ep_fd_m, ep_ff_m, ep_fa_m, ep_fb_m, ep_fg_c, ep_get hX (ep_fa_l x), ep_sb, ep_get hX (ep_fb_l x), ep_sb, ep_V, ep_V, ep_J, if_neg f3, if_neg f15, if_neg f19, if_neg f23, if_neg f35, if_neg f47, if_neg f51, if_neg f55, if_neg f99, if_neg f103, if_pos f111]
      rw [ep_V]
      exact b c0
  by_cases f115 : x &&& 127 = 115
  · have sw : ∀ m0, ep_sw (ep_mk c m0) x = eF_7_special (ep_mk c m0) x := fun m0 => by
      unfold ep_sw
      rw [ep_V, ep_J, if_neg f3, if_neg f15, if_neg f19, if_neg f23, if_neg f35, if_neg f47, if_neg f51, if_neg f55, if_neg f99, if_neg f103, if_neg f111, if_pos f115]
      exact ep_bs _
    have ex : ∀ c0, eF_12_execute (ep_mk c0 m) (nI h) x pc = (if nI (ep_ff x) = 0 then (Option.bind (eF_12_control (ep_mk c0 m) (nI h) x (nI (ep_fd x)) (nI (ep_fa x)) (nI (ep_fg x)) pc) (fun q54 => some q54)) else (if nI (ep_ff x) = 4 then (Option.bind (eF_12_except (ep_mk c0 m) 2 x) (fun q56 => some q56)) else (Option.bind (eF_12_registers (ep_mk c0 m) (nI h) x (nI (ep_fd x)) (nI (ep_ff x)) (nI (ep_fa x)) (m.1 129 (32 * w + ep_fa x))) (fun q57 => some q57)))) := fun c0 => by
      unfold eF_12_execute
      rw [ep_V, ep_V, ep_V, ep_V, ep_V, ep_fd_m, ep_ff_m, ep_fa_m, ep_fb_m, ep_fg_c, ep_get hX (ep_fa_l x), ep_sb, ep_get hX (ep_fb_l x), ep_sb, ep_V, ep_V, ep_J, if_neg f3, if_neg f15, if_neg f19, if_neg f23, if_neg f35, if_neg f47, if_neg f51, if_neg f55, if_neg f99, if_neg f103, if_neg f111, if_pos f115]
    rcases ep_spec hR hQ hX x with ⟨c', m', a, b, d⟩ | ⟨a, b, d⟩
    · left
      exact ⟨c', m', fun m0 => (sw m0).trans (a m0), fun c0 => (ex c0).trans (b c0), ep_D_mono d (by omega)⟩
    · right
      exact ⟨a, fun m0 => (sw m0).trans (b m0), fun c0 => (ex c0).trans ((d c0).trans (ep_bs _))⟩
  left
  obtain ⟨a, b, d⟩ := ep_ill hR hQ x
  refine ⟨_, _, fun m0 => ?_, fun c0 => ?_, ep_D_mono d (by omega)⟩
  · unfold ep_sw
    rw [ep_V, ep_J, if_neg f3, if_neg f15, if_neg f19, if_neg f23, if_neg f35, if_neg f47, if_neg f51, if_neg f55, if_neg f99, if_neg f103, if_neg f111, if_neg f115]
    exact ep_bnd (a m0) rfl
  · unfold eF_12_execute
    rw [ep_V, ep_V, ep_V, ep_V, ep_V, ep_fd_m, ep_ff_m, ep_fa_m, ep_fb_m, ep_fg_c, ep_get hX (ep_fa_l x), ep_sb, ep_get hX (ep_fb_l x), ep_sb, ep_V, ep_V, ep_J, if_neg f3, if_neg f15, if_neg f19, if_neg f23, if_neg f35, if_neg f47, if_neg f51, if_neg f55, if_neg f99, if_neg f103, if_neg f111, if_neg f115]
    exact ep_bnd (b c0) rfl
