/-! an enclave is finished -/
theorem ep_nb2 (x : Int32) : eh_nb (eh_nb x) = eh_nb x := by
  refine ep_ext fun i hi => ?_
  rw [ep_bit_nb _ _ hi, ep_bit_nb _ _ hi, ep_bit_nb _ 7 (by decide), if_pos (show 7 < 8 by decide)]
  by_cases z : i < 8
  · rw [if_pos z, if_pos z]
  · rw [if_neg z, if_neg z]
theorem ep_mfl (c0 : ep_C) (m : ep_M) (p a n L : Nat) (v A K : Int32) (hA : A = nI a) (hK : K = nI n) (hp : 127 ≤ p) (hL : a + n ≤ L) (hL2 : L < 1000000) : eh_loop (fun (r16 : (Int32 × eh_F) → Option (eh_F)) (t11 : Int32 × eh_F) => if t11.1 < K then (if eh_in (A + t11.1) L then eh_V (eh_tI t11.2 p (eh_ix (A + t11.1)) v) (fun s18 => eh_V ((t11.1 + 1) : Int32) (fun x19 => r16 (x19, s18))) else none) else (some t11.2)) eh_FU (0, ep_mk c0 m) = some (ep_mk c0 (ep_mL m p (ep_in_ (m.1 p) a n fun _ => v))) := by
  subst hA hK
  refine ep_loop (fun i => (nI i, ep_mk c0 (ep_mL m p (ep_in_ (m.1 p) a i fun _ => v)))) n _ (ep_FU _ (by omega)) ?_ ?_ ?_
  · intro i hi rec
    have q1 : nI i < nI n := nI_lt hi (by omega)
    have q2 : nI a + nI i = nI (a + i) := nI_add _ _
    have q3 : eh_in (nI (a + i)) L = true := ep_in (by omega) (by omega)
    have q4 : eh_ix (nI (a + i)) = a + i := ep_ix (by omega)
    show (if nI i < nI n then _ else _) = _
    rw [if_pos q1, q2, if_pos q3, q4, ep_V, ep_iM _ _ _ _ _ hp, ep_V, nI_1]
    unfold ep_mI
    rw [ep_mL1, ep_in_s (g := fun _ => v), ep_mLL]
  · intro rec
    show (if nI n < nI n then _ else _) = _
    rw [if_neg (nI_nlt (Nat.le_refl _) (by omega))]
  · show _ = (nI 0, ep_mk c0 (ep_mL m p (ep_in_ (m.1 p) a 0 _)))
    rw [ep_in_0, ep_mLid]
    rfl
theorem ep_bwc {f g : Nat → Int32} {o : Nat} (h : ∀ j, o ≤ j → j < o + 4 → f j = g j) : ep_bw f o = ep_bw g o := by
  unfold ep_bw
  rw [h o (by omega) (by omega), h (o + 1) (by omega) (by omega), h (o + 2) (by omega) (by omega), h (o + 3) (by omega) (by omega)]
theorem ep_Gd_w {n a o e : Nat} {F F' : Nat → Nat → Int32} {b b' : Nat → Int32} (h : ep_Gd n a o F b) (h1 : ∀ j, j < 8 → F' e j = ep_bw b' (a * e + o + 4 * j)) (h2 : ∀ e', e' < n → e' ≠ e → F' e' = F e') (h3 : ∀ e', e' < n → e' ≠ e → ∀ k, a * e' + o ≤ k → k < a * e' + o + 32 → b' k = b k) : ep_Gd n a o F' b' := by
  intro e' he' j hj
  by_cases y : e' = e
  · subst y; exact h1 j hj
  · rw [h2 e' he' y, h e' he' j hj]
    exact (ep_bwc fun k k1 k2 => h3 e' he' y k (by omega) (by omega)).symm
theorem ep_bw0 {b : Nat → Int32} {o : Nat} (h : ∀ j, o ≤ j → j < o + 4 → b j = eh_nb 0) : ep_bw b o = 0 := by
  unfold ep_bw
  rw [h o (by omega) (by omega), h (o + 1) (by omega) (by omega), h (o + 2) (by omega) (by omega), h (o + 3) (by omega) (by omega)]
  decide
theorem ep_ne32 {e e' : Nat} (h : e' ≠ e) {k : Nat} (h1 : 32 * e' ≤ k) (h2 : k < 32 * e' + 32) : ¬ (32 * e ≤ k ∧ k < 32 * e + 32) := by omega
theorem ep_nums2 (s : Option eh_F) (th : Nat) (a b : Int32) : ep_cnumE s th [a, b] = Option.bind (Option.bind s fun q => eF_9_feedNumber q th a) (fun q => eF_9_feedNumber q th b) := rfl
theorem ep_mnums2 (s : Option eh_F) (e : Int32) (a b : Int32) : ep_mnumE s e [a, b] = Option.bind (Option.bind s fun q => eF_12_addNumber q e a) (fun q => eF_12_addNumber q e b) := rfl
theorem ep_finalise_ {N : Nat} {c : ep_C} {m : ep_M} (hR : ep_R N c m) (hN : N + 300 < 2 ^ 28) (p q : Int32) : ep_Cp (N + 8) c m (fun s => eF_10_finalise s p q) (fun s => eF_12_finalise s p q) := by
  have hRm := ep_R_mono hR (show N ≤ N + 8 by omega)
  cases hb : ep_inb p 6 (m.1 155) with
  | false =>
    refine ep_Cp_id hRm (-1) (fun m0 => ?_) (fun c0 => ?_)
    · show eF_10_finalise (ep_mk c m0) p q = _
      unfold eF_10_finalise
      rw [ep_chasE hR, ep_sb, hb, ep_J, if_pos (by decide)]
    · show eF_12_finalise (ep_mk c0 m) p q = _
      unfold eF_12_finalise
      rw [ep_misE, ep_sb, hb, ep_J, if_pos (by decide)]
  | true =>
    obtain ⟨e, he, rfl, hE⟩ := ep_inb_t (by decide) hb
    have i6 : eh_in (nI e) 6 = true := ep_in he (by decide)
    have x6 : eh_ix (nI e) = e := ep_ix (by omega)
    have ge := (hR.2.2.2.2.2.2.2.2.2.2.2.2.2.2.2.2.1 e he).1
    by_cases hq : ¬ (q = 0 ∨ q = 1)
    · have p0 : ¬ q = 0 := fun z => hq (Or.inl z)
      have p1 : ¬ q = 1 := fun z => hq (Or.inr z)
      have hlt : q < 0 ∨ 1 < q := by
        by_cases y : q < 0
        · exact Or.inl y
        · by_cases y2 : 1 < q
          · exact Or.inr y2
          · obtain ⟨k, hk, e⟩ := ep_le_of (n := 1) (by decide) y y2
            have : k = 0 ∨ k = 1 := by omega
            rcases this with rfl | rfl
            · exact absurd e p0
            · exact absurd e p1
      refine ep_Cp_id hRm (-1) (fun m0 => ?_) (fun c0 => ?_)
      · show eF_10_finalise (ep_mk c m0) (nI e) q = _
        unfold eF_10_finalise
        rw [ep_chasE hR, ep_sb, hb, ep_J, if_neg (by decide)]
        by_cases y : q < 0
        · rw [if_pos y]
        · rw [if_neg y, if_pos (hlt.resolve_left y)]
      · show eF_12_finalise (ep_mk c0 m) (nI e) q = _
        unfold eF_12_finalise
        rw [ep_misE, ep_sb, hb, ep_J, if_neg (by decide), ep_J, if_neg p0, if_neg p1]
    have hq : q = 0 ∨ q = 1 := Decidable.not_not.mp hq
    have q0 : ¬ q < 0 := by rcases hq with rfl | rfl <;> decide
    have q1 : ¬ 1 < q := by rcases hq with rfl | rfl <;> decide
    have mq : ∀ {α : Type} (A B : α), (if q = 0 then A else (if q = 1 then A else B)) = A := by
      intro α A B
      rcases hq with rfl | rfl
      · rfl
      · rfl
    by_cases hl : m.1 155 e = 1
    · obtain ⟨st, s1, s2, s3, s4, s5⟩ := hR.2.2.2.2.2.2.2.2.2.2.2.2.2.2.2.2.2.2.2.2.2.2.1 e he hl
      obtain ⟨c1, m1, a1, a2, a3, a4, ⟨n5, f5, g5, a5⟩, ⟨H6, B6, W6, L6, a6⟩⟩ := ep_senums he [4, q] hR ⟨s4, s5⟩ s1 s2 s3 (by show N + 4 * 2 + 4 < 2 ^ 28; omega)
      have hk1 := ep_puts_ok (ep_nums [4, q]) s1 (by rw [ep_nums_len]; show st.2.2 + 4 * 2 < 2 ^ 28; omega)
      have hl1 : (ep_puts st (ep_nums [4, q])).2.2 = st.2.2 + 8 := by rw [ep_puts_len, ep_nums_len]; rfl
      obtain ⟨h', w', ce⟩ := ep_cend a4.1 hk1
      obtain ⟨H, B, W, L, me, mO⟩ := ep_mfinish (e := e) (by omega) a4.2 hk1 (by omega) 159 192 (32 * e) (by decide) (by decide) (by decide) (by decide) (by omega) (by decide)
      generalize ep_fin (ep_puts st (ep_nums [4, q])) = T at ce me
      -- the class's and the reference's last states
      obtain ⟨cF, hcF⟩ : ∃ cF, cF = ep_cH (ep_cH (ep_cG (ep_cG (ep_cse c1 e (c1.2.1 5 e 3) h' w') 9 e (ep_w8 (c1.2.1 9 e) T 8)) 10 e (fun j => if j < 8 then 0 else c1.2.1 10 e j)) 4 e 7 q) 4 e 5 2 := ⟨_, rfl⟩
      obtain ⟨mF, hmF⟩ : ∃ mF, mF = ep_mI (ep_mI (ep_mL (ep_mL (ep_mS m1 H B W L) 159 (ep_wr (m1.1 159) (32 * e) T 32)) 160 (ep_in_ (m1.1 160) (32 * e) 32 fun _ => eh_nb 0)) 157 e q) 155 e 2 := ⟨_, rfl⟩
      have c1f : ∀ i, i ≠ 5 ∧ i ≠ 6 ∧ i ≠ 7 → c1.2.1 i = c.2.1 i := fun i hi => by rw [a5]; exact ep_cse_f c e n5 f5 g5 i hi
      have c11 : c1.1 = c.1 := by rw [a5]; rfl
      have c12 : c1.2.2 = c.2.2 := by rw [a5]; rfl
      have m11 : ∀ k, k ≠ 188 → k ≠ 189 → k ≠ 191 → m1.1 k = m.1 k := fun k x y z => by rw [a6]; exact ep_mSn m H6 B6 W6 L6 k x y z
      have RF : ep_R (N + 8) cF mF := by
        have hE1 : m1.1 155 e = 1 := by rw [m11 155 (by decide) (by decide) (by decide)]; exact hl
        have R2 := ep_R_E (c := c1) (m := m1) a3 he (by rw [hE1]; decide) (v := 2) (Or.inl rfl) (fun z => absurd z (by decide))
        have hlen : N + 4 * [4, q].length = N + 8 := rfl
        rw [hlen] at R2
        subst hcF hmF
        refine ⟨R2.1, R2.2.1, R2.2.2.1, R2.2.2.2.1, R2.2.2.2.2.1, R2.2.2.2.2.2.1, R2.2.2.2.2.2.2.1, R2.2.2.2.2.2.2.2.1, R2.2.2.2.2.2.2.2.2.1, R2.2.2.2.2.2.2.2.2.2.1, R2.2.2.2.2.2.2.2.2.2.2.1, R2.2.2.2.2.2.2.2.2.2.2.2.1, R2.2.2.2.2.2.2.2.2.2.2.2.2.1, R2.2.2.2.2.2.2.2.2.2.2.2.2.2.1, R2.2.2.2.2.2.2.2.2.2.2.2.2.2.2.1, R2.2.2.2.2.2.2.2.2.2.2.2.2.2.2.2.1, ?_, ?_, ?_, ?_, R2.2.2.2.2.2.2.2.2.2.2.2.2.2.2.2.2.2.2.2.2.1, R2.2.2.2.2.2.2.2.2.2.2.2.2.2.2.2.2.2.2.2.2.2.1, ?_, R2.2.2.2.2.2.2.2.2.2.2.2.2.2.2.2.2.2.2.2.2.2.2.2.1, ?_, R2.2.2.2.2.2.2.2.2.2.2.2.2.2.2.2.2.2.2.2.2.2.2.2.2.2.1, R2.2.2.2.2.2.2.2.2.2.2.2.2.2.2.2.2.2.2.2.2.2.2.2.2.2.2.1, R2.2.2.2.2.2.2.2.2.2.2.2.2.2.2.2.2.2.2.2.2.2.2.2.2.2.2.2.1, R2.2.2.2.2.2.2.2.2.2.2.2.2.2.2.2.2.2.2.2.2.2.2.2.2.2.2.2.2.1, R2.2.2.2.2.2.2.2.2.2.2.2.2.2.2.2.2.2.2.2.2.2.2.2.2.2.2.2.2.2.1, R2.2.2.2.2.2.2.2.2.2.2.2.2.2.2.2.2.2.2.2.2.2.2.2.2.2.2.2.2.2.2.1, R2.2.2.2.2.2.2.2.2.2.2.2.2.2.2.2.2.2.2.2.2.2.2.2.2.2.2.2.2.2.2.2.1, R2.2.2.2.2.2.2.2.2.2.2.2.2.2.2.2.2.2.2.2.2.2.2.2.2.2.2.2.2.2.2.2.2.1, R2.2.2.2.2.2.2.2.2.2.2.2.2.2.2.2.2.2.2.2.2.2.2.2.2.2.2.2.2.2.2.2.2.2⟩
        · intro e' he'
          have g := R2.2.2.2.2.2.2.2.2.2.2.2.2.2.2.2.2.1 e' he'
          by_cases y : e' = e
          · subst y
            rw [ep_cHs] at g
            obtain ⟨a5', a6', a7, a8, a9, a11, a12, a13, a14⟩ := g
            rw [ep_cHs, ep_cHs, ep_cGi _ _ _ _ _ _ (by decide), ep_cGi _ _ _ _ _ _ (by decide), ep_cse_f _ _ _ _ _ _ ⟨by decide, by decide, by decide⟩]
            have u : ∀ j, j ≠ 7 → upd (upd (c1.2.1 4 e') 7 q) 5 2 j = upd (c1.2.1 4 e') 5 2 j := by
              intro j hj
              unfold upd
              by_cases z : j = 5 <;> simp [z, hj]
            refine ⟨a5', a6', ?_, (u 8 (by decide)).trans a8, (u 9 (by decide)).trans a9, (u 11 (by decide)).trans a11, a12, a13, ?_⟩
            · show upd (upd (c1.2.1 4 e') 7 q) 5 2 7 = upd (m1.1 157) e' q e'
              rw [ep_upd_ne (by decide), ep_upd_eq, ep_upd_eq]
            · show upd (m1.1 155) e' 2 e' = 1 → _
              rw [ep_upd_eq]
              exact fun z => absurd z (by decide)
          · rw [ep_cHh _ _ _ _ _ _ y] at g
            obtain ⟨a5', a6', a7, a8, a9, a11, a12, a13, a14⟩ := g
            rw [ep_cHh _ _ _ _ _ _ y, ep_cHh _ _ _ _ _ _ y, ep_cGi _ _ _ _ _ _ (by decide), ep_cGi _ _ _ _ _ _ (by decide), ep_cse_f _ _ _ _ _ _ ⟨by decide, by decide, by decide⟩]
            have u : upd (m1.1 157) e q e' = m1.1 157 e' := ep_upd_ne y
            exact ⟨a5', a6', a7.trans u.symm, a8, a9, a11, a12, a13, fun z => u.trans (a14 z)⟩
        · intro e' he' hE'
          have g := R2.2.2.2.2.2.2.2.2.2.2.2.2.2.2.2.2.2.1 e' he' hE'
          by_cases y : e' = e
          · subst y
            rw [ep_cHs] at g
            rw [ep_cHs, ep_cHs, ep_cGi _ _ _ _ _ _ (by decide), ep_cGi _ _ _ _ _ _ (by decide), ep_cse_f _ _ _ _ _ _ ⟨by decide, by decide, by decide⟩]
            exact g
          · rw [ep_cHh _ _ _ _ _ _ y] at g
            rw [ep_cHh _ _ _ _ _ _ y, ep_cHh _ _ _ _ _ _ y, ep_cGi _ _ _ _ _ _ (by decide), ep_cGi _ _ _ _ _ _ (by decide), ep_cse_f _ _ _ _ _ _ ⟨by decide, by decide, by decide⟩]
            exact g
        · refine ep_Gd_w (e := e) R2.2.2.2.2.2.2.2.2.2.2.2.2.2.2.2.2.2.2.1 (fun j hj => ?_) (fun e' he' y => ?_) (fun e' he' y k k1 k2 => ?_)
          · rw [ep_cHi _ _ _ _ _ _ _ (by decide), ep_cHi _ _ _ _ _ _ _ (by decide), ep_cGi _ _ _ _ _ _ (by decide), ep_cGs, ep_w8_lt _ _ _ hj]
            exact (ep_bw_wr (m1.1 159) (32 * e) T j hj).symm
          · rw [ep_cHi _ _ _ _ _ _ _ (by decide), ep_cHi _ _ _ _ _ _ _ (by decide), ep_cGi _ _ _ _ _ _ (by decide), ep_cGh _ _ _ _ _ y, ep_cse_f _ _ _ _ _ _ ⟨by decide, by decide, by decide⟩, ep_cHi _ _ _ _ _ _ _ (by decide)]
          · show ep_wr (m1.1 159) (32 * e) T 32 k = m1.1 159 k
            unfold ep_wr
            rw [if_neg (ep_ne32 y k1 k2)]
        · refine ep_Gd_w (e := e) R2.2.2.2.2.2.2.2.2.2.2.2.2.2.2.2.2.2.2.2.1 (fun j hj => ?_) (fun e' he' y => ?_) (fun e' he' y k k1 k2 => ?_)
          · rw [ep_cHi _ _ _ _ _ _ _ (by decide), ep_cHi _ _ _ _ _ _ _ (by decide), ep_cGs, if_pos hj]
            refine (ep_bw0 fun k k1 k2 => ?_).symm
            show ep_in_ (m1.1 160) (32 * e) 32 (fun _ => eh_nb 0) k = _
            unfold ep_in_
            rw [if_pos (by omega)]
          · rw [ep_cHi _ _ _ _ _ _ _ (by decide), ep_cHi _ _ _ _ _ _ _ (by decide), ep_cGh _ _ _ _ _ y, ep_cGi _ _ _ _ _ _ (by decide), ep_cse_f _ _ _ _ _ _ ⟨by decide, by decide, by decide⟩, ep_cHi _ _ _ _ _ _ _ (by decide)]
          · show ep_in_ (m1.1 160) (32 * e) 32 (fun _ => eh_nb 0) k = m1.1 160 k
            unfold ep_in_
            rw [if_neg (ep_ne32 y k1 k2)]
        · intro e' he' hE'
          obtain ⟨st', b1, b2, b3, b4, b5⟩ := R2.2.2.2.2.2.2.2.2.2.2.2.2.2.2.2.2.2.2.2.2.2.2.1 e' he' hE'
          have y : e' ≠ e := by
            rintro rfl
            have : upd (m1.1 155) e' 2 e' = 1 := hE'
            rw [ep_upd_eq] at this
            exact absurd this (by decide)
          refine ⟨st', b1, b2, b3, ?_, mO e' st' y b1 b5⟩
          rw [ep_cHi _ _ _ _ _ _ _ (by decide), ep_cHi _ _ _ _ _ _ _ (by decide), ep_cGi _ _ _ _ _ _ (by decide), ep_cGi _ _ _ _ _ _ (by decide), ep_cse_o _ _ _ _ _ _ _ (Or.inr y)]
          rw [ep_cHi _ _ _ _ _ _ _ (by decide), ep_cHi _ _ _ _ _ _ _ (by decide), ep_cGi _ _ _ _ _ _ (by decide), ep_cGi _ _ _ _ _ _ (by decide), ep_cse_o _ _ _ _ _ _ _ (Or.inr y)]
          rw [ep_cHi _ _ _ _ _ _ _ (by decide), ep_cHi _ _ _ _ _ _ _ (by decide), ep_cGi _ _ _ _ _ _ (by decide), ep_cGi _ _ _ _ _ _ (by decide), ep_cse_o _ _ _ _ _ _ _ (Or.inr y)]
          rw [ep_cHi _ _ _ _ _ _ _ (by decide), ep_cHi _ _ _ _ _ _ _ (by decide), ep_cHi _ _ _ _ _ _ _ (by decide)] at b4
          exact b4
        · obtain ⟨h1, h2, h3, n, h4, h5, h6, h7, h8, h9⟩ := R2.2.2.2.2.2.2.2.2.2.2.2.2.2.2.2.2.2.2.2.2.2.2.2.2.1
          refine ⟨h1, h2, h3, n, h4, h5, h6, h7, h8, fun j => ?_⟩
          show eh_nb (ep_wr (m1.1 159) (32 * e) T 32 j) = ep_wr (m1.1 159) (32 * e) T 32 j
          unfold ep_wr
          by_cases y : 32 * e ≤ j ∧ j < 32 * e + 32
          · rw [if_pos y, ep_nb2, ep_nb2]
          · rw [if_neg y]; exact h9 j
      refine ⟨0, cF, mF, fun m0 => ?_, fun c0 => ?_, RF, ?_⟩
      · show eF_10_finalise (ep_mk c m0) (nI e) q = _
        unfold eF_10_finalise
        rw [ep_chasE hR, ep_sb, hb, ep_J, if_neg (by decide), if_neg q0, if_neg q1, if_pos i6, ep_rE0 _ _ he, ge, if_pos hl, if_pos i6]
        have hfin : eF_1_finish (ep_mk c m0) (eh_ep (nI e)) q = some (ep_mk cF m0) := by
          unfold eF_1_finish
          have z := a1 m0
          rw [ep_nums2] at z
          rw [ep_sb] at z
          cases hz : eF_9_feedNumber (ep_mk c m0) (eh_ep (nI e) + 1) 4 with
          | none => rw [hz] at z; exact absurd z (by simp)
          | some s1 =>
            rw [hz, ep_sb] at z
            rw [ep_sb, z, ep_sb, ce _ _ (eh_ep (nI e) + 5) (by omega) (by omega) (by omega) (ep_re c1 m0 he).1 (ep_re c1 m0 he).2.1 (ep_re c1 m0 he).2.2, ep_sb, ep_t3_e _ _ he, ep_wE _ _ 5 _ he (by decide), ep_fill _ _ _ _ (by decide), ep_sb, ep_wE _ _ 6 _ he (by decide), ep_V, ep_iE0 _ _ _ _ he, ep_V, ep_iE0 _ _ _ _ he, ep_rE _ _ 5 he (by decide), ep_rE _ _ 6 he (by decide), hcF]
            rw [ep_cGi _ _ _ _ _ _ (by decide), ep_cse_f _ _ _ _ _ _ ⟨by decide, by decide, by decide⟩]
        exact ep_bnd hfin rfl
      · show eF_12_finalise (ep_mk c0 m) (nI e) q = _
        unfold eF_12_finalise
        rw [ep_misE, ep_sb, hb, ep_J, if_neg (by decide), ep_J, mq, if_pos i6, x6, ep_rM _ _ 155 (by decide), if_pos hl]
        have z := a2 c0
        rw [ep_mnums2] at z
        rw [ep_sb] at z
        cases hz : eF_12_addNumber (ep_mk c0 m) (nI e) 4 with
        | none => rw [hz] at z; exact absurd z (by simp)
        | some s1 =>
          rw [hz, ep_sb] at z
          have e32 : (32 : Int32) * nI e = nI (32 * e) := ep_mul (b := 32) rfl rfl
          rw [ep_sb, z, ep_sb, e32, me c0, ep_sb, ep_mfl _ _ 160 (32 * e) 32 192 _ _ 32 rfl rfl (by decide) (by omega) (by decide), ep_sb, if_pos i6, ep_V, ep_iM _ _ _ _ _ (by decide), if_pos i6, ep_V, ep_iM _ _ _ _ _ (by decide), hmF]
          rw [ep_mLn _ _ _ _ (by decide), ep_mSn _ _ _ _ _ _ (by decide) (by decide) (by decide)]
      · subst hcF hmF
        exact ⟨c12, by show c1.1 124 = _; rw [c11], fun j hj => by show m1.1 127 j = _; rw [m11 127 (by decide) (by decide) (by decide)], by show m1.1 144 = _; rw [m11 144 (by decide) (by decide) (by decide)]⟩
    · refine ep_Cp_id hRm (-2) (fun m0 => ?_) (fun c0 => ?_)
      · show eF_10_finalise (ep_mk c m0) (nI e) q = _
        unfold eF_10_finalise
        rw [ep_chasE hR, ep_sb, hb, ep_J, if_neg (by decide), if_neg q0, if_neg q1, if_pos i6, ep_rE0 _ _ he, ge, if_neg hl]
      · show eF_12_finalise (ep_mk c0 m) (nI e) q = _
        unfold eF_12_finalise
        rw [ep_misE, ep_sb, hb, ep_J, if_neg (by decide), ep_J, mq, if_pos i6, x6, ep_rM _ _ 155 (by decide), if_neg hl]
