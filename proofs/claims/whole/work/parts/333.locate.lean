/-! finding a place -/
def ep_Pr (c : ep_C) (m : ep_M) (h : Nat) : Prop := h < 2 ∧ c.2.2 4 = eh_hp (nI h) ∧ ((m.1 144 h = -1 ∧ c.1 124 6 = 0 ∧ c.2.2 7 = eh_hp (nI h) + 1) ∨ ∃ t e, ep_On m h t e ∧ c.1 124 6 = 1 ∧ c.2.2 5 = eh_fp (nI t) ∧ c.2.2 7 = eh_fp (nI t) + 1)
theorem ep_wk_q {S P b : Nat → Int32} {atp mode st : Int32} {A way q : Nat} (h : ep_wk S P b atp mode st A way = .inl q) {n : Nat} (hn : ep_n124 n) (ha : A % n = 0) : q < 2 ^ 40 ∧ q % n = 0 := by
  unfold ep_wk at h
  have h1 := ep_u_lt (ep_lw b (4096 * (ep_u atp % 4194304) + 4 * (A / 4194304)))
  have h2 := ep_u_lt (ep_lw b (4096 * (ep_u (ep_lw b (4096 * (ep_u atp % 4194304) + 4 * (A / 4194304))) / 1024) + 4 * (A / 4096 % 1024)))
  split at h
  · exact absurd h (by simp)
  · split at h
    · exact absurd h (by simp)
    · split at h
      · exact absurd h (by simp)
      · split at h
        · split at h
          · have := Sum.inl.inj h
            rcases hn with rfl | rfl | rfl <;> omega
          · exact absurd h (by simp)
        · split at h
          · exact absurd h (by simp)
          · split at h
            · exact absurd h (by simp)
            · split at h
              · exact absurd h (by simp)
              · split at h
                · exact absurd h (by simp)
                · split at h
                  · have := Sum.inl.inj h
                    rcases hn with rfl | rfl | rfl <;> omega
                  · exact absurd h (by simp)
theorem ep_wk_x {S P b : Nat → Int32} {atp mode st : Int32} {A way : Nat} {x : Int32} (h : ep_wk S P b atp mode st A way = .inr x) : x ≠ -1 := by
  have e1 := ep_den_n way
  have e2 := ep_unp_n way
  unfold ep_wk at h
  split at h
  · rw [← Sum.inr.inj h]; exact e1
  · split at h
    · rw [← Sum.inr.inj h]; exact e2
    · split at h
      · rw [← Sum.inr.inj h]; exact e2
      · split at h
        · split at h
          · exact absurd h (by simp)
          · rw [← Sum.inr.inj h]; exact e2
        · split at h
          · rw [← Sum.inr.inj h]; exact e1
          · split at h
            · rw [← Sum.inr.inj h]; exact e2
            · split at h
              · rw [← Sum.inr.inj h]; exact e2
              · split at h
                · rw [← Sum.inr.inj h]; exact e2
                · split at h
                  · exact absurd h (by simp)
                  · rw [← Sum.inr.inj h]; exact e2
theorem ep_mskn {addr : Int32} {n : Nat} (hn : ep_n124 n) : addr &&& (nI n - 1) = nI (ep_u addr % n) := by
  rcases hn with rfl | rfl | rfl
  · rw [show nI 1 - 1 = (0 : Int32) from rfl, Int32.and_zero, Nat.mod_one]; rfl
  · exact pk_and addr (m := nI 2 - 1) 1 rfl
  · exact pk_and addr (m := nI 4 - 1) 2 rfl
theorem ep_acs_r (way : Nat) (hw : way < 3) : ep_r124 (ep_acs way) := by
  have : way = 0 ∨ way = 1 ∨ way = 2 := by omega
  rcases this with rfl | rfl | rfl
  · exact Or.inr (Or.inr rfl)
  · exact Or.inl rfl
  · exact Or.inr (Or.inl rfl)
/-- what locate answers, in both -/
def ep_Loc (c : ep_C) (m : ep_M) (h : Nat) (addr : Int32) (nc nm way : Nat) : Prop :=
  (∃ q n f g r, q < 131072 ∧ q % nm = 0 ∧ (∀ m0, eF_7_locate (ep_mk c m0) addr (nI nc) (ep_acs way) = some (nI q, ep_mk c m0)) ∧ (∀ c0, eF_12_locate (ep_mk c0 m) (nI h) addr (nI nm) (nI way) = some (nI q, ep_mk c0 (ep_mg m n f g r)))) ∨
  (∃ x n f g r, x ≠ -1 ∧ (∀ m0, eF_7_locate (ep_mk c m0) addr (nI nc) (ep_acs way) = some (-1, ep_mk (ep_cF c x addr) m0)) ∧ (∀ c0, eF_12_locate (ep_mk c0 m) (nI h) addr (nI nm) (nI way) = some (0, ep_mk c0 (ep_mF (ep_mg m n f g r) x addr))))
theorem ep_loc_end {N : Nat} {c : ep_C} {m : ep_M} (hR : ep_R N c m) {h : Nat} (hP : ep_Pr c m h) {q nm way : Nat} (hw : way < 3) (hm : ep_n124 nm) (hq : q % nm = 0) (hq2 : q < 2 ^ 40) (addr : Int32) :
    (∃ n f g r, q < 131072 ∧ (∀ m0, (fun (a4 : Int64) (s5 : eh_F) => eh_J (fun (a7 : Int32) => Option.bind (eF_6_rightsAt s5 a4 a7) (fun q8 => if (q8 &&& ep_acs way) = 0 then (Option.bind (eF_7_accessFault s5 (ep_acs way)) (fun q10 => Option.bind (eF_7_fail s5 q10 addr) (fun q11 => some ((-1 : Int32), q11)))) else (some ((a4.toInt32), s5)))) (fun j6 => if (s5.1 124 6) = 0 then (j6 (-1)) else (if eh_okF (s5.2.2 5) then j6 (s5.1 (s5.2.2 5) 3) else none))) (lN q) (ep_mk c m0) = some (nI q, ep_mk c m0)) ∧ (∀ c0, (fun (a3 : Int64) (s4 : eh_F) => eh_J (fun (a6 : Int32) => Option.bind (eF_12_isLet s4 (nI h) a3 (nI nm) a6) (fun q7 => if q7.1 = 0 then (Option.bind (eF_12_denied q7.2 (nI way)) (fun q9 => Option.bind (eF_12_except q7.2 q9 addr) (fun q10 => some ((0 : Int32), q10)))) else (some ((a3.toInt32), q7.2)))) (fun j5 => if nI way = 0 then (j5 4) else (j5 (nI way)))) (lN q) (ep_mk c0 m) = some (nI q, ep_mk c0 (ep_mg m n f g r)))) ∨
    (∃ n f g r, (∀ m0, (fun (a4 : Int64) (s5 : eh_F) => eh_J (fun (a7 : Int32) => Option.bind (eF_6_rightsAt s5 a4 a7) (fun q8 => if (q8 &&& ep_acs way) = 0 then (Option.bind (eF_7_accessFault s5 (ep_acs way)) (fun q10 => Option.bind (eF_7_fail s5 q10 addr) (fun q11 => some ((-1 : Int32), q11)))) else (some ((a4.toInt32), s5)))) (fun j6 => if (s5.1 124 6) = 0 then (j6 (-1)) else (if eh_okF (s5.2.2 5) then j6 (s5.1 (s5.2.2 5) 3) else none))) (lN q) (ep_mk c m0) = some (-1, ep_mk (ep_cF c (ep_den way) addr) m0)) ∧ (∀ c0, (fun (a3 : Int64) (s4 : eh_F) => eh_J (fun (a6 : Int32) => Option.bind (eF_12_isLet s4 (nI h) a3 (nI nm) a6) (fun q7 => if q7.1 = 0 then (Option.bind (eF_12_denied q7.2 (nI way)) (fun q9 => Option.bind (eF_12_except q7.2 q9 addr) (fun q10 => some ((0 : Int32), q10)))) else (some ((a3.toInt32), q7.2)))) (fun j5 => if nI way = 0 then (j5 4) else (j5 (nI way)))) (lN q) (ep_mk c0 m) = some (0, ep_mk c0 (ep_mF (ep_mg m n f g r) (ep_den way) addr)))) := by
  obtain ⟨hh, hq4, hcase⟩ := hP
  have hway : ∀ {α : Type} (j : Int32 → α), (if nI way = 0 then j 4 else j (nI way)) = j (ep_acs way) := by
    intro α j
    have : way = 0 ∨ way = 1 ∨ way = 2 := by omega
    rcases this with rfl | rfl | rfl <;> rfl
  have den : ∀ (M : ep_M) c0, Option.bind (eF_12_denied (ep_mk c0 M) (nI way)) (fun q5 => Option.bind (eF_12_except (ep_mk c0 M) q5 addr) (fun q6 => some ((0 : Int32), q6))) = some (0, ep_mk c0 (ep_mF M (ep_den way) addr)) := fun M c0 => by rw [ep_mden hw, ep_sb, ep_mexcept, ep_sb]
  have cden : ∀ m0, Option.bind (eF_7_accessFault (ep_mk c m0) (ep_acs way)) (fun q10 => Option.bind (eF_7_fail (ep_mk c m0) q10 addr) (fun q11 => some ((-1 : Int32), q11))) = some (-1, ep_mk (ep_cF c (ep_den way) addr) m0) := fun m0 => by rw [ep_cacF hw, ep_sb, ep_cfail, ep_sb]
  have b10 : ¬ ep_bi true = 0 := by decide
  have b00 : ep_bi false = 0 := rfl
  rcases hcase with ⟨hr, h6, h7⟩ | ⟨t, e, ho, h6, h5, h7⟩
  · obtain ⟨n, f, g, r, L⟩ := ep_mLetS hR hh hr hm hq hq2 (ep_acs_r way hw)
    by_cases z : (decide (q < 131072) && ep_ob (m.1 164) (c.1 10) q) = true
    · left
      have zq : q < 131072 := by
        by_cases y : q < 131072
        · exact y
        · simp [y] at z
      refine ⟨n, f, g, r, zq, fun m0 => ?_, fun c0 => ?_⟩
      · dsimp only
        rw [ep_J, ep_rC2 _ _ _ (by decide) (by decide), h6, if_pos rfl]
        dsimp only
        rw [ep_crightsS hR (by omega), ep_sb, if_pos z, lN_i]
        have : ¬ (7 : Int32) &&& ep_acs way = 0 := by rcases ep_acs_r way hw with y | y | y <;> rw [y] <;> decide
        rw [if_neg this]
      · dsimp only
        rw [ep_J]
        refine (hway (fun a6 => Option.bind (eF_12_isLet (ep_mk c0 m) (nI h) (lN q) (nI nm) a6) _)).trans ?_
        rw [L c0, ep_sb, z, if_neg b10, lN_i]
    · right
      have z' : (decide (q < 131072) && ep_ob (m.1 164) (c.1 10) q) = false := by simpa using z
      refine ⟨n, f, g, r, fun m0 => ?_, fun c0 => ?_⟩
      · dsimp only
        rw [ep_J, ep_rC2 _ _ _ (by decide) (by decide), h6, if_pos rfl]
        dsimp only
        rw [ep_crightsS hR (by omega), ep_sb, if_neg z, Int32.zero_and, if_pos rfl]
        exact cden m0
      · dsimp only
        rw [ep_J]
        refine (hway (fun a6 => Option.bind (eF_12_isLet (ep_mk c0 m) (nI h) (lN q) (nI nm) a6) _)).trans ?_
        rw [L c0, ep_sb, z', if_pos b00]
        exact den _ _
  · have hf := hR.2.2.2.2.2.2.2.2.2.2.1 t ho.2.1
    have he : m.1 155 e ≠ 0 := by rw [ho.2.2.2.2.2.1]; decide
    obtain ⟨n, f, g, r, L⟩ := ep_mLetE hR hh ho.2.1 ho.2.2.1 ho.2.2.2.1 ho.2.2.2.2.1 he hm hq hq2 (ep_acs way)
    have e3 : ∀ m0, (ep_mk c m0).1 ((ep_mk c m0).2.2 5) 3 = nI e := fun m0 => by rw [ep_rQ, h5, ep_rF0 _ _ ho.2.1, hf.2.2.1]; exact ho.2.2.2.2.1
    have ok : ∀ m0, eh_okF ((ep_mk c m0).2.2 5) = true := fun m0 => by rw [ep_rQ, h5]; exact ep_okF ho.2.1
    by_cases z : (decide (q < 131072) && decide (ep_rq (m.1 164) (m.1 167) (m.1 168) (m.1 169) (c.1 10) (nI e) q &&& ep_acs way ≠ 0)) = true
    · left
      simp only [Bool.and_eq_true, decide_eq_true_eq] at z
      refine ⟨n, f, g, r, z.1, fun m0 => ?_, fun c0 => ?_⟩
      · dsimp only
        rw [ep_J, ep_rC2 _ _ _ (by decide) (by decide), h6, if_neg (by decide), if_pos (ok m0), e3 m0]
        dsimp only
        rw [ep_crightsE hR ho.2.2.1 (by omega), ep_sb, if_pos z.1, if_neg z.2, lN_i]
      · dsimp only
        have z' : (decide (q < 131072) && decide (ep_rq (m.1 164) (m.1 167) (m.1 168) (m.1 169) (c.1 10) (nI e) q &&& ep_acs way ≠ 0)) = true := by simp [z.1, z.2]
        rw [ep_J]
        refine (hway (fun a6 => Option.bind (eF_12_isLet (ep_mk c0 m) (nI h) (lN q) (nI nm) a6) _)).trans ?_
        rw [L c0, ep_sb, z', if_neg b10, lN_i]
    · right
      have z' : (decide (q < 131072) && decide (ep_rq (m.1 164) (m.1 167) (m.1 168) (m.1 169) (c.1 10) (nI e) q &&& ep_acs way ≠ 0)) = false := by simpa using z
      refine ⟨n, f, g, r, fun m0 => ?_, fun c0 => ?_⟩
      · dsimp only
        rw [ep_J, ep_rC2 _ _ _ (by decide) (by decide), h6, if_neg (by decide), if_pos (ok m0), e3 m0]
        dsimp only
        rw [ep_crightsE hR ho.2.2.1 (by omega), ep_sb]
        by_cases y : q < 131072
        · simp only [y, decide_true, Bool.true_and, decide_eq_false_iff_not, Decidable.not_not] at z'
          rw [if_pos y, if_pos z']
          exact cden m0
        · rw [if_neg y, Int32.zero_and, if_pos rfl]
          exact cden m0
      · dsimp only
        rw [ep_J]
        refine (hway (fun a6 => Option.bind (eF_12_isLet (ep_mk c0 m) (nI h) (lN q) (nI nm) a6) _)).trans ?_
        rw [L c0, ep_sb, z', if_pos b00]
        exact den _ _
theorem ep_locate {N : Nat} {c : ep_C} {m : ep_M} (hR : ep_R N c m) {h : Nat} (hP : ep_Pr c m h) (hf : m.1 127 83 = -1) {nc nm way : Nat} (hw : way < 3) (hc : ep_n124 nc) (hm : ep_n124 nm) (addr : Int32) (ha : ep_u addr % nm = 0) (hac : ep_u addr % nc = 0) : ep_Loc c m h addr nc nm way := by
  have hP0 := hP
  obtain ⟨hh, hq4, hcase⟩ := hP
  have q1 : eh_in (nI h) 2 = true := ep_in hh (by decide)
  have q2 : eh_ix (nI h) = h := ep_ix (by omega)
  have ok : ∀ m0, eh_okH ((ep_mk c m0).2.2 4) = true := fun m0 => by rw [ep_rQ, hq4]; exact ep_okH hh
  have g := hR.2.2.2.2.2.2.2.1 h hh
  have e18 : ∀ m0, (ep_mk c m0).1 ((ep_mk c m0).2.2 4) 18 = m.1 142 h := fun m0 => by rw [ep_rQ, hq4, ep_rH0 _ _ hh]; exact g.2.2.2.2.2.2.2.2.2.2.2.2.2.2.2
  have msk : addr &&& (nI nc - 1) = 0 := by rw [ep_mskn hc, hac]; rfl
  have hA := ep_u_lt addr
  have dir : (m.1 144 h = -1 → ¬ m.1 142 h < 0) → ep_Loc c m h addr nc nm way := by
    intro hnp
    have hcl : ∀ m0, eF_7_locate (ep_mk c m0) addr (nI nc) (ep_acs way) = (fun (a4 : Int64) (s5 : eh_F) => eh_J (fun (a7 : Int32) => Option.bind (eF_6_rightsAt s5 a4 a7) (fun q8 => if (q8 &&& ep_acs way) = 0 then (Option.bind (eF_7_accessFault s5 (ep_acs way)) (fun q10 => Option.bind (eF_7_fail s5 q10 addr) (fun q11 => some ((-1 : Int32), q11)))) else (some ((a4.toInt32), s5)))) (fun j6 => if (s5.1 124 6) = 0 then (j6 (-1)) else (if eh_okF (s5.2.2 5) then j6 (s5.1 (s5.2.2 5) 3) else none))) (lN (ep_u addr)) (ep_mk c m0) := by
      intro m0
      unfold eF_7_locate
      rw [if_pos msk, ep_V, ep_low32, ep_J, ep_rC2 _ _ 124 (by decide) (by decide)]
      rcases hcase with ⟨hr, h6, h7⟩ | ⟨t, e, ho, h6, h5, h7⟩
      · rw [h6, if_pos rfl, if_pos (ok m0), e18 m0, if_neg (hnp hr)]; rfl
      · rw [h6, if_neg (by decide)]; rfl
    have hml : ∀ c0, eF_12_locate (ep_mk c0 m) (nI h) addr (nI nm) (nI way) = (fun (a3 : Int64) (s4 : eh_F) => eh_J (fun (a6 : Int32) => Option.bind (eF_12_isLet s4 (nI h) a3 (nI nm) a6) (fun q7 => if q7.1 = 0 then (Option.bind (eF_12_denied q7.2 (nI way)) (fun q9 => Option.bind (eF_12_except q7.2 q9 addr) (fun q10 => some ((0 : Int32), q10)))) else (some ((a3.toInt32), q7.2)))) (fun j5 => if nI way = 0 then (j5 4) else (j5 (nI way)))) (lN (ep_u addr)) (ep_mk c0 m) := by
      intro c0
      unfold eF_12_locate
      rw [ep_V, ep_low32, if_pos q1, ep_J, ep_rM _ _ 144 (by decide), q2, if_pos q1, ep_rM _ _ 142 (by decide)]
      by_cases hr : m.1 144 h = -1
      · rw [if_pos hr, if_neg (hnp hr)]; rfl
      · rw [if_neg hr]; rfl
    rcases ep_loc_end hR hP0 hw hm ha (by omega) addr with ⟨n, f, g, r, z1, z2, z3⟩ | ⟨n, f, g, r, z2, z3⟩
    · exact Or.inl ⟨ep_u addr, n, f, g, r, z1, ha, fun m0 => (hcl m0).trans (z2 m0), fun c0 => (hml c0).trans (z3 c0)⟩
    · exact Or.inr ⟨ep_den way, n, f, g, r, ep_den_n way, fun m0 => (hcl m0).trans (z2 m0), fun c0 => (hml c0).trans (z3 c0)⟩
  by_cases hr : m.1 144 h = -1
  · by_cases hp : m.1 142 h < 0
    · have h6 : c.1 124 6 = 0 := by
        rcases hcase with ⟨_, h6, _⟩ | ⟨t, e, ho, _⟩
        · exact h6
        · rw [ho.2.2.2.1] at hr; exact absurd hr (ep_nI_ne_m1 (by have := ho.2.1; omega))
      obtain ⟨n, f, g, r, W⟩ := ep_mwalk hR hh hw hr addr
      have CW := ep_cwalk hR hh hw hq4 addr
      have hcl : ∀ m0, eF_7_locate (ep_mk c m0) addr (nI nc) (ep_acs way) = Option.bind (eF_7_walk (ep_mk c m0) addr (ep_acs way)) (fun q17 => if (lg_cmp q17.1 0) < 0 then (some ((-1), q17.2)) else ((fun (a4 : Int64) (s5 : eh_F) => eh_J (fun (a7 : Int32) => Option.bind (eF_6_rightsAt s5 a4 a7) (fun q8 => if (q8 &&& ep_acs way) = 0 then (Option.bind (eF_7_accessFault s5 (ep_acs way)) (fun q10 => Option.bind (eF_7_fail s5 q10 addr) (fun q11 => some ((-1 : Int32), q11)))) else (some ((a4.toInt32), s5)))) (fun j6 => if (s5.1 124 6) = 0 then (j6 (-1)) else (if eh_okF (s5.2.2 5) then j6 (s5.1 (s5.2.2 5) 3) else none))) q17.1 q17.2)) := by
        intro m0
        unfold eF_7_locate
        rw [if_pos msk, ep_V, ep_J, ep_rC2 _ _ 124 (by decide) (by decide), h6, if_pos rfl, if_pos (ok m0), e18 m0, if_pos hp]
      have hml : ∀ c0, eF_12_locate (ep_mk c0 m) (nI h) addr (nI nm) (nI way) = Option.bind (eF_12_walk (ep_mk c0 m) (nI h) addr (nI way)) (fun q14 => if (q14.2.1 127 83) = (-1) then ((fun (a3 : Int64) (s4 : eh_F) => eh_J (fun (a6 : Int32) => Option.bind (eF_12_isLet s4 (nI h) a3 (nI nm) a6) (fun q7 => if q7.1 = 0 then (Option.bind (eF_12_denied q7.2 (nI way)) (fun q9 => Option.bind (eF_12_except q7.2 q9 addr) (fun q10 => some ((0 : Int32), q10)))) else (some ((a3.toInt32), q7.2)))) (fun j5 => if nI way = 0 then (j5 4) else (j5 (nI way)))) q14.1 q14.2) else (some (0, q14.2))) := by
        intro c0
        unfold eF_12_locate
        rw [ep_V, if_pos q1, ep_J, ep_rM _ _ 144 (by decide), q2, if_pos hr, if_pos q1, ep_rM _ _ 142 (by decide), if_pos hp]
      cases hk : ep_wk (m.1 164) (c.1 10) (m.1 128) (m.1 142 h) (m.1 131 h) (m.1 133 h) (ep_u addr) way with
      | inl q =>
        simp only [hk] at W CW
        have hqq := ep_wk_q hk hm ha
        have hP1 : ep_Pr c (ep_mg m n f g r) h := hP0
        rcases ep_loc_end (ep_R_mg hR n f g r) hP1 hw hm hqq.2 hqq.1 addr with ⟨n', f', g', r', z1, z2, z3⟩ | ⟨n', f', g', r', z2, z3⟩
        · simp only [ep_mg_mg] at z3
          refine Or.inl ⟨q, n', f', g', r', z1, hqq.2, fun m0 => ?_, fun c0 => ?_⟩
          · rw [hcl m0]; refine ep_bnd (CW m0) ?_
            rw [if_neg (ep_lgc0 (by omega))]; exact z2 m0
          · rw [hml c0]; refine ep_bnd (W c0) ?_
            rw [if_pos (show (ep_mk c0 (ep_mg m n f g r)).1 127 83 = -1 from by rw [ep_rM _ _ _ (by decide)]; exact hf)]; exact z3 c0
        · simp only [ep_mg_mg] at z3
          refine Or.inr ⟨ep_den way, n', f', g', r', ep_den_n way, fun m0 => ?_, fun c0 => ?_⟩
          · rw [hcl m0]; refine ep_bnd (CW m0) ?_
            rw [if_neg (ep_lgc0 (by omega))]; exact z2 m0
          · rw [hml c0]; refine ep_bnd (W c0) ?_
            rw [if_pos (show (ep_mk c0 (ep_mg m n f g r)).1 127 83 = -1 from by rw [ep_rM _ _ _ (by decide)]; exact hf)]; exact z3 c0
      | inr x =>
        simp only [hk] at W CW
        have hx := ep_wk_x hk
        refine Or.inr ⟨x, n, f, g, r, hx, fun m0 => ?_, fun c0 => ?_⟩
        · rw [hcl m0]; refine ep_bnd (CW m0) ?_
          rw [if_pos (show lg_cmp (-1) 0 < 0 by decide)]
        · rw [hml c0]; refine ep_bnd (W c0) ?_
          rw [if_neg]
          rw [ep_rM _ _ _ (by decide)]
          show ¬ x = -1
          exact hx
    · exact dir (fun _ => hp)
  · exact dir (fun z => absurd z hr)
