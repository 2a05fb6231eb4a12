/-! loops whose state is found step by step, alike for every other half a -/
theorem ep_minv {A X σ β : Type} {body : A → (σ → Option β) → σ → Option β} (enc : A → Nat → X → σ) (R : (A → Option β) → Prop) (P : Nat → X → Prop) (N : Nat)
    (hs : ∀ i x, i < N → P i x → (∃ x', P (i + 1) x' ∧ ∀ a rec, body a rec (enc a i x) = rec (enc a (i + 1) x')) ∨ (∃ g : A → Option β, R g ∧ ∀ a rec, body a rec (enc a i x) = g a))
    (he : ∀ x, P N x → ∃ g : A → Option β, R g ∧ ∀ a rec, body a rec (enc a N x) = g a) : ∀ (k i n : Nat) (x : X), i + k = N → k < n → P i x → ∃ g : A → Option β, R g ∧ ∀ a, eh_loop (body a) n (enc a i x) = g a
  | 0, i, n + 1, x, hi, _, hp => by
    have hi2 : i = N := by omega
    subst hi2
    obtain ⟨g, hg, hb⟩ := he x hp
    exact ⟨g, hg, fun a => by rw [eh_loop]; exact hb a _⟩
  | k + 1, i, n + 1, x, hi, hn, hp => by
    rcases hs i x (by omega) hp with ⟨x', hp', hb⟩ | ⟨g, hg, hb⟩
    · obtain ⟨g, hg, hb2⟩ := ep_minv enc R P N hs he k (i + 1) n x' (by omega) (by omega) hp'
      exact ⟨g, hg, fun a => by rw [eh_loop, hb]; exact hb2 a⟩
    · exact ⟨g, hg, fun a => by rw [eh_loop]; exact hb a _⟩
theorem ep_minv0 {A X σ β : Type} {body : A → (σ → Option β) → σ → Option β} (enc : A → Nat → X → σ) (R : (A → Option β) → Prop) (P : Nat → X → Prop) (N : Nat) (hN : N < 1000000)
    (hs : ∀ i x, i < N → P i x → (∃ x', P (i + 1) x' ∧ ∀ a rec, body a rec (enc a i x) = rec (enc a (i + 1) x')) ∨ (∃ g : A → Option β, R g ∧ ∀ a rec, body a rec (enc a i x) = g a))
    (he : ∀ x, P N x → ∃ g : A → Option β, R g ∧ ∀ a rec, body a rec (enc a N x) = g a) (x : X) (hp : P 0 x) : ∃ g : A → Option β, R g ∧ ∀ a, eh_loop (body a) eh_FU (enc a 0 x) = g a :=
  ep_minv enc R P N hs he N 0 eh_FU x (by omega) (ep_FU N hN) hp
def ep_puts (st : ep_St) (l : List Int32) : ep_St := l.foldl ep_put st
theorem ep_puts_ap (st : ep_St) (l r : List Int32) : ep_puts st (l ++ r) = ep_puts (ep_puts st l) r := List.foldl_append
theorem ep_puts_1 (st : ep_St) (b : Int32) : ep_puts st [b] = ep_put st b := rfl
theorem ep_puts_len (l : List Int32) : ∀ st : ep_St, (ep_puts st l).2.2 = st.2.2 + l.length := by
  induction l with
  | nil => intro st; rfl
  | cons b l ih =>
    intro st
    show (ep_puts (ep_put st b) l).2.2 = _
    rw [ih, List.length_cons]
    have : (ep_put st b).2.2 = st.2.2 + 1 := by unfold ep_put; split <;> rfl
    omega
theorem ep_puts_ok (l : List Int32) : ∀ {st : ep_St}, ep_ok st → st.2.2 + l.length < 2 ^ 28 → ep_ok (ep_puts st l) := by
  induction l with
  | nil => intro st h _; exact h
  | cons b l ih =>
    intro st h hn
    rw [List.length_cons] at hn
    have : (ep_put st b).2.2 = st.2.2 + 1 := by unfold ep_put; split <;> rfl
    exact ih (ep_put_ok h (by omega) b) (by omega)
theorem ep_put_cong (st : ep_St) {b b' : Int32} (h : b &&& 255 = b' &&& 255) : ep_put st b = ep_put st b' := by unfold ep_put; rw [h]
theorem ep_Oth_tr {e : Nat} {m : ep_M} {H B W H' B' : Nat → Int32} {L L' : Nat → Int64} (h : ep_Oth e m H B L) (h' : ep_Oth e (ep_mS m H B W L) H' B' L') : ep_Oth e m H' B' L' :=
  fun e' st hne hok hR => h' e' st hne hok (h e' st hne hok hR)
theorem ep_Oth_rf (e : Nat) (m : ep_M) : ep_Oth e m (m.1 188) (m.1 189) m.2 := fun _ _ _ _ h => h
/-- bytes added one by one -/
theorem ep_mfeed {m : ep_M} {e : Nat} {st : ep_St} (he : e < 8) (hR : ep_Rm e (m.1 188) (m.1 189) m.2 st) (hk : ep_ok st) {σ : Type} {body : ep_C → (σ → Option eh_F) → σ → Option eh_F} (enc : Nat → eh_F → σ) (N : Nat) (f : Nat → Int32) (hn : st.2.2 + N < 2 ^ 28) (hN : N < 1000000)
    (hs : ∀ i H B W L c rec, i < N → ep_Rm e H B L (ep_puts st ((List.range i).map f)) → body c rec (enc i (ep_mk c (ep_mS m H B W L))) = Option.bind (eF_12_add (ep_mk c (ep_mS m H B W L)) (nI e) (f i)) (fun q => rec (enc (i + 1) q)))
    (hf : ∀ H B W L c rec, ep_Rm e H B L (ep_puts st ((List.range N).map f)) → body c rec (enc N (ep_mk c (ep_mS m H B W L))) = some (ep_mk c (ep_mS m H B W L))) :
    ∃ H B W L, (∀ c, eh_loop (body c) eh_FU (enc 0 (ep_mk c m)) = some (ep_mk c (ep_mS m H B W L))) ∧ ep_Rm e H B L (ep_puts st ((List.range N).map f)) ∧ ep_Oth e m H B L := by
  have key := ep_minv0 (body := body) (A := ep_C) (X := (Nat → Int32) × (Nat → Int32) × (Nat → Int32) × (Nat → Int64)) (fun c i x => enc i (ep_mk c (ep_mS m x.1 x.2.1 x.2.2.1 x.2.2.2)))
    (fun g => ∃ H B W L, (∀ c, g c = some (ep_mk c (ep_mS m H B W L))) ∧ ep_Rm e H B L (ep_puts st ((List.range N).map f)) ∧ ep_Oth e m H B L)
    (fun i x => ep_Rm e x.1 x.2.1 x.2.2.2 (ep_puts st ((List.range i).map f)) ∧ ep_Oth e m x.1 x.2.1 x.2.2.2) N hN ?_ ?_ (m.1 188, m.1 189, m.1 191, m.2) ⟨hR, ep_Oth_rf e m⟩
  · obtain ⟨g, ⟨H, B, W, L, h1, h2, h3⟩, hg⟩ := key
    refine ⟨H, B, W, L, fun c => ?_, h2, h3⟩
    have := hg c
    rw [h1 c] at this
    simp only [ep_mSid] at this
    exact this
  · intro i x hi ⟨hp, ho⟩
    left
    have hlen := ep_puts_len ((List.range i).map f) st
    rw [List.length_map, List.length_range] at hlen
    have hok := ep_puts_ok ((List.range i).map f) hk (by rw [List.length_map, List.length_range]; omega)
    obtain ⟨H, B, W, L, h1, h2, h3⟩ := ep_madd (m := ep_mS m x.1 x.2.1 x.2.2.1 x.2.2.2) he hp hok (by rw [hlen]; omega) (f i)
    refine ⟨(H, B, W, L), ⟨?_, ep_Oth_tr ho h3⟩, ?_⟩
    · show ep_Rm e H B L (ep_puts st ((List.range (i + 1)).map f))
      rw [List.range_succ, List.map_append, ep_puts_ap]
      exact h2
    · intro c rec
      show body c rec (enc i (ep_mk c (ep_mS m x.1 x.2.1 x.2.2.1 x.2.2.2))) = _
      rw [hs i _ _ _ _ c rec hi hp, h1 c, ep_mSS]
      rfl
  · intro x ⟨hp, ho⟩
    exact ⟨fun c => some (ep_mk c (ep_mS m x.1 x.2.1 x.2.2.1 x.2.2.2)), ⟨_, _, _, _, fun c => rfl, hp, ho⟩, fun c rec => hf _ _ _ _ c rec hp⟩
theorem ep_maddNumber {m : ep_M} {e : Nat} {st : ep_St} (he : e < 8) (hR : ep_Rm e (m.1 188) (m.1 189) m.2 st) (hk : ep_ok st) (hn : st.2.2 + 4 < 2 ^ 28) (v : Int32) : ∃ H B W L, (∀ c, eF_12_addNumber (ep_mk c m) (nI e) v = some (ep_mk c (ep_mS m H B W L))) ∧ ep_Rm e H B L (ep_puts st ((List.range 4).map fun i => eh_shr v (nI (8 * i)))) ∧ ep_Oth e m H B L := by
  have key := ep_mfeed he hR hk (body := fun _ r4 t1 => if t1.1 < 4 then (Option.bind (eF_12_add t1.2 (nI e) (eh_shr v (8 * t1.1))) (fun q6 => eh_V ((t1.1 + 1) : Int32) (fun x7 => r4 (x7, q6)))) else (some t1.2)) (fun i s => (nI i, s)) 4 (fun i => eh_shr v (nI (8 * i))) hn (by decide) (by
    intro i H B W L c rec hi _
    have q : nI i < 4 := ep_lt (b := 4) hi (by decide) rfl
    have q8 : (8 : Int32) * nI i = nI (8 * i) := ep_mul (b := 8) rfl rfl
    simp only [q, if_true, q8, ep_V, nI_1]) (by
    intro H B W L c rec _
    have q : ¬ nI 4 < 4 := by decide
    simp only [q, if_false])
  obtain ⟨H, B, W, L, h1, h2, h3⟩ := key
  refine ⟨H, B, W, L, fun c => ?_, h2, h3⟩
  unfold eF_12_addNumber
  have := h1 c
  rw [show nI 0 = 0 from rfl] at this
  rw [this]
  try rfl
theorem ep_maddBytes {m : ep_M} {e : Nat} {st : ep_St} (he : e < 8) (hR : ep_Rm e (m.1 188) (m.1 189) m.2 st) (hk : ep_ok st) (p np at_ n : Nat) (hn : st.2.2 + n < 2 ^ 28) (hp : 127 ≤ p) (hp1 : p ≠ 188) (hp2 : p ≠ 189) (hp3 : p ≠ 191) (hin : at_ + n ≤ np) (hnp : np < 1000000) : ∃ H B W L, (∀ c, eF_12_addBytes (ep_mk c m) (nI e) p np (nI at_) (nI n) = some (ep_mk c (ep_mS m H B W L))) ∧ ep_Rm e H B L (ep_puts st ((List.range n).map fun i => m.1 p (at_ + i))) ∧ ep_Oth e m H B L := by
  have key := ep_mfeed he hR hk (body := fun _ r4 t1 => if t1.1 < nI n then (if eh_in (nI at_ + t1.1) np then Option.bind (eF_12_add t1.2 (nI e) (t1.2.1 p (eh_ix (nI at_ + t1.1)))) (fun q6 => eh_V ((t1.1 + 1) : Int32) (fun x7 => r4 (x7, q6))) else none) else (some t1.2)) (fun i s => (nI i, s)) n (fun i => m.1 p (at_ + i)) hn (by omega) (by
    intro i H B W L c rec hi _
    have q : nI i < nI n := nI_lt hi (by omega)
    have q1 : eh_in (nI (at_ + i)) np = true := ep_in (by omega) (by omega)
    have q2 : eh_ix (nI (at_ + i)) = at_ + i := ep_ix (by omega)
    simp only [q, if_true, nI_add, q1, q2, ep_V, nI_1]
    rw [ep_rM _ _ _ hp, ep_mSn _ _ _ _ _ _ hp1 hp2 hp3]) (by
    intro H B W L c rec _
    have q : ¬ nI n < nI n := nI_nlt (Nat.le_refl _) (by omega)
    simp only [q, if_false])
  obtain ⟨H, B, W, L, h1, h2, h3⟩ := key
  refine ⟨H, B, W, L, fun c => ?_, h2, h3⟩
  unfold eF_12_addBytes
  have := h1 c
  rw [show nI 0 = 0 from rfl] at this
  rw [this]
  try rfl
theorem ep_mbegin {m : ep_M} {e : Nat} (he : e < 8) : ∃ H B W L, (∀ c, eF_12_begin (ep_mk c m) (nI e) = some (ep_mk c (ep_mS m H B W L))) ∧ ep_Rm e H B L ep_st0 ∧ ep_Oth e m H B L := by
  have q8 : (8 : Int32) * nI e = nI (8 * e) := ep_mul (b := 8) rfl rfl
  have qi : eh_in (nI e) 8 = true := ep_in he (by decide)
  have qx : eh_ix (nI e) = e := ep_ix (by omega)
  refine ⟨fun j => if 8 * e ≤ j ∧ j < 8 * e + 8 then eh_tt 0 (j - 8 * e) else m.1 188 j, m.1 189, m.1 191, vp_updL m.2 e 0, fun c => ?_, ?_, ?_⟩
  · unfold eF_12_begin
    simp only [q8]
    rw [ep_loop (fun i => (nI i, ep_mk c (ep_mL m 188 (fun j => if 8 * e ≤ j ∧ j < 8 * e + i then eh_tt 0 (j - 8 * e) else m.1 188 j)))) 8 (some (ep_mk c (ep_mL m 188 (fun j => if 8 * e ≤ j ∧ j < 8 * e + 8 then eh_tt 0 (j - 8 * e) else m.1 188 j)))) (ep_FU _ (by decide)) ?_ ?_ ?_]
    · rw [ep_sb]
      simp (disch := first | assumption | decide) only [ep_V, ep_J, ep_sb, ep_rC1, ep_rC2, ep_rM, ep_rJ, ep_rQ, ep_wC1, ep_wC2, ep_wM, ep_iC1, ep_iC2, ep_iM, ep_wJ, ep_wQ, ep_cI1, ep_cIn, ep_cI2, ep_cL1, ep_cLn, ep_cL2, ep_cG1, ep_cGq, ep_cQ1, ep_cQ2, ep_cQq, ep_cQn, ep_mI1, ep_mIn, ep_mI2, ep_mL1, ep_mLn, ep_mL2, ep_mJ1, ep_mJ2, qi, qx, if_true]
      congr 2
      refine Prod.ext ?_ rfl
      funext a
      simp only [ep_mS, ep_mL, ep_mI, ep_mJ, ep_uf]
      by_cases g1 : a = 188 <;> by_cases g2 : a = 189 <;> by_cases g3 : a = 191 <;> simp [g1, g2, g3]
    · intro i hi rec
      have q : nI i < 8 := ep_lt (b := 8) hi (by decide) rfl
      simp (disch := first | assumption | decide) only [ep_V, ep_J, ep_sb, ep_rC1, ep_rC2, ep_rM, ep_rJ, ep_rQ, ep_wC1, ep_wC2, ep_wM, ep_iC1, ep_iC2, ep_iM, ep_wJ, ep_wQ, ep_cI1, ep_cIn, ep_cI2, ep_cL1, ep_cLn, ep_cL2, ep_cG1, ep_cGq, ep_cQ1, ep_cQ2, ep_cQq, ep_cQn, ep_mI1, ep_mIn, ep_mI2, ep_mL1, ep_mLn, ep_mL2, ep_mJ1, ep_mJ2, q, if_true, show eh_in (nI i) (eh_tn 2) = true from ep_in (show i < 8 from hi) (by decide), nI_add, ep_in (show 8 * e + i < 64 by omega) (by decide), ep_ix (show 8 * e + i < 2 ^ 31 by omega), ep_ix (show i < 2 ^ 31 by omega), nI_1, ep_mLI]
      congr 4
      funext j
      unfold upd
      show (if j = 8 * e + i then _ else if 8 * e ≤ j ∧ j < 8 * e + i then eh_tt 0 (j - 8 * e) else m.1 188 j) = _
      by_cases h1 : j = 8 * e + i
      · subst h1
        rw [if_pos rfl, if_pos ⟨by omega, by omega⟩, show 8 * e + i - 8 * e = i by omega]
        rfl
      · rw [if_neg h1]
        by_cases h2 : 8 * e ≤ j ∧ j < 8 * e + i
        · rw [if_pos h2, if_pos ⟨h2.1, by omega⟩]
        · rw [if_neg h2, if_neg (by omega)]
    · intro rec
      have q : ¬ nI 8 < 8 := by decide
      simp only [q, if_false]
    · show (_, _) = (_, _)
      congr 2
      rw [show (fun j => if 8 * e ≤ j ∧ j < 8 * e + 0 then eh_tt 0 (j - 8 * e) else m.1 188 j) = m.1 188 from by
        funext j
        rw [if_neg (by omega)], ep_mLid]
  · refine ⟨?_, fun j hj => absurd hj (by simp [ep_st0]), by simp [vp_updL, ep_st0]; rfl⟩
    show _ = ep_h8 (eh_tt 0) 0
    simp [ep_h8]
  · intro e' st hne hok hR
    refine ⟨?_, hR.2.1, ?_⟩
    · rw [← hR.1]
      have key : ∀ j, j < 8 → (if 8 * e ≤ 8 * e' + j ∧ 8 * e' + j < 8 * e + 8 then eh_tt 0 (8 * e' + j - 8 * e) else m.1 188 (8 * e' + j)) = m.1 188 (8 * e' + j) := by
        intro j hj
        rw [if_neg (by omega)]
      unfold ep_h8
      simp only []
      rw [key 1 (by decide), key 2 (by decide), key 3 (by decide), key 4 (by decide), key 5 (by decide), key 6 (by decide), key 7 (by decide)]
      have := key 0 (by decide)
      simp only [Nat.add_zero] at this
      rw [this]
    · rw [show vp_updL m.2 e 0 e' = m.2 e' by simp [vp_updL, hne]]
      exact hR.2.2
