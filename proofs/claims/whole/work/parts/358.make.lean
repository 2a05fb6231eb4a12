/-! the least free one; threads counted; a thread is made -/
def ep_lf (S : Nat → Int32) : Nat → Nat → Int32
  | _, 0 => -1
  | i, n + 1 => if S i = 0 then nI i else ep_lf S (i + 1) n
theorem ep_lf_of (S : Nat → Int32) : ∀ n i, ep_lf S i n = -1 ∨ ∃ k, i ≤ k ∧ k < i + n ∧ ep_lf S i n = nI k ∧ S k = 0
  | 0, i => Or.inl rfl
  | n + 1, i => by
    unfold ep_lf
    by_cases h : S i = 0
    · rw [if_pos h]; exact Or.inr ⟨i, by omega, by omega, rfl, h⟩
    · rw [if_neg h]
      rcases ep_lf_of S n (i + 1) with a | ⟨k, a, b, c, d⟩
      · exact Or.inl a
      · exact Or.inr ⟨k, by omega, by omega, c, d⟩
theorem ep_lfl (S : Nat → Int32) (L : Nat) (K : Int32) (hK : K = nI L) (hL : L < 1000) (F : Int32 → Int32) (hF : ∀ k, k < L → F (nI k) = S k) : ∀ n i fu, i + n = L → n < fu → eh_loop (fun (r5 : (Int32) → Option ((Unit) ⊕ (Int32))) (t1 : Int32) => if t1 < K then (if eh_in t1 L then if F t1 = 0 then (some (.inr t1)) else (eh_V ((t1 + 1) : Int32) (fun x9 => r5 x9)) else none) else (some (.inl ()))) fu (nI i) = some (if ep_lf S i n = -1 then .inl () else .inr (ep_lf S i n))
  | 0, i, fu + 1, hi, _ => by
    subst hK
    rw [ep_loopS, if_neg (nI_nlt (by omega) (by omega))]; rfl
  | n + 1, i, fu + 1, hi, hf => by
    subst hK
    rw [ep_loopS, if_pos (nI_lt (by omega) (by omega)), if_pos (ep_in (by omega) (by omega)), hF i (by omega)]
    unfold ep_lf
    by_cases h : S i = 0
    · rw [if_pos h, if_pos h, if_neg]
      intro z
      have := nI_toInt (n := i) (by omega)
      rw [z] at this
      have h1 : (-1 : Int32).toInt = -1 := by decide
      omega
    · rw [if_neg h, if_neg h, ep_V, nI_1]
      exact ep_lfl S L (nI L) rfl hL F hF n (i + 1) fu (by omega) (by omega)
theorem ep_lf_e (x : Int32) : (Sum.elim (fun (e2 : Unit) => some (-1 : Int32)) (fun (e3 : Int32) => some e3)) (if x = -1 then Sum.inl () else Sum.inr x) = some x := by
  by_cases h : x = -1
  · rw [if_pos h, h]; rfl
  · rw [if_neg h]; rfl
theorem ep_mfree (m : ep_M) (p L : Nat) (hp : 127 ≤ p) (hL : L < 1000) (c0 : ep_C) : eF_12_free (ep_mk c0 m) p L = some (ep_lf (m.1 p) 0 L) := by
  unfold eF_12_free
  exact ep_bnd (ep_lfl (m.1 p) L (Int32.ofNat L) rfl hL (fun t => (ep_mk c0 m).1 p (eh_ix t)) (fun k hk => by show (ep_mk c0 m).1 p (eh_ix (nI k)) = _; rw [ep_rM _ _ _ hp, show eh_ix (nI k) = k from ep_ix (by omega)]) L 0 eh_FU (by omega) (ep_FU _ (by omega))) (ep_lf_e _)
theorem ep_cfreeF {N : Nat} {c : ep_C} {m : ep_M} (hR : ep_R N c m) (m0 : ep_M) : eF_10_leastFreeFibre (ep_mk c m0) = some (ep_lf (m.1 148) 0 12) := by
  unfold eF_10_leastFreeFibre
  exact ep_bnd (ep_lfl (m.1 148) 12 12 rfl (by decide) (fun t => (ep_mk c m0).1 (eh_fp t) 6) (fun k hk => by show (ep_mk c m0).1 (eh_fp (nI k)) 6 = _; rw [ep_rF0 _ _ hk]; exact (hR.2.2.2.2.2.2.2.2.2.2.1 k hk).2.2.2.2.2.1) 12 0 eh_FU (by omega) (ep_FU _ (by omega))) (ep_lf_e _)
theorem ep_cfreeE {N : Nat} {c : ep_C} {m : ep_M} (hR : ep_R N c m) (m0 : ep_M) : eF_10_leastFreeEnclave (ep_mk c m0) = some (ep_lf (m.1 155) 0 6) := by
  unfold eF_10_leastFreeEnclave
  exact ep_bnd (ep_lfl (m.1 155) 6 6 rfl (by decide) (fun t => (ep_mk c m0).1 (eh_ep t) 5) (fun k hk => by show (ep_mk c m0).1 (eh_ep (nI k)) 5 = _; rw [ep_rE0 _ _ hk]; exact (hR.2.2.2.2.2.2.2.2.2.2.2.2.2.2.2.2.1 k hk).1) 6 0 eh_FU (by omega) (ep_FU _ (by omega))) (ep_lf_e _)
theorem ep_cfreeR {N : Nat} {c : ep_C} {m : ep_M} (hR : ep_R N c m) (m0 : ep_M) : eF_6_leastFreeRegion (ep_mk c m0) = some (ep_lf (m.1 164) 0 12) := by
  unfold eF_6_leastFreeRegion
  exact ep_bnd (ep_lfl (m.1 164) 12 12 rfl (by decide) (fun t => (ep_mk c m0).1 3 (eh_ix t)) (fun k hk => by show (ep_mk c m0).1 3 (eh_ix (nI k)) = _; rw [ep_rC1 _ _ _ (by decide), show eh_ix (nI k) = k from ep_ix (by omega), show c.1 3 = m.1 164 from hR.2.2.1.1]) 12 0 eh_FU (by omega) (ep_FU _ (by omega))) (ep_lf_e _)
theorem ep_nt_le (a o : Nat → Int32) (e : Nat) : ∀ n, ep_nt a o e n ≤ n
  | 0 => Nat.le_refl _
  | n + 1 => by
    unfold ep_nt
    have := ep_nt_le a o e n
    split <;> omega
theorem ep_mthreads (m : ep_M) (e : Nat) (c0 : ep_C) : eF_12_threadsOf (ep_mk c0 m) (nI e) = some (nI (ep_nt (m.1 148) (m.1 149) e 12)) := by
  unfold eF_12_threadsOf
  refine ep_bnd (ep_loop (fun i => (nI (ep_nt (m.1 148) (m.1 149) e i), nI i)) 12 (some (nI (ep_nt (m.1 148) (m.1 149) e 12))) (ep_FU _ (by decide)) ?_ ?_ rfl) rfl
  · intro i hi rec
    have q1 : nI i < 12 := nI_lt (b := 12) hi (by decide)
    have q2 : eh_in (nI i) 12 = true := ep_in hi (by decide)
    have q3 : eh_ix (nI i) = i := ep_ix (by omega)
    show (if nI i < 12 then _ else _) = _
    rw [if_pos q1, if_pos q2, q3, ep_rM _ _ _ (by decide), ep_rM _ _ _ (by decide), ep_J, ep_J, if_pos q2]
    show _ = rec (nI (ep_nt (m.1 148) (m.1 149) e i + _), _)
    by_cases h1 : m.1 148 i = 0
    · rw [if_pos h1, if_neg (fun z => z.1 h1)]
      show rec (nI (ep_nt (m.1 148) (m.1 149) e i) + 0, nI i + 1) = _
      rw [nI_1, Int32.add_zero]; rfl
    · rw [if_neg h1]
      by_cases h2 : m.1 149 i = nI e
      · rw [if_pos h2, if_pos ⟨h1, h2⟩]
        show rec (nI (ep_nt (m.1 148) (m.1 149) e i) + 1, nI i + 1) = _
        rw [nI_1, nI_1]
      · rw [if_neg h2, if_neg (fun z => h2 z.2)]
        show rec (nI (ep_nt (m.1 148) (m.1 149) e i) + 0, nI i + 1) = _
        rw [nI_1, Int32.add_zero]; rfl
  · intro rec
    show (if nI 12 < 12 then _ else _) = _
    rw [if_neg (by decide)]
theorem ep_nt_far {a b o o' : Nat → Int32} {e : Nat} : ∀ n, (∀ t, t < n → ((a t ≠ 0 ∧ o t = nI e) ↔ (b t ≠ 0 ∧ o' t = nI e))) → ep_nt a o e n = ep_nt b o' e n
  | 0, _ => rfl
  | n + 1, h => by
    unfold ep_nt
    rw [ep_nt_far n (fun t ht => h t (by omega))]
    congr 1
    by_cases z : a n ≠ 0 ∧ o n = nI e
    · rw [if_pos z, if_pos ((h n (by omega)).mp z)]
    · rw [if_neg z, if_neg (fun y => z ((h n (by omega)).mpr y))]
theorem ep_nt_mk {a o : Nat → Int32} {t e : Nat} (h0 : a t = 0) : ∀ n, t < n → ep_nt (upd a t 1) (upd o t (nI e)) e n = ep_nt a o e n + 1
  | n + 1, h => by
    unfold ep_nt
    by_cases z : t = n
    · subst z
      rw [ep_upd_eq, ep_upd_eq, if_pos ⟨by decide, rfl⟩, if_neg (fun y => y.1 h0), ep_nt_far (b := a) (o' := o) t (fun t' ht' => by rw [ep_upd_ne (by omega), ep_upd_ne (by omega)])]
    · rw [ep_nt_mk h0 n (by omega), ep_upd_ne (by omega), ep_upd_ne (by omega)]
      omega
