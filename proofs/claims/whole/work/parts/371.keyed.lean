/-! keyed digests, of both sides at once -/
theorem ep_map_app {A B F : Nat → Int32} (n : Nat) : ∀ k, (∀ j, j < n → F j = A j) → (∀ i, i < k → F (n + i) = B i) → (List.range (n + k)).map F = (List.range n).map A ++ (List.range k).map B
  | 0, h1, _ => by
    rw [Nat.add_zero, ep_map_eq h1]
    simp
  | k + 1, h1, h2 => by
    rw [show n + (k + 1) = (n + k) + 1 from rfl, List.range_succ, List.map_append, ep_map_app n k h1 (fun i hi => h2 i (by omega)), List.range_succ, List.map_append, ← List.append_assoc]
    congr 1
    show [F (n + k)] = [B k]
    rw [h2 k (by omega)]
theorem ep_map_255 (n : Nat) (f : Nat → Int32) : ((List.range n).map f).map (· &&& 255) = (List.range n).map fun i => f i &&& 255 := by
  rw [List.map_map]
  rfl
theorem ep_hmac_cong (K : Nat → Int32) {l l' : List Int32} (h : l.map (· &&& 255) = l'.map (· &&& 255)) : ep_hmac K l = ep_hmac K l' := by
  rw [ep_hmac_eq, ep_hmac_eq, ep_puts_cong _ h]
theorem ep_puts_0 (st : ep_St) : ep_puts st [] = st := rfl
def ep_Z3 (c c' : ep_C) (m m' : ep_M) : Prop := c'.1 36 = c.1 36 ∧ c'.1 126 = c.1 126 ∧ m'.1 195 = m.1 195
theorem ep_Z3_tr {c c1 c2 : ep_C} {m m1 m2 : ep_M} (h1 : ep_Z3 c c1 m m1) (h2 : ep_Z3 c1 c2 m1 m2) : ep_Z3 c c2 m m2 := ⟨h2.1.trans h1.1, h2.2.1.trans h1.2.1, h2.2.2.trans h1.2.2⟩
def ep_KS (c : ep_C) (m : ep_M) (KB : Nat → Int32) (l : List Int32) : Prop := ep_Rc (c.1 30) (c.1 31) (c.1 29 3) (ep_puts (ep_key KB 54) l) ∧ m.1 127 79 = nI l.length ∧ ((List.range l.length).map fun k => m.1 192 k &&& 255) = l.map (· &&& 255) ∧ l.length ≤ 256 ∧ l.length % 4 = 0
theorem ep_ks_ok (KB : Nat → Int32) {l : List Int32} (hl : l.length ≤ 256) : ep_ok (ep_puts (ep_key KB 54) l) := ep_puts_ok l (ep_key_ok KB 54) (by rw [ep_key_len]; omega)
theorem ep_ks_len (KB : Nat → Int32) (l : List Int32) : (ep_puts (ep_key KB 54) l).2.2 = 64 + l.length := by rw [ep_puts_len, ep_key_len]
theorem ep_ksbegin (c : ep_C) (m : ep_M) (p : Nat) (f KB : Nat → Int32) (hp : p ≠ 29 ∧ p ≠ 30 ∧ p ≠ 31) (hrd : ∀ m0, (ep_mk c m0).1 p = f) (hw : ∀ j, j < 8 → f j = ep_bw KB (4 * j)) : ∃ c' m', (∀ m0, eF_9_beginKeyed (ep_mk c m0) 29 p 8 = some (ep_mk c' m0)) ∧ (∀ c0, eh_tI (ep_mk c0 m) 127 79 0 = ep_mk c0 m') ∧ ep_K c c' ∧ ep_L m m' ∧ ep_KS c' m' KB [] ∧ ep_Z3 c c' m m' := by
  obtain ⟨h', w', a, b⟩ := ep_cbeginKeyed KB (c.1 30) (c.1 31)
  refine ⟨ep_s29 c (nI 64) h' w', ep_mI m 127 79 0, fun m0 => ?_, fun c0 => ep_iM _ _ _ _ _ (by decide), ep_K_29 _ _ _ _, ep_L_79 0, ⟨by rw [ep_puts_0]; exact a, ?_, rfl, by decide, rfl⟩, rfl, rfl, rfl⟩
  · rw [b _ 29 p hp.1 hp.2.1 hp.2.2 (fun j hj => by rw [hrd]; exact hw j hj) (ep_r29 c m0).1 (ep_r29 c m0).2.1, ep_t3_29]
  · rw [ep_mI1, ep_upd_eq]; rfl
theorem ep_ksnum {c : ep_C} {m : ep_M} {KB : Nat → Int32} {l : List Int32} (hS : ep_KS c m KB l) (hl : l.length + 4 ≤ 256) (v : Int32) : ∃ c' m', (∀ m0, eF_9_feedNumber (ep_mk c m0) 29 v = some (ep_mk c' m0)) ∧ (∀ c0, eF_12_say (ep_mk c0 m) v = some (ep_mk c0 m')) ∧ ep_K c c' ∧ ep_L m m' ∧ ep_KS c' m' KB (l ++ (List.range 4).map fun i => eh_shr v (nI (8 * i))) ∧ ep_Z3 c c' m m' := by
  obtain ⟨h1, h2, h3, h4, h5⟩ := hS
  obtain ⟨h', w', n', a, b⟩ := ep_cfeedNumber h1 (ep_ks_ok KB h4) (by rw [ep_ks_len]; omega) (by rw [ep_ks_len]; omega) v
  refine ⟨ep_s29 c n' h' w', _, fun m0 => ?_, fun c0 => ep_msay h2 hl v c0, ep_K_29 _ _ _ _, ep_L_tr (ep_L_mL _ (by decide)) (ep_L_79 _), ⟨?_, ?_, ?_, ?_, ?_⟩, rfl, rfl, rfl⟩
  · rw [b _ 29 (ep_r29 c m0).1 (ep_r29 c m0).2.1 (ep_r29 c m0).2.2, ep_t3_29]
  · rw [ep_puts_ap]; exact a
  · rw [ep_mI1, ep_upd_eq, List.length_append, ep_numlen]
  · rw [List.length_append, ep_numlen, List.map_append, ← h3, ep_map_255]
    refine ep_map_app _ 4 (fun j hj => ?_) (fun i hi => ?_)
    · rw [ep_mIn _ _ 192 _ _ (by decide), ep_mL1]
      unfold ep_in_
      rw [if_neg (by omega)]
    · rw [ep_mIn _ _ 192 _ _ (by decide), ep_mL1]
      unfold ep_in_
      rw [if_pos (by omega), Nat.add_sub_cancel_left, ep_nbnb]
  · rw [List.length_append, ep_numlen]; exact hl
  · rw [List.length_append, ep_numlen]; omega
theorem ep_kswords {c : ep_C} {m : ep_M} {KB : Nat → Int32} {l : List Int32} (hS : ep_KS c m KB l) (k : Nat) (hl : l.length + 4 * k ≤ 256) (p np pm npm off : Nat) (f : Nat → Int32) (hp : p ≠ 29 ∧ p ≠ 30 ∧ p ≠ 31) (hrd : ∀ m0, (ep_mk c m0).1 p = f) (hnp : k ≤ np ∧ np < 1000) (hpm : 127 ≤ pm ∧ pm ≠ 192) (hin : off + 4 * k ≤ npm) (hnpm : npm < 1000000) (hw : ∀ j, j < k → f j = ep_bw (m.1 pm) (off + 4 * j)) : ∃ c' m', (∀ m0, eF_9_feedWords (ep_mk c m0) 29 p np (nI k) = some (ep_mk c' m0)) ∧ (∀ c0, eF_12_sayBytes (ep_mk c0 m) pm npm (nI off) (nI (4 * k)) = some (ep_mk c0 m')) ∧ ep_K c c' ∧ ep_L m m' ∧ ep_KS c' m' KB (l ++ (List.range (4 * k)).map fun i => m.1 pm (off + i)) ∧ ep_Z3 c c' m m' := by
  obtain ⟨h1, h2, h3, h4, h5⟩ := hS
  obtain ⟨h', w', n', a, b⟩ := ep_cfeedWords h1 (ep_ks_ok KB h4) (by rw [ep_ks_len]; omega) f k (by omega) (by rw [ep_ks_len]; omega)
  refine ⟨ep_s29 c n' h' w', _, fun m0 => ?_, fun c0 => ep_msayBytes h2 pm npm off (4 * k) hl hpm.1 hpm.2 hin hnpm c0, ep_K_29 _ _ _ _, ep_L_tr (ep_L_mL _ (by decide)) (ep_L_79 _), ⟨?_, ?_, ?_, ?_, ?_⟩, rfl, rfl, rfl⟩
  · rw [b _ 29 p np hp.1 hp.2.1 hp.2.2 hnp.1 hnp.2 (fun i hi => by rw [hrd]) (ep_r29 c m0).1 (ep_r29 c m0).2.1 (ep_r29 c m0).2.2, ep_t3_29]
  · rw [ep_puts_ap]
    have := ep_puts_bw (f := fun i => m.1 pm (off + i)) (g := f) k (fun j hj => by
      rw [hw j hj]; unfold ep_bw; simp only [Nat.add_assoc]) (ep_puts (ep_key KB 54) l)
    rw [this]; exact a
  · rw [ep_mI1, ep_upd_eq, List.length_append, ep_range_len]
  · rw [List.length_append, ep_range_len, List.map_append, ← h3, ep_map_255]
    refine ep_map_app _ (4 * k) (fun j hj => ?_) (fun i hi => ?_)
    · rw [ep_mIn _ _ 192 _ _ (by decide), ep_mL1]
      unfold ep_in_
      rw [if_neg (by omega)]
    · rw [ep_mIn _ _ 192 _ _ (by decide), ep_mL1]
      unfold ep_in_
      rw [if_pos (by omega), Nat.add_sub_cancel_left, ep_nb255]
  · rw [List.length_append, ep_range_len]; exact hl
  · rw [List.length_append, ep_range_len]; omega
theorem ep_ksend {c : ep_C} {m : ep_M} {l : List Int32} (p out pk : Nat) (f : Nat → Int32) (hS : ep_KS c m (m.1 pk) l) (hp : p ≠ 29 ∧ p ≠ 30 ∧ p ≠ 31 ∧ p ≠ 32) (ho : out ≠ 29 ∧ out ≠ 30 ∧ out ≠ 31 ∧ out ≠ 32) (hrd : ∀ m0, (ep_mk c m0).1 p = f) (hw : ∀ j, j < 8 → f j = ep_bw (m.1 pk) (4 * j)) (hpk : 127 ≤ pk ∧ pk ≠ 188 ∧ pk ≠ 189 ∧ pk ≠ 191 ∧ pk ≠ 193) : ∃ T c1 m1, (∀ m0, eF_9_endKeyed (ep_mk c m0) 29 p 8 out 8 = some (eh_tF (ep_mk c1 m0) out (ep_w8 ((ep_mk c m0).1 out) T 8))) ∧ (∀ c0, eF_12_keyed (ep_mk c0 m) pk 32 = some (ep_mk c0 m1)) ∧ ep_K c c1 ∧ ep_L m m1 ∧ m1.1 194 = ep_wr (m.1 194) 0 T 32 ∧ ep_Z3 c c1 m m1 := by
  obtain ⟨h1, h2, h3, h4, h5⟩ := hS
  obtain ⟨h', w', n', a⟩ := ep_cendKeyed h1 (ep_ks_ok (m.1 pk) h4) (m.1 pk)
  obtain ⟨H, B, W, L, R, b, b2⟩ := ep_mkeyed (m := m) pk hpk.1 hpk.2.1 hpk.2.2.1 hpk.2.2.2.1 hpk.2.2.2.2 h2 h4
  have hT : ep_hmac (m.1 pk) ((List.range l.length).map (m.1 192)) = ep_hmac (m.1 pk) l := ep_hmac_cong _ (by rw [ep_map_255]; exact h3)
  rw [hT] at b
  refine ⟨ep_hmac (m.1 pk) l, ep_cL (ep_s29 c n' h' w') 32 (ep_w8 (c.1 32) (ep_fin (ep_puts (ep_key (m.1 pk) 54) l)) 8), _, fun m0 => ?_, b, ?_, ?_, rfl, rfl, rfl, rfl⟩
  · rw [a _ 29 p out hp.1 hp.2.1 hp.2.2.1 hp.2.2.2 ho.1 ho.2.1 ho.2.2.1 ho.2.2.2 (fun j hj => by rw [hrd]; exact hw j hj) (ep_r29 c m0).1 (ep_r29 c m0).2.1 (ep_r29 c m0).2.2, ep_t3_29, ep_wC1 _ _ _ _ (by decide), ep_rC1 _ _ (29 + 3) (by decide), ep_hmac_eq]
  · refine ep_K_tr (ep_K_29 c n' h' w') ⟨rfl, fun k a1 a2 a3 a4 a5 a6 a7 => ep_cLn _ _ _ _ a4⟩
  · exact ep_L_tr (ep_L_tr (ep_L_tr (ep_L_mS (by decide) b2) (ep_L_mL _ (by decide))) (ep_L_mL _ (by decide))) (ep_L_79 0)
