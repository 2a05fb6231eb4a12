/-! keyed digests of the class -/
theorem ep_bit_bw (f : Nat → Int32) (o i : Nat) (hi : i < 32) : ep_bit (ep_bw f o) i = if i < 8 then ep_bit (f (o + 3)) i else if i < 16 then ep_bit (f (o + 2)) (i - 8) else if i < 24 then ep_bit (f (o + 1)) (i - 16) else ep_bit (f o) (i - 24) := ep_bit4 _ _ _ _ i hi
theorem ep_w4_bw (f : Nat → Int32) (o : Nat) : (ep_w4 (ep_bw f o)).map (· &&& 255) = [f o &&& 255, f (o + 1) &&& 255, f (o + 2) &&& 255, f (o + 3) &&& 255] := by
  show [eh_ushr (ep_bw f o) 24 &&& 255, eh_ushr (ep_bw f o) 16 &&& 255, eh_ushr (ep_bw f o) 8 &&& 255, ep_bw f o &&& 255] = _
  rw [ep_sh8, ep_sh16, ep_sh24]
  congr 1
  · rw [ep_b8]; intro i hi
    rw [ep_bit_ushr _ (by decide), ep_bit_bw _ _ _ (by omega)]
    simp [show ¬ i + 24 < 8 by omega, show ¬ i + 24 < 16 by omega, show ¬ i + 24 < 24 by omega]
  congr 1
  · rw [ep_b8]; intro i hi
    rw [ep_bit_ushr _ (by decide), ep_bit_bw _ _ _ (by omega)]
    simp [show ¬ i + 16 < 8 by omega, show ¬ i + 16 < 16 by omega, show i + 16 < 24 by omega]
  congr 1
  · rw [ep_b8]; intro i hi
    rw [ep_bit_ushr _ (by decide), ep_bit_bw _ _ _ (by omega)]
    simp [show ¬ i + 8 < 8 by omega, show i + 8 < 16 by omega]
  congr 1
  rw [ep_b8]; intro i hi
  rw [ep_bit_bw _ _ _ (by omega)]
  simp [hi]
theorem ep_range4 (f : Nat → Int32) (n : Nat) : (List.range (4 * (n + 1))).map f = (List.range (4 * n)).map f ++ [f (4 * n), f (4 * n + 1), f (4 * n + 2), f (4 * n + 3)] := by
  rw [show 4 * (n + 1) = 4 * n + 1 + 1 + 1 + 1 by omega, List.range_succ, List.range_succ, List.range_succ, List.range_succ]
  simp
theorem ep_map_bw {f g : Nat → Int32} : ∀ n, (∀ j, j < n → g j = ep_bw f (4 * j)) → ((List.range (4 * n)).map f).map (· &&& 255) = (ep_wds g n).map (· &&& 255)
  | 0, _ => rfl
  | n + 1, h => by
    rw [ep_range4, ep_wds_s, List.map_append, List.map_append, ep_map_bw n (fun j hj => h j (by omega)), h n (by omega), ep_w4_bw]
    rfl
theorem ep_puts_bw {f g : Nat → Int32} (n : Nat) (h : ∀ j, j < n → g j = ep_bw f (4 * j)) (st : ep_St) : ep_puts st ((List.range (4 * n)).map f) = ep_puts st (ep_wds g n) := ep_puts_cong st (ep_map_bw n h)
theorem ep_bw_wr (f : Nat → Int32) (a : Nat) (t : ep_T8) (j : Nat) (hj : j < 8) : ep_bw (ep_wr f a t 32) (a + 4 * j) = ep_t8 t j := by
  have key : ∀ k, k < 4 → ep_wr f a t 32 (a + 4 * j + k) = eh_nb (eh_nb (eh_shr (ep_t8 t j) (nI (24 - 8 * k)))) := by
    intro k hk
    unfold ep_wr
    rw [if_pos ⟨by omega, by omega⟩, show (a + 4 * j + k - a) / 4 = j by omega, show (a + 4 * j + k - a) % 4 = k by omega]
  apply ep_ext
  intro i hi
  rw [ep_bit_bw _ _ _ hi, key 3 (by decide), key 2 (by decide), key 1 (by decide), show ep_wr f a t 32 (a + 4 * j) = _ from key 0 (by decide)]
  have hb : ∀ (x : Int32) (i : Nat), i < 8 → ep_bit (eh_nb (eh_nb x)) i = ep_bit x i := by
    intro x i hi
    rw [ep_bit_nb _ _ (by omega), if_pos hi, ep_bit_nb _ _ (by omega), if_pos hi]
  by_cases h1 : i < 8
  · rw [if_pos h1, hb _ _ h1, ep_bit_shr _ (by decide) _ (by omega), if_pos (by omega)]; rfl
  · by_cases h2 : i < 16
    · rw [if_neg h1, if_pos h2, hb _ _ (by omega), ep_bit_shr _ (by decide) _ (by omega), if_pos (by omega)]; congr 1; omega
    · by_cases h3 : i < 24
      · rw [if_neg h1, if_neg h2, if_pos h3, hb _ _ (by omega), ep_bit_shr _ (by decide) _ (by omega), if_pos (by omega)]; congr 1; omega
      · rw [if_neg h1, if_neg h2, if_neg h3, hb _ _ (by omega), ep_bit_shr _ (by decide) _ (by omega), if_pos (by omega)]; congr 1; omega
theorem ep_be_wds (g : Nat → Int32) : ∀ n k, k < n → ep_be ((ep_wds g n).map (· &&& 255)) (4 * k) = g k
  | n + 1, k, hk => by
    rw [ep_wds_s, List.map_append]
    by_cases h : k = n
    · subst h
      have : ((ep_wds g k).map (· &&& 255)).length = 4 * k := by rw [List.length_map, ep_wds_len]
      rw [show 4 * k = ((ep_wds g k).map (· &&& 255)).length + 0 by omega, ep_be_right, ep_be_w4]
    · rw [ep_be_left _ _ _ (by rw [List.length_map, ep_wds_len]; omega)]
      exact ep_be_wds g n k (by omega)
theorem ep_getD_map (n : Nat) (g : Nat → Int32) (i : Nat) (h : i < n) : (((List.range n).map g).map (· &&& 255)).getD i 0 = g i &&& 255 := by
  simp [h]
theorem ep_key_be (KB : Nat → Int32) (pb pad : Int32) (hpad : ∀ i, i < 32 → ep_bit pad i = ep_bit pb (i % 8)) (k : Nat) (hk : k < 16) : ep_be (((List.range 64).map fun k => (if k < 32 then KB k else 0) ^^^ pb).map (· &&& 255)) (4 * k) = if k < 8 then ep_bw KB (4 * k) ^^^ pad else pad := by
  unfold ep_be
  rw [ep_getD_map _ _ _ (by omega), ep_getD_map _ _ _ (by omega), ep_getD_map _ _ _ (by omega), ep_getD_map _ _ _ (by omega)]
  apply ep_ext
  intro i hi
  rw [ep_bit4 _ _ _ _ i hi]
  by_cases h : k < 8
  · simp only [h, if_true, show 4 * k < 32 by omega, show 4 * k + 1 < 32 by omega, show 4 * k + 2 < 32 by omega, show 4 * k + 3 < 32 by omega, ep_bit_xor, ep_bit_bw _ _ _ hi, hpad i hi]
    by_cases h1 : i < 8
    · simp [h1, show i % 8 = i by omega]
    · by_cases h2 : i < 16
      · simp [h1, h2, show i % 8 = i - 8 by omega]
      · by_cases h3 : i < 24
        · simp [h1, h2, h3, show i % 8 = i - 16 by omega]
        · simp [h1, h2, h3, show i % 8 = i - 24 by omega]
  · simp only [h, if_false, show ¬ 4 * k < 32 by omega, show ¬ 4 * k + 1 < 32 by omega, show ¬ 4 * k + 2 < 32 by omega, show ¬ 4 * k + 3 < 32 by omega, ep_bit_xor, ep_bit_0, hpad i hi]
    by_cases h1 : i < 8
    · simp [h1, show i % 8 = i by omega]
    · by_cases h2 : i < 16
      · simp [h1, h2, show i % 8 = i - 8 by omega]
      · by_cases h3 : i < 24
        · simp [h1, h2, h3, show i % 8 = i - 16 by omega]
        · simp [h1, h2, h3, show i % 8 = i - 24 by omega]
theorem ep_key_eq (KB : Nat → Int32) (pb : Int32) : ep_key KB pb = (ep_cmp ep_st0.1 (((List.range 64).map fun k => (if k < 32 then KB k else 0) ^^^ pb).map (· &&& 255)), [], 64) := by
  unfold ep_key
  rw [ep_puts_eq _ _ (by rw [ep_range_len]; rfl) (by rw [ep_range_len]; decide), ep_range_len]
  rfl
theorem ep_cpad {h : Nat → Int32} (h8 : ep_h8 h 0 = ep_st0.1) (KB : Nat → Int32) (pb pad : Int32) (hpad : ∀ i, i < 32 → ep_bit pad i = ep_bit pb (i % 8)) (w : Nat → Int32) : ∃ h' w', ep_Rc h' w' (nI 64) (ep_key KB pb) ∧ ∀ s th p, p ≠ th → p ≠ th + 1 → p ≠ th + 2 → (∀ j, j < 8 → s.1 p j = ep_bw KB (4 * j)) → s.1 (th + 1) = h → s.1 (th + 2) = w → s.1 th 3 = 0 → eF_9_feedPaddedKey s th p 8 pad = some (ep_t3 s th (nI 64) h' w') := by
  obtain ⟨h', w', c1, c2⟩ := ep_ccmp (W := fun j => if j < 16 then (if j < 8 then ep_bw KB (4 * j) ^^^ pad else pad) else w j) h8 (blk := ((List.range 64).map fun k => (if k < 32 then KB k else 0) ^^^ pb).map (· &&& 255)) (fun k hk => by rw [if_pos hk, ep_key_be KB pb pad hpad k hk])
  refine ⟨h', w', ?_, ?_⟩
  · rw [ep_key_eq]
    exact ⟨c1, fun k _ hk => absurd hk (by simp), rfl⟩
  · intro s th p p1 p2 p3 hK g1 g2 g3
    unfold eF_9_feedPaddedKey
    rw [ep_loop (fun i => (nI i, eh_tF s (th + 2) (fun j => if j < i then (if j < 8 then ep_bw KB (4 * j) ^^^ pad else pad) else w j))) 16 (some (eh_tF s (th + 2) (fun j => if j < 16 then (if j < 8 then ep_bw KB (4 * j) ^^^ pad else pad) else w j))) (ep_FU _ (by decide)) ?_ ?_ ?_]
    · rw [ep_sb]
      simp only [ep_V, ep_tFn _ (th + 2) th _ (show th ≠ th + 2 by omega), g3]
      have e : eh_tI (eh_tF s (th + 2) (fun j => if j < 16 then (if j < 8 then ep_bw KB (4 * j) ^^^ pad else pad) else w j)) th 3 (0 + 64) = ep_t3 s th (nI 64) h (fun j => if j < 16 then (if j < 8 then ep_bw KB (4 * j) ^^^ pad else pad) else w j) := by
        rw [← g1]
        refine Prod.ext (funext fun a => ?_) rfl
        simp only [ep_t3, eh_tI, eh_tF]
        by_cases h1 : a = th
        · subst h1; simp; rfl
        · by_cases h2 : a = th + 1
          · subst h2; simp
          · by_cases h3 : a = th + 2
            · subst h3; simp
            · simp [h1, h2, h3]
      rw [e, c2 _ th (ep_t3_1 _ _ _ _ _) (ep_t3_2 _ _ _ _ _), ep_sb, ep_t3_c]
    · intro i hi rec
      have q1 : nI i < 16 := ep_lt (b := 16) hi (by decide) rfl
      have q3 : eh_in (nI i) 64 = true := ep_in (by omega) (by decide)
      have q4 : eh_ix (nI i) = i := ep_ix (by omega)
      have fin : ∀ v, v = (if i < 8 then ep_bw KB (4 * i) ^^^ pad else pad) → upd (fun j => if j < i then (if j < 8 then ep_bw KB (4 * j) ^^^ pad else pad) else w j) i v = fun j => if j < i + 1 then (if j < 8 then ep_bw KB (4 * j) ^^^ pad else pad) else w j := by
        intro v hv
        funext j
        unfold upd
        show (if j = i then v else if j < i then (if j < 8 then ep_bw KB (4 * j) ^^^ pad else pad) else w j) = _
        by_cases g : j = i
        · subst g; rw [if_pos rfl, if_pos (by omega), hv]
        · rw [if_neg g]
          by_cases g' : j < i
          · simp only [g', if_true, show j < i + 1 by omega]
          · simp only [g', if_false, show ¬ j < i + 1 by omega]
      by_cases h : i < 8
      · have q5 : nI i < 8 := ep_lt (b := 8) h (by decide) rfl
        have q6 : nI i < Int32.ofNat 8 := nI_lt h (by decide)
        have q7 : eh_in (nI i) 8 = true := ep_in h (by decide)
        simp only [q1, if_true, ep_J, q5, q6, q7, q4, q3, ep_V, ep_tFn _ (th + 2) p _ p3, hK i h, ep_tFI, nI_1]
        rw [fin _ (by rw [if_pos h])]
      · have q5 : ¬ nI i < 8 := ep_nlt (b := 8) (by omega) (by omega) rfl
        simp only [q1, if_true, ep_J, q5, if_false, q4, q3, ep_V, ep_tFI, nI_1]
        rw [fin _ (by rw [if_neg h])]
    · intro rec
      have q1 : ¬ nI 16 < 16 := by decide
      simp only [q1, if_false]
    · show (_, _) = (_, _)
      congr 1
      rw [show (fun j => if j < 0 then (if j < 8 then ep_bw KB (4 * j) ^^^ pad else pad) else w j) = s.1 (th + 2) from by funext j; rw [if_neg (by omega), g2], ep_tFid]
theorem ep_pad54 : ∀ i, i < 32 → ep_bit 909522486 i = ep_bit 54 (i % 8) := by decide
theorem ep_pad92 : ∀ i, i < 32 → ep_bit 1549556828 i = ep_bit 92 (i % 8) := by decide
theorem ep_cbeginKeyed (KB h w : Nat → Int32) : ∃ h' w', ep_Rc h' w' (nI 64) (ep_key KB 54) ∧ ∀ s th p, p ≠ th → p ≠ th + 1 → p ≠ th + 2 → (∀ j, j < 8 → s.1 p j = ep_bw KB (4 * j)) → s.1 (th + 1) = h → s.1 (th + 2) = w → eF_9_beginKeyed s th p 8 = some (ep_t3 s th (nI 64) h' w') := by
  obtain ⟨f, f1, f2⟩ := ep_cbegin
  obtain ⟨h', w', a, b⟩ := ep_cpad (h := f h) (f1 h w).1 KB 54 909522486 ep_pad54 w
  refine ⟨h', w', a, fun s th p p1 p2 p3 hK g1 g2 => ?_⟩
  unfold eF_9_beginKeyed
  rw [f2, ep_sb, ep_t3_b, g1, b _ th p p1 p2 p3 (fun j hj => by rw [ep_t3_n _ _ _ _ _ _ p1 p2 p3]; exact hK j hj) (ep_t3_1 _ _ _ _ _) (by rw [ep_t3_2]; exact g2) (by rw [ep_t3_0, ep_upd_eq]), ep_sb, ep_t3_t3]
theorem ep_t3_p (s : eh_F) (th p : Nat) (n : Int32) (f1 f2 g : Nat → Int32) (p1 : p ≠ th) (p2 : p ≠ th + 1) (p3 : p ≠ th + 2) : ep_t3 (eh_tF s p g) th n f1 f2 = eh_tF (ep_t3 s th n f1 f2) p g := by
  refine Prod.ext (funext fun a => ?_) rfl
  simp only [ep_t3, eh_tI, eh_tF]
  by_cases h1 : a = th
  · subst h1; simp [Ne.symm p1]
  · by_cases h2 : a = th + 1
    · subst h2; simp [Ne.symm p2]
    · by_cases h3 : a = th + 2
      · subst h3; simp [Ne.symm p3]
      · simp [h1, h2, h3]
def ep_hout (KB : Nat → Int32) (st : ep_St) : ep_T8 := ep_fin (ep_puts (ep_key KB 92) ((List.range 32).map (ep_wr (fun _ => 0) 0 (ep_fin st) 32)))
theorem ep_hmac_eq (KB : Nat → Int32) (l : List Int32) : ep_hmac KB l = ep_hout KB (ep_puts (ep_key KB 54) l) := rfl
theorem ep_cendKeyed {h w : Nat → Int32} {n : Int32} {st : ep_St} (hR : ep_Rc h w n st) (hk : ep_ok st) (KB : Nat → Int32) : ∃ h' w' n', ∀ s th p out, p ≠ th → p ≠ th + 1 → p ≠ th + 2 → p ≠ th + 3 → out ≠ th → out ≠ th + 1 → out ≠ th + 2 → out ≠ th + 3 → (∀ j, j < 8 → s.1 p j = ep_bw KB (4 * j)) → s.1 (th + 1) = h → s.1 (th + 2) = w → s.1 th 3 = n → eF_9_endKeyed s th p 8 out 8 = some (eh_tF (eh_tF (ep_t3 s th n' h' w') (th + 3) (ep_w8 (s.1 (th + 3)) (ep_fin st) 8)) out (ep_w8 (s.1 out) (ep_hout KB st) 8)) := by
  obtain ⟨f, f1, f2⟩ := ep_cbegin
  obtain ⟨h1, w1, a1⟩ := ep_cend hR hk
  obtain ⟨h2, w2, a2, b2⟩ := ep_cpad (h := f h1) (f1 h1 w1).1 KB 92 1549556828 ep_pad92 w1
  have hwds : ep_puts (ep_key KB 92) ((List.range 32).map (ep_wr (fun _ => 0) 0 (ep_fin st) 32)) = ep_puts (ep_key KB 92) (ep_wds (ep_t8 (ep_fin st)) 8) := by
    apply ep_puts_bw 8
    intro j hj
    have := ep_bw_wr (fun _ => 0) 0 (ep_fin st) j hj
    rw [Nat.zero_add] at this
    rw [this]
  unfold ep_hout
  obtain ⟨K1, hK1⟩ : ∃ K1, ep_key KB 92 = (K1, [], 64) := ⟨_, ep_key_eq _ _⟩
  have hok := ep_puts_ok (ep_wds (ep_t8 (ep_fin st)) 8) (ep_key_ok KB 92) (by rw [ep_wds_len, ep_key_len]; decide)
  generalize ep_fin st = F at hwds hok a1 ⊢
  have hst : ep_puts (ep_key KB 92) (ep_wds (ep_t8 F) 8) = (K1, (ep_wds (ep_t8 F) 8).map (· &&& 255), 96) := by
    rw [hK1, ep_puts_lt _ _ (by rw [ep_wds_len]; show 0 + 4 * 8 < 64; decide), ep_wds_len]
    rfl
  have hRc : ep_Rc h2 (fun k => if 0 ≤ k ∧ k < 0 + 8 then ep_t8 F (0 + (k - 0)) else w2 k) (nI 96) (ep_puts (ep_key KB 92) (ep_wds (ep_t8 F) 8)) := by
    rw [hst]
    have a21 := a2.1
    rw [hK1] at a21
    refine ⟨a21, fun k hk hk2 => ?_, rfl⟩
    have : k < 8 := by
      simp only [List.length_map, ep_wds_len] at hk2; omega
    show (if 0 ≤ k ∧ k < 0 + 8 then ep_t8 F (0 + (k - 0)) else w2 k) = _
    rw [if_pos ⟨by omega, by omega⟩]
    show _ = ep_be ((ep_wds (ep_t8 F) 8).map (· &&& 255)) (4 * k)
    rw [ep_be_wds _ 8 k this, show 0 + (k - 0) = k by omega]
  obtain ⟨h3, w3, a3⟩ := ep_cend hRc hok
  refine ⟨h3, w3, nI 96, fun s th p out p1 p2 p3 p4 o1 o2 o3 o4 hK g1 g2 g3 => ?_⟩
  unfold eF_9_endKeyed
  rw [a1 s th (th + 3) (by omega) (by omega) (by omega) g1 g2 g3, ep_sb, f2, ep_sb, ep_t3_b]
  rw [← ep_t3_p _ _ _ _ _ _ _ (show th + 3 ≠ th by omega) (show th + 3 ≠ th + 1 by omega) (show th + 3 ≠ th + 2 by omega), ep_t3_t3, ep_t3_1, ep_t3_2]
  rw [b2 _ th p p1 p2 p3 (fun j hj => by rw [ep_t3_n _ _ _ _ _ _ p1 p2 p3, ep_tFn _ _ _ _ p4]; exact hK j hj) (ep_t3_1 _ _ _ _ _) (ep_t3_2 _ _ _ _ _) (by rw [ep_t3_0, ep_upd_eq]), ep_sb, ep_t3_t3]
  have hcok : eh_cok 0 0 8 8 64 = true := by decide
  have hcp : va_cpy (ep_w8 (s.1 (th + 3)) (F) 8) w2 (eh_ix 0) (eh_ix 0) (eh_ix 8) = fun k => if 0 ≤ k ∧ k < 0 + 8 then ep_t8 (F) (0 + (k - 0)) else w2 k := by
    funext k
    show (if 0 ≤ k ∧ k < 0 + 8 then ep_w8 (s.1 (th + 3)) (F) 8 (0 + (k - 0)) else w2 k) = _
    by_cases hk : k < 8
    · rw [if_pos (by omega), if_pos (by omega)]; unfold ep_w8; rw [if_pos (by omega)]
    · rw [if_neg (by omega), if_neg (by omega)]
  simp only [hcok, if_true, ep_V, ep_t3_2, ep_t3_n _ _ _ _ _ (th + 3) (show th + 3 ≠ th by omega) (show th + 3 ≠ th + 1 by omega) (show th + 3 ≠ th + 2 by omega), ep_tF, hcp, ep_t3_F]
  rw [ep_t3_0, ep_upd_eq, show nI 64 + 32 = nI 96 from rfl]
  have e4 : ∀ (S : eh_F) (n n' : Int32) (f g : Nat → Int32), eh_tI (ep_t3 S th n f g) th 3 n' = ep_t3 S th n' f g := by
    intro S n n' f g
    refine Prod.ext (funext fun a => ?_) rfl
    simp only [ep_t3, eh_tI, eh_tF]
    by_cases h1 : a = th
    · subst h1; simp; funext j; by_cases hj : j = 3 <;> simp [upd, hj]
    · by_cases h2 : a = th + 1
      · subst h2; simp
      · by_cases h3 : a = th + 2
        · subst h3; simp
        · simp [h1, h2, h3]
  rw [e4, a3 _ th out o1 o2 o3 (ep_t3_1 _ _ _ _ _) (ep_t3_2 _ _ _ _ _) (by rw [ep_t3_0, ep_upd_eq]), ep_sb, ep_t3_t3, ep_t3_n _ _ _ _ _ _ o1 o2 o3, ep_tFn _ _ _ _ o4]
  rw [ep_t3_p _ _ _ _ _ _ _ (show th + 3 ≠ th by omega) (show th + 3 ≠ th + 1 by omega) (show th + 3 ≠ th + 2 by omega)]
  rw [hwds]
