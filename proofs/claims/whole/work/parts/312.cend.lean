/-! words fed, and the end -/
def ep_wds (f : Nat → Int32) (n : Nat) : List Int32 := ((List.range n).map fun i => ep_w4 (f i)).flatten
theorem ep_wds_s (f : Nat → Int32) (n : Nat) : ep_wds f (n + 1) = ep_wds f n ++ ep_w4 (f n) := by
  unfold ep_wds; rw [List.range_succ, List.map_append, List.flatten_append]; simp
theorem ep_wds_len (f : Nat → Int32) : ∀ n, (ep_wds f n).length = 4 * n
  | 0 => rfl
  | n + 1 => by rw [ep_wds_s, List.length_append, ep_wds_len f n]; rfl
theorem ep_wds_cong {f g : Nat → Int32} (n : Nat) (h : ∀ i, i < n → f i = g i) : ep_wds f n = ep_wds g n := by
  unfold ep_wds
  congr 1
  apply List.map_congr_left
  intro i hi
  rw [h i (List.mem_range.mp hi)]
theorem ep_cfeedWords {h w : Nat → Int32} {n : Int32} {st : ep_St} (hR : ep_Rc h w n st) (hk : ep_ok st) (hal : st.2.2 % 4 = 0) (f : Nat → Int32) (k : Nat) (hk0 : k < 1000) (hn : st.2.2 + 4 * k < 2 ^ 28) : ∃ h' w' n', ep_Rc h' w' n' (ep_puts st (ep_wds f k)) ∧ ∀ s th p np, p ≠ th → p ≠ th + 1 → p ≠ th + 2 → k ≤ np → np < 1000 → (∀ i, i < k → s.1 p i = f i) → s.1 (th + 1) = h → s.1 (th + 2) = w → s.1 th 3 = n → eF_9_feedWords s th p np (nI k) = some (ep_t3 s th n' h' w') := by
  have key := ep_minv0 (body := fun (a : { a : eh_F × Nat × Nat × Nat // a.2.2.1 ≠ a.2.1 ∧ a.2.2.1 ≠ a.2.1 + 1 ∧ a.2.2.1 ≠ a.2.1 + 2 ∧ k ≤ a.2.2.2 ∧ a.2.2.2 < 1000 ∧ (∀ i, i < k → a.1.1 a.2.2.1 i = f i) }) (r4 : (Int32 × eh_F) → Option (eh_F)) (t1 : Int32 × eh_F) => if t1.1 < nI k then (if t1.1 < (Int32.ofNat a.1.2.2.2) then (if eh_in t1.1 a.1.2.2.2 then Option.bind (eF_9_feedWord t1.2 a.1.2.1 (t1.2.1 a.1.2.2.1 (eh_ix t1.1))) (fun q7 => eh_V ((t1.1 + 1) : Int32) (fun x8 => r4 (x8, q7))) else none) else (some t1.2)) else (some t1.2))
    (X := (Nat → Int32) × (Nat → Int32) × Int32) (fun a i x => (nI i, ep_t3 a.1.1 a.1.2.1 x.2.2 x.1 x.2.1)) (fun g => ∃ h' w' n', ep_Rc h' w' n' (ep_puts st (ep_wds f k)) ∧ ∀ a, g a = some (ep_t3 a.1.1 a.1.2.1 n' h' w')) (fun i x => ep_Rc x.1 x.2.1 x.2.2 (ep_puts st (ep_wds f i))) k (by omega) (by
    intro i x hi hp
    left
    have hl : (ep_puts st (ep_wds f i)).2.2 = st.2.2 + 4 * i := by rw [ep_puts_len, ep_wds_len]
    obtain ⟨h', w', n', b1, b2⟩ := ep_cfeedWord hp (ep_puts_ok _ hk (by rw [ep_wds_len]; omega)) (by omega) (by omega) (f i)
    refine ⟨(h', w', n'), ?_, ?_⟩
    · rw [ep_wds_s, ep_puts_ap]; exact b1
    · intro a rec
      obtain ⟨⟨s, th, p, np⟩, g1, g2, g3, g4, g5, g6⟩ := a
      simp only at g1 g2 g3 g4 g5 g6
      have q1 : nI i < nI k := nI_lt hi (by omega)
      have q2 : nI i < Int32.ofNat np := nI_lt (by omega) (by omega)
      have q3 : eh_in (nI i) np = true := ep_in (by omega) (by omega)
      have q4 : eh_ix (nI i) = i := ep_ix (by omega)
      simp only [q1, if_true, q2, q3, q4, ep_t3_n _ _ _ _ _ _ g1 g2 g3, g6 i hi]
      rw [b2 _ th (ep_t3_1 _ _ _ _ _) (ep_t3_2 _ _ _ _ _) (by rw [ep_t3_0, ep_upd_eq]), ep_sb, ep_t3_t3]
      simp only [ep_V, nI_1]) (by
    intro x hp
    refine ⟨fun a => some (ep_t3 a.1.1 a.1.2.1 x.2.2 x.1 x.2.1), ⟨_, _, _, hp, fun a => rfl⟩, fun a rec => ?_⟩
    have q1 : ¬ nI k < nI k := nI_nlt (Nat.le_refl _) (by omega)
    simp only [q1, if_false]) (h, w, n) hR
  obtain ⟨g, ⟨h', w', n', b1, b2⟩, hg⟩ := key
  refine ⟨h', w', n', b1, fun s th p np g1 g2 g3 g4 g5 g6 e1 e2 e3 => ?_⟩
  have := hg ⟨(s, th, p, np), g1, g2, g3, g4, g5, g6⟩
  rw [b2] at this
  simp only [← e1, ← e2, ← e3, ep_t3_id] at this
  unfold eF_9_feedWords
  rw [show (0 : Int32) = nI 0 from rfl]
  exact ep_bnd this rfl
theorem ep_lshrn {x k : Nat} (hx : x < 2 ^ 63) (hk : k < 64) : eh_lshr (lN x) (nI k) = lN (x / 2 ^ k) := by
  have hs : ∀ k : Fin 64, (((nI k.val).toInt64 &&& 63).toBitVec.smod 64).toNat = k.val := by decide
  have hs' := hs ⟨k, hk⟩
  unfold eh_lshr
  apply Int64.toBitVec_inj.mp
  apply BitVec.eq_of_toNat_eq
  have hb : (lN x).toBitVec.toNat = x := by
    show (BitVec.ofNat 64 x).toNat = x
    rw [BitVec.toNat_ofNat, Nat.mod_eq_of_lt (by omega)]
  have hm : (lN x).toBitVec.msb = false := by
    rw [BitVec.msb_eq_decide, hb]; simp; omega
  rw [Int64.toBitVec_shiftRight, BitVec.sshiftRight_eq', hs', BitVec.sshiftRight_eq_of_msb_false hm, BitVec.toNat_ushiftRight, hb, Nat.shiftRight_eq_div_pow]
  show _ = (BitVec.ofNat 64 (x / 2 ^ k)).toNat
  have := Nat.div_le_self x (2 ^ k)
  rw [BitVec.toNat_ofNat, Nat.mod_eq_of_lt (by omega)]
theorem ep_l8_i {n : Nat} (hn : n < 2 ^ 28) (i : Nat) (hi : i < 8) : (eh_lshr (lN (8 * n)) (8 * (7 - nI i))).toInt32 = nI (8 * n / 2 ^ (56 - 8 * i)) := by
  have : ∀ i : Fin 8, (8 * (7 - nI i.val) : Int32) = nI (56 - 8 * i.val) := by decide
  rw [this ⟨i, hi⟩, ep_lshrn (by omega) (by simp only; omega), lN_i]
theorem ep_l8_0 {n : Nat} (hn : n < 2 ^ 28) : ep_be ((ep_l8 n).map (· &&& 255)) 0 = 0 := by
  show ((eh_shl ((eh_lshr (lN (8 * n)) (8 * (7 - nI 0))).toInt32 &&& 255) 24 ||| eh_shl ((eh_lshr (lN (8 * n)) (8 * (7 - nI 1))).toInt32 &&& 255) 16) ||| eh_shl ((eh_lshr (lN (8 * n)) (8 * (7 - nI 2))).toInt32 &&& 255) 8) ||| ((eh_lshr (lN (8 * n)) (8 * (7 - nI 3))).toInt32 &&& 255) = 0
  rw [ep_l8_i hn 0 (by decide), ep_l8_i hn 1 (by decide), ep_l8_i hn 2 (by decide), ep_l8_i hn 3 (by decide)]
  rw [show 8 * n / 2 ^ (56 - 8 * 0) = 0 from Nat.div_eq_of_lt (by omega), show 8 * n / 2 ^ (56 - 8 * 1) = 0 from Nat.div_eq_of_lt (by omega), show 8 * n / 2 ^ (56 - 8 * 2) = 0 from Nat.div_eq_of_lt (by omega), show 8 * n / 2 ^ (56 - 8 * 3) = 0 from Nat.div_eq_of_lt (by omega)]
  decide
theorem ep_l8_4 {n : Nat} (hn : n < 2 ^ 28) : ep_be ((ep_l8 n).map (· &&& 255)) 4 = nI (8 * n) := by
  show ((eh_shl ((eh_lshr (lN (8 * n)) (8 * (7 - nI 4))).toInt32 &&& 255) 24 ||| eh_shl ((eh_lshr (lN (8 * n)) (8 * (7 - nI 5))).toInt32 &&& 255) 16) ||| eh_shl ((eh_lshr (lN (8 * n)) (8 * (7 - nI 6))).toInt32 &&& 255) 8) ||| ((eh_lshr (lN (8 * n)) (8 * (7 - nI 7))).toInt32 &&& 255) = nI (8 * n)
  rw [ep_l8_i hn 4 (by decide), ep_l8_i hn 5 (by decide), ep_l8_i hn 6 (by decide), ep_l8_i hn 7 (by decide)]
  apply ep_ext
  intro i hi
  rw [ep_bit4 _ _ _ _ i hi]
  simp only [ep_bit_nI, Nat.testBit_div_two_pow]
  by_cases h1 : i < 8
  · simp [h1, hi]
  · by_cases h2 : i < 16
    · simp [h1, h2, hi, show i - 8 < 32 by omega, show i - 8 + 8 = i by omega]
    · by_cases h3 : i < 24
      · simp [h1, h2, h3, hi, show i - 16 < 32 by omega, show i - 16 + 16 = i by omega]
      · simp [h1, h2, h3, hi, show i - 24 < 32 by omega, show i - 24 + 24 = i by omega]
theorem ep_z_len (n : Nat) : (ep_z n).length = n := ep_range_len n _
theorem ep_z_getD (n i : Nat) : (ep_z n).getD i 0 = 0 := by
  by_cases h : i < n
  · unfold ep_z; simp [h]
  · exact ep_getD_o _ _ (by rw [ep_z_len]; omega)
theorem ep_z_rep (n : Nat) : ep_z n = List.replicate n 0 := by
  unfold ep_z; simp [List.map_const']
theorem ep_z_map (n : Nat) : (ep_z n).map (· &&& 255) = ep_z n := by
  rw [ep_z_rep, List.map_replicate]; rfl
theorem ep_z_add (a b : Nat) : ep_z (a + b) = ep_z a ++ ep_z b := by
  rw [ep_z_rep, ep_z_rep, ep_z_rep, List.replicate_append_replicate]
theorem ep_getD_z (p : List Int32) (n i : Nat) : (p ++ ep_z n).getD i 0 = p.getD i 0 := by
  by_cases h : i < p.length
  · exact ep_getD_l _ _ _ h
  · rw [ep_getD_r _ _ _ (by omega), ep_z_getD, ep_getD_o _ _ (by omega)]
theorem ep_be_z (p : List Int32) (n k : Nat) : ep_be (p ++ ep_z n) k = ep_be p k := by
  unfold ep_be; rw [ep_getD_z, ep_getD_z, ep_getD_z, ep_getD_z]
theorem ep_be_z0 (n k : Nat) : ep_be (ep_z n) k = 0 := by
  unfold ep_be; rw [ep_z_getD, ep_z_getD, ep_z_getD, ep_z_getD]; decide
theorem ep_l8_len (n : Nat) : (ep_l8 n).length = 8 := ep_range_len 8 _
/-- the last block -/
theorem ep_fin_lo {st : ep_St} (hk : ep_ok st) (h : st.2.1.length < 56) : ep_fin st = ep_cmp st.1 (st.2.1 ++ [128] ++ ep_z (55 - st.2.1.length) ++ (ep_l8 st.2.2).map (· &&& 255)) := by
  have hl := hk.1
  have hz : ep_zn st.2.2 = 55 - st.2.1.length := by unfold ep_zn; omega
  unfold ep_fin ep_tail
  rw [← ep_puts_1, ← ep_puts_ap, ← ep_puts_ap, hz, ep_puts_eq _ _ (by simp [ep_z_len, ep_l8_len]; omega) (by simp)]
  simp only [List.map_append, ep_z_map]
  congr 1
  rw [List.append_assoc, List.append_assoc]
  rfl
theorem ep_fin_hi {st : ep_St} (hk : ep_ok st) (h : 56 ≤ st.2.1.length) : ep_fin st = ep_cmp (ep_cmp st.1 (st.2.1 ++ [128] ++ ep_z (63 - st.2.1.length))) (ep_z 56 ++ (ep_l8 st.2.2).map (· &&& 255)) := by
  have hl := hk.1
  have hz : ep_zn st.2.2 = (63 - st.2.1.length) + 56 := by unfold ep_zn; omega
  unfold ep_fin ep_tail
  rw [hz, ep_z_add, ep_puts_ap, ← ep_puts_1, ← ep_puts_ap st, ep_puts_eq _ st (by simp [ep_z_len]; omega) (by simp), ← ep_puts_ap, ep_puts_eq _ _ (by simp [ep_z_len, ep_l8_len]) (by simp [ep_z_len, ep_l8_len])]
  simp only [List.map_append, ep_z_map]
  rw [List.append_assoc]
  rfl
def ep_w8 (f : Nat → Int32) (t : ep_T8) (n : Nat) : Nat → Int32 := fun j => if j < n then ep_t8 t j else f j
theorem ep_cclear (s : eh_F) (th k : Nat) (hk : k ≤ 16) : eF_9_clearBlockFrom s th (nI k) = some (eh_tF s (th + 2) (fun j => if k ≤ j ∧ j < 16 then 0 else s.1 (th + 2) j)) := by
  unfold eF_9_clearBlockFrom
  rw [ep_loop (fun i => (nI (k + i), eh_tF s (th + 2) (fun j => if k ≤ j ∧ j < k + i then 0 else s.1 (th + 2) j))) (16 - k) (some (eh_tF s (th + 2) (fun j => if k ≤ j ∧ j < 16 then 0 else s.1 (th + 2) j))) (ep_FU _ (by omega)) ?_ ?_ ?_]
  · rfl
  · intro i hi rec
    have q1 : ¬ nI (k + i) < 0 := nI_pos (by omega)
    have q2 : nI (k + i) < 16 := ep_lt (b := 16) (by omega) (by decide) rfl
    have q3 : eh_in (nI (k + i)) 64 = true := ep_in (by omega) (by decide)
    have q4 : eh_ix (nI (k + i)) = k + i := ep_ix (by omega)
    simp only [q1, if_false, q2, if_true, q3, q4, ep_V, ep_tFI, nI_1]
    congr 3
    funext j
    unfold upd
    show (if j = k + i then (0 : Int32) else if k ≤ j ∧ j < k + i then 0 else s.1 (th + 2) j) = _
    by_cases h : j = k + i
    · rw [if_pos h, if_pos (by omega)]
    · rw [if_neg h]
      by_cases h2 : k ≤ j ∧ j < k + i
      · rw [if_pos h2, if_pos (by omega)]
      · rw [if_neg h2, if_neg (by omega)]
  · intro rec
    have q1 : ¬ nI (k + (16 - k)) < 0 := nI_pos (by omega)
    have q2 : ¬ nI (k + (16 - k)) < 16 := ep_nlt (b := 16) (by omega) (by omega) rfl
    simp only [q1, if_false, q2]
    congr 2
    funext j
    rw [show k + (16 - k) = 16 by omega]
  · show (_, s) = (_, _)
    congr 1
    rw [show (fun j => if k ≤ j ∧ j < k + 0 then (0 : Int32) else s.1 (th + 2) j) = s.1 (th + 2) from by funext j; rw [if_neg (by omega)], ep_tFid]
theorem ep_t3_F (s : eh_F) (th : Nat) (n : Int32) (h w w' : Nat → Int32) : eh_tF (ep_t3 s th n h w) (th + 2) w' = ep_t3 s th n h w' := by
  unfold ep_t3; rw [ep_tFF]
theorem ep_t3_I (s : eh_F) (th : Nat) (n : Int32) (h w : Nat → Int32) (i : Nat) (v : Int32) : eh_tI (ep_t3 s th n h w) (th + 2) i v = ep_t3 s th n h (upd w i v) := by
  unfold ep_t3; rw [ep_tFI]
theorem ep_ctail {h w : Nat → Int32} {n : Nat} (hn : n < 2 ^ 28) {t : ep_T8} {q : List Int32} (h8 : ep_h8 h 0 = t) (hq : q.length = 56) (hw : ∀ k, k < 14 → w k = ep_be q (4 * k)) : ∃ h' w', ep_h8 h' 0 = ep_cmp t (q ++ (ep_l8 n).map (· &&& 255)) ∧ ∀ s th p, p ≠ th → p ≠ th + 1 → p ≠ th + 2 → (fun s8 : eh_F => eh_V (eh_tI s8 (th + 2) 14 (eh_ushr (s8.1 th 3) 29)) (fun s9 => eh_V (eh_tI s9 (th + 2) 15 (eh_shl (s9.1 th 3) 3)) (fun s10 => Option.bind (eF_9_compress s10 th) (fun q11 => Option.bind (eh_loop (fun (r15 : (Int32 × eh_F) → Option (eh_F)) (t12 : Int32 × eh_F) => if t12.1 < 8 then (if t12.1 < (Int32.ofNat 8) then (if eh_in t12.1 8 then if eh_in t12.1 8 then eh_V (eh_tI t12.2 p (eh_ix t12.1) (t12.2.1 (th + 1) (eh_ix t12.1))) (fun s18 => eh_V ((t12.1 + 1) : Int32) (fun x19 => r15 (x19, s18))) else none else none) else (some t12.2)) else (some t12.2)) eh_FU (0, q11)) (fun (e13 : eh_F) => some e13))))) (ep_t3 s th (nI n) h w) = some (eh_tF (ep_t3 s th (nI n) h' w') p (ep_w8 (s.1 p) (ep_cmp t (q ++ (ep_l8 n).map (· &&& 255))) 8)) := by
  have e14 : eh_ushr (nI n) 29 = 0 := by
    rw [show (29 : Int32) = nI 29 from rfl, ep_ushrn (by omega) (by decide), Nat.div_eq_of_lt (by omega)]; rfl
  have e15 : eh_shl (nI n) 3 = nI (8 * n) := by
    rw [show (3 : Int32) = nI 3 from rfl, ep_shln (by decide) (by omega)]; congr 1; omega
  obtain ⟨h', w', c1, c2⟩ := ep_ccmp (W := upd (upd w 14 0) 15 (nI (8 * n))) h8 (blk := q ++ (ep_l8 n).map (· &&& 255)) (by
    intro k hk
    by_cases h15 : k = 15
    · subst h15
      rw [ep_upd_eq, show 4 * 15 = q.length + 4 by omega, ep_be_right, ep_l8_4 hn]
    · rw [ep_upd_ne h15]
      by_cases h14 : k = 14
      · subst h14
        rw [ep_upd_eq, show 4 * 14 = q.length + 0 by omega, ep_be_right, ep_l8_0 hn]
      · rw [ep_upd_ne h14, ep_be_left _ _ _ (by omega)]
        exact hw k (by omega))
  refine ⟨h', w', c1, fun s th p p1 p2 p3 => ?_⟩
  have n0 : ∀ f1 f2 : Nat → Int32, (ep_t3 s th (nI n) f1 f2).1 th 3 = nI n := fun f1 f2 => by rw [ep_t3_0, ep_upd_eq]
  simp only [ep_V, n0, e14, ep_t3_I, e15]
  rw [c2 _ th (ep_t3_1 _ _ _ _ _) (ep_t3_2 _ _ _ _ _), ep_sb, ep_t3_c]
  have hr := ep_h8_t8 c1
  generalize ep_cmp t (q ++ (ep_l8 n).map (· &&& 255)) = T at hr ⊢
  rw [ep_loop (fun i => (nI i, eh_tF (ep_t3 s th (nI n) h' w') p (ep_w8 (s.1 p) T i))) 8 (some (eh_tF (ep_t3 s th (nI n) h' w') p (ep_w8 (s.1 p) T 8))) (ep_FU _ (by decide)) ?_ ?_ ?_]
  · rfl
  · intro i hi rec
    have q1 : nI i < 8 := ep_lt (b := 8) hi (by decide) rfl
    have q2 : nI i < Int32.ofNat 8 := nI_lt hi (by decide)
    have q3 : eh_in (nI i) 8 = true := ep_in hi (by decide)
    have q4 : eh_ix (nI i) = i := ep_ix (by omega)
    have q5 : h' i = ep_t8 T i := by rw [← hr i hi, Nat.zero_add]
    simp only [q1, if_true, q2, q3, q4, ep_tFI, ep_tFn _ p (th + 1) _ (Ne.symm p2), ep_t3_1, q5, nI_1]
    congr 3
    funext j
    unfold upd ep_w8
    by_cases g : j = i
    · subst g; rw [if_pos rfl, if_pos (by omega)]
    · rw [if_neg g]
      by_cases g2 : j < i
      · rw [if_pos g2, if_pos (by omega)]
      · rw [if_neg g2, if_neg (by omega)]
  · intro rec
    have q1 : ¬ nI 8 < 8 := by decide
    simp only [q1, if_false]
  · show (_, _) = (_, _)
    congr 1
    rw [show ep_w8 (s.1 p) T 0 = (ep_t3 s th (nI n) h' w').1 p from by rw [ep_t3_n _ _ _ _ _ _ p1 p2 p3]; funext j; rfl, ep_tFid]
theorem ep_cend {h w : Nat → Int32} {n : Int32} {st : ep_St} (hR : ep_Rc h w n st) (hk : ep_ok st) : ∃ h' w', ∀ s th p, p ≠ th → p ≠ th + 1 → p ≠ th + 2 → s.1 (th + 1) = h → s.1 (th + 2) = w → s.1 th 3 = n → eF_9_end s th p 8 = some (eh_tF (ep_t3 s th n h' w') p (ep_w8 (s.1 p) (ep_fin st) 8)) := by
  obtain ⟨h1, h2, h3⟩ := hR
  subst h3
  have hlen := hk.1
  have hk2 := hk.2.1
  have hx1 : nI st.2.2 &&& 63 = nI st.2.1.length := by rw [ep_and63 (by omega), hlen]
  have hx2 : eh_shr (nI st.2.1.length) 2 = nI (st.2.1.length / 4) := by
    rw [show (2 : Int32) = nI 2 from rfl, ep_shrn (by omega) (by decide)]
  have hx3 : nI st.2.1.length &&& 3 = nI (st.2.1.length % 4) := ep_and3 (by omega)
  have hin : eh_in (nI (st.2.1.length / 4)) 64 = true := ep_in (by omega) (by decide)
  have hix : eh_ix (nI (st.2.1.length / 4)) = st.2.1.length / 4 := ep_ix (by omega)
  have hsh : (24 : Int32) - 8 * nI (st.2.1.length % 4) = nI (24 - 8 * (st.2.1.length % 4)) := by
    rw [show (8 : Int32) * nI (st.2.1.length % 4) = nI (8 * (st.2.1.length % 4)) from ep_mul (b := 8) rfl rfl, show (24 : Int32) = nI 24 from rfl, pk_sub (by omega)]
  have h0 : (nI (st.2.1.length % 4) = 0) ↔ st.2.1.length % 4 = 0 := by
    rw [show (0 : Int32) = nI 0 from rfl, nI_eq (by omega) (by decide)]
  obtain ⟨hb, hw⟩ := ep_cword h2 hk 128
  generalize hW1 : upd w (st.2.1.length / 4) (ep_be st.2.1 (4 * (st.2.1.length / 4)) ||| eh_shl 128 (nI (24 - 8 * (st.2.1.length % 4)))) = W1 at hw
  obtain ⟨W2, hW2⟩ : ∃ W2 : Nat → Int32, W2 = fun j => if st.2.1.length / 4 + 1 ≤ j ∧ j < 16 then 0 else W1 j := ⟨_, rfl⟩
  have hW2k : ∀ k, k < 16 → W2 k = ep_be (st.2.1 ++ [128]) (4 * k) := by
    intro k hk1
    rw [hW2]
    show (if st.2.1.length / 4 + 1 ≤ k ∧ k < 16 then (0 : Int32) else W1 k) = _
    by_cases g : st.2.1.length / 4 + 1 ≤ k
    · rw [if_pos ⟨g, hk1⟩, ep_be_0]
      rw [List.length_append, List.length_singleton]; omega
    · rw [if_neg (by omega)]
      exact hw k hk1 (by rw [List.length_append, List.length_singleton]; omega)
  have step : ∀ s th p, s.1 (th + 1) = h → s.1 (th + 2) = w → s.1 th 3 = nI st.2.2 → eF_9_end s th p 8 = (fun q6 : eh_F => eh_J (fun (s8 : eh_F) => eh_V (eh_tI s8 (th + 2) 14 (eh_ushr (s8.1 th 3) 29)) (fun s9 => eh_V (eh_tI s9 (th + 2) 15 (eh_shl (s9.1 th 3) 3)) (fun s10 => Option.bind (eF_9_compress s10 th) (fun q11 => Option.bind (eh_loop (fun (r15 : (Int32 × eh_F) → Option (eh_F)) (t12 : Int32 × eh_F) => if t12.1 < 8 then (if t12.1 < (Int32.ofNat 8) then (if eh_in t12.1 8 then if eh_in t12.1 8 then eh_V (eh_tI t12.2 p (eh_ix t12.1) (t12.2.1 (th + 1) (eh_ix t12.1))) (fun s18 => eh_V ((t12.1 + 1) : Int32) (fun x19 => r15 (x19, s18))) else none else none) else (some t12.2)) else (some t12.2)) eh_FU (0, q11)) (fun (e13 : eh_F) => some e13))))) (fun j7 => if 13 < nI (st.2.1.length / 4) then (Option.bind (eF_9_compress q6 th) (fun q21 => Option.bind (eF_9_clearBlockFrom q21 th 0) (fun q22 => j7 q22))) else (j7 q6))) (ep_t3 s th (nI st.2.2) h W2) := by
    intro s th p g1 g2 g3
    unfold eF_9_end
    have hcl : ∀ v, Option.bind (eF_9_clearBlockFrom (eh_tI s (th + 2) (st.2.1.length / 4) v) th (nI (st.2.1.length / 4) + 1)) = Option.bind (some (eh_tF (eh_tI s (th + 2) (st.2.1.length / 4) v) (th + 2) (fun j => if st.2.1.length / 4 + 1 ≤ j ∧ j < 16 then 0 else upd w (st.2.1.length / 4) v j))) (β := eh_F) := by
      intro v
      rw [nI_1, ep_cclear _ _ _ (by omega), ep_tI, g2]
    have hfold : eh_tF (eh_tI s (th + 2) (st.2.1.length / 4) (ep_be st.2.1 (4 * (st.2.1.length / 4)) ||| eh_shl 128 (nI (24 - 8 * (st.2.1.length % 4))))) (th + 2) W2 = ep_t3 s th (nI st.2.2) h W2 := by
      rw [← g1, ← g3]
      refine Prod.ext (funext fun a => ?_) rfl
      simp only [ep_t3, eh_tI, eh_tF]
      by_cases h1 : a = th
      · subst h1; simp; funext j; by_cases hj : j = 3 <;> simp [upd, hj]
      · by_cases h2 : a = th + 1
        · subst h2; simp
        · by_cases h3 : a = th + 2
          · subst h3; simp
          · simp [h1, h2, h3]
    have : (if st.2.1.length % 4 = 0 then (0 : Int32) else w (st.2.1.length / 4)) = ep_be st.2.1 (4 * (st.2.1.length / 4)) := hb
    by_cases hz : st.2.1.length % 4 = 0
    · rw [if_pos hz] at this
      simp only [ep_V, ep_J, g3, hx1, hx2, hx3, h0, hin, if_true, hix, g2, hz]
      rw [hz] at hsh hW1 hfold
      rw [show (0 : Int32) ||| eh_shl 128 (24 - 8 * nI 0) = ep_be st.2.1 (4 * (st.2.1.length / 4)) ||| eh_shl 128 (nI (24 - 8 * 0)) from by rw [← this, hsh], hcl, ep_sb, hW1, ← hW2, hfold, if_pos (show nI 0 = (0 : Int32) from rfl)]
    · rw [if_neg hz] at this
      simp only [ep_V, ep_J, g3, hx1, hx2, hx3, h0, hin, if_true, hix, g2, hz, if_false]
      rw [this, hsh, hcl, ep_sb, hW1, ← hW2, hfold]
  by_cases hlo : st.2.1.length < 56
  · have h13 : ¬ (13 : Int32) < nI (st.2.1.length / 4) := by
      rw [show (13 : Int32) = nI 13 from rfl]; exact nI_nlt (by omega) (by decide)
    obtain ⟨h', w', c1, c2⟩ := ep_ctail (w := W2) hk2 h1 (q := st.2.1 ++ [128] ++ ep_z (55 - st.2.1.length)) (by simp [ep_z_len]; omega) (fun k hk => by rw [ep_be_z]; exact hW2k k (by omega))
    refine ⟨h', w', fun s th p p1 p2 p3 g1 g2 g3 => ?_⟩
    rw [step s th p g1 g2 g3, ep_fin_lo hk hlo]
    simp only [ep_J, h13, if_false]
    exact c2 s th p p1 p2 p3
  · have h13 : (13 : Int32) < nI (st.2.1.length / 4) := by
      rw [show (13 : Int32) = nI 13 from rfl]; exact nI_lt (by omega) (by omega)
    obtain ⟨ha, wa, a1, a2⟩ := ep_ccmp (W := W2) h1 (blk := st.2.1 ++ [128] ++ ep_z (63 - st.2.1.length)) (fun k hk => by rw [ep_be_z]; exact hW2k k (by omega))
    obtain ⟨h', w', c1, c2⟩ := ep_ctail (w := fun j => if 0 ≤ j ∧ j < 16 then 0 else wa j) hk2 a1 (q := ep_z 56) (ep_z_len 56) (fun k hk => by rw [ep_be_z0, if_pos ⟨by omega, by omega⟩])
    refine ⟨h', w', fun s th p p1 p2 p3 g1 g2 g3 => ?_⟩
    rw [step s th p g1 g2 g3, ep_fin_hi hk (by omega)]
    simp only [ep_J, h13, if_true]
    rw [a2 _ th (ep_t3_1 _ _ _ _ _) (ep_t3_2 _ _ _ _ _), ep_sb, ep_t3_c, show (0 : Int32) = nI 0 from rfl, ep_cclear _ _ _ (by decide), ep_sb, ep_t3_2, ep_t3_F]
    exact c2 s th p p1 p2 p3
