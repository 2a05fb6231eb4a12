/-! bytes read and written for a thread -/
theorem ep_nw1 (X : Nat → Int32) (q : Nat) {v v' : Int32} (h : v &&& 255 = v' &&& 255) : ep_nw X q 1 v = ep_nw X q 1 v' := by
  unfold ep_nw
  refine congrArg (upd X (q / 4)) ?_
  congr 1
  refine ep_ext fun i hi => ?_
  rw [ep_bit_and, ep_bit_and, ep_bit_mask (n := 1) (Or.inl rfl) (Nat.mod_one q) i hi, ep_bit_shl _ (by omega) i hi, ep_bit_shl _ (by omega) i hi]
  by_cases z : 8 * (q % 4) ≤ i ∧ i < 8 * (q % 4) + 8 * 1
  · rw [ep_b8.mp h (i - 8 * (q % 4)) (by omega)]
  · simp only [z, decide_false, Bool.and_false]
theorem ep_csF1 {N : Nat} {c : ep_C} {m : ep_M} (hR : ep_R N c m) {q : Nat} (hq : q < 131072) {v v' : Int32} (h : v &&& 255 = v' &&& 255) (th : Nat) (m0 : ep_M) : eF_5_storeFor (ep_mk c m0) th (nI q) v 1 = eF_5_storeFor (ep_mk c m0) th (nI q) v' 1 := by
  have e1 : ∀ w, eF_6_store (ep_mk c m0) (nI q) w 1 = some (ep_mk (ep_c2 c (ep_nw (c.1 9) q 1 w) (ep_clr (c.1 11) (nI (q / 4)))) m0) := fun w => by
    have := ep_cstore c (c.1 9) (c.1 11) (n := 1) hq (Or.inl rfl) w m0
    rw [ep_c2_id] at this
    exact this
  unfold eF_5_storeFor
  rw [e1 v, e1 v', ep_nw1 (c.1 9) q h]
  simp only [ep_J, if_neg (show ¬ (1 : Int32) = 4 by decide), if_neg (show ¬ (1 : Int32) = 2 by decide), h]
theorem ep_storeFor1 {N : Nat} {c : ep_C} {m : ep_M} (hR : ep_R N c m) (hN : N < 2 ^ 28) {q h t e : Nat} (ho : ep_On m h t e) (hq : q < 131072) {v v' : Int32} (hv : v &&& 255 = v' &&& 255) : ∃ c' m', (∀ m0, eF_5_storeFor (ep_mk c m0) (eh_fp (nI t)) (nI q) v 1 = some (ep_mk c' m0)) ∧ (∀ c0, eF_12_storeAt (ep_mk c0 m) (nI h) (nI q) 1 v' = some (ep_mk c0 m')) ∧ ep_W (N + 1) c m c' m' := by
  obtain ⟨c', m', a, b, d⟩ := ep_storeFor hR hN ho (n := 1) (Or.inl rfl) (Nat.mod_one q) hq v'
  exact ⟨c', m', fun m0 => (ep_csF1 hR hq hv _ m0).trans (a m0), b, d⟩
theorem ep_bw_byte (b : Nat → Int32) (o k : Nat) : eh_ushr (ep_bw b (o + 4 * (k / 4))) (nI (24 - 8 * (k % 4))) &&& 255 = b (o + k) &&& 255 := by
  rw [ep_b8]
  intro i hi
  rw [ep_bit_ushr _ (by omega), ep_bit_bw _ _ _ (by omega)]
  have : k % 4 = 0 ∨ k % 4 = 1 ∨ k % 4 = 2 ∨ k % 4 = 3 := by omega
  rcases this with z | z | z | z
  · rw [z, if_neg (by omega), if_neg (by omega), if_neg (by omega), show o + 4 * (k / 4) = o + k by omega]
    congr 1
  · rw [z, if_neg (by omega), if_neg (by omega), if_pos (by omega), show o + 4 * (k / 4) + 1 = o + k by omega]
    congr 1
  · rw [z, if_neg (by omega), if_pos (by omega), show o + 4 * (k / 4) + 2 = o + k by omega]
    congr 1
  · rw [z, if_pos (by omega), show o + 4 * (k / 4) + 3 = o + k by omega]
    congr 1
theorem ep_cw_o (c : ep_C) (X Y f : Nat → Int32) (v : Int32) (k : Nat) (hk : k ≠ 1 ∧ k ≠ 9 ∧ k ≠ 11 ∧ k ≠ 38) : (ep_cw c X Y f v).1 k = c.1 k := by
  obtain ⟨a, b, d, e⟩ := hk
  simp [ep_cw, ep_uf, a, b, d, e]
theorem ep_mw_o (m : ep_M) (X Y f : Nat → Int32) (v : Int32) (k : Nat) (hk : k ≠ 127 ∧ k ≠ 128 ∧ k ≠ 147 ∧ k ≠ 173) : (ep_mw m X Y f v).1 k = m.1 k := by
  obtain ⟨a, b, d, e⟩ := hk
  simp [ep_mw, ep_uf, a, b, d, e]
theorem ep_write_ {N : Nat} {c : ep_C} {m : ep_M} (hR : ep_R N c m) {n : Nat} (hN : N + n < 2 ^ 28) {h t e : Nat} (ho : ep_On m h t e) (addr : Int32) (hn : n ≤ 128) (hu : ∀ k, k < n → ep_u addr + k < 131072) (p np pm npm off : Nat) (f : Nat → Int32) (hrd : ∀ X Y g v m0, (ep_mk (ep_cw c X Y g v) m0).1 p = f) (hnp : n ≤ 4 * np ∧ np < 1000) (hpm : 127 < pm ∧ pm ≠ 128 ∧ pm ≠ 147 ∧ pm ≠ 173) (hin : off + n ≤ npm) (hnpm : npm < 1000000) (hb : ∀ k, k < n → eh_ushr (f (k / 4)) (nI (24 - 8 * (k % 4))) &&& 255 = m.1 pm (off + k) &&& 255) : ∃ c' m', (∀ m0, eF_3_write (ep_mk c m0) (eh_fp (nI t)) addr p np (nI n) = some (ep_mk c' m0)) ∧ (∀ c0, eF_12_writeTo (ep_mk c0 m) (nI h) addr pm npm (nI off) (nI n) = some (ep_mk c0 m')) ∧ ep_W (N + n) c m c' m' := by
  have key := ep_lock (B1 := fun (r4 : (Int32 × eh_F) → Option (eh_F)) (t1 : Int32 × eh_F) => if t1.1 < nI n then (if (t1.1 / 4) < (Int32.ofNat np) then (if eh_in (t1.1 / 4) np then Option.bind (eF_5_storeFor t1.2 (eh_fp (nI t)) (addr + t1.1) ((eh_ushr (t1.2.1 p (eh_ix (t1.1 / 4))) (24 - (8 * (t1.1 &&& 3)))) &&& 255) 1) (fun q7 => eh_V ((t1.1 + 1) : Int32) (fun x8 => r4 (x8, q7))) else none) else (some t1.2)) else (some t1.2)) (B2 := fun (r4 : (Int32 × eh_F) → Option (eh_F)) (t1 : Int32 × eh_F) => if t1.1 < nI n then (if eh_in (nI off + t1.1) npm then Option.bind (eF_12_storeAt t1.2 (nI h) (addr + t1.1) 1 (t1.2.1 pm (eh_ix (nI off + t1.1)))) (fun q6 => eh_V ((t1.1 + 1) : Int32) (fun x7 => r4 (x7, q6))) else none) else (some t1.2)) (fun i s => (nI i, s)) (fun i s => (nI i, s)) (fun i c' m' => ep_W (N + i) c m c' m') n (by omega) ?_ ?_ (ep_W_rf hR)
  · obtain ⟨c', m', hW, l1, l2⟩ := key
    refine ⟨c', m', fun m0 => ?_, fun c0 => ?_, hW⟩
    · unfold eF_3_write
      exact ep_bnd (l1 m0) rfl
    · unfold eF_12_writeTo
      exact ep_bnd (l2 c0) rfl
  · intro i c1 m1 hi hW
    have ho1 := ep_W_On hW ho
    have hui := hu i hi
    obtain ⟨⟨X, Y, g, v, hc1⟩, ⟨X', Y', g', v', hm1⟩, hR1⟩ := hW
    have hW : ep_W (N + i) c m c1 m1 := ⟨⟨X, Y, g, v, hc1⟩, ⟨X', Y', g', v', hm1⟩, hR1⟩
    have hmp : m1.1 pm = m.1 pm := by rw [hm1]; exact ep_mw_o _ _ _ _ _ _ ⟨by omega, hpm.2⟩
    have hcp : ∀ m0, (ep_mk c1 m0).1 p = f := fun m0 => by rw [hc1]; exact hrd X Y g v m0
    have hv : (eh_ushr (f (i / 4)) (nI (24 - 8 * (i % 4))) &&& 255) &&& 255 = m1.1 pm (off + i) &&& 255 := by rw [ep_255, hmp]; exact hb i hi
    obtain ⟨c2, m2, a, b, d⟩ := ep_storeFor1 hR1 (by omega) ho1 hui hv
    refine ⟨c2, m2, ep_W_tr hW d, fun m0 rec => ?_, fun c0 rec => ?_⟩
    · have z1 : nI i / 4 = nI (i / 4) := ep_divn (a := i) (d := 4) (by omega) (by decide) (by decide)
      have z2 : nI (i / 4) < Int32.ofNat np := nI_lt (b := np) (by omega) (by omega)
      have z3 : (24 : Int32) - 8 * (nI i &&& 3) = nI (24 - 8 * (i % 4)) := by
        rw [ep_and3 (by omega), ep_mul (a := i % 4) (b := 8) (y := 8) rfl rfl]
        exact pk_sub (a := 24) (by omega)
      show (if nI i < nI n then _ else _) = _
      rw [if_pos (nI_lt hi (by omega)), z1, if_pos z2, if_pos (ep_in (show i / 4 < np by omega) (by omega)), show eh_ix (nI (i / 4)) = i / 4 from ep_ix (by omega), hcp, z3, ep_addu, a m0, ep_sb, ep_V, nI_1]
    · show (if nI i < nI n then _ else _) = _
      rw [if_pos (nI_lt hi (by omega)), nI_add, if_pos (ep_in (show off + i < npm by omega) (by omega)), show eh_ix (nI (off + i)) = off + i from ep_ix (by omega), ep_rM _ _ pm (by omega), ep_addu, b c0, ep_sb, ep_V, nI_1]
  · intro c1 m1 _
    refine ⟨fun m0 rec => ?_, fun c0 rec => ?_⟩
    · show (if nI n < nI n then _ else _) = _
      rw [if_neg (nI_nlt (Nat.le_refl _) (by omega))]
    · show (if nI n < nI n then _ else _) = _
      rw [if_neg (nI_nlt (Nat.le_refl _) (by omega))]
/-- words out of bytes -/
def ep_pw (b : Nat → Int32) (o : Nat) (x : Int32) : Nat → Int32
  | 0 => x
  | r + 1 => eh_shl (ep_pw b o x r) 8 ||| (b (o + r) &&& 255)
theorem ep_pw4 (b : Nat → Int32) (o : Nat) (x : Int32) : ep_pw b o x 4 = ep_bw b o := by
  refine ep_ext fun i hi => ?_
  have s8 : ∀ (y : Int32) (j : Nat), j < 32 → ep_bit (eh_shl y 8) j = (decide (8 ≤ j) && ep_bit y (j - 8)) := fun y j hj => ep_bit_shl y (k := 8) (by decide) j hj
  have e1 : ep_pw b o x 4 = eh_shl (eh_shl (eh_shl (eh_shl x 8 ||| (b (o + 0) &&& 255)) 8 ||| (b (o + 1) &&& 255)) 8 ||| (b (o + 2) &&& 255)) 8 ||| (b (o + 3) &&& 255) := rfl
  rw [e1, ep_bit_bw _ _ _ hi]
  by_cases h1 : i < 8
  · rw [if_pos h1, ep_bit_or, s8 _ _ hi, ep_bit_and, ep_bit_255]
    simp [h1, show ¬ 8 ≤ i by omega]
  · rw [if_neg h1, ep_bit_or, s8 _ _ hi, ep_bit_and, ep_bit_255, ep_bit_or, s8 _ _ (by omega), ep_bit_and, ep_bit_255]
    by_cases h2 : i < 16
    · rw [if_pos h2]
      simp [h1, show 8 ≤ i by omega, show ¬ 8 ≤ i - 8 by omega, show i - 8 < 8 by omega]
    · rw [if_neg h2, ep_bit_or, s8 _ _ (by omega), ep_bit_and, ep_bit_255]
      by_cases h3 : i < 24
      · rw [if_pos h3]
        simp [h1, show 8 ≤ i by omega, show 8 ≤ i - 8 by omega, show ¬ i - 8 < 8 by omega, show ¬ 8 ≤ i - 8 - 8 by omega, show i - 8 - 8 < 8 by omega, show i - 8 - 8 = i - 16 by omega, show ¬ 8 ≤ i - 16 by omega, show i - 16 < 8 by omega]
      · rw [if_neg h3, ep_bit_or, s8 _ _ (by omega), ep_bit_and, ep_bit_255]
        simp [h1, show 8 ≤ i by omega, show 8 ≤ i - 8 by omega, show ¬ i - 8 < 8 by omega, show 8 ≤ i - 8 - 8 by omega, show ¬ i - 8 - 8 < 8 by omega, show ¬ 8 ≤ i - 8 - 8 - 8 by omega, show i - 8 - 8 - 8 < 8 by omega, show i - 8 - 8 - 8 = i - 24 by omega, show ¬ 8 ≤ i - 24 by omega, show i - 24 < 8 by omega]
def ep_rd (b old : Nat → Int32) (u fr i : Nat) : Nat → Int32 := fun j => if j = fr + i / 4 then ep_pw b (u + 4 * (i / 4)) (old j) (i % 4) else if fr ≤ j ∧ j < fr + i / 4 then ep_bw b (u + 4 * (j - fr)) else old j
theorem ep_rd_0 (b old : Nat → Int32) (u fr : Nat) : ep_rd b old u fr 0 = old := by
  funext j
  unfold ep_rd
  by_cases h : j = fr + 0 / 4
  · rw [if_pos h]; rfl
  · rw [if_neg h, if_neg (by omega)]
theorem ep_rd_s (b old : Nat → Int32) (u fr i : Nat) : upd (ep_rd b old u fr i) (fr + i / 4) (eh_shl (ep_rd b old u fr i (fr + i / 4)) 8 ||| (b (u + i) &&& 255)) = ep_rd b old u fr (i + 1) := by
  have e0 : ep_rd b old u fr i (fr + i / 4) = ep_pw b (u + 4 * (i / 4)) (old (fr + i / 4)) (i % 4) := by
    unfold ep_rd; rw [if_pos rfl]
  have e1 : eh_shl (ep_pw b (u + 4 * (i / 4)) (old (fr + i / 4)) (i % 4)) 8 ||| (b (u + i) &&& 255) = ep_pw b (u + 4 * (i / 4)) (old (fr + i / 4)) (i % 4 + 1) := by
    show _ = eh_shl _ 8 ||| (b (u + 4 * (i / 4) + i % 4) &&& 255)
    rw [show u + 4 * (i / 4) + i % 4 = u + i by omega]
  rw [e0, e1]
  funext j
  by_cases h3 : i % 4 = 3
  · have d1 : (i + 1) / 4 = i / 4 + 1 := by omega
    have d2 : (i + 1) % 4 = 0 := by omega
    rw [h3, ep_pw4]
    unfold upd
    by_cases h : j = fr + i / 4
    · rw [if_pos h]
      unfold ep_rd
      rw [if_neg (by omega), if_pos (by omega), show j - fr = i / 4 by omega]
    · rw [if_neg h]
      unfold ep_rd
      rw [if_neg h, d1, d2]
      by_cases h5 : j = fr + (i / 4 + 1)
      · rw [if_pos h5, if_neg (by omega)]; rfl
      · rw [if_neg h5]
        by_cases h6 : fr ≤ j ∧ j < fr + i / 4
        · rw [if_pos h6, if_pos (by omega)]
        · rw [if_neg h6, if_neg (by omega)]
  · have d1 : (i + 1) / 4 = i / 4 := by omega
    have d2 : (i + 1) % 4 = i % 4 + 1 := by omega
    unfold upd
    by_cases h : j = fr + i / 4
    · rw [if_pos h]
      unfold ep_rd
      rw [d1, d2, if_pos h, h]
    · rw [if_neg h]
      unfold ep_rd
      rw [d1, d2, if_neg h, if_neg h]
theorem ep_rd_n (b old : Nat → Int32) (u fr k : Nat) : ep_rd b old u fr (4 * k) = ep_in_ old fr k fun j => ep_bw b (u + 4 * j) := by
  funext j
  unfold ep_rd ep_in_
  rw [show 4 * k / 4 = k by omega, show 4 * k % 4 = 0 by omega]
  by_cases h : j = fr + k
  · rw [if_pos h, if_neg (by omega)]; rfl
  · rw [if_neg h]
theorem ep_cbyte2 {c : ep_C} {b : Nat → Int32} (hm : ep_Gm (c.1 9) b) {q : Nat} (hq : q < 131072) (m0 : ep_M) : eF_6_byteAt (ep_mk c m0) (nI q) = some (b q &&& 255) := by
  unfold eF_6_byteAt
  rw [ep_cwordAt c hq, ep_sb, show c.1 9 = _ from hm]
  show some ((eh_ushr (ep_lw b (4 * (q / 4))) (8 * (nI q &&& 3))) &&& 255) = _
  rw [ep_and3 (by omega), show (8 : Int32) * nI (q % 4) = nI (8 * (q % 4)) from ep_mul (b := 8) rfl rfl]
  congr 1
  rw [ep_b8]
  intro i hi
  rw [ep_bit_ushr _ (by omega), ep_bit_lw _ _ _ (by omega)]
  rw [show 4 * (q / 4) + (i + 8 * (q % 4)) / 8 = q by omega, show (i + 8 * (q % 4)) % 8 = i by omega]
/-- the class's read into a row -/
theorem ep_cread {c : ep_C} {m : ep_M} (addr : Int32) {k : Nat} (hk : k ≤ 32) (hu : ∀ i, i < 4 * k → ep_u addr + i < 131072) (p np fr : Nat) (U : (Nat → Int32) → ep_C) (hrd : ∀ g m0, (ep_mk (U g) m0).1 p = g) (hwr : ∀ g m0 j v, eh_tI (ep_mk (U g) m0) p j v = ep_mk (U (upd g j v)) m0) (hU : ∀ g, ep_Gm ((U g).1 9) (m.1 128)) {old : Nat → Int32} (h0 : U old = c) (hin : fr + k ≤ np) (hnp : np < 1000) (m0 : ep_M) : eF_3_read (ep_mk c m0) addr (nI (4 * k)) p np (nI fr) = some (ep_mk (U (ep_in_ old fr k fun j => ep_bw (m.1 128) (ep_u addr + 4 * j))) m0) := by
  unfold eF_3_read
  refine ep_lp (fun i => (nI i, ep_mk (U (ep_rd (m.1 128) old (ep_u addr) fr i)) m0)) (4 * k) (ep_mk (U (ep_in_ old fr k fun j => ep_bw (m.1 128) (ep_u addr + 4 * j))) m0) (by omega) ?_ ?_ ?_ rfl
  · show _ = (nI 0, ep_mk (U (ep_rd (m.1 128) old (ep_u addr) fr 0)) m0)
    rw [ep_rd_0, h0]
    rfl
  · intro i hi rec
    have z1 : nI i / 4 = nI (i / 4) := ep_divn (a := i) (d := 4) (by omega) (by decide) (by decide)
    have z2 : nI (fr + i / 4) < Int32.ofNat np := nI_lt (b := np) (by omega) (by omega)
    have z3 : eh_in (nI (fr + i / 4)) np = true := ep_in (by omega) (by omega)
    show (if nI i < nI (4 * k) then _ else _) = _
    rw [if_pos (nI_lt hi (by omega)), z1, nI_add, if_pos z2, ep_V, if_pos z3, ep_addu, ep_cbyte2 (hU _) (hu i hi), ep_sb, if_pos z3, ep_V, ep_V, show eh_ix (nI (fr + i / 4)) = fr + i / 4 from ep_ix (by omega), hrd, hwr, ep_rd_s, nI_1]
  · intro rec
    show (if nI (4 * k) < nI (4 * k) then _ else _) = _
    rw [if_neg (nI_nlt (Nat.le_refl _) (by omega)), ep_rd_n]
