/-! the class's streams -/
theorem ep_puts_lt (l : List Int32) : ∀ st : ep_St, st.2.1.length + l.length < 64 → ep_puts st l = (st.1, st.2.1 ++ l.map (· &&& 255), st.2.2 + l.length) := by
  induction l with
  | nil => intro st _; show st = _; simp
  | cons b l ih =>
    intro st h
    rw [List.length_cons] at h
    show ep_puts (ep_put st b) l = _
    have e : ep_put st b = (st.1, st.2.1 ++ [b &&& 255], st.2.2 + 1) := by unfold ep_put; rw [if_neg (by omega)]
    rw [e, ih _ (by simp; omega)]
    simp [Nat.add_assoc, Nat.add_comm 1]
theorem ep_puts_eq (l : List Int32) (st : ep_St) (h : st.2.1.length + l.length = 64) (h0 : 0 < l.length) : ep_puts st l = (ep_cmp st.1 (st.2.1 ++ l.map (· &&& 255)), [], st.2.2 + l.length) := by
  have hl : l ≠ [] := by intro q; rw [q] at h0; exact absurd h0 (by decide)
  obtain ⟨a, b, rfl⟩ : ∃ a b, l = a ++ [b] := ⟨l.dropLast, l.getLast hl, (List.dropLast_concat_getLast hl).symm⟩
  rw [List.length_append, List.length_singleton] at h
  rw [ep_puts_ap, ep_puts_lt a _ (by omega), ep_puts_1]
  unfold ep_put
  rw [if_pos (by simp; omega)]
  simp [Nat.add_assoc]
theorem ep_puts_cong {l l' : List Int32} (st : ep_St) (h : l.map (· &&& 255) = l'.map (· &&& 255)) : ep_puts st l = ep_puts st l' := by
  induction l generalizing l' st with
  | nil => cases l' with
    | nil => rfl
    | cons b l' => simp at h
  | cons a l ih => cases l' with
    | nil => simp at h
    | cons b l' =>
      simp only [List.map_cons, List.cons.injEq] at h
      show ep_puts (ep_put st a) l = ep_puts (ep_put st b) l'
      rw [ep_put_cong st h.1]
      exact ih _ h.2
def ep_w4 (v : Int32) : List Int32 := [eh_ushr v 24, eh_ushr v 16, eh_ushr v 8, v]
theorem ep_getD_l (p q : List Int32) (i : Nat) (h : i < p.length) : (p ++ q).getD i 0 = p.getD i 0 := by
  simp only [List.getD_eq_getElem?_getD]; rw [List.getElem?_append_left h]
theorem ep_getD_r (p q : List Int32) (i : Nat) (h : p.length ≤ i) : (p ++ q).getD i 0 = q.getD (i - p.length) 0 := by
  simp only [List.getD_eq_getElem?_getD]; rw [List.getElem?_append_right h]
theorem ep_getD_o (p : List Int32) (i : Nat) (h : p.length ≤ i) : p.getD i 0 = 0 := by
  simp only [List.getD_eq_getElem?_getD]; rw [List.getElem?_eq_none h]; rfl
theorem ep_be_left (p q : List Int32) (k : Nat) (h : k + 4 ≤ p.length) : ep_be (p ++ q) k = ep_be p k := by
  unfold ep_be; rw [ep_getD_l _ _ _ (by omega), ep_getD_l _ _ _ (by omega), ep_getD_l _ _ _ (by omega), ep_getD_l _ _ _ (by omega)]
theorem ep_be_right (p q : List Int32) (k : Nat) : ep_be (p ++ q) (p.length + k) = ep_be q k := by
  unfold ep_be; rw [ep_getD_r _ _ _ (by omega), ep_getD_r _ _ _ (by omega), ep_getD_r _ _ _ (by omega), ep_getD_r _ _ _ (by omega)]
  rw [show p.length + k - p.length = k by omega, show p.length + k + 1 - p.length = k + 1 by omega, show p.length + k + 2 - p.length = k + 2 by omega, show p.length + k + 3 - p.length = k + 3 by omega]
theorem ep_sh8 : (8 : Int32) = nI 8 := rfl
theorem ep_sh16 : (16 : Int32) = nI 16 := rfl
theorem ep_sh24 : (24 : Int32) = nI 24 := rfl
/-- bits of a word made of four bytes -/
theorem ep_bit4 (a b c d : Int32) (i : Nat) (hi : i < 32) : ep_bit (((eh_shl (a &&& 255) 24 ||| eh_shl (b &&& 255) 16) ||| eh_shl (c &&& 255) 8) ||| (d &&& 255)) i = if i < 8 then ep_bit d i else if i < 16 then ep_bit c (i - 8) else if i < 24 then ep_bit b (i - 16) else ep_bit a (i - 24) := by
  rw [ep_sh8, ep_sh16, ep_sh24]
  simp only [ep_bit_or, ep_bit_and, ep_bit_shl _ (show 24 < 32 by decide) i hi, ep_bit_shl _ (show 16 < 32 by decide) i hi, ep_bit_shl _ (show 8 < 32 by decide) i hi, ep_bit_255]
  by_cases h1 : i < 8
  · simp [h1, show ¬ 24 ≤ i by omega, show ¬ 16 ≤ i by omega, show ¬ 8 ≤ i by omega]
  · by_cases h2 : i < 16
    · simp [h1, h2, show ¬ 24 ≤ i by omega, show ¬ 16 ≤ i by omega, show 8 ≤ i by omega, show i - 8 < 8 by omega]
    · by_cases h3 : i < 24
      · simp [h1, h2, h3, show ¬ 24 ≤ i by omega, show 16 ≤ i by omega, show ¬ i - 8 < 8 by omega, show i - 16 < 8 by omega]
      · simp [h1, h2, h3, show 24 ≤ i by omega, show ¬ i - 8 < 8 by omega, show ¬ i - 16 < 8 by omega, show i - 24 < 8 by omega]
theorem ep_be_w4 (v : Int32) : ep_be ((ep_w4 v).map (· &&& 255)) 0 = v := by
  show ((eh_shl (eh_ushr v 24 &&& 255) 24 ||| eh_shl (eh_ushr v 16 &&& 255) 16) ||| eh_shl (eh_ushr v 8 &&& 255) 8) ||| (v &&& 255) = v
  apply ep_ext
  intro i hi
  rw [ep_bit4 _ _ _ _ i hi, ep_sh8, ep_sh16, ep_sh24, ep_bit_ushr _ (by decide), ep_bit_ushr _ (by decide), ep_bit_ushr _ (by decide)]
  by_cases h1 : i < 8
  · rw [if_pos h1]
  · by_cases h2 : i < 16
    · rw [if_neg h1, if_pos h2]; congr 1; omega
    · by_cases h3 : i < 24
      · rw [if_neg h1, if_neg h2, if_pos h3]; congr 1; omega
      · rw [if_neg h1, if_neg h2, if_neg h3]; congr 1; omega
def ep_flip (x : Int32) : Int32 := ((eh_shl x 24 ||| eh_shl (x &&& 65280) 8) ||| (eh_ushr x 8 &&& 65280)) ||| eh_ushr x 24
theorem ep_bit_65280 (i : Nat) (hi : i < 32) : ep_bit 65280 i = decide (8 ≤ i ∧ i < 16) := by
  have : ∀ i : Fin 32, ep_bit 65280 i.val = decide (8 ≤ i.val ∧ i.val < 16) := by decide
  exact this ⟨i, hi⟩
theorem ep_bit_flip (x : Int32) (i : Nat) (hi : i < 32) : ep_bit (ep_flip x) i = if i < 8 then ep_bit x (i + 24) else if i < 16 then ep_bit x (i + 8) else if i < 24 then ep_bit x (i - 8) else ep_bit x (i - 24) := by
  unfold ep_flip
  rw [ep_sh8, ep_sh24]
  simp only [ep_bit_or, ep_bit_and, ep_bit_shl _ (show 24 < 32 by decide) i hi, ep_bit_shl _ (show 8 < 32 by decide) i hi, ep_bit_ushr _ (show 8 < 32 by decide), ep_bit_ushr _ (show 24 < 32 by decide), ep_bit_65280 i hi, ep_bit_65280 (i - 8) (by omega)]
  by_cases h1 : i < 8
  · simp [h1, show ¬ 24 ≤ i by omega, show ¬ 8 ≤ i by omega]
  · by_cases h2 : i < 16
    · simp [h1, h2, show ¬ 24 ≤ i by omega, show 8 ≤ i by omega, show ¬ 8 ≤ i - 8 by omega, ep_bit_ge x (show 32 ≤ i + 24 by omega)]
    · by_cases h3 : i < 24
      · simp [h1, h2, h3, show ¬ 24 ≤ i by omega, show 8 ≤ i by omega, show 8 ≤ i - 8 by omega, show i - 8 < 16 by omega, ep_bit_ge x (show 32 ≤ i + 24 by omega)]
      · simp [h1, h2, h3, show 24 ≤ i by omega, show 8 ≤ i by omega, show ¬ i - 8 < 16 by omega, ep_bit_ge x (show 32 ≤ i + 24 by omega)]
theorem ep_w4_flip (v : Int32) : ((List.range 4).map fun i => eh_shr v (nI (8 * i))).map (· &&& 255) = (ep_w4 (ep_flip v)).map (· &&& 255) := by
  show [eh_shr v (nI (8 * 0)) &&& 255, eh_shr v (nI (8 * 1)) &&& 255, eh_shr v (nI (8 * 2)) &&& 255, eh_shr v (nI (8 * 3)) &&& 255] = [eh_ushr (ep_flip v) 24 &&& 255, eh_ushr (ep_flip v) 16 &&& 255, eh_ushr (ep_flip v) 8 &&& 255, ep_flip v &&& 255]
  rw [ep_sh8, ep_sh16, ep_sh24]
  congr 1
  · rw [ep_b8]; intro i hi
    rw [ep_bit_shr _ (by decide) _ (by omega), ep_bit_ushr _ (by decide), ep_bit_flip _ _ (by omega)]
    simp [show i + 8 * 0 < 32 by omega, show ¬ 32 ≤ i by omega, show ¬ i + 24 < 8 by omega, show ¬ i + 24 < 16 by omega, show ¬ i + 24 < 24 by omega]
  congr 1
  · rw [ep_b8]; intro i hi
    rw [ep_bit_shr _ (by decide) _ (by omega), ep_bit_ushr _ (by decide), ep_bit_flip _ _ (by omega)]
    simp [show i + 8 * 1 < 32 by omega, show i + 8 < 32 by omega, show ¬ i + 16 < 8 by omega, show ¬ i + 16 < 16 by omega, show i + 16 < 24 by omega]
  congr 1
  · rw [ep_b8]; intro i hi
    rw [ep_bit_shr _ (by decide) _ (by omega), ep_bit_ushr _ (by decide), ep_bit_flip _ _ (by omega)]
    simp [show i + 8 * 2 < 32 by omega, show i + 16 < 32 by omega, show ¬ i + 8 < 8 by omega, show i + 8 < 16 by omega]
  congr 1
  rw [ep_b8]; intro i hi
  rw [ep_bit_shr _ (by decide) _ (by omega), ep_bit_flip _ _ (by omega)]
  simp [show i + 8 * 3 < 32 by omega, show i + 24 < 32 by omega, hi]
def ep_t3 (s : eh_F) (th : Nat) (n : Int32) (f1 f2 : Nat → Int32) : eh_F := eh_tF (eh_tF (eh_tI s th 3 n) (th + 1) f1) (th + 2) f2
theorem ep_ccmp {h W : Nat → Int32} {t : ep_T8} {blk : List Int32} (h8 : ep_h8 h 0 = t) (hw : ∀ k, k < 16 → W k = ep_be blk (4 * k)) : ∃ h' w', ep_h8 h' 0 = ep_cmp t blk ∧ ∀ s th, s.1 (th + 1) = h → s.1 (th + 2) = W → eF_9_compress s th = some (eh_tF (eh_tF s (th + 2) w') (th + 1) h') := by
  obtain ⟨w', hw'⟩ : ∃ w', w' = ep_exp 48 W := ⟨_, rfl⟩
  obtain ⟨T, hT⟩ : ∃ T, T = ep_rds 64 w' (ep_h8 h 0) := ⟨_, rfl⟩
  refine ⟨ep_add8 h 0 T, w', ?_, ?_⟩
  · rw [ep_h8_add8, h8]
    have hc : T = ep_rds 64 (ep_exp 48 (fun w => ep_be blk (4 * w))) (ep_h8 h 0) := by
      rw [hT, hw']
      apply ep_rds_congr
      intro k hk
      exact ep_exp_congr hw 48 k (by omega)
    rw [hc, h8]
    rfl
  · intro s th h1 h2
    rw [ep_compress, h1, h2, ← hw', ← hT]
theorem ep_cbegin : ∃ f : (Nat → Int32) → Nat → Int32, (∀ h w, ep_Rc (f h) w 0 ep_st0) ∧ ∀ s th, eF_9_begin s th = some (eh_tI (eh_tF s (th + 1) (f (s.1 (th + 1)))) th 3 0) := by
  refine ⟨fun h => va_cpy (eh_tt 0) h 0 0 8, fun h w => ⟨?_, fun k _ hk => absurd hk (by simp [ep_st0]), rfl⟩, fun s th => rfl⟩
  simp [ep_h8, va_cpy, ep_st0]
theorem ep_t3_b (s : eh_F) (th : Nat) (n : Int32) (f : Nat → Int32) : eh_tI (eh_tF s (th + 1) f) th 3 n = ep_t3 s th n f (s.1 (th + 2)) := by
  refine Prod.ext (funext fun a => ?_) rfl
  simp only [ep_t3, eh_tI, eh_tF]
  by_cases h1 : a = th
  · subst h1; simp
  · by_cases h2 : a = th + 1
    · subst h2; simp
    · by_cases h3 : a = th + 2
      · subst h3; simp
      · simp [h1, h2, h3]
theorem ep_t3_w (s : eh_F) (th i : Nat) (n v : Int32) (h w : Nat → Int32) (hw : s.1 (th + 2) = w) (hh : s.1 (th + 1) = h) : eh_tI (eh_tI s (th + 2) i v) th 3 n = ep_t3 s th n h (upd w i v) := by
  subst hw; subst hh
  refine Prod.ext (funext fun a => ?_) rfl
  simp only [ep_t3, eh_tI, eh_tF]
  by_cases h1 : a = th
  · subst h1; simp
  · by_cases h2 : a = th + 1
    · subst h2; simp
    · by_cases h3 : a = th + 2
      · subst h3; simp
      · simp [h1, h2, h3]
theorem ep_t3_0 (s : eh_F) (th : Nat) (n : Int32) (f1 f2 : Nat → Int32) : (ep_t3 s th n f1 f2).1 th = upd (s.1 th) 3 n := by simp [ep_t3, eh_tI, eh_tF]
theorem ep_t3_1 (s : eh_F) (th : Nat) (n : Int32) (f1 f2 : Nat → Int32) : (ep_t3 s th n f1 f2).1 (th + 1) = f1 := by simp [ep_t3, eh_tI, eh_tF]
theorem ep_t3_2 (s : eh_F) (th : Nat) (n : Int32) (f1 f2 : Nat → Int32) : (ep_t3 s th n f1 f2).1 (th + 2) = f2 := by simp [ep_t3, eh_tI, eh_tF]
theorem ep_t3_n (s : eh_F) (th : Nat) (n : Int32) (f1 f2 : Nat → Int32) (a : Nat) (h1 : a ≠ th) (h2 : a ≠ th + 1) (h3 : a ≠ th + 2) : (ep_t3 s th n f1 f2).1 a = s.1 a := by simp [ep_t3, eh_tI, eh_tF, h1, h2, h3]
theorem ep_t3_c (s : eh_F) (th : Nat) (n : Int32) (f1 f2 h' w' : Nat → Int32) : eh_tF (eh_tF (ep_t3 s th n f1 f2) (th + 2) w') (th + 1) h' = ep_t3 s th n h' w' := by
  refine Prod.ext (funext fun a => ?_) rfl
  simp only [ep_t3, eh_tI, eh_tF]
  by_cases h1 : a = th
  · subst h1; simp
  · by_cases h2 : a = th + 1
    · subst h2; simp
    · by_cases h3 : a = th + 2
      · subst h3; simp
      · simp [h1, h2, h3]
theorem ep_t3_t3 (s : eh_F) (th : Nat) (n n' : Int32) (f1 f2 h' w' : Nat → Int32) : ep_t3 (ep_t3 s th n f1 f2) th n' h' w' = ep_t3 s th n' h' w' := by
  refine Prod.ext (funext fun a => ?_) rfl
  simp only [ep_t3, eh_tI, eh_tF]
  by_cases h1 : a = th
  · subst h1; simp; funext j; by_cases hj : j = 3 <;> simp [upd, hj]
  · by_cases h2 : a = th + 1
    · subst h2; simp
    · by_cases h3 : a = th + 2
      · subst h3; simp
      · simp [h1, h2, h3]
theorem ep_t3_id (s : eh_F) (th : Nat) : ep_t3 s th (s.1 th 3) (s.1 (th + 1)) (s.1 (th + 2)) = s := by
  refine Prod.ext (funext fun a => ?_) rfl
  simp only [ep_t3, eh_tI, eh_tF]
  by_cases h1 : a = th
  · subst h1; simp; funext j; by_cases hj : j = 3 <;> simp [upd, hj]
  · by_cases h2 : a = th + 1
    · subst h2; simp
    · by_cases h3 : a = th + 2
      · subst h3; simp
      · simp [h1, h2, h3]
