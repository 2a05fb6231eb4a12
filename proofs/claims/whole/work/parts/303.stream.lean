/-! a stream of bytes being hashed: what both sides hold of it -/
theorem ep_exp_congr {f g : Nat → Int32} (h : ∀ k, k < 16 → f k = g k) : ∀ n k, k < 16 + n → ep_exp n f k = ep_exp n g k
  | 0, k, hk => h k (by omega)
  | n + 1, k, hk => by
    have ih := ep_exp_congr h n
    simp only [ep_exp]
    unfold upd
    by_cases hk2 : k = n + 16
    · rw [if_pos hk2, if_pos hk2, ih n (by omega), ih (n + 1) (by omega), ih (n + 9) (by omega), ih (n + 14) (by omega)]
    · rw [if_neg hk2, if_neg hk2, ih k (by omega)]
theorem ep_rds_congr {f g : Nat → Int32} {t : ep_T8} : ∀ n, (∀ k, k < n → f k = g k) → ep_rds n f t = ep_rds n g t
  | 0, _ => rfl
  | n + 1, h => by
    simp only [ep_rds]
    rw [ep_rds_congr n (fun k hk => h k (by omega)), h n (by omega)]
/-- the word of four bytes, the first one highest -/
def ep_be (p : List Int32) (o : Nat) : Int32 := ((eh_shl (p.getD o 0) 24 ||| eh_shl (p.getD (o + 1) 0) 16) ||| eh_shl (p.getD (o + 2) 0) 8) ||| p.getD (o + 3) 0
/-- a stream: the eight words, the bytes that wait (each 0 .. 255), how many bytes in all -/
abbrev ep_St : Type := ep_T8 × List Int32 × Nat
def ep_t8 (t : ep_T8) (k : Nat) : Int32 := match k with
  | 0 => t.1
  | 1 => t.2.1
  | 2 => t.2.2.1
  | 3 => t.2.2.2.1
  | 4 => t.2.2.2.2.1
  | 5 => t.2.2.2.2.2.1
  | 6 => t.2.2.2.2.2.2.1
  | _ => t.2.2.2.2.2.2.2
def ep_plus (t u : ep_T8) : ep_T8 := (t.1 + u.1, t.2.1 + u.2.1, t.2.2.1 + u.2.2.1, t.2.2.2.1 + u.2.2.2.1, t.2.2.2.2.1 + u.2.2.2.2.1, t.2.2.2.2.2.1 + u.2.2.2.2.2.1, t.2.2.2.2.2.2.1 + u.2.2.2.2.2.2.1, t.2.2.2.2.2.2.2 + u.2.2.2.2.2.2.2)
def ep_cmp (t : ep_T8) (p : List Int32) : ep_T8 := ep_plus t (ep_rds 64 (ep_exp 48 (fun w => ep_be p (4 * w))) t)
def ep_st0 : ep_St := (ep_h8 (eh_tt 0) 0, [], 0)
def ep_put (st : ep_St) (b : Int32) : ep_St := if st.2.1.length = 63 then (ep_cmp st.1 (st.2.1 ++ [b &&& 255]), [], st.2.2 + 1) else (st.1, st.2.1 ++ [b &&& 255], st.2.2 + 1)
/-- a stream is in order -/
def ep_ok (st : ep_St) : Prop := st.2.1.length = st.2.2 % 64 ∧ st.2.2 < 2 ^ 28 ∧ ∀ b ∈ st.2.1, b &&& 255 = b
/-- the reference holds it in its place e -/
def ep_Rm (e : Nat) (h b : Nat → Int32) (l : Nat → Int64) (st : ep_St) : Prop := ep_h8 h (8 * e) = st.1 ∧ (∀ j, j < st.2.1.length → b (64 * e + j) &&& 255 = st.2.1.getD j 0) ∧ l e = lN st.2.2
/-- the class holds it: its words, the schedule's first sixteen, the length -/
def ep_Rc (h w : Nat → Int32) (n : Int32) (st : ep_St) : Prop := ep_h8 h 0 = st.1 ∧ (∀ k, k < 16 → 4 * k < st.2.1.length → w k = ep_be st.2.1 (4 * k)) ∧ n = nI st.2.2
theorem ep_255 (x : Int32) : (x &&& 255) &&& 255 = x &&& 255 := by
  rw [Int32.and_assoc]; congr 1
theorem ep_nb255 (x : Int32) : eh_nb x &&& 255 = x &&& 255 := by
  unfold eh_nb
  apply Int32.toBitVec_inj.mp
  apply BitVec.eq_of_getLsbD_eq
  intro i hi
  have h255 : (255 : Int32).toBitVec.getLsbD i = decide (i < 8) := by
    have : ∀ i : Fin 32, (255 : Int32).toBitVec.getLsbD i.val = decide (i.val < 8) := by decide
    exact this ⟨i, hi⟩
  simp only [Int32.toBitVec_and, BitVec.getLsbD_and, h255]
  by_cases h8 : i < 8
  · have e : (x.toInt8.toInt32).toBitVec.getLsbD i = x.toBitVec.getLsbD i := by
      rw [Int8.toBitVec_toInt32, Int32.toBitVec_toInt8, BitVec.getLsbD_signExtend]
      simp only [hi, decide_true, Bool.true_and, h8, if_true]
      rw [BitVec.getLsbD_signExtend]
      simp [h8, hi, show i < 32 from hi]
    rw [e]
  · simp [h8]
theorem ep_put_ok {st : ep_St} (h : ep_ok st) (hn : st.2.2 + 1 < 2 ^ 28) (b : Int32) : ep_ok (ep_put st b) := by
  obtain ⟨h1, h2, h3⟩ := h
  unfold ep_put
  split
  · rename_i h63
    exact ⟨by show ([] : List Int32).length = (st.2.2 + 1) % 64; simp; omega, hn, fun x hx => by cases hx⟩
  · rename_i h63
    refine ⟨by show (st.2.1 ++ [b &&& 255]).length = (st.2.2 + 1) % 64; rw [List.length_append]; simp; omega, hn, fun x hx => ?_⟩
    rcases List.mem_append.mp hx with hx | hx
    · exact h3 x hx
    · rw [List.mem_singleton.mp hx]; exact ep_255 b
