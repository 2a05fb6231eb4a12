/-! SHA-256: the block's transformation, of both sides -/
abbrev ep_T8 : Type := Int32 × Int32 × Int32 × Int32 × Int32 × Int32 × Int32 × Int32
def ep_rr (x a b : Int32) : Int32 := eh_ushr x a ||| eh_shl x b
def ep_s0 (x : Int32) : Int32 := (ep_rr x 7 25 ^^^ ep_rr x 18 14) ^^^ eh_ushr x 3
def ep_s1 (x : Int32) : Int32 := (ep_rr x 17 15 ^^^ ep_rr x 19 13) ^^^ eh_ushr x 10
def ep_S0 (x : Int32) : Int32 := (ep_rr x 2 30 ^^^ ep_rr x 13 19) ^^^ ep_rr x 22 10
def ep_S1 (x : Int32) : Int32 := (ep_rr x 6 26 ^^^ ep_rr x 11 21) ^^^ ep_rr x 25 7
def ep_exp : Nat → (Nat → Int32) → Nat → Int32
  | 0, f => f
  | n + 1, f => upd (ep_exp n f) (n + 16) (((ep_exp n f n + ep_s0 (ep_exp n f (n + 1))) + ep_exp n f (n + 9)) + ep_s1 (ep_exp n f (n + 14)))
def ep_one (t : ep_T8) (k w : Int32) : Int32 := (((t.2.2.2.2.2.2.2 + ep_S1 t.2.2.2.2.1) + ((t.2.2.2.2.1 &&& t.2.2.2.2.2.1) ^^^ ((t.2.2.2.2.1 ^^^ (-1)) &&& t.2.2.2.2.2.2.1))) + k) + w
def ep_two (t : ep_T8) : Int32 := ep_S0 t.1 + (((t.1 &&& t.2.1) ^^^ (t.1 &&& t.2.2.1)) ^^^ (t.2.1 &&& t.2.2.1))
def ep_rnd (t : ep_T8) (k w : Int32) : ep_T8 := (ep_one t k w + ep_two t, t.1, t.2.1, t.2.2.1, t.2.2.2.1 + ep_one t k w, t.2.2.2.2.1, t.2.2.2.2.2.1, t.2.2.2.2.2.2.1)
def ep_rds : Nat → (Nat → Int32) → ep_T8 → ep_T8
  | 0, _, t => t
  | n + 1, w, t => ep_rnd (ep_rds n w t) (eh_tt 1 n) (w n)
def ep_h8 (f : Nat → Int32) (o : Nat) : ep_T8 := (f o, f (o + 1), f (o + 2), f (o + 3), f (o + 4), f (o + 5), f (o + 6), f (o + 7))
def ep_add8 (f : Nat → Int32) (o : Nat) (t : ep_T8) : Nat → Int32 := upd (upd (upd (upd (upd (upd (upd (upd f o (f o + t.1)) (o + 1) (f (o + 1) + t.2.1)) (o + 2) (f (o + 2) + t.2.2.1)) (o + 3) (f (o + 3) + t.2.2.2.1)) (o + 4) (f (o + 4) + t.2.2.2.2.1)) (o + 5) (f (o + 5) + t.2.2.2.2.2.1)) (o + 6) (f (o + 6) + t.2.2.2.2.2.2.1)) (o + 7) (f (o + 7) + t.2.2.2.2.2.2.2)
theorem ep_lt {a b : Nat} (h : a < b) (hb : b < 2 ^ 31) {y : Int32} (hy : y = nI b) : nI a < y := by rw [hy]; exact nI_lt h hb
theorem ep_nlt {a b : Nat} (h : b ≤ a) (ha : a < 2 ^ 31) {y : Int32} (hy : y = nI b) : ¬ nI a < y := by rw [hy]; exact nI_nlt h ha
theorem ep_sub {a b c : Nat} (h : c + b = a) {y : Int32} (hy : y = nI b) : nI a - y = nI c := by rw [hy, pk_sub (by omega)]; congr 1; omega
theorem ep_add {a b c : Nat} (h : a + b = c) {y : Int32} (hy : y = nI b) : nI a + y = nI c := by rw [hy, nI_add, h]
theorem ep_mul {a b c : Nat} (h : b * a = c) {y : Int32} (hy : y = nI b) : y * nI a = nI c := by rw [hy, pk_mul, h]
theorem ep_upd_ne {f : Nat → Int32} {k j : Nat} {x : Int32} (h : j ≠ k) : upd f k x j = f j := by simp [upd, h]
theorem ep_upd_eq {f : Nat → Int32} {k : Nat} {x : Int32} : upd f k x k = x := by simp [upd]
set_option maxHeartbeats 4000000 in
theorem ep_compress (s : eh_F) (th : Nat) : eF_9_compress s th = some (eh_tF (eh_tF s (th + 2) (ep_exp 48 (s.1 (th + 2)))) (th + 1) (ep_add8 (s.1 (th + 1)) 0 (ep_rds 64 (ep_exp 48 (s.1 (th + 2))) (ep_h8 (s.1 (th + 1)) 0)))) := by
  unfold eF_9_compress
  simp only [ep_V]
  rw [ep_loop (fun i => (nI (i + 16), eh_tF s (th + 2) (ep_exp i (s.1 (th + 2))))) 48 (some (eh_tF s (th + 2) (ep_exp 48 (s.1 (th + 2))))) (ep_FU _ (by decide)) ?_ ?_ ?_]
  · rw [ep_sb]
    simp only [ep_tFn _ (th + 2) (th + 1) _ (by omega)]
    rw [ep_loop (fun i => ((ep_rds i (ep_exp 48 (s.1 (th + 2))) (ep_h8 (s.1 (th + 1)) 0)).1, (ep_rds i (ep_exp 48 (s.1 (th + 2))) (ep_h8 (s.1 (th + 1)) 0)).2.1, (ep_rds i (ep_exp 48 (s.1 (th + 2))) (ep_h8 (s.1 (th + 1)) 0)).2.2.1, (ep_rds i (ep_exp 48 (s.1 (th + 2))) (ep_h8 (s.1 (th + 1)) 0)).2.2.2.1, (ep_rds i (ep_exp 48 (s.1 (th + 2))) (ep_h8 (s.1 (th + 1)) 0)).2.2.2.2.1, (ep_rds i (ep_exp 48 (s.1 (th + 2))) (ep_h8 (s.1 (th + 1)) 0)).2.2.2.2.2.1, (ep_rds i (ep_exp 48 (s.1 (th + 2))) (ep_h8 (s.1 (th + 1)) 0)).2.2.2.2.2.2.1, (ep_rds i (ep_exp 48 (s.1 (th + 2))) (ep_h8 (s.1 (th + 1)) 0)).2.2.2.2.2.2.2, nI i)) 64 (some (ep_rds 64 (ep_exp 48 (s.1 (th + 2))) (ep_h8 (s.1 (th + 1)) 0))) (ep_FU _ (by decide)) ?_ ?_ ?_]
    · rw [ep_sb]
      simp only [eh_tI, ep_tF, ep_tFF, ep_tFn _ (th + 2) (th + 1) _ (show th + 1 ≠ th + 2 by omega)]
      simp only [upd]
      congr 2
    · intro i hi rec
      have h1 : nI i < 64 := ep_lt hi (by decide) rfl
      simp only [h1, if_true, ep_in (show i < 64 from hi) (by decide), show eh_in (nI i) (eh_tn 1) = true from ep_in (show i < 64 from hi) (by decide), ep_ix (show i < 2 ^ 31 by omega), ep_tF, nI_1]
      rfl
    · intro rec
      have h1 : ¬ nI 64 < 64 := by decide
      simp only [h1, if_false]
    · rfl
  · intro i hi rec
    have h1 : nI (i + 16) < 64 := ep_lt (b := 64) (by omega) (by decide) rfl
    have e15 : nI (i + 16) - 15 = nI (i + 1) := ep_sub (b := 15) (by omega) rfl
    have e2 : nI (i + 16) - 2 = nI (i + 14) := ep_sub (b := 2) (by omega) rfl
    have e16 : nI (i + 16) - 16 = nI i := ep_sub (b := 16) (by omega) rfl
    have e7 : nI (i + 16) - 7 = nI (i + 9) := ep_sub (b := 7) (by omega) rfl
    simp only [h1, if_true, e15, e2, e16, e7, ep_in (show i + 1 < 64 by omega) (by decide), ep_in (show i + 14 < 64 by omega) (by decide), ep_in (show i < 64 by omega) (by decide), ep_in (show i + 9 < 64 by omega) (by decide), ep_in (show i + 16 < 64 by omega) (by decide), ep_ix (show i + 1 < 2 ^ 31 by omega), ep_ix (show i + 14 < 2 ^ 31 by omega), ep_ix (show i < 2 ^ 31 by omega), ep_ix (show i + 9 < 2 ^ 31 by omega), ep_ix (show i + 16 < 2 ^ 31 by omega), ep_tF, ep_tFI, nI_1]
    rfl
  · intro rec
    have h1 : ¬ nI (48 + 16) < 64 := by decide
    simp only [h1, if_false]
  · show (_, s) = (_, _)
    rw [show ep_exp 0 (s.1 (th + 2)) = s.1 (th + 2) from rfl, ep_tFid]
    rfl
