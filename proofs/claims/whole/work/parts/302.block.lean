/-! the reference's block -/
def ep_bw (f : Nat → Int32) (o : Nat) : Int32 := ((eh_shl (f o &&& 255) 24 ||| eh_shl (f (o + 1) &&& 255) 16) ||| eh_shl (f (o + 2) &&& 255) 8) ||| (f (o + 3) &&& 255)
def ep_ld (b f : Nat → Int32) (e n : Nat) : Nat → Int32 := fun j => if j < n then ep_bw b (64 * e + 4 * j) else f j
theorem ep_rot {s : eh_F} {x : Int32} (a b : Int32) (h : (-a) &&& 31 = b &&& 31) : eF_20_rotateRight s x a = some (ep_rr x a b) := by
  unfold eF_20_rotateRight ep_rr eh_shl
  rw [h]
theorem ep_t31 (n : Nat) : eh_tt 3 n = eh_tt 1 n := rfl
set_option maxHeartbeats 8000000 in
theorem ep_block (s : eh_F) (e : Nat) (he : e < 8) : eF_12_block s (nI e) = some (eh_tF (eh_tF s 191 (ep_exp 48 (ep_ld (s.1 189) (s.1 191) e 16))) 188 (ep_add8 (s.1 188) (8 * e) (ep_rds 64 (ep_exp 48 (ep_ld (s.1 189) (s.1 191) e 16)) (ep_h8 (s.1 188) (8 * e))))) := by
  unfold eF_12_block
  have q8 : (8 : Int32) * nI e = nI (8 * e) := ep_mul (b := 8) rfl rfl
  have q64 : (64 : Int32) * nI e = nI (64 * e) := ep_mul (b := 64) rfl rfl
  have a1 : nI (8 * e) + 1 = nI (8 * e + 1) := ep_add (b := 1) rfl rfl
  have a2 : nI (8 * e) + 2 = nI (8 * e + 2) := ep_add (b := 2) rfl rfl
  have a3 : nI (8 * e) + 3 = nI (8 * e + 3) := ep_add (b := 3) rfl rfl
  have a4 : nI (8 * e) + 4 = nI (8 * e + 4) := ep_add (b := 4) rfl rfl
  have a5 : nI (8 * e) + 5 = nI (8 * e + 5) := ep_add (b := 5) rfl rfl
  have a6 : nI (8 * e) + 6 = nI (8 * e + 6) := ep_add (b := 6) rfl rfl
  have a7 : nI (8 * e) + 7 = nI (8 * e + 7) := ep_add (b := 7) rfl rfl
  have i0 : eh_in (nI (8 * e)) 64 = true := ep_in (by omega) (by decide)
  have i1 : eh_in (nI (8 * e + 1)) 64 = true := ep_in (by omega) (by decide)
  have i2 : eh_in (nI (8 * e + 2)) 64 = true := ep_in (by omega) (by decide)
  have i3 : eh_in (nI (8 * e + 3)) 64 = true := ep_in (by omega) (by decide)
  have i4 : eh_in (nI (8 * e + 4)) 64 = true := ep_in (by omega) (by decide)
  have i5 : eh_in (nI (8 * e + 5)) 64 = true := ep_in (by omega) (by decide)
  have i6 : eh_in (nI (8 * e + 6)) 64 = true := ep_in (by omega) (by decide)
  have i7 : eh_in (nI (8 * e + 7)) 64 = true := ep_in (by omega) (by decide)
  have x0 : eh_ix (nI (8 * e)) = 8 * e := ep_ix (by omega)
  have x1 : eh_ix (nI (8 * e + 1)) = 8 * e + 1 := ep_ix (by omega)
  have x2 : eh_ix (nI (8 * e + 2)) = 8 * e + 2 := ep_ix (by omega)
  have x3 : eh_ix (nI (8 * e + 3)) = 8 * e + 3 := ep_ix (by omega)
  have x4 : eh_ix (nI (8 * e + 4)) = 8 * e + 4 := ep_ix (by omega)
  have x5 : eh_ix (nI (8 * e + 5)) = 8 * e + 5 := ep_ix (by omega)
  have x6 : eh_ix (nI (8 * e + 6)) = 8 * e + 6 := ep_ix (by omega)
  have x7 : eh_ix (nI (8 * e + 7)) = 8 * e + 7 := ep_ix (by omega)
  simp only [ep_V, q8, q64, a1, a2, a3, a4, a5, a6, a7, i0, i1, i2, i3, i4, i5, i6, i7, x0, x1, x2, x3, x4, x5, x6, x7, if_true]
  rw [ep_loop (fun i => (nI i, eh_tF s 191 (ep_ld (s.1 189) (s.1 191) e i))) 16 (some (eh_tF s 191 (ep_ld (s.1 189) (s.1 191) e 16))) (ep_FU _ (by decide)) ?_ ?_ ?_]
  · rw [ep_sb]
    generalize hW : ep_ld (s.1 189) (s.1 191) e 16 = w0
    rw [ep_loop (fun i => (nI (i + 16), eh_tF s 191 (ep_exp i w0))) 48 (some (eh_tF s 191 (ep_exp 48 w0))) (ep_FU _ (by decide)) ?_ ?_ ?_]
    · rw [ep_sb]
      simp only [ep_tFn _ 191 188 _ (show (188 : Nat) ≠ 191 by decide)]
      rw [ep_loop (fun i => ((ep_rds i (ep_exp 48 w0) (ep_h8 (s.1 188) (8 * e))).1, (ep_rds i (ep_exp 48 w0) (ep_h8 (s.1 188) (8 * e))).2.1, (ep_rds i (ep_exp 48 w0) (ep_h8 (s.1 188) (8 * e))).2.2.1, (ep_rds i (ep_exp 48 w0) (ep_h8 (s.1 188) (8 * e))).2.2.2.1, (ep_rds i (ep_exp 48 w0) (ep_h8 (s.1 188) (8 * e))).2.2.2.2.1, (ep_rds i (ep_exp 48 w0) (ep_h8 (s.1 188) (8 * e))).2.2.2.2.2.1, (ep_rds i (ep_exp 48 w0) (ep_h8 (s.1 188) (8 * e))).2.2.2.2.2.2.1, (ep_rds i (ep_exp 48 w0) (ep_h8 (s.1 188) (8 * e))).2.2.2.2.2.2.2, nI i)) 64 (some (ep_rds 64 (ep_exp 48 w0) (ep_h8 (s.1 188) (8 * e)))) (ep_FU _ (by decide)) ?_ ?_ ?_]
      · rw [ep_sb]
        simp only [eh_tI, ep_tF, ep_tFF, ep_tFn _ 191 188 _ (show (188 : Nat) ≠ 191 by decide)]
        unfold ep_add8
        simp only [ep_upd_ne (show 8 * e + 1 ≠ 8 * e by omega), ep_upd_ne (show 8 * e + 2 ≠ 8 * e by omega), ep_upd_ne (show 8 * e + 2 ≠ 8 * e + 1 by omega), ep_upd_ne (show 8 * e + 3 ≠ 8 * e by omega), ep_upd_ne (show 8 * e + 3 ≠ 8 * e + 1 by omega), ep_upd_ne (show 8 * e + 3 ≠ 8 * e + 2 by omega), ep_upd_ne (show 8 * e + 4 ≠ 8 * e by omega), ep_upd_ne (show 8 * e + 4 ≠ 8 * e + 1 by omega), ep_upd_ne (show 8 * e + 4 ≠ 8 * e + 2 by omega), ep_upd_ne (show 8 * e + 4 ≠ 8 * e + 3 by omega), ep_upd_ne (show 8 * e + 5 ≠ 8 * e by omega), ep_upd_ne (show 8 * e + 5 ≠ 8 * e + 1 by omega), ep_upd_ne (show 8 * e + 5 ≠ 8 * e + 2 by omega), ep_upd_ne (show 8 * e + 5 ≠ 8 * e + 3 by omega), ep_upd_ne (show 8 * e + 5 ≠ 8 * e + 4 by omega), ep_upd_ne (show 8 * e + 6 ≠ 8 * e by omega), ep_upd_ne (show 8 * e + 6 ≠ 8 * e + 1 by omega), ep_upd_ne (show 8 * e + 6 ≠ 8 * e + 2 by omega), ep_upd_ne (show 8 * e + 6 ≠ 8 * e + 3 by omega), ep_upd_ne (show 8 * e + 6 ≠ 8 * e + 4 by omega), ep_upd_ne (show 8 * e + 6 ≠ 8 * e + 5 by omega), ep_upd_ne (show 8 * e + 7 ≠ 8 * e by omega), ep_upd_ne (show 8 * e + 7 ≠ 8 * e + 1 by omega), ep_upd_ne (show 8 * e + 7 ≠ 8 * e + 2 by omega), ep_upd_ne (show 8 * e + 7 ≠ 8 * e + 3 by omega), ep_upd_ne (show 8 * e + 7 ≠ 8 * e + 4 by omega), ep_upd_ne (show 8 * e + 7 ≠ 8 * e + 5 by omega), ep_upd_ne (show 8 * e + 7 ≠ 8 * e + 6 by omega)]
      · intro i hi rec
        have h1 : nI i < 64 := ep_lt (b := 64) hi (by decide) rfl
        simp only [h1, if_true, ep_rot 6 26 (by decide), ep_rot 11 21 (by decide), ep_rot 25 7 (by decide), ep_rot 2 30 (by decide), ep_rot 13 19 (by decide), ep_rot 22 10 (by decide), ep_sb, ep_in (show i < 64 from hi) (by decide), show eh_in (nI i) (eh_tn 3) = true from ep_in (show i < 64 from hi) (by decide), ep_ix (show i < 2 ^ 31 by omega), ep_tF, nI_1, ep_t31]
        rfl
      · intro rec
        have h1 : ¬ nI 64 < 64 := by decide
        simp only [h1, if_false]
      · rfl
    · intro i hi rec
      have h1 : nI (i + 16) < 64 := ep_lt (b := 64) (by omega) (by decide) rfl
      have e15 : nI (i + 16) - 15 = nI (i + 1) := ep_sub (b := 15) (by omega) rfl
      have e2 : nI (i + 16) - 2 = nI (i + 14) := ep_sub (b := 2) (by omega) rfl
      have e16 : nI (i + 16) - 16 = nI i := ep_sub (b := 16) (by omega) rfl
      have e7 : nI (i + 16) - 7 = nI (i + 9) := ep_sub (b := 7) (by omega) rfl
      simp only [h1, if_true, e15, e2, e16, e7, ep_rot 7 25 (by decide), ep_rot 18 14 (by decide), ep_rot 17 15 (by decide), ep_rot 19 13 (by decide), ep_sb, ep_in (show i + 1 < 64 by omega) (by decide), ep_in (show i + 14 < 64 by omega) (by decide), ep_in (show i < 64 by omega) (by decide), ep_in (show i + 9 < 64 by omega) (by decide), ep_in (show i + 16 < 64 by omega) (by decide), ep_ix (show i + 1 < 2 ^ 31 by omega), ep_ix (show i + 14 < 2 ^ 31 by omega), ep_ix (show i < 2 ^ 31 by omega), ep_ix (show i + 9 < 2 ^ 31 by omega), ep_ix (show i + 16 < 2 ^ 31 by omega), ep_tF, ep_tFI, nI_1]
      rfl
    · intro rec
      have h1 : ¬ nI (48 + 16) < 64 := by decide
      simp only [h1, if_false]
    · rfl
  · intro i hi rec
    have h1 : nI i < 16 := ep_lt (b := 16) hi (by decide) rfl
    have m4 : (4 : Int32) * nI i = nI (4 * i) := ep_mul (b := 4) rfl rfl
    have p0 : nI (64 * e) + nI (4 * i) = nI (64 * e + 4 * i) := nI_add _ _
    have p1 : nI (64 * e + 4 * i) + 1 = nI (64 * e + 4 * i + 1) := ep_add (b := 1) rfl rfl
    have p2 : nI (64 * e + 4 * i) + 2 = nI (64 * e + 4 * i + 2) := ep_add (b := 2) rfl rfl
    have p3 : nI (64 * e + 4 * i) + 3 = nI (64 * e + 4 * i + 3) := ep_add (b := 3) rfl rfl
    simp only [h1, if_true, m4, p0, p1, p2, p3, ep_in (show 64 * e + 4 * i < 512 by omega) (by decide), ep_in (show 64 * e + 4 * i + 1 < 512 by omega) (by decide), ep_in (show 64 * e + 4 * i + 2 < 512 by omega) (by decide), ep_in (show 64 * e + 4 * i + 3 < 512 by omega) (by decide), ep_in (show i < 64 by omega) (by decide), ep_ix (show 64 * e + 4 * i < 2 ^ 31 by omega), ep_ix (show 64 * e + 4 * i + 1 < 2 ^ 31 by omega), ep_ix (show 64 * e + 4 * i + 2 < 2 ^ 31 by omega), ep_ix (show 64 * e + 4 * i + 3 < 2 ^ 31 by omega), ep_ix (show i < 2 ^ 31 by omega), ep_tFn _ 191 189 _ (show (189 : Nat) ≠ 191 by decide), ep_tFI, nI_1]
    congr 3
    funext j
    unfold ep_ld upd
    by_cases hj : j = i
    · subst hj; simp [ep_bw]
    · by_cases hlt : j < i
      · simp [hj, hlt, Nat.lt_succ_of_lt hlt]
      · simp [hj, hlt, show ¬ j < i + 1 by omega]
  · intro rec
    have h1 : ¬ nI 16 < 16 := by decide
    simp only [h1, if_false]
  · show (_, s) = (_, _)
    rw [show ep_ld (s.1 189) (s.1 191) e 0 = s.1 191 from by funext j; simp [ep_ld], ep_tFid]
    rfl
