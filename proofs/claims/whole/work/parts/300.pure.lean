/-! the pure side: words of states and loops -/
theorem ep_V {β γ : Type} (v : β) (f : β → γ) : eh_V v f = f v := rfl
theorem ep_J {β γ : Type} (F : β) (b : β → γ) : eh_J F b = b F := rfl
theorem ep_sb {β γ : Type} (v : β) (f : β → Option γ) : Option.bind (some v) f = f v := rfl
theorem ep_tI (s : eh_F) (k j : Nat) (v : Int32) : (eh_tI s k j v).1 k = upd (s.1 k) j v := by simp [eh_tI, eh_tF]
theorem ep_tIn (s : eh_F) (k j a : Nat) (v : Int32) (h : a ≠ k) : (eh_tI s k j v).1 a = s.1 a := by simp [eh_tI, eh_tF, h]
theorem ep_tI2 (s : eh_F) (k j : Nat) (v : Int32) : (eh_tI s k j v).2 = s.2 := rfl
theorem ep_tF (s : eh_F) (k : Nat) (f : Nat → Int32) : (eh_tF s k f).1 k = f := by simp [eh_tF]
theorem ep_tFn (s : eh_F) (k a : Nat) (f : Nat → Int32) (h : a ≠ k) : (eh_tF s k f).1 a = s.1 a := by simp [eh_tF, h]
theorem ep_tF2 (s : eh_F) (k : Nat) (f : Nat → Int32) : (eh_tF s k f).2 = s.2 := rfl
theorem ep_tJ1 (s : eh_F) (k j : Nat) (v : Int64) : (eh_tJ s k j v).1 = s.1 := rfl
theorem ep_tJ (s : eh_F) (k j : Nat) (v : Int64) : (eh_tJ s k j v).2.1 k = vp_updL (s.2.1 k) j v := by simp [eh_tJ]
theorem ep_tJ3 (s : eh_F) (k j : Nat) (v : Int64) : (eh_tJ s k j v).2.2 = s.2.2 := rfl
theorem ep_tII (s : eh_F) (k j j' : Nat) (v v' : Int32) : eh_tI (eh_tI s k j v) k j' v' = eh_tF s k (upd (upd (s.1 k) j v) j' v') := by
  unfold eh_tI eh_tF
  congr 1
  funext a
  by_cases h : a = k <;> simp [h]
theorem ep_tFF (s : eh_F) (k : Nat) (f f' : Nat → Int32) : eh_tF (eh_tF s k f) k f' = eh_tF s k f' := by
  unfold eh_tF
  congr 1
  funext a
  by_cases h : a = k <;> simp [h]
theorem ep_tFI (s : eh_F) (k j : Nat) (f : Nat → Int32) (v : Int32) : eh_tI (eh_tF s k f) k j v = eh_tF s k (upd f j v) := by
  unfold eh_tI
  rw [ep_tF, ep_tFF]
theorem ep_tFid (s : eh_F) (k : Nat) : eh_tF s k (s.1 k) = s := by
  unfold eh_tF
  refine Prod.ext ?_ rfl
  funext a
  by_cases h : a = k <;> simp [h]
/-- a loop that counts: for i below N the body goes on with the next state -/
theorem ep_for {σ β : Type} {body : (σ → Option β) → σ → Option β} (f : Nat → σ) (N : Nat) (r : Option β) (hs : ∀ i, i < N → ∀ rec, body rec (f i) = rec (f (i + 1))) (he : ∀ rec, body rec (f N) = r) : ∀ (k i n : Nat), i + k = N → k < n → eh_loop body n (f i) = r
  | 0, i, n + 1, hi, _ => by
    rw [eh_loop, show i = N by omega]; exact he _
  | k + 1, i, n + 1, hi, hn => by
    rw [eh_loop, hs i (by omega)]
    exact ep_for f N r hs he k (i + 1) n (by omega) (by omega)
theorem ep_loop {σ β : Type} {body : (σ → Option β) → σ → Option β} (f : Nat → σ) (N : Nat) (r : Option β) (hN : N < eh_FU) (hs : ∀ i, i < N → ∀ rec, body rec (f i) = rec (f (i + 1))) (he : ∀ rec, body rec (f N) = r) {i0 : σ} (h0 : i0 = f 0) : eh_loop body eh_FU i0 = r := by
  rw [h0]
  exact ep_for f N r hs he N 0 eh_FU (by omega) hN
theorem ep_in {i n : Nat} (hi : i < n) (hn : n < 2 ^ 31) : eh_in (nI i) n = true := by
  unfold eh_in
  rw [nI_toInt (by omega)]
  simp
  omega
theorem ep_ix {i : Nat} (hi : i < 2 ^ 31) : eh_ix (nI i) = i := nI_clamp hi
theorem ep_in_of {x : Int32} {n : Nat} (h : eh_in x n = true) (hn : n < 2 ^ 31) : ∃ j : Nat, j < n ∧ x = nI j := vp_in_of (eh_in_vp h) hn
theorem ep_FU (N : Nat) (h : N < 1000000) : N < eh_FU := Nat.lt_trans h (by decide)
/-! Arrays.fill -/
theorem ep_fill (s : eh_F) (a n : Nat) (v : Int32) (hn : n < 1000000) : eF_23_fill s a n v = some (eh_tF s a (fun j => if j < n then v else s.1 a j)) := by
  unfold eF_23_fill
  simp only [ep_V, ep_J]
  rw [ep_loop (fun i => (nI i, eh_tF s a (fun j => if j < i then v else s.1 a j))) n (some (eh_tF s a (fun j => if j < n then v else s.1 a j))) (ep_FU n hn)]
  · rfl
  · intro i hi rec
    have h1 : nI i < Int32.ofNat n := nI_lt hi (by omega)
    simp only [h1, if_true, ep_in hi (by omega), ep_ix (show i < 2 ^ 31 by omega), ep_tFI, nI_1]
    congr 3
    funext j
    unfold upd
    by_cases hj : j = i
    · subst hj; simp
    · by_cases hlt : j < i
      · simp [hj, hlt, Nat.lt_succ_of_lt hlt]
      · simp [hj, hlt, show ¬ j < i + 1 by omega]
  · intro rec
    have h1 : ¬ nI n < Int32.ofNat n := nI_nlt (Nat.le_refl n) (by omega)
    simp only [h1, if_false]
  · simp [nI_0, ep_tFid]
