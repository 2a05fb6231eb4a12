/-! the walk through tables, in both -/
theorem ep_and6 (w : Int32) : w &&& 6 = 4 ↔ (w &&& 2 = 0 ∧ ¬ w &&& 4 = 0) := by
  have b2 : ∀ i : Fin 32, ep_bit 2 i.val = decide (i.val = 1) := by decide
  have b4 : ∀ i : Fin 32, ep_bit 4 i.val = decide (i.val = 2) := by decide
  have b6 : ∀ i : Fin 32, ep_bit 6 i.val = decide (i.val = 1 ∨ i.val = 2) := by decide
  have h2 : w &&& 2 = 0 ↔ ep_bit w 1 = false := by
    constructor
    · intro h
      have := congrArg (fun x => ep_bit x 1) h
      simpa [ep_bit_and, ep_bit_0, show ep_bit 2 1 = true by decide] using this
    · intro h
      apply ep_ext; intro i hi
      rw [ep_bit_and, b2 ⟨i, hi⟩, ep_bit_0]
      by_cases g : i = 1
      · subst g; simp [h]
      · simp [g]
  have h4 : w &&& 4 = 0 ↔ ep_bit w 2 = false := by
    constructor
    · intro h
      have := congrArg (fun x => ep_bit x 2) h
      simpa [ep_bit_and, ep_bit_0, show ep_bit 4 2 = true by decide] using this
    · intro h
      apply ep_ext; intro i hi
      rw [ep_bit_and, b4 ⟨i, hi⟩, ep_bit_0]
      by_cases g : i = 2
      · subst g; simp [h]
      · simp [g]
  rw [h2, h4]
  constructor
  · intro h
    have g1 := congrArg (fun x => ep_bit x 1) h
    have g2 := congrArg (fun x => ep_bit x 2) h
    have e1 := b6 1
    have e2 := b6 2
    have e3 := b4 1
    have e4 := b4 2
    simp at e1 e2 e3 e4
    simp [ep_bit_and, e1, e3] at g1
    simp [ep_bit_and, e2, e4] at g2
    simp [g1, g2]
  · intro ⟨g1, g2⟩
    apply ep_ext; intro i hi
    rw [ep_bit_and, b6 ⟨i, hi⟩, b4 ⟨i, hi⟩]
    by_cases z1 : i = 1
    · subst z1; simp [g1]
    · by_cases z2 : i = 2
      · subst z2; simpa using g2
      · simp [z1, z2]
theorem ep_ffc00 (w : Int32) : w &&& 1047552 = 0 ↔ w.toBitVec.toNat / 1024 % 1024 = 0 := by
  have e : w &&& 1047552 = 0 ↔ eh_ushr w 10 &&& 1023 = 0 := by
    have hb : ∀ i : Fin 32, ep_bit 1047552 i.val = decide (10 ≤ i.val ∧ i.val < 20) := by decide
    have hc : ∀ i : Fin 32, ep_bit 1023 i.val = decide (i.val < 10) := by decide
    constructor
    · intro h
      apply ep_ext
      intro i hi
      rw [ep_bit_and, show (10 : Int32) = nI 10 from rfl, ep_bit_ushr _ (by decide), hc ⟨i, hi⟩, ep_bit_0]
      by_cases h10 : i < 10
      · have := congrArg (fun x => ep_bit x (i + 10)) h
        have e2 := hb ⟨i + 10, by omega⟩
        have e3 : decide (10 ≤ i + 10 ∧ i + 10 < 20) = true := by simp; omega
        simp only [ep_bit_and, ep_bit_0] at this
        simp only [e3] at e2
        rw [e2, Bool.and_true] at this
        rw [this, Bool.false_and]
      · simp [h10]
    · intro h
      apply ep_ext
      intro i hi
      rw [ep_bit_and, hb ⟨i, hi⟩, ep_bit_0]
      by_cases h10 : 10 ≤ i ∧ i < 20
      · have := congrArg (fun x => ep_bit x (i - 10)) h
        simp only [ep_bit_and, ep_bit_0, show (10 : Int32) = nI 10 from rfl, ep_bit_ushr _ (show 10 < 32 by decide)] at this
        rw [show i - 10 + 10 = i by omega] at this
        have e2 := hc ⟨i - 10, by omega⟩
        have e3 : decide (i - 10 < 10) = true := by simp; omega
        simp only [e3] at e2
        rw [e2, Bool.and_true] at this
        rw [this, Bool.false_and]
      · simp [h10]
  rw [e, show (10 : Int32) = nI 10 from rfl, ep_ushrU _ (by decide), pk_andN (m := 1023) (by have := w.toBitVec.isLt; omega) 10 rfl, show (0 : Int32) = nI 0 from rfl, nI_eq (by omega) (by decide)]
theorem ep_u1023 (w : Int32) : eh_ushr w 10 &&& 1023 = 0 ↔ w.toBitVec.toNat / 1024 % 1024 = 0 := by
  rw [show (10 : Int32) = nI 10 from rfl, ep_ushrU _ (by decide), pk_andN (m := 1023) (by have := w.toBitVec.isLt; omega) 10 rfl, show (0 : Int32) = nI 0 from rfl, nI_eq (by omega) (by decide)]
def ep_u (x : Int32) : Nat := x.toBitVec.toNat
theorem ep_u_lt (x : Int32) : ep_u x < 4294967296 := x.toBitVec.isLt
/-- where the walk ends: a place, or an exception -/
def ep_wk (S P b : Nat → Int32) (atp mode st : Int32) (A way : Nat) : Nat ⊕ Int32 :=
  if (decide (4096 * (ep_u atp % 4194304) + 4 * (A / 4194304) < 131072) && ep_ob S P (4096 * (ep_u atp % 4194304) + 4 * (A / 4194304))) = false then .inr (ep_den way)
  else if ep_lw b (4096 * (ep_u atp % 4194304) + 4 * (A / 4194304)) &&& 1 = 0 then .inr (ep_unp way)
  else if ep_lw b (4096 * (ep_u atp % 4194304) + 4 * (A / 4194304)) &&& 6 = 4 then .inr (ep_unp way)
  else if ¬ ep_lw b (4096 * (ep_u atp % 4194304) + 4 * (A / 4194304)) &&& 14 = 0 then
    (if ep_lw b (4096 * (ep_u atp % 4194304) + 4 * (A / 4194304)) &&& 1047552 = 0 ∧ ep_alb (ep_lw b (4096 * (ep_u atp % 4194304) + 4 * (A / 4194304))) mode st way = true then .inl (ep_u (ep_lw b (4096 * (ep_u atp % 4194304) + 4 * (A / 4194304))) / 1048576 * 4194304 + A % 4194304) else .inr (ep_unp way))
  else if (decide (4096 * (ep_u (ep_lw b (4096 * (ep_u atp % 4194304) + 4 * (A / 4194304))) / 1024) + 4 * (A / 4096 % 1024) < 131072) && ep_ob S P (4096 * (ep_u (ep_lw b (4096 * (ep_u atp % 4194304) + 4 * (A / 4194304))) / 1024) + 4 * (A / 4096 % 1024))) = false then .inr (ep_den way)
  else if ep_lw b (4096 * (ep_u (ep_lw b (4096 * (ep_u atp % 4194304) + 4 * (A / 4194304))) / 1024) + 4 * (A / 4096 % 1024)) &&& 1 = 0 then .inr (ep_unp way)
  else if ep_lw b (4096 * (ep_u (ep_lw b (4096 * (ep_u atp % 4194304) + 4 * (A / 4194304))) / 1024) + 4 * (A / 4096 % 1024)) &&& 6 = 4 then .inr (ep_unp way)
  else if ep_lw b (4096 * (ep_u (ep_lw b (4096 * (ep_u atp % 4194304) + 4 * (A / 4194304))) / 1024) + 4 * (A / 4096 % 1024)) &&& 14 = 0 then .inr (ep_unp way)
  else if ep_alb (ep_lw b (4096 * (ep_u (ep_lw b (4096 * (ep_u atp % 4194304) + 4 * (A / 4194304))) / 1024) + 4 * (A / 4096 % 1024))) mode st way = true then .inl (ep_u (ep_lw b (4096 * (ep_u (ep_lw b (4096 * (ep_u atp % 4194304) + 4 * (A / 4194304))) / 1024) + 4 * (A / 4096 % 1024))) / 1024 * 4096 + A % 4096) else .inr (ep_unp way)
theorem ep_loopS {σ β : Type} (body : (σ → Option β) → σ → Option β) (n : Nat) (x : σ) : eh_loop body (n + 1) x = body (eh_loop body n) x := by rw [eh_loop]
theorem ep_mallowed {N : Nat} {c : ep_C} {m : ep_M} (hR : ep_R N c m) {h way : Nat} (hh : h < 2) (hw : way < 3) (w addr : Int32) (great : Bool) (c0 : ep_C) : eF_12_allowed (ep_mk c0 m) (nI h) w addr (nI way) (ep_bi great) = if ep_alb w (m.1 131 h) (m.1 133 h) way = true then some (if great = true then lN (ep_u w / 1048576 * 4194304 + ep_u addr % 4194304) else lN (ep_u w / 1024 * 4096 + ep_u addr % 4096), ep_mk c0 m) else some (0, ep_mk c0 (ep_mF m (ep_unp way) addr)) := by
  have ga := (hR.2.2.2.2.2.2.2.2.1 h hh).2.1
  have q1 : eh_in (nI h) 2 = true := ep_in hh (by decide)
  have q2 : eh_ix (nI h) = h := ep_ix (by omega)
  have hwl := ep_u_lt w
  have e1 : (eh_lshl ((eh_ushr w 10).toInt64) 12) ||| ((addr &&& 4095).toInt64) = lN (ep_u w / 1024 * 4096 + ep_u addr % 4096) := by
    rw [show (10 : Int32) = nI 10 from rfl, ep_ushrU _ (by decide), nI_l (by have := w.toBitVec.isLt; omega), show (12 : Int32) = nI 12 from rfl, ep_lshln (by decide), ep_andU addr 12 (by decide) rfl, nI_l (by omega), ep_lor (by omega) (by have := w.toBitVec.isLt; omega)]
    rfl
  have e2 : (eh_lshl ((eh_ushr w 20).toInt64) 22) ||| ((addr &&& 4194303).toInt64) = lN (ep_u w / 1048576 * 4194304 + ep_u addr % 4194304) := by
    rw [show (20 : Int32) = nI 20 from rfl, ep_ushrU _ (by decide), nI_l (by have := w.toBitVec.isLt; omega), show (22 : Int32) = nI 22 from rfl, ep_lshln (by decide), ep_andU addr 22 (by decide) rfl, nI_l (by omega), ep_lor (by omega) (by have := w.toBitVec.isLt; omega)]
    rfl
  have hu := ep_munp hw (ep_mk c0 m)
  have hx := ep_mexcept m (ep_unp way) addr c0
  unfold eF_12_allowed ep_alb
  rw [hu]
  simp only [↓ep_J, ↓ep_sb, hx, e1, e2, q1, q2, if_true]
  rw [ep_rM _ _ 131 (by decide), ep_rM _ _ 133 (by decide)]
  have : way = 0 ∨ way = 1 ∨ way = 2 := by omega
  rcases this with rfl | rfl | rfl
  · rcases ga with ga | ga <;> rw [ga] <;> by_cases y8 : w &&& 8 = 0 <;> by_cases y64 : w &&& 64 = 0 <;> by_cases y16 : w &&& 16 = 0 <;> cases great <;> simp [y8, y64, y16, ep_bi, nI_0] <;> decide
  · rcases ga with ga | ga <;> rw [ga] <;> by_cases y2 : w &&& 2 = 0 <;> by_cases y8 : w &&& 8 = 0 <;> by_cases y64 : w &&& 64 = 0 <;> by_cases y16 : w &&& 16 = 0 <;> by_cases y19 : m.1 133 h &&& 524288 = 0 <;> by_cases y18 : m.1 133 h &&& 262144 = 0 <;> cases great <;> simp [y2, y8, y64, y16, y19, y18, ep_bi, show ¬ nI 1 = 0 by decide, show ¬ nI 1 = 2 by decide]
  · rcases ga with ga | ga <;> rw [ga] <;> by_cases y4 : w &&& 4 = 0 <;> by_cases y64 : w &&& 64 = 0 <;> by_cases y16 : w &&& 16 = 0 <;> by_cases y128 : w &&& 128 = 0 <;> by_cases y18 : m.1 133 h &&& 262144 = 0 <;> cases great <;> simp [y4, y64, y16, y128, y18, ep_bi, show ¬ nI 2 = 0 by decide, show nI 2 = 2 by decide]
theorem ep_R_mg {N : Nat} {c : ep_C} {m : ep_M} (hR : ep_R N c m) (n : Int32) (f g r : Nat → Int32) : ep_R N c (ep_mg m n f g r) := ⟨hR.1, hR.2.1, hR.2.2.1, hR.2.2.2.1, hR.2.2.2.2.1, hR.2.2.2.2.2.1, hR.2.2.2.2.2.2.1, hR.2.2.2.2.2.2.2.1, hR.2.2.2.2.2.2.2.2.1, hR.2.2.2.2.2.2.2.2.2.1, hR.2.2.2.2.2.2.2.2.2.2.1, hR.2.2.2.2.2.2.2.2.2.2.2.1, hR.2.2.2.2.2.2.2.2.2.2.2.2.1, hR.2.2.2.2.2.2.2.2.2.2.2.2.2.1, hR.2.2.2.2.2.2.2.2.2.2.2.2.2.2.1, hR.2.2.2.2.2.2.2.2.2.2.2.2.2.2.2.1, hR.2.2.2.2.2.2.2.2.2.2.2.2.2.2.2.2.1, hR.2.2.2.2.2.2.2.2.2.2.2.2.2.2.2.2.2.1, hR.2.2.2.2.2.2.2.2.2.2.2.2.2.2.2.2.2.2.1, hR.2.2.2.2.2.2.2.2.2.2.2.2.2.2.2.2.2.2.2.1, hR.2.2.2.2.2.2.2.2.2.2.2.2.2.2.2.2.2.2.2.2.1, hR.2.2.2.2.2.2.2.2.2.2.2.2.2.2.2.2.2.2.2.2.2.1, hR.2.2.2.2.2.2.2.2.2.2.2.2.2.2.2.2.2.2.2.2.2.2.1, hR.2.2.2.2.2.2.2.2.2.2.2.2.2.2.2.2.2.2.2.2.2.2.2.1, hR.2.2.2.2.2.2.2.2.2.2.2.2.2.2.2.2.2.2.2.2.2.2.2.2.1, hR.2.2.2.2.2.2.2.2.2.2.2.2.2.2.2.2.2.2.2.2.2.2.2.2.2.1, hR.2.2.2.2.2.2.2.2.2.2.2.2.2.2.2.2.2.2.2.2.2.2.2.2.2.2.1, hR.2.2.2.2.2.2.2.2.2.2.2.2.2.2.2.2.2.2.2.2.2.2.2.2.2.2.2.1, hR.2.2.2.2.2.2.2.2.2.2.2.2.2.2.2.2.2.2.2.2.2.2.2.2.2.2.2.2.1, hR.2.2.2.2.2.2.2.2.2.2.2.2.2.2.2.2.2.2.2.2.2.2.2.2.2.2.2.2.2.1, hR.2.2.2.2.2.2.2.2.2.2.2.2.2.2.2.2.2.2.2.2.2.2.2.2.2.2.2.2.2.2.1, hR.2.2.2.2.2.2.2.2.2.2.2.2.2.2.2.2.2.2.2.2.2.2.2.2.2.2.2.2.2.2.2.1, hR.2.2.2.2.2.2.2.2.2.2.2.2.2.2.2.2.2.2.2.2.2.2.2.2.2.2.2.2.2.2.2.2.1, hR.2.2.2.2.2.2.2.2.2.2.2.2.2.2.2.2.2.2.2.2.2.2.2.2.2.2.2.2.2.2.2.2.2⟩
theorem ep_R_mF {N : Nat} {c : ep_C} {m : ep_M} (hR : ep_R N c m) (x v : Int32) : ep_R N c (ep_mF m x v) := ⟨hR.1, hR.2.1, hR.2.2.1, hR.2.2.2.1, hR.2.2.2.2.1, hR.2.2.2.2.2.1, hR.2.2.2.2.2.2.1, hR.2.2.2.2.2.2.2.1, hR.2.2.2.2.2.2.2.2.1, hR.2.2.2.2.2.2.2.2.2.1, hR.2.2.2.2.2.2.2.2.2.2.1, hR.2.2.2.2.2.2.2.2.2.2.2.1, hR.2.2.2.2.2.2.2.2.2.2.2.2.1, hR.2.2.2.2.2.2.2.2.2.2.2.2.2.1, hR.2.2.2.2.2.2.2.2.2.2.2.2.2.2.1, hR.2.2.2.2.2.2.2.2.2.2.2.2.2.2.2.1, hR.2.2.2.2.2.2.2.2.2.2.2.2.2.2.2.2.1, hR.2.2.2.2.2.2.2.2.2.2.2.2.2.2.2.2.2.1, hR.2.2.2.2.2.2.2.2.2.2.2.2.2.2.2.2.2.2.1, hR.2.2.2.2.2.2.2.2.2.2.2.2.2.2.2.2.2.2.2.1, hR.2.2.2.2.2.2.2.2.2.2.2.2.2.2.2.2.2.2.2.2.1, hR.2.2.2.2.2.2.2.2.2.2.2.2.2.2.2.2.2.2.2.2.2.1, hR.2.2.2.2.2.2.2.2.2.2.2.2.2.2.2.2.2.2.2.2.2.2.1, hR.2.2.2.2.2.2.2.2.2.2.2.2.2.2.2.2.2.2.2.2.2.2.2.1, hR.2.2.2.2.2.2.2.2.2.2.2.2.2.2.2.2.2.2.2.2.2.2.2.2.1, hR.2.2.2.2.2.2.2.2.2.2.2.2.2.2.2.2.2.2.2.2.2.2.2.2.2.1, hR.2.2.2.2.2.2.2.2.2.2.2.2.2.2.2.2.2.2.2.2.2.2.2.2.2.2.1, hR.2.2.2.2.2.2.2.2.2.2.2.2.2.2.2.2.2.2.2.2.2.2.2.2.2.2.2.1, hR.2.2.2.2.2.2.2.2.2.2.2.2.2.2.2.2.2.2.2.2.2.2.2.2.2.2.2.2.1, hR.2.2.2.2.2.2.2.2.2.2.2.2.2.2.2.2.2.2.2.2.2.2.2.2.2.2.2.2.2.1, hR.2.2.2.2.2.2.2.2.2.2.2.2.2.2.2.2.2.2.2.2.2.2.2.2.2.2.2.2.2.2.1, hR.2.2.2.2.2.2.2.2.2.2.2.2.2.2.2.2.2.2.2.2.2.2.2.2.2.2.2.2.2.2.2.1, hR.2.2.2.2.2.2.2.2.2.2.2.2.2.2.2.2.2.2.2.2.2.2.2.2.2.2.2.2.2.2.2.2.1, hR.2.2.2.2.2.2.2.2.2.2.2.2.2.2.2.2.2.2.2.2.2.2.2.2.2.2.2.2.2.2.2.2.2⟩
theorem ep_R_cF {N : Nat} {c : ep_C} {m : ep_M} (hR : ep_R N c m) (x v : Int32) : ep_R N (ep_cF c x v) m := ⟨hR.1, hR.2.1, hR.2.2.1, hR.2.2.2.1, hR.2.2.2.2.1, hR.2.2.2.2.2.1, hR.2.2.2.2.2.2.1, hR.2.2.2.2.2.2.2.1, hR.2.2.2.2.2.2.2.2.1, hR.2.2.2.2.2.2.2.2.2.1, hR.2.2.2.2.2.2.2.2.2.2.1, hR.2.2.2.2.2.2.2.2.2.2.2.1, hR.2.2.2.2.2.2.2.2.2.2.2.2.1, hR.2.2.2.2.2.2.2.2.2.2.2.2.2.1, hR.2.2.2.2.2.2.2.2.2.2.2.2.2.2.1, hR.2.2.2.2.2.2.2.2.2.2.2.2.2.2.2.1, hR.2.2.2.2.2.2.2.2.2.2.2.2.2.2.2.2.1, hR.2.2.2.2.2.2.2.2.2.2.2.2.2.2.2.2.2.1, hR.2.2.2.2.2.2.2.2.2.2.2.2.2.2.2.2.2.2.1, hR.2.2.2.2.2.2.2.2.2.2.2.2.2.2.2.2.2.2.2.1, hR.2.2.2.2.2.2.2.2.2.2.2.2.2.2.2.2.2.2.2.2.1, hR.2.2.2.2.2.2.2.2.2.2.2.2.2.2.2.2.2.2.2.2.2.1, hR.2.2.2.2.2.2.2.2.2.2.2.2.2.2.2.2.2.2.2.2.2.2.1, hR.2.2.2.2.2.2.2.2.2.2.2.2.2.2.2.2.2.2.2.2.2.2.2.1, hR.2.2.2.2.2.2.2.2.2.2.2.2.2.2.2.2.2.2.2.2.2.2.2.2.1, hR.2.2.2.2.2.2.2.2.2.2.2.2.2.2.2.2.2.2.2.2.2.2.2.2.2.1, hR.2.2.2.2.2.2.2.2.2.2.2.2.2.2.2.2.2.2.2.2.2.2.2.2.2.2.1, hR.2.2.2.2.2.2.2.2.2.2.2.2.2.2.2.2.2.2.2.2.2.2.2.2.2.2.2.1, hR.2.2.2.2.2.2.2.2.2.2.2.2.2.2.2.2.2.2.2.2.2.2.2.2.2.2.2.2.1, hR.2.2.2.2.2.2.2.2.2.2.2.2.2.2.2.2.2.2.2.2.2.2.2.2.2.2.2.2.2.1, hR.2.2.2.2.2.2.2.2.2.2.2.2.2.2.2.2.2.2.2.2.2.2.2.2.2.2.2.2.2.2.1, hR.2.2.2.2.2.2.2.2.2.2.2.2.2.2.2.2.2.2.2.2.2.2.2.2.2.2.2.2.2.2.2.1, hR.2.2.2.2.2.2.2.2.2.2.2.2.2.2.2.2.2.2.2.2.2.2.2.2.2.2.2.2.2.2.2.2.1, hR.2.2.2.2.2.2.2.2.2.2.2.2.2.2.2.2.2.2.2.2.2.2.2.2.2.2.2.2.2.2.2.2.2⟩
