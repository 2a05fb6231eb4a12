/-! what a thread reaches -/
def ep_rb (m : ep_M) (P : Nat → Int32) (e u : Nat) (acc : Int32) (n : Nat) : Bool := ep_all (fun k => decide (u + k < 131072) && decide (ep_rq (m.1 164) (m.1 167) (m.1 168) (m.1 169) P (nI e) (u + k) &&& acc ≠ 0)) n
theorem ep_rb_u {m : ep_M} {P : Nat → Int32} {e u : Nat} {acc : Int32} {n : Nat} (h : ep_rb m P e u acc n = true) : ∀ k, k < n → u + k < 131072 := by
  intro k hk
  have := ep_all_iff.mp h k hk
  rw [Bool.and_eq_true, decide_eq_true_eq] at this
  exact this.1
theorem ep_rb_f {m : ep_M} {P : Nat → Int32} {e u : Nat} {acc : Int32} {i n : Nat} (h : ep_rb m P e u acc i = false) (hi : i ≤ n) : ep_rb m P e u acc n = false := by
  rw [Bool.eq_false_iff] at h ⊢
  intro z
  exact h (ep_all_iff.mpr fun j hj => ep_all_iff.mp z j (by omega))
theorem ep_uadd {x : Int32} {k : Nat} (h : ep_u x + k < 4294967296) : ep_u (x + nI k) = ep_u x + k := by
  unfold ep_u at h ⊢
  have h1 : (nI k).toBitVec.toNat = k % 2 ^ 32 := by show (BitVec.ofNat 32 k).toNat = _; rw [BitVec.toNat_ofNat]
  rw [Int32.toBitVec_add, BitVec.toNat_add, h1]
  omega
theorem ep_addu (x : Int32) (k : Nat) : x + nI k = nI (ep_u x + k) := by
  rw [← nI_add]
  congr 1
  exact (ep_nIu x).symm
theorem ep_creaches {N : Nat} {c : ep_C} {m : ep_M} (hR : ep_R N c m) {t e : Nat} (ht : t < 12) (he : e < 6) (hto : m.1 149 t = nI e) (addr acc : Int32) {n : Nat} (hn : n < 1000) (m0 : ep_M) : eF_3_reaches (ep_mk c m0) (eh_fp (nI t)) addr (nI n) acc = some (ep_bi (ep_rb m (c.1 10) e (ep_u addr) acc n)) := by
  have f3 : (ep_mk c m0).1 (eh_fp (nI t)) 3 = nI e := by rw [ep_rF0 _ _ ht, (hR.2.2.2.2.2.2.2.2.2.2.1 t ht).2.2.1, hto]
  have hul := ep_u_lt addr
  have hr : ∀ i, i < n → eF_6_rightsAt (ep_mk c m0) ((addr.toInt64 &&& 4294967295) + (nI i).toInt64) (nI e) = some (if ep_u addr + i < 131072 then ep_rq (m.1 164) (m.1 167) (m.1 168) (m.1 169) (c.1 10) (nI e) (ep_u addr + i) else 0) := by
    intro i hi
    rw [ep_low32, nI_l (by omega), lN_add]
    exact ep_crightsE hR he (q := ep_u addr + i) (by omega) m0
  unfold eF_3_reaches
  rw [f3]
  refine ep_lpf (fun i => nI i) n (fun k => decide (ep_u addr + k < 131072) && decide (ep_rq (m.1 164) (m.1 167) (m.1 168) (m.1 169) (c.1 10) (nI e) (ep_u addr + k) &&& acc ≠ 0)) (fun _ => .inr ()) (.inl ()) (by omega) rfl ?_ ?_ ?_ ?_ ?_
  · intro i hi hb rec
    rw [Bool.and_eq_true, decide_eq_true_eq, decide_eq_true_eq] at hb
    show (if nI i < nI n then _ else _) = _
    rw [if_pos (nI_lt hi (by omega)), hr i hi, ep_sb, if_pos hb.1, if_neg hb.2, ep_V, nI_1]
  · intro i hi hb rec
    show (if nI i < nI n then _ else _) = _
    rw [if_pos (nI_lt hi (by omega)), hr i hi, ep_sb, if_pos]
    by_cases y : ep_u addr + i < 131072
    · rw [if_pos y]
      simpa [y] using hb
    · rw [if_neg y, Int32.zero_and]
  · intro rec
    show (if nI n < nI n then _ else _) = _
    rw [if_neg (nI_nlt (Nat.le_refl _) (by omega))]
  · intro h
    have : ep_rb m (c.1 10) e (ep_u addr) acc n = true := ep_all_iff.mpr h
    rw [this]; rfl
  · intro j hj hb _
    have : ep_rb m (c.1 10) e (ep_u addr) acc n = false := by
      rw [Bool.eq_false_iff]
      intro z
      have := ep_all_iff.mp z j hj
      rw [hb] at this
      exact absurd this (by decide)
    rw [this]; rfl
theorem ep_On_L {m M : ep_M} (hL : ep_L m M) {h t e : Nat} (ho : ep_On m h t e) : ep_On M h t e := by
  obtain ⟨a, b, d, e1, e2, e3, e4⟩ := ho
  have g := hL.1
  refine ⟨a, b, d, ?_, ?_, ?_, ?_⟩
  · rw [g 144 (by decide) (by decide) (by decide) (by decide) (by decide) (by decide) (by decide) (by decide) (by decide) (by decide) (by decide)]; exact e1
  · rw [g 149 (by decide) (by decide) (by decide) (by decide) (by decide) (by decide) (by decide) (by decide) (by decide) (by decide) (by decide)]; exact e2
  · rw [g 155 (by decide) (by decide) (by decide) (by decide) (by decide) (by decide) (by decide) (by decide) (by decide) (by decide) (by decide)]; exact e3
  · rw [g 148 (by decide) (by decide) (by decide) (by decide) (by decide) (by decide) (by decide) (by decide) (by decide) (by decide) (by decide)]; exact e4
theorem ep_Lk {m M : ep_M} (hL : ep_L m M) (k : Nat) (hk : k < 170 ∧ k ≠ 127 ∨ 172 < k ∧ k < 188) : M.1 k = m.1 k := hL.1 k (by omega) (by omega) (by omega) (by omega) (by omega) (by omega) (by omega) (by omega) (by omega) (by omega) (by omega)
/-- one byte -/
theorem ep_mlet1 {N : Nat} {c : ep_C} {m M : ep_M} (hR : ep_R N c m) (hL : ep_L m M) {h t e : Nat} (ho : ep_On m h t e) {q : Nat} (hq : q < 2 ^ 40) (acc : Int32) : ∃ n f g r, ∀ c0, eF_12_isLet (ep_mk c0 M) (nI h) (lN q) 1 acc = some (ep_bi (decide (q < 131072) && decide (ep_rq (m.1 164) (m.1 167) (m.1 168) (m.1 169) (c.1 10) (nI e) q &&& acc ≠ 0)), ep_mk c0 (ep_mg M n f g r)) := by
  have hR' := ep_R_L hR hL
  obtain ⟨a, b, d, e1, e2, e3, e4⟩ := ep_On_L hL ho
  obtain ⟨n, f, g, r, hl⟩ := ep_mLetE hR' a b d e1 e2 (by rw [e3]; decide) (n := 1) (Or.inl rfl) (Nat.mod_one q) hq acc
  rw [ep_Lk hL 164 (by omega), ep_Lk hL 167 (by omega), ep_Lk hL 168 (by omega), ep_Lk hL 169 (by omega)] at hl
  exact ⟨n, f, g, r, hl⟩
theorem ep_at {m : ep_M} {P : Nat → Int32} {e : Nat} {addr acc : Int32} {i : Nat} (h : ep_rb m P e (ep_u addr) acc i = true) (hi : i < 1000) : (addr + nI i).toInt64 &&& 4294967295 = lN (ep_u addr + i) ∧ ep_u addr + i < 2 ^ 40 := by
  have hul := ep_u_lt addr
  refine ⟨?_, by omega⟩
  rw [ep_low32]
  show lN (ep_u (addr + nI i)) = _
  by_cases z : i = 0
  · subst z
    rw [show addr + nI 0 = addr from Int32.add_zero addr, Nat.add_zero]
  · have := ep_rb_u h 0 (by omega)
    rw [ep_uadd (by omega)]
theorem ep_mcanW {N : Nat} {c : ep_C} {m : ep_M} (hR : ep_R N c m) {h t e : Nat} (ho : ep_On m h t e) (addr : Int32) {n : Nat} (hn : n < 1000) : ∃ M, (ep_L m M ∧ M.1 195 = m.1 195) ∧ ∀ c0, eF_12_canWrite (ep_mk c0 m) (nI h) addr (nI n) = some (ep_bi (ep_rb m (c.1 10) e (ep_u addr) 2 n), ep_mk c0 M) := by
  have key := ep_minv0 (A := ep_C) (X := Bool × ep_M) (body := fun _ (r5 : (Int32 × Int32 × eh_F) → Option (Int32 × eh_F)) (t1 : Int32 × Int32 × eh_F) => if t1.2.1 < nI n then (if t1.1 = 0 then (some (t1.1, t1.2.2)) else (Option.bind (eF_12_isLet t1.2.2 (nI h) (((addr + t1.2.1).toInt64) &&& 4294967295) 1 2) (fun q8 => eh_V ((t1.2.1 + 1) : Int32) (fun x9 => r5 (q8.1, x9, q8.2))))) else (some (t1.1, t1.2.2))) (fun c0 i x => (ep_bi x.1, nI i, ep_mk c0 x.2)) (fun G => ∃ M, (ep_L m M ∧ M.1 195 = m.1 195) ∧ ∀ c0, G c0 = some (ep_bi (ep_rb m (c.1 10) e (ep_u addr) 2 n), ep_mk c0 M)) (fun i x => x.1 = ep_rb m (c.1 10) e (ep_u addr) 2 i ∧ ep_L m x.2 ∧ x.2.1 195 = m.1 195) n (by omega) ?_ ?_ (true, m) ⟨rfl, ep_L_rf m, rfl⟩
  · obtain ⟨G, ⟨M, h1, h2⟩, h3⟩ := key
    refine ⟨M, h1, fun c0 => ?_⟩
    unfold eF_12_canWrite
    refine ep_bnd ((h3 c0).trans (h2 c0)) ?_
    rw [if_pos (ep_bi_bo _)]
  · rintro i ⟨b, M⟩ hi ⟨p1, p2, p3⟩
    dsimp only at p1 p2 p3
    cases b with
    | false =>
      right
      refine ⟨fun c0 => some (ep_bi (ep_rb m (c.1 10) e (ep_u addr) 2 n), ep_mk c0 M), ⟨M, ⟨p2, p3⟩, fun c0 => rfl⟩, fun c0 rec => ?_⟩
      show (if nI i < nI n then (if ep_bi false = 0 then some (ep_bi false, ep_mk c0 M) else _) else _) = _
      rw [if_pos (nI_lt hi (by omega)), if_pos ep_bf, ep_rb_f p1.symm (by omega)]
    | true =>
      left
      obtain ⟨a1, a2⟩ := ep_at p1.symm (by omega)
      obtain ⟨n', f, g, r, hl⟩ := ep_mlet1 hR p2 ho a2 2
      refine ⟨(decide (ep_u addr + i < 131072) && decide (ep_rq (m.1 164) (m.1 167) (m.1 168) (m.1 169) (c.1 10) (nI e) (ep_u addr + i) &&& 2 ≠ 0), ep_mg M n' f g r), ⟨?_, ep_L_tr p2 (ep_L_mg n' f g r), p3⟩, fun c0 rec => ?_⟩
      · show _ = (ep_rb m (c.1 10) e (ep_u addr) 2 i && _)
        rw [← p1, Bool.true_and]
      · show (if nI i < nI n then (if ep_bi true = 0 then _ else _) else _) = _
        rw [if_pos (nI_lt hi (by omega)), if_neg ep_bt, a1, hl c0, ep_sb, ep_V, nI_1]
  · rintro ⟨b, M⟩ ⟨p1, p2, p3⟩
    dsimp only at p1 p2 p3
    refine ⟨fun c0 => some (ep_bi (ep_rb m (c.1 10) e (ep_u addr) 2 n), ep_mk c0 M), ⟨M, ⟨p2, p3⟩, fun c0 => rfl⟩, fun c0 rec => ?_⟩
    show (if nI n < nI n then _ else some (ep_bi b, ep_mk c0 M)) = _
    rw [if_neg (nI_nlt (Nat.le_refl _) (by omega)), p1]
theorem ep_mcanR {N : Nat} {c : ep_C} {m : ep_M} (hR : ep_R N c m) {h t e : Nat} (ho : ep_On m h t e) (addr : Int32) {n : Nat} (hn : n ≤ 128) : ∃ M, ep_L m M ∧ (∀ c0, eF_12_canRead (ep_mk c0 m) (nI h) addr (nI n) = some (ep_bi (ep_rb m (c.1 10) e (ep_u addr) 1 n), ep_mk c0 M)) ∧ (ep_rb m (c.1 10) e (ep_u addr) 1 n = true → ∀ k, k < n → M.1 195 k = eh_nb (m.1 128 (ep_u addr + k))) := by
  have key := ep_minv0 (A := ep_C) (X := Bool × ep_M) (body := fun _ (r5 : (Int32 × Int32 × eh_F) → Option (Int32 × eh_F)) (t1 : Int32 × Int32 × eh_F) => if t1.2.1 < nI n then (if t1.1 = 0 then (some (t1.1, t1.2.2)) else (eh_V ((((addr + t1.2.1).toInt64) &&& 4294967295) : Int64) (fun x8 => Option.bind (eF_12_isLet t1.2.2 (nI h) x8 1 1) (fun q9 => eh_J (fun (s11 : eh_F) => eh_V ((t1.2.1 + 1) : Int32) (fun x12 => r5 (q9.1, x12, s11))) (fun j10 => if q9.1 = 0 then (j10 q9.2) else (if eh_in (x8.toInt32) 131072 then if eh_in t1.2.1 128 then eh_V (eh_tI q9.2 195 (eh_ix t1.2.1) (eh_nb (q9.2.1 128 (eh_ix (x8.toInt32))))) (fun s14 => j10 s14) else none else none)))))) else (some (t1.1, t1.2.2))) (fun c0 i x => (ep_bi x.1, nI i, ep_mk c0 x.2)) (fun G => ∃ M, ep_L m M ∧ (∀ c0, G c0 = some (ep_bi (ep_rb m (c.1 10) e (ep_u addr) 1 n), ep_mk c0 M)) ∧ (ep_rb m (c.1 10) e (ep_u addr) 1 n = true → ∀ k, k < n → M.1 195 k = eh_nb (m.1 128 (ep_u addr + k)))) (fun i x => x.1 = ep_rb m (c.1 10) e (ep_u addr) 1 i ∧ ep_L m x.2 ∧ (x.1 = true → ∀ k, k < i → x.2.1 195 k = eh_nb (m.1 128 (ep_u addr + k)))) n (by omega) ?_ ?_ (true, m) ⟨rfl, ep_L_rf m, fun _ k hk => absurd hk (Nat.not_lt_zero k)⟩
  · obtain ⟨G, ⟨M, h1, h2, h4⟩, h3⟩ := key
    refine ⟨M, h1, fun c0 => ?_, h4⟩
    unfold eF_12_canRead
    refine ep_bnd ((h3 c0).trans (h2 c0)) ?_
    rw [if_pos (ep_bi_bo _)]
  · rintro i ⟨b, M⟩ hi ⟨p1, p2, p3⟩
    dsimp only at p1 p2 p3
    cases b with
    | false =>
      right
      refine ⟨fun c0 => some (ep_bi (ep_rb m (c.1 10) e (ep_u addr) 1 n), ep_mk c0 M), ⟨M, p2, fun c0 => rfl, fun z => ?_⟩, fun c0 rec => ?_⟩
      · rw [ep_rb_f p1.symm (by omega)] at z; exact absurd z (by decide)
      · show (if nI i < nI n then (if ep_bi false = 0 then some (ep_bi false, ep_mk c0 M) else _) else _) = _
        rw [if_pos (nI_lt hi (by omega)), if_pos ep_bf, ep_rb_f p1.symm (by omega)]
    | true =>
      left
      obtain ⟨a1, a2⟩ := ep_at p1.symm (by omega)
      obtain ⟨n', f, g, r, hl⟩ := ep_mlet1 hR p2 ho a2 1
      cases hb : (decide (ep_u addr + i < 131072) && decide (ep_rq (m.1 164) (m.1 167) (m.1 168) (m.1 169) (c.1 10) (nI e) (ep_u addr + i) &&& 1 ≠ 0)) with
      | false =>
        refine ⟨(false, ep_mg M n' f g r), ⟨?_, ep_L_tr p2 (ep_L_mg n' f g r), fun z => absurd (show false = true from z) (by decide)⟩, fun c0 rec => ?_⟩
        · show false = (ep_rb m (c.1 10) e (ep_u addr) 1 i && (decide (ep_u addr + i < 131072) && decide (ep_rq (m.1 164) (m.1 167) (m.1 168) (m.1 169) (c.1 10) (nI e) (ep_u addr + i) &&& 1 ≠ 0)))
          rw [hb, Bool.and_false]
        · show (if nI i < nI n then (if ep_bi true = 0 then _ else _) else _) = _
          rw [if_pos (nI_lt hi (by omega)), if_neg ep_bt, ep_V, a1, hl c0, ep_sb, hb, ep_J, if_pos ep_bf]
          simp only [ep_V, nI_1]
      | true =>
        have hu : ep_u addr + i < 131072 := by
          rw [Bool.and_eq_true, decide_eq_true_eq] at hb
          exact hb.1
        refine ⟨(true, ep_mI (ep_mg M n' f g r) 195 i (eh_nb (m.1 128 (ep_u addr + i)))), ⟨?_, ep_L_tr p2 (ep_L_tr (ep_L_mg n' f g r) (ep_L_mL _ (by decide))), fun _ k hk => ?_⟩, fun c0 rec => ?_⟩
        · show true = (ep_rb m (c.1 10) e (ep_u addr) 1 i && (decide (ep_u addr + i < 131072) && decide (ep_rq (m.1 164) (m.1 167) (m.1 168) (m.1 169) (c.1 10) (nI e) (ep_u addr + i) &&& 1 ≠ 0)))
          rw [hb, ← p1]; rfl
        · show (ep_mI (ep_mg M n' f g r) 195 i (eh_nb (m.1 128 (ep_u addr + i)))).1 195 k = _
          rw [ep_mI1]
          by_cases y : k = i
          · rw [y, ep_upd_eq]
          · rw [ep_upd_ne y]
            exact p3 rfl k (by omega)
        · show (if nI i < nI n then (if ep_bi true = 0 then _ else _) else _) = _
          rw [if_pos (nI_lt hi (by omega)), if_neg ep_bt, ep_V, a1, hl c0, ep_sb, hb, ep_J, if_neg ep_bt, lN_i, if_pos (ep_in hu (by decide)), if_pos (ep_in (show i < 128 by omega) (by decide)), ep_V, show eh_ix (nI i) = i from ep_ix (by omega), show eh_ix (nI (ep_u addr + i)) = ep_u addr + i from ep_ix (by omega), ep_rM _ _ 128 (by decide), show (ep_mg M n' f g r).1 128 = m.1 128 from ep_Lk p2 128 (by omega), ep_iM _ _ _ _ _ (by decide)]
          simp only [ep_V, nI_1]
  · rintro ⟨b, M⟩ ⟨p1, p2, p3⟩
    dsimp only at p1 p2 p3
    refine ⟨fun c0 => some (ep_bi (ep_rb m (c.1 10) e (ep_u addr) 1 n), ep_mk c0 M), ⟨M, p2, fun c0 => rfl, fun z => p3 (p1.trans z)⟩, fun c0 rec => ?_⟩
    show (if nI n < nI n then _ else some (ep_bi b, ep_mk c0 M)) = _
    rw [if_neg (nI_nlt (Nat.le_refl _) (by omega)), p1]
