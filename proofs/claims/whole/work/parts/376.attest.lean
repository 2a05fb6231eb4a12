/-! attest, extend -/
theorem ep_part {σ τ : Type} {B1 : (σ → Option eh_F) → σ → Option eh_F} {B2 : (τ → Option eh_F) → τ → Option eh_F} (e1 : Nat → eh_F → σ) (e2 : Nat → eh_F → τ) (P : Nat → ep_C → ep_M → Prop) : ∀ (n a : Nat) (c : ep_C) (m : ep_M),
    (∀ i c m, a ≤ i → i < a + n → P i c m → ∃ c' m', P (i + 1) c' m' ∧ (∀ m0 rec, B1 rec (e1 i (ep_mk c m0)) = rec (e1 (i + 1) (ep_mk c' m0))) ∧ (∀ c0 rec, B2 rec (e2 i (ep_mk c0 m)) = rec (e2 (i + 1) (ep_mk c0 m')))) → P a c m → ∃ c' m', P (a + n) c' m' ∧ (∀ m0 fu, eh_loop B1 (fu + n) (e1 a (ep_mk c m0)) = eh_loop B1 fu (e1 (a + n) (ep_mk c' m0))) ∧ (∀ c0 fu, eh_loop B2 (fu + n) (e2 a (ep_mk c0 m)) = eh_loop B2 fu (e2 (a + n) (ep_mk c0 m')))
  | 0, a, c, m, _, hp => ⟨c, m, hp, fun _ _ => rfl, fun _ _ => rfl⟩
  | n + 1, a, c, m, hs, hp => by
    obtain ⟨c1, m1, p1, x1, y1⟩ := hs a c m (Nat.le_refl _) (by omega) hp
    obtain ⟨c2, m2, p2, x2, y2⟩ := ep_part e1 e2 P n (a + 1) c1 m1 (fun i c m h1 h2 => hs i c m (by omega) (by omega)) p1
    refine ⟨c2, m2, by rw [show a + (n + 1) = a + 1 + n by omega]; exact p2, fun m0 fu => ?_, fun c0 fu => ?_⟩
    · rw [show fu + (n + 1) = (fu + n) + 1 from rfl, ep_loopS, x1, x2, show a + (n + 1) = a + 1 + n by omega]
    · rw [show fu + (n + 1) = (fu + n) + 1 from rfl, ep_loopS, y1, y2, show a + (n + 1) = a + 1 + n by omega]
def ep_WB (n : Nat) (th : Nat) (addr : Int32) (p np : Nat) : ((Int32 × eh_F) → Option eh_F) → (Int32 × eh_F) → Option eh_F := fun (r4 : (Int32 × eh_F) → Option (eh_F)) (t1 : Int32 × eh_F) => if t1.1 < nI n then (if (t1.1 / 4) < (Int32.ofNat np) then (if eh_in (t1.1 / 4) np then Option.bind (eF_5_storeFor t1.2 th (addr + t1.1) ((eh_ushr (t1.2.1 p (eh_ix (t1.1 / 4))) (24 - (8 * (t1.1 &&& 3)))) &&& 255) 1) (fun q7 => eh_V ((t1.1 + 1) : Int32) (fun x8 => r4 (x8, q7))) else none) else (some t1.2)) else (some t1.2)
def ep_WM (n : Nat) (h addr : Int32) (pm npm : Nat) (O : Int32) : ((Int32 × eh_F) → Option eh_F) → (Int32 × eh_F) → Option eh_F := fun (r4 : (Int32 × eh_F) → Option (eh_F)) (t1 : Int32 × eh_F) => if t1.1 < nI n then (if eh_in (O + t1.1) npm then Option.bind (eF_12_storeAt t1.2 h (addr + t1.1) 1 (t1.2.1 pm (eh_ix (O + t1.1)))) (fun q6 => eh_V ((t1.1 + 1) : Int32) (fun x7 => r4 (x7, q6))) else none) else (some t1.2)
theorem ep_cwrite_eq (s : eh_F) (th : Nat) (addr : Int32) (p np n : Nat) : eF_3_write s th addr p np (nI n) = Option.bind (eh_loop (ep_WB n th addr p np) eh_FU (nI 0, s)) (fun e2 => some e2) := rfl
theorem ep_mwrite_eq (s : eh_F) (h addr : Int32) (pm npm n : Nat) (O : Int32) : eF_12_writeTo s h addr pm npm O (nI n) = Option.bind (eh_loop (ep_WM n h addr pm npm O) eh_FU (nI 0, s)) (fun e2 => some e2) := rfl
theorem ep_WB_end (n th : Nat) (addr : Int32) (p np : Nat) (hn : n < 1000) (fu : Nat) (s : eh_F) : eh_loop (ep_WB n th addr p np) (fu + 1) (nI n, s) = some s := by
  rw [ep_loopS]
  unfold ep_WB
  show (if nI n < nI n then _ else _) = _
  rw [if_neg (nI_nlt (Nat.le_refl _) (by omega))]
theorem ep_WM_end (n : Nat) (h addr : Int32) (pm npm : Nat) (O : Int32) (hn : n < 1000) (fu : Nat) (s : eh_F) : eh_loop (ep_WM n h addr pm npm O) (fu + 1) (nI n, s) = some s := by
  rw [ep_loopS]
  unfold ep_WM
  show (if nI n < nI n then _ else _) = _
  rw [if_neg (nI_nlt (Nat.le_refl _) (by omega))]
/-- n bytes, from place a1 of the class's row and place a2 of the reference's -/
theorem ep_wseg {N : Nat} {c : ep_C} {m : ep_M} (hR : ep_R N c m) {n : Nat} (hN : N + n < 2 ^ 28) {h t e : Nat} (ho : ep_On m h t e) (addr1 addr2 : Int32) (a1 a2 n1 n2 : Nat) (h1 : a1 + n ≤ n1) (h2 : a2 + n ≤ n2) (hn1 : n1 ≤ 128) (hn2 : n2 ≤ 128) (hu : ∀ k, k < n → ep_u addr1 + (a1 + k) < 131072) (hadr : ep_u addr2 + a2 = ep_u addr1 + a1) (p np pm npm off : Nat) (f : Nat → Int32) (hrd : ∀ X Y g v m0, (ep_mk (ep_cw c X Y g v) m0).1 p = f) (hnp : n1 ≤ 4 * np ∧ np < 1000) (hpm : 127 < pm ∧ pm ≠ 128 ∧ pm ≠ 147 ∧ pm ≠ 173) (hin : off + n2 ≤ npm) (hnpm : npm < 1000000) (hb : ∀ k, k < n → eh_ushr (f ((a1 + k) / 4)) (nI (24 - 8 * ((a1 + k) % 4))) &&& 255 = m.1 pm (off + (a2 + k)) &&& 255) : ∃ c' m', ep_W (N + n) c m c' m' ∧ (∀ m0 fu, eh_loop (ep_WB n1 (eh_fp (nI t)) addr1 p np) (fu + n) (nI a1, ep_mk c m0) = eh_loop (ep_WB n1 (eh_fp (nI t)) addr1 p np) fu (nI (a1 + n), ep_mk c' m0)) ∧ (∀ c0 fu, eh_loop (ep_WM n2 (nI h) addr2 pm npm (nI off)) (fu + n) (nI a2, ep_mk c0 m) = eh_loop (ep_WM n2 (nI h) addr2 pm npm (nI off)) fu (nI (a2 + n), ep_mk c0 m')) := by
  have key := ep_part (B1 := ep_WB n1 (eh_fp (nI t)) addr1 p np) (B2 := ep_WM n2 (nI h) addr2 pm npm (nI off)) (fun i s => (nI (a1 + i), s)) (fun i s => (nI (a2 + i), s)) (fun i c' m' => ep_W (N + i) c m c' m') n 0 c m ?_ (ep_W_rf hR)
  · obtain ⟨c', m', q1, q2, q3⟩ := key
    rw [Nat.zero_add] at q1
    refine ⟨c', m', q1, fun m0 fu => ?_, fun c0 fu => ?_⟩
    · have := q2 m0 fu
      simp only [Nat.add_zero, Nat.zero_add] at this
      exact this
    · have := q3 c0 fu
      simp only [Nat.add_zero, Nat.zero_add] at this
      exact this
  · intro i c1 m1 _ hi hW
    rw [Nat.zero_add] at hi
    have ho1 := ep_W_On hW ho
    have hui := hu i hi
    obtain ⟨⟨X, Y, g, v, hc1⟩, ⟨X', Y', g', v', hm1⟩, hR1⟩ := hW
    have hW : ep_W (N + i) c m c1 m1 := ⟨⟨X, Y, g, v, hc1⟩, ⟨X', Y', g', v', hm1⟩, hR1⟩
    have hmp : m1.1 pm = m.1 pm := by rw [hm1]; exact ep_mw_o _ _ _ _ _ _ ⟨by omega, hpm.2⟩
    have hcp : ∀ m0, (ep_mk c1 m0).1 p = f := fun m0 => by rw [hc1]; exact hrd X Y g v m0
    have hv : (eh_ushr (f ((a1 + i) / 4)) (nI (24 - 8 * ((a1 + i) % 4))) &&& 255) &&& 255 = m1.1 pm (off + (a2 + i)) &&& 255 := by rw [ep_255, hmp]; exact hb i hi
    obtain ⟨c2, m2, x, y, d⟩ := ep_storeFor1 hR1 (by omega) ho1 hui hv
    refine ⟨c2, m2, ep_W_tr hW d, fun m0 rec => ?_, fun c0 rec => ?_⟩
    · have z1 : nI (a1 + i) / 4 = nI ((a1 + i) / 4) := ep_divn (a := a1 + i) (d := 4) (by omega) (by decide) (by decide)
      have z2 : nI ((a1 + i) / 4) < Int32.ofNat np := nI_lt (b := np) (by omega) (by omega)
      have z3 : (24 : Int32) - 8 * (nI (a1 + i) &&& 3) = nI (24 - 8 * ((a1 + i) % 4)) := by
        rw [ep_and3 (by omega), ep_mul (a := (a1 + i) % 4) (b := 8) (y := 8) rfl rfl]
        exact pk_sub (a := 24) (by omega)
      unfold ep_WB
      show (if nI (a1 + i) < nI n1 then _ else _) = _
      rw [if_pos (nI_lt (by omega) (by omega)), z1, if_pos z2, if_pos (ep_in (show (a1 + i) / 4 < np by omega) (by omega)), show eh_ix (nI ((a1 + i) / 4)) = (a1 + i) / 4 from ep_ix (by omega), hcp, z3, ep_addu, x m0, ep_sb, ep_V, nI_1]
      rfl
    · unfold ep_WM
      show (if nI (a2 + i) < nI n2 then _ else _) = _
      rw [if_pos (nI_lt (by omega) (by omega)), nI_add, if_pos (ep_in (show off + (a2 + i) < npm by omega) (by omega)), show eh_ix (nI (off + (a2 + i))) = off + (a2 + i) from ep_ix (by omega), ep_rM _ _ pm (by omega), ep_addu, show ep_u addr2 + (a2 + i) = ep_u addr1 + (a1 + i) by omega, y c0, ep_sb, ep_V, nI_1]
      rfl
/-- the reference gathers a report's first 96 bytes -/
theorem ep_mgath (m : ep_M) {e : Nat} (he : e < 6) (c0 : ep_C) (K : eh_F → Option (Int32 × eh_F)) : Option.bind (eh_loop (fun (r21 : (Int32 × eh_F) → Option (eh_F)) (t7 : Int32 × eh_F) => if t7.1 < 0 then (some t7.2) else (if eh_in t7.1 128 then if eh_in (64 + t7.1) 128 then eh_V (eh_tI t7.2 195 (eh_ix (64 + t7.1)) (eh_nb (t7.2.1 195 (eh_ix t7.1)))) (fun s23 => eh_V ((t7.1 + (-1)) : Int32) (fun x24 => r21 (x24, s23))) else none else none)) eh_FU (31, ep_mk c0 m)) (fun (e8 : eh_F) => Option.bind (eh_loop (fun (r15 : (Int32 × eh_F) → Option (eh_F)) (t9 : Int32 × eh_F) => if t9.1 < 32 then (if eh_in ((32 * nI e) + t9.1) 192 then if eh_in t9.1 128 then eh_V (eh_tI t9.2 195 (eh_ix t9.1) (eh_nb (t9.2.1 159 (eh_ix ((32 * nI e) + t9.1))))) (fun s17 => if eh_in ((32 * nI e) + t9.1) 192 then if eh_in (32 + t9.1) 128 then eh_V (eh_tI s17 195 (eh_ix (32 + t9.1)) (eh_nb (s17.1 160 (eh_ix ((32 * nI e) + t9.1))))) (fun s18 => eh_V ((t9.1 + 1) : Int32) (fun x19 => r15 (x19, s18))) else none else none) else none else none) else (some t9.2)) eh_FU (0, e8)) K) = K (ep_mk c0 (ep_mL m 195 (fun j => if j < 32 then eh_nb (m.1 159 (32 * e + j)) else if j < 64 then eh_nb (m.1 160 (32 * e + (j - 32))) else if j < 96 then eh_nb (m.1 195 (j - 64)) else m.1 195 j))) := by
  have e32 : (32 : Int32) * nI e = nI (32 * e) := ep_mul (b := 32) rfl rfl
  rw [e32]
  refine ep_bnd (v := ep_mk c0 (ep_mL m 195 (fun j => if 64 ≤ j ∧ j < 96 then eh_nb (m.1 195 (j - 64)) else m.1 195 j))) ?_ ?_
  · refine ep_loop (fun i => (31 - nI i, ep_mk c0 (ep_mL m 195 (fun j => if 96 - i ≤ j ∧ j < 96 then eh_nb (m.1 195 (j - 64)) else m.1 195 j)))) 32 _ (ep_FU _ (by decide)) ?_ ?_ ?_
    · intro i hi rec
      have z0 : (31 : Int32) - nI i = nI (31 - i) := pk_sub (a := 31) (by omega)
      have z1 : nI (31 - i) + (-1) = 31 - nI (i + 1) := (by decide : ∀ i : Fin 32, nI (31 - i.val) + (-1) = 31 - nI (i.val + 1)) ⟨i, hi⟩
      have z2 : (64 : Int32) + nI (31 - i) = nI (64 + (31 - i)) := by rw [show (64 : Int32) = nI 64 from rfl, nI_add]
      show (if 31 - nI i < 0 then _ else _) = _
      rw [z0, if_neg (nI_pos (by omega)), if_pos (ep_in (show 31 - i < 128 by omega) (by decide)), z2, if_pos (ep_in (show 64 + (31 - i) < 128 by omega) (by decide)), show eh_ix (nI (31 - i)) = 31 - i from ep_ix (by omega), show eh_ix (nI (64 + (31 - i))) = 64 + (31 - i) from ep_ix (by omega), ep_V, ep_V, ep_rM _ _ 195 (by decide), ep_iM _ _ _ _ _ (by decide), ep_mL1, ep_mLI, z1]
      congr 4
      funext j
      unfold upd
      dsimp only
      by_cases y : j = 64 + (31 - i)
      · rw [if_pos y, if_neg (by omega), if_pos (by omega), show j - 64 = 31 - i by omega]
      · rw [if_neg y]
        by_cases w : 96 - i ≤ j ∧ j < 96
        · rw [if_pos w, if_pos (by omega)]
        · rw [if_neg w, if_neg (by omega)]
    · intro rec
      show (if 31 - nI 32 < 0 then _ else _) = _
      rw [if_pos (by decide)]
    · show (31, _) = (31 - nI 0, ep_mk c0 (ep_mL m 195 _))
      rw [show (31 : Int32) - nI 0 = 31 by decide]
      congr 2
      refine (ep_mLid m 195).symm.trans ?_
      congr 1
      funext j
      rw [if_neg (by omega)]
  · refine ep_bnd (v := ep_mk c0 (ep_mL m 195 (fun j => if j < 32 then eh_nb (m.1 159 (32 * e + j)) else if j < 64 then eh_nb (m.1 160 (32 * e + (j - 32))) else if j < 96 then eh_nb (m.1 195 (j - 64)) else m.1 195 j))) ?_ rfl
    refine ep_loop (fun i => (nI i, ep_mk c0 (ep_mL m 195 (fun j => if j < i then eh_nb (m.1 159 (32 * e + j)) else if 32 ≤ j ∧ j < 32 + i then eh_nb (m.1 160 (32 * e + (j - 32))) else if 64 ≤ j ∧ j < 96 then eh_nb (m.1 195 (j - 64)) else m.1 195 j)))) 32 _ (ep_FU _ (by decide)) ?_ ?_ ?_
    · intro i hi rec
      have z2 : (32 : Int32) + nI i = nI (32 + i) := by rw [show (32 : Int32) = nI 32 from rfl, nI_add]
      show (if nI i < 32 then _ else _) = _
      rw [if_pos (show nI i < 32 from nI_lt (b := 32) hi (by decide)), nI_add, if_pos (ep_in (show 32 * e + i < 192 by omega) (by decide)), if_pos (ep_in (show i < 128 by omega) (by decide)), show eh_ix (nI i) = i from ep_ix (by omega), show eh_ix (nI (32 * e + i)) = 32 * e + i from ep_ix (by omega), ep_V, ep_rM _ _ 159 (by decide), ep_iM _ _ _ _ _ (by decide), ep_mLn _ _ _ _ (by decide), ep_mLI, if_pos (ep_in (show 32 * e + i < 192 by omega) (by decide)), z2, if_pos (ep_in (show 32 + i < 128 by omega) (by decide)), show eh_ix (nI (32 + i)) = 32 + i from ep_ix (by omega), ep_V, ep_rM _ _ 160 (by decide), ep_iM _ _ _ _ _ (by decide), ep_mLn _ _ _ _ (by decide), ep_mLI, ep_V, nI_1]
      congr 4
      funext j
      unfold upd
      dsimp only
      by_cases y1 : j = 32 + i
      · rw [if_pos y1, if_neg (by omega), if_pos (by omega), show j - 32 = i by omega]
      · rw [if_neg y1]
        by_cases y2 : j = i
        · rw [if_pos y2, if_pos (by omega), y2]
        · rw [if_neg y2]
          by_cases y3 : j < i
          · rw [if_pos y3, if_pos (by omega)]
          · rw [if_neg y3, if_neg (show ¬ j < i + 1 by omega)]
            by_cases y4 : 32 ≤ j ∧ j < 32 + i
            · rw [if_pos y4, if_pos (by omega)]
            · rw [if_neg y4, if_neg (show ¬ (32 ≤ j ∧ j < 32 + (i + 1)) by omega)]
    · intro rec
      show (if nI 32 < 32 then _ else _) = _
      rw [if_neg (by decide)]
      show some (ep_mk c0 (ep_mL m 195 _)) = some (ep_mk c0 (ep_mL m 195 _))
      congr 3
      funext j
      by_cases y1 : j < 32
      · rw [if_pos y1, if_pos y1]
      · rw [if_neg y1, if_neg y1]
        by_cases y2 : j < 64
        · rw [if_pos y2, if_pos (by omega)]
        · rw [if_neg y2, if_neg (by omega)]
          by_cases y3 : j < 96
          · rw [if_pos y3, if_pos (by omega)]
          · rw [if_neg y3, if_neg (by omega)]
    · show _ = (nI 0, ep_mk c0 (ep_mL m 195 _))
      congr 3
      funext j
      rw [if_neg (show ¬ j < 0 by omega), if_neg (show ¬ (32 ≤ j ∧ j < 32 + 0) by omega)]
