/-! a page is loaded -/
theorem ep_careOpen0 {r : Int32} (h : r < 0 ∨ 130816 < r) (s : eh_F) : eF_6_areOpen s r 256 = some 0 := by
  unfold eF_6_areOpen
  rw [ep_J]
  by_cases y : r < 0
  · rw [if_pos y]
  · rw [if_neg y, if_pos (show (0 : Int32) < 256 by decide), if_pos]
    obtain ⟨k, hk, rfl⟩ := nI_of y
    have h2 : 130816 < k := (nI_ltI (a := 130816) (by decide) hk).mp (h.resolve_left y)
    rw [Int32.lt_iff_toInt_lt, Int32.toInt_sub, nI_toInt hk]
    have e1 : (131072 : Int32).toInt = 131072 := by decide
    have e2 : (256 : Int32).toInt = 256 := by decide
    rw [e1, e2, Int.bmod_def]
    split <;> omega
theorem ep_lw4 (b : Nat → Int32) (o : Nat) : ((List.range 4).map fun i => eh_shr (ep_lw b o) (nI (8 * i))).map (· &&& 255) = [b o &&& 255, b (o + 1) &&& 255, b (o + 2) &&& 255, b (o + 3) &&& 255] := by
  have h4 : ∀ i, i < 4 → eh_shr (ep_lw b o) (nI (8 * i)) &&& 255 = b (o + i) &&& 255 := by
    intro i hi
    rw [ep_b8]
    intro j hj
    rw [ep_bit_shr _ (by omega) _ (by omega), if_pos (by omega), ep_bit_lw _ _ _ (by omega), show (j + 8 * i) / 8 = i by omega, show (j + 8 * i) % 8 = j by omega]
  show [eh_shr (ep_lw b o) (nI (8 * 0)) &&& 255, eh_shr (ep_lw b o) (nI (8 * 1)) &&& 255, eh_shr (ep_lw b o) (nI (8 * 2)) &&& 255, eh_shr (ep_lw b o) (nI (8 * 3)) &&& 255] = _
  rw [h4 0 (by decide), h4 1 (by decide), h4 2 (by decide), h4 3 (by decide)]
  rfl
theorem ep_puts_lw (b : Nat → Int32) (a i : Nat) (st : ep_St) : ep_puts (ep_puts st ((List.range (4 * i)).map fun k => b (a + k))) ((List.range 4).map fun j => eh_shr (ep_lw b (a + 4 * i)) (nI (8 * j))) = ep_puts st ((List.range (4 * (i + 1))).map fun k => b (a + k)) := by
  rw [ep_range4, ep_puts_ap]
  refine ep_puts_cong _ ?_
  rw [ep_lw4]
  rfl
theorem ep_nw4 (X : Nat → Int32) {q : Nat} (hq : q % 4 = 0) (v : Int32) : ep_nw X q 4 v = upd X (q / 4) v := by
  unfold ep_nw
  refine congrArg (upd X (q / 4)) (ep_ext fun i hi => ?_)
  have hm : ep_mask 4 q = -1 := rfl
  rw [hm, hq, show ((-1 : Int32) ^^^ (-1)) = 0 by decide, ep_bit_or, ep_bit_and, ep_bit_and, ep_bit_0, ep_bit_m1 i hi, Nat.mul_zero, ep_bit_shl _ (by decide) i hi]
  simp
def ep_clrW (f : Nat → Int32) (a : Nat) : Nat → Nat → Int32
  | 0 => f
  | k + 1 => ep_clr (ep_clrW f a k) (nI (a + k))
theorem ep_Clr_W (f : Nat → Int32) (a : Nat) : ∀ n, ep_Clr f (ep_clrW f a n) (fun x => ∃ k, k < n ∧ x = nI (a + k))
  | 0 => ep_Clr_c (ep_Clr_0 f) (fun x => ⟨fun z => z.elim, fun ⟨k, h, _⟩ => absurd h (Nat.not_lt_zero k)⟩)
  | n + 1 => by
    refine ep_Clr_c (ep_Clr_t (ep_Clr_W f a n) (ep_Clr_1 _ (nI (a + n)))) (fun x => ?_)
    constructor
    · intro z
      rcases z with ⟨k, hk, z⟩ | z
      · exact ⟨k, by omega, z⟩
      · exact ⟨n, by omega, z⟩
    · intro ⟨k, hk, z⟩
      by_cases y : k = n
      · subst y; exact Or.inr z
      · exact Or.inl ⟨k, by omega, z⟩
theorem ep_cse_2 (c : ep_C) (e : Nat) (n n' : Int32) (f g f' g' : Nat → Int32) : ep_cse (ep_cse c e n f g) e n' f' g' = ep_cse c e n' f' g' := by
  refine Prod.ext rfl (Prod.ext ?_ rfl)
  funext i j
  simp only [ep_cse, ep_cH, ep_cG, ep_ug]
  by_cases h1 : i = 7
  · subst h1; by_cases h2 : j = e <;> simp [h2]
  · by_cases h3 : i = 6
    · subst h3; by_cases h2 : j = e <;> simp [h2]
    · by_cases h4 : i = 5
      · subst h4
        by_cases h2 : j = e
        · subst h2; simp [ep_upd_upd]
        · simp [h2]
      · simp [h1, h3, h4]
theorem ep_c2_cse (c : ep_C) (X Y f g : Nat → Int32) (e : Nat) (n : Int32) : ep_c2 (ep_cse c e n f g) X Y = ep_cse (ep_c2 c X Y) e n f g := rfl
/-- the class's loop -/
theorem ep_cload {c : ep_C} {b : Nat → Int32} (hm : ep_Gm (c.1 9) b) {e a T : Nat} {st : ep_St} (he : e < 6) (hS : ep_Rc (c.2.1 6 e) (c.2.1 7 e) (c.2.1 5 e 3) st) (hk : ep_ok st) (hal : st.2.2 % 4 = 0) (hn : st.2.2 + 300 < 2 ^ 28) (ha : a + 256 ≤ 131072) (ha4 : a % 4 = 0) (hT : T < 512) (hd : ∀ k, k < 256 → (a + k) / 256 ≠ T) : ∃ n f g, ep_Rc f g n (ep_puts st ((List.range 256).map fun k => b (a + k))) ∧ ∀ m0, eh_loop (fun (r22 : (Int32 × eh_F) → Option (eh_F)) (t19 : Int32 × eh_F) => if t19.1 < 256 then (Option.bind (eF_6_wordAt t19.2 (nI a + t19.1)) (fun q24 => Option.bind (eF_6_store t19.2 (nI (256 * T) + t19.1) q24 4) (fun q25 => Option.bind (eF_9_feedNumber q25 ((eh_ep (nI e)) + 1) q24) (fun q26 => eh_V ((t19.1 + 4) : Int32) (fun x27 => r22 (x27, q26)))))) else (some t19.2)) eh_FU (nI (4 * 0), ep_mk c m0) = some (ep_mk (ep_cse (ep_c2 c (ep_in_ (c.1 9) (64 * T) 64 fun j => c.1 9 (a / 4 + j)) (ep_clrW (c.1 11) (64 * T) 64)) e n f g) m0) := by
  have key := ep_minv0 (A := ep_M) (X := Int32 × (Nat → Int32) × (Nat → Int32)) (body := fun _ (r22 : (Int32 × eh_F) → Option (eh_F)) (t19 : Int32 × eh_F) => if t19.1 < 256 then (Option.bind (eF_6_wordAt t19.2 (nI a + t19.1)) (fun q24 => Option.bind (eF_6_store t19.2 (nI (256 * T) + t19.1) q24 4) (fun q25 => Option.bind (eF_9_feedNumber q25 ((eh_ep (nI e)) + 1) q24) (fun q26 => eh_V ((t19.1 + 4) : Int32) (fun x27 => r22 (x27, q26)))))) else (some t19.2)) (fun m0 i x => (nI (4 * i), ep_mk (ep_cse (ep_c2 c (ep_in_ (c.1 9) (64 * T) i fun j => c.1 9 (a / 4 + j)) (ep_clrW (c.1 11) (64 * T) i)) e x.1 x.2.1 x.2.2) m0)) (fun G => ∃ n f g, ep_Rc f g n (ep_puts st ((List.range 256).map fun k => b (a + k))) ∧ ∀ m0, G m0 = some (ep_mk (ep_cse (ep_c2 c (ep_in_ (c.1 9) (64 * T) 64 fun j => c.1 9 (a / 4 + j)) (ep_clrW (c.1 11) (64 * T) 64)) e n f g) m0)) (fun i x => ep_Rc x.2.1 x.2.2 x.1 (ep_puts st ((List.range (4 * i)).map fun k => b (a + k)))) 64 (by decide) ?_ ?_ (c.2.1 5 e 3, c.2.1 6 e, c.2.1 7 e) hS
  · obtain ⟨G, ⟨n, f, g, h1, h2⟩, h3⟩ := key
    refine ⟨n, f, g, h1, fun m0 => ?_⟩
    rw [← h2, ← h3]
    show _ = eh_loop _ _ (nI (4 * 0), ep_mk (ep_cse (ep_c2 c (ep_in_ (c.1 9) (64 * T) 0 _) (c.1 11)) e (c.2.1 5 e 3) (c.2.1 6 e) (c.2.1 7 e)) m0)
    rw [ep_in_0, ep_c2_id]
    have : ep_cse c e (c.2.1 5 e 3) (c.2.1 6 e) (c.2.1 7 e) = c := by
      refine Prod.ext rfl (Prod.ext ?_ rfl)
      funext i j
      simp only [ep_cse, ep_cH, ep_cG, ep_ug]
      by_cases h2 : j = e
      · subst h2
        by_cases h1 : i = 7
        · subst h1; simp
        · by_cases h3 : i = 6
          · subst h3; simp
          · by_cases h4 : i = 5
            · subst h4; simp [ep_upd_id]
            · simp [h1, h3, h4]
      · by_cases h1 : i = 7
        · subst h1; simp [h2]
        · by_cases h3 : i = 6
          · subst h3; simp [h2]
          · by_cases h4 : i = 5
            · subst h4; simp [h2]
            · simp [h1, h3, h4]
    rw [this]
  · intro i x hi hp
    left
    have hb := hm
    unfold ep_Gm at hb
    have hl : (ep_puts st ((List.range (4 * i)).map fun k => b (a + k))).2.2 = st.2.2 + 4 * i := by rw [ep_puts_len, ep_range_len]
    obtain ⟨f', g', n', p1, p2⟩ := ep_cfeedNumber hp (ep_puts_ok _ hk (by rw [ep_range_len]; omega)) (by rw [hl]; omega) (by rw [hl]; omega) (ep_lw b (a + 4 * i))
    refine ⟨(n', f', g'), ?_, fun m0 rec => ?_⟩
    · rw [ep_puts_lw] at p1; exact p1
    · have z1 : nI (4 * i) < 256 := nI_lt (b := 256) (by omega) (by decide)
      have hw : ∀ m0, eF_6_wordAt (ep_mk (ep_cse (ep_c2 c (ep_in_ (c.1 9) (64 * T) i fun j => c.1 9 (a / 4 + j)) (ep_clrW (c.1 11) (64 * T) i)) e x.1 x.2.1 x.2.2) m0) (nI (a + 4 * i)) = some (ep_lw b (a + 4 * i)) := by
        intro m0
        rw [ep_cwordAt _ (by omega)]
        show some (ep_in_ (c.1 9) (64 * T) i (fun j => c.1 9 (a / 4 + j)) ((a + 4 * i) / 4)) = _
        unfold ep_in_
        rw [if_neg (by have := hd (4 * i) (by omega); omega), hb]
        show some (ep_lw b (4 * ((a + 4 * i) / 4))) = _
        rw [show 4 * ((a + 4 * i) / 4) = a + 4 * i by omega]
      show (if nI (4 * i) < 256 then _ else _) = _
      rw [if_pos z1, nI_add, hw m0, ep_sb, nI_add]
      have hst : eF_6_store (ep_mk (ep_cse (ep_c2 c (ep_in_ (c.1 9) (64 * T) i fun j => c.1 9 (a / 4 + j)) (ep_clrW (c.1 11) (64 * T) i)) e x.1 x.2.1 x.2.2) m0) (nI (256 * T + 4 * i)) (ep_lw b (a + 4 * i)) 4 = some (ep_mk (ep_cse (ep_c2 c (ep_in_ (c.1 9) (64 * T) (i + 1) fun j => c.1 9 (a / 4 + j)) (ep_clrW (c.1 11) (64 * T) (i + 1))) e x.1 x.2.1 x.2.2) m0) := by
        have := ep_cstore (ep_cse c e x.1 x.2.1 x.2.2) (ep_in_ (c.1 9) (64 * T) i fun j => c.1 9 (a / 4 + j)) (ep_clrW (c.1 11) (64 * T) i) (q := 256 * T + 4 * i) (n := 4) (by omega) (Or.inr (Or.inr rfl)) (ep_lw b (a + 4 * i)) m0
        rw [ep_nw4 _ (by omega), show (256 * T + 4 * i) / 4 = 64 * T + i by omega, show ep_lw b (a + 4 * i) = (fun j => c.1 9 (a / 4 + j)) i from by rw [hb]; show _ = ep_lw b (4 * (a / 4 + i)); rw [show 4 * (a / 4 + i) = a + 4 * i by omega], ep_in_s, ep_c2_cse] at this
        rw [show ep_lw b (a + 4 * i) = (fun j => c.1 9 (a / 4 + j)) i from by rw [hb]; show _ = ep_lw b (4 * (a / 4 + i)); rw [show 4 * (a / 4 + i) = a + 4 * i by omega]]
        exact this
      rw [hst, ep_sb, p2 _ _ (by rw [(ep_re _ _ he).1]; exact (ep_cse_5 _ _ _ _ _).2.1) (by rw [(ep_re _ _ he).2.1]; exact (ep_cse_5 _ _ _ _ _).2.2) (by rw [(ep_re _ _ he).2.2]; exact (ep_cse_5 _ _ _ _ _).1), ep_sb, ep_V, ep_t3_e _ _ he, ep_cse_2, ep_p4]
      rfl
  · intro x hp
    refine ⟨fun m0 => some (ep_mk (ep_cse (ep_c2 c (ep_in_ (c.1 9) (64 * T) 64 fun j => c.1 9 (a / 4 + j)) (ep_clrW (c.1 11) (64 * T) 64)) e x.1 x.2.1 x.2.2) m0), ⟨x.1, x.2.1, x.2.2, hp, fun m0 => rfl⟩, fun m0 rec => ?_⟩
    show (if nI (4 * 64) < 256 then _ else _) = _
    rw [if_neg (by decide)]
/-- the reference's loop -/
theorem ep_mload_ (m : ep_M) {e w a b pg : Nat} (he : e < 6) (hw : w < 12) (hwe : m.1 156 e = nI w) (hB : m.1 165 w = nI (256 * b)) (ha : a + 256 ≤ 131072) (hT : b + pg < 512) (hd : ∀ k, k < 256 → (a + k) / 256 ≠ b + pg) (c0 : ep_C) : eh_loop (fun (r19 : (Int32 × eh_F) → Option (eh_F)) (t16 : Int32 × eh_F) => if t16.1 < 256 then (if eh_in (nI e) 6 then if eh_in (t16.2.1 156 (eh_ix (nI e))) 12 then if eh_in (nI a + t16.1) 131072 then Option.bind (eF_12_setByte t16.2 (((t16.2.1 165 (eh_ix (t16.2.1 156 (eh_ix (nI e))))) + (256 * nI pg)) + t16.1) (t16.2.1 128 (eh_ix (nI a + t16.1)))) (fun q21 => eh_V ((t16.1 + 1) : Int32) (fun x22 => r19 (x22, q21))) else none else none else none) else (some t16.2)) eh_FU (0, ep_mk c0 m) = some (ep_mk c0 (ep_m2 m (ep_in_ (m.1 128) (256 * (b + pg)) 256 fun k => eh_nb (eh_nb (m.1 128 (a + k)))) (ep_clrs (m.1 147) (256 * (b + pg)) 256))) := by
  have i6 : eh_in (nI e) 6 = true := ep_in he (by decide)
  have x6 : eh_ix (nI e) = e := ep_ix (by omega)
  have iw : eh_in (nI w) 12 = true := ep_in hw (by decide)
  have xw : eh_ix (nI w) = w := ep_ix (by omega)
  refine ep_loop (fun i => (nI i, ep_mk c0 (ep_m2 m (ep_in_ (m.1 128) (256 * (b + pg)) i fun k => eh_nb (eh_nb (m.1 128 (a + k)))) (ep_clrs (m.1 147) (256 * (b + pg)) i)))) 256 _ (ep_FU _ (by decide)) ?_ ?_ ?_
  · intro i hi rec
    have z1 : nI i < 256 := nI_lt (b := 256) hi (by decide)
    show (if nI i < 256 then _ else _) = _
    rw [if_pos z1, if_pos i6, x6, ep_rM _ _ 156 (by decide), ep_m2_n _ _ _ _ (by decide) (by decide), hwe, if_pos iw, xw, nI_add, if_pos (ep_in (show a + i < 131072 by omega) (by decide)), ep_rM _ _ 165 (by decide), ep_m2_n _ _ _ _ (by decide) (by decide), hB, ep_mul (a := pg) (b := 256) (y := 256) rfl rfl, nI_add, nI_add, show eh_ix (nI (a + i)) = a + i from ep_ix (by omega), ep_rM _ _ 128 (by decide), ep_m2_128, ep_msetByte _ _ _ (show 256 * b + 256 * pg + i < 131072 by omega), ep_sb, ep_V, nI_1]
    have hv : ep_in_ (m.1 128) (256 * (b + pg)) i (fun k => eh_nb (eh_nb (m.1 128 (a + k)))) (a + i) = m.1 128 (a + i) := by
      unfold ep_in_
      rw [if_neg (by have := hd i hi; omega)]
    rw [hv, show 256 * b + 256 * pg + i = 256 * (b + pg) + i by omega, ep_in_s (g := fun k => eh_nb (eh_nb (m.1 128 (a + k))))]
    rfl
  · intro rec
    show (if nI 256 < 256 then _ else _) = _
    rw [if_neg (by decide)]
  · show _ = (nI 0, ep_mk c0 (ep_m2 m (ep_in_ (m.1 128) (256 * (b + pg)) 0 _) (m.1 147)))
    rw [ep_in_0, ep_m2_id]
    rfl
theorem ep_Gm_l {w b : Nat → Int32} (h : ep_Gm w b) (T a : Nat) (ha : a % 4 = 0) : ep_Gm (ep_in_ w (64 * T) 64 fun j => w (a / 4 + j)) (ep_in_ b (256 * T) 256 fun k => eh_nb (eh_nb (b (a + k)))) := by
  unfold ep_Gm at h ⊢
  subst h
  funext j
  unfold ep_in_
  dsimp only
  by_cases z : 64 * T ≤ j ∧ j < 64 * T + 64
  · rw [if_pos z]
    unfold ep_lw
    dsimp only
    rw [if_pos (by omega), if_pos (by omega), if_pos (by omega), if_pos (by omega), ep_nbnb, ep_nbnb, ep_nbnb, ep_nbnb]
    rw [show a + (4 * j - 256 * T) = 4 * (a / 4 + (j - 64 * T)) by omega, show a + (4 * j + 1 - 256 * T) = 4 * (a / 4 + (j - 64 * T)) + 1 by omega, show a + (4 * j + 2 - 256 * T) = 4 * (a / 4 + (j - 64 * T)) + 2 by omega, show a + (4 * j + 3 - 256 * T) = 4 * (a / 4 + (j - 64 * T)) + 3 by omega]
  · rw [if_neg z]
    unfold ep_lw
    dsimp only
    rw [if_neg (by omega), if_neg (by omega), if_neg (by omega), if_neg (by omega)]
theorem ep_Gres_l {cr mr : Nat → Int32} (h : ep_Gres cr mr) {T : Nat} (hT : T < 512) : ep_Gres (ep_clrW cr (64 * T) 64) (ep_clrs mr (256 * T) 256) := by
  refine ep_Gres_c h (ep_Clr_W _ _ _) (ep_Clr_s _ _ _) ?_
  intro j hj
  rw [ep_touch (by omega) hj]
  constructor
  · intro ⟨k, z1, z2⟩
    rw [nI_eq (by omega) (by omega)] at z2
    exact ⟨4 * k, by omega, by omega⟩
  · intro ⟨k, z1, z2⟩
    exact ⟨j - 64 * T, by omega, by congr 1; omega⟩
theorem ep_load_ {N : Nat} {c : ep_C} {m : ep_M} (hR : ep_R N c m) (hN : N + 600 < 2 ^ 28) (p q r : Int32) : ep_Cp (N + 264) c m (fun s => eF_10_load s p q r) (fun s => eF_12_loadPage s p q r) := by
  have hRm := ep_R_mono hR (show N ≤ N + 264 by omega)
  cases hb : ep_inb p 6 (m.1 155) with
  | false =>
    refine ep_Cp_id hRm (-1) (fun m0 => ?_) (fun c0 => ?_)
    · show eF_10_load (ep_mk c m0) p q r = _
      unfold eF_10_load
      rw [ep_chasE hR, ep_sb, hb, ep_J, if_pos ep_bf]
    · show eF_12_loadPage (ep_mk c0 m) p q r = _
      unfold eF_12_loadPage
      rw [ep_misE, ep_sb, hb, ep_J, if_pos ep_bf]
  | true =>
    obtain ⟨e, he, rfl, hE⟩ := ep_inb_t (by decide) hb
    obtain ⟨w, b, n, hw, hwe, hwS, n0, bn, hB, hZ, cb, cs, hP⟩ := ep_ownR hR he hE
    have i6 : eh_in (nI e) 6 = true := ep_in he (by decide)
    have x6 : eh_ix (nI e) = e := ep_ix (by omega)
    have i12 : eh_in (nI w) 12 = true := ep_in hw (by decide)
    have xw : eh_ix (nI w) = w := ep_ix (by omega)
    have ge := (hR.2.2.2.2.2.2.2.2.2.2.2.2.2.2.2.2.1 e he).1
    have hdv : nI (256 * n) / 256 = nI n := (ep_divn (a := 256 * n) (d := 256) (by omega) (by decide) (by decide)).trans (by rw [Nat.mul_div_cancel_left _ (by decide)])
    by_cases hq0 : q < 0
    · refine ep_Cp_id hRm (-1) (fun m0 => ?_) (fun c0 => ?_)
      · show eF_10_load (ep_mk c m0) (nI e) q r = _
        unfold eF_10_load
        rw [ep_chasE hR, ep_sb, hb, ep_J, if_neg ep_bt, if_pos hq0]
      · show eF_12_loadPage (ep_mk c0 m) (nI e) q r = _
        unfold eF_12_loadPage
        rw [ep_misE, ep_sb, hb, ep_J, if_neg ep_bt, if_pos hq0]
    by_cases hq1 : ¬ q < nI n
    · refine ep_Cp_id hRm (-1) (fun m0 => ?_) (fun c0 => ?_)
      · show eF_10_load (ep_mk c m0) (nI e) q r = _
        unfold eF_10_load
        rw [ep_chasE hR, ep_sb, hb, ep_J, if_neg ep_bt, if_neg hq0, cs, ep_sb, hdv, if_neg hq1]
      · show eF_12_loadPage (ep_mk c0 m) (nI e) q r = _
        unfold eF_12_loadPage
        rw [ep_misE, ep_sb, hb, ep_J, if_neg ep_bt, if_neg hq0, if_pos i6, x6, ep_rM _ _ 156 (by decide), hwe, if_pos i12, xw, ep_rM _ _ 166 (by decide), hZ, hdv, if_neg hq1]
    have hq1 := Decidable.not_not.mp hq1
    have hr4 := ep_rem4 r
    by_cases hr : ¬ (¬ r < 0 ∧ r &&& 3 = 0 ∧ ¬ 130816 < r)
    · refine ep_Cp_id hRm (-1) (fun m0 => ?_) (fun c0 => ?_)
      · show eF_10_load (ep_mk c m0) (nI e) q r = _
        unfold eF_10_load
        rw [ep_chasE hR, ep_sb, hb, ep_J, if_neg ep_bt, if_neg hq0, cs, ep_sb, hdv, if_pos hq1, ep_J]
        by_cases y3 : r &&& 3 = 0
        · have hz : r < 0 ∨ 130816 < r := by
            by_cases y1 : r < 0
            · exact Or.inl y1
            · exact Or.inr (Decidable.byContradiction fun y2 => hr ⟨y1, y3, y2⟩)
          rw [if_pos y3, ep_careOpen0 hz, ep_sb, if_pos rfl]
        · rw [if_neg y3]
      · show eF_12_loadPage (ep_mk c0 m) (nI e) q r = _
        unfold eF_12_loadPage
        rw [ep_misE, ep_sb, hb, ep_J, if_neg ep_bt, if_neg hq0, if_pos i6, x6, ep_rM _ _ 156 (by decide), hwe, if_pos i12, xw, ep_rM _ _ 166 (by decide), hZ, hdv, if_pos hq1]
        by_cases y1 : r < 0
        · rw [if_pos y1]
        · rw [if_neg y1]
          by_cases y3 : r &&& 3 = 0
          · rw [if_pos (hr4.mpr y3), if_pos (Decidable.byContradiction fun y2 => hr ⟨y1, y3, y2⟩)]
          · rw [if_neg (fun z => y3 (hr4.mp z))]
    obtain ⟨r0, r3, r1⟩ := Decidable.not_not.mp hr
    obtain ⟨a, ha, rfl⟩ := ep_le_of (n := 130816) (by decide) r0 r1
    have ha4 : a % 4 = 0 := by
      rw [ep_and3 (by omega), show (0 : Int32) = nI 0 from rfl, nI_eq (by omega) (by decide)] at r3
      exact r3
    cases ho : ep_ao (m.1 164) (c.1 10) a 256 with
    | false =>
      refine ep_Cp_id hRm (-1) (fun m0 => ?_) (fun c0 => ?_)
      · show eF_10_load (ep_mk c m0) (nI e) q (nI a) = _
        unfold eF_10_load
        rw [ep_chasE hR, ep_sb, hb, ep_J, if_neg ep_bt, if_neg hq0, cs, ep_sb, hdv, if_pos hq1, ep_J, if_pos r3, show (256 : Int32) = nI 256 from rfl, ep_careOpen hR (by decide) (by omega), ep_sb, ho, if_pos ep_bf]
      · show eF_12_loadPage (ep_mk c0 m) (nI e) q (nI a) = _
        unfold eF_12_loadPage
        rw [ep_misE, ep_sb, hb, ep_J, if_neg ep_bt, if_neg hq0, if_pos i6, x6, ep_rM _ _ 156 (by decide), hwe, if_pos i12, xw, ep_rM _ _ 166 (by decide), hZ, hdv, if_pos hq1, if_neg r0, if_pos (hr4.mpr r3), if_neg r1, show eF_12_areOpen (ep_mk c0 m) (nI a) 256 = _ from ep_mareOpen hR (n := 256) (by decide) (by omega) c0, ep_sb, ho, if_pos ep_bf]
    | true =>
      by_cases hl : ¬ m.1 155 e = 1
      · refine ep_Cp_id hRm (-2) (fun m0 => ?_) (fun c0 => ?_)
        · show eF_10_load (ep_mk c m0) (nI e) q (nI a) = _
          unfold eF_10_load
          rw [ep_chasE hR, ep_sb, hb, ep_J, if_neg ep_bt, if_neg hq0, cs, ep_sb, hdv, if_pos hq1, ep_J, if_pos r3, show eF_6_areOpen (ep_mk c m0) (nI a) 256 = _ from ep_careOpen hR (n := 256) (by decide) (by omega) m0, ep_sb, ho, if_neg ep_bt, if_pos i6, ep_rE0 _ _ he, ge, if_neg hl]
        · show eF_12_loadPage (ep_mk c0 m) (nI e) q (nI a) = _
          unfold eF_12_loadPage
          rw [ep_misE, ep_sb, hb, ep_J, if_neg ep_bt, if_neg hq0, if_pos i6, x6, ep_rM _ _ 156 (by decide), hwe, if_pos i12, xw, ep_rM _ _ 166 (by decide), hZ, hdv, if_pos hq1, if_neg r0, if_pos (hr4.mpr r3), if_neg r1, show eF_12_areOpen (ep_mk c0 m) (nI a) 256 = _ from ep_mareOpen hR (n := 256) (by decide) (by omega) c0, ep_sb, ho, if_neg ep_bt, if_pos i6, ep_rM _ _ 155 (by decide), if_neg hl]
      have hl := Decidable.not_not.mp hl
      obtain ⟨pg, hpg, rfl⟩ := nI_of hq0
      have hpn : pg < n := (nI_ltI hpg (by omega)).mp hq1
      have hPT : c.1 10 (b + pg) = nI w := (hP (b + pg) (by omega)).mpr ⟨by omega, by omega⟩
      have hd : ∀ k, k < 256 → (a + k) / 256 ≠ b + pg := by
        intro k hk z
        have h1 := ep_all_iff.mp ho ((a + k) / 256 - a / 256) (by omega)
        rw [show 256 * (a / 256 + ((a + k) / 256 - a / 256)) = 256 * (b + pg) by omega] at h1
        unfold ep_ob at h1
        rw [Nat.mul_div_cancel_left _ (by decide), hPT, xw, hwS] at h1
        have h2 : ¬ nI w < 0 := nI_pos (by omega)
        simp [h2] at h1
      obtain ⟨st, s1, s2, s3, s4, s5⟩ := hR.2.2.2.2.2.2.2.2.2.2.2.2.2.2.2.2.2.2.2.2.2.2.1 e he hl
      obtain ⟨c1, m1, a1, a2, a3, a4, ⟨n5, f5, g5, a5⟩, ⟨H6, B6, W6, L6, a6⟩⟩ := ep_senums he [2, nI pg] hR ⟨s4, s5⟩ s1 s2 s3 (by show N + 4 * 2 + 4 < 2 ^ 28; omega)
      have hk1 := ep_puts_ok (ep_nums [2, nI pg]) s1 (by rw [ep_nums_len]; show st.2.2 + 4 * 2 < 2 ^ 28; omega)
      have hl1 : (ep_puts st (ep_nums [2, nI pg])).2.2 = st.2.2 + 8 := by rw [ep_puts_len, ep_nums_len]; rfl
      have c1m : c1.1 = c.1 := by rw [a5]; rfl
      have m1m : ∀ k, k ≠ 188 → k ≠ 189 → k ≠ 191 → m1.1 k = m.1 k := fun k x y z => by rw [a6]; exact ep_mSn m H6 B6 W6 L6 k x y z
      obtain ⟨nn, f, g, d1, d2⟩ := ep_cload (c := c1) (b := m1.1 128) a3.1 he a4.1 hk1 (by omega) (by omega) (show a + 256 ≤ 131072 by omega) ha4 (show b + pg < 512 by omega) hd
      obtain ⟨H, B, W, L, b1, b2, b3⟩ := ep_maddBytes (e := e) (by omega) a4.2 hk1 128 131072 a 256 (by omega) (by decide) (by decide) (by decide) (by decide) (by omega) (by decide)
      have hk2 := ep_puts_ok ((List.range 256).map fun i => m1.1 128 (a + i)) hk1 (by rw [ep_range_len]; omega)
      have hl2 : (ep_puts (ep_puts st (ep_nums [2, nI pg])) ((List.range 256).map fun i => m1.1 128 (a + i))).2.2 = st.2.2 + 264 := by rw [ep_puts_len, ep_range_len, hl1]
      have R2 := ep_R_cse (N' := N + 264) (W := W) a3 he (by show N + 4 * 2 ≤ _; omega) hk2 (by omega) (by omega) d1 b2 b3
      have R3 : ep_R (N + 264) (ep_c2 (ep_cse c1 e nn f g) (ep_in_ (c1.1 9) (64 * (b + pg)) 64 fun j => c1.1 9 (a / 4 + j)) (ep_clrW (c1.1 11) (64 * (b + pg)) 64)) (ep_m2 (ep_mS m1 H B W L) (ep_in_ (m1.1 128) (256 * (b + pg)) 256 fun k => eh_nb (eh_nb (m1.1 128 (a + k)))) (ep_clrs (m1.1 147) (256 * (b + pg)) 256)) :=
        ⟨ep_Gm_l a3.1 (b + pg) a ha4, R2.2.1, R2.2.2.1, R2.2.2.2.1, ep_Gres_l a3.2.2.2.2.1 (by omega), R2.2.2.2.2.2.1, R2.2.2.2.2.2.2.1, R2.2.2.2.2.2.2.2.1, R2.2.2.2.2.2.2.2.2.1, R2.2.2.2.2.2.2.2.2.2.1, R2.2.2.2.2.2.2.2.2.2.2.1, R2.2.2.2.2.2.2.2.2.2.2.2.1, R2.2.2.2.2.2.2.2.2.2.2.2.2.1, R2.2.2.2.2.2.2.2.2.2.2.2.2.2.1, R2.2.2.2.2.2.2.2.2.2.2.2.2.2.2.1, R2.2.2.2.2.2.2.2.2.2.2.2.2.2.2.2.1, R2.2.2.2.2.2.2.2.2.2.2.2.2.2.2.2.2.1, R2.2.2.2.2.2.2.2.2.2.2.2.2.2.2.2.2.2.1, R2.2.2.2.2.2.2.2.2.2.2.2.2.2.2.2.2.2.2.1, R2.2.2.2.2.2.2.2.2.2.2.2.2.2.2.2.2.2.2.2.1, R2.2.2.2.2.2.2.2.2.2.2.2.2.2.2.2.2.2.2.2.2.1, R2.2.2.2.2.2.2.2.2.2.2.2.2.2.2.2.2.2.2.2.2.2.1, R2.2.2.2.2.2.2.2.2.2.2.2.2.2.2.2.2.2.2.2.2.2.2.1, R2.2.2.2.2.2.2.2.2.2.2.2.2.2.2.2.2.2.2.2.2.2.2.2.1, R2.2.2.2.2.2.2.2.2.2.2.2.2.2.2.2.2.2.2.2.2.2.2.2.2.1, R2.2.2.2.2.2.2.2.2.2.2.2.2.2.2.2.2.2.2.2.2.2.2.2.2.2.1, R2.2.2.2.2.2.2.2.2.2.2.2.2.2.2.2.2.2.2.2.2.2.2.2.2.2.2.1, R2.2.2.2.2.2.2.2.2.2.2.2.2.2.2.2.2.2.2.2.2.2.2.2.2.2.2.2.1, R2.2.2.2.2.2.2.2.2.2.2.2.2.2.2.2.2.2.2.2.2.2.2.2.2.2.2.2.2.1, R2.2.2.2.2.2.2.2.2.2.2.2.2.2.2.2.2.2.2.2.2.2.2.2.2.2.2.2.2.2.1, R2.2.2.2.2.2.2.2.2.2.2.2.2.2.2.2.2.2.2.2.2.2.2.2.2.2.2.2.2.2.2.1, R2.2.2.2.2.2.2.2.2.2.2.2.2.2.2.2.2.2.2.2.2.2.2.2.2.2.2.2.2.2.2.2.1, R2.2.2.2.2.2.2.2.2.2.2.2.2.2.2.2.2.2.2.2.2.2.2.2.2.2.2.2.2.2.2.2.2.1, R2.2.2.2.2.2.2.2.2.2.2.2.2.2.2.2.2.2.2.2.2.2.2.2.2.2.2.2.2.2.2.2.2.2⟩
      refine ⟨0, _, _, fun m0 => ?_, fun c0 => ?_, R3, ?_⟩
      · show eF_10_load (ep_mk c m0) (nI e) (nI pg) (nI a) = _
        unfold eF_10_load
        rw [ep_chasE hR, ep_sb, hb, ep_J, if_neg ep_bt, if_neg hq0, cs, ep_sb, hdv, if_pos hq1, ep_J, if_pos r3, show eF_6_areOpen (ep_mk c m0) (nI a) 256 = _ from ep_careOpen hR (n := 256) (by decide) (by omega) m0, ep_sb, ho, if_neg ep_bt, if_pos i6, ep_rE0 _ _ he, ge, if_pos hl, cb, ep_sb, ep_V, show nI pg * 256 = nI (256 * pg) from by rw [Int32.mul_comm]; exact ep_mul rfl rfl, nI_add, show 256 * b + 256 * pg = 256 * (b + pg) by omega]
        have z := a1 m0
        rw [ep_nums2, ep_sb] at z
        cases hz : eF_9_feedNumber (ep_mk c m0) (eh_ep (nI e) + 1) 2 with
        | none => rw [hz] at z; exact absurd z (by simp)
        | some s1 =>
          rw [hz, ep_sb] at z
          rw [ep_sb, z, ep_sb]
          exact ep_bnd (d2 m0) rfl
      · show eF_12_loadPage (ep_mk c0 m) (nI e) (nI pg) (nI a) = _
        unfold eF_12_loadPage
        rw [ep_misE, ep_sb, hb, ep_J, if_neg ep_bt, if_neg hq0, if_pos i6, ep_rM _ _ 156 (by decide), show m.1 156 (eh_ix (nI e)) = nI w from by rw [x6]; exact hwe, if_pos i12, xw, ep_rM _ _ 166 (by decide), hZ, hdv, if_pos hq1, if_neg r0, if_pos (hr4.mpr r3), if_neg r1, show eF_12_areOpen (ep_mk c0 m) (nI a) 256 = _ from ep_mareOpen hR (n := 256) (by decide) (by omega) c0, ep_sb, ho, if_neg ep_bt, if_pos i6, ep_rM _ _ 155 (by decide), show m.1 155 (eh_ix (nI e)) = 1 from by rw [x6]; exact hl, if_pos rfl]
        have z := a2 c0
        rw [ep_mnums2, ep_sb] at z
        cases hz : eF_12_addNumber (ep_mk c0 m) (nI e) 2 with
        | none => rw [hz] at z; exact absurd z (by simp)
        | some s1 =>
          rw [hz, ep_sb] at z
          rw [ep_sb, z, ep_sb, show eF_12_addBytes (ep_mk c0 m1) (nI e) 128 131072 (nI a) 256 = _ from b1 c0, ep_sb]
          refine ep_bnd (ep_mload_ (ep_mS m1 H B W L) he hw (by show m1.1 156 e = _; rw [m1m 156 (by decide) (by decide) (by decide)]; exact hwe) (by show m1.1 165 w = _; rw [m1m 165 (by decide) (by decide) (by decide)]; exact hB) (show a + 256 ≤ 131072 by omega) (show b + pg < 512 by omega) hd c0) ?_
          rfl
      · rw [a5, a6]
        exact ⟨rfl, rfl, fun _ _ => rfl, rfl⟩
