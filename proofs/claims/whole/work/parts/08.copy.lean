/-! System.arraycopy between int arrays; switches -/
def eh_cok (sp dp n : Int32) (n0 n1 : Nat) : Bool := decide (0 ≤ sp.toInt) && decide (0 ≤ dp.toInt) && decide (0 ≤ n.toInt) && decide (sp.toInt + n.toInt ≤ n0) && decide (dp.toInt + n.toInt ≤ n1)
theorem eh_cok_spec {sp dp n : Int32} {n0 n1 : Nat} (h : eh_cok sp dp n n0 n1 = true) : (¬ sp < 0 ∧ ¬ dp < 0 ∧ ¬ n < 0) ∧ sp.toNatClampNeg + n.toNatClampNeg ≤ n0 ∧ dp.toNatClampNeg + n.toNatClampNeg ≤ n1 ∧ sp.toInt + n.toInt ≤ n0 ∧ dp.toInt + n.toInt ≤ n1 := by
  simp only [eh_cok, Bool.and_eq_true, decide_eq_true_eq] at h
  obtain ⟨⟨⟨⟨h1, h2⟩, h3⟩, h4⟩, h5⟩ := h
  have key : ∀ z : Int32, 0 ≤ z.toInt → ¬ z < 0 := fun z hz q => by
    have := Int32.lt_iff_toInt_lt.mp q
    simp at this
    omega
  have kn : ∀ z : Int32, 0 ≤ z.toInt → (z.toNatClampNeg : Int) = z.toInt := fun z hz => by
    show ((z.toInt.toNat : Nat) : Int) = z.toInt
    omega
  have a1 := kn sp h1
  have a2 := kn dp h2
  have a3 := kn n h3
  exact ⟨⟨key sp h1, key dp h2, key n h3⟩, by omega, by omega, h4, h5⟩
section EhCopy
variable {g : eh_P} {M : eh_M} {R : Room} {cells slots pc : Nat} {L : eh_LL} {st : List Value} {w : eh_W} {r : Option Value} {w' : eh_W}
theorem eh_copyW {k1 n1 idx a0 : Nat} {sp dp n : Int32} {cs : Cell} {f : Nat → Int32} {p : Program} {e : Env} {s : State} {m : MethodId} {args : Array Value} {below : List Frame} {meth : Method} {c : Code} {H : Heap} {locs : List Loc} {ls : Array Slot} {Q : State → Prop} {rest : List Value} {nn : Nat}
    (C : eh_Cx g M p s m args meth c) (S : eh_St g s H locs w) (hls : ls.size = M.2.2.1) (hsrc : H[a0]? = some cs) (hof : s.isArrayOf cs .int) (hkn : cs.vm ≠ .unknown) (hval : ∀ i, i < nn → cs.slots[i]? = some (.int (f i))) (hsz : nn ≤ cs.slots.size) (hk1 : w.2.2.2[k1]? = some (100, n1)) (hok : eh_cok sp dp n nn n1 = true)
    (hl : eh_LK M.1 idx arraycopyName) (hnat : Cond.native arraycopyName ∈ eh_tb) (hstat : Cond.static arraycopyName ∈ eh_tb) (hini : Cond.initialized "java/lang/System" ∈ eh_tb) (hR : 1 ≤ R.frames ∧ 40 ≤ R.locals) (hW : (rest.map fun v => v.category).sum ≤ 8) (hd : decode M.2.1 pc = .ok (.invokestatic idx, 3))
    (kk : ∀ (H1 : Heap) (locs1 : List Loc), eh_St g s H1 locs1 (eh_sF w k1 (va_cpy f (w.1 k1) sp.toNatClampNeg dp.toNatClampNeg n.toNatClampNeg)) → W p (eh_l g) e R s m args below meth c H1 locs1 cells slots Q (F0 m (pc + 3) ls rest)) :
    W p (eh_l g) e R s m args below meth c H locs cells slots Q (F0 m pc ls (.int n :: .int dp :: .ref (eh_b g + k1) :: .int sp :: .ref a0 :: rest)) := by
  obtain ⟨hx, hb, hml, hown, hts, hlk, hr, hin0, hK, hZ, hB⟩ := C
  obtain ⟨⟨h1, h2, h3⟩, h4, h5, h6, h7⟩ := eh_cok_spec hok
  have hc1 : H[eh_b g + k1]? = some (arrV (eh_c g 100) n1 (fun j => .int (w.1 k1 j))) := (S.1.2 k1 _ hk1).2 (Nat.le_refl 100)
  obtain ⟨hso, ks, hks, sc, hsk⟩ := hof
  obtain ⟨-, kd, hkd, dc, hdk⟩ := (hK.2 100).1 n1 (fun j => .int (w.1 k1 j))
  intro T hT X
  obtain ⟨vm', X', step⟩ := X.arraycopy hx hown (hts _ hl) (hts _ hnat) (hts _ hstat) (hts _ hini) (src := a0) (dst := eh_b g + k1) (cs := cs) (cd := arrV (eh_c g 100) n1 (fun j => .int (w.1 k1 j))) (srcPos := sp) (destPos := dp) (n := n) (by rw [hT]; exact hsrc) (by rw [hT]; exact hc1)
    hso (fun _ h => by cases h) hkn (fun h => by cases h) hks hkd hsk hdk rfl h1 h2 h3
    (by omega)
    (by rw [arrV_size]; omega)
    (fun vm₁ _ i hi => by
      have e : cs.slots.getD (sp.toNatClampNeg + i) .null = .int (f (sp.toNatClampNeg + i)) := by
        rw [Array.getD_eq_getD_getElem?, hval _ (by omega)]
        rfl
      rw [e]
      exact ⟨rfl, trivial⟩)
    (g := F0 m pc ls (.int n :: .int dp :: .ref (eh_b g + k1) :: .int sp :: .ref a0 :: rest)) rfl (by rw [hml]; exact hls) (rest := rest) rfl (by rw [hb]; exact hd) hR.1 (by
      show 2 * 0 + _ + _ ≤ _
      have : nativeFrameWords "java/lang/System" "arraycopy" 5 + 11 ≤ 32 := by decide
      omega)
  have e1 : copied cs (arrV (eh_c g 100) n1 (fun j => .int (w.1 k1 j))) sp dp n = arrV (eh_c g 100) n1 (fun j => .int (va_cpy f (w.1 k1) sp.toNatClampNeg dp.toNatClampNeg n.toNatClampNeg j)) := by
    have es : cs.stretch sp.toNatClampNeg n.toNatClampNeg = (arrV (eh_c g 100) nn (fun j => Value.int (f j))).stretch sp.toNatClampNeg n.toNatClampNeg := by
      unfold Cell.stretch
      apply List.map_congr_left
      intro i hi
      have hi' := List.mem_range.mp hi
      rw [Array.getD_eq_getD_getElem?, Array.getD_eq_getD_getElem?, hval _ (by omega), arrV_read _ _ (by omega)]
    show (arrV (eh_c g 100) n1 (fun j => .int (w.1 k1 j))).storeRun dp.toNatClampNeg (cs.stretch sp.toNatClampNeg n.toNatClampNeg) = _
    rw [es]
    exact va_copied (fun z => .int z) _ _ f (w.1 k1) h4
  rw [e1] at X' step
  have hl1 : eh_b g + k1 < H.size := (Array.getElem?_eq_some_iff.mp hc1).1
  generalize hcell : arrV (eh_c g 100) n1 (fun j => .int (va_cpy f (w.1 k1) sp.toNatClampNeg dp.toNatClampNeg n.toNatClampNeg j)) = cell at X' step
  have hheap : ((T.setVm vm').setCell (eh_b g + k1) cell).heap = H.setIfInBounds (eh_b g + k1) cell := by rw [← hT]; rfl
  have oq : ∀ q : Nat, q ≠ eh_b g + k1 → (H.setIfInBounds (eh_b g + k1) cell)[q]? = H[q]? := fun q hq => by simp [Array.getElem?_setIfInBounds, Ne.symm hq]
  have hat : (H.setIfInBounds (eh_b g + k1) cell)[eh_b g + k1]? = some cell := by simp [Array.getElem?_setIfInBounds, hl1]
  obtain ⟨t, a1, b1⟩ := kk _ _ ⟨eh_G.other S.1 hk1 (by simp) oq rfl (fun a ha => if_neg ha) (fun _ _ => rfl) (fun _ _ => rfl) ⟨fun h => absurd h (show ¬ 100 < 100 by decide), fun _ => by
      rw [hat, ← hcell]
      congr 2
      funext q
      simp [eh_av, eh_sF]⟩, by simp; exact S.2.1, fun q g1 g2 => by
      rw [oq q (fun e => g2 (by rw [e]; exact Nat.le_add_right _ _))]
      exact S.2.2.1 q g1 g2, fun q hq => by
      rcases List.mem_append.mp hq with h | h
      · exact S.2.2.2 q h
      · obtain ⟨z, -, hz⟩ := List.mem_map.mp h
        rw [← hz]
        exact Nat.le_add_right _ _⟩ _ hheap X'
  exact ⟨t, step t a1, b1⟩
theorem er_copyI {k0 k1 n0 n1 idx : Nat} {sp dp n : Int32} (hk0 : w.2.2.2[k0]? = some (100, n0)) (hk1 : w.2.2.2[k1]? = some (100, n1)) (hs0 : k0 < eh_SB) (hs1 : k1 < eh_SB) (hok : eh_cok sp dp n n0 n1 = true)
    (hl : eh_LK M.1 idx arraycopyName) (hnat : Cond.native arraycopyName ∈ eh_tb) (hstat : Cond.static arraycopyName ∈ eh_tb) (hini : Cond.initialized "java/lang/System" ∈ eh_tb) (hR : 1 ≤ R.frames ∧ 40 ≤ R.locals) (hW : (st.map fun v => v.category).sum ≤ 8) (hd : decode M.2.1 pc = .ok (.invokestatic idx, 3))
    (kk : eh_Run g M R cells slots (pc + 3) L st (eh_sF w k1 (va_cpy (w.1 k0) (w.1 k1) sp.toNatClampNeg dp.toNatClampNeg n.toNatClampNeg)) r w') : eh_Run g M R cells slots pc L (.int n :: .int dp :: .ref k1 :: .int sp :: .ref k0 :: st) w r w' := by
  intro p e s m args below meth c H locs ls Q C S V K
  have e0 : eh_cv g (.ref k0) = .ref (eh_b g + k0) := by simp only [eh_cv]; rw [if_pos hs0]
  have e1 : eh_cv g (.ref k1) = .ref (eh_b g + k1) := by simp only [eh_cv]; rw [if_pos hs1]
  simp only [List.map_cons, e0, e1]
  have hc0 := (S.1.2 k0 _ hk0).2 (Nat.le_refl 100)
  refine eh_copyW (f := w.1 k0) (nn := n0) C S V.1 hc0 ((C.2.2.2.2.2.2.2.2.1.2 100).1 n0 _) (fun h => by cases h) (fun i hi => by rw [arrV_read _ _ hi]; rfl) (by rw [arrV_size]; exact Nat.le_refl _) hk1 hok hl hnat hstat hini hR (by rw [eh_cat_sum]; exact hW) hd (fun H1 locs1 S1 => ?_)
  exact kk p e s m args below meth c H1 locs1 ls Q C S1 V K
theorem er_copyT {i k1 n1 idx : Nat} {sp dp n : Int32} (hi : i < 4) (hk1 : w.2.2.2[k1]? = some (100, n1)) (hs1 : k1 < eh_SB) (hok : eh_cok sp dp n (eh_tn i) n1 = true)
    (hl : eh_LK M.1 idx arraycopyName) (hnat : Cond.native arraycopyName ∈ eh_tb) (hstat : Cond.static arraycopyName ∈ eh_tb) (hini : Cond.initialized "java/lang/System" ∈ eh_tb) (hR : 1 ≤ R.frames ∧ 40 ≤ R.locals) (hW : (st.map fun v => v.category).sum ≤ 8) (hd : decode M.2.1 pc = .ok (.invokestatic idx, 3))
    (kk : eh_Run g M R cells slots (pc + 3) L st (eh_sF w k1 (va_cpy (eh_tt i) (w.1 k1) sp.toNatClampNeg dp.toNatClampNeg n.toNatClampNeg)) r w') : eh_Run g M R cells slots pc L (.int n :: .int dp :: .ref k1 :: .int sp :: .ref (eh_SB + i) :: st) w r w' := by
  intro p e s m args below meth c H locs ls Q C S V K
  have e0 : eh_cv g (.ref (eh_SB + i)) = .ref (eh_s g i) := by
    simp only [eh_cv]; rw [if_neg (Nat.not_lt.mpr (Nat.le_add_right _ _)), Nat.add_sub_cancel_left]
  have e1 : eh_cv g (.ref k1) = .ref (eh_b g + k1) := by simp only [eh_cv]; rw [if_pos hs1]
  simp only [List.map_cons, e0, e1]
  obtain ⟨cell, q1, q2, q3, q4, q5, q6, q7⟩ := (C.2.2.2.2.2.2.2.2.2.1.1 i hi).2
  refine eh_copyW (f := eh_tt i) (nn := eh_tn i) C S V.1 (by rw [S.2.2.1 _ (Array.getElem?_eq_some_iff.mp q1).1 q7]; exact q1) q2 q3 q6 q4 hk1 hok hl hnat hstat hini hR (by rw [eh_cat_sum]; exact hW) hd (fun H1 locs1 S1 => ?_)
  exact kk p e s m args below meth c H1 locs1 ls Q C S1 V K
variable {α : Type} {enc : α → Option Value × eh_W} {mm : Option α} {x : Int32} {dflt lo hi off : Int} {offs : Array Int} {len tgt : Nat}
theorem es_tsw (hd : decode M.2.1 pc = .ok (.tableswitch dflt lo hi offs, len)) (v : Int32) (hv : x = v) (hb : ¬ v.toInt < lo ∧ ¬ hi < v.toInt ∧ offs[(v.toInt - lo).toNat]? = some off ∧ (pc : Int) + off = (tgt : Int)) (k : eh_Sim g M R enc cells slots tgt L st w mm) : eh_Sim g M R enc cells slots pc L (.int x :: st) w mm := by
  subst hv
  exact fun a ha p e s m args below meth c H locs ls Q C S V Kr => lv_tableIn C.1 C.2.1 hd hb.1 hb.2.1 hb.2.2.1 hb.2.2.2 (k a ha p e s m args below meth c H locs ls Q C S V Kr)
theorem es_tswD (hd : decode M.2.1 pc = .ok (.tableswitch dflt lo hi offs, len)) (vals : List Int) (hne : ∀ v ∈ vals, ¬ x.toInt = v) (hall : ((List.range offs.size).all (fun i => decide (offs[i]? = some dflt) || decide ((lo + (i : Int)) ∈ vals))) = true) (hsz : hi - lo < (offs.size : Int)) (ht : (pc : Int) + dflt = (tgt : Int)) (k : eh_Sim g M R enc cells slots tgt L st w mm) : eh_Sim g M R enc cells slots pc L (.int x :: st) w mm := by
  intro a ha p e s m args below meth c H locs ls Q C S V Kr
  have k1 := k a ha p e s m args below meth c H locs ls Q C S V Kr
  by_cases h : x.toInt < lo ∨ hi < x.toInt
  · exact lv_tableOut C.1 C.2.1 hd h ht k1
  · have h1 : ¬ x.toInt < lo := fun q => h (Or.inl q)
    have h2 : ¬ hi < x.toInt := fun q => h (Or.inr q)
    have h3 := List.all_eq_true.mp hall (x.toInt - lo).toNat (List.mem_range.mpr (by omega))
    simp only [Bool.or_eq_true, decide_eq_true_eq] at h3
    rcases h3 with h3 | h3
    · exact lv_tableIn C.1 C.2.1 hd h1 h2 h3 ht k1
    · exact absurd (by omega) (hne _ h3)
variable {ps : Array (Int × Int)}
theorem es_lsw (hd : decode M.2.1 pc = .ok (.lookupswitch dflt ps, len)) (v : Int32) (hv : x = v) (hp : (ps.toList.zip (ps.toList.drop 1)).all (fun (a, next) => a.1 < next.1) = true) (ho : Op.lookupswitch.offset ps.toList dflt v.toInt = off) (ht : (pc : Int) + off = (tgt : Int)) (k : eh_Sim g M R enc cells slots tgt L st w mm) : eh_Sim g M R enc cells slots pc L (.int x :: st) w mm := by
  subst hv
  exact fun a ha p e s m args below meth c H locs ls Q C S V Kr => lv_lookup C.1 C.2.1 hd hp ho ht (k a ha p e s m args below meth c H locs ls Q C S V Kr)
theorem eh_off_d (x d : Int) : ∀ ps : List (Int × Int), (∀ q ∈ ps.map (·.1), ¬ x = q) → Op.lookupswitch.offset ps d x = d
  | [], _ => by simp [Op.lookupswitch.offset]
  | q :: r, h => by
    rw [Op.lookupswitch.offset_cons, if_neg (fun z => h q.1 (by simp) z.symm)]
    exact eh_off_d x d r (fun z hz => h z (by simp at hz ⊢; exact Or.inr hz))
theorem es_lswD (hd : decode M.2.1 pc = .ok (.lookupswitch dflt ps, len)) (vals : List Int) (hne : ∀ v ∈ vals, ¬ x.toInt = v) (hall : ps.toList.map (·.1) = vals) (hp : (ps.toList.zip (ps.toList.drop 1)).all (fun (a, next) => a.1 < next.1) = true) (ht : (pc : Int) + dflt = (tgt : Int)) (k : eh_Sim g M R enc cells slots tgt L st w mm) : eh_Sim g M R enc cells slots pc L (.int x :: st) w mm := by
  subst hall
  exact fun a ha p e s m args below meth c H locs ls Q C S V Kr => lv_lookup C.1 C.2.1 hd hp (eh_off_d _ _ _ hne) ht (k a ha p e s m args below meth c H locs ls Q C S V Kr)
theorem eh_nei {x : Int32} (v : Int32) (i : Int) (hv : v.toInt = i) (h : ¬ x = v) : ¬ x.toInt = i := fun q => h (Int32.toInt_inj.mp (q.trans hv.symm))
end EhCopy
