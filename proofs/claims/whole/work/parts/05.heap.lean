/-! what the heap's instructions do to worlds -/
def eh_sF (w : eh_W) (k : Nat) (f : Nat → Int32) : eh_W := (fun a => if a = k then f else w.1 a, w.2)
def eh_sI (w : eh_W) (k j : Nat) (v : Int32) : eh_W := eh_sF w k (upd (w.1 k) j v)
def eh_sJ (w : eh_W) (k j : Nat) (v : Int64) : eh_W := (w.1, fun a => if a = k then vp_updL (w.2.1 k) j v else w.2.1 a, w.2.2)
def eh_uN (f : Nat → Nat) (k x : Nat) : Nat → Nat := fun j => if j = k then x else f j
def eh_sP (w : eh_W) (k j q : Nat) : eh_W := (w.1, w.2.1, fun a => if a = k then eh_uN (w.2.2.1 k) j q else w.2.2.1 a, w.2.2.2)
def eh_FL (own : String) (idx ci j : Nat) : Prop := ∃ (C : String) (T : u_T) (N : Nat), eh_cl[ci]? = some (C, T, N) ∧ j < N ∧ ci < 100 ∧ (T j).1 = C ∧ Cond.fieldLink own idx C (T j).2.1 (T j).2.2.1 ∈ eh_tb
def eh_fin (ci j : Nat) : Bool := match eh_cl[ci]? with
  | some q => (q.2.1 j).2.2.2
  | none => true
theorem eh_cf_in {ci N : Nat} {C : String} {T : u_T} (h : eh_cl[ci]? = some (C, T, N)) : ∀ w ∈ u_ws C T N, w ∈ eh_tb := by
  have key : ∀ {C : String} {T : u_T} {N : Nat}, (u_ws C T N).all (fun w => decide (w ∈ lw_tbl) && goodWord w) = true → ∀ w ∈ u_ws C T N, w ∈ eh_tb := by
    intro C T N h w hw
    have h1 := List.all_eq_true.mp h w hw
    simp only [Bool.and_eq_true, decide_eq_true_eq] at h1
    exact List.mem_filter.mpr h1
  match ci, h with
  | 0, h => cases h; exact key eh_in0
  | 1, h => cases h; exact key eh_in1
  | 2, h => cases h; exact key eh_in2
  | 3, h => cases h; exact key eh_in3
  | 4, h => cases h; exact key eh_in4
  | 5, h => cases h; exact key eh_in5
  | 6, h => cases h; exact key eh_in6
  | 7, h => cases h; exact key eh_in7
  | 8, h => cases h; exact key eh_in8
  | 9, h => cases h; exact key eh_in9
  | 10, h => cases h; exact key eh_in10
  | 11, h => cases h; exact key eh_in11
  | 12, h => cases h; exact key eh_in12
  | n + 13, h => cases h
theorem eh_cf_ty {ci N : Nat} {C : String} {T : u_T} (h : eh_cl[ci]? = some (C, T, N)) : ∀ k, k < N → parseFieldDescriptor (T k).2.2.1 = some (eh_yt ci k) := by
  match ci, h with
  | 0, h => cases h; exact eh_yo0
  | 1, h => cases h; exact eh_yo1
  | 2, h => cases h; exact eh_yo2
  | 3, h => cases h; exact eh_yo3
  | 4, h => cases h; exact eh_yo4
  | 5, h => cases h; exact eh_yo5
  | 6, h => cases h; exact eh_yo6
  | 7, h => cases h; exact eh_yo7
  | 8, h => cases h; exact eh_yo8
  | 9, h => cases h; exact eh_yo9
  | 10, h => cases h; exact eh_yo10
  | 11, h => cases h; exact eh_yo11
  | 12, h => cases h; exact eh_yo12
  | n + 13, h => cases h
theorem eh_cf_nm {ci N : Nat} {C : String} {T : u_T} (h : eh_cl[ci]? = some (C, T, N)) : ∀ a, a < N → ∀ b, b < N → a ≠ b → (T a).2.1 ≠ (T b).2.1 := by
  match ci, h with
  | 0, h => cases h; exact eh_nm0
  | 1, h => cases h; exact eh_nm1
  | 2, h => cases h; exact eh_nm2
  | 3, h => cases h; exact eh_nm3
  | 4, h => cases h; exact eh_nm4
  | 5, h => cases h; exact eh_nm5
  | 6, h => cases h; exact eh_nm6
  | 7, h => cases h; exact eh_nm7
  | 8, h => cases h; exact eh_nm8
  | 9, h => cases h; exact eh_nm9
  | 10, h => cases h; exact eh_nm10
  | 11, h => cases h; exact eh_nm11
  | 12, h => cases h; exact eh_nm12
  | n + 13, h => cases h
/-- a field's kind: int, boolean, a reference -/
def eh_fk (t : FieldType) : Nat := match t with
  | .int => 0
  | .boolean => 1
  | .object _ => 3
  | .array _ => 3
  | _ => 9
theorem eh_fk_ok : ∀ ci, ci < 13 → ∀ j, j < 110 → eh_fk (eh_yt ci j) = eh_ft ci j := by decide +kernel
theorem eh_cl_lt {ci N : Nat} {C : String} {T : u_T} (h : eh_cl[ci]? = some (C, T, N)) : ci < 13 ∧ N < 110 := by
  match ci, h with
  | 0, h => cases h; decide
  | 1, h => cases h; decide
  | 2, h => cases h; decide
  | 3, h => cases h; decide
  | 4, h => cases h; decide
  | 5, h => cases h; decide
  | 6, h => cases h; decide
  | 7, h => cases h; decide
  | 8, h => cases h; decide
  | 9, h => cases h; decide
  | 10, h => cases h; decide
  | 11, h => cases h; decide
  | 12, h => cases h; decide
  | n + 13, h => cases h
theorem eh_at.congr {g : eh_P} {w w' : eh_W} {H H' : Heap} {k : Nat} {sh : eh_Sh} (h : eh_at g w H k sh) (h1 : w'.1 k = w.1 k) (h2 : w'.2.1 k = w.2.1 k) (h3 : w'.2.2.1 k = w.2.2.1 k) (hq : H'[eh_b g + k]? = H[eh_b g + k]?) : eh_at g w' H' k sh := by
  have e1 : eh_fv g w' sh.1 k = eh_fv g w sh.1 k := by funext j; unfold eh_fv; rw [h1, h3]
  have e2 : eh_av g w' sh.1 k = eh_av g w sh.1 k := by funext j; unfold eh_av; rw [h1, h2, h3]
  refine ⟨fun hl => ?_, fun hl => ?_⟩
  · obtain ⟨r, hr, ho⟩ := h.1 hl
    rw [e1]
    exact ⟨r, hr, ho.kept hq⟩
  · rw [hq, e2]
    exact h.2 hl
theorem eh_G.other {g : eh_P} {w w' : eh_W} {H H' : Heap} {k : Nat} {sh : eh_Sh} (h : eh_G g w H) (hk : w.2.2.2[k]? = some sh) (hz : H'.size = H.size) (oq : ∀ q, q ≠ eh_b g + k → H'[q]? = H[q]?) (hsh : w'.2.2.2 = w.2.2.2) (h1 : ∀ a, a ≠ k → w'.1 a = w.1 a) (h2 : ∀ a, a ≠ k → w'.2.1 a = w.2.1 a) (h3 : ∀ a, a ≠ k → w'.2.2.1 a = w.2.2.1 a) (hat : eh_at g w' H' k sh) : eh_G g w' H' := by
  refine ⟨by rw [hz, hsh]; exact h.1, fun a s2 ha => ?_⟩
  rw [hsh] at ha
  by_cases e : a = k
  · subst e
    rw [hk] at ha
    cases ha
    exact hat
  · exact (h.2 a s2 ha).congr (h1 a e) (h2 a e) (h3 a e) (oq _ (by omega))
section EhHeap
variable {g : eh_P} {M : eh_M} {R : Room} {cells slots pc : Nat} {L : eh_LL} {st : List Value} {w : eh_W} {r : Option Value} {w' : eh_W}
theorem er_getI {k ci z idx j : Nat} (hk : w.2.2.2[k]? = some (ci, z)) (hF : eh_FL M.1 idx ci j) (hf : eh_ft ci j ≠ 3) (hs : k < eh_SB) (hd : decode M.2.1 pc = .ok (.getfield idx, 3)) (kk : eh_Run g M R cells slots (pc + 3) L (.int (w.1 k j) :: st) w r w') : eh_Run g M R cells slots pc L (.ref k :: st) w r w' := by
  intro p e s m args below meth c H locs ls Q C S V K
  have k1 := kk p e s m args below meth c H locs ls Q C S V K
  obtain ⟨hx, hb, hml, hown, hts, hlk, hr, hin, hK, hZ, hB⟩ := C
  obtain ⟨CC, T, N, hc, hj, hci, hdc, hlw⟩ := hF
  obtain ⟨r0, hr0, cell, q1, q2, q3, q4⟩ := (S.1.2 k _ hk).1 hci
  have hr0' : r0 = (CC, T, N) := Option.some.inj (hr0.symm.trans hc)
  subst hr0'
  obtain ⟨hSl, hfc, kC, hkC, hkind⟩ := hK.1 ci _ hc
  obtain ⟨cf, kf, fi, f, hi, hsl⟩ := hSl j hj
  rw [hdc] at hi
  have hlay := u_lays hts (eh_cf_in hc) hj
  rw [hdc] at hlay
  show W _ _ _ _ _ _ _ _ _ _ _ _ _ _ _ (F0 m pc ls (Value.ref (if k < eh_SB then eh_b g + k else _) :: st.map (eh_cv g)))
  rw [if_pos hs]
  refine W.getf hx hb hown (hts _ hlw) hi (u_facts hfc hkC hlay hi).1 q1 (by rw [q3]; exact fun h => by cases h) (v := .int (w.1 k j)) ?_ rfl rfl hd k1
  rw [hsl, q4 j hj]
  simp [eh_fv, hf]
theorem er_getP {k ci z idx j q : Nat} (hk : w.2.2.2[k]? = some (ci, z)) (hF : eh_FL M.1 idx ci j) (hf : eh_ft ci j = 3) (hq : w.2.2.1 k j = q) (hqn : q < eh_NU) (hs : k < eh_SB) (hd : decode M.2.1 pc = .ok (.getfield idx, 3)) (kk : eh_Run g M R cells slots (pc + 3) L (.ref q :: st) w r w') : eh_Run g M R cells slots pc L (.ref k :: st) w r w' := by
  intro p e s m args below meth c H locs ls Q C S V K
  have k1 := kk p e s m args below meth c H locs ls Q C S V K
  obtain ⟨hx, hb, hml, hown, hts, hlk, hr, hin, hK, hZ, hB⟩ := C
  obtain ⟨CC, T, N, hc, hj, hci, hdc, hlw⟩ := hF
  obtain ⟨r0, hr0, cell, q1, q2, q3, q4⟩ := (S.1.2 k _ hk).1 hci
  have hr0' : r0 = (CC, T, N) := Option.some.inj (hr0.symm.trans hc)
  subst hr0'
  obtain ⟨hSl, hfc, kC, hkC, hkind⟩ := hK.1 ci _ hc
  obtain ⟨cf, kf, fi, f, hi, hsl⟩ := hSl j hj
  rw [hdc] at hi
  have hlay := u_lays hts (eh_cf_in hc) hj
  rw [hdc] at hlay
  show W _ _ _ _ _ _ _ _ _ _ _ _ _ _ _ (F0 m pc ls (Value.ref (if k < eh_SB then eh_b g + k else _) :: st.map (eh_cv g)))
  rw [if_pos hs]
  refine W.getf hx hb hown (hts _ hlw) hi (u_facts hfc hkC hlay hi).1 q1 (by rw [q3]; exact fun h => by cases h) (v := eh_cv g (.ref q)) ?_ rfl rfl hd k1
  rw [hsl, q4 j hj]
  have h1 : q < eh_SB := Nat.lt_trans hqn (by decide)
  simp only [eh_fv, hf, if_true, eh_rv, hq, if_neg (Nat.ne_of_lt hqn), eh_cv, if_pos h1]
/-- what a store into a field does -/
theorem eh_putW {k ci z idx j : Nat} {p : Program} {e : Env} {s : State} {m : MethodId} {args : Array Value} {below : List Frame} {meth : Method} {c : Code} {H : Heap} {locs : List Loc} {ls : Array Slot} {Q : State → Prop} {v : Value} {w2 : eh_W} {rest : List Value}
    (hk : w.2.2.2[k]? = some (ci, z)) (hF : eh_FL M.1 idx ci j) (hfin : eh_fin ci j = false ∨ (M.2.2.2.2 = true ∧ (∀ r0, eh_cl[ci]? = some r0 → r0.1 = M.1) ∧ eh_fin ci j = true)) (hn : narrow (eh_yt ci j) v = v) (hfit : fits (eh_yt ci j) v = true) (hd : decode M.2.1 pc = .ok (.putfield idx, 3))
    (h1 : ∀ a, a ≠ k → w2.1 a = w.1 a) (h2 : ∀ a, a ≠ k → w2.2.1 a = w.2.1 a) (h3 : ∀ a, a ≠ k → w2.2.2.1 a = w.2.2.1 a) (hsh : w2.2.2.2 = w.2.2.2) (hv : ∀ i, eh_fv g w2 ci k i = updV (eh_fv g w ci k) j v i)
    (C : eh_Cx g M p s m args meth c) (S : eh_St g s H locs w) (kk : ∀ (H' : Heap) (locs' : List Loc), eh_St g s H' locs' w2 → W p (eh_l g) e R s m args below meth c H' locs' cells slots Q (F0 m (pc + 3) ls rest)) :
    W p (eh_l g) e R s m args below meth c H locs cells slots Q (F0 m pc ls (v :: .ref (eh_b g + k) :: rest)) := by
  obtain ⟨hx, hb, hml, hown, hts, hlk, hr, hin, hK, hZ, hB⟩ := C
  obtain ⟨CC, T, N, hc, hj, hci, hdc, hlw⟩ := hF
  have hat := (S.1.2 k _ hk).1 hci
  obtain ⟨r0, hr0, cell, q1, q2, q3, q4⟩ := hat
  have hr0' : r0 = (CC, T, N) := Option.some.inj (hr0.symm.trans hc)
  subst hr0'
  obtain ⟨hSl, hfc, kC, hkC, hkind⟩ := hK.1 ci _ hc
  have hap : ∀ x y, x < N → y < N → x ≠ y → ((eh_D g).2 ci) x ≠ ((eh_D g).2 ci) y := by
    intro x y hx' hy' hne
    obtain ⟨_, _, _, fa, hia, ea⟩ := hSl x hx'
    obtain ⟨_, _, _, fb, hib, eb⟩ := hSl y hy'
    rw [← ea, ← eb]
    refine u_apart (u_lays hts (eh_cf_in hc) hx') (u_lays hts (eh_cf_in hc) hy') hia hib ?_
    rw [(State.fieldFound?_type hia (eh_cf_ty hc x hx')).1, (State.fieldFound?_type hib (eh_cf_ty hc y hy')).1]
    exact eh_cf_nm hc x hx' y hy' hne
  obtain ⟨cf, kf, fi, f, hi, hsl⟩ := hSl j hj
  have hlay0 := hts _ (eh_cf_in hc _ (u_in_lay hj))
  have hlay := u_lays hts (eh_cf_in hc) hj
  have hst := (u_facts hfc hkC hlay hi).1
  have hty := eh_cf_ty hc j hj
  have goal : ∀ H' : Heap, H'[eh_b g + k]? = some (cell.setSlot f.slot v) → H'.size = H.size → (∀ q, q ≠ eh_b g + k → H'[q]? = H[q]?) → W p (eh_l g) e R s m args below meth c H' (locs ++ [⟨eh_b g + k, f.slot⟩]) cells slots Q (F0 m (pc + 3) ls rest) := by
    intro H' e1 e2 e3
    refine kk H' _ ⟨eh_G.other S.1 hk e2 e3 hsh h1 h2 h3 ⟨fun _ => ⟨(CC, T, N), hc, ?_⟩, fun h => absurd h (Nat.not_le.mpr hci)⟩, S.2.put e2 e3 (Nat.le_add_right _ _)⟩
    rw [hsl] at e1
    exact t_OB.to (V := updV (eh_fv g w ci k) j v) ⟨_, e1, q2, q3, t_set q4 hap hj v⟩ (fun i _ => (hv i).symm)
  have hfe : eh_fin ci j = (T j).2.2.2 := by unfold eh_fin; rw [hc]
  rcases hfin with hfin | ⟨hi1, hi2, hfin⟩
  · unfold u_lay at hlay0
    rw [if_neg (by rw [← hfe, hfin]; decide)] at hlay0
    have h6 := u_store hfc hkC hkind hlay0 hi hty hn hfit
    rw [hdc] at hi
    exact W.putK hx hb (f := f) ⟨hown, hts _ hlw, ⟨_, _, _, hi⟩, hst⟩ (by rw [q2]; exact h6) q1 q3 (by rw [hsl]; exact k2_hasslot (q4 j hj)) rfl rfl hd goal
  · unfold u_lay at hlay0
    rw [if_pos (by rw [← hfe]; exact hfin)] at hlay0
    have hcf : m.cls = cf := by
      obtain ⟨_, _, c', _, _, _, -, -, hf', -, -, -, hown2, -⟩ := Cond.laysFinal_spec hlay0
      have e1 : c' = cf := by have := hi.symm.trans hf'; simp at this; exact this.1.symm
      rw [hdc, show CC = M.1 from hi2 _ hc] at hown2
      rw [← e1]; exact Option.some.inj (hown.symm.trans hown2)
    have h6 := u_fits hfc hkC hkind (Or.inr hlay0) hi hty hn hfit
    rw [hdc] at hi
    exact W.putFinK hx hb hown (hts _ hlw) hi hst hcf (hin hi1) (by rw [q2]; exact h6) q1 q3 (by rw [hsl]; exact k2_hasslot (q4 j hj)) rfl rfl hd goal
theorem er_putI {k ci z idx j : Nat} {v : Int32} (hk : w.2.2.2[k]? = some (ci, z)) (hF : eh_FL M.1 idx ci j) (hfin : eh_fin ci j = false ∨ (M.2.2.2.2 = true ∧ (∀ r0, eh_cl[ci]? = some r0 → r0.1 = M.1) ∧ eh_fin ci j = true)) (hf : eh_ft ci j = 0 ∨ (eh_ft ci j = 1 ∧ (v = 0 ∨ v = 1))) (hs : k < eh_SB) (hd : decode M.2.1 pc = .ok (.putfield idx, 3)) (kk : eh_Run g M R cells slots (pc + 3) L st (eh_sI w k j v) r w') : eh_Run g M R cells slots pc L (.int v :: .ref k :: st) w r w' := by
  intro p e s m args below meth c H locs ls Q C S V K
  show W _ _ _ _ _ _ _ _ _ _ _ _ _ _ _ (F0 m pc ls (Value.int v :: Value.ref (if k < eh_SB then eh_b g + k else _) :: st.map (eh_cv g)))
  rw [if_pos hs]
  have hF2 := hF
  obtain ⟨CC, T, N, hc, hj, hci, -⟩ := hF2
  have hlt := eh_cl_lt hc
  have hfk := eh_fk_ok ci hlt.1 j (Nat.lt_trans hj hlt.2)
  have hne : eh_ft ci j ≠ 3 := by rcases hf with h | h <;> omega
  have hty : narrow (eh_yt ci j) (.int v) = .int v ∧ fits (eh_yt ci j) (.int v) = true := by
    rcases hf with h | ⟨h, hv⟩
    · rw [h] at hfk
      cases hy : eh_yt ci j <;> rw [hy] at hfk <;> simp [eh_fk] at hfk
      exact ⟨rfl, rfl⟩
    · rw [h] at hfk
      cases hy : eh_yt ci j <;> rw [hy] at hfk <;> simp [eh_fk] at hfk
      rcases hv with rfl | rfl <;> exact ⟨rfl, rfl⟩
  refine eh_putW (w2 := eh_sI w k j v) hk hF hfin hty.1 hty.2 hd (fun a ha => if_neg ha) (fun a _ => rfl) (fun a _ => rfl) rfl (fun i => ?_) C S (fun H' locs' S' => kk p e s m args below meth c H' locs' ls Q C S' V K)
  unfold eh_fv updV
  by_cases hi : i = j
  · subst hi
    simp [hne, eh_sI, eh_sF, upd]
  · simp [eh_sI, eh_sF, upd, hi]
theorem er_putP {k ci z idx j q : Nat} (hk : w.2.2.2[k]? = some (ci, z)) (hF : eh_FL M.1 idx ci j) (hfin : eh_fin ci j = false ∨ (M.2.2.2.2 = true ∧ (∀ r0, eh_cl[ci]? = some r0 → r0.1 = M.1) ∧ eh_fin ci j = true)) (hf : eh_ft ci j = 3) (hqn : q < eh_NU) (hs : k < eh_SB) (hd : decode M.2.1 pc = .ok (.putfield idx, 3)) (kk : eh_Run g M R cells slots (pc + 3) L st (eh_sP w k j q) r w') : eh_Run g M R cells slots pc L (.ref q :: .ref k :: st) w r w' := by
  intro p e s m args below meth c H locs ls Q C S V K
  have h1 : q < eh_SB := Nat.lt_trans hqn (by decide)
  show W _ _ _ _ _ _ _ _ _ _ _ _ _ _ _ (F0 m pc ls (Value.ref (if q < eh_SB then eh_b g + q else _) :: Value.ref (if k < eh_SB then eh_b g + k else _) :: st.map (eh_cv g)))
  rw [if_pos hs, if_pos h1]
  have hF2 := hF
  obtain ⟨CC, T, N, hc, hj, hci, -⟩ := hF2
  have hlt := eh_cl_lt hc
  have hfk := eh_fk_ok ci hlt.1 j (Nat.lt_trans hj hlt.2)
  have hty : narrow (eh_yt ci j) (.ref (eh_b g + q)) = .ref (eh_b g + q) ∧ fits (eh_yt ci j) (.ref (eh_b g + q)) = true := by
    rw [hf] at hfk
    cases hy : eh_yt ci j <;> rw [hy] at hfk <;> simp [eh_fk] at hfk <;> exact ⟨rfl, rfl⟩
  refine eh_putW (w2 := eh_sP w k j q) hk hF hfin hty.1 hty.2 hd (fun a _ => rfl) (fun a _ => rfl) (fun a ha => if_neg ha) rfl (fun i => ?_) C S (fun H' locs' S' => kk p e s m args below meth c H' locs' ls Q C S' V K)
  unfold eh_fv updV
  by_cases hi : i = j
  · subst hi
    simp [hf, eh_sP, eh_uN, eh_rv, Nat.ne_of_lt hqn]
  · simp [eh_sP, eh_uN, hi]
/-! arrays -/
theorem er_aldI {k t n : Nat} {i : Int32} {ins : Instr} (hk : w.2.2.2[k]? = some (t, n)) (ht : (t = 100 ∧ ins = .iaload) ∨ ((t = 101 ∨ t = 102) ∧ ins = .baload)) (hin : vp_in i n) (hs : k < eh_SB) (hd : decode M.2.1 pc = .ok (ins, 1)) (kk : eh_Run g M R cells slots (pc + 1) L (.int (w.1 k i.toNatClampNeg) :: st) w r w') : eh_Run g M R cells slots pc L (.int i :: .ref k :: st) w r w' := by
  intro p e s m args below meth c H locs ls Q C S V K
  have k1 := kk p e s m args below meth c H locs ls Q C S V K
  obtain ⟨hx, hb, hml, hown, hts, hlk, hr, hin0, hK, hZ, hB⟩ := C
  show W _ _ _ _ _ _ _ _ _ _ _ _ _ _ _ (F0 m pc ls (Value.int i :: Value.ref (if k < eh_SB then eh_b g + k else _) :: st.map (eh_cv g)))
  rw [if_pos hs]
  have h100 : 100 ≤ t := by rcases ht with ⟨h, -⟩ | ⟨h | h, -⟩ <;> omega
  have hcell := (S.1.2 k _ hk).2 h100
  have hlt : i.toNatClampNeg < n := Nat.not_le.mp fun q => hin (Or.inr q)
  have hin' : ¬ (i < 0 ∨ (arrV (eh_c g t) n (eh_av g w t k)).slots.size ≤ i.toNatClampNeg) := by rw [arrV_size]; exact hin
  have hval : (arrV (eh_c g t) n (eh_av g w t k)).slots[i.toNatClampNeg]? = some (.int (w.1 k i.toNatClampNeg)) := by
    rw [arrV_read _ _ hlt]
    rcases ht with ⟨h, -⟩ | ⟨h | h, -⟩ <;> subst h <;> rfl
  rcases ht with ⟨h, rfl⟩ | ⟨h | h, rfl⟩
  · subst h
    exact W.iald hx hb hcell ((hK.2 100).1 n _) (fun q => by cases q) hin' hval rfl rfl hd k1
  · subst h
    exact W.bald hx hb hcell ((hK.2 101).1 n _) (fun q => by cases q) hin' hval rfl rfl hd k1
  · subst h
    exact W.zald hx hb hcell ((hK.2 102).1 n _) (fun q => by cases q) hin' hval rfl rfl hd k1
theorem er_aldJ {k n : Nat} {i : Int32} (hk : w.2.2.2[k]? = some (103, n)) (hin : vp_in i n) (hs : k < eh_SB) (hd : decode M.2.1 pc = .ok (.laload, 1)) (kk : eh_Run g M R cells slots (pc + 1) L (.long (w.2.1 k i.toNatClampNeg) :: st) w r w') : eh_Run g M R cells slots pc L (.int i :: .ref k :: st) w r w' := by
  intro p e s m args below meth c H locs ls Q C S V K
  have k1 := kk p e s m args below meth c H locs ls Q C S V K
  obtain ⟨hx, hb, hml, hown, hts, hlk, hr, hin0, hK, hZ, hB⟩ := C
  show W _ _ _ _ _ _ _ _ _ _ _ _ _ _ _ (F0 m pc ls (Value.int i :: Value.ref (if k < eh_SB then eh_b g + k else _) :: st.map (eh_cv g)))
  rw [if_pos hs]
  have hcell := (S.1.2 k _ hk).2 (show 100 ≤ 103 by decide)
  have hlt : i.toNatClampNeg < n := Nat.not_le.mp fun q => hin (Or.inr q)
  exact W.lald hx hb hcell ((hK.2 103).1 n _) (fun q => by cases q) (by rw [arrV_size]; exact hin) (by rw [arrV_read _ _ hlt]; rfl) rfl rfl hd k1
theorem er_aldP {k t n q : Nat} {i : Int32} (hk : w.2.2.2[k]? = some (t, n)) (ht : t = 104 ∨ t = 105 ∨ t = 106) (hin : vp_in i n) (hq : w.2.2.1 k i.toNatClampNeg = q) (hqn : q < eh_NU) (hs : k < eh_SB) (hd : decode M.2.1 pc = .ok (.aaload, 1)) (kk : eh_Run g M R cells slots (pc + 1) L (.ref q :: st) w r w') : eh_Run g M R cells slots pc L (.int i :: .ref k :: st) w r w' := by
  intro p e s m args below meth c H locs ls Q C S V K
  have k1 := kk p e s m args below meth c H locs ls Q C S V K
  obtain ⟨hx, hb, hml, hown, hts, hlk, hr, hin0, hK, hZ, hB⟩ := C
  show W _ _ _ _ _ _ _ _ _ _ _ _ _ _ _ (F0 m pc ls (Value.int i :: Value.ref (if k < eh_SB then eh_b g + k else _) :: st.map (eh_cv g)))
  rw [if_pos hs]
  have hcell := (S.1.2 k _ hk).2 (by rcases ht with h | h | h <;> omega)
  have hlt : i.toNatClampNeg < n := Nat.not_le.mp fun q => hin (Or.inr q)
  have h1 : q < eh_SB := Nat.lt_trans hqn (by decide)
  refine W.aald (ty := eh_ty t) hx hb hcell ((hK.2 t).1 n _) (by rcases ht with h | h | h <;> subst h <;> rfl) (fun q => by cases q) (by rw [arrV_size]; exact hin) ?_ rfl rfl hd k1
  rw [arrV_read _ _ hlt]
  have hnt : t ≠ 103 ∧ ¬ t < 104 := by rcases ht with h | h | h <;> omega
  simp only [eh_av, hnt, if_false, eh_rv, hq, if_neg (Nat.ne_of_lt hqn), eh_cv, if_pos h1]
theorem er_astI {k t n : Nat} {i x : Int32} {ins : Instr} (hk : w.2.2.2[k]? = some (t, n)) (ht : (t = 100 ∧ ins = .iastore) ∨ ((t = 101 ∨ t = 102) ∧ ins = .bastore)) (hin : vp_in i n) (hs : k < eh_SB) (hd : decode M.2.1 pc = .ok (ins, 1)) (kk : eh_Run g M R cells slots (pc + 1) L st (eh_sI w k i.toNatClampNeg (vp_nar (eh_ty t) x)) r w') : eh_Run g M R cells slots pc L (.int x :: .int i :: .ref k :: st) w r w' := by
  intro p e s m args below meth c H locs ls Q C S V K
  have C0 := C
  obtain ⟨hx, hb, hml, hown, hts, hlk, hr, hin0, hK, hZ, hB⟩ := C
  show W _ _ _ _ _ _ _ _ _ _ _ _ _ _ _ (F0 m pc ls (Value.int x :: Value.int i :: Value.ref (if k < eh_SB then eh_b g + k else _) :: st.map (eh_cv g)))
  rw [if_pos hs]
  have h100 : 100 ≤ t := by rcases ht with ⟨h, -⟩ | ⟨h | h, -⟩ <;> omega
  have h103 : t ≠ 103 ∧ t < 104 := by rcases ht with ⟨h, -⟩ | ⟨h | h, -⟩ <;> omega
  have hcell := (S.1.2 k _ hk).2 h100
  have hin' : ¬ (i < 0 ∨ (arrV (eh_c g t) n (eh_av g w t k)).slots.size ≤ i.toNatClampNeg) := by rw [arrV_size]; exact hin
  have goal : ∀ H' : Heap, H'[eh_b g + k]? = some ((arrV (eh_c g t) n (eh_av g w t k)).setSlot i.toNatClampNeg (.int (vp_nar (eh_ty t) x))) → H'.size = H.size → (∀ q, q ≠ eh_b g + k → H'[q]? = H[q]?) → ∀ sl, W p (eh_l g) e R s m args below meth c H' (locs ++ [⟨eh_b g + k, sl⟩]) cells slots Q (F0 m (pc + 1) ls (st.map (eh_cv g))) := by
    intro H' e1 e2 e3 sl
    refine kk p e s m args below meth c H' _ ls Q C0 ⟨eh_G.other S.1 hk e2 e3 rfl (fun a ha => if_neg ha) (fun _ _ => rfl) (fun _ _ => rfl) ⟨fun h => absurd h (Nat.not_lt.mpr h100), fun _ => ?_⟩, S.2.put e2 e3 (Nat.le_add_right _ _)⟩ V K
    rw [e1, arrV_store]
    congr 2
    funext q
    unfold updV eh_av
    simp only [h103, if_false, if_true]
    by_cases hq : q = i.toNatClampNeg
    · subst hq; simp [eh_sI, eh_sF, upd]
    · simp [eh_sI, eh_sF, upd, hq]
  rcases ht with ⟨h, rfl⟩ | ⟨h | h, rfl⟩
  · subst h
    exact W.iast hx hb hcell ((hK.2 100).1 n _) (fun q => by cases q) hin' rfl rfl hd fun H1 e1 z oq => goal H1 (by rw [e1]; rfl) z oq _
  · subst h
    exact W.bast hx hb hcell ((hK.2 101).1 n _) (fun q => by cases q) hin' rfl rfl hd fun H1 e1 z oq => goal H1 (by rw [e1]; rfl) z oq _
  · subst h
    exact W.zast hx hb hcell ((hK.2 102).1 n _) (fun q => by cases q) hin' rfl rfl hd fun H1 e1 z oq => goal H1 (by rw [e1]; rfl) z oq _
theorem er_astJ {k n : Nat} {i : Int32} {x : Int64} (hk : w.2.2.2[k]? = some (103, n)) (hin : vp_in i n) (hs : k < eh_SB) (hd : decode M.2.1 pc = .ok (.lastore, 1)) (kk : eh_Run g M R cells slots (pc + 1) L st (eh_sJ w k i.toNatClampNeg x) r w') : eh_Run g M R cells slots pc L (.long x :: .int i :: .ref k :: st) w r w' := by
  intro p e s m args below meth c H locs ls Q C S V K
  have C0 := C
  obtain ⟨hx, hb, hml, hown, hts, hlk, hr, hin0, hK, hZ, hB⟩ := C
  show W _ _ _ _ _ _ _ _ _ _ _ _ _ _ _ (F0 m pc ls (Value.long x :: Value.int i :: Value.ref (if k < eh_SB then eh_b g + k else _) :: st.map (eh_cv g)))
  rw [if_pos hs]
  have hcell := (S.1.2 k _ hk).2 (show 100 ≤ 103 by decide)
  refine W.last hx hb hcell ((hK.2 103).1 n _) (fun q => by cases q) (by rw [arrV_size]; exact hin) rfl rfl hd fun H1 e1 z oq => ?_
  refine kk p e s m args below meth c H1 _ ls Q C0 ⟨eh_G.other S.1 hk z oq rfl (fun _ _ => rfl) (fun a ha => if_neg ha) (fun _ _ => rfl) ⟨fun h => absurd h (show ¬ 103 < 100 by decide), fun _ => ?_⟩, S.2.put z oq (Nat.le_add_right _ _)⟩ V K
  rw [e1, arrV_store]
  congr 2
  funext q
  unfold updV eh_av
  by_cases hq : q = i.toNatClampNeg
  · subst hq; simp [eh_sJ, vp_updL]
  · simp [eh_sJ, vp_updL, hq]
theorem er_alen {k t n : Nat} (hk : w.2.2.2[k]? = some (t, n)) (ht : 100 ≤ t) (hs : k < eh_SB) (hd : decode M.2.1 pc = .ok (.arraylength, 1)) (kk : eh_Run g M R cells slots (pc + 1) L (.int (Int32.ofNat n) :: st) w r w') : eh_Run g M R cells slots pc L (.ref k :: st) w r w' := by
  intro p e s m args below meth c H locs ls Q C S V K
  have k1 := kk p e s m args below meth c H locs ls Q C S V K
  obtain ⟨hx, hb, hml, hown, hts, hlk, hr, hin0, hK, hZ, hB⟩ := C
  show W _ _ _ _ _ _ _ _ _ _ _ _ _ _ _ (F0 m pc ls (Value.ref (if k < eh_SB then eh_b g + k else _) :: st.map (eh_cv g)))
  rw [if_pos hs]
  have hcell := (S.1.2 k _ hk).2 ht
  exact W.alen (n := Int32.ofNat n) hx hb hcell ((hK.2 t).1 n _) (by rw [arrV_size]) rfl rfl hd k1
/-! the static tables and the script -/
theorem er_stat {i idx : Nat} (hi : i < 4) (hl : Cond.fieldLink M.1 idx (eh_sc i) (eh_sn i) "[I" ∈ eh_tb) (hd : decode M.2.1 pc = .ok (.getstatic idx, 3)) (kk : eh_Run g M R cells slots (pc + 3) L (.ref (eh_SB + i) :: st) w r w') : eh_Run g M R cells slots pc L st w r w' := by
  intro p e s m args below meth c H locs ls Q C S V K
  have k1 := kk p e s m args below meth c H locs ls Q C S V K
  obtain ⟨hx, hb, hml, hown, hts, hlk, hr, hin0, hK, hZ, hB⟩ := C
  have e1 : eh_cv g (.ref (eh_SB + i)) = .ref (eh_s g i) := by
    simp only [eh_cv]; rw [if_neg (Nat.not_lt.mpr (Nat.le_add_right _ _)), Nat.add_sub_cancel_left]
  rw [List.map_cons, e1] at k1
  exact va_gets hx hb (hZ.1 i hi).1 S.2 hown (hts _ hl) (fun _ h => h) hd k1
theorem er_tld {i : Nat} {j : Int32} (hi : i < 4) (hin : vp_in j (eh_tn i)) (hd : decode M.2.1 pc = .ok (.iaload, 1)) (kk : eh_Run g M R cells slots (pc + 1) L (.int (eh_tt i j.toNatClampNeg) :: st) w r w') : eh_Run g M R cells slots pc L (.int j :: .ref (eh_SB + i) :: st) w r w' := by
  intro p e s m args below meth c H locs ls Q C S V K
  have k1 := kk p e s m args below meth c H locs ls Q C S V K
  obtain ⟨hx, hb, hml, hown, hts, hlk, hr, hin0, hK, hZ, hB⟩ := C
  have e1 : eh_cv g (.ref (eh_SB + i)) = .ref (eh_s g i) := by
    simp only [eh_cv]; rw [if_neg (Nat.not_lt.mpr (Nat.le_add_right _ _)), Nat.add_sub_cancel_left]
  rw [List.map_cons, List.map_cons, e1]
  exact va_ti hx hb (hZ.1 i hi).2 S.2 hin rfl hd k1
theorem er_xld {j : Int32} (hin : vp_in j (eh_n g)) (hd : decode M.2.1 pc = .ok (.iaload, 1)) (kk : eh_Run g M R cells slots (pc + 1) L (.int (eh_x g j.toNatClampNeg) :: st) w r w') : eh_Run g M R cells slots pc L (.int j :: .ref (eh_SB + 4) :: st) w r w' := by
  intro p e s m args below meth c H locs ls Q C S V K
  have k1 := kk p e s m args below meth c H locs ls Q C S V K
  obtain ⟨hx, hb, hml, hown, hts, hlk, hr, hin0, hK, hZ, hB⟩ := C
  have e1 : eh_cv g (.ref (eh_SB + 4)) = .ref (eh_s g 4) := by
    simp only [eh_cv]; rw [if_neg (Nat.not_lt.mpr (Nat.le_add_right _ _)), Nat.add_sub_cancel_left]
  rw [List.map_cons, List.map_cons, e1]
  exact va_ti hx hb hZ.2 S.2 hin rfl hd k1
theorem er_xlen (hd : decode M.2.1 pc = .ok (.arraylength, 1)) (kk : eh_Run g M R cells slots (pc + 1) L (.int (Int32.ofNat (eh_n g)) :: st) w r w') : eh_Run g M R cells slots pc L (.ref (eh_SB + 4) :: st) w r w' := by
  intro p e s m args below meth c H locs ls Q C S V K
  have k1 := kk p e s m args below meth c H locs ls Q C S V K
  obtain ⟨hx, hb, hml, hown, hts, hlk, hr, hin0, hK, hZ, hB⟩ := C
  have e1 : eh_cv g (.ref (eh_SB + 4)) = .ref (eh_s g 4) := by
    simp only [eh_cv]; rw [if_neg (Nat.not_lt.mpr (Nat.le_add_right _ _)), Nat.add_sub_cancel_left]
  rw [List.map_cons, e1]
  exact va_tlen hx hb hZ.2 S.2 rfl hd k1
end EhHeap
