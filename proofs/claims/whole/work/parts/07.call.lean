/-! calls -/
def eh_R (d mc ms : Nat) : Room := { frames := d, cells := mc, slots := ms, locals := 40 * d }
def eh_al : List Value → eh_LL
  | [] => []
  | v :: vs => if v.category = 2 then some v :: none :: eh_al vs else some v :: eh_al vs
def eh_en (n : Nat) (As : List Value) : eh_LL := eh_al As ++ List.replicate (n - (eh_al As).length) none
theorem eh_al_at {g : eh_P} : ∀ (As : List Value) (o i : Nat) (v : Value), (eh_al As)[i]? = some (some v) → (o + i, eh_cv g v) ∈ lv_args o (As.map (eh_cv g))
  | [], _, _, _, h => by simp [eh_al] at h
  | u :: vs, o, i, v, h => by
    simp only [eh_al] at h
    simp only [List.map_cons, lv_args, eh_cv_cat]
    split at h
    · rename_i hc
      rw [if_pos hc]
      match i, h with
      | 0, h =>
        simp only [List.getElem?_cons_zero, Option.some.injEq] at h
        subst h
        exact List.mem_cons_self
      | 1, h => simp at h
      | i + 2, h =>
        simp only [List.getElem?_cons_succ] at h
        have := eh_al_at (g := g) vs (o + 2) i v h
        rw [show o + (i + 2) = o + 2 + i by omega]
        exact List.mem_cons_of_mem _ this
    · rename_i hc
      rw [if_neg hc]
      match i, h with
      | 0, h =>
        simp only [List.getElem?_cons_zero, Option.some.injEq] at h
        subst h
        exact List.mem_cons_self
      | i + 1, h =>
        simp only [List.getElem?_cons_succ] at h
        have := eh_al_at (g := g) vs (o + 1) i v h
        rw [show o + (i + 1) = o + 1 + i by omega]
        exact List.mem_cons_of_mem _ this
theorem eh_al_len {g : eh_P} : ∀ As : List Value, (lg_sl (As.map (eh_cv g))).length = (eh_al As).length
  | [] => rfl
  | v :: vs => by
    have ih := eh_al_len (g := g) vs
    have e : lg_sl ((v :: vs).map (eh_cv g)) = (if (eh_cv g v).category = 2 then [Slot.val (eh_cv g v), Slot.second] else [Slot.val (eh_cv g v)]) ++ lg_sl (vs.map (eh_cv g)) := by
      simp only [List.map_cons, lg_sl, List.flatMap_cons]
    rw [e, List.length_append, ih, eh_cv_cat]
    simp only [eh_al]
    split <;> simp <;> omega
theorem eh_en_Lv {g : eh_P} {ls : Array Slot} {n : Nat} {As : List Value} (hl : (eh_al As).length ≤ n) (h : lv_has ls n (lv_args 0 (As.map (eh_cv g)))) : eh_Lv g ls n (eh_en n As) := by
  refine ⟨h.1, h.2.1, by unfold eh_en; rw [List.length_append, List.length_replicate]; omega, fun i v hi => ?_⟩
  unfold eh_en at hi
  by_cases hlt : i < (eh_al As).length
  · rw [List.getElem?_append_left hlt] at hi
    have := eh_al_at (g := g) As 0 i v hi
    rw [Nat.zero_add] at this
    exact h.2.2 _ this
  · rw [List.getElem?_append_right (by omega)] at hi
    have := List.eq_of_mem_replicate (List.mem_of_getElem? hi)
    cases this
def eh_Pc (g : eh_P) (As : List Value) (w : eh_W) : Array Value → State → Prop := fun v U => v = (As.map (eh_cv g)).toArray ∧ eh_G g w U.heap ∧ eh_K g U ∧ eh_Z g U U.heap ∧ eh_N U
def eh_Qc (g : eh_P) (r : Option Value) (w' : eh_W) : Array Value → State → Outcome → State → Prop := fun _ st oc t => oc = .returned (r.map (eh_cv g)) ∧ eh_G g w' t.heap ∧ va_F (eh_A g) st t
abbrev eh_cd (y : MethodName) (M : eh_M) : Cond := Cond.code y M.2.1 M.2.2.1 M.2.2.2.1
abbrev eh_ws (y : MethodName) (M : eh_M) : List Cond := eh_cd y M :: eh_tb
theorem eh_met {g : eh_P} {y : MethodName} {M : eh_M} {d mc ms : Nat} {As : List Value} {w w' : eh_W} {r : Option Value} (hcls : M.1 = y.cls) (hy : plainName y.cls = true) (hin : M.2.2.2.2 = true → y.name = "<init>") (hlen : (eh_al As).length ≤ M.2.2.1)
    (h : eh_Run g M (eh_R d mc ms) 0 0 0 (eh_en M.2.2.1 As) [] w r w') : Met (eh_l g) y (eh_ws y M) (eh_R d mc ms) (eh_Pc g As w) (eh_Qc g r w') mc ms (eh_A g) := by
  refine Met.ofW (cc := M.2.1) (maxL := M.2.2.1) (ret := M.2.2.2.1) hy rfl ?_
  intro p e s m args below meth c s₁ B hml hv
  obtain ⟨rfl, hG, hK, hZ, hN⟩ := hv
  have hts := atoms_spec (ws := eh_ws y M) B.pre
  have hC : eh_Cx g M p s m (As.map (eh_cv g)).toArray meth c :=
    ⟨B.exec, B.bytes, hml, by rw [hcls]; exact findClass_of_methodNamed B.named, fun w hw => hts w (List.mem_cons_of_mem _ hw), B.notSynchronized, B.returns, fun h1 => ((name_of_methodNamed B.named B.method).1).trans (hin h1), hK, hZ, by rw [hG.1]; exact Nat.le_add_right _ _, hN⟩
  have hlk := B.notSynchronized
  have hl := lv_entry (As.map (eh_cv g)) (n := M.2.2.1) (by rw [eh_al_len]; exact hlen)
  rw [lg_entry_eq]
  generalize (lg_sl (As.map (eh_cv g)) ++ List.replicate (M.2.2.1 - (lg_sl (As.map (eh_cv g))).length) Slot.unset).toArray = ls at hl ⊢
  refine h p e s m _ below meth c s.heap [] ls _ hC ⟨hG, va_S.rf⟩ (eh_en_Lv hlen hl) (fun H' locs' ls' pc' S' hri => ?_)
  have hq : ∀ (t : State), t.heap = H' → eh_Qc g r w' (As.map (eh_cv g)).toArray s (.returned (r.map (eh_cv g))) t := fun t ht => ⟨rfl, by rw [ht]; exact S'.1, S'.2.F ht⟩
  match r, hri, hq with
  | none, hri, hq => exact W.vret B.exec B.bytes (B.returns.trans hri.2) (fun t ht _ => hq t ht) S'.2.2.2 hri.1
  | some (.int v), hri, hq =>
    obtain ⟨h1, ty, h2, h3⟩ := hri
    exact W.zret B.exec B.bytes (B.returns.trans h2) h3 (fun t ht _ => hq t ht) S'.2.2.2 h1
  | some (.long v), hri, hq => exact W.lret B.exec B.bytes (B.returns.trans hri.2) (fun t ht _ => hq t ht) S'.2.2.2 hri.1
  | some (.float _), hri, _ => exact hri.elim
  | some (.double _), hri, _ => exact hri.elim
  | some .null, hri, _ => exact hri.elim
  | some (.ref _), hri, _ => exact hri.elim
  | some (.retAddr _), hri, _ => exact hri.elim
theorem eh_after {g : eh_P} {R : Room} {cells slots pc mc ms : Nat} {p : Program} {e : Env} {s : State} {m : MethodId} {args : Array Value} {below : List Frame} {meth : Method} {c : Code} {H : Heap} {locs : List Loc} {ls : Array Slot} {Q : State → Prop} {st0 rest : List Value} {r : Option Value} {w w' : eh_W} {a : Array Value}
    (hr : va_Run p (eh_l g) e R s m args below meth c H locs cells slots mc ms (F0 m pc ls st0) rest (eh_Qc g r w' a) (eh_A g)) (S : eh_St g s H locs w)
    (kk : ∀ (H1 : Heap) (locs1 : List Loc), eh_St g s H1 locs1 w' → W p (eh_l g) e R s m args below meth c H1 locs1 (cells + mc) (slots + ms) Q (F0 m (pc + 3) ls ((r.map (eh_cv g)).toList ++ rest))) : W p (eh_l g) e R s m args below meth c H locs cells slots Q (F0 m pc ls st0) := by
  intro T hT X
  obtain ⟨v, st₀, t, T', L, h0, X', hL, e1, e2, ⟨hv, hG, hz, hk⟩, st⟩ := hr T hT X
  cases hv
  rw [h0] at hz hk
  obtain ⟨t2, a1, b1⟩ := kk T'.heap (locs ++ L) ⟨by rw [e1]; exact hG, Nat.le_trans S.2.1 (by rw [e1]; exact hz), fun q h1 h2 => by rw [e1, hk q (Nat.lt_of_lt_of_le h1 S.2.1) h2]; exact S.2.2.1 q h1 h2, fun q hq => by
      rcases List.mem_append.mp hq with h | h
      · exact S.2.2.2 q h
      · exact hL q h⟩ T' rfl X'
  exact ⟨t2, st t2 a1, b1⟩
theorem eh_blind (g : eh_P) (As : List Value) (w : eh_W) : FrameBlind (eh_Pc g As w) := fun a U f mk q =>
  ⟨q.1, q.2.1, eh_K.moved (u := U) (U := U.calling f mk a) (Vm.Alike.refl U.vm) q.2.2.1, eh_Z.moved (u := U) (U := U.calling f mk a) (Vm.Alike.refl U.vm) q.2.2.2.1, eh_N.same (u := U) (U := U.calling f mk a) rfl q.2.2.2.2⟩
theorem eh_pre {g : eh_P} {s : State} {H : Heap} {locs : List Loc} {As : List Value} {w : eh_W} (hK : eh_K g s) (hZ : eh_Z g s s.heap) (hN : eh_N s) (S : eh_St g s H locs w) : ∀ U : State, U.heap = H → s.WarmedH U.vm → eh_Pc g As w (As.map (eh_cv g)).toArray U := fun U hU hW =>
  ⟨rfl, by rw [hU]; exact S.1, hK.moved hW.alike, by rw [hU]; exact (hZ.kept (fun a h1 h2 => S.2.2.1 a h1 h2)).moved hW.alike, hN.warm hW⟩
/-- what the tables say of a method -/
def eh_ME (y : MethodName) (M : eh_M) (n : Nat) : Prop := M.1 = y.cls ∧ plainName y.cls = true ∧ eh_cd y M ∈ eh_tb ∧ Cond.initialized y.cls ∈ eh_tb ∧ (y.cls ≠ "java/lang/invoke/MethodHandle" ∧ y.cls ≠ "java/lang/invoke/VarHandle" ∧ (parseMethodDescriptor y.desc).map (fun d => d.parameters.length) = some n) ∧ (M.2.2.2.2 = true → y.name = "<init>") ∧ M.2.2.1 ≤ 21
def eh_LK (own : String) (idx : Nat) (y : MethodName) : Prop := Cond.methodLink own idx y ∈ eh_tb
theorem eh_callB {g : eh_P} {M Mj : eh_M} {p : Program} {s : State} {m : MethodId} {args : Array Value} {meth : Method} {c : Code} {R : Room} {y : MethodName} {n d mc ms idx : Nat} (C : eh_Cx g M p s m args meth c) (hE : eh_ME y Mj n) (hl : eh_LK M.1 idx y) (hR : d + 1 ≤ R.frames ∧ 40 * (d + 1) ≤ R.locals) :
    CallB R s args M.1 idx y Mj.2.1 Mj.2.2.1 Mj.2.2.2.1 (eh_ws y Mj) (eh_R d mc ms) mc ms n := by
  obtain ⟨h1, h2, h3, h4, h5, h6, h7⟩ := hE
  have hts := C.2.2.2.2.1
  refine callB_of (Ts := eh_tb) n hts (fun w hw => ?_) rfl rfl rfl (hts _ h4) (hts _ hl) h5 ⟨hR.1, ?_⟩
  · rcases List.mem_cons.mp hw with rfl | hw
    · exact ⟨h3, good_of_word (eh_tb_good h3)⟩
    · exact ⟨hw, good_of_word (eh_tb_good hw)⟩
  · show 8 + (Mj.2.2.1 + 11) + 40 * d ≤ R.locals
    omega
section EhCall
variable {g : eh_P} {M Mj : eh_M} {R : Room} {cells slots pc : Nat} {L : eh_LL} {st stk As : List Value} {w : eh_W} {α β γ : Type} {enc : α → Option Value × eh_W} {encj : β → Option Value × eh_W} {mj : Option β} {F : β → Option γ} {K : γ → Option α} {y : MethodName} {n d mc ms idx : Nat}
theorem eh_cat_sum (st : List Value) : ((st.map (eh_cv g)).map fun v => v.category).sum = (st.map fun v => v.category).sum := by
  rw [List.map_map]
  congr 1
  apply List.map_congr_left
  intro v _
  exact eh_cv_cat g v
theorem eh_push (r : Option Value) (st : List Value) : (r.map (eh_cv g)).toList ++ st.map (eh_cv g) = (r.toList ++ st).map (eh_cv g) := by
  cases r <;> rfl
/-- a virtual call of one of our own methods -/
theorem es_callV {k ci z : Nat} (hS : eh_Sim g Mj (eh_R d mc ms) encj 0 0 0 (eh_en Mj.2.2.1 (.ref k :: As)) [] w mj) (hE : eh_ME y Mj n) (hV : Cond.instanceMethod y ∈ eh_tb ∧ Cond.selects y.cls y y ∈ eh_tb) (hl : eh_LK M.1 idx y) (hk : w.2.2.2[k]? = some (ci, z)) (hc : ∃ T N, eh_cl[ci]? = some (y.cls, T, N)) (hci : ci < 100) (hs : k < eh_SB) (hn : As.length = n) (hlen : (eh_al (.ref k :: As)).length ≤ Mj.2.2.1) (hstk : stk = As.reverse ++ .ref k :: st) (hW : (st.map fun v => v.category).sum ≤ 8) (hR : d + 1 ≤ R.frames ∧ 40 * (d + 1) ≤ R.locals) (hf : cells + mc ≤ R.cells ∧ slots + ms ≤ R.slots) (hd : decode M.2.1 pc = .ok (.invokevirtual idx, 3))
    (kk : ∀ b, mj = some b → eh_Sim g M R enc (cells + mc) (slots + ms) (pc + 3) L ((encj b).1.toList ++ st) (encj b).2 ((F b).bind K)) : eh_Sim g M R enc cells slots pc L stk w ((mj.bind F).bind K) := by
  intro a ha p e s m args below meth c H locs ls Q C S V Kr
  cases hmj : mj with
  | none => rw [hmj] at ha; cases ha
  | some b =>
    rw [hmj] at ha
    have k1 := kk b hmj a ha p e s m args below meth c
    have hM := eh_met (y := y) hE.1 hE.2.1 hE.2.2.2.2.2.1 hlen (hS b hmj)
    have hts := C.2.2.2.2.1
    obtain ⟨T, N, hc⟩ := hc
    obtain ⟨r0, hr0, cell, q1, q2, q3, q4⟩ := (S.1.2 k _ hk).1 hci
    have hkc := (C.2.2.2.2.2.2.2.2.1.1 ci _ hc).2.1
    have e1 : eh_cv g (.ref k) = .ref (eh_b g + k) := by simp only [eh_cv]; rw [if_pos hs]
    have e2 : stk.map (eh_cv g) = (As.map (eh_cv g)).reverse ++ .ref (eh_b g + k) :: st.map (eh_cv g) := by rw [hstk]; simp [e1]
    rw [e2]
    have hpre := eh_pre (As := .ref k :: As) C.2.2.2.2.2.2.2.2.1 C.2.2.2.2.2.2.2.2.2.1 C.2.2.2.2.2.2.2.2.2.2.2 S
    rw [List.map_cons, e1] at hpre
    refine eh_after (va_runV (Ts := eh_tb) (C := y.cls) (As := As.map (eh_cv g)) (rest := st.map (eh_cv g)) ⟨C.1, C.2.1, C.2.2.1, C.2.2.2.1, hts⟩ hM ⟨eh_callB C hE hl hR, hts _ hV.1, hts _ hV.2⟩ ⟨eh_blind g _ w, ⟨cell, q1, by rw [q3]; rfl, by rw [q2]; exact hkc⟩, hpre⟩ rfl (by rw [List.length_map]; exact hn) V.1 rfl (lv_room (by rw [eh_cat_sum]; exact hW)) hd hf) S (fun H1 locs1 S1 => ?_)
    rw [eh_push]
    exact k1 H1 locs1 ls Q C S1 V Kr
/-- a static call of one of our own methods -/
theorem es_callS (hS : eh_Sim g Mj (eh_R d mc ms) encj 0 0 0 (eh_en Mj.2.2.1 As) [] w mj) (hE : eh_ME y Mj n) (hV : Cond.static y ∈ eh_tb) (hl : eh_LK M.1 idx y) (hn : As.length = n) (hlen : (eh_al As).length ≤ Mj.2.2.1) (hstk : stk = As.reverse ++ st) (hW : (st.map fun v => v.category).sum ≤ 8) (hR : d + 1 ≤ R.frames ∧ 40 * (d + 1) ≤ R.locals) (hf : cells + mc ≤ R.cells ∧ slots + ms ≤ R.slots) (hd : decode M.2.1 pc = .ok (.invokestatic idx, 3))
    (kk : ∀ b, mj = some b → eh_Sim g M R enc (cells + mc) (slots + ms) (pc + 3) L ((encj b).1.toList ++ st) (encj b).2 ((F b).bind K)) : eh_Sim g M R enc cells slots pc L stk w ((mj.bind F).bind K) := by
  intro a ha p e s m args below meth c H locs ls Q C S V Kr
  cases hmj : mj with
  | none => rw [hmj] at ha; cases ha
  | some b =>
    rw [hmj] at ha
    have k1 := kk b hmj a ha p e s m args below meth c
    have hM := eh_met (y := y) hE.1 hE.2.1 hE.2.2.2.2.2.1 hlen (hS b hmj)
    have hts := C.2.2.2.2.1
    have e2 : stk.map (eh_cv g) = (As.map (eh_cv g)).reverse ++ st.map (eh_cv g) := by rw [hstk]; simp
    rw [e2]
    have hpre := eh_pre (As := As) C.2.2.2.2.2.2.2.2.1 C.2.2.2.2.2.2.2.2.2.1 C.2.2.2.2.2.2.2.2.2.2.2 S
    refine eh_after (va_runS (Ts := eh_tb) (As := As.map (eh_cv g)) (rest := st.map (eh_cv g)) ⟨C.1, C.2.1, C.2.2.1, C.2.2.2.1, hts⟩ hM ⟨eh_callB C hE hl hR, hts _ hV⟩ ⟨eh_blind g _ w, hpre⟩ rfl (by rw [List.length_map]; exact hn) V.1 rfl (lv_room (by rw [eh_cat_sum]; exact hW)) hd hf) S (fun H1 locs1 S1 => ?_)
    rw [eh_push]
    exact k1 H1 locs1 ls Q C S1 V Kr
/-- a constructor's call -/
theorem es_callI {k : Nat} (hS : eh_Sim g Mj (eh_R d mc ms) encj 0 0 0 (eh_en Mj.2.2.1 (.ref k :: As)) [] w mj) (hr0 : ∀ b, mj = some b → (encj b).1 = none) (hret : Mj.2.2.2.1 = none) (hE : eh_ME y Mj n) (hV : y.name = "<init>" ∧ Cond.instanceMethod y ∈ eh_tb) (hl : eh_LK M.1 idx y) (hs : k < eh_SB) (hn : As.length = n) (hlen : (eh_al (.ref k :: As)).length ≤ Mj.2.2.1) (hstk : stk = As.reverse ++ .ref k :: st) (hW : (st.map fun v => v.category).sum ≤ 8) (hR : d + 1 ≤ R.frames ∧ 40 * (d + 1) ≤ R.locals) (hf : cells + mc ≤ R.cells ∧ slots + ms ≤ R.slots) (hd : decode M.2.1 pc = .ok (.invokespecial idx, 3))
    (kk : ∀ b, mj = some b → eh_Sim g M R enc (cells + mc) (slots + ms) (pc + 3) L st (encj b).2 ((F b).bind K)) : eh_Sim g M R enc cells slots pc L stk w ((mj.bind F).bind K) := by
  intro a ha p e s m args below meth c H locs ls Q C S V Kr
  cases hmj : mj with
  | none => rw [hmj] at ha; cases ha
  | some b =>
    rw [hmj] at ha
    have k1 := kk b hmj a ha p e s m args below meth c
    have hM := eh_met (y := y) hE.1 hE.2.1 hE.2.2.2.2.2.1 hlen (hS b hmj)
    have hts := C.2.2.2.2.1
    have e1 : eh_cv g (.ref k) = .ref (eh_b g + k) := by simp only [eh_cv]; rw [if_pos hs]
    have e2 : stk.map (eh_cv g) = (As.map (eh_cv g)).reverse ++ .ref (eh_b g + k) :: st.map (eh_cv g) := by rw [hstk]; simp [e1]
    rw [e2]
    have hpre := eh_pre (As := .ref k :: As) C.2.2.2.2.2.2.2.2.1 C.2.2.2.2.2.2.2.2.2.1 C.2.2.2.2.2.2.2.2.2.2.2 S
    rw [List.map_cons, e1] at hpre
    have hcb := eh_callB (mc := mc) (ms := ms) C hE hl hR
    rw [hret] at hcb
    refine eh_after (va_runI (Ts := eh_tb) (As := As.map (eh_cv g)) (rest := st.map (eh_cv g)) ⟨C.1, C.2.1, C.2.2.1, C.2.2.2.1, hts⟩ hM ⟨hcb, hV.1, hts _ hV.2⟩ ⟨eh_blind g _ w, hpre⟩ rfl (by rw [List.length_map]; exact hn) V.1 rfl (lv_room (by rw [eh_cat_sum]; exact hW)) hd hf) S (fun H1 locs1 S1 => ?_)
    rw [eh_push, hr0 b hmj]
    exact k1 H1 locs1 ls Q C S1 V Kr
/-- a static call of a nest mate's private method -/
theorem es_callSN {host : String} (hS : eh_Sim g Mj (eh_R d mc ms) encj 0 0 0 (eh_en Mj.2.2.1 As) [] w mj) (hE : eh_ME y Mj n) (hV : Cond.static y ∈ eh_tb) (hl : Cond.methodLinkNest M.1 idx y host ∈ lw_tbl) (hn : As.length = n) (hlen : (eh_al As).length ≤ Mj.2.2.1) (hstk : stk = As.reverse ++ st) (hW : (st.map fun v => v.category).sum ≤ 8) (hR : d + 1 ≤ R.frames ∧ 40 * (d + 1) ≤ R.locals) (hf : cells + mc ≤ R.cells ∧ slots + ms ≤ R.slots) (hd : decode M.2.1 pc = .ok (.invokestatic idx, 3))
    (kk : ∀ b, mj = some b → eh_Sim g M R enc (cells + mc) (slots + ms) (pc + 3) L ((encj b).1.toList ++ st) (encj b).2 ((F b).bind K)) : eh_Sim g M R enc cells slots pc L stk w ((mj.bind F).bind K) := by
  intro a ha p e s m args below meth c H locs ls Q C S V Kr
  cases hmj : mj with
  | none => rw [hmj] at ha; cases ha
  | some b =>
    rw [hmj] at ha
    have k1 := kk b hmj a ha p e s m args below meth c
    have hM := eh_met (y := y) hE.1 hE.2.1 hE.2.2.2.2.2.1 hlen (hS b hmj)
    have hts := C.2.2.2.2.1
    have e2 : stk.map (eh_cv g) = (As.map (eh_cv g)).reverse ++ st.map (eh_cv g) := by rw [hstk]; simp
    rw [e2]
    have hN := C.2.2.2.2.2.2.2.2.2.2.2
    have hpre := eh_pre (As := As) C.2.2.2.2.2.2.2.2.1 C.2.2.2.2.2.2.2.2.2.1 hN S
    obtain ⟨h1, h2, h3, h4, h5, h6, h7⟩ := hE
    have cn : va_CN R s args M.1 idx y host Mj.2.1 Mj.2.2.1 Mj.2.2.2.1 (eh_ws y Mj) (eh_R d mc ms) mc ms n :=
      va_cnB (Ts := eh_tb) n hts (fun w hw => by
        rcases List.mem_cons.mp hw with rfl | hw
        · exact ⟨h3, good_of_word (eh_tb_good h3)⟩
        · exact ⟨hw, good_of_word (eh_tb_good hw)⟩) rfl rfl rfl (hN.1 _ hl rfl) (hts _ h4) h5 ⟨hR.1, by show 8 + (Mj.2.2.1 + 11) + 40 * d ≤ R.locals; omega⟩
    refine eh_after (va_runSN (Ts := eh_tb) (host := host) (As := As.map (eh_cv g)) (rest := st.map (eh_cv g)) ⟨C.1, C.2.1, C.2.2.1, C.2.2.2.1, hts⟩ hM ⟨cn, hts _ hV, trivial⟩ ⟨eh_blind g _ w, hpre⟩ rfl (by rw [List.length_map]; exact hn) V.1 rfl (lv_room (by rw [eh_cat_sum]; exact hW)) hd hf) S (fun H1 locs1 S1 => ?_)
    rw [eh_push]
    exact k1 H1 locs1 ls Q C S1 V Kr
/-- a nest mate's private constructor -/
theorem es_callIN {k : Nat} {host : String} (hS : eh_Sim g Mj (eh_R d mc ms) encj 0 0 0 (eh_en Mj.2.2.1 (.ref k :: As)) [] w mj) (hr0 : ∀ b, mj = some b → (encj b).1 = none) (hret : Mj.2.2.2.1 = none) (hE : eh_ME y Mj n) (hV : y.name = "<init>" ∧ Cond.instanceMethod y ∈ eh_tb) (hl : Cond.methodLinkNest M.1 idx y host ∈ lw_tbl) (hs : k < eh_SB) (hn : As.length = n) (hlen : (eh_al (.ref k :: As)).length ≤ Mj.2.2.1) (hstk : stk = As.reverse ++ .ref k :: st) (hW : (st.map fun v => v.category).sum ≤ 8) (hR : d + 1 ≤ R.frames ∧ 40 * (d + 1) ≤ R.locals) (hf : cells + mc ≤ R.cells ∧ slots + ms ≤ R.slots) (hd : decode M.2.1 pc = .ok (.invokespecial idx, 3))
    (kk : ∀ b, mj = some b → eh_Sim g M R enc (cells + mc) (slots + ms) (pc + 3) L st (encj b).2 ((F b).bind K)) : eh_Sim g M R enc cells slots pc L stk w ((mj.bind F).bind K) := by
  intro a ha p e s m args below meth c H locs ls Q C S V Kr
  cases hmj : mj with
  | none => rw [hmj] at ha; cases ha
  | some b =>
    rw [hmj] at ha
    have k1 := kk b hmj a ha p e s m args below meth c
    have hM := eh_met (y := y) hE.1 hE.2.1 hE.2.2.2.2.2.1 hlen (hS b hmj)
    have hts := C.2.2.2.2.1
    have e1 : eh_cv g (.ref k) = .ref (eh_b g + k) := by simp only [eh_cv]; rw [if_pos hs]
    have e2 : stk.map (eh_cv g) = (As.map (eh_cv g)).reverse ++ .ref (eh_b g + k) :: st.map (eh_cv g) := by rw [hstk]; simp [e1]
    rw [e2]
    have hN := C.2.2.2.2.2.2.2.2.2.2.2
    have hpre := eh_pre (As := .ref k :: As) C.2.2.2.2.2.2.2.2.1 C.2.2.2.2.2.2.2.2.2.1 hN S
    rw [List.map_cons, e1] at hpre
    obtain ⟨h1, h2, h3, h4, h5, h6, h7⟩ := hE
    have cn : va_CN R s args M.1 idx y host Mj.2.1 Mj.2.2.1 Mj.2.2.2.1 (eh_ws y Mj) (eh_R d mc ms) mc ms n :=
      va_cnB (Ts := eh_tb) n hts (fun w hw => by
        rcases List.mem_cons.mp hw with rfl | hw
        · exact ⟨h3, good_of_word (eh_tb_good h3)⟩
        · exact ⟨hw, good_of_word (eh_tb_good hw)⟩) rfl rfl rfl (hN.1 _ hl rfl) (hts _ h4) h5 ⟨hR.1, by show 8 + (Mj.2.2.1 + 11) + 40 * d ≤ R.locals; omega⟩
    rw [hret] at cn
    refine eh_after (va_runIN (Ts := eh_tb) (host := host) (As := As.map (eh_cv g)) (rest := st.map (eh_cv g)) ⟨C.1, C.2.1, C.2.2.1, C.2.2.2.1, hts⟩ hM ⟨cn, hV.1, hts _ hV.2⟩ ⟨eh_blind g _ w, hpre⟩ rfl (by rw [List.length_map]; exact hn) V.1 rfl (lv_room (by rw [eh_cat_sum]; exact hW)) hd hf) S (fun H1 locs1 S1 => ?_)
    rw [eh_push, hr0 b hmj]
    exact k1 H1 locs1 ls Q C S1 V Kr
end EhCall
