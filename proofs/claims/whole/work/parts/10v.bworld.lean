/-! the world while it is made -/
def eh_q0 (j : Nat) : Nat := if j = 4 then 41 else if j = 5 then 45 else 42
def eh_Ps (k : Nat) (un : List (Nat × Nat)) (a b : Nat) : Nat := if a < k then (if (a, b) ∈ un then eh_NU else eh_PP eh_q0 a b) else eh_NU
def eh_BW (I : Nat → Nat → Int32) (J : Nat → Nat → Int64) (k : Nat) (un : List (Nat × Nat)) : eh_W := (I, J, eh_Ps k un, eh_SH.take k)
def eh_u2 (I : Nat → Nat → Int32) (k j : Nat) (v : Int32) : Nat → Nat → Int32 := fun a => if a = k then upd (I k) j v else I a
/-- cells from k on, n of them, are new -/
def eh_zr {α : Type} (z : α) (I : Nat → Nat → α) (k n : Nat) : Nat → Nat → α := fun a => if k ≤ a ∧ a < k + n then fun _ => z else I a
def eh_I0 : Nat → Nat → Int32 := fun _ _ => 0
def eh_J0 : Nat → Nat → Int64 := fun _ _ => 0
theorem eh_PFt_len : ∀ r ∈ eh_PFt, r.length ≤ 110 := by decide +kernel
theorem eh_PF_far (k b : Nat) (hb : 110 ≤ b) : eh_PF k b = eh_NU := by
  unfold eh_PF
  have h : (eh_PFt.getD k []).length ≤ 110 := by
    rw [List.getD_eq_getElem?_getD]
    cases h1 : eh_PFt[k]? with
    | none => simp
    | some r => exact eh_PFt_len r (List.mem_of_getElem? h1)
  rw [List.getD_eq_getElem?_getD, List.getElem?_eq_none (by omega)]
  rfl
theorem eh_PP_far (q : Nat → Nat) (k b : Nat) (hb : 110 ≤ b) : eh_PP q k b = eh_NU := by
  unfold eh_PP
  have h : ¬ (b = 4 ∨ b = 5 ∨ b = 7) := by omega
  rw [if_neg h, eh_PF_far k b hb]
  simp
def eh_jok (k : Nat) (js : List Nat) : Bool := (List.range 110).all (fun b => decide (b ∈ js) || decide (eh_PP eh_q0 k b = eh_NU))
theorem eh_jok_spec {k : Nat} {js : List Nat} (h : eh_jok k js = true) (b : Nat) (hb : b ∉ js) : eh_PP eh_q0 k b = eh_NU := by
  by_cases hlt : b < 110
  · have h1 := List.all_eq_true.mp h b (List.mem_range.mpr hlt)
    simp only [Bool.or_eq_true, decide_eq_true_eq] at h1
    exact h1.resolve_left hb
  · exact eh_PP_far _ _ _ (by omega)
theorem eh_tk {k a : Nat} {sh : eh_Sh} (ha : a < k) (h : eh_SH[a]? = some sh) : (eh_SH.take k)[a]? = some sh := by
  rw [List.getElem?_take, if_pos ha]; exact h
theorem eh_tkl {k : Nat} {sh : eh_Sh} (h : eh_SH[k]? = some sh) : (eh_SH.take k).length = k := by
  have := eh_sh_lt h
  rw [List.length_take]
  exact Nat.min_eq_left (Nat.le_of_lt (List.getElem?_eq_some_iff.mp h).1)
theorem eh_nW_P {I : Nat → Nat → Int32} {J : Nat → Nat → Int64} {k : Nat} {un : List (Nat × Nat)} {js : List Nat} {sh : eh_Sh} (hk : eh_SH[k]? = some sh) (hj : eh_jok k js = true) : (eh_nW (eh_BW I J k un) sh).2.2 = (eh_Ps (k + 1) (js.map (fun j => (k, j)) ++ un), eh_SH.take (k + 1)) ∨ ∃ b, (k, b) ∈ un ∨ ∃ a, k < a ∧ (a, b) ∈ un := by
  by_cases hu : ∃ b, (k, b) ∈ un ∨ ∃ a, k < a ∧ (a, b) ∈ un
  · exact Or.inr hu
  · refine Or.inl ?_
    have hl := eh_tkl hk
    have e1 : (eh_nW (eh_BW I J k un) sh).2.2.2 = eh_SH.take (k + 1) := by
      show eh_SH.take k ++ [sh] = _
      rw [List.take_add_one, hk]; rfl
    have e2 : (eh_nW (eh_BW I J k un) sh).2.2.1 = eh_Ps (k + 1) (js.map (fun j => (k, j)) ++ un) := by
      funext a b
      show (if a = (eh_SH.take k).length then fun _ => eh_NU else eh_Ps k un a) b = _
      rw [hl]
      by_cases ha : a = k
      · subst ha
        rw [if_pos rfl]
        unfold eh_Ps
        rw [if_pos (Nat.lt_succ_self a)]
        by_cases hb : b ∈ js
        · rw [if_pos (List.mem_append_left _ (List.mem_map.mpr ⟨b, hb, rfl⟩))]
        · have := eh_jok_spec hj b hb
          rw [this, ite_self]
      · rw [if_neg ha]
        unfold eh_Ps
        by_cases hlt : a < k
        · rw [if_pos hlt, if_pos (Nat.lt_succ_of_lt hlt)]
          have : (a, b) ∈ js.map (fun j => (k, j)) ++ un ↔ (a, b) ∈ un := by
            rw [List.mem_append]
            refine ⟨fun h => h.resolve_left (fun h2 => ?_), Or.inr⟩
            obtain ⟨j, -, h3⟩ := List.mem_map.mp h2
            cases h3
            exact ha rfl
          by_cases hm : (a, b) ∈ un
          · rw [if_pos hm, if_pos (this.mpr hm)]
          · rw [if_neg hm, if_neg (fun h => hm (this.mp h))]
        · rw [if_neg hlt, if_neg (by omega)]
    exact Prod.ext e2 e1
def eh_uok (k : Nat) (un : List (Nat × Nat)) : Bool := un.all (fun q => decide (q.1 < k))
theorem eh_nW_BW {I : Nat → Nat → Int32} {J : Nat → Nat → Int64} {k : Nat} {un : List (Nat × Nat)} {js : List Nat} {sh : eh_Sh} (hk : eh_SH[k]? = some sh) (hj : eh_jok k js = true) (hu : eh_uok k un = true) (hI : I k = fun _ => 0) (hJ : J k = fun _ => 0) : eh_nW (eh_BW I J k un) sh = eh_BW I J (k + 1) (js.map (fun j => (k, j)) ++ un) := by
  have hl := eh_tkl hk
  have h2 := (eh_nW_P (I := I) (J := J) (un := un) hk hj).resolve_right (fun ⟨b, h⟩ => by
    rcases h with h | ⟨a, ha, h⟩
    · have := List.all_eq_true.mp hu _ h
      simp at this
    · have := List.all_eq_true.mp hu _ h
      simp at this
      omega)
  have e1 : (eh_nW (eh_BW I J k un) sh).1 = I := by
    funext a
    show (if a = (eh_SH.take k).length then fun _ => 0 else I a) = I a
    rw [hl]
    by_cases ha : a = k
    · subst ha; rw [if_pos rfl, hI]
    · rw [if_neg ha]
  have e3 : (eh_nW (eh_BW I J k un) sh).2.1 = J := by
    funext a
    show (if a = (eh_SH.take k).length then fun _ => 0 else J a) = J a
    rw [hl]
    by_cases ha : a = k
    · subst ha; rw [if_pos rfl, hJ]
    · rw [if_neg ha]
  exact Prod.ext e1 (Prod.ext e3 h2)
theorem eh_nW_BR {I : Nat → Nat → Int32} {J : Nat → Nat → Int64} {k n : Nat} {un : List (Nat × Nat)} {js : List Nat} {sh : eh_Sh} (hk : eh_SH[k + n]? = some sh) (hj : eh_jok (k + n) js = true) (hu : eh_uok (k + n) un = true) : eh_nW (eh_BW (eh_zr 0 I k n) (eh_zr 0 J k n) (k + n) un) sh = eh_BW (eh_zr 0 I k (n + 1)) (eh_zr 0 J k (n + 1)) (k + n + 1) (js.map (fun j => (k + n, j)) ++ un) := by
  have hl := eh_tkl hk
  have h2 := (eh_nW_P (I := eh_zr 0 I k n) (J := eh_zr 0 J k n) (un := un) hk hj).resolve_right (fun ⟨b, h⟩ => by
    rcases h with h | ⟨a, ha, h⟩
    · have := List.all_eq_true.mp hu _ h
      simp at this
    · have := List.all_eq_true.mp hu _ h
      simp at this
      omega)
  have key : ∀ {α : Type} (z : α) (I : Nat → Nat → α) (a : Nat), (if a = k + n then fun _ => z else eh_zr z I k n a) = eh_zr z I k (n + 1) a := by
    intro α z I a
    unfold eh_zr
    by_cases ha : a = k + n
    · rw [if_pos ha, if_pos (by omega)]
    · rw [if_neg ha]
      by_cases hb : k ≤ a ∧ a < k + n
      · rw [if_pos hb, if_pos (by omega)]
      · rw [if_neg hb, if_neg (by omega)]
  have e1 : (eh_nW (eh_BW (eh_zr 0 I k n) (eh_zr 0 J k n) (k + n) un) sh).1 = eh_zr 0 I k (n + 1) := by
    funext a
    show (if a = (eh_SH.take (k + n)).length then fun _ => 0 else eh_zr 0 I k n a) = _
    rw [hl]; exact key 0 I a
  have e3 : (eh_nW (eh_BW (eh_zr 0 I k n) (eh_zr 0 J k n) (k + n) un) sh).2.1 = eh_zr 0 J k (n + 1) := by
    funext a
    show (if a = (eh_SH.take (k + n)).length then fun _ => 0 else eh_zr 0 J k n a) = _
    rw [hl]; exact key 0 J a
  exact Prod.ext e1 (Prod.ext e3 h2)
theorem eh_sP_BW {I : Nat → Nat → Int32} {J : Nat → Nat → Int64} {k a j q : Nat} {un un' : List (Nat × Nat)} (ha : a < k) (hq : eh_PP eh_q0 a j = q) (hu : un.filter (fun z => decide (z ≠ (a, j))) = un') : eh_sP (eh_BW I J k un) a j q = eh_BW I J k un' := by
  subst hu
  have e2 : (eh_sP (eh_BW I J k un) a j q).2.2.1 = eh_Ps k (un.filter (fun z => decide (z ≠ (a, j)))) := by
    funext x y
    show (if x = a then eh_uN (eh_Ps k un a) j q else eh_Ps k un x) y = _
    by_cases hx : x = a
    · subst hx
      rw [if_pos rfl]
      unfold eh_uN
      by_cases hy : y = j
      · subst hy
        rw [if_pos rfl]
        unfold eh_Ps
        rw [if_pos ha, if_neg (fun h => by have := (List.mem_filter.mp h).2; simp at this), hq]
      · rw [if_neg hy]
        unfold eh_Ps
        rw [if_pos ha, if_pos ha]
        have : (x, y) ∈ un.filter (fun z => decide (z ≠ (x, j))) ↔ (x, y) ∈ un := by
          rw [List.mem_filter]
          refine ⟨fun h => h.1, fun h => ⟨h, by simp [hy]⟩⟩
        by_cases hm : (x, y) ∈ un
        · rw [if_pos hm, if_pos (this.mpr hm)]
        · rw [if_neg hm, if_neg (fun h => hm (this.mp h))]
    · rw [if_neg hx]
      unfold eh_Ps
      have : (x, y) ∈ un.filter (fun z => decide (z ≠ (a, j))) ↔ (x, y) ∈ un := by
        rw [List.mem_filter]
        refine ⟨fun h => h.1, fun h => ⟨h, by simp [hx]⟩⟩
      by_cases hm : (x, y) ∈ un
      · rw [if_pos hm, if_pos (this.mpr hm)]
      · rw [if_neg hm, if_neg (fun h => hm (this.mp h))]
  exact Prod.ext rfl (Prod.ext rfl (Prod.ext e2 rfl))
section EhBW
variable {g : eh_P} {M : eh_M} {R : Room} {cells slots pc : Nat} {L : eh_LL} {st : List Value} {I : Nat → Nat → Int32} {J : Nat → Nat → Int64} {k : Nat} {un un' : List (Nat × Nat)} {α : Type} {enc : α → Option Value × eh_W} {mm : Option α}
theorem eb_new {ci idx N : Nat} {C : String} {T : u_T} (js : List Nat) (hk : eh_SH[k]? = some (ci, 0)) (hc : eh_cl[ci]? = some (C, T, N)) (hci : ci < 100) (hcl : Cond.classLink M.1 idx C ∈ eh_tb) (hins : Cond.instantiable C N ∈ eh_tb) (hini : Cond.initialized C ∈ eh_tb) (hj : eh_jok k js = true) (hu : eh_uok k un = true) (hI : I k = fun _ => 0) (hJ : J k = fun _ => 0) (hun : js.map (fun j => (k, j)) ++ un = un') (hf : cells + 1 ≤ R.cells ∧ slots + N ≤ R.slots) (hd : decode M.2.1 pc = .ok (.new idx, 3)) (kk : eh_Sim g M R enc (cells + 1) (slots + N) (pc + 3) L (.ref k :: st) (eh_BW I J (k + 1) un') mm) : eh_Sim g M R enc cells slots pc L st (eh_BW I J k un) mm := by
  subst hun
  have hl := eh_tkl hk
  intro a ha
  refine er_new (w := eh_BW I J k un) hc hci hcl hins hini (by show (eh_SH.take k).length < _; rw [hl]; exact eh_sh_SB hk) hf hd ?_
  rw [eh_nW_BW hk hj hu hI hJ, show (eh_BW I J k un).2.2.2.length = k from hl]
  exact kk a ha
theorem eb_newa {t : Nat} {n : Int32} {N : Nat} {at_ : ArrayType} (hk : eh_SH[k]? = some (t, N)) (ht : (t = 100 ∧ at_ = .int) ∨ (t = 101 ∧ at_ = .byte) ∨ (t = 102 ∧ at_ = .boolean) ∨ (t = 103 ∧ at_ = .long)) (hac : Cond.arrayClass (eh_ty t) ∈ eh_tb) (hn : (¬ n < 0 ∧ n.toNatClampNeg = N) ∧ N ≤ 131072) (hj : eh_jok k [] = true) (hu : eh_uok k un = true) (hI : I k = fun _ => 0) (hJ : J k = fun _ => 0) (hf : cells + 1 ≤ R.cells ∧ slots + N ≤ R.slots) (hd : decode M.2.1 pc = .ok (.newarray at_, 2)) (kk : eh_Sim g M R enc (cells + 1) (slots + N) (pc + 2) L (.ref k :: st) (eh_BW I J (k + 1) un) mm) : eh_Sim g M R enc cells slots pc L (.int n :: st) (eh_BW I J k un) mm := by
  have hl := eh_tkl hk
  intro a ha
  refine er_newa (w := eh_BW I J k un) (idx := 0) ht hac hn.1.1 hn.1.2 hn.2 (by show (eh_SH.take k).length < _; rw [hl]; exact eh_sh_SB hk) hf hd ?_
  rw [eh_nW_BW hk hj hu hI hJ, show (eh_BW I J k un).2.2.2.length = k from hl]
  exact kk a ha
theorem eb_anew {t idx : Nat} {n : Int32} {N : Nat} {C : String} (js : List Nat) (hk : eh_SH[k]? = some (t, N)) (ht : (t = 104 ∧ C = "EnclaveHouse$Hart") ∨ (t = 105 ∧ C = "EnclaveHouse$Fibre") ∨ (t = 106 ∧ C = "EnclaveHouse$Enclave")) (hcl : Cond.classLink M.1 idx C ∈ eh_tb) (hn : (¬ n < 0 ∧ n.toNatClampNeg = N) ∧ N ≤ 131072) (hj : eh_jok k js = true) (hu : eh_uok k un = true) (hI : I k = fun _ => 0) (hJ : J k = fun _ => 0) (hun : js.map (fun j => (k, j)) ++ un = un') (hf : cells + 1 ≤ R.cells ∧ slots + N ≤ R.slots) (hd : decode M.2.1 pc = .ok (.anewarray idx, 3)) (kk : eh_Sim g M R enc (cells + 1) (slots + N) (pc + 3) L (.ref k :: st) (eh_BW I J (k + 1) un') mm) : eh_Sim g M R enc cells slots pc L (.int n :: st) (eh_BW I J k un) mm := by
  subst hun
  have hl := eh_tkl hk
  intro a ha
  refine er_anew (w := eh_BW I J k un) ht hcl hn.1.1 hn.1.2 hn.2 (by show (eh_SH.take k).length < _; rw [hl]; exact eh_sh_SB hk) hf hd ?_
  rw [eh_nW_BW hk hj hu hI hJ, show (eh_BW I J k un).2.2.2.length = k from hl]
  exact kk a ha
theorem eb_putP {a ci z idx j q : Nat} (ha : a < k) (hsh : eh_SH[a]? = some (ci, z)) (hF : eh_FL M.1 idx ci j) (hfin : eh_fin ci j = false ∨ (M.2.2.2.2 = true ∧ (∀ r0, eh_cl[ci]? = some r0 → r0.1 = M.1) ∧ eh_fin ci j = true)) (hf : eh_ft ci j = 3) (hqn : q < eh_NU) (hq : eh_PP eh_q0 a j = q) (hu : un.filter (fun z => decide (z ≠ (a, j))) = un') (hd : decode M.2.1 pc = .ok (.putfield idx, 3)) (kk : eh_Sim g M R enc cells slots (pc + 3) L st (eh_BW I J k un') mm) : eh_Sim g M R enc cells slots pc L (.ref q :: .ref a :: st) (eh_BW I J k un) mm :=
  fun b hb => er_putP (w := eh_BW I J k un) (eh_tk ha hsh) hF hfin hf hqn (eh_sh_SB hsh) hd (by rw [eh_sP_BW ha hq hu]; exact kk b hb)
theorem eb_putI {a ci z idx j : Nat} {v : Int32} (ha : a < k) (hsh : eh_SH[a]? = some (ci, z)) (hF : eh_FL M.1 idx ci j) (hfin : eh_fin ci j = false ∨ (M.2.2.2.2 = true ∧ (∀ r0, eh_cl[ci]? = some r0 → r0.1 = M.1) ∧ eh_fin ci j = true)) (hf : eh_ft ci j = 0) (hd : decode M.2.1 pc = .ok (.putfield idx, 3)) (kk : eh_Sim g M R enc cells slots (pc + 3) L st (eh_BW (eh_u2 I a j v) J k un) mm) : eh_Sim g M R enc cells slots pc L (.int v :: .ref a :: st) (eh_BW I J k un) mm :=
  fun b hb => er_putI (w := eh_BW I J k un) (eh_tk ha hsh) hF hfin (Or.inl hf) (eh_sh_SB hsh) hd (kk b hb)
theorem eb_getP {a ci z idx j q : Nat} (ha : a < k) (hsh : eh_SH[a]? = some (ci, z)) (hF : eh_FL M.1 idx ci j) (hf : eh_ft ci j = 3) (hqn : q < eh_NU) (hq : eh_Ps k un a j = q) (hd : decode M.2.1 pc = .ok (.getfield idx, 3)) (kk : eh_Sim g M R enc cells slots (pc + 3) L (.ref q :: st) (eh_BW I J k un) mm) : eh_Sim g M R enc cells slots pc L (.ref a :: st) (eh_BW I J k un) mm :=
  fun b hb => er_getP (w := eh_BW I J k un) (eh_tk ha hsh) hF hf hq hqn (eh_sh_SB hsh) hd (kk b hb)
theorem eb_aast {a t n q ci z j : Nat} {i : Int32} (ha : a < k) (hqk : q < k) (hsh : eh_SH[a]? = some (t, n)) (hsq : eh_SH[q]? = some (ci, z)) (ht : (t = 104 ∧ ci = 4) ∨ (t = 105 ∧ ci = 2) ∨ (t = 106 ∧ ci = 1)) (hin : eh_in i n = true) (hij : i.toNatClampNeg = j) (hq : eh_PP eh_q0 a j = q) (hu : un.filter (fun z => decide (z ≠ (a, j))) = un') (hd : decode M.2.1 pc = .ok (.aastore, 1)) (kk : eh_Sim g M R enc cells slots (pc + 1) L st (eh_BW I J k un') mm) : eh_Sim g M R enc cells slots pc L (.ref q :: .int i :: .ref a :: st) (eh_BW I J k un) mm := by
  subst hij
  exact fun b hb => er_aast (w := eh_BW I J k un) (eh_tk ha hsh) (eh_tk hqk hsq) ht (eh_in_vp hin) (eh_sh_SB hsh) (eh_sh_NU hsq) hd (by rw [eh_sP_BW ha hq hu]; exact kk b hb)
theorem eb_aald {a t n q j : Nat} {i : Int32} (ha : a < k) (hsh : eh_SH[a]? = some (t, n)) (ht : t = 104 ∨ t = 105 ∨ t = 106) (hin : eh_in i n = true) (hij : i.toNatClampNeg = j) (hq : eh_Ps k un a j = q) (hqn : q < eh_NU) (hd : decode M.2.1 pc = .ok (.aaload, 1)) (kk : eh_Sim g M R enc cells slots (pc + 1) L (.ref q :: st) (eh_BW I J k un) mm) : eh_Sim g M R enc cells slots pc L (.int i :: .ref a :: st) (eh_BW I J k un) mm := by
  subst hij
  exact fun b hb => er_aldP (w := eh_BW I J k un) (eh_tk ha hsh) ht (eh_in_vp hin) hq hqn (eh_sh_SB hsh) hd (kk b hb)
theorem eb_obj {w : eh_W} {a idx : Nat} (hl : Cond.methodLink M.1 idx Lib.objectInit ∈ eh_tb) (hin : Cond.instanceMethod Lib.objectInit ∈ eh_tb) (hc : Cond.code Lib.objectInit ⟨#[0xb1]⟩ 1 none ∈ eh_tb) (hR : 1 ≤ R.frames ∧ 40 ≤ R.locals) (hW : (st.map fun v => v.category).sum ≤ 8) (hs : a < eh_SB) (hd : decode M.2.1 pc = .ok (.invokespecial idx, 3)) (kk : eh_Sim g M R enc cells slots (pc + 3) L st w mm) : eh_Sim g M R enc cells slots pc L (.ref a :: st) w mm :=
  fun b hb => er_obj hl hin hc hR hW hd hs (kk b hb)
end EhBW
