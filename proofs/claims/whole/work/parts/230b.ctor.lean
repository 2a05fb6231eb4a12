/-! constructors are called; the range of new cells -/
section EhCtor
variable {g : eh_P} {M Mj : eh_M} {R : Room} {cells slots pc : Nat} {L : eh_LL} {st stk As : List Value} {w w2 : eh_W} {α β : Type} {enc : α → Option Value × eh_W} {mm : Option α} {y : MethodName} {n d mc ms idx : Nat}
theorem eh_bsome (m : Option α) : m.bind some = m := by cases m <;> rfl
theorem eb_to (h : w = w2) (k : eh_Sim g M R enc cells slots pc L st w2 mm) : eh_Sim g M R enc cells slots pc L st w mm := by rw [h]; exact k
theorem eb_dup {c : Prop} [Decidable c] {m1 : Option β} {K : β → Option α} (k : eh_Sim g M R enc cells slots pc L st w ((if c then m1 else m1).bind K)) : eh_Sim g M R enc cells slots pc L st w (m1.bind K) := by
  rw [ite_self] at k
  exact k
theorem eb_widen {k n : Nat} (h1 : cells ≤ k) (h2 : slots ≤ n) (kk : eh_Sim g M R enc k n pc L st w mm) : eh_Sim g M R enc cells slots pc L st w mm :=
  fun a ha p e s m args below meth c H locs ls Q C S V Kr => W.widen h1 h2 (kk a ha p e s m args below meth c H locs ls Q C S V Kr)
def eh_MI (y : MethodName) (M : eh_M) (n : Nat) : Prop := eh_ME y M n ∧ M.2.2.2.1 = none ∧ y.name = "<init>" ∧ Cond.instanceMethod y ∈ eh_tb
theorem eb_ctor {k : Nat} (hS : eh_Sim g Mj (eh_R d mc ms) (fun (_ : Unit) => (none, w2)) 0 0 0 (eh_en Mj.2.2.1 (.ref k :: As)) [] w (some ())) (hu : () = ()) (hM : eh_MI y Mj n) (hl : eh_LK M.1 idx y) (hs : k < eh_SB) (hn : As.length = n) (hlen : (eh_al (.ref k :: As)).length ≤ Mj.2.2.1) (hstk : stk = As.reverse ++ .ref k :: st) (hW : (st.map fun v => v.category).sum ≤ 8) (hR : d + 1 ≤ R.frames ∧ 40 * (d + 1) ≤ R.locals) (hf : cells + mc ≤ R.cells ∧ slots + ms ≤ R.slots) (hd : decode M.2.1 pc = .ok (.invokespecial idx, 3))
    (kk : eh_Sim g M R enc (cells + mc) (slots + ms) (pc + 3) L st w2 mm) : eh_Sim g M R enc cells slots pc L stk w mm := by
  have h := es_callI (F := fun _ : Unit => mm) (K := some) (enc := enc) (L := L) hS (fun _ _ => rfl) hM.2.1 hM.1 hM.2.2 hl hs hn hlen hstk hW hR hf hd (fun _ _ => by rw [eh_bsome]; exact kk)
  rw [eh_bsome] at h
  exact h
theorem eb_ctorN {k : Nat} {host : String} (hS : eh_Sim g Mj (eh_R d mc ms) (fun (_ : Unit) => (none, w2)) 0 0 0 (eh_en Mj.2.2.1 (.ref k :: As)) [] w (some ())) (hu : () = ()) (hM : eh_MI y Mj n) (hl : Cond.methodLinkNest M.1 idx y host ∈ lw_tbl) (hs : k < eh_SB) (hn : As.length = n) (hlen : (eh_al (.ref k :: As)).length ≤ Mj.2.2.1) (hstk : stk = As.reverse ++ .ref k :: st) (hW : (st.map fun v => v.category).sum ≤ 8) (hR : d + 1 ≤ R.frames ∧ 40 * (d + 1) ≤ R.locals) (hf : cells + mc ≤ R.cells ∧ slots + ms ≤ R.slots) (hd : decode M.2.1 pc = .ok (.invokespecial idx, 3))
    (kk : eh_Sim g M R enc (cells + mc) (slots + ms) (pc + 3) L st w2 mm) : eh_Sim g M R enc cells slots pc L stk w mm := by
  have h := es_callIN (F := fun _ : Unit => mm) (K := some) (enc := enc) (L := L) hS (fun _ _ => rfl) hM.2.1 hM.1 hM.2.2 hl hs hn hlen hstk hW hR hf hd (fun _ _ => by rw [eh_bsome]; exact kk)
  rw [eh_bsome] at h
  exact h
/-- a constructor whose outcome is a function's -/
theorem eb_ctorF {γ : Type} {mj : Option eh_F} {wf : eh_F → eh_W} {F : eh_F → Option γ} {K : γ → Option α} {k : Nat} (hS : eh_Sim g Mj (eh_R d mc ms) (fun s => (none, wf s)) 0 0 0 (eh_en Mj.2.2.1 (.ref k :: As)) [] w mj) (hM : eh_MI y Mj n) (hl : eh_LK M.1 idx y) (hs : k < eh_SB) (hn : As.length = n) (hlen : (eh_al (.ref k :: As)).length ≤ Mj.2.2.1) (hstk : stk = As.reverse ++ .ref k :: st) (hW : (st.map fun v => v.category).sum ≤ 8) (hR : d + 1 ≤ R.frames ∧ 40 * (d + 1) ≤ R.locals) (hf : cells + mc ≤ R.cells ∧ slots + ms ≤ R.slots) (hd : decode M.2.1 pc = .ok (.invokespecial idx, 3))
    (kk : ∀ s, mj = some s → eh_Sim g M R enc (cells + mc) (slots + ms) (pc + 3) L st (wf s) ((F s).bind K)) : eh_Sim g M R enc cells slots pc L stk w ((mj.bind F).bind K) :=
  es_callI hS (fun _ _ => rfl) hM.2.1 hM.1 hM.2.2 hl hs hn hlen hstk hW hR hf hd kk
theorem ef_loopR {δ ε : Type} {body : (δ → Option (α ⊕ ε)) → δ → Option (α ⊕ ε)} {F : ε → Option α} {n : Nat} {i : δ} {px : Nat} (Lf : δ → eh_LL) (sf : δ → List Value) (wf : δ → eh_W) (Lx : ε → eh_LL) (sx : ε → List Value) (wx : ε → eh_W)
    (hx : ∀ x, eh_Sim g M R enc cells slots px (Lx x) (sx x) (wx x) ((F x).bind some))
    (hb : ∀ (K' : α ⊕ ε → Option α), (∀ a, K' (.inl a) = some a) → (∀ x, eh_Sim g M R enc cells slots px (Lx x) (sx x) (wx x) (K' (.inr x))) → ∀ rec : δ → Option (α ⊕ ε), (∀ s, eh_Sim g M R enc cells slots pc (Lf s) (sf s) (wf s) ((rec s).bind K')) → ∀ s, eh_Sim g M R enc cells slots pc (Lf s) (sf s) (wf s) ((body rec s).bind K')) : eh_Sim g M R enc cells slots pc (Lf i) (sf i) (wf i) (((eh_loop body n i).bind (Sum.elim some F)).bind some) :=
  ef_assoc (es_loop (ok := fun _ => True) (fun rec h s _ => hb _ (fun _ => rfl) hx rec (fun s => h s trivial) s) n i trivial)
variable {I : Nat → Nat → Int32} {J : Nat → Nat → Int64} {k : Nat} {un un' : List (Nat × Nat)}
theorem eh_zr0 {α : Type} (z : α) (I : Nat → Nat → α) (k : Nat) : eh_zr z I k 0 = I := by
  funext a
  unfold eh_zr
  rw [if_neg (by omega)]
theorem eh_BW_z0 : eh_BW I J k un = eh_BW (eh_zr 0 I k 0) (eh_zr 0 J k 0) k un := by rw [eh_zr0, eh_zr0]
theorem eh_BW_FW (I : Nat → Nat → Int32) (J : Nat → Nat → Int64) : eh_BW I J 196 [] = eh_FW (I, J, eh_q0) := by
  have e1 : eh_Ps 196 [] = eh_PP eh_q0 := by
    funext a b
    unfold eh_Ps
    by_cases ha : a < 196
    · rw [if_pos ha, if_neg (List.not_mem_nil)]
    · rw [if_neg ha]
      unfold eh_PP eh_PF
      have hl : eh_PFt.length = 196 := by decide +kernel
      have hn : eh_PFt[a]? = none := List.getElem?_eq_none (by omega)
      rw [if_neg (by omega), List.getD_eq_getElem?_getD (l := eh_PFt), hn]
      rfl
  have e2 : eh_SH.take 196 = eh_SH := by decide +kernel
  unfold eh_BW eh_FW
  rw [e1, e2]
theorem eb_newR {ci idx N n : Nat} {C : String} {T : u_T} (js : List Nat) (hk : eh_SH[k + n]? = some (ci, 0)) (hc : eh_cl[ci]? = some (C, T, N)) (hci : ci < 100) (hcl : Cond.classLink M.1 idx C ∈ eh_tb) (hins : Cond.instantiable C N ∈ eh_tb) (hini : Cond.initialized C ∈ eh_tb) (hj : eh_jok (k + n) js = true) (hu : eh_uok (k + n) un = true) (hun : js.map (fun j => (k + n, j)) ++ un = un') (hf : cells + 1 ≤ R.cells ∧ slots + N ≤ R.slots) (hd : decode M.2.1 pc = .ok (.new idx, 3)) (kk : eh_Sim g M R enc (cells + 1) (slots + N) (pc + 3) L (.ref (k + n) :: st) (eh_BW (eh_zr 0 I k (n + 1)) (eh_zr 0 J k (n + 1)) (k + n + 1) un') mm) : eh_Sim g M R enc cells slots pc L st (eh_BW (eh_zr 0 I k n) (eh_zr 0 J k n) (k + n) un) mm := by
  subst hun
  have hl := eh_tkl hk
  intro a ha
  refine er_new (w := eh_BW (eh_zr 0 I k n) (eh_zr 0 J k n) (k + n) un) hc hci hcl hins hini (by show (eh_SH.take (k + n)).length < _; rw [hl]; exact eh_sh_SB hk) hf hd ?_
  rw [eh_nW_BR hk hj hu, show (eh_BW (eh_zr 0 I k n) (eh_zr 0 J k n) (k + n) un).2.2.2.length = k + n from hl]
  exact kk a ha
theorem eb_newaR {t n : Nat} {v : Int32} {N : Nat} {at_ : ArrayType} (hk : eh_SH[k + n]? = some (t, N)) (ht : (t = 100 ∧ at_ = .int) ∨ (t = 101 ∧ at_ = .byte) ∨ (t = 102 ∧ at_ = .boolean) ∨ (t = 103 ∧ at_ = .long)) (hac : Cond.arrayClass (eh_ty t) ∈ eh_tb) (hn : (¬ v < 0 ∧ v.toNatClampNeg = N) ∧ N ≤ 131072) (hj : eh_jok (k + n) [] = true) (hu : eh_uok (k + n) un = true) (hf : cells + 1 ≤ R.cells ∧ slots + N ≤ R.slots) (hd : decode M.2.1 pc = .ok (.newarray at_, 2)) (kk : eh_Sim g M R enc (cells + 1) (slots + N) (pc + 2) L (.ref (k + n) :: st) (eh_BW (eh_zr 0 I k (n + 1)) (eh_zr 0 J k (n + 1)) (k + n + 1) un) mm) : eh_Sim g M R enc cells slots pc L (.int v :: st) (eh_BW (eh_zr 0 I k n) (eh_zr 0 J k n) (k + n) un) mm := by
  have hl := eh_tkl hk
  intro a ha
  refine er_newa (w := eh_BW (eh_zr 0 I k n) (eh_zr 0 J k n) (k + n) un) (idx := 0) ht hac hn.1.1 hn.1.2 hn.2 (by show (eh_SH.take (k + n)).length < _; rw [hl]; exact eh_sh_SB hk) hf hd ?_
  rw [eh_nW_BR hk hj hu, show (eh_BW (eh_zr 0 I k n) (eh_zr 0 J k n) (k + n) un).2.2.2.length = k + n from hl]
  exact kk a ha
end EhCtor
