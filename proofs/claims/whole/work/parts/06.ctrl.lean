/-! branches, ends -/
section EhCtrl
variable {g : eh_P} {M : eh_M} {R : Room} {cells slots pc : Nat} {L : eh_LL} {st : List Value} {w : eh_W} {α β : Type} {enc : α → Option Value × eh_W} {m1 m2 : Option β} {K : β → Option α} {x y : Int32} {off : Int} {tgt : Nat}
theorem es_none : eh_Sim g M R enc cells slots pc L st w (Option.bind (none : Option β) K) := fun a ha => by cases ha
theorem es_nil : eh_Sim g M R enc cells slots pc L st w (none : Option α) := fun a ha => by cases ha
theorem es_ifc {c : Prop} [Decidable c] (h1 : c → eh_Sim g M R enc cells slots pc L st w (m1.bind K)) (h2 : ¬ c → eh_Sim g M R enc cells slots pc L st w (m2.bind K)) : eh_Sim g M R enc cells slots pc L st w ((if c then m1 else m2).bind K) := by
  by_cases h : c
  · rw [if_pos h]; exact h1 h
  · rw [if_neg h]; exact h2 h
/-- a test that the machine makes too: what isn't so, nobody asks for -/
theorem es_chk {c : Prop} [Decidable c] (h1 : c → eh_Sim g M R enc cells slots pc L st w (m1.bind K)) : eh_Sim g M R enc cells slots pc L st w ((if c then m1 else none).bind K) := es_ifc h1 (fun _ => es_none)
theorem es_goto (hd : decode M.2.1 pc = .ok (.goto off, 3)) (ht : (pc : Int) + off = (tgt : Int)) {mm : Option α} (k : eh_Sim g M R enc cells slots tgt L st w mm) : eh_Sim g M R enc cells slots pc L st w mm :=
  fun a ha p e s m args below meth c H locs ls Q C S V Kr => lv_goto C.1 C.2.1 hd ht (k a ha p e s m args below meth c H locs ls Q C S V Kr)
theorem es_br1 {c : Prop} [Decidable c] {v : Value} {t f : Nat} (hrow : ∀ (p : Program) (e : Env) (s : State) (m : MethodId) (args : Array Value) (below : List Frame) (meth : Method) (cd : Code) (H : Heap) (locs : List Loc) (ls : Array Slot) (Q : State → Prop) (rest : List Value), p.tables.exec = Jvm.exec → cd.code = M.2.1 → (c → W p (eh_l g) e R s m args below meth cd H locs cells slots Q (F0 m t ls rest)) → (¬ c → W p (eh_l g) e R s m args below meth cd H locs cells slots Q (F0 m f ls rest)) → W p (eh_l g) e R s m args below meth cd H locs cells slots Q (F0 m pc ls (v :: rest))) (hv : eh_cv g v = v)
    (k1 : c → eh_Sim g M R enc cells slots t L st w (m1.bind K)) (k2 : ¬ c → eh_Sim g M R enc cells slots f L st w (m2.bind K)) : eh_Sim g M R enc cells slots pc L (v :: st) w ((if c then m1 else m2).bind K) := by
  intro a ha p e s m args below meth cd H locs ls Q C S V Kr
  rw [List.map_cons, hv]
  refine hrow p e s m args below meth cd H locs ls Q _ C.1 C.2.1 (fun h => ?_) (fun h => ?_)
  · rw [if_pos h] at ha
    exact k1 h a ha p e s m args below meth cd H locs ls Q C S V Kr
  · rw [if_neg h] at ha
    exact k2 h a ha p e s m args below meth cd H locs ls Q C S V Kr
theorem es_br2 {c : Prop} [Decidable c] {v u : Value} {t f : Nat} (hrow : ∀ (p : Program) (e : Env) (s : State) (m : MethodId) (args : Array Value) (below : List Frame) (meth : Method) (cd : Code) (H : Heap) (locs : List Loc) (ls : Array Slot) (Q : State → Prop) (rest : List Value), p.tables.exec = Jvm.exec → cd.code = M.2.1 → (c → W p (eh_l g) e R s m args below meth cd H locs cells slots Q (F0 m t ls rest)) → (¬ c → W p (eh_l g) e R s m args below meth cd H locs cells slots Q (F0 m f ls rest)) → W p (eh_l g) e R s m args below meth cd H locs cells slots Q (F0 m pc ls (v :: u :: rest))) (hv : eh_cv g v = v) (hu : eh_cv g u = u)
    (k1 : c → eh_Sim g M R enc cells slots t L st w (m1.bind K)) (k2 : ¬ c → eh_Sim g M R enc cells slots f L st w (m2.bind K)) : eh_Sim g M R enc cells slots pc L (v :: u :: st) w ((if c then m1 else m2).bind K) := by
  intro a ha p e s m args below meth cd H locs ls Q C S V Kr
  rw [List.map_cons, List.map_cons, hv, hu]
  refine hrow p e s m args below meth cd H locs ls Q _ C.1 C.2.1 (fun h => ?_) (fun h => ?_)
  · rw [if_pos h] at ha
    exact k1 h a ha p e s m args below meth cd H locs ls Q C S V Kr
  · rw [if_neg h] at ha
    exact k2 h a ha p e s m args below meth cd H locs ls Q C S V Kr
theorem es_eq (hd : decode M.2.1 pc = .ok (.ifCond .eq off, 3)) (ht : (pc : Int) + off = (tgt : Int)) (k1 : x = 0 → eh_Sim g M R enc cells slots tgt L st w (m1.bind K)) (k2 : ¬ x = 0 → eh_Sim g M R enc cells slots (pc + 3) L st w (m2.bind K)) : eh_Sim g M R enc cells slots pc L (.int x :: st) w ((if x = 0 then m1 else m2).bind K) :=
  es_br1 (fun p e s m args below meth cd H locs ls Q rest hx hb a b => lv_if_eq hx hb hd ht a b) rfl k1 k2
theorem es_ne (hd : decode M.2.1 pc = .ok (.ifCond .ne off, 3)) (ht : (pc : Int) + off = (tgt : Int)) (k1 : x = 0 → eh_Sim g M R enc cells slots (pc + 3) L st w (m1.bind K)) (k2 : ¬ x = 0 → eh_Sim g M R enc cells slots tgt L st w (m2.bind K)) : eh_Sim g M R enc cells slots pc L (.int x :: st) w ((if x = 0 then m1 else m2).bind K) :=
  es_br1 (fun p e s m args below meth cd H locs ls Q rest hx hb a b => lv_if_ne hx hb hd ht b a) rfl k1 k2
theorem es_lt (hd : decode M.2.1 pc = .ok (.ifCond .lt off, 3)) (ht : (pc : Int) + off = (tgt : Int)) (k1 : x < 0 → eh_Sim g M R enc cells slots tgt L st w (m1.bind K)) (k2 : ¬ x < 0 → eh_Sim g M R enc cells slots (pc + 3) L st w (m2.bind K)) : eh_Sim g M R enc cells slots pc L (.int x :: st) w ((if x < 0 then m1 else m2).bind K) :=
  es_br1 (fun p e s m args below meth cd H locs ls Q rest hx hb a b => lv_if_lt hx hb hd ht a b) rfl k1 k2
theorem es_ge (hd : decode M.2.1 pc = .ok (.ifCond .ge off, 3)) (ht : (pc : Int) + off = (tgt : Int)) (k1 : x < 0 → eh_Sim g M R enc cells slots (pc + 3) L st w (m1.bind K)) (k2 : ¬ x < 0 → eh_Sim g M R enc cells slots tgt L st w (m2.bind K)) : eh_Sim g M R enc cells slots pc L (.int x :: st) w ((if x < 0 then m1 else m2).bind K) :=
  es_br1 (fun p e s m args below meth cd H locs ls Q rest hx hb a b => lv_if_ge hx hb hd ht (fun h => b (Int32.not_lt.mpr h)) (fun h => a (Int32.not_le.mp h))) rfl k1 k2
theorem es_gt (hd : decode M.2.1 pc = .ok (.ifCond .gt off, 3)) (ht : (pc : Int) + off = (tgt : Int)) (k1 : 0 < x → eh_Sim g M R enc cells slots tgt L st w (m1.bind K)) (k2 : ¬ 0 < x → eh_Sim g M R enc cells slots (pc + 3) L st w (m2.bind K)) : eh_Sim g M R enc cells slots pc L (.int x :: st) w ((if 0 < x then m1 else m2).bind K) :=
  es_br1 (fun p e s m args below meth cd H locs ls Q rest hx hb a b => lv_if_gt hx hb hd ht a b) rfl k1 k2
theorem es_le (hd : decode M.2.1 pc = .ok (.ifCond .le off, 3)) (ht : (pc : Int) + off = (tgt : Int)) (k1 : 0 < x → eh_Sim g M R enc cells slots (pc + 3) L st w (m1.bind K)) (k2 : ¬ 0 < x → eh_Sim g M R enc cells slots tgt L st w (m2.bind K)) : eh_Sim g M R enc cells slots pc L (.int x :: st) w ((if 0 < x then m1 else m2).bind K) :=
  es_br1 (fun p e s m args below meth cd H locs ls Q rest hx hb a b => lv_if_le hx hb hd ht (fun h => b (Int32.not_lt.mpr h)) (fun h => a (Int32.not_le.mp h))) rfl k1 k2
theorem es_ieq (hd : decode M.2.1 pc = .ok (.if_icmp .eq off, 3)) (ht : (pc : Int) + off = (tgt : Int)) (k1 : x = y → eh_Sim g M R enc cells slots tgt L st w (m1.bind K)) (k2 : ¬ x = y → eh_Sim g M R enc cells slots (pc + 3) L st w (m2.bind K)) : eh_Sim g M R enc cells slots pc L (.int y :: .int x :: st) w ((if x = y then m1 else m2).bind K) :=
  es_br2 (fun p e s m args below meth cd H locs ls Q rest hx hb a b => lv_icmp_eq hx hb hd ht a b) rfl rfl k1 k2
theorem es_ine (hd : decode M.2.1 pc = .ok (.if_icmp .ne off, 3)) (ht : (pc : Int) + off = (tgt : Int)) (k1 : x = y → eh_Sim g M R enc cells slots (pc + 3) L st w (m1.bind K)) (k2 : ¬ x = y → eh_Sim g M R enc cells slots tgt L st w (m2.bind K)) : eh_Sim g M R enc cells slots pc L (.int y :: .int x :: st) w ((if x = y then m1 else m2).bind K) :=
  es_br2 (fun p e s m args below meth cd H locs ls Q rest hx hb a b => lv_icmp_ne hx hb hd ht b a) rfl rfl k1 k2
theorem es_ilt (hd : decode M.2.1 pc = .ok (.if_icmp .lt off, 3)) (ht : (pc : Int) + off = (tgt : Int)) (k1 : x < y → eh_Sim g M R enc cells slots tgt L st w (m1.bind K)) (k2 : ¬ x < y → eh_Sim g M R enc cells slots (pc + 3) L st w (m2.bind K)) : eh_Sim g M R enc cells slots pc L (.int y :: .int x :: st) w ((if x < y then m1 else m2).bind K) :=
  es_br2 (fun p e s m args below meth cd H locs ls Q rest hx hb a b => lv_icmp_lt hx hb hd ht a b) rfl rfl k1 k2
theorem es_ige (hd : decode M.2.1 pc = .ok (.if_icmp .ge off, 3)) (ht : (pc : Int) + off = (tgt : Int)) (k1 : x < y → eh_Sim g M R enc cells slots (pc + 3) L st w (m1.bind K)) (k2 : ¬ x < y → eh_Sim g M R enc cells slots tgt L st w (m2.bind K)) : eh_Sim g M R enc cells slots pc L (.int y :: .int x :: st) w ((if x < y then m1 else m2).bind K) :=
  es_br2 (fun p e s m args below meth cd H locs ls Q rest hx hb a b => lv_icmp_ge hx hb hd ht (fun h => b (Int32.not_lt.mpr h)) (fun h => a (Int32.not_le.mp h))) rfl rfl k1 k2
theorem es_igt (hd : decode M.2.1 pc = .ok (.if_icmp .gt off, 3)) (ht : (pc : Int) + off = (tgt : Int)) (k1 : y < x → eh_Sim g M R enc cells slots tgt L st w (m1.bind K)) (k2 : ¬ y < x → eh_Sim g M R enc cells slots (pc + 3) L st w (m2.bind K)) : eh_Sim g M R enc cells slots pc L (.int y :: .int x :: st) w ((if y < x then m1 else m2).bind K) :=
  es_br2 (fun p e s m args below meth cd H locs ls Q rest hx hb a b => lv_icmp_gt hx hb hd ht a b) rfl rfl k1 k2
theorem es_ile (hd : decode M.2.1 pc = .ok (.if_icmp .le off, 3)) (ht : (pc : Int) + off = (tgt : Int)) (k1 : y < x → eh_Sim g M R enc cells slots (pc + 3) L st w (m1.bind K)) (k2 : ¬ y < x → eh_Sim g M R enc cells slots tgt L st w (m2.bind K)) : eh_Sim g M R enc cells slots pc L (.int y :: .int x :: st) w ((if y < x then m1 else m2).bind K) :=
  es_br2 (fun p e s m args below meth cd H locs ls Q rest hx hb a b => lv_icmp_le hx hb hd ht (fun h => b (Int32.not_lt.mpr h)) (fun h => a (Int32.not_le.mp h))) rfl rfl k1 k2
/-! divisions: the divisor is looked at -/
theorem es_idiv (hd : decode M.2.1 pc = .ok (.idiv, 1)) (hy : ¬ y = 0) {mm : Option α} (k : eh_Sim g M R enc cells slots (pc + 1) L (.int (x / y) :: st) w mm) : eh_Sim g M R enc cells slots pc L (.int y :: .int x :: st) w mm :=
  fun a ha p e s m args below meth c H locs ls Q C S V Kr => lv_idiv C.1 C.2.1 hd hy (k a ha p e s m args below meth c H locs ls Q C S V Kr)
theorem es_irem (hd : decode M.2.1 pc = .ok (.irem, 1)) (hy : ¬ y = 0) {mm : Option α} (k : eh_Sim g M R enc cells slots (pc + 1) L (.int (eh_rem x y) :: st) w mm) : eh_Sim g M R enc cells slots pc L (.int y :: .int x :: st) w mm :=
  fun a ha p e s m args below meth c H locs ls Q C S V Kr => lv_irem C.1 C.2.1 hd hy (k a ha p e s m args below meth c H locs ls Q C S V Kr)
theorem es_ldiv {x y : Int64} (hd : decode M.2.1 pc = .ok (.ldiv, 1)) (hy : ¬ y = 0) {mm : Option α} (k : eh_Sim g M R enc cells slots (pc + 1) L (.long (x / y) :: st) w mm) : eh_Sim g M R enc cells slots pc L (.long y :: .long x :: st) w mm :=
  fun a ha p e s m args below meth c H locs ls Q C S V Kr => lv_ldiv C.1 C.2.1 hd hy (k a ha p e s m args below meth c H locs ls Q C S V Kr)
theorem es_lrem {x y : Int64} (hd : decode M.2.1 pc = .ok (.lrem, 1)) (hy : ¬ y = 0) {mm : Option α} (k : eh_Sim g M R enc cells slots (pc + 1) L (.long (eh_lrem x y) :: st) w mm) : eh_Sim g M R enc cells slots pc L (.long y :: .long x :: st) w mm :=
  fun a ha p e s m args below meth c H locs ls Q C S V Kr => lv_lrem C.1 C.2.1 hd hy (k a ha p e s m args below meth c H locs ls Q C S V Kr)
/-! constants of the pool -/
theorem es_ldc {v : Int32} {idx : Nat} (hl : Cond.constant M.1 idx v ∈ eh_tb) (hd : decode M.2.1 pc = .ok (.ldc idx, 2)) {mm : Option α} (k : eh_Sim g M R enc cells slots (pc + 2) L (.int v :: st) w mm) : eh_Sim g M R enc cells slots pc L st w mm :=
  fun a ha p e s m args below meth c H locs ls Q C S V Kr => lv_ldc C.1 C.2.1 C.2.2.2.1 (C.2.2.2.2.1 _ hl) hd (k a ha p e s m args below meth c H locs ls Q C S V Kr)
theorem es_ldcw {v : Int32} {idx : Nat} (hl : Cond.constant M.1 idx v ∈ eh_tb) (hd : decode M.2.1 pc = .ok (.ldc_w idx, 3)) {mm : Option α} (k : eh_Sim g M R enc cells slots (pc + 3) L (.int v :: st) w mm) : eh_Sim g M R enc cells slots pc L st w mm :=
  fun a ha p e s m args below meth c H locs ls Q C S V Kr => lv_ldcw C.1 C.2.1 C.2.2.2.1 (C.2.2.2.2.1 _ hl) hd (k a ha p e s m args below meth c H locs ls Q C S V Kr)
theorem es_ldc2 {v : Int64} {idx : Nat} (hl : Cond.constantLong M.1 idx v ∈ eh_tb) (hd : decode M.2.1 pc = .ok (.ldc2_w idx, 3)) {mm : Option α} (k : eh_Sim g M R enc cells slots (pc + 3) L (.long v :: st) w mm) : eh_Sim g M R enc cells slots pc L st w mm :=
  fun a ha p e s m args below meth c H locs ls Q C S V Kr => lv_ldc2 C.1 C.2.1 C.2.2.2.1 (C.2.2.2.2.1 _ hl) hd (k a ha p e s m args below meth c H locs ls Q C S V Kr)
/-! the ends -/
theorem es_ret {mm : Option α} {a0 : α} (hm : mm = some a0) (hw : (enc a0).2 = w) (hr : (enc a0).1.toList = st) (hri : eh_ri M pc (enc a0).1) (hc : cells ≤ R.cells) (hs : slots ≤ R.slots) : eh_Sim g M R enc cells slots pc L st w mm := by
  subst hm
  intro a ha p e s m args below meth c H locs ls Q C S V Kr
  cases ha
  rw [← hw] at S
  rw [← hr]
  exact W.widen hc hs (Kr H locs ls pc S hri)
/-! joins and loops -/
theorem es_J {β' γ : Type} {X : β' → Prop} {P : γ → Prop} {F : β'} {b : β' → γ} (hF : X F) (hb : ∀ j, X j → P (b j)) : P (b F) := hb F hF
end EhCtrl
def eh_J {β γ : Type} (F : β) (b : β → γ) : γ := b F
def eh_loop {σ β : Type} (body : (σ → Option β) → σ → Option β) : Nat → σ → Option β
  | 0, _ => none
  | n + 1, s => body (eh_loop body n) s
def eh_FU : Nat := 1099511627776
theorem es_loop {g : eh_P} {M : eh_M} {R : Room} {cells slots pc : Nat} {α β σ : Type} {enc : α → Option Value × eh_W} {K : β → Option α} {body : (σ → Option β) → σ → Option β} {Lf : σ → eh_LL} {sf : σ → List Value} {wf : σ → eh_W} {ok : σ → Prop}
    (hs : ∀ rec : σ → Option β, (∀ s, ok s → eh_Sim g M R enc cells slots pc (Lf s) (sf s) (wf s) ((rec s).bind K)) → ∀ s, ok s → eh_Sim g M R enc cells slots pc (Lf s) (sf s) (wf s) ((body rec s).bind K)) : ∀ (n : Nat) (s : σ), ok s → eh_Sim g M R enc cells slots pc (Lf s) (sf s) (wf s) ((eh_loop body n s).bind K)
  | 0, s, _ => es_none
  | n + 1, s, h => hs (eh_loop body n) (fun s' h' => es_loop hs n s' h') s h
