/-! worlds: cells by their order of making; the base -/
def eh_tb : List Cond := lw_tbl.filter goodWord
theorem eh_tb_in {c : Cond} (i : Nat) (h : lw_tbl[i]? = some c) (hg : goodWord c = true) : c ∈ eh_tb := List.mem_filter.mpr ⟨List.mem_of_getElem? h, hg⟩
theorem eh_tb_good {w : Cond} (h : w ∈ eh_tb) : goodWord w = true := (List.mem_filter.mp h).2
theorem eh_tb_lw {w : Cond} (h : w ∈ eh_tb) : w ∈ lw_tbl := (List.mem_filter.mp h).1
def eh_ushr (x y : Int32) : Int32 := (x.toUInt32 >>> (y.toUInt32 &&& Int32.toUInt32 31)).toInt32
def eh_shl (x y : Int32) : Int32 := x <<< (y &&& 31)
def eh_shr (x y : Int32) : Int32 := x >>> (y &&& 31)
def eh_rem (x y : Int32) : Int32 := x - x / y * y
def eh_lushr (x : Int64) (y : Int32) : Int64 := (x.toUInt64 >>> (y.toInt64.toUInt64 &&& Int64.toUInt64 63)).toInt64
def eh_lshl (x : Int64) (y : Int32) : Int64 := x <<< (y.toInt64 &&& 63)
def eh_lshr (x : Int64) (y : Int32) : Int64 := x >>> (y.toInt64 &&& 63)
def eh_lrem (x y : Int64) : Int64 := x - x / y * y
abbrev eh_Sh : Type := Nat × Nat
/-- ints, longs, references by cell and place; the cells' shapes -/
abbrev eh_W : Type := (Nat → Nat → Int32) × (Nat → Nat → Int64) × (Nat → Nat → Nat) × List eh_Sh
def eh_NU : Nat := 90000
def eh_SB : Nat := 100000
/-- launch, first cell, addresses of the static tables and of the script, the script, its length, array classes, the classes' layout -/
abbrev eh_P : Type := Launch × Nat × (Nat → Nat) × (Nat → Int32) × Nat × (Nat → ClassId) × va_G
abbrev eh_l (g : eh_P) : Launch := g.1
abbrev eh_b (g : eh_P) : Nat := g.2.1
abbrev eh_s (g : eh_P) : Nat → Nat := g.2.2.1
abbrev eh_x (g : eh_P) : Nat → Int32 := g.2.2.2.1
abbrev eh_n (g : eh_P) : Nat := g.2.2.2.2.1
abbrev eh_c (g : eh_P) : Nat → ClassId := g.2.2.2.2.2.1
abbrev eh_D (g : eh_P) : va_G := g.2.2.2.2.2.2
def eh_cv (g : eh_P) : Value → Value
  | .ref p => .ref (if p < eh_SB then eh_b g + p else eh_s g (p - eh_SB))
  | v => v
def eh_rv (g : eh_P) (p : Nat) : Value := if p = eh_NU then .null else .ref (eh_b g + p)
def eh_fv (g : eh_P) (w : eh_W) (c k j : Nat) : Value := if eh_ft c j = 3 then eh_rv g (w.2.2.1 k j) else .int (w.1 k j)
def eh_av (g : eh_P) (w : eh_W) (t k j : Nat) : Value := if t = 103 then .long (w.2.1 k j) else if t < 104 then .int (w.1 k j) else eh_rv g (w.2.2.1 k j)
def eh_at (g : eh_P) (w : eh_W) (H : Heap) (k : Nat) (sh : eh_Sh) : Prop :=
  (sh.1 < 100 → ∃ r : vw_C, eh_cl[sh.1]? = some r ∧ t_OB (eh_b g + k) ((eh_D g).1 sh.1) r.2.2 ((eh_D g).2 sh.1) H (eh_fv g w sh.1 k)) ∧
  (100 ≤ sh.1 → H[eh_b g + k]? = some (arrV (eh_c g sh.1) sh.2 (eh_av g w sh.1 k)))
def eh_G (g : eh_P) (w : eh_W) (H : Heap) : Prop := H.size = eh_b g + w.2.2.2.length ∧ ∀ (k : Nat) (sh : eh_Sh), w.2.2.2[k]? = some sh → eh_at g w H k sh
def eh_ty (t : Nat) : FieldType := match t with
  | 100 => .int
  | 101 => .byte
  | 102 => .boolean
  | 103 => .long
  | 104 => .object "EnclaveHouse$Hart"
  | 105 => .object "EnclaveHouse$Fibre"
  | _ => .object "EnclaveHouse$Enclave"
def eh_K (g : eh_P) (U : State) : Prop := (∀ (c : Nat) (q : vw_C), eh_cl[c]? = some q → u_Kn U q.1 q.2.1 q.2.2 ((eh_D g).1 c) ((eh_D g).2 c)) ∧ ∀ t : Nat, ArrOfT U (eh_c g t) (eh_ty t) ∧ va_RA U (eh_c g t) (eh_ty t)
theorem eh_K.moved {g : eh_P} {u U : State} (hvm : u.vm.Alike U.vm) (h : eh_K g u) : eh_K g U := ⟨fun c q hq => u_Kn_moved hvm (h.1 c q hq), fun t => ⟨arrOfT_moved hvm (h.2 t).1, (h.2 t).2.moved hvm⟩⟩
def eh_H0 : List Int32 := [0x6a09e667, 0xbb67ae85, 0x3c6ef372, 0xa54ff53a, 0x510e527f, 0x9b05688c, 0x1f83d9ab, 0x5be0cd19]
def eh_RW : List Int32 := [0x428a2f98, 0x71374491, 0xb5c0fbcf, 0xe9b5dba5, 0x3956c25b, 0x59f111f1, 0x923f82a4, 0xab1c5ed5,
  0xd807aa98, 0x12835b01, 0x243185be, 0x550c7dc3, 0x72be5d74, 0x80deb1fe, 0x9bdc06a7, 0xc19bf174,
  0xe49b69c1, 0xefbe4786, 0x0fc19dc6, 0x240ca1cc, 0x2de92c6f, 0x4a7484aa, 0x5cb0a9dc, 0x76f988da,
  0x983e5152, 0xa831c66d, 0xb00327c8, 0xbf597fc7, 0xc6e00bf3, 0xd5a79147, 0x06ca6351, 0x14292967,
  0x27b70a85, 0x2e1b2138, 0x4d2c6dfc, 0x53380d13, 0x650a7354, 0x766a0abb, 0x81c2c92e, 0x92722c85,
  0xa2bfe8a1, 0xa81a664b, 0xc24b8b70, 0xc76c51a3, 0xd192e819, 0xd6990624, 0xf40e3585, 0x106aa070,
  0x19a4c116, 0x1e376c08, 0x2748774c, 0x34b0bcb5, 0x391c0cb3, 0x4ed8aa4a, 0x5b9cca4f, 0x682e6ff3,
  0x748f82ee, 0x78a5636f, 0x84c87814, 0x8cc70208, 0x90befffa, 0xa4506ceb, 0xbef9a3f7, 0xc67178f2]
/-- the static tables: 0, 2 the first state, 1, 3 the round words -/
def eh_tt (i j : Nat) : Int32 := if i = 0 ∨ i = 2 then eh_H0.getD j 0 else eh_RW.getD j 0
def eh_tn (i : Nat) : Nat := if i = 0 ∨ i = 2 then 8 else 64
def eh_sc (i : Nat) : String := if i < 2 then "EnclaveHouse$Sha" else "EnclaveHouseModel"
def eh_sn (i : Nat) : String := if i = 0 then "FIRST_STATE" else if i = 1 then "ROUND_WORDS" else if i = 2 then "FIRST" else "ROUNDS"
def eh_A (g : eh_P) : Nat → Prop := fun q => eh_b g ≤ q
def eh_Z (g : eh_P) (U : State) (H : Heap) : Prop := (∀ i : Nat, i < 4 → va_Z (eh_sc i) (eh_sn i) "[I" (.ref (eh_s g i)) (eh_A g) U H ∧ va_T .int (eh_s g i) (eh_tn i) (fun j => .int (eh_tt i j)) (eh_A g) U H) ∧ va_T .int (eh_s g 4) (eh_n g) (fun j => .int (eh_x g j)) (eh_A g) U H
theorem eh_Z.moved {g : eh_P} {u U : State} {H : Heap} (hvm : u.vm.Alike U.vm) (h : eh_Z g u H) : eh_Z g U H := ⟨fun i hi => ⟨(h.1 i hi).1.moved hvm, (h.1 i hi).2.moved hvm⟩, h.2.moved hvm⟩
theorem eh_Z.kept {g : eh_P} {U : State} {H H1 : Heap} (h : eh_Z g U H) (hq : ∀ a : Nat, a < H.size → ¬ eh_A g a → H1[a]? = H[a]?) : eh_Z g U H1 := ⟨fun i hi => ⟨(h.1 i hi).1.kept hq, (h.1 i hi).2.kept hq⟩, h.2.kept hq⟩
/-- calls of nest mates -/
def eh_isN : Cond → Bool
  | .methodLinkNest .. => true
  | _ => false
def eh_N (U : State) : Prop := (∀ w ∈ lw_tbl, eh_isN w = true → va_Nw w U) ∧ ∀ t : Nat, va_AO (match t with | 104 => "EnclaveHouse$Hart" | 105 => "EnclaveHouse$Fibre" | _ => "EnclaveHouse$Enclave") U
theorem eh_N.warm {s U : State} (hW : s.WarmedH U.vm) (h : eh_N s) : eh_N U := ⟨fun w hw hn => (by
  have h1 := h.1 _ hw hn
  cases w <;> (first | exact va_Nw.warmM hW h1 | cases hn)), fun t => (h.2 t).moved hW.alike⟩
theorem eh_N.same {u U : State} (hv : u.vm = U.vm) (h : eh_N u) : eh_N U := ⟨fun w hw hn => (by
  have h1 := h.1 _ hw hn
  cases w <;> (first | exact va_Nw.same rfl hv h1 | cases hn)), fun t => (h.2 t).moved (by rw [hv]; exact Vm.Alike.refl _)⟩
/-- a method: its class, bytes, locals, answer, whether it is a constructor -/
abbrev eh_M : Type := String × ByteArray × Nat × Option FieldType × Bool
def eh_Cx (g : eh_P) (M : eh_M) (p : Program) (s : State) (m : MethodId) (args : Array Value) (meth : Method) (c : Code) : Prop :=
  p.tables.exec = Jvm.exec ∧ c.code = M.2.1 ∧ c.maxLocals = M.2.2.1 ∧ s.vm.findClass M.1 = some m.cls ∧ (∀ w ∈ eh_tb, w.before args s = true) ∧ meth.locks = false ∧ meth.sig.returnType = M.2.2.2.1 ∧ (M.2.2.2.2 = true → meth.name = "<init>") ∧ eh_K g s ∧ eh_Z g s s.heap ∧ eh_b g ≤ s.heap.size ∧ eh_N s
def eh_St (g : eh_P) (s : State) (H : Heap) (locs : List Loc) (w : eh_W) : Prop := eh_G g w H ∧ va_S (eh_A g) s.heap H locs
abbrev eh_LL : Type := List (Option Value)
def eh_Lv (g : eh_P) (ls : Array Slot) (n : Nat) (L : eh_LL) : Prop := ls.size = n ∧ lv_wf ls ∧ L.length = n ∧ ∀ (i : Nat) (v : Value), L[i]? = some (some v) → ls[i]? = some (.val (eh_cv g v))
def eh_ri (M : eh_M) (pc : Nat) (r : Option Value) : Prop := match r with
  | none => decode M.2.1 pc = .ok (.return_, 1) ∧ M.2.2.2.1 = none
  | some (.int v) => decode M.2.1 pc = .ok (.ireturn, 1) ∧ ∃ ty, M.2.2.2.1 = some ty ∧ narrow ty (.int v) = .int v
  | some (.long _) => decode M.2.1 pc = .ok (.lreturn, 1) ∧ M.2.2.2.1 = some .long
  | _ => False
def eh_Run (g : eh_P) (M : eh_M) (R : Room) (cells slots pc : Nat) (L : eh_LL) (st : List Value) (w : eh_W) (r : Option Value) (w' : eh_W) : Prop :=
  ∀ (p : Program) (e : Env) (s : State) (m : MethodId) (args : Array Value) (below : List Frame) (meth : Method) (c : Code) (H : Heap) (locs : List Loc) (ls : Array Slot) (Q : State → Prop),
    eh_Cx g M p s m args meth c → eh_St g s H locs w → eh_Lv g ls M.2.2.1 L →
    (∀ (H' : Heap) (locs' : List Loc) (ls' : Array Slot) (pc' : Nat), eh_St g s H' locs' w' → eh_ri M pc' r → W p (eh_l g) e R s m args below meth c H' locs' R.cells R.slots Q (F0 m pc' ls' (r.toList.map (eh_cv g)))) →
    W p (eh_l g) e R s m args below meth c H locs cells slots Q (F0 m pc ls (st.map (eh_cv g)))
def eh_Sim (g : eh_P) (M : eh_M) (R : Room) {α : Type} (enc : α → Option Value × eh_W) (cells slots pc : Nat) (L : eh_LL) (st : List Value) (w : eh_W) (m : Option α) : Prop :=
  ∀ a, m = some a → eh_Run g M R cells slots pc L st w (enc a).1 (enc a).2
/-! locals -/
def eh_pr (g : eh_P) (L : eh_LL) : List (Nat × Value) := L.zipIdx.filterMap (fun q => q.1.map (fun v => (q.2, eh_cv g v)))
theorem eh_pr_mem {g : eh_P} {L : eh_LL} {i : Nat} {u : Value} : (i, u) ∈ eh_pr g L ↔ ∃ v, L[i]? = some (some v) ∧ u = eh_cv g v := by
  unfold eh_pr
  rw [List.mem_filterMap]
  constructor
  · rintro ⟨⟨o, j⟩, h1, h2⟩
    have h3 := (List.mem_zipIdx_iff_getElem? (x := (o, j))).mp h1
    cases o with
    | none => simp at h2
    | some v =>
      simp only [Option.map_some, Option.some.injEq, Prod.mk.injEq] at h2
      obtain ⟨rfl, rfl⟩ := h2
      exact ⟨v, h3, rfl⟩
  · rintro ⟨v, h1, rfl⟩
    exact ⟨(some v, i), (List.mem_zipIdx_iff_getElem? (x := (some v, i))).mpr h1, rfl⟩
theorem eh_Lv.has {g : eh_P} {ls : Array Slot} {n : Nat} {L : eh_LL} (h : eh_Lv g ls n L) : lv_has ls n (eh_pr g L) :=
  ⟨h.1, h.2.1, fun q hq => by
    obtain ⟨i, u⟩ := q
    obtain ⟨v, h1, rfl⟩ := eh_pr_mem.mp hq
    exact h.2.2.2 i v h1⟩
def eh_clr (L : eh_LL) (i : Nat) : eh_LL := match i with
  | 0 => L
  | j + 1 => match L[j]? with
    | some (some (.long _)) => L.set j none
    | some (some (.double _)) => L.set j none
    | _ => L
def eh_s1 (L : eh_LL) (i : Nat) (v : Value) : eh_LL := (eh_clr L i).set i (some v)
def eh_s2 (L : eh_LL) (i : Nat) (v : Value) : eh_LL := ((eh_clr L i).set i (some v)).set (i + 1) none
theorem eh_clr_len (L : eh_LL) (i : Nat) : (eh_clr L i).length = L.length := by
  unfold eh_clr
  split
  · rfl
  · split <;> simp
theorem eh_cv_cat (g : eh_P) (v : Value) : (eh_cv g v).category = v.category := by cases v <;> rfl
theorem eh_clr_at {L : eh_LL} {i j : Nat} {v : Value} (h : (eh_clr L i)[j]? = some (some v)) : L[j]? = some (some v) ∧ ¬ (j + 1 = i ∧ v.category = 2) := by
  unfold eh_clr at h
  split at h
  · exact ⟨h, fun q => by omega⟩
  · rename_i j0
    split at h
    · rename_i hx
      by_cases e : j = j0
      · subst e
        rw [List.getElem?_set_self (List.getElem?_eq_some_iff.mp hx).1] at h
        cases h
      · rw [List.getElem?_set_ne (Ne.symm e)] at h
        exact ⟨h, fun q => by omega⟩
    · rename_i hx
      by_cases e : j = j0
      · subst e
        rw [List.getElem?_set_self (List.getElem?_eq_some_iff.mp hx).1] at h
        cases h
      · rw [List.getElem?_set_ne (Ne.symm e)] at h
        exact ⟨h, fun q => by omega⟩
    · rename_i h1 h2
      refine ⟨h, fun q => ?_⟩
      obtain ⟨q1, q2⟩ := q
      have e : j = j0 := by omega
      subst e
      cases v <;> simp [Value.category] at q2
      · exact h1 _ h
      · exact h2 _ h
theorem eh_Lv.st1 {g : eh_P} {ls' : Array Slot} {n i : Nat} {L : eh_LL} {v : Value} (hi : i < n) (hn : L.length = n) (h : lv_has ls' n ((i, eh_cv g v) :: (eh_pr g L).filter (fun q => !(q.1 == i) && !(q.1 + 1 == i && q.2.category == 2)))) : eh_Lv g ls' n (eh_s1 L i v) := by
  refine ⟨h.1, h.2.1, by unfold eh_s1; rw [List.length_set, eh_clr_len, hn], fun j u hj => ?_⟩
  unfold eh_s1 at hj
  by_cases e : j = i
  · subst e
    rw [List.getElem?_set_self (by rw [eh_clr_len, hn]; exact hi)] at hj
    cases hj
    exact h.2.2 (j, eh_cv g v) List.mem_cons_self
  · rw [List.getElem?_set_ne (Ne.symm e)] at hj
    obtain ⟨h1, h2⟩ := eh_clr_at hj
    refine h.2.2 (j, eh_cv g u) (List.mem_cons_of_mem _ (List.mem_filter.mpr ⟨eh_pr_mem.mpr ⟨u, h1, rfl⟩, ?_⟩))
    rw [eh_cv_cat]
    simp only [Bool.and_eq_true, Bool.not_eq_true', beq_eq_false_iff_ne, ne_eq, Bool.and_eq_false_imp, beq_iff_eq]
    exact ⟨e, fun a b => h2 ⟨a, b⟩⟩
theorem eh_Lv.st2 {g : eh_P} {ls' : Array Slot} {n i : Nat} {L : eh_LL} {v : Value} (hi : i + 1 < n) (hn : L.length = n) (h : lv_has ls' n ((i, eh_cv g v) :: (eh_pr g L).filter (fun q => !(q.1 == i) && (!(q.1 == i + 1) && !(q.1 + 1 == i && q.2.category == 2))))) : eh_Lv g ls' n (eh_s2 L i v) := by
  refine ⟨h.1, h.2.1, by unfold eh_s2; rw [List.length_set, List.length_set, eh_clr_len, hn], fun j u hj => ?_⟩
  unfold eh_s2 at hj
  by_cases e1 : j = i + 1
  · subst e1
    rw [List.getElem?_set_self (by rw [List.length_set, eh_clr_len, hn]; exact hi)] at hj
    cases hj
  · rw [List.getElem?_set_ne (Ne.symm e1)] at hj
    by_cases e : j = i
    · subst e
      rw [List.getElem?_set_self (by rw [eh_clr_len, hn]; omega)] at hj
      cases hj
      exact h.2.2 (j, eh_cv g v) List.mem_cons_self
    · rw [List.getElem?_set_ne (Ne.symm e)] at hj
      obtain ⟨h1, h2⟩ := eh_clr_at hj
      refine h.2.2 (j, eh_cv g u) (List.mem_cons_of_mem _ (List.mem_filter.mpr ⟨eh_pr_mem.mpr ⟨u, h1, rfl⟩, ?_⟩))
      rw [eh_cv_cat]
      simp only [Bool.and_eq_true, Bool.not_eq_true', beq_eq_false_iff_ne, ne_eq, Bool.and_eq_false_imp, beq_iff_eq]
      exact ⟨e, e1, fun a b => h2 ⟨a, b⟩⟩
