/-! instructions that touch the stack and the locals alone -/
def eh_x1 (i : Instr) (c : Int32) (L : eh_LL) (st : List Value) : Option (eh_LL × List Value) := match i with
  | .iconst _ => some (L, .int c :: st)
  | .bipush _ => some (L, .int c :: st)
  | .sipush _ => some (L, .int c :: st)
  | .lconst n => some (L, .long (Int64.ofNat n.val) :: st)
  | .iload_n k => match L[k.val]? with
    | some (some (.int x)) => some (L, .int x :: st)
    | _ => none
  | .iload k => match L[k]? with
    | some (some (.int x)) => some (L, .int x :: st)
    | _ => none
  | .lload_n k => match L[k.val]? with
    | some (some (.long x)) => some (L, .long x :: st)
    | _ => none
  | .lload k => match L[k]? with
    | some (some (.long x)) => some (L, .long x :: st)
    | _ => none
  | .aload_n k => match L[k.val]? with
    | some (some (.ref x)) => some (L, .ref x :: st)
    | _ => none
  | .aload k => match L[k]? with
    | some (some (.ref x)) => some (L, .ref x :: st)
    | _ => none
  | .istore_n k => match st with
    | .int x :: st => if k.val < L.length then some (eh_s1 L k.val (.int x), st) else none
    | _ => none
  | .istore k => match st with
    | .int x :: st => if k < L.length then some (eh_s1 L k (.int x), st) else none
    | _ => none
  | .lstore_n k => match st with
    | .long x :: st => if k.val + 1 < L.length then some (eh_s2 L k.val (.long x), st) else none
    | _ => none
  | .lstore k => match st with
    | .long x :: st => if k + 1 < L.length then some (eh_s2 L k (.long x), st) else none
    | _ => none
  | .astore_n k => match st with
    | .ref x :: st => if k.val < L.length then some (eh_s1 L k.val (.ref x), st) else none
    | _ => none
  | .astore k => match st with
    | .ref x :: st => if k < L.length then some (eh_s1 L k (.ref x), st) else none
    | _ => none
  | .iinc k _ => match L[k]? with
    | some (some (.int x)) => some (eh_s1 L k (.int (x + c)), st)
    | _ => none
  | .iadd => match st with
    | .int y :: .int x :: st => some (L, .int (x + y) :: st)
    | _ => none
  | .isub => match st with
    | .int y :: .int x :: st => some (L, .int (x - y) :: st)
    | _ => none
  | .imul => match st with
    | .int y :: .int x :: st => some (L, .int (x * y) :: st)
    | _ => none
  | .iand => match st with
    | .int y :: .int x :: st => some (L, .int (x &&& y) :: st)
    | _ => none
  | .ior => match st with
    | .int y :: .int x :: st => some (L, .int (x ||| y) :: st)
    | _ => none
  | .ixor => match st with
    | .int y :: .int x :: st => some (L, .int (x ^^^ y) :: st)
    | _ => none
  | .ineg => match st with
    | .int x :: st => some (L, .int (-x) :: st)
    | _ => none
  | .ishl => match st with
    | .int y :: .int x :: st => some (L, .int (eh_shl x y) :: st)
    | _ => none
  | .ishr => match st with
    | .int y :: .int x :: st => some (L, .int (eh_shr x y) :: st)
    | _ => none
  | .iushr => match st with
    | .int y :: .int x :: st => some (L, .int (eh_ushr x y) :: st)
    | _ => none
  | .ladd => match st with
    | .long y :: .long x :: st => some (L, .long (x + y) :: st)
    | _ => none
  | .lsub => match st with
    | .long y :: .long x :: st => some (L, .long (x - y) :: st)
    | _ => none
  | .lmul => match st with
    | .long y :: .long x :: st => some (L, .long (x * y) :: st)
    | _ => none
  | .land => match st with
    | .long y :: .long x :: st => some (L, .long (x &&& y) :: st)
    | _ => none
  | .lor => match st with
    | .long y :: .long x :: st => some (L, .long (x ||| y) :: st)
    | _ => none
  | .lshl => match st with
    | .int y :: .long x :: st => some (L, .long (eh_lshl x y) :: st)
    | _ => none
  | .lshr => match st with
    | .int y :: .long x :: st => some (L, .long (eh_lshr x y) :: st)
    | _ => none
  | .lushr => match st with
    | .int y :: .long x :: st => some (L, .long (eh_lushr x y) :: st)
    | _ => none
  | .lcmp => match st with
    | .long y :: .long x :: st => some (L, .int (lg_cmp x y) :: st)
    | _ => none
  | .i2l => match st with
    | .int x :: st => some (L, .long x.toInt64 :: st)
    | _ => none
  | .l2i => match st with
    | .long x :: st => some (L, .int x.toInt32 :: st)
    | _ => none
  | .i2b => match st with
    | .int x :: st => some (L, .int x.toInt8.toInt32 :: st)
    | _ => none
  | .i2s => match st with
    | .int x :: st => some (L, .int x.toInt16.toInt32 :: st)
    | _ => none
  | .dup => match st with
    | .int x :: st => some (L, .int x :: .int x :: st)
    | .ref x :: st => some (L, .ref x :: .ref x :: st)
    | _ => none
  | .dup2 => match st with
    | .int y :: .ref x :: st => some (L, .int y :: .ref x :: .int y :: .ref x :: st)
    | _ => none
  | .pop => match st with
    | .int _ :: st => some (L, st)
    | .ref _ :: st => some (L, st)
    | _ => none
  | _ => none
/-- how many bytes: those of the plain forms -/
def eh_sz : Instr → Nat
  | .bipush _ => 2
  | .iload _ | .lload _ | .aload _ | .istore _ | .lstore _ | .astore _ => 2
  | .sipush _ | .iinc .. => 3
  | _ => 1
/-- the constants that the bytes hold -/
def eh_cst (i : Instr) (c : Int32) : Bool := match i with
  | .iconst n => decide (Int32.ofInt n = c)
  | .bipush n => decide ((Int8.ofInt n).toInt32 = c)
  | .sipush n => decide ((Int16.ofInt n).toInt32 = c)
  | .iinc _ n => decide (Int32.ofInt n = c)
  | _ => true
section EhPure
variable {g : eh_P} {M : eh_M} {R : Room} {cells slots pc : Nat} {L L' : eh_LL} {st st' : List Value} {w : eh_W} {r : Option Value} {w' : eh_W}
set_option maxHeartbeats 4000000 in
theorem eh_one {i : Instr} {cn : Int32} (hcn : eh_cst i cn = true) (hx1 : eh_x1 i cn L st = some (L', st')) (hd : decode M.2.1 pc = .ok (i, eh_sz i)) (k : eh_Run g M R cells slots (pc + eh_sz i) L' st' w r w') : eh_Run g M R cells slots pc L st w r w' := by
  intro p e s m args below meth c H locs ls Q C S V K
  have kk := fun ls V => k p e s m args below meth c H locs ls Q C S V K
  obtain ⟨hx, hb, -⟩ := C
  have hn := V.2.2.1
  have hl := V.2.2.2
  have hh := V.has
  unfold eh_x1 at hx1
  split at hx1 <;> (try (split at hx1)) <;> (try (split at hx1)) <;> (try (cases hx1; done)) <;> (simp only [Option.some.injEq, Prod.mk.injEq] at hx1) <;> (obtain ⟨rfl, rfl⟩ := hx1)
  · exact lv_iconst hx hb hd (of_decide_eq_true hcn) (kk ls V)
  · exact lv_bipush hx hb hd (of_decide_eq_true hcn) (kk ls V)
  · exact lv_sipush hx hb hd (of_decide_eq_true hcn) (kk ls V)
  · exact lv_lconst hx hb hd rfl (kk ls V)
  · rename_i hq; exact lv_iload_n hx hb hd rfl (hl _ _ hq) (kk ls V)
  · rename_i hq; exact lv_iload hx hb hd (hl _ _ hq) (kk ls V)
  · rename_i hq; exact lv_lload_n hx hb hd rfl (hl _ _ hq) (kk ls V)
  · rename_i hq; exact lv_lload hx hb hd (hl _ _ hq) (kk ls V)
  · rename_i hq; exact lv_aload_n hx hb hd rfl (hl _ _ hq) (kk ls V)
  · rename_i hq; exact lv_aload hx hb hd (hl _ _ hq) (kk ls V)
  · rename_i hq; exact lv_istore_n hx hb hd rfl hh (by rw [← hn]; exact hq) rfl (fun ls' V' => kk ls' (eh_Lv.st1 (by rw [← hn]; exact hq) hn V'))
  · rename_i hq; exact lv_istore hx hb hd hh (by rw [← hn]; exact hq) rfl (fun ls' V' => kk ls' (eh_Lv.st1 (by rw [← hn]; exact hq) hn V'))
  · rename_i hq; exact lv_lstore_n hx hb hd rfl hh (by rw [← hn]; exact hq) rfl (fun ls' V' => kk ls' (eh_Lv.st2 (by rw [← hn]; exact hq) hn V'))
  · rename_i hq; exact lv_lstore hx hb hd hh (by rw [← hn]; exact hq) rfl (fun ls' V' => kk ls' (eh_Lv.st2 (by rw [← hn]; exact hq) hn V'))
  · rename_i hq; exact lv_astore_n hx hb hd rfl hh (by rw [← hn]; exact hq) rfl (fun ls' V' => kk ls' (eh_Lv.st1 (v := .ref _) (by rw [← hn]; exact hq) hn V'))
  · rename_i hq; exact lv_astore hx hb hd hh (by rw [← hn]; exact hq) rfl (fun ls' V' => kk ls' (eh_Lv.st1 (v := .ref _) (by rw [← hn]; exact hq) hn V'))
  · rename_i hq
    have hi := (List.getElem?_eq_some_iff.mp hq).1
    obtain ⟨j, hj⟩ := List.getElem?_of_mem (eh_pr_mem (g := g).mpr ⟨_, hq, rfl⟩)
    exact lv_iinc hx hb hd hh hj (by rw [show Int32.ofInt _ = cn from of_decide_eq_true hcn]) (by rw [← hn]; exact hi) rfl (fun ls' V' => kk ls' (eh_Lv.st1 (by rw [← hn]; exact hi) hn V'))
  · exact lv_iadd hx hb hd (kk ls V)
  · exact lv_isub hx hb hd (kk ls V)
  · exact lv_imul hx hb hd (kk ls V)
  · exact lv_iand hx hb hd (kk ls V)
  · exact lv_ior hx hb hd (kk ls V)
  · exact lv_ixor hx hb hd (kk ls V)
  · exact lv_ineg hx hb hd (kk ls V)
  · exact lv_ishl hx hb hd (kk ls V)
  · exact lv_ishr hx hb hd (kk ls V)
  · exact lv_iushr hx hb hd rfl (kk ls V)
  · exact lv_ladd hx hb hd (kk ls V)
  · exact lv_lsub hx hb hd (kk ls V)
  · exact lv_lmul hx hb hd (kk ls V)
  · exact lv_land hx hb hd (kk ls V)
  · exact lv_lor hx hb hd (kk ls V)
  · exact lv_lshl hx hb hd rfl (kk ls V)
  · exact lv_lshr hx hb hd rfl (kk ls V)
  · exact lv_lushr hx hb hd rfl (kk ls V)
  · exact W.lcmp hx hb hd (kk ls V)
  · exact lv_i2l hx hb hd rfl (kk ls V)
  · exact lv_l2i hx hb hd rfl (kk ls V)
  · exact lv_i2b hx hb hd rfl (kk ls V)
  · exact lv_i2s hx hb hd rfl (kk ls V)
  · exact lv_dup hx hb hd rfl (kk ls V)
  · exact lv_dup hx hb hd rfl (kk ls V)
  · exact lv_dup2_11 hx hb hd rfl rfl (kk ls V)
  · exact lv_pop hx hb hd rfl (kk ls V)
  · exact lv_pop hx hb hd rfl (kk ls V)
/-- a block of them, each with its constant -/
def eh_xs : List (Instr × Int32) → eh_LL → List Value → Option (eh_LL × List Value)
  | [], L, st => some (L, st)
  | i :: r, L, st => match eh_x1 i.1 i.2 L st with
    | some q => eh_xs r q.1 q.2
    | none => none
def eh_ck (cc : ByteArray) : Nat → List (Instr × Int32) → Bool
  | _, [] => true
  | pc, i :: r => decide (decode cc pc = .ok (i.1, eh_sz i.1)) && (eh_cst i.1 i.2 && eh_ck cc (pc + eh_sz i.1) r)
def eh_ln : List (Instr × Int32) → Nat → Nat
  | [], pc => pc
  | i :: r, pc => eh_ln r (pc + eh_sz i.1)
theorem eh_blk : ∀ (is : List (Instr × Int32)) (pc : Nat) (L : eh_LL) (st : List Value), eh_ck M.2.1 pc is = true → eh_xs is L st = some (L', st') → eh_Run g M R cells slots (eh_ln is pc) L' st' w r w' → eh_Run g M R cells slots pc L st w r w'
  | [], pc, L, st, _, h, k => by
    simp only [eh_xs, Option.some.injEq, Prod.mk.injEq] at h
    obtain ⟨rfl, rfl⟩ := h
    exact k
  | i :: rest, pc, L, st, hc, h, k => by
    simp only [eh_ck, Bool.and_eq_true, decide_eq_true_eq] at hc
    simp only [eh_xs] at h
    split at h
    · rename_i q hq
      exact eh_one (L' := q.1) (st' := q.2) hc.2.1 hq hc.1 (eh_blk rest _ _ _ hc.2.2 h k)
    · cases h
variable {α : Type} {enc : α → Option Value × eh_W} {mm : Option α}
theorem es_blk {pc' : Nat} (is : List (Instr × Int32)) (hc : eh_ck M.2.1 pc is = true) (hp : eh_ln is pc = pc') (hx : eh_xs is L st = some (L', st')) (k : eh_Sim g M R enc cells slots pc' L' st' w mm) : eh_Sim g M R enc cells slots pc L st w mm := fun a ha => by
  subst hp
  exact eh_blk is pc L st hc hx (k a ha)
end EhPure
