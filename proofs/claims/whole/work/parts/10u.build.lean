/-! making cells -/
def eh_nW (w : eh_W) (sh : eh_Sh) : eh_W := (fun a => if a = w.2.2.2.length then fun _ => 0 else w.1 a, fun a => if a = w.2.2.2.length then fun _ => 0 else w.2.1 a, fun a => if a = w.2.2.2.length then fun _ => eh_NU else w.2.2.1 a, w.2.2.2 ++ [sh])
theorem eh_G.grow {g : eh_P} {w : eh_W} {H H' : Heap} {sh : eh_Sh} (h : eh_G g w H) (hz : H'.size = H.size + 1) (oq : ∀ q, q < H.size → H'[q]? = H[q]?) (hat : eh_at g (eh_nW w sh) H' w.2.2.2.length sh) : eh_G g (eh_nW w sh) H' := by
  refine ⟨by rw [hz, h.1]; show _ = _ + (w.2.2.2 ++ [sh]).length; rw [List.length_append]; simp; omega, fun a s2 ha => ?_⟩
  have ha' : (w.2.2.2 ++ [sh])[a]? = some s2 := ha
  by_cases hl : a < w.2.2.2.length
  · rw [List.getElem?_append_left hl] at ha'
    have hne : a ≠ w.2.2.2.length := Nat.ne_of_lt hl
    exact (h.2 a s2 ha').congr (if_neg hne) (if_neg hne) (if_neg hne) (oq _ (by rw [h.1]; omega))
  · rw [List.getElem?_append_right (by omega)] at ha'
    have hz1 : a - w.2.2.2.length < 1 := (List.getElem?_eq_some_iff.mp ha').1
    have he : a = w.2.2.2.length := by omega
    subst he
    rw [Nat.sub_self] at ha'
    cases ha'
    exact hat
theorem eh_ft_no9 : ∀ ci, ci < 13 → ∀ j, j < 110 → eh_ft ci j ≠ 9 := by decide +kernel
section EhMake
variable {g : eh_P} {M : eh_M} {R : Room} {cells slots pc : Nat} {L : eh_LL} {st : List Value} {w : eh_W} {r : Option Value} {w' : eh_W}
theorem va_S.grow {A : Nat → Prop} {H0 H H1 : Heap} {locs : List Loc} (h : va_S A H0 H locs) (hz : H1.size = H.size + 1) (oq : ∀ q, q < H.size → H1[q]? = H[q]?) : va_S A H0 H1 locs :=
  ⟨by rw [hz]; exact Nat.le_succ_of_le h.1, fun q h1 h2 => (oq q (Nat.lt_of_lt_of_le h1 h.1)).trans (h.2.1 q h1 h2), h.2.2⟩
theorem er_new {ci idx N : Nat} {C : String} {T : u_T} (hc : eh_cl[ci]? = some (C, T, N)) (hci : ci < 100) (hcl : Cond.classLink M.1 idx C ∈ eh_tb) (hins : Cond.instantiable C N ∈ eh_tb) (hini : Cond.initialized C ∈ eh_tb) (hsb : w.2.2.2.length < eh_SB) (hf : cells + 1 ≤ R.cells ∧ slots + N ≤ R.slots) (hd : decode M.2.1 pc = .ok (.new idx, 3)) (kk : eh_Run g M R (cells + 1) (slots + N) (pc + 3) L (.ref w.2.2.2.length :: st) (eh_nW w (ci, 0)) r w') : eh_Run g M R cells slots pc L st w r w' := by
  intro p e s m args below meth c H locs ls Q C0 S V K
  have k1 := kk p e s m args below meth c
  have hK := C0.2.2.2.2.2.2.2.2.1
  have hts := C0.2.2.2.2.1
  have hKn := hK.1 ci _ hc
  refine W.newcK C0.1 C0.2.1 C0.2.2.2.1 (hts _ hcl) (hts _ hins) (hts _ hini) rfl hd hf.1 hf.2 hKn.2.1 (h := eh_b g + w.2.2.2.length) S.1.1 fun H' kC hkC e1 z1 o1 => ?_
  have hz : H'.size = H.size + 1 := by rw [z1, S.1.1]
  have ho : ∀ q, q < H.size → H'[q]? = H[q]? := fun q hq => o1 q (by rw [← S.1.1]; exact hq)
  have k2 := k1 H' locs ls Q C0 ⟨S.1.grow hz ho ⟨fun _ => ⟨_, hc, ?_⟩, fun h => absurd h (Nat.not_le.mpr hci)⟩, S.2.grow hz ho⟩ V K
  · rw [List.map_cons, show eh_cv g (.ref w.2.2.2.length) = .ref (eh_b g + w.2.2.2.length) by simp only [eh_cv]; rw [if_pos hsb]] at k2
    exact k2
  · refine (u_born (eh_yt ci) hts (eh_cf_in hc) hKn hkC e1 (eh_cf_ty hc)).to (fun j hj => ?_)
    have hlt := eh_cl_lt hc
    have hfk := eh_fk_ok ci hlt.1 j (Nat.lt_trans hj hlt.2)
    have h9 := eh_ft_no9 ci hlt.1 j (Nat.lt_trans hj hlt.2)
    show defaultValue (eh_yt ci j) = if eh_ft ci j = 3 then eh_rv g ((eh_nW w (ci, 0)).2.2.1 w.2.2.2.length j) else Value.int ((eh_nW w (ci, 0)).1 w.2.2.2.length j)
    have e2 : (eh_nW w (ci, 0)).2.2.1 w.2.2.2.length j = eh_NU := by simp [eh_nW]
    have e3 : (eh_nW w (ci, 0)).1 w.2.2.2.length j = 0 := by simp [eh_nW]
    rw [e2, e3]
    cases hy : eh_yt ci j <;> rw [hy] at hfk <;> simp only [eh_fk] at hfk <;> (first | (exact absurd hfk.symm h9) | (rw [if_neg (by omega)]; rfl) | (rw [if_pos hfk.symm]; simp [eh_rv]; rfl))
theorem er_newa {t idx : Nat} {n : Int32} {N : Nat} {at_ : ArrayType} (ht : (t = 100 ∧ at_ = .int) ∨ (t = 101 ∧ at_ = .byte) ∨ (t = 102 ∧ at_ = .boolean) ∨ (t = 103 ∧ at_ = .long)) (hac : Cond.arrayClass (eh_ty t) ∈ eh_tb) (hn : ¬ n < 0) (hN : n.toNatClampNeg = N) (hNs : N ≤ 131072) (hsb : w.2.2.2.length < eh_SB) (hf : cells + 1 ≤ R.cells ∧ slots + N ≤ R.slots) (hd : decode M.2.1 pc = .ok (.newarray at_, 2)) (kk : eh_Run g M R (cells + 1) (slots + N) (pc + 2) L (.ref w.2.2.2.length :: st) (eh_nW w (t, N)) r w') : eh_Run g M R cells slots pc L (.int n :: st) w r w' := by
  intro p e s m args below meth c H locs ls Q C0 S V K
  have k1 := kk p e s m args below meth c
  have hK := C0.2.2.2.2.2.2.2.2.1
  have hts := C0.2.2.2.2.1
  have ety : newarray.typeOf at_ = eh_ty t := by rcases ht with ⟨rfl, rfl⟩ | ⟨rfl, rfl⟩ | ⟨rfl, rfl⟩ | ⟨rfl, rfl⟩ <;> rfl
  have hcb : N * componentBytes (newarray.typeOf at_) ≤ 536870912 := by
    rcases ht with ⟨rfl, rfl⟩ | ⟨rfl, rfl⟩ | ⟨rfl, rfl⟩ | ⟨rfl, rfl⟩ <;> simp [newarray.typeOf, componentBytes] <;> omega
  refine va_newaK C0.1 C0.2.1 (by rw [ety]; exact hts _ hac) rfl hd rfl hn hN hcb hf.1 hf.2 (h := eh_b g + w.2.2.2.length) S.1.1 fun H' cA e1 z1 o1 _ hNm => ?_
  have hz : H'.size = H.size + 1 := by rw [z1, S.1.1]
  have ho : ∀ q, q < H.size → H'[q]? = H[q]? := fun q hq => o1 q (by rw [← S.1.1]; exact hq)
  have hcA : cA = eh_c g t := by
    have h2 := (hK.2 t).2
    rw [ety] at hNm
    rcases ht with ⟨rfl, -⟩ | ⟨rfl, -⟩ | ⟨rfl, -⟩ | ⟨rfl, -⟩ <;> exact Option.some.inj (hNm.symm.trans h2)
  have h100 : 100 ≤ t := by rcases ht with ⟨h, -⟩ | ⟨h, -⟩ | ⟨h, -⟩ | ⟨h, -⟩ <;> omega
  have k2 := k1 H' locs ls Q C0 ⟨S.1.grow hz ho ⟨fun h => absurd h (Nat.not_lt.mpr h100), fun _ => ?_⟩, S.2.grow hz ho⟩ V K
  · rw [List.map_cons, show eh_cv g (.ref w.2.2.2.length) = .ref (eh_b g + w.2.2.2.length) by simp only [eh_cv]; rw [if_pos hsb]] at k2
    exact k2
  · rw [e1, hcA]
    congr 2
    funext j
    rcases ht with ⟨rfl, rfl⟩ | ⟨rfl, rfl⟩ | ⟨rfl, rfl⟩ | ⟨rfl, rfl⟩ <;> simp [eh_av, eh_nW, newarray.typeOf, defaultValue]
theorem er_anew {t idx : Nat} {n : Int32} {N : Nat} {C : String} (ht : (t = 104 ∧ C = "EnclaveHouse$Hart") ∨ (t = 105 ∧ C = "EnclaveHouse$Fibre") ∨ (t = 106 ∧ C = "EnclaveHouse$Enclave")) (hcl : Cond.classLink M.1 idx C ∈ eh_tb) (hn : ¬ n < 0) (hN : n.toNatClampNeg = N) (hNs : N ≤ 131072) (hsb : w.2.2.2.length < eh_SB) (hf : cells + 1 ≤ R.cells ∧ slots + N ≤ R.slots) (hd : decode M.2.1 pc = .ok (.anewarray idx, 3)) (kk : eh_Run g M R (cells + 1) (slots + N) (pc + 3) L (.ref w.2.2.2.length :: st) (eh_nW w (t, N)) r w') : eh_Run g M R cells slots pc L (.int n :: st) w r w' := by
  intro p e s m args below meth c H locs ls Q C0 S V K
  have k1 := kk p e s m args below meth c
  have hK := C0.2.2.2.2.2.2.2.2.1
  have hts := C0.2.2.2.2.1
  have hao : va_AO C s := by
    have h := C0.2.2.2.2.2.2.2.2.2.2.2.2 t
    rcases ht with ⟨rfl, rfl⟩ | ⟨rfl, rfl⟩ | ⟨rfl, rfl⟩ <;> exact h
  subst hN
  refine W.anew C0.1 C0.2.1 C0.2.2.2.1 (hts _ hcl) (va_AO.use hao) rfl hd rfl hn (by omega) hf.1 hf.2 fun cA kA comp f1 f2 f3 f4 => ?_
  generalize hH1 : H.push ({ cls := cA, slots := Array.replicate n.toNatClampNeg .null, vm := .none } : Cell) = H1
  have z1 : H1.size = H.size + 1 := by rw [← hH1, Array.size_push]
  have e1 : H1[H.size]? = some (arrV cA n.toNatClampNeg (fun _ => .null)) := by rw [← hH1, Array.getElem?_push_size, ← arrV_new]
  have o1 : ∀ q : Nat, q < H.size → H1[q]? = H[q]? := fun q hq => by rw [← hH1, Array.getElem?_push, if_neg (Nat.ne_of_lt hq)]
  have hcA : cA = eh_c g t := by
    have h2 := (hK.2 t).2
    rcases ht with ⟨rfl, rfl⟩ | ⟨rfl, rfl⟩ | ⟨rfl, rfl⟩ <;> (obtain ⟨_, _, -, -, -, h3⟩ := h2; exact Option.some.inj (f1.symm.trans h3))
  have h100 : 100 ≤ t := by rcases ht with ⟨h, -⟩ | ⟨h, -⟩ | ⟨h, -⟩ <;> omega
  have hsz : H.size = eh_b g + w.2.2.2.length := S.1.1
  have k2 := k1 H1 locs ls Q C0 ⟨S.1.grow z1 o1 ⟨fun h => absurd h (Nat.not_lt.mpr h100), fun _ => ?_⟩, S.2.grow z1 o1⟩ V K
  · rw [List.map_cons, show eh_cv g (.ref w.2.2.2.length) = .ref (eh_b g + w.2.2.2.length) by simp only [eh_cv]; rw [if_pos hsb], ← hsz] at k2
    exact k2
  · rw [← hsz, e1, hcA]
    congr 2
    funext j
    rcases ht with ⟨rfl, rfl⟩ | ⟨rfl, rfl⟩ | ⟨rfl, rfl⟩ <;> simp [eh_av, eh_nW, eh_rv]
theorem er_aast {k t n q ci z : Nat} {i : Int32} (hk : w.2.2.2[k]? = some (t, n)) (hq : w.2.2.2[q]? = some (ci, z)) (ht : (t = 104 ∧ ci = 4) ∨ (t = 105 ∧ ci = 2) ∨ (t = 106 ∧ ci = 1)) (hin : vp_in i n) (hs : k < eh_SB) (hqn : q < eh_NU) (hd : decode M.2.1 pc = .ok (.aastore, 1)) (kk : eh_Run g M R cells slots (pc + 1) L st (eh_sP w k i.toNatClampNeg q) r w') : eh_Run g M R cells slots pc L (.ref q :: .int i :: .ref k :: st) w r w' := by
  intro p e s m args below meth c H locs ls Q C0 S V K
  have h1 : q < eh_SB := Nat.lt_trans hqn (by decide)
  have hK := C0.2.2.2.2.2.2.2.2.1
  have e0 : eh_cv g (.ref k) = .ref (eh_b g + k) := by simp only [eh_cv]; rw [if_pos hs]
  have e1 : eh_cv g (.ref q) = .ref (eh_b g + q) := by simp only [eh_cv]; rw [if_pos h1]
  simp only [List.map_cons, e0, e1]
  have hlt : i.toNatClampNeg < n := Nat.not_le.mp fun z => hin (Or.inr z)
  have h0 : ¬ i < 0 := fun z => hin (Or.inl z)
  have h100 : 100 ≤ t := by rcases ht with ⟨h, -⟩ | ⟨h, -⟩ | ⟨h, -⟩ <;> omega
  have hci : ci < 100 := by rcases ht with ⟨-, h⟩ | ⟨-, h⟩ | ⟨-, h⟩ <;> omega
  have hcell := (S.1.2 k _ hk).2 h100
  obtain ⟨r0, hr0, cellV, g1, g2, g3, -⟩ := (S.1.2 q _ hq).1 hci
  have hcls := (hK.1 ci r0 hr0).2
  have hRA : ∃ (kA : Class) (comp : ClassId), s.vm.classes[eh_c g t]? = some kA ∧ kA.kind = .array comp (eh_ty t) ∧ s.vm.findClass r0.1 = some comp ∧ (eh_ty t).isReference = true := by
    have h2 := (hK.2 t).2
    rcases ht with ⟨rfl, rfl⟩ | ⟨rfl, rfl⟩ | ⟨rfl, rfl⟩ <;> (cases hr0; obtain ⟨kA, comp, k1, k2, k3, -⟩ := h2; exact ⟨kA, comp, k1, k2, k3, rfl⟩)
  obtain ⟨kA, comp, k1, k2, k3, k4⟩ := hRA
  have hcomp : comp = (eh_D g).1 ci := Option.some.inj (k3.symm.trans hcls.1)
  subst hcomp
  have hcls0 := hcls
  obtain ⟨kC, hkC, -⟩ := hcls.2
  refine W.aast C0.1 C0.2.1 hcell (fun z h => by cases h) (fun h => by cases h) k1 k2 k4 hkC ⟨h0, by rw [arrV_size]; exact hlt⟩ g1 (fun z h => by rw [g3] at h; cases h) (by rw [g2]; exact hkC) (by rw [g2]; exact va_assign hcls0) rfl rfl hd fun H1 ee z1 oq => ?_
  refine kk p e s m args below meth c H1 _ ls Q C0 ⟨eh_G.other S.1 hk z1 oq rfl (fun _ _ => rfl) (fun _ _ => rfl) (fun a ha => if_neg ha) ⟨fun h => absurd h (Nat.not_lt.mpr h100), fun _ => ?_⟩, S.2.put z1 oq (Nat.le_add_right _ _)⟩ V K
  rw [ee, arrV_store]
  congr 2
  funext x
  have hnt : t ≠ 103 ∧ ¬ t < 104 := by rcases ht with ⟨h, -⟩ | ⟨h, -⟩ | ⟨h, -⟩ <;> omega
  unfold updV eh_av
  by_cases hx : x = i.toNatClampNeg
  · subst hx
    simp [hnt, eh_sP, eh_uN, eh_rv, Nat.ne_of_lt hqn]
  · simp [hnt, eh_sP, eh_uN, hx]
theorem er_obj {k idx : Nat} (hl : Cond.methodLink M.1 idx Lib.objectInit ∈ eh_tb) (hin : Cond.instanceMethod Lib.objectInit ∈ eh_tb) (hc : Cond.code Lib.objectInit ⟨#[0xb1]⟩ 1 none ∈ eh_tb) (hR : 1 ≤ R.frames ∧ 40 ≤ R.locals) (hW : (st.map fun v => v.category).sum ≤ 8) (hd : decode M.2.1 pc = .ok (.invokespecial idx, 3)) (hs : k < eh_SB) (kk : eh_Run g M R cells slots (pc + 3) L st w r w') : eh_Run g M R cells slots pc L (.ref k :: st) w r w' := by
  intro p e s m args below meth c H locs ls Q C0 S V K
  have hts := C0.2.2.2.2.1
  have e0 : eh_cv g (.ref k) = .ref (eh_b g + k) := by simp only [eh_cv]; rw [if_pos hs]
  rw [List.map_cons, e0]
  exact W.objInit C0.1 C0.2.1 C0.2.2.2.1 (hts _ hl) (hts _ hin) (hts _ hc) rfl (V.1.trans C0.2.2.1.symm) rfl hd hR.1 (by rw [eh_cat_sum]; show 2 * 0 + _ + 12 ≤ _; omega) (kk p e s m args below meth c H locs ls Q C0 S V K)
end EhMake
