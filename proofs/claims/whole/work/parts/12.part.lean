/-! the world while House's constructor sets it up: 123 cells; by renaming -/
def eh_SG : List eh_Sh := eh_SH.take 123
def eg_PP (_ : Nat → Nat) (k j : Nat) : Nat := eh_Ps 123 [(0, 0), (0, 1), (0, 2)] k j
def eh_FV (s : eh_F) : eh_W := (s.1, s.2.1, eg_PP s.2.2, eh_SG)
theorem eh_FV_BW (s : eh_F) : eh_FV s = eh_BW s.1 s.2.1 123 [(0, 0), (0, 1), (0, 2)] := rfl
theorem eg_sh_lt {k : Nat} {sh : eh_Sh} (h : eh_SG[k]? = some sh) : k < 123 := by
  have h1 := (List.getElem?_eq_some_iff.mp h).1
  have h2 : eh_SG.length = 123 := by decide +kernel
  omega
theorem eg_sh_SB {k : Nat} {sh : eh_Sh} (h : eh_SG[k]? = some sh) : k < eh_SB := Nat.lt_trans (eg_sh_lt h) (by decide)
theorem eg_sh_NU {k : Nat} {sh : eh_Sh} (h : eh_SG[k]? = some sh) : k < eh_NU := Nat.lt_trans (eg_sh_lt h) (by decide)
theorem eg_H0sh {p : Nat} (h : eh_okH p = true) : eh_SG[p]? = some (4, 0) := eh_mem (P := fun p => eh_SG[p]? = some (4, 0)) h (by decide)
theorem eg_H1sh {p : Nat} (h : eh_okH p = true) : eh_SG[p + 1]? = some (100, 32) := eh_mem (P := fun p => eh_SG[p + 1]? = some (100, 32)) h (by decide)
theorem eg_F0sh {p : Nat} (h : eh_okF p = true) : eh_SG[p]? = some (2, 0) := eh_mem (P := fun p => eh_SG[p]? = some (2, 0)) h (by decide)
theorem eg_E0sh {p : Nat} (h : eh_okE p = true) : eh_SG[p]? = some (1, 0) := eh_mem (P := fun p => eh_SG[p]? = some (1, 0)) h (by decide)
theorem eg_S0sh {p : Nat} (h : eh_okS p = true) : eh_SG[p]? = some (9, 0) := eh_mem (P := fun p => eh_SG[p]? = some (9, 0)) h (by decide)
theorem eg_S1sh {p : Nat} (h : eh_okS p = true) : eh_SG[p + 1]? = some (100, 8) := eh_mem (P := fun p => eh_SG[p + 1]? = some (100, 8)) h (by decide)
theorem eg_S2sh {p : Nat} (h : eh_okS p = true) : eh_SG[p + 2]? = some (100, 64) := eh_mem (P := fun p => eh_SG[p + 2]? = some (100, 64)) h (by decide)
theorem eg_S3sh {p : Nat} (h : eh_okS p = true) : eh_SG[p + 3]? = some (100, 8) := eh_mem (P := fun p => eh_SG[p + 3]? = some (100, 8)) h (by decide)
theorem eg_R0sh {p : Nat} (h : eh_okR p = true) : eh_SG[p]? = some (8, 0) := eh_mem (P := fun p => eh_SG[p]? = some (8, 0)) h (by decide)
theorem eg_Hx {p : Nat} (h : eh_okH p = true) (q : Nat → Nat) : eg_PP q p 1 = p + 1 := eh_mem (P := fun p => eh_Ps 123 [(0, 0), (0, 1), (0, 2)] p 1 = p + 1) h (by decide)
theorem eg_Sx {p : Nat} (h : eh_okS p = true) (q : Nat → Nat) : eg_PP q p 0 = p + 1 ∧ eg_PP q p 1 = p + 2 ∧ eg_PP q p 2 = p + 3 := eh_mem (P := fun p => eh_Ps 123 [(0, 0), (0, 1), (0, 2)] p 0 = p + 1 ∧ eh_Ps 123 [(0, 0), (0, 1), (0, 2)] p 1 = p + 2 ∧ eh_Ps 123 [(0, 0), (0, 1), (0, 2)] p 2 = p + 3) h (by decide)
def eg_eV : eh_F → Option Value × eh_W := fun q => (none, eh_FV q)
def eg_pI (s : eh_F) : Int32 → Option Value × eh_W := fun q => (some (.int q), eh_FV s)
section EhPart
variable {g : eh_P} {M Mj : eh_M} {R : Room} {cells slots pc : Nat} {L : eh_LL} {st stk As : List Value} {s : eh_F} {α β γ : Type} {enc : α → Option Value × eh_W} {mm : Option α} {m1 m2 : Option β} {K : β → Option α} {y : MethodName} {n d idx : Nat}
theorem eg_getI {k ci z idx j : Nat} (hk : eh_SG[k]? = some (ci, z)) (hF : eh_FL M.1 idx ci j) (hf : eh_ft ci j ≠ 3) (hd : decode M.2.1 pc = .ok (.getfield idx, 3)) (kk : eh_Sim g M R enc cells slots (pc + 3) L (.int (s.1 k j) :: st) (eh_FV s) mm) : eh_Sim g M R enc cells slots pc L (.ref k :: st) (eh_FV s) mm :=
  fun a ha => er_getI (w := eh_FV s) hk hF hf (eg_sh_SB hk) hd (kk a ha)
theorem eg_getP {k ci z idx j q : Nat} {sh : eh_Sh} (hk : eh_SG[k]? = some (ci, z)) (hF : eh_FL M.1 idx ci j) (hf : eh_ft ci j = 3) (hq : eg_PP s.2.2 k j = q) (hsh : eh_SG[q]? = some sh) (hd : decode M.2.1 pc = .ok (.getfield idx, 3)) (kk : eh_Sim g M R enc cells slots (pc + 3) L (.ref q :: st) (eh_FV s) mm) : eh_Sim g M R enc cells slots pc L (.ref k :: st) (eh_FV s) mm :=
  fun a ha => er_getP (w := eh_FV s) hk hF hf hq (eg_sh_NU hsh) (eg_sh_SB hk) hd (kk a ha)
theorem eg_putI {k ci z idx j : Nat} {v : Int32} (hk : eh_SG[k]? = some (ci, z)) (hF : eh_FL M.1 idx ci j) (hfin : eh_fin ci j = false) (hf : eh_ft ci j = 0) (hd : decode M.2.1 pc = .ok (.putfield idx, 3)) (kk : eh_Sim g M R enc cells slots (pc + 3) L st (eh_FV (eh_tI s k j v)) mm) : eh_Sim g M R enc cells slots pc L (.int v :: .ref k :: st) (eh_FV s) mm :=
  fun a ha => er_putI (w := eh_FV s) hk hF (Or.inl hfin) (Or.inl hf) (eg_sh_SB hk) hd (kk a ha)
theorem eg_putZc {k ci z idx j : Nat} {v : Int32} (hk : eh_SG[k]? = some (ci, z)) (hF : eh_FL M.1 idx ci j) (hfin : eh_fin ci j = false) (hf : eh_ft ci j = 1) (hv : v = 0 ∨ v = 1) (hd : decode M.2.1 pc = .ok (.putfield idx, 3)) (kk : eh_Sim g M R enc cells slots (pc + 3) L st (eh_FV (eh_tI s k j v)) mm) : eh_Sim g M R enc cells slots pc L (.int v :: .ref k :: st) (eh_FV s) mm :=
  fun a ha => er_putI (w := eh_FV s) hk hF (Or.inl hfin) (Or.inr ⟨hf, hv⟩) (eg_sh_SB hk) hd (kk a ha)
theorem eg_ald {k t n : Nat} {i : Int32} {ins : Instr} (hk : eh_SG[k]? = some (t, n)) (ht : (t = 100 ∧ ins = .iaload) ∨ ((t = 101 ∨ t = 102) ∧ ins = .baload)) (hd : decode M.2.1 pc = .ok (ins, 1)) (kk : eh_in i n = true → eh_Sim g M R enc cells slots (pc + 1) L (.int (s.1 k (eh_ix i)) :: st) (eh_FV s) (m1.bind K)) : eh_Sim g M R enc cells slots pc L (.int i :: .ref k :: st) (eh_FV s) ((if eh_in i n then m1 else none).bind K) := by
  by_cases h : eh_in i n = true
  · rw [if_pos h]
    exact fun a ha => er_aldI (w := eh_FV s) hk ht (eh_in_vp h) (eg_sh_SB hk) hd (kk h a ha)
  · rw [if_neg h]; exact es_none
theorem eg_aldc {k t n j : Nat} {i : Int32} {ins : Instr} (hk : eh_SG[k]? = some (t, n)) (ht : (t = 100 ∧ ins = .iaload) ∨ ((t = 101 ∨ t = 102) ∧ ins = .baload)) (hin : eh_in i n = true) (hj : i.toNatClampNeg = j) (hd : decode M.2.1 pc = .ok (ins, 1)) (kk : eh_Sim g M R enc cells slots (pc + 1) L (.int (s.1 k j) :: st) (eh_FV s) mm) : eh_Sim g M R enc cells slots pc L (.int i :: .ref k :: st) (eh_FV s) mm := by
  subst hj
  exact fun a ha => er_aldI (w := eh_FV s) hk ht (eh_in_vp hin) (eg_sh_SB hk) hd (kk a ha)
theorem eg_ast {k n : Nat} {i x : Int32} (hk : eh_SG[k]? = some (100, n)) (hd : decode M.2.1 pc = .ok (.iastore, 1)) (kk : eh_in i n = true → eh_Sim g M R enc cells slots (pc + 1) L st (eh_FV (eh_tI s k (eh_ix i) x)) (m1.bind K)) : eh_Sim g M R enc cells slots pc L (.int x :: .int i :: .ref k :: st) (eh_FV s) ((if eh_in i n then m1 else none).bind K) := by
  by_cases h : eh_in i n = true
  · rw [if_pos h]
    exact fun a ha => er_astI (w := eh_FV s) hk (Or.inl ⟨rfl, rfl⟩) (eh_in_vp h) (eg_sh_SB hk) hd (kk h a ha)
  · rw [if_neg h]; exact es_none
theorem eg_astc {k n j : Nat} {i x : Int32} (hk : eh_SG[k]? = some (100, n)) (hin : eh_in i n = true) (hj : i.toNatClampNeg = j) (hd : decode M.2.1 pc = .ok (.iastore, 1)) (kk : eh_Sim g M R enc cells slots (pc + 1) L st (eh_FV (eh_tI s k j x)) mm) : eh_Sim g M R enc cells slots pc L (.int x :: .int i :: .ref k :: st) (eh_FV s) mm := by
  subst hj
  exact fun a ha => er_astI (w := eh_FV s) hk (Or.inl ⟨rfl, rfl⟩) (eh_in_vp hin) (eg_sh_SB hk) hd (kk a ha)
theorem eg_alen {k t n : Nat} (hk : eh_SG[k]? = some (t, n)) (ht : 100 ≤ t) (hd : decode M.2.1 pc = .ok (.arraylength, 1)) (kk : eh_Sim g M R enc cells slots (pc + 1) L (.int (Int32.ofNat n) :: st) (eh_FV s) mm) : eh_Sim g M R enc cells slots pc L (.ref k :: st) (eh_FV s) mm :=
  fun a ha => er_alen (w := eh_FV s) hk ht (eg_sh_SB hk) hd (kk a ha)
theorem eg_copyI {k0 k1 n0 n1 idx : Nat} {sp dp n : Int32} (hk0 : eh_SG[k0]? = some (100, n0)) (hk1 : eh_SG[k1]? = some (100, n1))
    (hl : eh_LK M.1 idx arraycopyName) (hnat : Cond.native arraycopyName ∈ eh_tb) (hstat : Cond.static arraycopyName ∈ eh_tb) (hini : Cond.initialized "java/lang/System" ∈ eh_tb) (hR : 1 ≤ R.frames ∧ 40 ≤ R.locals) (hW : (st.map fun v => v.category).sum ≤ 8) (hd : decode M.2.1 pc = .ok (.invokestatic idx, 3))
    (kk : eh_cok sp dp n n0 n1 = true → eh_Sim g M R enc cells slots (pc + 3) L st (eh_FV (eh_tF s k1 (va_cpy (s.1 k0) (s.1 k1) (eh_ix sp) (eh_ix dp) (eh_ix n)))) (m1.bind K)) : eh_Sim g M R enc cells slots pc L (.int n :: .int dp :: .ref k1 :: .int sp :: .ref k0 :: st) (eh_FV s) ((if eh_cok sp dp n n0 n1 then m1 else none).bind K) := by
  by_cases h : eh_cok sp dp n n0 n1 = true
  · rw [if_pos h]
    exact fun a ha => er_copyI (w := eh_FV s) hk0 hk1 (eg_sh_SB hk0) (eg_sh_SB hk1) h hl hnat hstat hini hR hW hd (kk h a ha)
  · rw [if_neg h]; exact es_none
theorem eg_copyT {i k1 n1 idx : Nat} {sp dp n : Int32} (hi : i < 4) (hk1 : eh_SG[k1]? = some (100, n1))
    (hl : eh_LK M.1 idx arraycopyName) (hnat : Cond.native arraycopyName ∈ eh_tb) (hstat : Cond.static arraycopyName ∈ eh_tb) (hini : Cond.initialized "java/lang/System" ∈ eh_tb) (hR : 1 ≤ R.frames ∧ 40 ≤ R.locals) (hW : (st.map fun v => v.category).sum ≤ 8) (hd : decode M.2.1 pc = .ok (.invokestatic idx, 3))
    (kk : eh_cok sp dp n (eh_tn i) n1 = true → eh_Sim g M R enc cells slots (pc + 3) L st (eh_FV (eh_tF s k1 (va_cpy (eh_tt i) (s.1 k1) (eh_ix sp) (eh_ix dp) (eh_ix n)))) (m1.bind K)) : eh_Sim g M R enc cells slots pc L (.int n :: .int dp :: .ref k1 :: .int sp :: .ref (eh_SB + i) :: st) (eh_FV s) ((if eh_cok sp dp n (eh_tn i) n1 then m1 else none).bind K) := by
  by_cases h : eh_cok sp dp n (eh_tn i) n1 = true
  · rw [if_pos h]
    exact fun a ha => er_copyT (w := eh_FV s) hi hk1 (eg_sh_SB hk1) h hl hnat hstat hini hR hW hd (kk h a ha)
  · rw [if_neg h]; exact es_none
theorem eg_harts {i : Int32} (hd : decode M.2.1 pc = .ok (.aaload, 1)) (kk : eh_okH (eh_hp i) = true → eh_Sim g M R enc cells slots (pc + 1) L (.ref (eh_hp i) :: st) (eh_FV s) (m1.bind K)) : eh_Sim g M R enc cells slots pc L (.int i :: .ref 26 :: st) (eh_FV s) ((if eh_in i 2 then m1 else none).bind K) := by
  by_cases h : eh_in i 2 = true
  · rw [if_pos h]
    refine fun a ha => er_aldP (w := eh_FV s) (k := 26) (t := 104) (n := 2) (show eh_SG[26]? = some (104, 2) by decide) (Or.inl rfl) (eh_in_vp h) ?_ (eg_sh_NU (eg_H0sh (eh_hp_ok h))) (by decide) hd (kk (eh_hp_ok h) a ha)
    show eg_PP s.2.2 26 i.toNatClampNeg = eh_hp i
    have h1 := eh_in_lt h
    unfold eh_hp eg_PP
    generalize i.toNatClampNeg = n at h1
    revert n
    decide
  · rw [if_neg h]; exact es_none
theorem eg_fibres {i : Int32} (hd : decode M.2.1 pc = .ok (.aaload, 1)) (kk : eh_okF (eh_fp i) = true → eh_Sim g M R enc cells slots (pc + 1) L (.ref (eh_fp i) :: st) (eh_FV s) (m1.bind K)) : eh_Sim g M R enc cells slots pc L (.int i :: .ref 27 :: st) (eh_FV s) ((if eh_in i 12 then m1 else none).bind K) := by
  by_cases h : eh_in i 12 = true
  · rw [if_pos h]
    refine fun a ha => er_aldP (w := eh_FV s) (k := 27) (t := 105) (n := 12) (show eh_SG[27]? = some (105, 12) by decide) (Or.inr (Or.inl rfl)) (eh_in_vp h) ?_ (eg_sh_NU (eg_F0sh (eh_fp_ok h))) (by decide) hd (kk (eh_fp_ok h) a ha)
    show eg_PP s.2.2 27 i.toNatClampNeg = eh_fp i
    have h1 := eh_in_lt h
    unfold eh_fp eg_PP
    generalize i.toNatClampNeg = n at h1
    revert n
    decide
  · rw [if_neg h]; exact es_none
theorem eg_encs {i : Int32} (hd : decode M.2.1 pc = .ok (.aaload, 1)) (kk : eh_okE (eh_ep i) = true → eh_Sim g M R enc cells slots (pc + 1) L (.ref (eh_ep i) :: st) (eh_FV s) (m1.bind K)) : eh_Sim g M R enc cells slots pc L (.int i :: .ref 28 :: st) (eh_FV s) ((if eh_in i 6 then m1 else none).bind K) := by
  by_cases h : eh_in i 6 = true
  · rw [if_pos h]
    refine fun a ha => er_aldP (w := eh_FV s) (k := 28) (t := 106) (n := 6) (show eh_SG[28]? = some (106, 6) by decide) (Or.inr (Or.inr rfl)) (eh_in_vp h) ?_ (eg_sh_NU (eg_E0sh (eh_ep_ok h))) (by decide) hd (kk (eh_ep_ok h) a ha)
    show eg_PP s.2.2 28 i.toNatClampNeg = eh_ep i
    have h1 := eh_in_lt h
    unfold eh_ep eg_PP
    generalize i.toNatClampNeg = n at h1
    revert n
    decide
  · rw [if_neg h]; exact es_none
variable {F : β → Option γ} {K2 : γ → Option α}
theorem eg_veV {k ci z : Nat} {mj : Option eh_F} {F : eh_F → Option γ} (hM : eh_MV y Mj n ci) (hl : eh_LK M.1 idx y) (hS : eh_Sim g Mj (eh_R d 0 0) eg_eV 0 0 0 (eh_en Mj.2.2.1 (.ref k :: As)) [] (eh_FV s) mj) (hk : eh_SG[k]? = some (ci, z)) (hn : As.length = n) (hlen : (eh_al (.ref k :: As)).length ≤ Mj.2.2.1) (hstk : stk = As.reverse ++ .ref k :: st) (hW : (st.map fun v => v.category).sum ≤ 8) (hR : d + 1 ≤ R.frames ∧ 40 * (d + 1) ≤ R.locals) (hf : cells ≤ R.cells ∧ slots ≤ R.slots) (hd : decode M.2.1 pc = .ok (.invokevirtual idx, 3))
    (kk : ∀ v, mj = some v → eh_Sim g M R enc cells slots (pc + 3) L st (eh_FV v) ((F v).bind K2)) : eh_Sim g M R enc cells slots pc L stk (eh_FV s) ((mj.bind F).bind K2) :=
  es_callV (mc := 0) (ms := 0) hS hM.1 hM.2.1 hl hk hM.2.2.1 hM.2.2.2 (eg_sh_SB hk) hn hlen hstk hW hR hf hd kk
theorem eg_seV {mj : Option eh_F} {F : eh_F → Option γ} (hM : eh_MS y Mj n) (hl : eh_LK M.1 idx y) (hS : eh_Sim g Mj (eh_R d 0 0) eg_eV 0 0 0 (eh_en Mj.2.2.1 As) [] (eh_FV s) mj) (hn : As.length = n) (hlen : (eh_al As).length ≤ Mj.2.2.1) (hstk : stk = As.reverse ++ st) (hW : (st.map fun v => v.category).sum ≤ 8) (hR : d + 1 ≤ R.frames ∧ 40 * (d + 1) ≤ R.locals) (hf : cells ≤ R.cells ∧ slots ≤ R.slots) (hd : decode M.2.1 pc = .ok (.invokestatic idx, 3))
    (kk : ∀ v, mj = some v → eh_Sim g M R enc cells slots (pc + 3) L st (eh_FV v) ((F v).bind K2)) : eh_Sim g M R enc cells slots pc L stk (eh_FV s) ((mj.bind F).bind K2) :=
  es_callS (mc := 0) (ms := 0) hS hM.1 hM.2 hl hn hlen hstk hW hR hf hd kk
theorem eg_spI {mj : Option Int32} {F : Int32 → Option γ} (hM : eh_MS y Mj n) (hl : eh_LK M.1 idx y) (hS : eh_Sim g Mj (eh_R d 0 0) (eg_pI s) 0 0 0 (eh_en Mj.2.2.1 As) [] (eh_FV s) mj) (hn : As.length = n) (hlen : (eh_al As).length ≤ Mj.2.2.1) (hstk : stk = As.reverse ++ st) (hW : (st.map fun v => v.category).sum ≤ 8) (hR : d + 1 ≤ R.frames ∧ 40 * (d + 1) ≤ R.locals) (hf : cells ≤ R.cells ∧ slots ≤ R.slots) (hd : decode M.2.1 pc = .ok (.invokestatic idx, 3))
    (kk : ∀ v, mj = some v → eh_Sim g M R enc cells slots (pc + 3) L (.int v :: st) (eh_FV s) ((F v).bind K2)) : eh_Sim g M R enc cells slots pc L stk (eh_FV s) ((mj.bind F).bind K2) :=
  es_callS (mc := 0) (ms := 0) hS hM.1 hM.2 hl hn hlen hstk hW hR hf hd kk
end EhPart
