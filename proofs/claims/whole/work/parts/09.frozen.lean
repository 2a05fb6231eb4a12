/-! the world behind the constructors: shapes and references are fixed; printed by program, its rules by hand -/
def eh_SH : List eh_Sh := [(11, 0), (5, 0), (6, 0), (100, 12), (100, 12), (100, 12), (100, 12), (100, 12), (100, 12), (100, 32768), (100, 512), (100, 2), (0, 0), (100, 2048), (102, 4), (100, 4), (100, 4), (100, 4), (8, 0), (100, 1024), (8, 0), (100, 16), (8, 0), (100, 16), (8, 0), (100, 64), (104, 2), (105, 12), (106, 6), (9, 0), (100, 8), (100, 64), (100, 8), (100, 8), (100, 8), (100, 8), (100, 32), (100, 8), (100, 8000), (100, 64), (100, 8), (4, 0), (100, 32), (4, 0), (100, 32), (2, 0), (100, 32), (2, 0), (100, 32), (2, 0), (100, 32), (2, 0), (100, 32), (2, 0), (100, 32), (2, 0), (100, 32), (2, 0), (100, 32), (2, 0), (100, 32), (2, 0), (100, 32), (2, 0), (100, 32), (2, 0), (100, 32), (2, 0), (100, 32), (1, 0), (9, 0), (100, 8), (100, 64), (100, 8), (100, 8), (100, 8), (100, 8), (100, 8), (1, 0), (9, 0), (100, 8), (100, 64), (100, 8), (100, 8), (100, 8), (100, 8), (100, 8), (1, 0), (9, 0), (100, 8), (100, 64), (100, 8), (100, 8), (100, 8), (100, 8), (100, 8), (1, 0), (9, 0), (100, 8), (100, 64), (100, 8), (100, 8), (100, 8), (100, 8), (100, 8), (1, 0), (9, 0), (100, 8), (100, 64), (100, 8), (100, 8), (100, 8), (100, 8), (100, 8), (1, 0), (9, 0), (100, 8), (100, 64), (100, 8), (100, 8), (100, 8), (100, 8), (100, 8), (10, 0), (7, 0), (3, 0), (100, 8), (12, 0), (101, 131072), (100, 448), (100, 14), (100, 2), (102, 2), (100, 2), (100, 2), (100, 2), (100, 2), (100, 2), (100, 2), (100, 2), (100, 2), (100, 2), (100, 2), (100, 2), (100, 2), (100, 2), (100, 2), (100, 2), (100, 12), (100, 12), (100, 12), (100, 12), (100, 12), (102, 12), (100, 48), (100, 6), (100, 6), (100, 6), (100, 6), (101, 192), (101, 192), (102, 6), (101, 384), (100, 6), (100, 12), (100, 12), (100, 12), (100, 12), (100, 12), (100, 12), (100, 13), (100, 13), (100, 13), (100, 8000), (101, 1024), (101, 8192), (100, 4), (100, 4), (100, 4), (100, 4), (100, 16), (100, 16), (101, 64), (101, 256), (100, 8), (101, 32), (101, 32), (101, 32), (100, 64), (101, 512), (103, 8), (100, 64), (101, 256), (101, 32), (101, 32), (101, 128)]
def eh_PFt : List (List Nat) := [[1, 123, 124], [2, 12, 26, 27, 28, 29, 33, 34, 35, 36, 90000, 90000, 90000, 37, 38, 39, 40], [3, 4, 5, 6, 7, 8, 9, 10, 11], [], [], [], [], [], [], [], [], [], [90000, 90000, 13, 14, 15, 16, 17, 90000, 90000, 90000, 18, 20, 22, 24], [], [], [], [], [], [19], [], [21], [], [23], [], [25], [], [41, 43], [45, 47, 49, 51, 53, 55, 57, 59, 61, 63, 65, 67], [69, 78, 87, 96, 105, 114], [30, 31, 32], [], [], [], [], [], [], [], [], [], [], [], [90000, 42], [], [90000, 44], [], [90000, 46], [], [90000, 48], [], [90000, 50], [], [90000, 52], [], [90000, 54], [], [90000, 56], [], [90000, 58], [], [90000, 60], [], [90000, 62], [], [90000, 64], [], [90000, 66], [], [90000, 68], [], [70, 74, 75, 76, 77], [71, 72, 73], [], [], [], [], [], [], [], [79, 83, 84, 85, 86], [80, 81, 82], [], [], [], [], [], [], [], [88, 92, 93, 94, 95], [89, 90, 91], [], [], [], [], [], [], [], [97, 101, 102, 103, 104], [98, 99, 100], [], [], [], [], [], [], [], [106, 110, 111, 112, 113], [107, 108, 109], [], [], [], [], [], [], [], [115, 119, 120, 121, 122], [116, 117, 118], [], [], [], [], [], [], [], [1, 2], [1, 2, 123, 125], [1, 2, 12, 126], [], [128, 129, 130, 131, 132, 133, 134, 135, 136, 137, 138, 139, 140, 141, 142, 143, 144, 145, 146, 147, 90000, 90000, 90000, 148, 149, 150, 151, 152, 153, 154, 155, 156, 157, 158, 159, 160, 161, 162, 163, 164, 165, 166, 167, 168, 169, 170, 171, 172, 90000, 173, 90000, 174, 90000, 175, 176, 177, 178, 179, 90000, 90000, 90000, 180, 90000, 181, 90000, 182, 90000, 90000, 183, 184, 90000, 185, 186, 187, 188, 189, 190, 191, 192, 90000, 193, 194, 195], [], [], [], [], [], [], [], [], [], [], [], [], [], [], [], [], [], [], [], [], [], [], [], [], [], [], [], [], [], [], [], [], [], [], [], [], [], [], [], [], [], [], [], [], [], [], [], [], [], [], [], [], [], [], [], [], [], [], [], [], [], [], [], [], [], [], [], []]
def eh_PF (k j : Nat) : Nat := (eh_PFt.getD k []).getD j 90000
/-- ints, longs, and the three references of the processor that move -/
abbrev eh_F : Type := (Nat → Nat → Int32) × (Nat → Nat → Int64) × (Nat → Nat)
def eh_PP (q : Nat → Nat) (k j : Nat) : Nat := if k = 124 then (if j = 4 ∨ j = 5 ∨ j = 7 then q j else eh_PF k j) else eh_PF k j
def eh_FW (s : eh_F) : eh_W := (s.1, s.2.1, eh_PP s.2.2, eh_SH)
def eh_tF (s : eh_F) (k : Nat) (f : Nat → Int32) : eh_F := (fun a => if a = k then f else s.1 a, s.2)
def eh_tI (s : eh_F) (k j : Nat) (v : Int32) : eh_F := eh_tF s k (upd (s.1 k) j v)
def eh_tJ (s : eh_F) (k j : Nat) (v : Int64) : eh_F := (s.1, fun a => if a = k then vp_updL (s.2.1 k) j v else s.2.1 a, s.2.2)
def eh_tQ (s : eh_F) (j q : Nat) : eh_F := (s.1, s.2.1, eh_uN s.2.2 j q)
abbrev eh_ix (i : Int32) : Nat := i.toNatClampNeg
def eh_in (i : Int32) (n : Nat) : Bool := decide (0 ≤ i.toInt ∧ i.toInt < (n : Int))
theorem eh_in_vp {i : Int32} {n : Nat} (h : eh_in i n = true) : vp_in i n := vp_in_iff.mpr (by simpa [eh_in] using h)
theorem eh_in_lt {i : Int32} {n : Nat} (h : eh_in i n = true) : i.toNatClampNeg < n := Nat.not_le.mp fun q => eh_in_vp h (Or.inr q)
def eh_nb (x : Int32) : Int32 := x.toInt8.toInt32
def eh_nz (x : Int32) : Int32 := vp_nar .boolean x
def eh_Hl : List Nat := [41, 43]
def eh_Fl : List Nat := [45, 47, 49, 51, 53, 55, 57, 59, 61, 63, 65, 67]
def eh_El : List Nat := [69, 78, 87, 96, 105, 114]
def eh_Sl : List Nat := [29, 70, 79, 88, 97, 106, 115]
def eh_Rl : List Nat := [18, 20, 22, 24]
def eh_Xl : List Nat := [42, 44, 46, 48, 50, 52, 54, 56, 58, 60, 62, 64, 66, 68]
def eh_okH (p : Nat) : Bool := decide (p ∈ eh_Hl)
def eh_okF (p : Nat) : Bool := decide (p ∈ eh_Fl)
def eh_okE (p : Nat) : Bool := decide (p ∈ eh_El)
def eh_okS (p : Nat) : Bool := decide (p ∈ eh_Sl)
def eh_okR (p : Nat) : Bool := decide (p ∈ eh_Rl)
def eh_okX (p : Nat) : Bool := decide (p ∈ eh_Xl)
def eh_rn (p : Nat) : Nat := if p = 18 then 1024 else if p = 24 then 64 else 16
def eh_hp (i : Int32) : Nat := 41 + 2 * i.toNatClampNeg
def eh_fp (i : Int32) : Nat := 45 + 2 * i.toNatClampNeg
def eh_ep (i : Int32) : Nat := 69 + 9 * i.toNatClampNeg
theorem eh_mem {l : List Nat} {P : Nat → Prop} {p : Nat} (hp : decide (p ∈ l) = true) (h : ∀ p ∈ l, P p) : P p := h p (of_decide_eq_true hp)
theorem eh_H0sh {p : Nat} (h : eh_okH p = true) : eh_SH[p]? = some (4, 0) := eh_mem (P := fun p => eh_SH[p]? = some (4, 0)) h (by decide)
theorem eh_H1sh {p : Nat} (h : eh_okH p = true) : eh_SH[p + 1]? = some (100, 32) := eh_mem (P := fun p => eh_SH[p + 1]? = some (100, 32)) h (by decide)
theorem eh_Hx {p : Nat} (h : eh_okH p = true) (q : Nat → Nat) : eh_PP q p 1 = p + 1 := by
  have : p ≠ 124 ∧ eh_PF p 1 = p + 1 := eh_mem (P := fun p => p ≠ 124 ∧ eh_PF p 1 = p + 1) h (by decide)
  simp [eh_PP, this]
theorem eh_F0sh {p : Nat} (h : eh_okF p = true) : eh_SH[p]? = some (2, 0) := eh_mem (P := fun p => eh_SH[p]? = some (2, 0)) h (by decide)
theorem eh_F1sh {p : Nat} (h : eh_okF p = true) : eh_SH[p + 1]? = some (100, 32) := eh_mem (P := fun p => eh_SH[p + 1]? = some (100, 32)) h (by decide)
theorem eh_Fx {p : Nat} (h : eh_okF p = true) (q : Nat → Nat) : eh_PP q p 1 = p + 1 := by
  have : p ≠ 124 ∧ eh_PF p 1 = p + 1 := eh_mem (P := fun p => p ≠ 124 ∧ eh_PF p 1 = p + 1) h (by decide)
  simp [eh_PP, this]
theorem eh_E0sh {p : Nat} (h : eh_okE p = true) : eh_SH[p]? = some (1, 0) := eh_mem (P := fun p => eh_SH[p]? = some (1, 0)) h (by decide)
theorem eh_E5sh {p : Nat} (h : eh_okE p = true) : eh_SH[p + 5]? = some (100, 8) := eh_mem (P := fun p => eh_SH[p + 5]? = some (100, 8)) h (by decide)
theorem eh_E6sh {p : Nat} (h : eh_okE p = true) : eh_SH[p + 6]? = some (100, 8) := eh_mem (P := fun p => eh_SH[p + 6]? = some (100, 8)) h (by decide)
theorem eh_E7sh {p : Nat} (h : eh_okE p = true) : eh_SH[p + 7]? = some (100, 8) := eh_mem (P := fun p => eh_SH[p + 7]? = some (100, 8)) h (by decide)
theorem eh_E8sh {p : Nat} (h : eh_okE p = true) : eh_SH[p + 8]? = some (100, 8) := eh_mem (P := fun p => eh_SH[p + 8]? = some (100, 8)) h (by decide)
theorem eh_E1S {p : Nat} (h : eh_okE p = true) : eh_okS (p + 1) = true := eh_mem (P := fun p => eh_okS (p + 1) = true) h (by decide)
theorem eh_Ex {p : Nat} (h : eh_okE p = true) (q : Nat → Nat) : eh_PP q p 0 = p + 1 ∧ eh_PP q p 1 = p + 5 ∧ eh_PP q p 2 = p + 6 ∧ eh_PP q p 3 = p + 7 ∧ eh_PP q p 4 = p + 8 := by
  have : p ≠ 124 ∧ eh_PF p 0 = p + 1 ∧ eh_PF p 1 = p + 5 ∧ eh_PF p 2 = p + 6 ∧ eh_PF p 3 = p + 7 ∧ eh_PF p 4 = p + 8 := eh_mem (P := fun p => p ≠ 124 ∧ eh_PF p 0 = p + 1 ∧ eh_PF p 1 = p + 5 ∧ eh_PF p 2 = p + 6 ∧ eh_PF p 3 = p + 7 ∧ eh_PF p 4 = p + 8) h (by decide)
  simp [eh_PP, this]
theorem eh_S0sh {p : Nat} (h : eh_okS p = true) : eh_SH[p]? = some (9, 0) := eh_mem (P := fun p => eh_SH[p]? = some (9, 0)) h (by decide)
theorem eh_S1sh {p : Nat} (h : eh_okS p = true) : eh_SH[p + 1]? = some (100, 8) := eh_mem (P := fun p => eh_SH[p + 1]? = some (100, 8)) h (by decide)
theorem eh_S2sh {p : Nat} (h : eh_okS p = true) : eh_SH[p + 2]? = some (100, 64) := eh_mem (P := fun p => eh_SH[p + 2]? = some (100, 64)) h (by decide)
theorem eh_S3sh {p : Nat} (h : eh_okS p = true) : eh_SH[p + 3]? = some (100, 8) := eh_mem (P := fun p => eh_SH[p + 3]? = some (100, 8)) h (by decide)
theorem eh_Sx {p : Nat} (h : eh_okS p = true) (q : Nat → Nat) : eh_PP q p 0 = p + 1 ∧ eh_PP q p 1 = p + 2 ∧ eh_PP q p 2 = p + 3 := by
  have : p ≠ 124 ∧ eh_PF p 0 = p + 1 ∧ eh_PF p 1 = p + 2 ∧ eh_PF p 2 = p + 3 := eh_mem (P := fun p => p ≠ 124 ∧ eh_PF p 0 = p + 1 ∧ eh_PF p 1 = p + 2 ∧ eh_PF p 2 = p + 3) h (by decide)
  simp [eh_PP, this]
theorem eh_R0sh {p : Nat} (h : eh_okR p = true) : eh_SH[p]? = some (8, 0) := eh_mem (P := fun p => eh_SH[p]? = some (8, 0)) h (by decide)
theorem eh_R1sh {p : Nat} (h : eh_okR p = true) : eh_SH[p + 1]? = some (100, eh_rn p) := eh_mem (P := fun p => eh_SH[p + 1]? = some (100, eh_rn p)) h (by decide)
theorem eh_Rx {p : Nat} (h : eh_okR p = true) (q : Nat → Nat) : eh_PP q p 0 = p + 1 := by
  have : p ≠ 124 ∧ eh_PF p 0 = p + 1 := eh_mem (P := fun p => p ≠ 124 ∧ eh_PF p 0 = p + 1) h (by decide)
  simp [eh_PP, this]
theorem eh_Xsh {p : Nat} (h : eh_okX p = true) : eh_SH[p]? = some (100, 32) := eh_mem (P := fun p => eh_SH[p]? = some (100, 32)) h (by decide)
theorem eh_hp_ok {i : Int32} (h : eh_in i 2 = true) : eh_okH (eh_hp i) = true := by
  have h1 := eh_in_lt h
  unfold eh_hp
  generalize i.toNatClampNeg = n at h1
  revert n
  decide
theorem eh_fp_ok {i : Int32} (h : eh_in i 12 = true) : eh_okF (eh_fp i) = true := by
  have h1 := eh_in_lt h
  unfold eh_fp
  generalize i.toNatClampNeg = n at h1
  revert n
  decide
theorem eh_ep_ok {i : Int32} (h : eh_in i 6 = true) : eh_okE (eh_ep i) = true := by
  have h1 := eh_in_lt h
  unfold eh_ep
  generalize i.toNatClampNeg = n at h1
  revert n
  decide
theorem eh_sh_lt {k : Nat} {sh : eh_Sh} (h : eh_SH[k]? = some sh) : k < 196 := (List.getElem?_eq_some_iff.mp h).1
theorem eh_sh_SB {k : Nat} {sh : eh_Sh} (h : eh_SH[k]? = some sh) : k < eh_SB := Nat.lt_trans (eh_sh_lt h) (by decide)
theorem eh_sh_NU {k : Nat} {sh : eh_Sh} (h : eh_SH[k]? = some sh) : k < eh_NU := Nat.lt_trans (eh_sh_lt h) (by decide)
/-! how answers are told -/
def eh_eI : Int32 × eh_F → Option Value × eh_W := fun q => (some (.int q.1), eh_FW q.2)
def eh_eL : Int64 × eh_F → Option Value × eh_W := fun q => (some (.long q.1), eh_FW q.2)
def eh_eV : eh_F → Option Value × eh_W := fun q => (none, eh_FW q)
def eh_pI (s : eh_F) : Int32 → Option Value × eh_W := fun q => (some (.int q), eh_FW s)
def eh_pL (s : eh_F) : Int64 → Option Value × eh_W := fun q => (some (.long q), eh_FW s)
section EhFroz
variable {g : eh_P} {M Mj : eh_M} {R : Room} {cells slots pc : Nat} {L : eh_LL} {st : List Value} {s : eh_F} {α β γ : Type} {enc : α → Option Value × eh_W} {mm : Option α} {m1 m2 : Option β} {K : β → Option α}
theorem ef_getI {k ci z idx j : Nat} (hk : eh_SH[k]? = some (ci, z)) (hF : eh_FL M.1 idx ci j) (hf : eh_ft ci j ≠ 3) (hd : decode M.2.1 pc = .ok (.getfield idx, 3)) (kk : eh_Sim g M R enc cells slots (pc + 3) L (.int (s.1 k j) :: st) (eh_FW s) mm) : eh_Sim g M R enc cells slots pc L (.ref k :: st) (eh_FW s) mm :=
  fun a ha => er_getI (w := eh_FW s) hk hF hf (eh_sh_SB hk) hd (kk a ha)
theorem ef_getP {k ci z idx j q : Nat} {sh : eh_Sh} (hk : eh_SH[k]? = some (ci, z)) (hF : eh_FL M.1 idx ci j) (hf : eh_ft ci j = 3) (hq : eh_PP s.2.2 k j = q) (hsh : eh_SH[q]? = some sh) (hd : decode M.2.1 pc = .ok (.getfield idx, 3)) (kk : eh_Sim g M R enc cells slots (pc + 3) L (.ref q :: st) (eh_FW s) mm) : eh_Sim g M R enc cells slots pc L (.ref k :: st) (eh_FW s) mm :=
  fun a ha => er_getP (w := eh_FW s) hk hF hf hq (eh_sh_NU hsh) (eh_sh_SB hk) hd (kk a ha)
theorem ef_putI {k ci z idx j : Nat} {v : Int32} (hk : eh_SH[k]? = some (ci, z)) (hF : eh_FL M.1 idx ci j) (hfin : eh_fin ci j = false) (hf : eh_ft ci j = 0) (hd : decode M.2.1 pc = .ok (.putfield idx, 3)) (kk : eh_Sim g M R enc cells slots (pc + 3) L st (eh_FW (eh_tI s k j v)) mm) : eh_Sim g M R enc cells slots pc L (.int v :: .ref k :: st) (eh_FW s) mm :=
  fun a ha => er_putI (w := eh_FW s) hk hF (Or.inl hfin) (Or.inl hf) (eh_sh_SB hk) hd (kk a ha)
theorem ef_putZ {k ci z idx j : Nat} {v : Int32} (hk : eh_SH[k]? = some (ci, z)) (hF : eh_FL M.1 idx ci j) (hfin : eh_fin ci j = false) (hf : eh_ft ci j = 1) (hd : decode M.2.1 pc = .ok (.putfield idx, 3)) (kk : v = 0 ∨ v = 1 → eh_Sim g M R enc cells slots (pc + 3) L st (eh_FW (eh_tI s k j v)) (m1.bind K)) : eh_Sim g M R enc cells slots pc L (.int v :: .ref k :: st) (eh_FW s) ((if v = 0 ∨ v = 1 then m1 else none).bind K) := by
  by_cases h : v = 0 ∨ v = 1
  · rw [if_pos h]
    exact fun a ha => er_putI (w := eh_FW s) hk hF (Or.inl hfin) (Or.inr ⟨hf, h⟩) (eh_sh_SB hk) hd (kk h a ha)
  · rw [if_neg h]; exact es_none
theorem ef_putZc {k ci z idx j : Nat} {v : Int32} (hk : eh_SH[k]? = some (ci, z)) (hF : eh_FL M.1 idx ci j) (hfin : eh_fin ci j = false) (hf : eh_ft ci j = 1) (hv : v = 0 ∨ v = 1) (hd : decode M.2.1 pc = .ok (.putfield idx, 3)) (kk : eh_Sim g M R enc cells slots (pc + 3) L st (eh_FW (eh_tI s k j v)) mm) : eh_Sim g M R enc cells slots pc L (.int v :: .ref k :: st) (eh_FW s) mm :=
  fun a ha => er_putI (w := eh_FW s) hk hF (Or.inl hfin) (Or.inr ⟨hf, hv⟩) (eh_sh_SB hk) hd (kk a ha)
theorem eh_FW_tQ (s : eh_F) (j q : Nat) (hj : j = 4 ∨ j = 5 ∨ j = 7) : eh_sP (eh_FW s) 124 j q = eh_FW (eh_tQ s j q) := by
  show (s.1, s.2.1, _, eh_SH) = (s.1, s.2.1, _, eh_SH)
  congr 3
  funext a b
  show (if a = 124 then eh_uN (eh_PP s.2.2 124) j q else eh_PP s.2.2 a) b = eh_PP (eh_uN s.2.2 j q) a b
  by_cases ha : a = 124
  · subst ha
    rw [if_pos rfl]
    by_cases hb : b = j
    · subst hb
      simp [eh_uN, eh_PP, hj]
    · simp [eh_uN, eh_PP, hb]
  · rw [if_neg ha]
    simp [eh_PP, ha]
/-- the processor's own references -/
theorem ef_getQ {idx j : Nat} {ok : Nat → Bool} (hj : j = 4 ∨ j = 5 ∨ j = 7) (hF : eh_FL M.1 idx 7 j) (hf : eh_ft 7 j = 3) (hok : ∀ q, ok q = true → q < eh_NU) (hd : decode M.2.1 pc = .ok (.getfield idx, 3)) (kk : ok (s.2.2 j) = true → eh_Sim g M R enc cells slots (pc + 3) L (.ref (s.2.2 j) :: st) (eh_FW s) (m1.bind K)) : eh_Sim g M R enc cells slots pc L (.ref 124 :: st) (eh_FW s) ((if ok (s.2.2 j) then m1 else none).bind K) := by
  by_cases h : ok (s.2.2 j) = true
  · rw [if_pos h]
    exact fun a ha => er_getP (w := eh_FW s) (k := 124) (ci := 7) (z := 0) (show eh_SH[124]? = some (7, 0) by decide) hF hf (show eh_PP s.2.2 124 j = s.2.2 j by simp [eh_PP, hj]) (hok _ h) (by decide) hd (kk h a ha)
  · rw [if_neg h]; exact es_none
theorem ef_putQ {idx j q : Nat} {sh : eh_Sh} (hj : j = 4 ∨ j = 5 ∨ j = 7) (hF : eh_FL M.1 idx 7 j) (hf : eh_ft 7 j = 3) (hfin : eh_fin 7 j = false) (hsh : eh_SH[q]? = some sh) (hd : decode M.2.1 pc = .ok (.putfield idx, 3)) (kk : eh_Sim g M R enc cells slots (pc + 3) L st (eh_FW (eh_tQ s j q)) mm) : eh_Sim g M R enc cells slots pc L (.ref q :: .ref 124 :: st) (eh_FW s) mm :=
  fun a ha => er_putP (w := eh_FW s) (k := 124) (ci := 7) (z := 0) (show eh_SH[124]? = some (7, 0) by decide) hF (Or.inl hfin) hf (eh_sh_NU hsh) (by decide) hd (by rw [eh_FW_tQ s j q hj]; exact kk a ha)
theorem ef_ald {k t n : Nat} {i : Int32} {ins : Instr} (hk : eh_SH[k]? = some (t, n)) (ht : (t = 100 ∧ ins = .iaload) ∨ ((t = 101 ∨ t = 102) ∧ ins = .baload)) (hd : decode M.2.1 pc = .ok (ins, 1)) (kk : eh_in i n = true → eh_Sim g M R enc cells slots (pc + 1) L (.int (s.1 k (eh_ix i)) :: st) (eh_FW s) (m1.bind K)) : eh_Sim g M R enc cells slots pc L (.int i :: .ref k :: st) (eh_FW s) ((if eh_in i n then m1 else none).bind K) := by
  by_cases h : eh_in i n = true
  · rw [if_pos h]
    exact fun a ha => er_aldI (w := eh_FW s) hk ht (eh_in_vp h) (eh_sh_SB hk) hd (kk h a ha)
  · rw [if_neg h]; exact es_none
theorem ef_aldc {k t n j : Nat} {i : Int32} {ins : Instr} (hk : eh_SH[k]? = some (t, n)) (ht : (t = 100 ∧ ins = .iaload) ∨ ((t = 101 ∨ t = 102) ∧ ins = .baload)) (hin : eh_in i n = true) (hj : i.toNatClampNeg = j) (hd : decode M.2.1 pc = .ok (ins, 1)) (kk : eh_Sim g M R enc cells slots (pc + 1) L (.int (s.1 k j) :: st) (eh_FW s) mm) : eh_Sim g M R enc cells slots pc L (.int i :: .ref k :: st) (eh_FW s) mm := by
  subst hj
  exact fun a ha => er_aldI (w := eh_FW s) hk ht (eh_in_vp hin) (eh_sh_SB hk) hd (kk a ha)
theorem ef_aldJ {k n : Nat} {i : Int32} (hk : eh_SH[k]? = some (103, n)) (hd : decode M.2.1 pc = .ok (.laload, 1)) (kk : eh_in i n = true → eh_Sim g M R enc cells slots (pc + 1) L (.long (s.2.1 k (eh_ix i)) :: st) (eh_FW s) (m1.bind K)) : eh_Sim g M R enc cells slots pc L (.int i :: .ref k :: st) (eh_FW s) ((if eh_in i n then m1 else none).bind K) := by
  by_cases h : eh_in i n = true
  · rw [if_pos h]
    exact fun a ha => er_aldJ (w := eh_FW s) hk (eh_in_vp h) (eh_sh_SB hk) hd (kk h a ha)
  · rw [if_neg h]; exact es_none
theorem ef_harts {i : Int32} (hd : decode M.2.1 pc = .ok (.aaload, 1)) (kk : eh_okH (eh_hp i) = true → eh_Sim g M R enc cells slots (pc + 1) L (.ref (eh_hp i) :: st) (eh_FW s) (m1.bind K)) : eh_Sim g M R enc cells slots pc L (.int i :: .ref 26 :: st) (eh_FW s) ((if eh_in i 2 then m1 else none).bind K) := by
  by_cases h : eh_in i 2 = true
  · rw [if_pos h]
    refine fun a ha => er_aldP (w := eh_FW s) (k := 26) (t := 104) (n := 2) (show eh_SH[26]? = some (104, 2) by decide) (Or.inl rfl) (eh_in_vp h) ?_ (eh_sh_NU (eh_H0sh (eh_hp_ok h))) (by decide) hd (kk (eh_hp_ok h) a ha)
    show eh_PP s.2.2 26 i.toNatClampNeg = eh_hp i
    have h1 := eh_in_lt h
    unfold eh_hp eh_PP
    rw [if_neg (by decide)]
    generalize i.toNatClampNeg = n at h1
    revert n
    decide
  · rw [if_neg h]; exact es_none
theorem ef_fibres {i : Int32} (hd : decode M.2.1 pc = .ok (.aaload, 1)) (kk : eh_okF (eh_fp i) = true → eh_Sim g M R enc cells slots (pc + 1) L (.ref (eh_fp i) :: st) (eh_FW s) (m1.bind K)) : eh_Sim g M R enc cells slots pc L (.int i :: .ref 27 :: st) (eh_FW s) ((if eh_in i 12 then m1 else none).bind K) := by
  by_cases h : eh_in i 12 = true
  · rw [if_pos h]
    refine fun a ha => er_aldP (w := eh_FW s) (k := 27) (t := 105) (n := 12) (show eh_SH[27]? = some (105, 12) by decide) (Or.inr (Or.inl rfl)) (eh_in_vp h) ?_ (eh_sh_NU (eh_F0sh (eh_fp_ok h))) (by decide) hd (kk (eh_fp_ok h) a ha)
    show eh_PP s.2.2 27 i.toNatClampNeg = eh_fp i
    have h1 := eh_in_lt h
    unfold eh_fp eh_PP
    rw [if_neg (by decide)]
    generalize i.toNatClampNeg = n at h1
    revert n
    decide
  · rw [if_neg h]; exact es_none
theorem ef_encs {i : Int32} (hd : decode M.2.1 pc = .ok (.aaload, 1)) (kk : eh_okE (eh_ep i) = true → eh_Sim g M R enc cells slots (pc + 1) L (.ref (eh_ep i) :: st) (eh_FW s) (m1.bind K)) : eh_Sim g M R enc cells slots pc L (.int i :: .ref 28 :: st) (eh_FW s) ((if eh_in i 6 then m1 else none).bind K) := by
  by_cases h : eh_in i 6 = true
  · rw [if_pos h]
    refine fun a ha => er_aldP (w := eh_FW s) (k := 28) (t := 106) (n := 6) (show eh_SH[28]? = some (106, 6) by decide) (Or.inr (Or.inr rfl)) (eh_in_vp h) ?_ (eh_sh_NU (eh_E0sh (eh_ep_ok h))) (by decide) hd (kk (eh_ep_ok h) a ha)
    show eh_PP s.2.2 28 i.toNatClampNeg = eh_ep i
    have h1 := eh_in_lt h
    unfold eh_ep eh_PP
    rw [if_neg (by decide)]
    generalize i.toNatClampNeg = n at h1
    revert n
    decide
  · rw [if_neg h]; exact es_none
theorem ef_ast {k n : Nat} {i x : Int32} (hk : eh_SH[k]? = some (100, n)) (hd : decode M.2.1 pc = .ok (.iastore, 1)) (kk : eh_in i n = true → eh_Sim g M R enc cells slots (pc + 1) L st (eh_FW (eh_tI s k (eh_ix i) x)) (m1.bind K)) : eh_Sim g M R enc cells slots pc L (.int x :: .int i :: .ref k :: st) (eh_FW s) ((if eh_in i n then m1 else none).bind K) := by
  by_cases h : eh_in i n = true
  · rw [if_pos h]
    exact fun a ha => er_astI (w := eh_FW s) hk (Or.inl ⟨rfl, rfl⟩) (eh_in_vp h) (eh_sh_SB hk) hd (kk h a ha)
  · rw [if_neg h]; exact es_none
theorem ef_astc {k n j : Nat} {i x : Int32} (hk : eh_SH[k]? = some (100, n)) (hin : eh_in i n = true) (hj : i.toNatClampNeg = j) (hd : decode M.2.1 pc = .ok (.iastore, 1)) (kk : eh_Sim g M R enc cells slots (pc + 1) L st (eh_FW (eh_tI s k j x)) mm) : eh_Sim g M R enc cells slots pc L (.int x :: .int i :: .ref k :: st) (eh_FW s) mm := by
  subst hj
  exact fun a ha => er_astI (w := eh_FW s) hk (Or.inl ⟨rfl, rfl⟩) (eh_in_vp hin) (eh_sh_SB hk) hd (kk a ha)
theorem ef_astB {k n : Nat} {i x : Int32} (hk : eh_SH[k]? = some (101, n)) (hd : decode M.2.1 pc = .ok (.bastore, 1)) (kk : eh_in i n = true → eh_Sim g M R enc cells slots (pc + 1) L st (eh_FW (eh_tI s k (eh_ix i) (eh_nb x))) (m1.bind K)) : eh_Sim g M R enc cells slots pc L (.int x :: .int i :: .ref k :: st) (eh_FW s) ((if eh_in i n then m1 else none).bind K) := by
  by_cases h : eh_in i n = true
  · rw [if_pos h]
    exact fun a ha => er_astI (w := eh_FW s) hk (Or.inr ⟨Or.inl rfl, rfl⟩) (eh_in_vp h) (eh_sh_SB hk) hd (kk h a ha)
  · rw [if_neg h]; exact es_none
theorem ef_astZ {k n : Nat} {i x : Int32} (hk : eh_SH[k]? = some (102, n)) (hd : decode M.2.1 pc = .ok (.bastore, 1)) (kk : eh_in i n = true → eh_Sim g M R enc cells slots (pc + 1) L st (eh_FW (eh_tI s k (eh_ix i) (eh_nz x))) (m1.bind K)) : eh_Sim g M R enc cells slots pc L (.int x :: .int i :: .ref k :: st) (eh_FW s) ((if eh_in i n then m1 else none).bind K) := by
  by_cases h : eh_in i n = true
  · rw [if_pos h]
    exact fun a ha => er_astI (w := eh_FW s) hk (Or.inr ⟨Or.inr rfl, rfl⟩) (eh_in_vp h) (eh_sh_SB hk) hd (kk h a ha)
  · rw [if_neg h]; exact es_none
theorem ef_astJ {k n : Nat} {i : Int32} {x : Int64} (hk : eh_SH[k]? = some (103, n)) (hd : decode M.2.1 pc = .ok (.lastore, 1)) (kk : eh_in i n = true → eh_Sim g M R enc cells slots (pc + 1) L st (eh_FW (eh_tJ s k (eh_ix i) x)) (m1.bind K)) : eh_Sim g M R enc cells slots pc L (.long x :: .int i :: .ref k :: st) (eh_FW s) ((if eh_in i n then m1 else none).bind K) := by
  by_cases h : eh_in i n = true
  · rw [if_pos h]
    exact fun a ha => er_astJ (w := eh_FW s) hk (eh_in_vp h) (eh_sh_SB hk) hd (kk h a ha)
  · rw [if_neg h]; exact es_none
theorem ef_alen {k t n : Nat} (hk : eh_SH[k]? = some (t, n)) (ht : 100 ≤ t) (hd : decode M.2.1 pc = .ok (.arraylength, 1)) (kk : eh_Sim g M R enc cells slots (pc + 1) L (.int (Int32.ofNat n) :: st) (eh_FW s) mm) : eh_Sim g M R enc cells slots pc L (.ref k :: st) (eh_FW s) mm :=
  fun a ha => er_alen (w := eh_FW s) hk ht (eh_sh_SB hk) hd (kk a ha)
theorem ef_stat {w : eh_W} {i idx : Nat} (hi : i < 4) (hl : Cond.fieldLink M.1 idx (eh_sc i) (eh_sn i) "[I" ∈ eh_tb) (hd : decode M.2.1 pc = .ok (.getstatic idx, 3)) (kk : eh_Sim g M R enc cells slots (pc + 3) L (.ref (eh_SB + i) :: st) w mm) : eh_Sim g M R enc cells slots pc L st w mm :=
  fun a ha => er_stat hi hl hd (kk a ha)
theorem ef_tld {w : eh_W} {i : Nat} {j : Int32} (hi : i < 4) (hd : decode M.2.1 pc = .ok (.iaload, 1)) (kk : eh_in j (eh_tn i) = true → eh_Sim g M R enc cells slots (pc + 1) L (.int (eh_tt i (eh_ix j)) :: st) w (m1.bind K)) : eh_Sim g M R enc cells slots pc L (.int j :: .ref (eh_SB + i) :: st) w ((if eh_in j (eh_tn i) then m1 else none).bind K) := by
  by_cases h : eh_in j (eh_tn i) = true
  · rw [if_pos h]
    exact fun a ha => er_tld hi (eh_in_vp h) hd (kk h a ha)
  · rw [if_neg h]; exact es_none
theorem ef_xld {w : eh_W} {j : Int32} (hd : decode M.2.1 pc = .ok (.iaload, 1)) (kk : eh_in j (eh_n g) = true → eh_Sim g M R enc cells slots (pc + 1) L (.int (eh_x g (eh_ix j)) :: st) w (m1.bind K)) : eh_Sim g M R enc cells slots pc L (.int j :: .ref (eh_SB + 4) :: st) w ((if eh_in j (eh_n g) then m1 else none).bind K) := by
  by_cases h : eh_in j (eh_n g) = true
  · rw [if_pos h]
    exact fun a ha => er_xld (eh_in_vp h) hd (kk h a ha)
  · rw [if_neg h]; exact es_none
theorem ef_copyI {k0 k1 n0 n1 idx : Nat} {sp dp n : Int32} (hk0 : eh_SH[k0]? = some (100, n0)) (hk1 : eh_SH[k1]? = some (100, n1))
    (hl : eh_LK M.1 idx arraycopyName) (hnat : Cond.native arraycopyName ∈ eh_tb) (hstat : Cond.static arraycopyName ∈ eh_tb) (hini : Cond.initialized "java/lang/System" ∈ eh_tb) (hR : 1 ≤ R.frames ∧ 40 ≤ R.locals) (hW : (st.map fun v => v.category).sum ≤ 8) (hd : decode M.2.1 pc = .ok (.invokestatic idx, 3))
    (kk : eh_cok sp dp n n0 n1 = true → eh_Sim g M R enc cells slots (pc + 3) L st (eh_FW (eh_tF s k1 (va_cpy (s.1 k0) (s.1 k1) (eh_ix sp) (eh_ix dp) (eh_ix n)))) (m1.bind K)) : eh_Sim g M R enc cells slots pc L (.int n :: .int dp :: .ref k1 :: .int sp :: .ref k0 :: st) (eh_FW s) ((if eh_cok sp dp n n0 n1 then m1 else none).bind K) := by
  by_cases h : eh_cok sp dp n n0 n1 = true
  · rw [if_pos h]
    exact fun a ha => er_copyI (w := eh_FW s) hk0 hk1 (eh_sh_SB hk0) (eh_sh_SB hk1) h hl hnat hstat hini hR hW hd (kk h a ha)
  · rw [if_neg h]; exact es_none
theorem ef_copyT {i k1 n1 idx : Nat} {sp dp n : Int32} (hi : i < 4) (hk1 : eh_SH[k1]? = some (100, n1))
    (hl : eh_LK M.1 idx arraycopyName) (hnat : Cond.native arraycopyName ∈ eh_tb) (hstat : Cond.static arraycopyName ∈ eh_tb) (hini : Cond.initialized "java/lang/System" ∈ eh_tb) (hR : 1 ≤ R.frames ∧ 40 ≤ R.locals) (hW : (st.map fun v => v.category).sum ≤ 8) (hd : decode M.2.1 pc = .ok (.invokestatic idx, 3))
    (kk : eh_cok sp dp n (eh_tn i) n1 = true → eh_Sim g M R enc cells slots (pc + 3) L st (eh_FW (eh_tF s k1 (va_cpy (eh_tt i) (s.1 k1) (eh_ix sp) (eh_ix dp) (eh_ix n)))) (m1.bind K)) : eh_Sim g M R enc cells slots pc L (.int n :: .int dp :: .ref k1 :: .int sp :: .ref (eh_SB + i) :: st) (eh_FW s) ((if eh_cok sp dp n (eh_tn i) n1 then m1 else none).bind K) := by
  by_cases h : eh_cok sp dp n (eh_tn i) n1 = true
  · rw [if_pos h]
    exact fun a ha => er_copyT (w := eh_FW s) hi hk1 (eh_sh_SB hk1) h hl hnat hstat hini hR hW hd (kk h a ha)
  · rw [if_neg h]; exact es_none
end EhFroz

