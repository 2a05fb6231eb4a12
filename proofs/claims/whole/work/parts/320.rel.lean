/-! what the two sides have in common: groups of cells, and all of them -/
def ep_lw (f : Nat → Int32) (o : Nat) : Int32 := (((f o &&& 255) ||| eh_shl (f (o + 1) &&& 255) 8) ||| eh_shl (f (o + 2) &&& 255) 16) ||| eh_shl (f (o + 3) &&& 255) 24
def ep_bo (x : Int32) : Prop := x = 0 ∨ x = 1
def ep_al (x : Int32) : Prop := x &&& 3 = 0
/-- words and bytes -/
def ep_Gm (w b : Nat → Int32) : Prop := w = fun j => ep_lw b (4 * j)
/-- a region's span, its pages, its owners -/
def ep_span (B Z P : Nat → Int32) (k : Nat) : Prop := ∃ b n, 0 < n ∧ b + n ≤ 512 ∧ B k = nI (256 * b) ∧ Z k = nI (256 * n) ∧ ∀ p, p < 512 → (P p = nI k ↔ b ≤ p ∧ p < b + n)
def ep_Gr (S B Z O T P E W : Nat → Int32) : Prop :=
  (∀ k, k < 12 → S k ≠ 0 → (S k = 1 ∨ S k = 2 ∨ S k = 3 ∨ S k = 4) ∧ ep_span B Z P k ∧ (∃ e, e < 6 ∧ O k = nI e ∧ E e ≠ 0 ∧ (S k = 1 → W e = nI k)) ∧ (S k = 3 → ∃ e, e < 6 ∧ T k = nI e ∧ E e ≠ 0 ∧ T k ≠ O k) ∧ (S k ≠ 3 → T k = -1)) ∧
  (∀ p, p < 512 → P p = -1 ∨ ∃ k, k < 12 ∧ P p = nI k ∧ S k ≠ 0) ∧
  (∀ e, e < 6 → E e ≠ 0 → ∃ k, k < 12 ∧ W e = nI k ∧ S k = 1 ∧ O k = nI e)
def ep_Gres (cr mr : Nat → Int32) : Prop := ∀ h, h < 2 → (cr h = -1 ∧ mr h = -1) ∨ ∃ j, j < 32768 ∧ cr h = nI j ∧ mr h = nI (4 * j)
def ep_Ghx (F1 : Nat → Nat → Int32) (regs : Nat → Int32) : Prop := ∀ h, h < 2 → ∀ j, j < 32 → F1 h j = regs (32 * h + j)
def ep_Gx0 (regs : Nat → Int32) : Prop := ∀ h, h < 2 → regs (32 * h) = 0
def ep_Gh (F0 : Nat → Nat → Int32) (pcs mode waits status enabled tvec scr epc cause tval soft compare atp slice runs : Nat → Int32) : Prop := ∀ h, h < 2 → F0 h 0 = nI h ∧ F0 h 2 = pcs h ∧ F0 h 3 = mode h ∧ F0 h 4 = waits h ∧ F0 h 5 = runs h ∧ F0 h 6 = slice h ∧ F0 h 9 = status h ∧ F0 h 10 = enabled h ∧ F0 h 11 = tvec h ∧ F0 h 12 = scr h ∧ F0 h 13 = epc h ∧ F0 h 14 = cause h ∧ F0 h 15 = tval h ∧ F0 h 16 = soft h ∧ F0 h 17 = compare h ∧ F0 h 18 = atp h
def ep_Gha (pcs mode waits tvec epc soft : Nat → Int32) : Prop := ∀ h, h < 2 → ep_al (pcs h) ∧ ep_bo (mode h) ∧ ep_bo (waits h) ∧ ep_al (tvec h) ∧ ep_al (epc h) ∧ (soft h = 0 ∨ soft h = 2)
def ep_Grd (F0 : Nat → Nat → Int32) (runs runSlice runDone : Nat → Int32) : Prop := ∀ h, h < 2 → runs h ≠ -1 → F0 h 7 = runSlice h ∧ F0 h 8 = runDone h
def ep_Gf (F2 : Nat → Nat → Int32) (pcs tst tof tent tstk hand isH held : Nat → Int32) : Prop := ∀ t, t < 12 → F2 t 0 = nI t ∧ F2 t 2 = pcs (2 + t) ∧ F2 t 3 = tof t ∧ F2 t 4 = tent t ∧ F2 t 5 = tstk t ∧ F2 t 6 = tst t ∧ F2 t 8 = hand t ∧ F2 t 9 = isH t ∧ F2 t 10 = held (4 * t) ∧ F2 t 11 = held (4 * t + 1) ∧ F2 t 12 = held (4 * t + 2) ∧ F2 t 13 = held (4 * t + 3)
def ep_Gfa (pcs hand isH held : Nat → Int32) : Prop := ∀ t, t < 12 → ep_al (pcs (2 + t)) ∧ ep_al (hand t) ∧ ep_bo (isH t) ∧ ep_al (held (4 * t + 2)) ∧ ep_al (held (4 * t + 3))
def ep_Gfx (F3 : Nat → Nat → Int32) (regs tst : Nat → Int32) : Prop := ∀ t, t < 12 → tst t ≠ 0 → ∀ j, j < 32 → F3 t j = regs (32 * (2 + t) + j)
/-- where a thread runs -/
def ep_Gfh (F2 : Nat → Nat → Int32) (tst runs : Nat → Int32) : Prop := ∀ t, t < 12 → tst t ≠ 0 → (F2 t 7 = -1 ∧ tst t ≠ 2 ∧ ∀ h, h < 2 → runs h ≠ nI t) ∨ ∃ h, h < 2 ∧ F2 t 7 = nI h ∧ runs h = nI t ∧ tst t = 2 ∧ ∀ h', h' < 2 → runs h' = nI t → h' = h
def ep_Gru (runs tst tof E : Nat → Int32) : Prop := ∀ h, h < 2 → runs h = -1 ∨ ∃ t e, t < 12 ∧ e < 6 ∧ runs h = nI t ∧ tst t = 2 ∧ tof t = nI e ∧ E e = 2
def ep_Gt (tst tof tent E : Nat → Int32) : Prop := ∀ t, t < 12 → tst t ≠ 0 → ep_al (tent t) ∧ ∃ e, e < 6 ∧ tof t = nI e ∧ E e ≠ 0
def ep_Ge (F4 : Nat → Nat → Int32) (E W fl gen ask mail : Nat → Int32) : Prop := ∀ e, e < 6 → F4 e 5 = E e ∧ F4 e 6 = W e ∧ F4 e 7 = fl e ∧ F4 e 8 = gen e ∧ F4 e 9 = ask e ∧ F4 e 11 = mail e ∧ ep_bo (mail e) ∧ (E e = 0 ∨ E e = 1 ∨ E e = 2 ∨ E e = 3) ∧ (E e = 1 → fl e = -1)
/-- threads of an enclave among the first n -/
def ep_nt (tst tof : Nat → Int32) (e : Nat) : Nat → Nat
  | 0 => 0
  | n + 1 => ep_nt tst tof e n + if tst n ≠ 0 ∧ tof n = nI e then 1 else 0
def ep_Gen (F4 : Nat → Nat → Int32) (E tst tof : Nat → Int32) : Prop := ∀ e, e < 6 → E e ≠ 0 → F4 e 10 = nI (ep_nt tst tof e 12) ∧ ep_nt tst tof e 12 ≤ 3
def ep_Gd (n a o : Nat) (F : Nat → Nat → Int32) (b : Nat → Int32) : Prop := ∀ e, e < n → ∀ j, j < 8 → F e j = ep_bw b (a * e + o + 4 * j)
def ep_Gd1 (f b : Nat → Int32) : Prop := ∀ j, j < 8 → f j = ep_bw b (4 * j)
def ep_Gs (N : Nat) (F5 F6 F7 : Nat → Nat → Int32) (E H B : Nat → Int32) (L : Nat → Int64) : Prop := ∀ e, e < 6 → E e = 1 → ∃ st, ep_ok st ∧ st.2.2 % 4 = 0 ∧ st.2.2 ≤ N ∧ ep_Rc (F6 e) (F7 e) (F5 e 3) st ∧ ep_Rm e H B L st
def ep_Gev (N : Nat) (cn mn : Int32) (ce me : Nat → Int32) : Prop := ce = me ∧ cn = mn ∧ ∃ n, n ≤ N ∧ mn = nI n
def ep_Gcn (N : Nat) (cn mn : Int32) (cd cc mb mc me : Nat → Int32) : Prop := cc = mc ∧ cn = mn ∧ (∀ i, i < 64 → cd i = ep_bw mb (4 * i)) ∧ ∃ n, n ≤ 8 ∧ mn = nI n ∧ (∀ i, i < n → ∃ v, v ≤ N ∧ mc i = nI v) ∧ (∀ i i', i < n → i' < n → (∀ j, j < 8 → cd (8 * i + j) = cd (8 * i' + j)) → i = i') ∧ (∀ j, eh_nb (mb j) = mb j) ∧ (∀ j, eh_nb (me j) = me j)
def ep_Gdv (D M : Nat → Int32) (off : Int32) : Prop := D 0 = M 20 ∧ off = M 21 ∧ ep_bo off ∧ D 1 = M 22 ∧ ep_bo (D 1) ∧ D 7 = M 58 ∧ D 8 = M 59 ∧ D 9 = M 60 ∧ D 14 = M 67 ∧ (D 14 = -1 ∨ ∃ e, e < 6 ∧ D 14 = nI e) ∧ ∃ n, n ≤ 4 ∧ D 7 = nI n
def ep_Gdm (D a1 a2 a3 a4 b1 b2 b3 b4 : Nat → Int32) : Prop := a1 = b1 ∧ a2 = b2 ∧ a3 = b3 ∧ a4 = b4 ∧ ∀ n i, D 7 = nI n → n ≤ 4 → i < n → ep_bo (b1 i) ∧ (∃ x, x < 32 ∧ b2 i = nI x) ∧ ∃ x, x ≤ 32704 ∧ b3 i = nI (4 * x)
def ep_Gro (room : Nat) (sz : Int32) (it : Nat → Int32) (mz : Int32) (mt : Nat → Int32) : Prop := it = mt ∧ sz = mz ∧ ∃ n, n ≤ room ∧ mz = nI n
def ep_Grb (room : Nat) (sz : Int32) (it : Nat → Int32) (mz : Int32) (mt : Nat → Int32) : Prop := (it = fun j => mt j &&& 255) ∧ sz = mz ∧ ∃ n, n ≤ room ∧ mz = nI n
def ep_R (N : Nat) (c : ep_C) (m : ep_M) : Prop :=
  ep_Gm (c.1 9) (m.1 128) ∧ ep_Gm (c.1 13) (m.1 175) ∧
  (c.1 3 = m.1 164 ∧ c.1 4 = m.1 165 ∧ c.1 5 = m.1 166 ∧ c.1 6 = m.1 167 ∧ c.1 7 = m.1 168 ∧ c.1 8 = m.1 169) ∧
  ep_Gr (m.1 164) (m.1 165) (m.1 166) (m.1 167) (m.1 168) (c.1 10) (m.1 155) (m.1 156) ∧
  ep_Gres (c.1 11) (m.1 147) ∧
  ep_Ghx (c.2.1 1) (m.1 129) ∧ ep_Gx0 (m.1 129) ∧
  ep_Gh (c.2.1 0) (m.1 130) (m.1 131) (m.1 132) (m.1 133) (m.1 134) (m.1 135) (m.1 136) (m.1 137) (m.1 138) (m.1 139) (m.1 140) (m.1 141) (m.1 142) (m.1 143) (m.1 144) ∧
  ep_Gha (m.1 130) (m.1 131) (m.1 132) (m.1 135) (m.1 137) (m.1 140) ∧
  ep_Grd (c.2.1 0) (m.1 144) (m.1 145) (m.1 146) ∧
  ep_Gf (c.2.1 2) (m.1 130) (m.1 148) (m.1 149) (m.1 150) (m.1 151) (m.1 152) (m.1 153) (m.1 154) ∧
  ep_Gfa (m.1 130) (m.1 152) (m.1 153) (m.1 154) ∧
  ep_Gfx (c.2.1 3) (m.1 129) (m.1 148) ∧
  ep_Gfh (c.2.1 2) (m.1 148) (m.1 144) ∧
  ep_Gru (m.1 144) (m.1 148) (m.1 149) (m.1 155) ∧
  ep_Gt (m.1 148) (m.1 149) (m.1 150) (m.1 155) ∧
  ep_Ge (c.2.1 4) (m.1 155) (m.1 156) (m.1 157) (m.1 158) (m.1 163) (m.1 161) ∧
  ep_Gen (c.2.1 4) (m.1 155) (m.1 148) (m.1 149) ∧
  ep_Gd 6 32 0 (c.2.1 9) (m.1 159) ∧ ep_Gd 6 32 0 (c.2.1 10) (m.1 160) ∧ ep_Gd 6 64 0 (c.2.1 11) (m.1 162) ∧ ep_Gd 6 64 32 (c.2.1 12) (m.1 162) ∧
  ep_Gs N (c.2.1 5) (c.2.1 6) (c.2.1 7) (m.1 155) (m.1 188) (m.1 189) m.2 ∧
  ep_Gev N (c.1 1 11) (m.1 127 50) (c.1 38) (m.1 173) ∧
  ep_Gcn N (c.1 1 12) (m.1 127 70) (c.1 39) (c.1 40) (m.1 183) (m.1 184) (m.1 159) ∧
  ep_Gd1 (c.1 33) (m.1 186) ∧ ep_Gd1 (c.1 34) (m.1 187) ∧ ep_Gd1 (c.1 37) (m.1 185) ∧
  ep_Gdv (c.1 12) (m.1 127) (c.1 1 10) ∧
  ep_Gdm (c.1 12) (c.1 14) (c.1 15) (c.1 16) (c.1 17) (m.1 176) (m.1 177) (m.1 178) (m.1 179) ∧
  ep_Grb 1024 (c.1 18 1) (c.1 19) (m.1 127 52) (m.1 174) ∧
  ep_Gro 16 (c.1 20 1) (c.1 21) (m.1 127 62) (m.1 180) ∧
  ep_Gro 16 (c.1 22 1) (c.1 23) (m.1 127 64) (m.1 181) ∧
  ep_Grb 64 (c.1 24 1) (c.1 25) (m.1 127 66) (m.1 182)
