/-! a restart keeps what belongs together -/
theorem er_v130 (m : ep_M) : (er_mA m).1 130 = upd (upd (m.1 130) 0 0) 1 0 := by
  simp only [er_mA, er_mf, er_m6, er_mh1, er_mt, er_me, ep_mIn, ep_mI1, ep_mLn, ep_mL1, ne_eq, Nat.reduceEqDiff, not_false_eq_true]
theorem er_v131 (m : ep_M) : (er_mA m).1 131 = upd (upd (m.1 131) 0 1) 1 1 := by
  simp only [er_mA, er_mf, er_m6, er_mh1, er_mt, er_me, ep_mIn, ep_mI1, ep_mLn, ep_mL1, ne_eq, Nat.reduceEqDiff, not_false_eq_true]
theorem er_v132 (m : ep_M) : (er_mA m).1 132 = upd (upd (m.1 132) 0 (eh_nz 0)) 1 (eh_nz 0) := by
  simp only [er_mA, er_mf, er_m6, er_mh1, er_mt, er_me, ep_mIn, ep_mI1, ep_mLn, ep_mL1, ne_eq, Nat.reduceEqDiff, not_false_eq_true]
theorem er_v133 (m : ep_M) : (er_mA m).1 133 = upd (upd (m.1 133) 0 0) 1 0 := by
  simp only [er_mA, er_mf, er_m6, er_mh1, er_mt, er_me, ep_mIn, ep_mI1, ep_mLn, ep_mL1, ne_eq, Nat.reduceEqDiff, not_false_eq_true]
theorem er_v134 (m : ep_M) : (er_mA m).1 134 = upd (upd (m.1 134) 0 0) 1 0 := by
  simp only [er_mA, er_mf, er_m6, er_mh1, er_mt, er_me, ep_mIn, ep_mI1, ep_mLn, ep_mL1, ne_eq, Nat.reduceEqDiff, not_false_eq_true]
theorem er_v135 (m : ep_M) : (er_mA m).1 135 = upd (upd (m.1 135) 0 0) 1 0 := by
  simp only [er_mA, er_mf, er_m6, er_mh1, er_mt, er_me, ep_mIn, ep_mI1, ep_mLn, ep_mL1, ne_eq, Nat.reduceEqDiff, not_false_eq_true]
theorem er_v136 (m : ep_M) : (er_mA m).1 136 = upd (upd (m.1 136) 0 0) 1 0 := by
  simp only [er_mA, er_mf, er_m6, er_mh1, er_mt, er_me, ep_mIn, ep_mI1, ep_mLn, ep_mL1, ne_eq, Nat.reduceEqDiff, not_false_eq_true]
theorem er_v137 (m : ep_M) : (er_mA m).1 137 = upd (upd (m.1 137) 0 0) 1 0 := by
  simp only [er_mA, er_mf, er_m6, er_mh1, er_mt, er_me, ep_mIn, ep_mI1, ep_mLn, ep_mL1, ne_eq, Nat.reduceEqDiff, not_false_eq_true]
theorem er_v138 (m : ep_M) : (er_mA m).1 138 = upd (upd (m.1 138) 0 0) 1 0 := by
  simp only [er_mA, er_mf, er_m6, er_mh1, er_mt, er_me, ep_mIn, ep_mI1, ep_mLn, ep_mL1, ne_eq, Nat.reduceEqDiff, not_false_eq_true]
theorem er_v139 (m : ep_M) : (er_mA m).1 139 = upd (upd (m.1 139) 0 0) 1 0 := by
  simp only [er_mA, er_mf, er_m6, er_mh1, er_mt, er_me, ep_mIn, ep_mI1, ep_mLn, ep_mL1, ne_eq, Nat.reduceEqDiff, not_false_eq_true]
theorem er_v140 (m : ep_M) : (er_mA m).1 140 = upd (upd (m.1 140) 0 0) 1 0 := by
  simp only [er_mA, er_mf, er_m6, er_mh1, er_mt, er_me, ep_mIn, ep_mI1, ep_mLn, ep_mL1, ne_eq, Nat.reduceEqDiff, not_false_eq_true]
theorem er_v141 (m : ep_M) : (er_mA m).1 141 = upd (upd (m.1 141) 0 (-1)) 1 (-1) := by
  simp only [er_mA, er_mf, er_m6, er_mh1, er_mt, er_me, ep_mIn, ep_mI1, ep_mLn, ep_mL1, ne_eq, Nat.reduceEqDiff, not_false_eq_true]
theorem er_v142 (m : ep_M) : (er_mA m).1 142 = upd (upd (m.1 142) 0 0) 1 0 := by
  simp only [er_mA, er_mf, er_m6, er_mh1, er_mt, er_me, ep_mIn, ep_mI1, ep_mLn, ep_mL1, ne_eq, Nat.reduceEqDiff, not_false_eq_true]
theorem er_v143 (m : ep_M) : (er_mA m).1 143 = upd (upd (m.1 143) 0 0) 1 0 := by
  simp only [er_mA, er_mf, er_m6, er_mh1, er_mt, er_me, ep_mIn, ep_mI1, ep_mLn, ep_mL1, ne_eq, Nat.reduceEqDiff, not_false_eq_true]
theorem er_v144 (m : ep_M) : (er_mA m).1 144 = upd (upd (m.1 144) 0 (-1)) 1 (-1) := by
  simp only [er_mA, er_mf, er_m6, er_mh1, er_mt, er_me, ep_mIn, ep_mI1, ep_mLn, ep_mL1, ne_eq, Nat.reduceEqDiff, not_false_eq_true]
theorem er_v147 (m : ep_M) : (er_mA m).1 147 = upd (upd (m.1 147) 0 (-1)) 1 (-1) := by
  simp only [er_mA, er_mf, er_m6, er_mh1, er_mt, er_me, ep_mIn, ep_mI1, ep_mLn, ep_mL1, ne_eq, Nat.reduceEqDiff, not_false_eq_true]
theorem er_v128 (m : ep_M) : (er_mA m).1 128 = er_fl (m.1 128) 131072 (eh_nb 0) := by
  simp only [er_mA, er_mf, er_m6, er_mh1, er_mt, er_me, ep_mIn, ep_mI1, ep_mLn, ep_mL1, ne_eq, Nat.reduceEqDiff, not_false_eq_true]
theorem er_v129 (m : ep_M) : (er_mA m).1 129 = er_fl (m.1 129) 448 0 := by
  simp only [er_mA, er_mf, er_m6, er_mh1, er_mt, er_me, ep_mIn, ep_mI1, ep_mLn, ep_mL1, ne_eq, Nat.reduceEqDiff, not_false_eq_true]
theorem er_v148 (m : ep_M) : (er_mA m).1 148 = er_fl (m.1 148) 12 0 := by
  simp only [er_mA, er_mf, er_m6, er_mh1, er_mt, er_me, ep_mIn, ep_mI1, ep_mLn, ep_mL1, ne_eq, Nat.reduceEqDiff, not_false_eq_true]
theorem er_v164 (m : ep_M) : (er_mA m).1 164 = er_fl (m.1 164) 12 0 := by
  simp only [er_mA, er_mf, er_m6, er_mh1, er_mt, er_me, ep_mIn, ep_mI1, ep_mLn, ep_mL1, ne_eq, Nat.reduceEqDiff, not_false_eq_true]
theorem er_v155 (m : ep_M) : (er_mA m).1 155 = er_fl (m.1 155) 6 0 := by
  simp only [er_mA, er_mf, er_m6, er_mh1, er_mt, er_me, ep_mIn, ep_mI1, ep_mLn, ep_mL1, ne_eq, Nat.reduceEqDiff, not_false_eq_true]
theorem er_v158 (m : ep_M) : (er_mA m).1 158 = er_fl (m.1 158) 6 0 := by
  simp only [er_mA, er_mf, er_m6, er_mh1, er_mt, er_me, ep_mIn, ep_mI1, ep_mLn, ep_mL1, ne_eq, Nat.reduceEqDiff, not_false_eq_true]
theorem er_v187 (m : ep_M) : (er_mA m).1 187 = er_fl (m.1 187) 32 (eh_nb 0) := by
  simp only [er_mA, er_mf, er_m6, er_mh1, er_mt, er_me, ep_mIn, ep_mI1, ep_mLn, ep_mL1, ne_eq, Nat.reduceEqDiff, not_false_eq_true]
theorem er_v127 (m : ep_M) : (er_mA m).1 127 = upd (upd (upd (upd (upd (upd (upd (upd (upd (upd (upd (upd (m.1 127) 20 0) 21 0) 22 0) 50 0) 52 0) 58 0) 59 0) 60 0) 62 0) 67 (-1)) 64 0) 66 0 := by
  simp only [er_mA, er_mf, er_m6, er_mh1, er_mt, er_me, ep_mIn, ep_mI1, ep_mLn, ep_mL1, ne_eq, Nat.reduceEqDiff, not_false_eq_true]
theorem er_v145 (m : ep_M) : (er_mA m).1 145 = m.1 145 := by
  simp only [er_mA, er_mf, er_m6, er_mh1, er_mt, er_me, ep_mIn, ep_mI1, ep_mLn, ep_mL1, ne_eq, Nat.reduceEqDiff, not_false_eq_true]
theorem er_v146 (m : ep_M) : (er_mA m).1 146 = m.1 146 := by
  simp only [er_mA, er_mf, er_m6, er_mh1, er_mt, er_me, ep_mIn, ep_mI1, ep_mLn, ep_mL1, ne_eq, Nat.reduceEqDiff, not_false_eq_true]
theorem er_v149 (m : ep_M) : (er_mA m).1 149 = m.1 149 := by
  simp only [er_mA, er_mf, er_m6, er_mh1, er_mt, er_me, ep_mIn, ep_mI1, ep_mLn, ep_mL1, ne_eq, Nat.reduceEqDiff, not_false_eq_true]
theorem er_v150 (m : ep_M) : (er_mA m).1 150 = m.1 150 := by
  simp only [er_mA, er_mf, er_m6, er_mh1, er_mt, er_me, ep_mIn, ep_mI1, ep_mLn, ep_mL1, ne_eq, Nat.reduceEqDiff, not_false_eq_true]
theorem er_v151 (m : ep_M) : (er_mA m).1 151 = m.1 151 := by
  simp only [er_mA, er_mf, er_m6, er_mh1, er_mt, er_me, ep_mIn, ep_mI1, ep_mLn, ep_mL1, ne_eq, Nat.reduceEqDiff, not_false_eq_true]
theorem er_v152 (m : ep_M) : (er_mA m).1 152 = m.1 152 := by
  simp only [er_mA, er_mf, er_m6, er_mh1, er_mt, er_me, ep_mIn, ep_mI1, ep_mLn, ep_mL1, ne_eq, Nat.reduceEqDiff, not_false_eq_true]
theorem er_v153 (m : ep_M) : (er_mA m).1 153 = m.1 153 := by
  simp only [er_mA, er_mf, er_m6, er_mh1, er_mt, er_me, ep_mIn, ep_mI1, ep_mLn, ep_mL1, ne_eq, Nat.reduceEqDiff, not_false_eq_true]
theorem er_v154 (m : ep_M) : (er_mA m).1 154 = m.1 154 := by
  simp only [er_mA, er_mf, er_m6, er_mh1, er_mt, er_me, ep_mIn, ep_mI1, ep_mLn, ep_mL1, ne_eq, Nat.reduceEqDiff, not_false_eq_true]
theorem er_v156 (m : ep_M) : (er_mA m).1 156 = m.1 156 := by
  simp only [er_mA, er_mf, er_m6, er_mh1, er_mt, er_me, ep_mIn, ep_mI1, ep_mLn, ep_mL1, ne_eq, Nat.reduceEqDiff, not_false_eq_true]
theorem er_v157 (m : ep_M) : (er_mA m).1 157 = m.1 157 := by
  simp only [er_mA, er_mf, er_m6, er_mh1, er_mt, er_me, ep_mIn, ep_mI1, ep_mLn, ep_mL1, ne_eq, Nat.reduceEqDiff, not_false_eq_true]
theorem er_v159 (m : ep_M) : (er_mA m).1 159 = m.1 159 := by
  simp only [er_mA, er_mf, er_m6, er_mh1, er_mt, er_me, ep_mIn, ep_mI1, ep_mLn, ep_mL1, ne_eq, Nat.reduceEqDiff, not_false_eq_true]
theorem er_v160 (m : ep_M) : (er_mA m).1 160 = m.1 160 := by
  simp only [er_mA, er_mf, er_m6, er_mh1, er_mt, er_me, ep_mIn, ep_mI1, ep_mLn, ep_mL1, ne_eq, Nat.reduceEqDiff, not_false_eq_true]
theorem er_v161 (m : ep_M) : (er_mA m).1 161 = m.1 161 := by
  simp only [er_mA, er_mf, er_m6, er_mh1, er_mt, er_me, ep_mIn, ep_mI1, ep_mLn, ep_mL1, ne_eq, Nat.reduceEqDiff, not_false_eq_true]
theorem er_v162 (m : ep_M) : (er_mA m).1 162 = m.1 162 := by
  simp only [er_mA, er_mf, er_m6, er_mh1, er_mt, er_me, ep_mIn, ep_mI1, ep_mLn, ep_mL1, ne_eq, Nat.reduceEqDiff, not_false_eq_true]
theorem er_v163 (m : ep_M) : (er_mA m).1 163 = m.1 163 := by
  simp only [er_mA, er_mf, er_m6, er_mh1, er_mt, er_me, ep_mIn, ep_mI1, ep_mLn, ep_mL1, ne_eq, Nat.reduceEqDiff, not_false_eq_true]
theorem er_v165 (m : ep_M) : (er_mA m).1 165 = m.1 165 := by
  simp only [er_mA, er_mf, er_m6, er_mh1, er_mt, er_me, ep_mIn, ep_mI1, ep_mLn, ep_mL1, ne_eq, Nat.reduceEqDiff, not_false_eq_true]
theorem er_v166 (m : ep_M) : (er_mA m).1 166 = m.1 166 := by
  simp only [er_mA, er_mf, er_m6, er_mh1, er_mt, er_me, ep_mIn, ep_mI1, ep_mLn, ep_mL1, ne_eq, Nat.reduceEqDiff, not_false_eq_true]
theorem er_v167 (m : ep_M) : (er_mA m).1 167 = m.1 167 := by
  simp only [er_mA, er_mf, er_m6, er_mh1, er_mt, er_me, ep_mIn, ep_mI1, ep_mLn, ep_mL1, ne_eq, Nat.reduceEqDiff, not_false_eq_true]
theorem er_v168 (m : ep_M) : (er_mA m).1 168 = m.1 168 := by
  simp only [er_mA, er_mf, er_m6, er_mh1, er_mt, er_me, ep_mIn, ep_mI1, ep_mLn, ep_mL1, ne_eq, Nat.reduceEqDiff, not_false_eq_true]
theorem er_v169 (m : ep_M) : (er_mA m).1 169 = m.1 169 := by
  simp only [er_mA, er_mf, er_m6, er_mh1, er_mt, er_me, ep_mIn, ep_mI1, ep_mLn, ep_mL1, ne_eq, Nat.reduceEqDiff, not_false_eq_true]
theorem er_v173 (m : ep_M) : (er_mA m).1 173 = m.1 173 := by
  simp only [er_mA, er_mf, er_m6, er_mh1, er_mt, er_me, ep_mIn, ep_mI1, ep_mLn, ep_mL1, ne_eq, Nat.reduceEqDiff, not_false_eq_true]
theorem er_v174 (m : ep_M) : (er_mA m).1 174 = m.1 174 := by
  simp only [er_mA, er_mf, er_m6, er_mh1, er_mt, er_me, ep_mIn, ep_mI1, ep_mLn, ep_mL1, ne_eq, Nat.reduceEqDiff, not_false_eq_true]
theorem er_v175 (m : ep_M) : (er_mA m).1 175 = m.1 175 := by
  simp only [er_mA, er_mf, er_m6, er_mh1, er_mt, er_me, ep_mIn, ep_mI1, ep_mLn, ep_mL1, ne_eq, Nat.reduceEqDiff, not_false_eq_true]
theorem er_v176 (m : ep_M) : (er_mA m).1 176 = m.1 176 := by
  simp only [er_mA, er_mf, er_m6, er_mh1, er_mt, er_me, ep_mIn, ep_mI1, ep_mLn, ep_mL1, ne_eq, Nat.reduceEqDiff, not_false_eq_true]
theorem er_v177 (m : ep_M) : (er_mA m).1 177 = m.1 177 := by
  simp only [er_mA, er_mf, er_m6, er_mh1, er_mt, er_me, ep_mIn, ep_mI1, ep_mLn, ep_mL1, ne_eq, Nat.reduceEqDiff, not_false_eq_true]
theorem er_v178 (m : ep_M) : (er_mA m).1 178 = m.1 178 := by
  simp only [er_mA, er_mf, er_m6, er_mh1, er_mt, er_me, ep_mIn, ep_mI1, ep_mLn, ep_mL1, ne_eq, Nat.reduceEqDiff, not_false_eq_true]
theorem er_v179 (m : ep_M) : (er_mA m).1 179 = m.1 179 := by
  simp only [er_mA, er_mf, er_m6, er_mh1, er_mt, er_me, ep_mIn, ep_mI1, ep_mLn, ep_mL1, ne_eq, Nat.reduceEqDiff, not_false_eq_true]
theorem er_v180 (m : ep_M) : (er_mA m).1 180 = m.1 180 := by
  simp only [er_mA, er_mf, er_m6, er_mh1, er_mt, er_me, ep_mIn, ep_mI1, ep_mLn, ep_mL1, ne_eq, Nat.reduceEqDiff, not_false_eq_true]
theorem er_v181 (m : ep_M) : (er_mA m).1 181 = m.1 181 := by
  simp only [er_mA, er_mf, er_m6, er_mh1, er_mt, er_me, ep_mIn, ep_mI1, ep_mLn, ep_mL1, ne_eq, Nat.reduceEqDiff, not_false_eq_true]
theorem er_v182 (m : ep_M) : (er_mA m).1 182 = m.1 182 := by
  simp only [er_mA, er_mf, er_m6, er_mh1, er_mt, er_me, ep_mIn, ep_mI1, ep_mLn, ep_mL1, ne_eq, Nat.reduceEqDiff, not_false_eq_true]
theorem er_v183 (m : ep_M) : (er_mA m).1 183 = m.1 183 := by
  simp only [er_mA, er_mf, er_m6, er_mh1, er_mt, er_me, ep_mIn, ep_mI1, ep_mLn, ep_mL1, ne_eq, Nat.reduceEqDiff, not_false_eq_true]
theorem er_v184 (m : ep_M) : (er_mA m).1 184 = m.1 184 := by
  simp only [er_mA, er_mf, er_m6, er_mh1, er_mt, er_me, ep_mIn, ep_mI1, ep_mLn, ep_mL1, ne_eq, Nat.reduceEqDiff, not_false_eq_true]
theorem er_v185 (m : ep_M) : (er_mA m).1 185 = m.1 185 := by
  simp only [er_mA, er_mf, er_m6, er_mh1, er_mt, er_me, ep_mIn, ep_mI1, ep_mLn, ep_mL1, ne_eq, Nat.reduceEqDiff, not_false_eq_true]
theorem er_u9 (c : ep_C) : (er_cA c).1 9 = er_fl (c.1 9) 32768 0 := by
  simp only [er_cA, er_c1, er_c0, er_cf, ep_cIn, ep_cI1, ep_cLn, ep_cL1, ne_eq, Nat.reduceEqDiff, not_false_eq_true]
theorem er_u10 (c : ep_C) : (er_cA c).1 10 = er_fl (c.1 10) 512 (-1) := by
  simp only [er_cA, er_c1, er_c0, er_cf, ep_cIn, ep_cI1, ep_cLn, ep_cL1, ne_eq, Nat.reduceEqDiff, not_false_eq_true]
theorem er_u3 (c : ep_C) : (er_cA c).1 3 = er_fl (c.1 3) 12 0 := by
  simp only [er_cA, er_c1, er_c0, er_cf, ep_cIn, ep_cI1, ep_cLn, ep_cL1, ne_eq, Nat.reduceEqDiff, not_false_eq_true]
theorem er_u11 (c : ep_C) : (er_cA c).1 11 = er_fl (c.1 11) 2 (-1) := by
  simp only [er_cA, er_c1, er_c0, er_cf, ep_cIn, ep_cI1, ep_cLn, ep_cL1, ne_eq, Nat.reduceEqDiff, not_false_eq_true]
theorem er_u34 (c : ep_C) : (er_cA c).1 34 = er_fl (c.1 34) 8 0 := by
  simp only [er_cA, er_c1, er_c0, er_cf, ep_cIn, ep_cI1, ep_cLn, ep_cL1, ne_eq, Nat.reduceEqDiff, not_false_eq_true]
theorem er_u12 (c : ep_C) : (er_cA c).1 12 = upd (upd (upd (upd (upd (upd (c.1 12) 0 0) 1 0) 7 0) 8 0) 9 0) 14 (-1) := by
  simp only [er_cA, er_c1, er_c0, er_cf, ep_cIn, ep_cI1, ep_cLn, ep_cL1, ne_eq, Nat.reduceEqDiff, not_false_eq_true]
theorem er_u18 (c : ep_C) : (er_cA c).1 18 = upd (c.1 18) 1 0 := by
  simp only [er_cA, er_c1, er_c0, er_cf, ep_cIn, ep_cI1, ep_cLn, ep_cL1, ne_eq, Nat.reduceEqDiff, not_false_eq_true]
theorem er_u20 (c : ep_C) : (er_cA c).1 20 = upd (c.1 20) 1 0 := by
  simp only [er_cA, er_c1, er_c0, er_cf, ep_cIn, ep_cI1, ep_cLn, ep_cL1, ne_eq, Nat.reduceEqDiff, not_false_eq_true]
theorem er_u22 (c : ep_C) : (er_cA c).1 22 = upd (c.1 22) 1 0 := by
  simp only [er_cA, er_c1, er_c0, er_cf, ep_cIn, ep_cI1, ep_cLn, ep_cL1, ne_eq, Nat.reduceEqDiff, not_false_eq_true]
theorem er_u24 (c : ep_C) : (er_cA c).1 24 = upd (c.1 24) 1 0 := by
  simp only [er_cA, er_c1, er_c0, er_cf, ep_cIn, ep_cI1, ep_cLn, ep_cL1, ne_eq, Nat.reduceEqDiff, not_false_eq_true]
theorem er_u1 (c : ep_C) : (er_cA c).1 1 = upd (upd (c.1 1) 10 0) 11 0 := by
  simp only [er_cA, er_c1, er_c0, er_cf, ep_cIn, ep_cI1, ep_cLn, ep_cL1, ne_eq, Nat.reduceEqDiff, not_false_eq_true]
theorem er_u4 (c : ep_C) : (er_cA c).1 4 = c.1 4 := by
  simp only [er_cA, er_c1, er_c0, er_cf, ep_cIn, ep_cI1, ep_cLn, ep_cL1, ne_eq, Nat.reduceEqDiff, not_false_eq_true]
theorem er_u5 (c : ep_C) : (er_cA c).1 5 = c.1 5 := by
  simp only [er_cA, er_c1, er_c0, er_cf, ep_cIn, ep_cI1, ep_cLn, ep_cL1, ne_eq, Nat.reduceEqDiff, not_false_eq_true]
theorem er_u6 (c : ep_C) : (er_cA c).1 6 = c.1 6 := by
  simp only [er_cA, er_c1, er_c0, er_cf, ep_cIn, ep_cI1, ep_cLn, ep_cL1, ne_eq, Nat.reduceEqDiff, not_false_eq_true]
theorem er_u7 (c : ep_C) : (er_cA c).1 7 = c.1 7 := by
  simp only [er_cA, er_c1, er_c0, er_cf, ep_cIn, ep_cI1, ep_cLn, ep_cL1, ne_eq, Nat.reduceEqDiff, not_false_eq_true]
theorem er_u8 (c : ep_C) : (er_cA c).1 8 = c.1 8 := by
  simp only [er_cA, er_c1, er_c0, er_cf, ep_cIn, ep_cI1, ep_cLn, ep_cL1, ne_eq, Nat.reduceEqDiff, not_false_eq_true]
theorem er_u13 (c : ep_C) : (er_cA c).1 13 = c.1 13 := by
  simp only [er_cA, er_c1, er_c0, er_cf, ep_cIn, ep_cI1, ep_cLn, ep_cL1, ne_eq, Nat.reduceEqDiff, not_false_eq_true]
theorem er_u14 (c : ep_C) : (er_cA c).1 14 = c.1 14 := by
  simp only [er_cA, er_c1, er_c0, er_cf, ep_cIn, ep_cI1, ep_cLn, ep_cL1, ne_eq, Nat.reduceEqDiff, not_false_eq_true]
theorem er_u15 (c : ep_C) : (er_cA c).1 15 = c.1 15 := by
  simp only [er_cA, er_c1, er_c0, er_cf, ep_cIn, ep_cI1, ep_cLn, ep_cL1, ne_eq, Nat.reduceEqDiff, not_false_eq_true]
theorem er_u16 (c : ep_C) : (er_cA c).1 16 = c.1 16 := by
  simp only [er_cA, er_c1, er_c0, er_cf, ep_cIn, ep_cI1, ep_cLn, ep_cL1, ne_eq, Nat.reduceEqDiff, not_false_eq_true]
theorem er_u17 (c : ep_C) : (er_cA c).1 17 = c.1 17 := by
  simp only [er_cA, er_c1, er_c0, er_cf, ep_cIn, ep_cI1, ep_cLn, ep_cL1, ne_eq, Nat.reduceEqDiff, not_false_eq_true]
theorem er_u19 (c : ep_C) : (er_cA c).1 19 = c.1 19 := by
  simp only [er_cA, er_c1, er_c0, er_cf, ep_cIn, ep_cI1, ep_cLn, ep_cL1, ne_eq, Nat.reduceEqDiff, not_false_eq_true]
theorem er_u21 (c : ep_C) : (er_cA c).1 21 = c.1 21 := by
  simp only [er_cA, er_c1, er_c0, er_cf, ep_cIn, ep_cI1, ep_cLn, ep_cL1, ne_eq, Nat.reduceEqDiff, not_false_eq_true]
theorem er_u23 (c : ep_C) : (er_cA c).1 23 = c.1 23 := by
  simp only [er_cA, er_c1, er_c0, er_cf, ep_cIn, ep_cI1, ep_cLn, ep_cL1, ne_eq, Nat.reduceEqDiff, not_false_eq_true]
theorem er_u25 (c : ep_C) : (er_cA c).1 25 = c.1 25 := by
  simp only [er_cA, er_c1, er_c0, er_cf, ep_cIn, ep_cI1, ep_cLn, ep_cL1, ne_eq, Nat.reduceEqDiff, not_false_eq_true]
theorem er_u37 (c : ep_C) : (er_cA c).1 37 = c.1 37 := by
  simp only [er_cA, er_c1, er_c0, er_cf, ep_cIn, ep_cI1, ep_cLn, ep_cL1, ne_eq, Nat.reduceEqDiff, not_false_eq_true]
theorem er_u38 (c : ep_C) : (er_cA c).1 38 = c.1 38 := by
  simp only [er_cA, er_c1, er_c0, er_cf, ep_cIn, ep_cI1, ep_cLn, ep_cL1, ne_eq, Nat.reduceEqDiff, not_false_eq_true]
theorem er_u39 (c : ep_C) : (er_cA c).1 39 = c.1 39 := by
  simp only [er_cA, er_c1, er_c0, er_cf, ep_cIn, ep_cI1, ep_cLn, ep_cL1, ne_eq, Nat.reduceEqDiff, not_false_eq_true]
theorem er_u40 (c : ep_C) : (er_cA c).1 40 = c.1 40 := by
  simp only [er_cA, er_c1, er_c0, er_cf, ep_cIn, ep_cI1, ep_cLn, ep_cL1, ne_eq, Nat.reduceEqDiff, not_false_eq_true]
theorem er_uF (c : ep_C) : (er_cA c).2.1 = er_G c.2.1 := by
  unfold er_cA er_cf
  simp only [ep_cI2, ep_cL2, er_c1]
def er_B (N : Nat) (c : ep_C) (m : ep_M) : Prop :=
  ep_Gm (c.1 9) (m.1 128) ∧ ep_Gm (c.1 13) (m.1 175) ∧
  (c.1 3 = m.1 164 ∧ c.1 4 = m.1 165 ∧ c.1 5 = m.1 166 ∧ c.1 6 = m.1 167 ∧ c.1 7 = m.1 168 ∧ c.1 8 = m.1 169) ∧
  (∀ h, h < 2 → c.2.1 0 h 0 = nI h) ∧
  ep_Gf (c.2.1 2) (m.1 130) (m.1 148) (m.1 149) (m.1 150) (m.1 151) (m.1 152) (m.1 153) (m.1 154) ∧
  ep_Gfa (m.1 130) (m.1 152) (m.1 153) (m.1 154) ∧
  ep_Ge (c.2.1 4) (m.1 155) (m.1 156) (m.1 157) (m.1 158) (m.1 163) (m.1 161) ∧
  ep_Gd 6 32 0 (c.2.1 9) (m.1 159) ∧ ep_Gd 6 32 0 (c.2.1 10) (m.1 160) ∧ ep_Gd 6 64 0 (c.2.1 11) (m.1 162) ∧ ep_Gd 6 64 32 (c.2.1 12) (m.1 162) ∧
  ep_Gev N (c.1 1 11) (m.1 127 50) (c.1 38) (m.1 173) ∧
  ep_Gcn N (c.1 1 12) (m.1 127 70) (c.1 39) (c.1 40) (m.1 183) (m.1 184) (m.1 159) ∧
  ep_Gd1 (c.1 37) (m.1 185) ∧
  (c.1 14 = m.1 176 ∧ c.1 15 = m.1 177 ∧ c.1 16 = m.1 178 ∧ c.1 17 = m.1 179) ∧
  ep_Grb 1024 (c.1 18 1) (c.1 19) (m.1 127 52) (m.1 174) ∧
  ep_Gro 16 (c.1 20 1) (c.1 21) (m.1 127 62) (m.1 180) ∧
  ep_Gro 16 (c.1 22 1) (c.1 23) (m.1 127 64) (m.1 181) ∧
  ep_Grb 64 (c.1 24 1) (c.1 25) (m.1 127 66) (m.1 182)
theorem er_B_of {N : Nat} {c : ep_C} {m : ep_M} (hR : ep_R N c m) : er_B N c m :=
  ⟨hR.1, hR.2.1, hR.2.2.1, fun h hh => (hR.2.2.2.2.2.2.2.1 h hh).1, hR.2.2.2.2.2.2.2.2.2.2.1, hR.2.2.2.2.2.2.2.2.2.2.2.1, hR.2.2.2.2.2.2.2.2.2.2.2.2.2.2.2.2.1, hR.2.2.2.2.2.2.2.2.2.2.2.2.2.2.2.2.2.2.1, hR.2.2.2.2.2.2.2.2.2.2.2.2.2.2.2.2.2.2.2.1, hR.2.2.2.2.2.2.2.2.2.2.2.2.2.2.2.2.2.2.2.2.1, hR.2.2.2.2.2.2.2.2.2.2.2.2.2.2.2.2.2.2.2.2.2.1, hR.2.2.2.2.2.2.2.2.2.2.2.2.2.2.2.2.2.2.2.2.2.2.2.1, hR.2.2.2.2.2.2.2.2.2.2.2.2.2.2.2.2.2.2.2.2.2.2.2.2.1, hR.2.2.2.2.2.2.2.2.2.2.2.2.2.2.2.2.2.2.2.2.2.2.2.2.2.2.2.1, ⟨hR.2.2.2.2.2.2.2.2.2.2.2.2.2.2.2.2.2.2.2.2.2.2.2.2.2.2.2.2.2.1.1, hR.2.2.2.2.2.2.2.2.2.2.2.2.2.2.2.2.2.2.2.2.2.2.2.2.2.2.2.2.2.1.2.1, hR.2.2.2.2.2.2.2.2.2.2.2.2.2.2.2.2.2.2.2.2.2.2.2.2.2.2.2.2.2.1.2.2.1, hR.2.2.2.2.2.2.2.2.2.2.2.2.2.2.2.2.2.2.2.2.2.2.2.2.2.2.2.2.2.1.2.2.2.1⟩, hR.2.2.2.2.2.2.2.2.2.2.2.2.2.2.2.2.2.2.2.2.2.2.2.2.2.2.2.2.2.2.1, hR.2.2.2.2.2.2.2.2.2.2.2.2.2.2.2.2.2.2.2.2.2.2.2.2.2.2.2.2.2.2.2.1, hR.2.2.2.2.2.2.2.2.2.2.2.2.2.2.2.2.2.2.2.2.2.2.2.2.2.2.2.2.2.2.2.2.1, hR.2.2.2.2.2.2.2.2.2.2.2.2.2.2.2.2.2.2.2.2.2.2.2.2.2.2.2.2.2.2.2.2.2⟩
theorem er_bw0 {b : Nat → Int32} {o : Nat} (h : ∀ i, i < 4 → b (o + i) = 0) : ep_bw b o = 0 := by
  have h0 := h 0 (by decide)
  rw [Nat.add_zero] at h0
  unfold ep_bw
  rw [h0, h 1 (by decide), h 2 (by decide), h 3 (by decide)]
  decide
theorem er_u2 {f : Nat → Int32} {v : Int32} {h : Nat} (hh : h < 2) : upd (upd f 0 v) 1 v h = v := by
  have : h = 0 ∨ h = 1 := by omega
  rcases this with rfl | rfl
  · rw [ep_upd_ne (by decide), ep_upd_eq]
  · rw [ep_upd_eq]
set_option maxHeartbeats 4000000 in
theorem er_RA {N : Nat} {c : ep_C} {m : ep_M} (hB : er_B N c m) {g g' : Nat → Int32} (hg : ep_Gd1 g g') : ep_R N (ep_cL (er_cA c) 33 g) (ep_mL (er_mA m) 186 g') := by
  obtain ⟨mem, dsk, reg, hid, f, fa, e, mea, rec, mai, snd, ev, cn, dev, dm, con, sk, pk, pan⟩ := hB
  have C : ∀ k, k ≠ 33 → (ep_cL (er_cA c) 33 g).1 k = (er_cA c).1 k := fun k hk => ep_cLn _ _ _ _ hk
  have C33 : (ep_cL (er_cA c) 33 g).1 33 = g := ep_cL1 _ _ _
  have F : (ep_cL (er_cA c) 33 g).2.1 = er_G c.2.1 := er_uF c
  have M : ∀ k, k ≠ 186 → (ep_mL (er_mA m) 186 g').1 k = (er_mA m).1 k := fun k hk => ep_mLn _ _ _ _ hk
  have M186 : (ep_mL (er_mA m) 186 g').1 186 = g' := ep_mL1 _ _ _
  generalize hc : ep_cL (er_cA c) 33 g = c' at *
  generalize hm : ep_mL (er_mA m) 186 g' = m' at *
  unfold ep_R
  rw [C33, M186, F]
  simp only [C _ (show 1 ≠ 33 by decide), C _ (show 3 ≠ 33 by decide), C _ (show 4 ≠ 33 by decide), C _ (show 5 ≠ 33 by decide), C _ (show 6 ≠ 33 by decide), C _ (show 7 ≠ 33 by decide), C _ (show 8 ≠ 33 by decide), C _ (show 9 ≠ 33 by decide), C _ (show 10 ≠ 33 by decide), C _ (show 11 ≠ 33 by decide), C _ (show 12 ≠ 33 by decide), C _ (show 13 ≠ 33 by decide), C _ (show 14 ≠ 33 by decide), C _ (show 15 ≠ 33 by decide), C _ (show 16 ≠ 33 by decide), C _ (show 17 ≠ 33 by decide), C _ (show 18 ≠ 33 by decide), C _ (show 19 ≠ 33 by decide), C _ (show 20 ≠ 33 by decide), C _ (show 21 ≠ 33 by decide), C _ (show 22 ≠ 33 by decide), C _ (show 23 ≠ 33 by decide), C _ (show 24 ≠ 33 by decide), C _ (show 25 ≠ 33 by decide), C _ (show 34 ≠ 33 by decide), C _ (show 37 ≠ 33 by decide), C _ (show 38 ≠ 33 by decide), C _ (show 39 ≠ 33 by decide), C _ (show 40 ≠ 33 by decide), M _ (show 127 ≠ 186 by decide), M _ (show 128 ≠ 186 by decide), M _ (show 129 ≠ 186 by decide), M _ (show 130 ≠ 186 by decide), M _ (show 131 ≠ 186 by decide), M _ (show 132 ≠ 186 by decide), M _ (show 133 ≠ 186 by decide), M _ (show 134 ≠ 186 by decide), M _ (show 135 ≠ 186 by decide), M _ (show 136 ≠ 186 by decide), M _ (show 137 ≠ 186 by decide), M _ (show 138 ≠ 186 by decide), M _ (show 139 ≠ 186 by decide), M _ (show 140 ≠ 186 by decide), M _ (show 141 ≠ 186 by decide), M _ (show 142 ≠ 186 by decide), M _ (show 143 ≠ 186 by decide), M _ (show 144 ≠ 186 by decide), M _ (show 145 ≠ 186 by decide), M _ (show 146 ≠ 186 by decide), M _ (show 147 ≠ 186 by decide), M _ (show 148 ≠ 186 by decide), M _ (show 149 ≠ 186 by decide), M _ (show 150 ≠ 186 by decide), M _ (show 151 ≠ 186 by decide), M _ (show 152 ≠ 186 by decide), M _ (show 153 ≠ 186 by decide), M _ (show 154 ≠ 186 by decide), M _ (show 155 ≠ 186 by decide), M _ (show 156 ≠ 186 by decide), M _ (show 157 ≠ 186 by decide), M _ (show 158 ≠ 186 by decide), M _ (show 159 ≠ 186 by decide), M _ (show 160 ≠ 186 by decide), M _ (show 161 ≠ 186 by decide), M _ (show 162 ≠ 186 by decide), M _ (show 163 ≠ 186 by decide), M _ (show 164 ≠ 186 by decide), M _ (show 165 ≠ 186 by decide), M _ (show 166 ≠ 186 by decide), M _ (show 167 ≠ 186 by decide), M _ (show 168 ≠ 186 by decide), M _ (show 169 ≠ 186 by decide), M _ (show 173 ≠ 186 by decide), M _ (show 174 ≠ 186 by decide), M _ (show 175 ≠ 186 by decide), M _ (show 176 ≠ 186 by decide), M _ (show 177 ≠ 186 by decide), M _ (show 178 ≠ 186 by decide), M _ (show 179 ≠ 186 by decide), M _ (show 180 ≠ 186 by decide), M _ (show 181 ≠ 186 by decide), M _ (show 182 ≠ 186 by decide), M _ (show 183 ≠ 186 by decide), M _ (show 184 ≠ 186 by decide), M _ (show 185 ≠ 186 by decide), M _ (show 187 ≠ 186 by decide), er_u1, er_u3, er_u4, er_u5, er_u6, er_u7, er_u8, er_u9, er_u10, er_u11, er_u12, er_u13, er_u14, er_u15, er_u16, er_u17, er_u18, er_u19, er_u20, er_u21, er_u22, er_u23, er_u24, er_u25, er_u34, er_u37, er_u38, er_u39, er_u40, er_v127, er_v128, er_v129, er_v130, er_v131, er_v132, er_v133, er_v134, er_v135, er_v136, er_v137, er_v138, er_v139, er_v140, er_v141, er_v142, er_v143, er_v144, er_v145, er_v146, er_v147, er_v148, er_v149, er_v150, er_v151, er_v152, er_v153, er_v154, er_v155, er_v156, er_v157, er_v158, er_v159, er_v160, er_v161, er_v162, er_v163, er_v164, er_v165, er_v166, er_v167, er_v168, er_v169, er_v173, er_v174, er_v175, er_v176, er_v177, er_v178, er_v179, er_v180, er_v181, er_v182, er_v183, er_v184, er_v185, er_v187]
  have hE : ∀ e', e' < 6 → er_fl (m.1 155) 6 0 e' = 0 := fun e' h => er_fly h
  have hT : ∀ t, t < 12 → er_fl (m.1 148) 12 0 t = 0 := fun t h => er_fly h
  have hS : ∀ k, k < 12 → er_fl (m.1 164) 12 0 k = 0 := fun t h => er_fly h
  have hbo : ep_bo (eh_nz 0) := Or.inl rfl
  refine ⟨?mem, dsk, ?reg, ?rgn, ?res, ?hx, ?x0, ?h, ?ha, ?rd, ?f, ?fa, ?fx, ?fh, ?ru, ?t, ?e, ?en, ?mea, ?rec, ?mai, ?snd, ?st, ?ev, cn, hg, ?log, dev, ?dv, ?dm, ?con, ?sk, ?pk, ?pan⟩
  case mem => exact ep_Gm_z mem 0 512
  case reg =>
    obtain ⟨r3, r⟩ := reg
    exact ⟨by rw [r3], r⟩
  case rgn =>
    refine ⟨fun k hk h0 => absurd (hS k hk) h0, fun p hp => Or.inl (er_fly hp), fun e' he' h0 => absurd (hE e' he') h0⟩
  case res => exact fun h hh => Or.inl ⟨er_fly hh, er_u2 hh⟩
  case hx =>
    intro h hh j hj
    rw [er_G1 _ hh, er_fly hj, er_fly (by omega)]
  case x0 => exact fun h hh => er_fly (by omega)
  case h =>
    intro h hh
    rw [er_G0 _ hh]
    simp only [er_u2 hh]
    refine ⟨?_, rfl, rfl, rfl, rfl, rfl, rfl, rfl, rfl, rfl, rfl, rfl, rfl, rfl, rfl, rfl⟩
    exact hid h hh
  case ha =>
    intro h hh
    simp only [er_u2 hh]
    exact ⟨rfl, Or.inr rfl, hbo, rfl, rfl, (by first | exact Or.inl rfl | exact Or.inl trivial)⟩
  case rd => exact fun h hh h0 => absurd (er_u2 hh) h0
  case f =>
    intro t ht
    obtain ⟨f0, f2, f3, f4, f5, f6, f'⟩ := f t ht
    rw [er_G2 _ ht, ep_upd_ne (show 2 + t ≠ 1 by omega), ep_upd_ne (show 2 + t ≠ 0 by omega), hT t ht]
    exact ⟨f0, f2, f3, f4, f5, rfl, f'⟩
  case fa =>
    intro t ht
    rw [ep_upd_ne (show 2 + t ≠ 1 by omega), ep_upd_ne (show 2 + t ≠ 0 by omega)]
    exact fa t ht
  case fx => exact fun t ht h0 => absurd (hT t ht) h0
  case fh => exact fun t ht h0 => absurd (hT t ht) h0
  case ru => exact fun h hh => Or.inl (er_u2 hh)
  case t => exact fun t ht h0 => absurd (hT t ht) h0
  case e =>
    intro e' he'
    obtain ⟨e5, e6, e7, e8, e9, e11, em, -, -⟩ := e e' he'
    rw [er_G4 _ he', hE e' he']
    refine ⟨rfl, e6, e7, (er_fly he').symm, e9, e11, em, Or.inl rfl, fun z => absurd z (by decide)⟩
  case en => exact fun e' he' h0 => absurd (hE e' he') h0
  case mea =>
    intro e' he' j hj
    rw [er_Gi _ (by decide)]; exact mea e' he' j hj
  case rec =>
    intro e' he' j hj
    rw [er_Gi _ (by decide)]; exact rec e' he' j hj
  case mai =>
    intro e' he' j hj
    rw [er_Gi _ (by decide)]; exact mai e' he' j hj
  case snd =>
    intro e' he' j hj
    rw [er_Gi _ (by decide)]; exact snd e' he' j hj
  case st =>
    intro e' he' h1
    rw [hE e' he'] at h1
    exact absurd h1 (by decide)
  case ev => exact ⟨ev.1, rfl, 0, Nat.zero_le _, rfl⟩
  case log =>
    intro j hj
    rw [er_fly hj, er_bw0]
    intro i hi
    exact er_fly (by omega)
  case dv => exact ⟨rfl, rfl, Or.inl rfl, rfl, Or.inl rfl, rfl, rfl, rfl, rfl, Or.inl rfl, 0, by decide, rfl⟩
  case dm =>
    refine ⟨dm.1, dm.2.1, dm.2.2.1, dm.2.2.2, fun n i h1 h2 h3 => ?_⟩
    have : (nI 0 : Int32) = nI n := h1
    have := (nI_eq (by decide) (by omega)).mp this
    omega
  case con => exact ⟨con.1, rfl, 0, by decide, rfl⟩
  case sk => exact ⟨sk.1, rfl, 0, by decide, rfl⟩
  case pk => exact ⟨pk.1, rfl, 0, by decide, rfl⟩
  case pan => exact ⟨pan.1, rfl, 0, by decide, rfl⟩
theorem er_K33 {c c' : ep_C} (h : ep_K c c') (g : Nat → Int32) : ep_K (ep_cL c 33 g) (ep_cL c' 33 g) := by
  refine ⟨h.1, fun k a1 a2 a3 a4 a5 a6 a7 => ?_⟩
  by_cases e : k = 33
  · subst e; rw [ep_cL1, ep_cL1]
  · rw [ep_cLn _ _ _ _ e, ep_cLn _ _ _ _ e, h.2 k a1 a2 a3 a4 a5 a6 a7]
theorem er_L186 {m m' : ep_M} (h : ep_L m m') (g : Nat → Int32) : ep_L (ep_mL m 186 g) (ep_mL m' 186 g) := by
  refine ⟨fun k a0 a1 a2 a3 a4 a5 a6 a7 a8 a9 a10 => ?_, fun j a b => ?_, fun e st he hok hs => ?_⟩
  · by_cases e : k = 186
    · subst e; rw [ep_mL1, ep_mL1]
    · rw [ep_mLn _ _ _ _ e, ep_mLn _ _ _ _ e, h.1 k a0 a1 a2 a3 a4 a5 a6 a7 a8 a9 a10]
  · rw [ep_mLn _ _ _ _ (by decide), ep_mLn _ _ _ _ (by decide)]; exact h.2.1 j a b
  · exact h.2.2 e st he hok hs
theorem er_root (m : ep_M) (c0 : ep_C) : eh_loop (fun (r29 : (Int32 × eh_F) → Option (eh_F)) (t26 : Int32 × eh_F) => if t26.1 < 32 then (if eh_in t26.1 32 then if eh_in t26.1 32 then eh_V (eh_tI t26.2 186 (eh_ix t26.1) (eh_nb (t26.2.1 194 (eh_ix t26.1)))) (fun s31 => eh_V ((t26.1 + 1) : Int32) (fun x32 => r29 (x32, s31))) else none else none) else (some t26.2)) eh_FU (0, ep_mk c0 m) = some (ep_mk c0 (ep_mL m 186 (ep_in_ (m.1 186) 0 32 fun k => eh_nb (m.1 194 k)))) := by
  refine ep_loop (fun i => (nI i, ep_mk c0 (ep_mL m 186 (ep_in_ (m.1 186) 0 i fun k => eh_nb (m.1 194 k))))) 32 _ (ep_FU _ (by decide)) ?_ ?_ ?_
  · intro i hi rec
    have i32 : eh_in (nI i) 32 = true := ep_in hi (by decide)
    show (if nI i < 32 then _ else _) = _
    rw [if_pos (show nI i < 32 from nI_lt (b := 32) hi (by decide)), if_pos i32, if_pos i32, ep_V, ep_V, ep_ix (by omega), ep_rM _ _ 194 (by decide), ep_mLn _ _ _ _ (by decide), ep_iM _ _ _ _ _ (by decide), ep_mLI, ep_in_z _ _ (fun k => eh_nb (m.1 194 k)) rfl, nI_1]
  · intro rec
    show (if nI 32 < 32 then _ else _) = _
    rw [if_neg (by decide)]
  · show _ = (nI 0, ep_mk c0 (ep_mL m 186 (ep_in_ (m.1 186) 0 0 _)))
    rw [ep_in_0, ep_mLid]; rfl
theorem er_restart {N : Nat} {c : ep_C} {m : ep_M} (hB : er_B N c m) (v : Int32) : ∃ c' m', (∀ m0, eF_5_restart (ep_mk c m0) v = some (ep_mk c' m0)) ∧ (∀ c0, eF_12_boot (ep_mk c0 m) v = some (er_ct (m.1 155) 6, ep_mk c0 m')) ∧ ep_R N c' m' := by
  have dev : ep_Gd1 (c.1 37) (m.1 185) := hB.2.2.2.2.2.2.2.2.2.2.2.2.2.1
  obtain ⟨c2, m2, a1, b1, k1, l1, s1, z1⟩ := ep_ksbegin (er_cA c) (er_mA m) 37 (c.1 37) (m.1 185) (by decide) (fun m0 => by rw [ep_rC1 _ _ _ (by decide), er_u37]) dev
  obtain ⟨c3, m3, a2, b2, k2, l2, s2, z2⟩ := ep_ksnum s1 (by decide) v
  have K3 := ep_K_tr k1 k2
  have L3 := ep_L_tr l1 l2
  have h185 : m3.1 185 = m.1 185 := by rw [ep_Lk L3 185 (by omega), er_v185]
  obtain ⟨T, c5, m5, a, b, d1, d2, d3, d4⟩ := ep_ksend (c := c3) (m := m3) 37 33 185 (c.1 37) (by rw [h185]; exact s2) (by decide) (by decide) (fun m0 => by rw [ep_rC1 _ _ _ (by decide), ep_K1 K3 37 (by decide), er_u37]) (fun j hj => by rw [h185]; exact dev j hj) (by decide)
  have K5 := ep_K_tr K3 d1
  have L5 := ep_L_tr L3 d2
  have hg : ep_Gd1 (ep_w8 (c3.1 33) T 8) (ep_in_ (m5.1 186) 0 32 fun k => eh_nb (m5.1 194 k)) := by
    intro j hj
    rw [ep_w8_lt _ _ _ hj]
    have h1 := ep_bw_wr (m3.1 194) 0 T j hj
    rw [Nat.zero_add, ← d3] at h1
    rw [← h1]
    refine ep_bw_255 fun i hi => ?_
    rw [ep_in_y (by omega), ep_nb255]
  refine ⟨ep_cL c5 33 (ep_w8 (c3.1 33) T 8), ep_mL m5 186 (ep_in_ (m5.1 186) 0 32 fun k => eh_nb (m5.1 194 k)), fun m0 => ?_, fun c0 => ?_, ep_R_L (ep_R_K (er_RA hB hg) (er_K33 K5 _)) (er_L186 L5 _)⟩
  · rw [er_crst, a1 m0, ep_sb, a2 m0, ep_sb, a m0, ep_sb, ep_wC1 _ _ _ _ (by decide), ep_rC1 _ _ 33 (by decide)]
  · rw [er_mboot, ep_V, b1 c0, b2 c0, ep_sb, b c0, ep_sb]
    exact ep_bnd (er_root m5 c0) rfl
theorem er_boot (N : Nat) (v : Int32) : er_P N 0 (fun s => eF_11_boot s v) (fun s => eF_12_boot s v) := by
  intro c m hR
  obtain ⟨c', m', h1, h2, h3⟩ := er_restart (er_B_of hR) v
  refine ⟨er_ct (m.1 155) 6, c', m', fun m0 => ?_, h2, h3⟩
  show eF_11_boot _ v = _
  unfold eF_11_boot
  rw [er_ctE hR, ep_sb, h1 m0, ep_sb]
