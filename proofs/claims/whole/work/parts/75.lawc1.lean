/-! the law's cases: power, leaf, equal -/
section LC1
variable {p : Program} {l : Launch} {e : Env} {s : State} {m : MethodId} {below : List Frame} {meth : Method} {c : Code} {H : Heap} {locs : List Loc} {cells slots n b L i : Nat} {ls : Array Slot} {Q : State → Prop} {D : va_G} {ca : Nat → ClassId} {ad am : Nat → Nat} {ct : Nat → va_E} {ar : Nat → Nat → Nat} {xs : Nat → Int32}

set_option maxHeartbeats 4000000 in
set_option maxRecDepth 100000 in
/-- power on the two sides -/
theorem lc_power (X : lX p s m c b L xs D ca) (hJ : lJ D ca s H locs n ad ct am ar) (hC : Cp ca n ad ct ar) (hl : lv_has ls 4 [(3, .int (nI i)), (2, .ref (am 0)), (1, .ref (ad 0)), (0, .ref b)]) (hi : i + 5 ≤ L) (hcc : cells + 3 ≤ room_1.cells) (hss : slots + 11 ≤ room_1.slots) (kk : lK p l e s m b below meth c Q D ca am (ad 0) cells slots ls) : W p l e room_1 s m #[Value.ref b] below meth c H locs cells slots Q (F0 m 128 ls []) := by
  obtain ⟨hx, hb, hml, hown, hts, hN, hK, hXs, hbl, hL⟩ := X
  obtain ⟨tt, bb, ee, N, dd, sc, sk, rw0, fk, ln, lo, st, sb, se, M, slo, hCw, hcX, hsM⟩ := hC
  obtain ⟨g1, g2, g3, g4, g5, g6, g7, g8⟩ := id hCw
  obtain ⟨x1, x2, x3, x4, x5, x6, x7, x8, x9, x10⟩ := id hcX
  have hI := lJ_dI hJ
  have hmI := lJ_mI hJ
  have hs1 := (cT_tT x1).1
  have hl2 := (cT_tT x1).2.1
  have hbs := fun i hi => (x2.1 i hi).1
  have his := fun i hi => (x2.1 i hi).2
  have ht : ar 0 0 ≤ 6 := hsM.1 ▸ hsM.2.1
  have hat : ar 6 (ar 0 0) < 90 := hsM.1 ▸ sM_lt hsM
  refine lv_aload_n hx hb d_law_128 rfl (lv_at hl 2 rfl) ?_
  refine l_rd hx hb hXs hbl hJ hl hL hi 1 rfl (by decide) d_law_129 d_law_130 d_law_131 d_law_132 d_law_133 ?_
  refine l_rd hx hb hXs hbl hJ hl hL hi 2 rfl (by decide) d_law_134 d_law_135 d_law_136 d_law_137 d_law_138 ?_
  refine ld_cr (index := 13) (k := 2) (As := [.int (nI (xN xs (i + 1))), .int (nI (xN xs (i + 2)))]) (rest := []) ⟨hx, hb, hml, hown, hts⟩ (k_powerD l D ca n ad ct _ sc g1 g3.1 (xN xs (i + 1)) (xN xs (i + 2)) (xN_lt xs (i + 1)) (xN_lt xs (i + 2))) mk_L_13 mo_D_power me_D_D_power_D mi_D mc_D_power (by decide +kernel) ⟨rfl, rfl⟩ ⟨Nat.le_of_ble_eq_true rfl, Nat.le_of_ble_eq_true rfl⟩ hN hK hJ g1 g3.1 rfl hl.1 rfl (Nat.le_of_ble_eq_true rfl) d_law_139 ⟨by omega, by omega⟩ ?_
  refine lv_aload_n hx hb d_law_142 rfl (lv_at hl 1 rfl) ?_
  refine l_rd hx hb hXs hbl hJ hl hL hi 1 rfl (by decide) d_law_143 d_law_144 d_law_145 d_law_146 d_law_147 ?_
  refine l_rd hx hb hXs hbl hJ hl hL hi 2 rfl (by decide) d_law_148 d_law_149 d_law_150 d_law_151 d_law_152 ?_
  refine lm_cr (index := 17) (k := 2) (As := [.int (nI (xN xs (i + 1))), .int (nI (xN xs (i + 2)))]) (rest := [.int _]) ⟨hx, hb, hml, hown, hts⟩ (k_powerM l D ca am ar (xN xs (i + 1)) (xN xs (i + 2)) (xN_lt xs (i + 1)) (xN_lt xs (i + 2))) mk_L_17 mo_M_power me_M_M_power_M mi_M mc_M_power (by decide +kernel) ⟨rfl, rfl⟩ ⟨Nat.le_of_ble_eq_true rfl, Nat.le_of_ble_eq_true rfl⟩ hK hJ rfl hl.1 rfl (Nat.le_of_ble_eq_true rfl) d_law_153 ⟨by omega, by omega⟩ ?_
  refine lv_icmp_eq (tgt := 624) hx hb d_law_156 rfl (fun _ => ?_) (fun h => absurd (rfl) h)
  exact kk _ _ _ _ _ _ 0 0 hJ (Cp_mk hCw hcX hsM) rfl (by decide) (by decide)

set_option maxHeartbeats 4000000 in
set_option maxRecDepth 100000 in
/-- leaf on the two sides -/
theorem lc_leaf (X : lX p s m c b L xs D ca) (hJ : lJ D ca s H locs n ad ct am ar) (hC : Cp ca n ad ct ar) (hl : lv_has ls 4 [(3, .int (nI i)), (2, .ref (am 0)), (1, .ref (ad 0)), (0, .ref b)]) (hi : i + 5 ≤ L) (hcc : cells + 3 ≤ room_1.cells) (hss : slots + 11 ≤ room_1.slots) (kk : lK p l e s m b below meth c Q D ca am (ad 0) cells slots ls) : W p l e room_1 s m #[Value.ref b] below meth c H locs cells slots Q (F0 m 161 ls []) := by
  obtain ⟨hx, hb, hml, hown, hts, hN, hK, hXs, hbl, hL⟩ := X
  obtain ⟨tt, bb, ee, N, dd, sc, sk, rw0, fk, ln, lo, st, sb, se, M, slo, hCw, hcX, hsM⟩ := hC
  obtain ⟨g1, g2, g3, g4, g5, g6, g7, g8⟩ := id hCw
  obtain ⟨x1, x2, x3, x4, x5, x6, x7, x8, x9, x10⟩ := id hcX
  have hI := lJ_dI hJ
  have hmI := lJ_mI hJ
  have hs1 := (cT_tT x1).1
  have hl2 := (cT_tT x1).2.1
  have hbs := fun i hi => (x2.1 i hi).1
  have his := fun i hi => (x2.1 i hi).2
  have ht : ar 0 0 ≤ 6 := hsM.1 ▸ hsM.2.1
  have hat : ar 6 (ar 0 0) < 90 := hsM.1 ▸ sM_lt hsM
  refine lv_aload_n hx hb d_law_161 rfl (lv_at hl 2 rfl) ?_
  refine l_rd hx hb hXs hbl hJ hl hL hi 1 rfl (by decide) d_law_162 d_law_163 d_law_164 d_law_165 d_law_166 ?_
  refine l_rd hx hb hXs hbl hJ hl hL hi 2 rfl (by decide) d_law_167 d_law_168 d_law_169 d_law_170 d_law_171 ?_
  refine ld_cx (index := 18) (k := 2) (As := [.int (nI (xN xs (i + 1))), .int (nI (xN xs (i + 2)))]) (rest := []) ⟨hx, hb, hml, hown, hts⟩ (k_leafD l D ca n ad ct hI H.size _ sc g1 g3.1 sk g3.2.1 hsM.2.1 (xN xs (i + 1)) (xN xs (i + 2)) (xN_lt xs (i + 1)) (xN_lt xs (i + 2))) mk_L_18 mo_D_leaf me_D_D_leaf_D mi_D mc_D_leaf (by decide +kernel) ⟨rfl, rfl⟩ ⟨Nat.le_of_ble_eq_true rfl, Nat.le_of_ble_eq_true rfl⟩ hN hK hJ g1 g3.1 rfl hl.1 rfl (Nat.le_of_ble_eq_true rfl) d_law_172 ⟨by omega, by omega⟩ (fun r u hp => by
      rcases hp with ⟨-, -, rfl⟩ | ⟨-, -, h1, -, h3, -⟩
      · exact ⟨hI, fun j hj => Or.inl ⟨j, hj, rfl⟩⟩
      · rw [h1]; exact h3) (fun r u H1 locs1 hp hJ => ?_)
  have hu0 : u.2.1 0 = ad 0 := by
    rcases hp with ⟨-, -, rfl⟩ | ⟨-, -, -, h2, -⟩
    · rfl
    · exact h2 0 (by omega)
  refine lv_aload_n hx hb d_law_175 rfl (lv_at hl 1 rfl) ?_
  refine l_rd hx hb hXs hbl hJ hl hL hi 1 rfl (by decide) d_law_176 d_law_177 d_law_178 d_law_179 d_law_180 ?_
  refine l_rd hx hb hXs hbl hJ hl hL hi 2 rfl (by decide) d_law_181 d_law_182 d_law_183 d_law_184 d_law_185 ?_
  refine lm_ci (index := 22) (k := 2) (As := [.int (nI (xN xs (i + 1))), .int (nI (xN xs (i + 2)))]) (rest := [.int r]) ⟨hx, hb, hml, hown, hts⟩ (k_leafM l D ca am ar hmI (xN xs (i + 1)) (xN xs (i + 2)) (xN_lt xs (i + 1)) (xN_lt xs (i + 2)) ht hat) mk_L_22 mo_M_leaf me_M_M_leaf_M mi_M mc_M_leaf (by decide +kernel) ⟨rfl, rfl⟩ ⟨Nat.le_of_ble_eq_true rfl, Nat.le_of_ble_eq_true rfl⟩ hK hJ rfl hl.1 rfl (Nat.le_of_ble_eq_true rfl) d_law_186 ⟨by omega, by omega⟩ (fun r2 ar1 H2 locs2 hp2 hJ => ?_)
  have hE := E_leaf hCw hcX hsM hp hp2
  exact lv_icmp_eq (tgt := 624) hx hb d_law_189 rfl (fun _ => kk _ _ _ _ _ _ 3 9 hJ (hE.2) hu0 (by decide) (by decide)) (fun h => absurd hE.1 h)

set_option maxHeartbeats 4000000 in
set_option maxRecDepth 100000 in
/-- equal on the two sides -/
theorem lc_equal (X : lX p s m c b L xs D ca) (hJ : lJ D ca s H locs n ad ct am ar) (hC : Cp ca n ad ct ar) (hl : lv_has ls 4 [(3, .int (nI i)), (2, .ref (am 0)), (1, .ref (ad 0)), (0, .ref b)]) (hi : i + 5 ≤ L) (hcc : cells + 3 ≤ room_1.cells) (hss : slots + 11 ≤ room_1.slots) (kk : lK p l e s m b below meth c Q D ca am (ad 0) cells slots ls) : W p l e room_1 s m #[Value.ref b] below meth c H locs cells slots Q (F0 m 194 ls []) := by
  obtain ⟨hx, hb, hml, hown, hts, hN, hK, hXs, hbl, hL⟩ := X
  obtain ⟨tt, bb, ee, N, dd, sc, sk, rw0, fk, ln, lo, st, sb, se, M, slo, hCw, hcX, hsM⟩ := hC
  obtain ⟨g1, g2, g3, g4, g5, g6, g7, g8⟩ := id hCw
  obtain ⟨x1, x2, x3, x4, x5, x6, x7, x8, x9, x10⟩ := id hcX
  have hI := lJ_dI hJ
  have hmI := lJ_mI hJ
  have hs1 := (cT_tT x1).1
  have hl2 := (cT_tT x1).2.1
  have hbs := fun i hi => (x2.1 i hi).1
  have his := fun i hi => (x2.1 i hi).2
  have ht : ar 0 0 ≤ 6 := hsM.1 ▸ hsM.2.1
  have hat : ar 6 (ar 0 0) < 90 := hsM.1 ▸ sM_lt hsM
  refine lv_aload_n hx hb d_law_194 rfl (lv_at hl 2 rfl) ?_
  refine l_rd hx hb hXs hbl hJ hl hL hi 1 rfl (by decide) d_law_195 d_law_196 d_law_197 d_law_198 d_law_199 ?_
  refine l_rd hx hb hXs hbl hJ hl hL hi 2 rfl (by decide) d_law_200 d_law_201 d_law_202 d_law_203 d_law_204 ?_
  refine l_rd hx hb hXs hbl hJ hl hL hi 3 rfl (by decide) d_law_205 d_law_206 d_law_207 d_law_208 d_law_209 ?_
  refine l_rd hx hb hXs hbl hJ hl hL hi 4 rfl (by decide) d_law_210 d_law_211 d_law_212 d_law_213 d_law_214 ?_
  refine ld_cx (index := 23) (k := 4) (As := [.int (nI (xN xs (i + 1))), .int (nI (xN xs (i + 2))), .int (nI (xN xs (i + 3))), .int (nI (xN xs (i + 4)))]) (rest := []) ⟨hx, hb, hml, hown, hts⟩ (k_equalD l D ca n ad ct hI H.size _ sc g1 g3.1 sk g3.2.1 hsM.2.1 (xN xs (i + 1)) (xN xs (i + 2)) (xN xs (i + 3)) (xN xs (i + 4)) (xN_lt xs (i + 1)) (xN_lt xs (i + 2)) (xN_lt xs (i + 3)) (xN_lt xs (i + 4))) mk_L_23 mo_D_equal me_D_D_equal_D mi_D mc_D_equal (by decide +kernel) ⟨rfl, rfl⟩ ⟨Nat.le_of_ble_eq_true rfl, Nat.le_of_ble_eq_true rfl⟩ hN hK hJ g1 g3.1 rfl hl.1 rfl (Nat.le_of_ble_eq_true rfl) d_law_215 ⟨by omega, by omega⟩ (fun r u hp => by
      rcases hp with ⟨-, -, rfl⟩ | ⟨-, -, h1, -, h3, -⟩
      · exact ⟨hI, fun j hj => Or.inl ⟨j, hj, rfl⟩⟩
      · rw [h1]; exact h3) (fun r u H1 locs1 hp hJ => ?_)
  have hu0 : u.2.1 0 = ad 0 := by
    rcases hp with ⟨-, -, rfl⟩ | ⟨-, -, -, h2, -⟩
    · rfl
    · exact h2 0 (by omega)
  refine lv_aload_n hx hb d_law_218 rfl (lv_at hl 1 rfl) ?_
  refine l_rd hx hb hXs hbl hJ hl hL hi 1 rfl (by decide) d_law_219 d_law_220 d_law_221 d_law_222 d_law_223 ?_
  refine l_rd hx hb hXs hbl hJ hl hL hi 2 rfl (by decide) d_law_224 d_law_225 d_law_226 d_law_227 d_law_228 ?_
  refine l_rd hx hb hXs hbl hJ hl hL hi 3 rfl (by decide) d_law_229 d_law_230 d_law_231 d_law_232 d_law_233 ?_
  refine l_rd hx hb hXs hbl hJ hl hL hi 4 rfl (by decide) d_law_234 d_law_235 d_law_236 d_law_237 d_law_238 ?_
  refine lm_ci (index := 27) (k := 4) (As := [.int (nI (xN xs (i + 1))), .int (nI (xN xs (i + 2))), .int (nI (xN xs (i + 3))), .int (nI (xN xs (i + 4)))]) (rest := [.int r]) ⟨hx, hb, hml, hown, hts⟩ (k_equalM l D ca am ar hmI (xN xs (i + 1)) (xN xs (i + 2)) (xN xs (i + 3)) (xN xs (i + 4)) (xN_lt xs (i + 1)) (xN_lt xs (i + 2)) (xN_lt xs (i + 3)) (xN_lt xs (i + 4)) ht hat) mk_L_27 mo_M_equal me_M_M_equal_M mi_M mc_M_equal (by decide +kernel) ⟨rfl, rfl⟩ ⟨Nat.le_of_ble_eq_true rfl, Nat.le_of_ble_eq_true rfl⟩ hK hJ rfl hl.1 rfl (Nat.le_of_ble_eq_true rfl) d_law_239 ⟨by omega, by omega⟩ (fun r2 ar1 H2 locs2 hp2 hJ => ?_)
  have hE := E_equal hCw hcX hsM hp hp2
  exact lv_icmp_eq (tgt := 624) hx hb d_law_242 rfl (fun _ => kk _ _ _ _ _ _ 3 11 hJ (hE.2) hu0 (by decide) (by decide)) (fun h => absurd hE.1 h)

end LC1
