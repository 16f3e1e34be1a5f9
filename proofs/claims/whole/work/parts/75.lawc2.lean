/-! the law's cases: discard, accept, tell -/
section LC2
variable {p : Program} {l : Launch} {e : Env} {s : State} {m : MethodId} {below : List Frame} {meth : Method} {c : Code} {H : Heap} {locs : List Loc} {cells slots n b L i : Nat} {ls : Array Slot} {Q : State → Prop} {D : va_G} {ca : Nat → ClassId} {ad am : Nat → Nat} {ct : Nat → va_E} {ar : Nat → Nat → Nat} {xs : Nat → Int32}

set_option maxHeartbeats 4000000 in
set_option maxRecDepth 100000 in
/-- discard on the two sides -/
theorem lc_discard (X : lX p s m c b L xs D ca) (hJ : lJ D ca s H locs n ad ct am ar) (hC : Cp ca n ad ct ar) (hl : lv_has ls 4 [(3, .int (nI i)), (2, .ref (am 0)), (1, .ref (ad 0)), (0, .ref b)]) (hi : i + 5 ≤ L) (hcc : cells + 3 ≤ room_1.cells) (hss : slots + 11 ≤ room_1.slots) (kk : lK p l e s m b below meth c Q D ca am (ad 0) cells slots ls) : W p l e room_1 s m #[Value.ref b] below meth c H locs cells slots Q (F0 m 286 ls []) := by
  obtain ⟨hx, hb, hml, hown, hts, hN, hK, hXs, hbl, hL⟩ := X
  obtain ⟨tt, bb, ee, N, dd, sc, sk, rw0, fk, ln, lo, st, sb, se, M, slo, hCw, hcX, hsM⟩ := hC
  obtain ⟨g1, g2, g3, g4, g5, g6, g7, g8⟩ := id hCw
  obtain ⟨x1, x2, x3, x4, x5, x6, x7, x8, x9, x10⟩ := id hcX
  have hI := lJ_dI hJ
  have hmI := lJ_mI hJ
  have hs1 := (cT_tT x1).1
  have hl2 := (cT_tT x1).2.1
  have hbs := fun i hi => (x2.1 i hi).1
  have his := fun i hi => (x2.1 i hi).2
  have ht : ar 0 0 ≤ 6 := hsM.1 ▸ hsM.2.1
  have hat : ar 6 (ar 0 0) < 90 := hsM.1 ▸ sM_lt hsM
  refine lv_aload_n hx hb d_law_286 rfl (lv_at hl 2 rfl) ?_
  refine ld_ci (index := 33) (k := 0) (As := []) (rest := []) ⟨hx, hb, hml, hown, hts⟩ (k_discardD l D ca n ad ct hI _ sc g1 g3.1 sk g3.2.1 hsM.2.1) mk_L_33 mo_D_discard me_D_D_discard_D mi_D mc_D_discard (by decide +kernel) ⟨rfl, rfl⟩ ⟨Nat.le_of_ble_eq_true rfl, Nat.le_of_ble_eq_true rfl⟩ hN hK hJ g1 g3.1 rfl hl.1 rfl (Nat.le_of_ble_eq_true rfl) d_law_287 ⟨by omega, by omega⟩ (fun r ct1 H1 locs1 hp hJ => ?_)
  refine lv_aload_n hx hb d_law_290 rfl (lv_at hl 1 rfl) ?_
  refine lm_ci (index := 37) (k := 0) (As := []) (rest := [.int r]) ⟨hx, hb, hml, hown, hts⟩ (k_discardM l D ca am ar hmI ht) mk_L_37 mo_M_discard me_M_M_discard_M mi_M mc_M_discard (by decide +kernel) ⟨rfl, rfl⟩ ⟨Nat.le_of_ble_eq_true rfl, Nat.le_of_ble_eq_true rfl⟩ hK hJ rfl hl.1 rfl (Nat.le_of_ble_eq_true rfl) d_law_291 ⟨by omega, by omega⟩ (fun r2 ar1 H2 locs2 hp2 hJ => ?_)
  have hE := E_discard hCw hcX hsM hp hp2
  exact lv_icmp_eq (tgt := 624) hx hb d_law_294 rfl (fun _ => kk _ _ _ _ _ _ 0 0 hJ (hE.2) rfl (by decide) (by decide)) (fun h => absurd hE.1 h)

set_option maxHeartbeats 4000000 in
set_option maxRecDepth 100000 in
/-- accept on the two sides -/
theorem lc_accept (X : lX p s m c b L xs D ca) (hJ : lJ D ca s H locs n ad ct am ar) (hC : Cp ca n ad ct ar) (hl : lv_has ls 4 [(3, .int (nI i)), (2, .ref (am 0)), (1, .ref (ad 0)), (0, .ref b)]) (hi : i + 5 ≤ L) (hcc : cells + 3 ≤ room_1.cells) (hss : slots + 11 ≤ room_1.slots) (kk : lK p l e s m b below meth c Q D ca am (ad 0) cells slots ls) : W p l e room_1 s m #[Value.ref b] below meth c H locs cells slots Q (F0 m 299 ls []) := by
  obtain ⟨hx, hb, hml, hown, hts, hN, hK, hXs, hbl, hL⟩ := X
  obtain ⟨tt, bb, ee, N, dd, sc, sk, rw0, fk, ln, lo, st, sb, se, M, slo, hCw, hcX, hsM⟩ := hC
  obtain ⟨g1, g2, g3, g4, g5, g6, g7, g8⟩ := id hCw
  obtain ⟨x1, x2, x3, x4, x5, x6, x7, x8, x9, x10⟩ := id hcX
  have hI := lJ_dI hJ
  have hmI := lJ_mI hJ
  have hs1 := (cT_tT x1).1
  have hl2 := (cT_tT x1).2.1
  have hbs := fun i hi => (x2.1 i hi).1
  have his := fun i hi => (x2.1 i hi).2
  have ht : ar 0 0 ≤ 6 := hsM.1 ▸ hsM.2.1
  have hat : ar 6 (ar 0 0) < 90 := hsM.1 ▸ sM_lt hsM
  obtain ⟨ln1, hln1⟩ := ln_ex (st 0) M
  refine lv_aload_n hx hb d_law_299 rfl (lv_at hl 2 rfl) ?_
  refine ld_ci (index := 38) (k := 0) (As := []) (rest := []) ⟨hx, hb, hml, hown, hts⟩ (k_acceptD l D ca n ad ct hI _ sc sk rw0 fk g1 g3.1 g3.2.1 g3.2.2.1 g3.2.2.2.1 g3.2.2.2.2.1 hsM.2.1 st sb se M (sd dd) slo ln1 (A_d hCw hsM) hln1) mk_L_38 mo_D_accept me_D_D_accept_D mi_D mc_D_accept (by decide +kernel) ⟨rfl, rfl⟩ ⟨Nat.le_of_ble_eq_true rfl, Nat.le_of_ble_eq_true rfl⟩ hN hK hJ g1 g3.1 rfl hl.1 rfl (Nat.le_of_ble_eq_true rfl) d_law_300 ⟨by omega, by omega⟩ (fun r ct1 H1 locs1 hp hJ => ?_)
  refine lv_aload_n hx hb d_law_303 rfl (lv_at hl 1 rfl) ?_
  refine lm_ci (index := 42) (k := 0) (As := []) (rest := [.int r]) ⟨hx, hb, hml, hown, hts⟩ (k_acceptM l D ca am ar hmI slo ht (A_m hCw hsM)) mk_L_42 mo_M_accept me_M_M_accept_M mi_M mc_M_accept (by decide +kernel) ⟨rfl, rfl⟩ ⟨Nat.le_of_ble_eq_true rfl, Nat.le_of_ble_eq_true rfl⟩ hK hJ rfl hl.1 rfl (Nat.le_of_ble_eq_true rfl) d_law_304 ⟨by omega, by omega⟩ (fun r2 ar1 H2 locs2 hp2 hJ => ?_)
  have hE := E_accept hCw hcX hsM hln1 hp hp2
  exact lv_icmp_eq (tgt := 624) hx hb d_law_307 rfl (fun _ => kk _ _ _ _ _ _ 0 0 hJ (hE.2) rfl (by decide) (by decide)) (fun h => absurd hE.1 h)

set_option maxHeartbeats 4000000 in
set_option maxRecDepth 100000 in
/-- tell on the two sides -/
theorem lc_tell (X : lX p s m c b L xs D ca) (hJ : lJ D ca s H locs n ad ct am ar) (hC : Cp ca n ad ct ar) (hl : lv_has ls 4 [(3, .int (nI i)), (2, .ref (am 0)), (1, .ref (ad 0)), (0, .ref b)]) (hi : i + 5 ≤ L) (hcc : cells + 3 ≤ room_1.cells) (hss : slots + 11 ≤ room_1.slots) (kk : lK p l e s m b below meth c Q D ca am (ad 0) cells slots ls) : W p l e room_1 s m #[Value.ref b] below meth c H locs cells slots Q (F0 m 312 ls []) := by
  obtain ⟨hx, hb, hml, hown, hts, hN, hK, hXs, hbl, hL⟩ := X
  obtain ⟨tt, bb, ee, N, dd, sc, sk, rw0, fk, ln, lo, st, sb, se, M, slo, hCw, hcX, hsM⟩ := hC
  obtain ⟨g1, g2, g3, g4, g5, g6, g7, g8⟩ := id hCw
  obtain ⟨x1, x2, x3, x4, x5, x6, x7, x8, x9, x10⟩ := id hcX
  have hI := lJ_dI hJ
  have hmI := lJ_mI hJ
  have hs1 := (cT_tT x1).1
  have hl2 := (cT_tT x1).2.1
  have hbs := fun i hi => (x2.1 i hi).1
  have his := fun i hi => (x2.1 i hi).2
  have ht : ar 0 0 ≤ 6 := hsM.1 ▸ hsM.2.1
  have hat : ar 6 (ar 0 0) < 90 := hsM.1 ▸ sM_lt hsM
  refine lv_aload_n hx hb d_law_312 rfl (lv_at hl 2 rfl) ?_
  refine l_rd hx hb hXs hbl hJ hl hL hi 1 rfl (by decide) d_law_313 d_law_314 d_law_315 d_law_316 d_law_317 ?_
  refine l_rd hx hb hXs hbl hJ hl hL hi 2 rfl (by decide) d_law_318 d_law_319 d_law_320 d_law_321 d_law_322 ?_
  refine ld_ci (index := 43) (k := 2) (As := [.int (nI (xN xs (i + 1))), .int (nI (xN xs (i + 2)))]) (rest := []) ⟨hx, hb, hml, hown, hts⟩ (k_tellD l D ca n ad ct hI tt bb ee N dd sc sk rw0 fk ln g1 g2 g3 (xN xs (i + 1)) (xN xs (i + 2)) (xN_lt xs (i + 1)) (xN_lt xs (i + 2))) mk_L_43 mo_D_tell me_D_D_tell_D mi_D mc_D_tell (by decide +kernel) ⟨rfl, rfl⟩ ⟨Nat.le_of_ble_eq_true rfl, Nat.le_of_ble_eq_true rfl⟩ hN hK hJ g1 g3.1 rfl hl.1 rfl (Nat.le_of_ble_eq_true rfl) d_law_323 ⟨by omega, by omega⟩ (fun r ct1 H1 locs1 hp hJ => ?_)
  refine lv_aload_n hx hb d_law_326 rfl (lv_at hl 1 rfl) ?_
  refine l_rd hx hb hXs hbl hJ hl hL hi 1 rfl (by decide) d_law_327 d_law_328 d_law_329 d_law_330 d_law_331 ?_
  refine l_rd hx hb hXs hbl hJ hl hL hi 2 rfl (by decide) d_law_332 d_law_333 d_law_334 d_law_335 d_law_336 ?_
  refine lm_ci (index := 46) (k := 2) (As := [.int (nI (xN xs (i + 1))), .int (nI (xN xs (i + 2)))]) (rest := [.int r]) ⟨hx, hb, hml, hown, hts⟩ (k_tellM l D ca am ar hmI (xN xs (i + 1)) (xN xs (i + 2)) (xN_lt xs (i + 1)) (xN_lt xs (i + 2)) hl2 hbs his) mk_L_46 mo_M_tell me_M_M_tell_M mi_M mc_M_tell (by decide +kernel) ⟨rfl, rfl⟩ ⟨Nat.le_of_ble_eq_true rfl, Nat.le_of_ble_eq_true rfl⟩ hK hJ rfl hl.1 rfl (Nat.le_of_ble_eq_true rfl) d_law_337 ⟨by omega, by omega⟩ (fun r2 ar1 H2 locs2 hp2 hJ => ?_)
  have hE := E_tell hCw hcX hsM hp hp2
  exact lv_icmp_eq (tgt := 624) hx hb d_law_340 rfl (fun _ => kk _ _ _ _ _ _ 0 0 hJ (hE.2) rfl (by decide) (by decide)) (fun h => absurd hE.1 h)

end LC2
