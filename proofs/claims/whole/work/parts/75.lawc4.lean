/-! the law's cases: respond, simulate, prove -/
section LC4
variable {p : Program} {l : Launch} {e : Env} {s : State} {m : MethodId} {below : List Frame} {meth : Method} {c : Code} {H : Heap} {locs : List Loc} {cells slots n b L i : Nat} {ls : Array Slot} {Q : State → Prop} {D : va_G} {ca : Nat → ClassId} {ad am : Nat → Nat} {ct : Nat → va_E} {ar : Nat → Nat → Nat} {xs : Nat → Int32}

set_option maxHeartbeats 4000000 in
set_option maxRecDepth 100000 in
/-- respond on the two sides -/
theorem lc_respond (X : lX p s m c b L xs D ca) (hJ : lJ D ca s H locs n ad ct am ar) (hC : Cp ca n ad ct ar) (hl : lv_has ls 4 [(3, .int (nI i)), (2, .ref (am 0)), (1, .ref (ad 0)), (0, .ref b)]) (hi : i + 5 ≤ L) (hcc : cells + 3 ≤ room_1.cells) (hss : slots + 11 ≤ room_1.slots) (kk : lK p l e s m b below meth c Q D ca am (ad 0) cells slots ls) : W p l e room_1 s m #[Value.ref b] below meth c H locs cells slots Q (F0 m 404 ls []) := by
  obtain ⟨hx, hb, hml, hown, hts, hN, hK, hXs, hbl, hL⟩ := X
  obtain ⟨tt, bb, ee, N, dd, sc, sk, rw0, fk, ln, lo, st, sb, se, M, slo, hCw, hcX, hsM⟩ := hC
  obtain ⟨g1, g2, g3, g4, g5, g6, g7, g8⟩ := id hCw
  obtain ⟨x1, x2, x3, x4, x5, x6, x7, x8, x9, x10⟩ := id hcX
  have hI := lJ_dI hJ
  have hmI := lJ_mI hJ
  have hs1 := (cT_tT x1).1
  have hl2 := (cT_tT x1).2.1
  have hbs := fun i hi => (x2.1 i hi).1
  have his := fun i hi => (x2.1 i hi).2
  have ht : ar 0 0 ≤ 6 := hsM.1 ▸ hsM.2.1
  have hat : ar 6 (ar 0 0) < 90 := hsM.1 ▸ sM_lt hsM
  refine lv_aload_n hx hb d_law_404 rfl (lv_at hl 2 rfl) ?_
  refine l_rd hx hb hXs hbl hJ hl hL hi 1 rfl (by decide) d_law_405 d_law_406 d_law_407 d_law_408 d_law_409 ?_
  refine ld_ci (index := 60) (k := 1) (As := [.int (nI (xN xs (i + 1)))]) (rest := []) ⟨hx, hb, hml, hown, hts⟩ (k_respondD l D ca n ad ct hI tt bb ee N dd sc sk rw0 fk ln g1 g2 g3 g4 x1.2.1 x9.2 (R_gD hcX) (xN xs (i + 1)) (xN_lt xs (i + 1))) mk_L_60 mo_D_respond me_D_D_respond_D mi_D mc_D_respond (by decide +kernel) ⟨rfl, rfl⟩ ⟨Nat.le_of_ble_eq_true rfl, Nat.le_of_ble_eq_true rfl⟩ hN hK hJ g1 g3.1 rfl hl.1 rfl (Nat.le_of_ble_eq_true rfl) d_law_410 ⟨by omega, by omega⟩ (fun r ct1 H1 locs1 hp hJ => ?_)
  refine lv_aload_n hx hb d_law_413 rfl (lv_at hl 1 rfl) ?_
  refine l_rd hx hb hXs hbl hJ hl hL hi 1 rfl (by decide) d_law_414 d_law_415 d_law_416 d_law_417 d_law_418 ?_
  refine lm_ci (index := 63) (k := 1) (As := [.int (nI (xN xs (i + 1)))]) (rest := [.int r]) ⟨hx, hb, hml, hown, hts⟩ (k_respondM l D ca am ar hmI (xN xs (i + 1)) (xN_lt xs (i + 1)) lo (cT_tT x1) (cT_tI x1) (by rw [← x9.1]; exact x9.2) (R_gC hcX)) mk_L_63 mo_M_respond me_M_M_respond_M mi_M mc_M_respond (by decide +kernel) ⟨rfl, rfl⟩ ⟨Nat.le_of_ble_eq_true rfl, Nat.le_of_ble_eq_true rfl⟩ hK hJ rfl hl.1 rfl (Nat.le_of_ble_eq_true rfl) d_law_419 ⟨by omega, by omega⟩ (fun r2 ar1 H2 locs2 hp2 hJ => ?_)
  have hE := E_respond hCw hcX hsM hp hp2
  exact lv_icmp_eq (tgt := 624) hx hb d_law_422 rfl (fun _ => kk _ _ _ _ _ _ 0 0 hJ (hE.2) rfl (by decide) (by decide)) (fun h => absurd hE.1 h)

set_option maxHeartbeats 4000000 in
set_option maxRecDepth 100000 in
/-- simulate on the two sides -/
theorem lc_simulate (X : lX p s m c b L xs D ca) (hJ : lJ D ca s H locs n ad ct am ar) (hC : Cp ca n ad ct ar) (hl : lv_has ls 4 [(3, .int (nI i)), (2, .ref (am 0)), (1, .ref (ad 0)), (0, .ref b)]) (hi : i + 5 ≤ L) (hcc : cells + 3 ≤ room_1.cells) (hss : slots + 11 ≤ room_1.slots) (kk : lK p l e s m b below meth c Q D ca am (ad 0) cells slots ls) : W p l e room_1 s m #[Value.ref b] below meth c H locs cells slots Q (F0 m 427 ls []) := by
  obtain ⟨hx, hb, hml, hown, hts, hN, hK, hXs, hbl, hL⟩ := X
  obtain ⟨tt, bb, ee, N, dd, sc, sk, rw0, fk, ln, lo, st, sb, se, M, slo, hCw, hcX, hsM⟩ := hC
  obtain ⟨g1, g2, g3, g4, g5, g6, g7, g8⟩ := id hCw
  obtain ⟨x1, x2, x3, x4, x5, x6, x7, x8, x9, x10⟩ := id hcX
  have hI := lJ_dI hJ
  have hmI := lJ_mI hJ
  have hs1 := (cT_tT x1).1
  have hl2 := (cT_tT x1).2.1
  have hbs := fun i hi => (x2.1 i hi).1
  have his := fun i hi => (x2.1 i hi).2
  have ht : ar 0 0 ≤ 6 := hsM.1 ▸ hsM.2.1
  have hat : ar 6 (ar 0 0) < 90 := hsM.1 ▸ sM_lt hsM
  obtain ⟨K, hKe, hK2⟩ := K_ex x1 x3
  refine lv_aload_n hx hb d_law_427 rfl (lv_at hl 2 rfl) ?_
  refine l_rd hx hb hXs hbl hJ hl hL hi 1 rfl (by decide) d_law_428 d_law_429 d_law_430 d_law_431 d_law_432 ?_
  refine l_rd hx hb hXs hbl hJ hl hL hi 2 rfl (by decide) d_law_433 d_law_434 d_law_435 d_law_436 d_law_437 ?_
  refine ld_ci (index := 64) (k := 2) (As := [.int (nI (xN xs (i + 1))), .int (nI (xN xs (i + 2)))]) (rest := []) ⟨hx, hb, hml, hown, hts⟩ (k_simulateD l D ca n ad ct hI tt bb ee N dd sc sk rw0 fk ln g1 g2 g3 g4 x1.2.1 K hKe hK2 (P_nm hcX) (xN xs (i + 1)) (xN xs (i + 2)) (xN_lt xs (i + 1))) mk_L_64 mo_D_simulate me_D_D_simulate_D mi_D mc_D_simulate (by decide +kernel) ⟨rfl, rfl⟩ ⟨Nat.le_of_ble_eq_true rfl, Nat.le_of_ble_eq_true rfl⟩ hN hK hJ g1 g3.1 rfl hl.1 rfl (Nat.le_of_ble_eq_true rfl) d_law_438 ⟨by omega, by omega⟩ (fun r ct1 H1 locs1 hp hJ => ?_)
  refine lv_aload_n hx hb d_law_441 rfl (lv_at hl 1 rfl) ?_
  refine l_rd hx hb hXs hbl hJ hl hL hi 1 rfl (by decide) d_law_442 d_law_443 d_law_444 d_law_445 d_law_446 ?_
  refine l_rd hx hb hXs hbl hJ hl hL hi 2 rfl (by decide) d_law_447 d_law_448 d_law_449 d_law_450 d_law_451 ?_
  refine lm_ci (index := 67) (k := 2) (As := [.int (nI (xN xs (i + 1))), .int (nI (xN xs (i + 2)))]) (rest := [.int r]) ⟨hx, hb, hml, hown, hts⟩ (k_simulateM l D ca am ar hmI (xN xs (i + 1)) (xN xs (i + 2)) (xN_lt xs (i + 1)) lo (cT_tT x1) x3.1 (cT_tI x1) hbs his) mk_L_67 mo_M_simulate me_M_M_simulate_M mi_M mc_M_simulate (by decide +kernel) ⟨rfl, rfl⟩ ⟨Nat.le_of_ble_eq_true rfl, Nat.le_of_ble_eq_true rfl⟩ hK hJ rfl hl.1 rfl (Nat.le_of_ble_eq_true rfl) d_law_452 ⟨by omega, by omega⟩ (fun r2 ar1 H2 locs2 hp2 hJ => ?_)
  have hE := E_simulate hCw hcX hsM hKe hK2 hp hp2
  exact lv_icmp_eq (tgt := 624) hx hb d_law_455 rfl (fun _ => kk _ _ _ _ _ _ 0 0 hJ (hE.2) rfl (by decide) (by decide)) (fun h => absurd hE.1 h)

set_option maxHeartbeats 4000000 in
set_option maxRecDepth 100000 in
/-- prove on the two sides -/
theorem lc_prove (X : lX p s m c b L xs D ca) (hJ : lJ D ca s H locs n ad ct am ar) (hC : Cp ca n ad ct ar) (hl : lv_has ls 4 [(3, .int (nI i)), (2, .ref (am 0)), (1, .ref (ad 0)), (0, .ref b)]) (hi : i + 5 ≤ L) (hcc : cells + 3 ≤ room_1.cells) (hss : slots + 11 ≤ room_1.slots) (kk : lK p l e s m b below meth c Q D ca am (ad 0) cells slots ls) : W p l e room_1 s m #[Value.ref b] below meth c H locs cells slots Q (F0 m 460 ls []) := by
  obtain ⟨hx, hb, hml, hown, hts, hN, hK, hXs, hbl, hL⟩ := X
  obtain ⟨tt, bb, ee, N, dd, sc, sk, rw0, fk, ln, lo, st, sb, se, M, slo, hCw, hcX, hsM⟩ := hC
  obtain ⟨g1, g2, g3, g4, g5, g6, g7, g8⟩ := id hCw
  obtain ⟨x1, x2, x3, x4, x5, x6, x7, x8, x9, x10⟩ := id hcX
  have hI := lJ_dI hJ
  have hmI := lJ_mI hJ
  have hs1 := (cT_tT x1).1
  have hl2 := (cT_tT x1).2.1
  have hbs := fun i hi => (x2.1 i hi).1
  have his := fun i hi => (x2.1 i hi).2
  have ht : ar 0 0 ≤ 6 := hsM.1 ▸ hsM.2.1
  have hat : ar 6 (ar 0 0) < 90 := hsM.1 ▸ sM_lt hsM
  obtain ⟨K, hKe, hK2⟩ := K_ex x1 x3
  refine lv_aload_n hx hb d_law_460 rfl (lv_at hl 2 rfl) ?_
  refine l_rd hx hb hXs hbl hJ hl hL hi 1 rfl (by decide) d_law_461 d_law_462 d_law_463 d_law_464 d_law_465 ?_
  refine ld_ci (index := 68) (k := 1) (As := [.int (nI (xN xs (i + 1)))]) (rest := []) ⟨hx, hb, hml, hown, hts⟩ (k_proveD l D ca n ad ct hI tt bb ee N dd sc sk rw0 fk ln g1 g2 g3 g4 x1.2.1 K hKe hK2 (P_nm hcX) (xN xs (i + 1)) (P_gD hcX hKe hK2 (xN xs (i + 1)))) mk_L_68 mo_D_prove me_D_D_prove_D mi_D mc_D_prove (by decide +kernel) ⟨rfl, rfl⟩ ⟨Nat.le_of_ble_eq_true rfl, Nat.le_of_ble_eq_true rfl⟩ hN hK hJ g1 g3.1 rfl hl.1 rfl (Nat.le_of_ble_eq_true rfl) d_law_466 ⟨by omega, by omega⟩ (fun r ct1 H1 locs1 hp hJ => ?_)
  refine lv_aload_n hx hb d_law_469 rfl (lv_at hl 1 rfl) ?_
  refine l_rd hx hb hXs hbl hJ hl hL hi 1 rfl (by decide) d_law_470 d_law_471 d_law_472 d_law_473 d_law_474 ?_
  refine lm_ci (index := 71) (k := 1) (As := [.int (nI (xN xs (i + 1)))]) (rest := [.int r]) ⟨hx, hb, hml, hown, hts⟩ (k_proveM l D ca am ar hmI (xN xs (i + 1)) lo (cT_tT x1) x3.1 (cT_tI x1) hbs his (P_gC hcX (xN xs (i + 1)))) mk_L_71 mo_M_prove me_M_M_prove_M mi_M mc_M_prove (by decide +kernel) ⟨rfl, rfl⟩ ⟨Nat.le_of_ble_eq_true rfl, Nat.le_of_ble_eq_true rfl⟩ hK hJ rfl hl.1 rfl (Nat.le_of_ble_eq_true rfl) d_law_475 ⟨by omega, by omega⟩ (fun r2 ar1 H2 locs2 hp2 hJ => ?_)
  have hE := E_prove hCw hcX hsM hKe hK2 hp hp2
  exact lv_icmp_eq (tgt := 624) hx hb d_law_478 rfl (fun _ => kk _ _ _ _ _ _ 0 0 hJ (hE.2) rfl (by decide) (by decide)) (fun h => absurd hE.1 h)

end LC4
