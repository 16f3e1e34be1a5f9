/-! the law's cases: part, change, save, extract -/
section LC6
variable {p : Program} {l : Launch} {e : Env} {s : State} {m : MethodId} {below : List Frame} {meth : Method} {c : Code} {H : Heap} {locs : List Loc} {cells slots n b L i : Nat} {ls : Array Slot} {Q : State → Prop} {D : va_G} {ca : Nat → ClassId} {ad am : Nat → Nat} {ct : Nat → va_E} {ar : Nat → Nat → Nat} {xs : Nat → Int32}

set_option maxHeartbeats 4000000 in
set_option maxRecDepth 100000 in
/-- part on the two sides -/
theorem lc_part (X : lX p s m c b L xs D ca) (hJ : lJ D ca s H locs n ad ct am ar) (hC : Cp ca n ad ct ar) (hl : lv_has ls 4 [(3, .int (nI i)), (2, .ref (am 0)), (1, .ref (ad 0)), (0, .ref b)]) (hi : i + 5 ≤ L) (hcc : cells + 3 ≤ room_1.cells) (hss : slots + 11 ≤ room_1.slots) (kk : lK p l e s m b below meth c Q D ca am (ad 0) cells slots ls) : W p l e room_1 s m #[Value.ref b] below meth c H locs cells slots Q (F0 m 522 ls []) := by
  obtain ⟨hx, hb, hml, hown, hts, hN, hK, hXs, hbl, hL⟩ := X
  obtain ⟨tt, bb, ee, N, dd, sc, sk, rw0, fk, ln, lo, st, sb, se, M, slo, hCw, hcX, hsM⟩ := hC
  obtain ⟨g1, g2, g3, g4, g5, g6, g7, g8⟩ := id hCw
  obtain ⟨x1, x2, x3, x4, x5, x6, x7, x8, x9, x10⟩ := id hcX
  have hI := lJ_dI hJ
  have hmI := lJ_mI hJ
  have hs1 := (cT_tT x1).1
  have hl2 := (cT_tT x1).2.1
  have hbs := fun i hi => (x2.1 i hi).1
  have his := fun i hi => (x2.1 i hi).2
  have ht : ar 0 0 ≤ 6 := hsM.1 ▸ hsM.2.1
  have hat : ar 6 (ar 0 0) < 90 := hsM.1 ▸ sM_lt hsM
  refine lv_aload_n hx hb d_law_522 rfl (lv_at hl 2 rfl) ?_
  refine l_rd hx hb hXs hbl hJ hl hL hi 1 rfl (by decide) d_law_523 d_law_524 d_law_525 d_law_526 d_law_527 ?_
  refine l_rd hx hb hXs hbl hJ hl hL hi 2 rfl (by decide) d_law_528 d_law_529 d_law_530 d_law_531 d_law_532 ?_
  refine ld_cr (index := 84) (k := 2) (As := [.int (nI (xN xs (i + 1))), .int (nI (xN xs (i + 2)))]) (rest := []) ⟨hx, hb, hml, hown, hts⟩ (k_partD l D ca n ad ct tt bb ee N dd sc sk rw0 fk ln g1 g2 g3 (xN xs (i + 1)) (xN xs (i + 2)) (xN_lt xs (i + 1)) (xN_lt xs (i + 2))) mk_L_84 mo_D_part me_D_D_part_D mi_D mc_D_part (by decide +kernel) ⟨rfl, rfl⟩ ⟨Nat.le_of_ble_eq_true rfl, Nat.le_of_ble_eq_true rfl⟩ hN hK hJ g1 g3.1 rfl hl.1 rfl (Nat.le_of_ble_eq_true rfl) d_law_533 ⟨by omega, by omega⟩ ?_
  refine lv_aload_n hx hb d_law_536 rfl (lv_at hl 1 rfl) ?_
  refine l_rd hx hb hXs hbl hJ hl hL hi 1 rfl (by decide) d_law_537 d_law_538 d_law_539 d_law_540 d_law_541 ?_
  refine l_rd hx hb hXs hbl hJ hl hL hi 2 rfl (by decide) d_law_542 d_law_543 d_law_544 d_law_545 d_law_546 ?_
  refine lm_cr (index := 87) (k := 2) (As := [.int (nI (xN xs (i + 1))), .int (nI (xN xs (i + 2)))]) (rest := [.int _]) ⟨hx, hb, hml, hown, hts⟩ (k_partM l D ca am ar (xN xs (i + 1)) (xN xs (i + 2)) (xN_lt xs (i + 1)) (xN_lt xs (i + 2)) hl2 hbs hs1) mk_L_87 mo_M_part me_M_M_part_M mi_M mc_M_part (by decide +kernel) ⟨rfl, rfl⟩ ⟨Nat.le_of_ble_eq_true rfl, Nat.le_of_ble_eq_true rfl⟩ hK hJ rfl hl.1 rfl (Nat.le_of_ble_eq_true rfl) d_law_547 ⟨by omega, by omega⟩ ?_
  refine lv_icmp_eq (tgt := 624) hx hb d_law_550 rfl (fun _ => ?_) (fun h => absurd (E_part hcX _ _) h)
  exact kk _ _ _ _ _ _ 0 0 hJ (Cp_mk hCw hcX hsM) rfl (by decide) (by decide)

set_option maxHeartbeats 4000000 in
set_option maxRecDepth 100000 in
/-- change on the two sides -/
theorem lc_change (X : lX p s m c b L xs D ca) (hJ : lJ D ca s H locs n ad ct am ar) (hC : Cp ca n ad ct ar) (hl : lv_has ls 4 [(3, .int (nI i)), (2, .ref (am 0)), (1, .ref (ad 0)), (0, .ref b)]) (hi : i + 5 ≤ L) (hcc : cells + 3 ≤ room_1.cells) (hss : slots + 11 ≤ room_1.slots) (kk : lK p l e s m b below meth c Q D ca am (ad 0) cells slots ls) : W p l e room_1 s m #[Value.ref b] below meth c H locs cells slots Q (F0 m 555 ls []) := by
  obtain ⟨hx, hb, hml, hown, hts, hN, hK, hXs, hbl, hL⟩ := X
  obtain ⟨tt, bb, ee, N, dd, sc, sk, rw0, fk, ln, lo, st, sb, se, M, slo, hCw, hcX, hsM⟩ := hC
  obtain ⟨g1, g2, g3, g4, g5, g6, g7, g8⟩ := id hCw
  obtain ⟨x1, x2, x3, x4, x5, x6, x7, x8, x9, x10⟩ := id hcX
  have hI := lJ_dI hJ
  have hmI := lJ_mI hJ
  have hs1 := (cT_tT x1).1
  have hl2 := (cT_tT x1).2.1
  have hbs := fun i hi => (x2.1 i hi).1
  have his := fun i hi => (x2.1 i hi).2
  have ht : ar 0 0 ≤ 6 := hsM.1 ▸ hsM.2.1
  have hat : ar 6 (ar 0 0) < 90 := hsM.1 ▸ sM_lt hsM
  refine lv_aload_n hx hb d_law_555 rfl (lv_at hl 2 rfl) ?_
  refine l_rd hx hb hXs hbl hJ hl hL hi 1 rfl (by decide) d_law_556 d_law_557 d_law_558 d_law_559 d_law_560 ?_
  refine l_rd hx hb hXs hbl hJ hl hL hi 2 rfl (by decide) d_law_561 d_law_562 d_law_563 d_law_564 d_law_565 ?_
  refine l_rd hx hb hXs hbl hJ hl hL hi 3 rfl (by decide) d_law_566 d_law_567 d_law_568 d_law_569 d_law_570 ?_
  refine ld_ci (index := 88) (k := 3) (As := [.int (nI (xN xs (i + 1))), .int (nI (xN xs (i + 2))), .int (nI (xN xs (i + 3)))]) (rest := []) ⟨hx, hb, hml, hown, hts⟩ (k_changeD l D ca n ad ct hI tt bb ee N dd sc sk rw0 fk ln g1 g2 g3 (xN xs (i + 1)) (xN xs (i + 2)) (xN xs (i + 3)) (xN_lt xs (i + 1)) (xN_lt xs (i + 2)) (xN_lt xs (i + 3))) mk_L_88 mo_D_change me_D_D_change_D mi_D mc_D_change (by decide +kernel) ⟨rfl, rfl⟩ ⟨Nat.le_of_ble_eq_true rfl, Nat.le_of_ble_eq_true rfl⟩ hN hK hJ g1 g3.1 rfl hl.1 rfl (Nat.le_of_ble_eq_true rfl) d_law_571 ⟨by omega, by omega⟩ (fun r ct1 H1 locs1 hp hJ => ?_)
  refine lv_aload_n hx hb d_law_574 rfl (lv_at hl 1 rfl) ?_
  refine l_rd hx hb hXs hbl hJ hl hL hi 1 rfl (by decide) d_law_575 d_law_576 d_law_577 d_law_578 d_law_579 ?_
  refine l_rd hx hb hXs hbl hJ hl hL hi 2 rfl (by decide) d_law_580 d_law_581 d_law_582 d_law_583 d_law_584 ?_
  refine l_rd hx hb hXs hbl hJ hl hL hi 3 rfl (by decide) d_law_585 d_law_586 d_law_587 d_law_588 d_law_589 ?_
  refine lm_ci (index := 92) (k := 3) (As := [.int (nI (xN xs (i + 1))), .int (nI (xN xs (i + 2))), .int (nI (xN xs (i + 3)))]) (rest := [.int r]) ⟨hx, hb, hml, hown, hts⟩ (k_changeM l D ca am ar hmI (xN xs (i + 1)) (xN xs (i + 2)) (xN xs (i + 3)) (xN_lt xs (i + 1)) (xN_lt xs (i + 2)) hl2 hbs (xN_lt xs (i + 3))) mk_L_92 mo_M_change me_M_M_change_M mi_M mc_M_change (by decide +kernel) ⟨rfl, rfl⟩ ⟨Nat.le_of_ble_eq_true rfl, Nat.le_of_ble_eq_true rfl⟩ hK hJ rfl hl.1 rfl (Nat.le_of_ble_eq_true rfl) d_law_590 ⟨by omega, by omega⟩ (fun r2 ar1 H2 locs2 hp2 hJ => ?_)
  have hE := E_change hCw hcX hsM hp hp2
  exact lv_icmp_eq (tgt := 624) hx hb d_law_593 rfl (fun _ => kk _ _ _ _ _ _ 0 0 hJ (hE.2) rfl (by decide) (by decide)) (fun h => absurd hE.1 h)

set_option maxHeartbeats 4000000 in
set_option maxRecDepth 100000 in
/-- save on the two sides -/
theorem lc_save (X : lX p s m c b L xs D ca) (hJ : lJ D ca s H locs n ad ct am ar) (hC : Cp ca n ad ct ar) (hl : lv_has ls 4 [(3, .int (nI i)), (2, .ref (am 0)), (1, .ref (ad 0)), (0, .ref b)]) (hi : i + 5 ≤ L) (hcc : cells + 3 ≤ room_1.cells) (hss : slots + 11 ≤ room_1.slots) (kk : lK p l e s m b below meth c Q D ca am (ad 0) cells slots ls) : W p l e room_1 s m #[Value.ref b] below meth c H locs cells slots Q (F0 m 598 ls []) := by
  obtain ⟨hx, hb, hml, hown, hts, hN, hK, hXs, hbl, hL⟩ := X
  obtain ⟨tt, bb, ee, N, dd, sc, sk, rw0, fk, ln, lo, st, sb, se, M, slo, hCw, hcX, hsM⟩ := hC
  obtain ⟨g1, g2, g3, g4, g5, g6, g7, g8⟩ := id hCw
  obtain ⟨x1, x2, x3, x4, x5, x6, x7, x8, x9, x10⟩ := id hcX
  have hI := lJ_dI hJ
  have hmI := lJ_mI hJ
  have hs1 := (cT_tT x1).1
  have hl2 := (cT_tT x1).2.1
  have hbs := fun i hi => (x2.1 i hi).1
  have his := fun i hi => (x2.1 i hi).2
  have ht : ar 0 0 ≤ 6 := hsM.1 ▸ hsM.2.1
  have hat : ar 6 (ar 0 0) < 90 := hsM.1 ▸ sM_lt hsM
  refine lv_aload_n hx hb d_law_598 rfl (lv_at hl 2 rfl) ?_
  refine ld_ci (index := 93) (k := 0) (As := []) (rest := []) ⟨hx, hb, hml, hown, hts⟩ (k_saveD l D ca n ad ct hI tt bb ee N dd sc sk rw0 fk ln g1 g2 g3) mk_L_93 mo_D_save me_D_D_save_D mi_D mc_D_save (by decide +kernel) ⟨rfl, rfl⟩ ⟨Nat.le_of_ble_eq_true rfl, Nat.le_of_ble_eq_true rfl⟩ hN hK hJ g1 g3.1 rfl hl.1 rfl (Nat.le_of_ble_eq_true rfl) d_law_599 ⟨by omega, by omega⟩ (fun r ct1 H1 locs1 hp hJ => ?_)
  refine lv_aload_n hx hb d_law_602 rfl (lv_at hl 1 rfl) ?_
  refine lm_ci (index := 96) (k := 0) (As := []) (rest := [.int r]) ⟨hx, hb, hml, hown, hts⟩ (k_saveM l D ca am ar hmI (cT_tT x1)) mk_L_96 mo_M_save me_M_M_save_M mi_M mc_M_save (by decide +kernel) ⟨rfl, rfl⟩ ⟨Nat.le_of_ble_eq_true rfl, Nat.le_of_ble_eq_true rfl⟩ hK hJ rfl hl.1 rfl (Nat.le_of_ble_eq_true rfl) d_law_603 ⟨by omega, by omega⟩ (fun r2 ar1 H2 locs2 hp2 hJ => ?_)
  have hE := E_save hCw hcX hsM hp hp2
  exact lv_icmp_eq (tgt := 624) hx hb d_law_606 rfl (fun _ => kk _ _ _ _ _ _ 0 0 hJ (hE.2) rfl (by decide) (by decide)) (fun h => absurd hE.1 h)

set_option maxHeartbeats 4000000 in
set_option maxRecDepth 100000 in
/-- extract on the two sides -/
theorem lc_extract (X : lX p s m c b L xs D ca) (hJ : lJ D ca s H locs n ad ct am ar) (hC : Cp ca n ad ct ar) (hl : lv_has ls 4 [(3, .int (nI i)), (2, .ref (am 0)), (1, .ref (ad 0)), (0, .ref b)]) (hi : i + 5 ≤ L) (hcc : cells + 3 ≤ room_1.cells) (hss : slots + 11 ≤ room_1.slots) (kk : lK p l e s m b below meth c Q D ca am (ad 0) cells slots ls) : W p l e room_1 s m #[Value.ref b] below meth c H locs cells slots Q (F0 m 611 ls []) := by
  obtain ⟨hx, hb, hml, hown, hts, hN, hK, hXs, hbl, hL⟩ := X
  obtain ⟨tt, bb, ee, N, dd, sc, sk, rw0, fk, ln, lo, st, sb, se, M, slo, hCw, hcX, hsM⟩ := hC
  obtain ⟨g1, g2, g3, g4, g5, g6, g7, g8⟩ := id hCw
  obtain ⟨x1, x2, x3, x4, x5, x6, x7, x8, x9, x10⟩ := id hcX
  have hI := lJ_dI hJ
  have hmI := lJ_mI hJ
  have hs1 := (cT_tT x1).1
  have hl2 := (cT_tT x1).2.1
  have hbs := fun i hi => (x2.1 i hi).1
  have his := fun i hi => (x2.1 i hi).2
  have ht : ar 0 0 ≤ 6 := hsM.1 ▸ hsM.2.1
  have hat : ar 6 (ar 0 0) < 90 := hsM.1 ▸ sM_lt hsM
  obtain ⟨V, hVe, hVb⟩ := P_V hcX
  obtain ⟨V1, hV1, hV1b⟩ := V_ex x1 x7
  refine lv_aload_n hx hb d_law_611 rfl (lv_at hl 2 rfl) ?_
  refine ld_ci (index := 97) (k := 0) (As := []) (rest := []) ⟨hx, hb, hml, hown, hts⟩ (k_extractD l D ca n ad ct hI tt bb ee N dd sc sk rw0 fk ln g1 g2 g3 g4 x1.2.1 (P_nm hcX) x8.2 x6 x7 V1 V hV1 hV1b hVe hVb) mk_L_97 mo_D_extract me_D_D_extract_D mi_D mc_D_extract (by decide +kernel) ⟨rfl, rfl⟩ ⟨Nat.le_of_ble_eq_true rfl, Nat.le_of_ble_eq_true rfl⟩ hN hK hJ g1 g3.1 rfl hl.1 rfl (Nat.le_of_ble_eq_true rfl) d_law_612 ⟨by omega, by omega⟩ (fun r ct1 H1 locs1 hp hJ => ?_)
  refine lv_aload_n hx hb d_law_615 rfl (lv_at hl 1 rfl) ?_
  refine lm_ci (index := 100) (k := 0) (As := []) (rest := [.int r]) ⟨hx, hb, hml, hown, hts⟩ (k_extractM l D ca am ar hmI (cT_tT x1) (cP_tN x4 x5 x6 x7) (by rw [← x8.1]; exact x8.2) hbs his) mk_L_100 mo_M_extract me_M_M_extract_M mi_M mc_M_extract (by decide +kernel) ⟨rfl, rfl⟩ ⟨Nat.le_of_ble_eq_true rfl, Nat.le_of_ble_eq_true rfl⟩ hK hJ rfl hl.1 rfl (Nat.le_of_ble_eq_true rfl) d_law_616 ⟨by omega, by omega⟩ (fun r2 ar1 H2 locs2 hp2 hJ => ?_)
  have hE := E_extract hCw hcX hsM hV1 hVe hp hp2
  exact lv_icmp_eq (tgt := 624) hx hb d_law_619 rfl (fun _ => kk _ _ _ _ _ _ 0 0 hJ (hE.2) rfl (by decide) (by decide)) (fun h => absurd hE.1 h)

end LC6
