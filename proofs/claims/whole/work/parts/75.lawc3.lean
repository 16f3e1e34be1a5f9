/-! the law's cases: witness, known, commit -/
section LC3
variable {p : Program} {l : Launch} {e : Env} {s : State} {m : MethodId} {below : List Frame} {meth : Method} {c : Code} {H : Heap} {locs : List Loc} {cells slots n b L i : Nat} {ls : Array Slot} {Q : State → Prop} {D : va_G} {ca : Nat → ClassId} {ad am : Nat → Nat} {ct : Nat → va_E} {ar : Nat → Nat → Nat} {xs : Nat → Int32}

set_option maxHeartbeats 4000000 in
set_option maxRecDepth 100000 in
/-- witness on the two sides -/
theorem lc_witness (X : lX p s m c b L xs D ca) (hJ : lJ D ca s H locs n ad ct am ar) (hC : Cp ca n ad ct ar) (hl : lv_has ls 4 [(3, .int (nI i)), (2, .ref (am 0)), (1, .ref (ad 0)), (0, .ref b)]) (hi : i + 5 ≤ L) (hcc : cells + 3 ≤ room_1.cells) (hss : slots + 11 ≤ room_1.slots) (kk : lK p l e s m b below meth c Q D ca am (ad 0) cells slots ls) : W p l e room_1 s m #[Value.ref b] below meth c H locs cells slots Q (F0 m 345 ls []) := by
  obtain ⟨hx, hb, hml, hown, hts, hN, hK, hXs, hbl, hL⟩ := X
  obtain ⟨tt, bb, ee, N, dd, sc, sk, rw0, fk, ln, lo, st, sb, se, M, slo, hCw, hcX, hsM⟩ := hC
  obtain ⟨g1, g2, g3, g4, g5, g6, g7, g8⟩ := id hCw
  obtain ⟨x1, x2, x3, x4, x5, x6, x7, x8, x9, x10⟩ := id hcX
  have hI := lJ_dI hJ
  have hmI := lJ_mI hJ
  have hs1 := (cT_tT x1).1
  have hl2 := (cT_tT x1).2.1
  have hbs := fun i hi => (x2.1 i hi).1
  have his := fun i hi => (x2.1 i hi).2
  have ht : ar 0 0 ≤ 6 := hsM.1 ▸ hsM.2.1
  have hat : ar 6 (ar 0 0) < 90 := hsM.1 ▸ sM_lt hsM
  refine lv_aload_n hx hb d_law_345 rfl (lv_at hl 2 rfl) ?_
  refine l_rd hx hb hXs hbl hJ hl hL hi 1 rfl (by decide) d_law_346 d_law_347 d_law_348 d_law_349 d_law_350 ?_
  refine ld_cr (index := 47) (k := 1) (As := [.int (nI (xN xs (i + 1)))]) (rest := []) ⟨hx, hb, hml, hown, hts⟩ (k_witnessD l D ca n ad ct tt bb ee N dd sc sk rw0 fk ln g1 g2 g3 (xN xs (i + 1)) (xN_lt xs (i + 1)) (P_tl hcX)) mk_L_47 mo_D_witness me_D_D_witness_D mi_D mc_D_witness (by decide +kernel) ⟨rfl, rfl⟩ ⟨Nat.le_of_ble_eq_true rfl, Nat.le_of_ble_eq_true rfl⟩ hN hK hJ g1 g3.1 rfl hl.1 rfl (Nat.le_of_ble_eq_true rfl) d_law_351 ⟨by omega, by omega⟩ ?_
  refine lv_aload_n hx hb d_law_354 rfl (lv_at hl 1 rfl) ?_
  refine l_rd hx hb hXs hbl hJ hl hL hi 1 rfl (by decide) d_law_355 d_law_356 d_law_357 d_law_358 d_law_359 ?_
  refine lm_cr (index := 51) (k := 1) (As := [.int (nI (xN xs (i + 1)))]) (rest := [.int _]) ⟨hx, hb, hml, hown, hts⟩ (k_witnessM l D ca am ar (xN xs (i + 1)) (xN_lt xs (i + 1)) hs1 hl2 x3.1) mk_L_51 mo_M_witness me_M_M_witness_M mi_M mc_M_witness (by decide +kernel) ⟨rfl, rfl⟩ ⟨Nat.le_of_ble_eq_true rfl, Nat.le_of_ble_eq_true rfl⟩ hK hJ rfl hl.1 rfl (Nat.le_of_ble_eq_true rfl) d_law_360 ⟨by omega, by omega⟩ ?_
  refine lv_icmp_eq (tgt := 624) hx hb d_law_363 rfl (fun _ => ?_) (fun h => absurd (E_witness hcX _) h)
  exact kk _ _ _ _ _ _ 0 0 hJ (Cp_mk hCw hcX hsM) rfl (by decide) (by decide)

set_option maxHeartbeats 4000000 in
set_option maxRecDepth 100000 in
/-- known on the two sides -/
theorem lc_known (X : lX p s m c b L xs D ca) (hJ : lJ D ca s H locs n ad ct am ar) (hC : Cp ca n ad ct ar) (hl : lv_has ls 4 [(3, .int (nI i)), (2, .ref (am 0)), (1, .ref (ad 0)), (0, .ref b)]) (hi : i + 5 ≤ L) (hcc : cells + 3 ≤ room_1.cells) (hss : slots + 11 ≤ room_1.slots) (kk : lK p l e s m b below meth c Q D ca am (ad 0) cells slots ls) : W p l e room_1 s m #[Value.ref b] below meth c H locs cells slots Q (F0 m 368 ls []) := by
  obtain ⟨hx, hb, hml, hown, hts, hN, hK, hXs, hbl, hL⟩ := X
  obtain ⟨tt, bb, ee, N, dd, sc, sk, rw0, fk, ln, lo, st, sb, se, M, slo, hCw, hcX, hsM⟩ := hC
  obtain ⟨g1, g2, g3, g4, g5, g6, g7, g8⟩ := id hCw
  obtain ⟨x1, x2, x3, x4, x5, x6, x7, x8, x9, x10⟩ := id hcX
  have hI := lJ_dI hJ
  have hmI := lJ_mI hJ
  have hs1 := (cT_tT x1).1
  have hl2 := (cT_tT x1).2.1
  have hbs := fun i hi => (x2.1 i hi).1
  have his := fun i hi => (x2.1 i hi).2
  have ht : ar 0 0 ≤ 6 := hsM.1 ▸ hsM.2.1
  have hat : ar 6 (ar 0 0) < 90 := hsM.1 ▸ sM_lt hsM
  obtain ⟨K, hKe, hK2⟩ := K_ex x1 x3
  refine lv_aload_n hx hb d_law_368 rfl (lv_at hl 2 rfl) ?_
  refine ld_cr (index := 52) (k := 0) (As := []) (rest := []) ⟨hx, hb, hml, hown, hts⟩ (k_knownD l D ca n ad ct tt bb ee N dd sc sk rw0 fk ln g1 g2 g3 g4 x1.2.1 K hKe hK2) mk_L_52 mo_D_known me_D_D_known_D mi_D mc_D_known (by decide +kernel) ⟨rfl, rfl⟩ ⟨Nat.le_of_ble_eq_true rfl, Nat.le_of_ble_eq_true rfl⟩ hN hK hJ g1 g3.1 rfl hl.1 rfl (Nat.le_of_ble_eq_true rfl) d_law_369 ⟨by omega, by omega⟩ ?_
  refine lv_aload_n hx hb d_law_372 rfl (lv_at hl 1 rfl) ?_
  refine lm_ci (index := 55) (k := 0) (As := []) (rest := [.int _]) ⟨hx, hb, hml, hown, hts⟩ (k_knownM l D ca am ar hmI (cT_tT x1) x3.1) mk_L_55 mo_M_known me_M_M_known_M mi_M mc_M_known (by decide +kernel) ⟨rfl, rfl⟩ ⟨Nat.le_of_ble_eq_true rfl, Nat.le_of_ble_eq_true rfl⟩ hK hJ rfl hl.1 rfl (Nat.le_of_ble_eq_true rfl) d_law_373 ⟨by omega, by omega⟩ (fun r2 ar1 H2 locs2 hp2 hJ => ?_)
  have hE := E_known hCw hcX hsM hKe hp2
  exact lv_icmp_eq (tgt := 624) hx hb d_law_376 rfl (fun _ => kk _ _ _ _ _ _ 0 0 hJ (hE.2) rfl (by decide) (by decide)) (fun h => absurd hE.1 h)

set_option maxHeartbeats 4000000 in
set_option maxRecDepth 100000 in
/-- commit on the two sides -/
theorem lc_commit (X : lX p s m c b L xs D ca) (hJ : lJ D ca s H locs n ad ct am ar) (hC : Cp ca n ad ct ar) (hl : lv_has ls 4 [(3, .int (nI i)), (2, .ref (am 0)), (1, .ref (ad 0)), (0, .ref b)]) (hi : i + 5 ≤ L) (hcc : cells + 3 ≤ room_1.cells) (hss : slots + 11 ≤ room_1.slots) (kk : lK p l e s m b below meth c Q D ca am (ad 0) cells slots ls) : W p l e room_1 s m #[Value.ref b] below meth c H locs cells slots Q (F0 m 381 ls []) := by
  obtain ⟨hx, hb, hml, hown, hts, hN, hK, hXs, hbl, hL⟩ := X
  obtain ⟨tt, bb, ee, N, dd, sc, sk, rw0, fk, ln, lo, st, sb, se, M, slo, hCw, hcX, hsM⟩ := hC
  obtain ⟨g1, g2, g3, g4, g5, g6, g7, g8⟩ := id hCw
  obtain ⟨x1, x2, x3, x4, x5, x6, x7, x8, x9, x10⟩ := id hcX
  have hI := lJ_dI hJ
  have hmI := lJ_mI hJ
  have hs1 := (cT_tT x1).1
  have hl2 := (cT_tT x1).2.1
  have hbs := fun i hi => (x2.1 i hi).1
  have his := fun i hi => (x2.1 i hi).2
  have ht : ar 0 0 ≤ 6 := hsM.1 ▸ hsM.2.1
  have hat : ar 6 (ar 0 0) < 90 := hsM.1 ▸ sM_lt hsM
  obtain ⟨K, hKe, hK2⟩ := K_ex x1 x3
  refine lv_aload_n hx hb d_law_381 rfl (lv_at hl 2 rfl) ?_
  refine l_rd hx hb hXs hbl hJ hl hL hi 1 rfl (by decide) d_law_382 d_law_383 d_law_384 d_law_385 d_law_386 ?_
  refine ld_ci (index := 56) (k := 1) (As := [.int (nI (xN xs (i + 1)))]) (rest := []) ⟨hx, hb, hml, hown, hts⟩ (k_commitD l D ca n ad ct hI tt bb ee N dd sc sk rw0 fk ln g1 g2 g3 g4 x1.2.1 K hKe hK2 (P_nm hcX) (xN xs (i + 1))) mk_L_56 mo_D_commit me_D_D_commit_D mi_D mc_D_commit (by decide +kernel) ⟨rfl, rfl⟩ ⟨Nat.le_of_ble_eq_true rfl, Nat.le_of_ble_eq_true rfl⟩ hN hK hJ g1 g3.1 rfl hl.1 rfl (Nat.le_of_ble_eq_true rfl) d_law_387 ⟨by omega, by omega⟩ (fun r ct1 H1 locs1 hp hJ => ?_)
  refine lv_aload_n hx hb d_law_390 rfl (lv_at hl 1 rfl) ?_
  refine l_rd hx hb hXs hbl hJ hl hL hi 1 rfl (by decide) d_law_391 d_law_392 d_law_393 d_law_394 d_law_395 ?_
  refine lm_ci (index := 59) (k := 1) (As := [.int (nI (xN xs (i + 1)))]) (rest := [.int r]) ⟨hx, hb, hml, hown, hts⟩ (k_commitM l D ca am ar hmI (xN xs (i + 1)) lo (cT_tT x1) x3.1 (cT_tI x1) hbs his) mk_L_59 mo_M_commit me_M_M_commit_M mi_M mc_M_commit (by decide +kernel) ⟨rfl, rfl⟩ ⟨Nat.le_of_ble_eq_true rfl, Nat.le_of_ble_eq_true rfl⟩ hK hJ rfl hl.1 rfl (Nat.le_of_ble_eq_true rfl) d_law_396 ⟨by omega, by omega⟩ (fun r2 ar1 H2 locs2 hp2 hJ => ?_)
  have hE := E_commit hCw hcX hsM hKe hK2 hp hp2
  exact lv_icmp_eq (tgt := 624) hx hb d_law_399 rfl (fun _ => kk _ _ _ _ _ _ 0 0 hJ (hE.2) rfl (by decide) (by decide)) (fun h => absurd hE.1 h)

end LC3
