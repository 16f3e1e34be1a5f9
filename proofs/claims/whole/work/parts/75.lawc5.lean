/-! the law's cases: hash, verify, challenge -/
section LC5
variable {p : Program} {l : Launch} {e : Env} {s : State} {m : MethodId} {below : List Frame} {meth : Method} {c : Code} {H : Heap} {locs : List Loc} {cells slots n b L i : Nat} {ls : Array Slot} {Q : State → Prop} {D : va_G} {ca : Nat → ClassId} {ad am : Nat → Nat} {ct : Nat → va_E} {ar : Nat → Nat → Nat} {xs : Nat → Int32}

set_option maxHeartbeats 4000000 in
set_option maxRecDepth 100000 in
/-- hash on the two sides -/
theorem lc_hash (X : lX p s m c b L xs D ca) (hJ : lJ D ca s H locs n ad ct am ar) (hC : Cp ca n ad ct ar) (hl : lv_has ls 4 [(3, .int (nI i)), (2, .ref (am 0)), (1, .ref (ad 0)), (0, .ref b)]) (hi : i + 5 ≤ L) (hcc : cells + 3 ≤ room_1.cells) (hss : slots + 11 ≤ room_1.slots) (kk : lK p l e s m b below meth c Q D ca am (ad 0) cells slots ls) : W p l e room_1 s m #[Value.ref b] below meth c H locs cells slots Q (F0 m 483 ls []) := by
  obtain ⟨hx, hb, hml, hown, hts, hN, hK, hXs, hbl, hL⟩ := X
  obtain ⟨tt, bb, ee, N, dd, sc, sk, rw0, fk, ln, lo, st, sb, se, M, slo, hCw, hcX, hsM⟩ := hC
  obtain ⟨g1, g2, g3, g4, g5, g6, g7, g8⟩ := id hCw
  obtain ⟨x1, x2, x3, x4, x5, x6, x7, x8, x9, x10⟩ := id hcX
  have hI := lJ_dI hJ
  have hmI := lJ_mI hJ
  have hs1 := (cT_tT x1).1
  have hl2 := (cT_tT x1).2.1
  have hbs := fun i hi => (x2.1 i hi).1
  have his := fun i hi => (x2.1 i hi).2
  have ht : ar 0 0 ≤ 6 := hsM.1 ▸ hsM.2.1
  have hat : ar 6 (ar 0 0) < 90 := hsM.1 ▸ sM_lt hsM
  refine lv_aload_n hx hb d_law_483 rfl (lv_at hl 2 rfl) ?_
  refine ld_cr (index := 72) (k := 0) (As := []) (rest := []) ⟨hx, hb, hml, hown, hts⟩ (k_hashD l D ca n ad ct tt bb ee N dd sc sk rw0 fk ln g1 g2 g3) mk_L_72 mo_D_hash me_D_D_hash_D mi_D mc_D_hash (by decide +kernel) ⟨rfl, rfl⟩ ⟨Nat.le_of_ble_eq_true rfl, Nat.le_of_ble_eq_true rfl⟩ hN hK hJ g1 g3.1 rfl hl.1 rfl (Nat.le_of_ble_eq_true rfl) d_law_484 ⟨by omega, by omega⟩ ?_
  refine lv_aload_n hx hb d_law_487 rfl (lv_at hl 1 rfl) ?_
  refine lm_cr (index := 75) (k := 0) (As := []) (rest := [.int _]) ⟨hx, hb, hml, hown, hts⟩ (k_hashM l D ca am ar hmI hs1 hl2 hbs) mk_L_75 mo_M_hash me_M_M_hash_M mi_M mc_M_hash (by decide +kernel) ⟨rfl, rfl⟩ ⟨Nat.le_of_ble_eq_true rfl, Nat.le_of_ble_eq_true rfl⟩ hK hJ rfl hl.1 rfl (Nat.le_of_ble_eq_true rfl) d_law_488 ⟨by omega, by omega⟩ ?_
  refine lv_icmp_eq (tgt := 624) hx hb d_law_491 rfl (fun _ => ?_) (fun h => absurd (E_hash hcX) h)
  exact kk _ _ _ _ _ _ 0 0 hJ (Cp_mk hCw hcX hsM) rfl (by decide) (by decide)

set_option maxHeartbeats 4000000 in
set_option maxRecDepth 100000 in
/-- verify on the two sides -/
theorem lc_verify (X : lX p s m c b L xs D ca) (hJ : lJ D ca s H locs n ad ct am ar) (hC : Cp ca n ad ct ar) (hl : lv_has ls 4 [(3, .int (nI i)), (2, .ref (am 0)), (1, .ref (ad 0)), (0, .ref b)]) (hi : i + 5 ≤ L) (hcc : cells + 3 ≤ room_1.cells) (hss : slots + 11 ≤ room_1.slots) (kk : lK p l e s m b below meth c Q D ca am (ad 0) cells slots ls) : W p l e room_1 s m #[Value.ref b] below meth c H locs cells slots Q (F0 m 496 ls []) := by
  obtain ⟨hx, hb, hml, hown, hts, hN, hK, hXs, hbl, hL⟩ := X
  obtain ⟨tt, bb, ee, N, dd, sc, sk, rw0, fk, ln, lo, st, sb, se, M, slo, hCw, hcX, hsM⟩ := hC
  obtain ⟨g1, g2, g3, g4, g5, g6, g7, g8⟩ := id hCw
  obtain ⟨x1, x2, x3, x4, x5, x6, x7, x8, x9, x10⟩ := id hcX
  have hI := lJ_dI hJ
  have hmI := lJ_mI hJ
  have hs1 := (cT_tT x1).1
  have hl2 := (cT_tT x1).2.1
  have hbs := fun i hi => (x2.1 i hi).1
  have his := fun i hi => (x2.1 i hi).2
  have ht : ar 0 0 ≤ 6 := hsM.1 ▸ hsM.2.1
  have hat : ar 6 (ar 0 0) < 90 := hsM.1 ▸ sM_lt hsM
  obtain ⟨V, hVe, hVb⟩ := P_V hcX
  refine lv_aload_n hx hb d_law_496 rfl (lv_at hl 2 rfl) ?_
  refine ld_cr (index := 76) (k := 0) (As := []) (rest := []) ⟨hx, hb, hml, hown, hts⟩ (k_verifyD l D ca n ad ct tt bb ee N dd sc sk rw0 fk ln g1 g2 g3 g4 x1.2.1 x6 (P_nm hcX) V hVe hVb) mk_L_76 mo_D_verify me_D_D_verify_D mi_D mc_D_verify (by decide +kernel) ⟨rfl, rfl⟩ ⟨Nat.le_of_ble_eq_true rfl, Nat.le_of_ble_eq_true rfl⟩ hN hK hJ g1 g3.1 rfl hl.1 rfl (Nat.le_of_ble_eq_true rfl) d_law_497 ⟨by omega, by omega⟩ ?_
  refine lv_aload_n hx hb d_law_500 rfl (lv_at hl 1 rfl) ?_
  refine lm_ci (index := 79) (k := 0) (As := []) (rest := [.int _]) ⟨hx, hb, hml, hown, hts⟩ (k_verifyM l D ca am ar hmI (cT_tT x1) (cP_tN x4 x5 x6 x7) hbs his) mk_L_79 mo_M_verify me_M_M_verify_M mi_M mc_M_verify (by decide +kernel) ⟨rfl, rfl⟩ ⟨Nat.le_of_ble_eq_true rfl, Nat.le_of_ble_eq_true rfl⟩ hK hJ rfl hl.1 rfl (Nat.le_of_ble_eq_true rfl) d_law_501 ⟨by omega, by omega⟩ (fun r2 ar1 H2 locs2 hp2 hJ => ?_)
  have hE := E_verify hCw hcX hsM hVe hp2
  exact lv_icmp_eq (tgt := 624) hx hb d_law_504 rfl (fun _ => kk _ _ _ _ _ _ 0 0 hJ (hE.2) rfl (by decide) (by decide)) (fun h => absurd hE.1 h)

set_option maxHeartbeats 4000000 in
set_option maxRecDepth 100000 in
/-- challenge on the two sides -/
theorem lc_challenge (X : lX p s m c b L xs D ca) (hJ : lJ D ca s H locs n ad ct am ar) (hC : Cp ca n ad ct ar) (hl : lv_has ls 4 [(3, .int (nI i)), (2, .ref (am 0)), (1, .ref (ad 0)), (0, .ref b)]) (hi : i + 5 ≤ L) (hcc : cells + 3 ≤ room_1.cells) (hss : slots + 11 ≤ room_1.slots) (kk : lK p l e s m b below meth c Q D ca am (ad 0) cells slots ls) : W p l e room_1 s m #[Value.ref b] below meth c H locs cells slots Q (F0 m 509 ls []) := by
  obtain ⟨hx, hb, hml, hown, hts, hN, hK, hXs, hbl, hL⟩ := X
  obtain ⟨tt, bb, ee, N, dd, sc, sk, rw0, fk, ln, lo, st, sb, se, M, slo, hCw, hcX, hsM⟩ := hC
  obtain ⟨g1, g2, g3, g4, g5, g6, g7, g8⟩ := id hCw
  obtain ⟨x1, x2, x3, x4, x5, x6, x7, x8, x9, x10⟩ := id hcX
  have hI := lJ_dI hJ
  have hmI := lJ_mI hJ
  have hs1 := (cT_tT x1).1
  have hl2 := (cT_tT x1).2.1
  have hbs := fun i hi => (x2.1 i hi).1
  have his := fun i hi => (x2.1 i hi).2
  have ht : ar 0 0 ≤ 6 := hsM.1 ▸ hsM.2.1
  have hat : ar 6 (ar 0 0) < 90 := hsM.1 ▸ sM_lt hsM
  obtain ⟨V, hVe, hVb⟩ := P_V hcX
  refine lv_aload_n hx hb d_law_509 rfl (lv_at hl 2 rfl) ?_
  refine ld_cr (index := 80) (k := 0) (As := []) (rest := []) ⟨hx, hb, hml, hown, hts⟩ (k_challengeD l D ca n ad ct tt bb ee N dd sc sk rw0 fk ln g1 g2 g3 g4 x1.2.1 (P_nm hcX) V hVe hVb) mk_L_80 mo_D_challenge me_D_D_challenge_D mi_D mc_D_challenge (by decide +kernel) ⟨rfl, rfl⟩ ⟨Nat.le_of_ble_eq_true rfl, Nat.le_of_ble_eq_true rfl⟩ hN hK hJ g1 g3.1 rfl hl.1 rfl (Nat.le_of_ble_eq_true rfl) d_law_510 ⟨by omega, by omega⟩ ?_
  refine lv_aload_n hx hb d_law_513 rfl (lv_at hl 1 rfl) ?_
  refine lm_ci (index := 83) (k := 0) (As := []) (rest := [.int _]) ⟨hx, hb, hml, hown, hts⟩ (k_challengeM l D ca am ar hmI (cT_tT x1) (cP_tN x4 x5 x6 x7)) mk_L_83 mo_M_challenge me_M_M_challenge_M mi_M mc_M_challenge (by decide +kernel) ⟨rfl, rfl⟩ ⟨Nat.le_of_ble_eq_true rfl, Nat.le_of_ble_eq_true rfl⟩ hK hJ rfl hl.1 rfl (Nat.le_of_ble_eq_true rfl) d_law_514 ⟨by omega, by omega⟩ (fun r2 ar1 H2 locs2 hp2 hJ => ?_)
  have hE := E_challenge hCw hcX hsM hVe hp2
  exact lv_icmp_eq (tgt := 624) hx hb d_law_517 rfl (fun _ => kk _ _ _ _ _ _ 0 0 hJ (hE.2) rfl (by decide) (by decide)) (fun h => absurd hE.1 h)

end LC5
